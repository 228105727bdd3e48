/-! Plain mathematics: as many notes are right in the class as in the reference. -/
def q9_Rb (Y : k9_Mem) (Z : Nat → Int32) (n s : Nat) : Bool := (m9_b (Y 81 s) n && m9_b (Z (386 + s)) n) && decide (m9_ef (Y 82) n s = m9_ef (fun j => Z (482 + j)) n s)
theorem q9_tl {Z : Nat → Int32} {n i : Nat} (hn : n < 20) : m9_tl Z n i = if m9_b (Z (386 + i)) n then nI (m9_ef (fun j => Z (482 + j)) n i) else -1 := by
  unfold m9_tl
  cases c : m9_b (Z (386 + i)) n
  · rw [if_pos ((q9_at0 _ (by omega)).mpr c)]; rfl
  · rw [if_neg (fun z => by rw [(q9_at0 _ (by omega)).mp z] at c; cases c)]; rfl
theorem q9_nI_m1 {a : Nat} (h : a < 2147483648) : nI a ≠ -1 := fun z => by
  have := (fa_eq _ _).mp z
  rw [nI_toInt h, show (-1 : Int32).toInt = -1 from rfl] at this
  omega
/-- a place of what is laid -/
theorem q9_pl_c84 (S : k9_Mem) (B : Nat) {k : Nat} (hk : k < 1920) (hb : m9_bg (m9_y2 S B 21 81) k = true) : m9_lay S B 84 (fb_ct (m9_bg (m9_y2 S B 21 81)) k) = nI (k % 20) ∧ m9_lay S B 85 (fb_ct (m9_bg (m9_y2 S B 21 81)) k) = nI (k / 20) ∧ m9_lay S B 86 (fb_ct (m9_bg (m9_y2 S B 21 81)) k) = nI (m9_ef (m9_y2 S B 21 82) (k % 20) (k / 20)) := q9_y3 _ 1920 k hk hb
theorem q9_irP (S : k9_Mem) (B : Nat) (h : q9_tok (S 77)) {k : Nat} (hk : k < 1920) (hb : m9_bg (m9_y2 S B 21 81) k = true) : m9_irP (m9_lay S B) (fb_ct (m9_bg (m9_y2 S B 21 81)) k) ↔ q9_Rb (m9_y2 S B 21) (S 77) (k % 20) (k / 20) = true := by
  obtain ⟨h1, h2, h3⟩ := q9_pl_c84 S B hk hb
  have hb2 := hb
  rw [q9_bg] at hb2
  have he := q9_Yef S B (show k / 20 < 96 by omega) (show k % 20 < 21 by omega) hb2
  unfold m9_irP q9_Rb
  rw [h1, h2, h3, m9_cl (by omega), m9_cl (by omega), m9_lay_77, q9_tl (by omega), hb2]
  cases c : m9_b (S 77 (386 + k / 20)) (k % 20)
  · simp only [Bool.and_false, Bool.false_and]
    constructor
    · intro z
      exact absurd z.symm (q9_nI_m1 (by omega))
    · intro z; cases z
  · simp only [if_true, Bool.and_true, Bool.true_and, decide_eq_true_iff]
    obtain ⟨e, e1, e2, e3⟩ := h (k % 20) (by omega) (k / 20) (by omega) c
    have ht := (q9_ef_of (r := fun j => S 77 (482 + j)) (n := k % 20) (by omega) e1 e2 e3).1
    rw [m9_eq (by omega) (by omega)]
    exact ⟨Eq.symm, Eq.symm⟩
theorem q9_rn (S : k9_Mem) (B : Nat) (h : q9_tok (S 77)) : m9_rn S B = nI (fb_sm (fun n => fb_ct (fun s => q9_Rb (m9_y2 S B 21) (S 77) n s) 96) 20) := by
  unfold m9_rn m9_rig m9_C
  rw [q9_places (p := m9_bg (m9_y2 S B 21 81)) (h := fun k => if q9_Rb (m9_y2 S B 21) (S 77) (k % 20) (k / 20) then 1 else 0) 1920 (fun k hk hb => q9_bi _ _ (q9_irP S B h hk hb))]
  congr 1
  rw [← q9_swap (fun s n => q9_Rb (m9_y2 S B 21) (S 77) n s) 20 96, show (1920 : Nat) = 20 * 96 from rfl, q9_blocks _ 20 96]
  apply fb_sm_cong
  intro s _
  rw [← q9_sm1]
  apply fb_sm_cong
  intro n hn
  rw [q9_bg, show (20 * s + n) / 20 = s from by omega, show (20 * s + n) % 20 = n from by omega]
  show (if m9_b (m9_y2 S B 21 81 s) n = true then (if q9_Rb (m9_y2 S B 21) (S 77) n s = true then 1 else 0) else 0) = _
  cases c : m9_b (m9_y2 S B 21 81 s) n
  · have : q9_Rb (m9_y2 S B 21) (S 77) n s = false := by
      unfold q9_Rb
      rw [c]; rfl
    rw [this]; rfl
  · rfl
/-- what the class counts as right -/
def q9_T (S E S' E' : Nat → Int32) (n s : Nat) : Bool := m9_b (((m9_tg S E S' E' s ||| ((S s &&& S' s) &&& 2097150)) &&& E s) &&& E' s) (n + 1)
theorem q9_Tb (S E S' E' : Nat → Int32) {n s : Nat} (hn : n < 20) : q9_T S E S' E' n s = true ↔ (∃ a, a ≤ s ∧ (m9_b (S a) (n + 1) = true ∧ m9_b (S' a) (n + 1) = true) ∧ ∀ j, a ≤ j → j < s → ¬ m9_b (E j) (n + 1) = true ∧ ¬ m9_b (E' j) (n + 1) = true) ∧ m9_b (E s) (n + 1) = true ∧ m9_b (E' s) (n + 1) = true := by
  unfold q9_T
  rw [m9_b_and, m9_b_and, m9_b_or, m9_b_and, m9_b_and, q9_mask (by omega), Bool.and_eq_true, Bool.and_eq_true, Bool.or_eq_true, q9_tg S E S' E' (show n + 1 < 32 by omega) s, Bool.and_eq_true, Bool.and_eq_true, decide_eq_true_iff]
  constructor
  · rintro ⟨⟨h1, h2⟩, h3⟩
    refine ⟨?_, h2, h3⟩
    rcases h1 with ⟨_, a, a1, a2, a3⟩ | ⟨a2, _⟩
    · exact ⟨a, by omega, a2, a3⟩
    · exact ⟨s, Nat.le_refl _, a2, fun j x y => by omega⟩
  · rintro ⟨⟨a, a1, a2, a3⟩, h2, h3⟩
    refine ⟨⟨?_, h2⟩, h3⟩
    by_cases c : a = s
    · subst c
      exact Or.inr ⟨a2, by omega, by omega⟩
    · exact Or.inl ⟨⟨by omega, by omega⟩, a, by omega, a2, a3⟩
theorem q9_sn (S E S' E' : Nat → Int32) (hS : ∀ s, s < 96 → ∀ v, 21 ≤ v → m9_b (E s) v = false) (hS0 : ∀ s, s < 96 → m9_b (E' s) 0 = false) : ∀ m, m ≤ 96 → m9_sn S E S' E' m = nI (fb_sm (fun s => fb_ct (fun n => q9_T S E S' E' n s) 20) m)
  | 0, _ => rfl
  | m + 1, hm => by
    show m9_sn S E S' E' m + m9_bc (((m9_tg S E S' E' m ||| ((S m &&& S' m) &&& 2097150)) &&& E m) &&& E' m) = _
    rw [q9_sn S E S' E' hS hS0 m (by omega), q9_bc, q9_ct20 (p := m9_b (((m9_tg S E S' E' m ||| ((S m &&& S' m) &&& 2097150)) &&& E m) &&& E' m)) (by rw [m9_b_and, hS0 m (by omega), Bool.and_false]) (fun i hi => by rw [m9_b_and, m9_b_and, hS m (by omega) i hi, Bool.and_false, Bool.false_and]), nI_add]
    rfl
/-- for each note: as many -/
theorem q9_TR {Y : k9_Mem} {Z S E S' E' : Nat → Int32} {n : Nat} (hn : n < 20)
    (hS : ∀ s, s < 96 → m9_b (S s) (n + 1) = m9_b (Y 81 s) n) (hE : ∀ s, s < 96 → m9_b (E s) (n + 1) = m9_b (Y 82 s) n)
    (hS' : ∀ s, s < 96 → m9_b (S' s) (n + 1) = m9_b (Z (386 + s)) n) (hE' : ∀ s, s < 96 → m9_b (E' s) (n + 1) = m9_b (Z (482 + s)) n)
    (W1 : ∀ s, s < 96 → m9_b (Y 81 s) n = true → m9_ef (Y 82) n s < 96)
    (W2 : ∀ a b, a < b → b < 96 → m9_b (Y 81 a) n = true → m9_b (Y 81 b) n = true → ∃ e, a ≤ e ∧ e < b ∧ m9_b (Y 82 e) n = true) :
    fb_ct (fun s => q9_T S E S' E' n s) 96 = fb_ct (fun s => q9_Rb Y Z n s) 96 := by
  have hn32 : n < 32 := by omega
  have Rb : ∀ a, q9_Rb Y Z n a = true → m9_b (Y 81 a) n = true ∧ m9_b (Z (386 + a)) n = true ∧ m9_ef (Y 82) n a = m9_ef (fun j => Z (482 + j)) n a := fun a h => by
    unfold q9_Rb at h
    rw [Bool.and_eq_true, Bool.and_eq_true, decide_eq_true_iff] at h
    exact ⟨h.1.1, h.1.2, h.2⟩
  refine q9_bij (e := fun a => m9_ef (Y 82) n a) (fun a ha q => ?_) (fun a b ha hb qa qb z => ?_) (fun s hs p => ?_)
  · obtain ⟨r1, r2, r3⟩ := Rb a q
    have l1 := W1 a ha r1
    refine ⟨l1, (q9_Tb S E S' E' hn).mpr ⟨⟨a, m9_ef_ge _ _ _, ⟨by rw [hS a ha]; exact r1, by rw [hS' a ha]; exact r2⟩, fun j j1 j2 => ⟨?_, ?_⟩⟩, ?_, ?_⟩⟩
    · rw [hE j (by omega)]
      exact q9_tn ((q9_at0 _ hn32).mp (m9_ef_no j j1 j2))
    · rw [hE' j (by omega)]
      rw [r3] at j2
      exact q9_tn ((q9_at0 _ hn32).mp (m9_ef_no (r := fun j => Z (482 + j)) j j1 j2))
    · rw [hE _ l1]
      exact (q9_at _ hn32).mp (m9_ef_yes l1)
    · rw [hE' _ l1]
      rw [r3] at l1 ⊢
      exact (q9_at _ hn32).mp (m9_ef_yes (r := fun j => Z (482 + j)) l1)
  · have z : m9_ef (Y 82) n a = m9_ef (Y 82) n b := z
    have key : ∀ x y, x < y → y < 96 → m9_b (Y 81 x) n = true → m9_b (Y 81 y) n = true → m9_ef (Y 82) n x = m9_ef (Y 82) n y → False := fun x y hxy hy qx qy zz => by
      obtain ⟨e, e1, e2, e3⟩ := W2 x y hxy hy qx qy
      have := (q9_ef_of hn32 e1 (by omega) e3).1
      have := m9_ef_ge (Y 82) n y
      omega
    rcases Nat.lt_trichotomy a b with q | q | q
    · exact (key a b q hb (Rb a qa).1 (Rb b qb).1 z).elim
    · exact q
    · exact (key b a q ha (Rb b qb).1 (Rb a qa).1 z.symm).elim
  · obtain ⟨⟨a, a1, ⟨a2, a3⟩, a4⟩, p2, p3⟩ := (q9_Tb S E S' E' hn).mp p
    rw [hE s hs] at p2
    rw [hE' s hs] at p3
    rw [hS a (by omega)] at a2
    rw [hS' a (by omega)] at a3
    have x1 : m9_ef (Y 82) n a = s := q9_ef_eq hn32 a1 hs p2 (fun j j1 j2 => q9_nt (by rw [← hE j (by omega)]; exact (a4 j j1 j2).1))
    have x2 : m9_ef (fun j => Z (482 + j)) n a = s := q9_ef_eq (r := fun j => Z (482 + j)) hn32 a1 hs p3 (fun j j1 j2 => q9_nt (by rw [← hE' j (by omega)]; exact (a4 j j1 j2).2))
    refine ⟨a, by omega, ?_, x1⟩
    unfold q9_Rb
    rw [a2, a3, x1, x2]
    simp
/-- the tune of the class (starts and ends) is that of the reference's row -/
def q9_tun (S' E' Z : Nat → Int32) : Prop := ∀ s, s < 96 → (∀ n, n < 20 → m9_b (S' s) (n + 1) = m9_b (Z (386 + s)) n ∧ m9_b (E' s) (n + 1) = m9_b (Z (482 + s)) n) ∧ (m9_b (S' s) 0 = false ∧ m9_b (E' s) 0 = false) ∧ (∀ v, 21 ≤ v → m9_b (S' s) v = false ∧ m9_b (E' s) v = false)
/-- a row of the class is read as the reference reads its state -/
def q9_rd (r Z : Nat → Int32) : Prop := ∀ s, s < 96 → (∀ k, k ≤ 20 → m9_b (r s) (q9_cv k) = m9_b (m9_zr Z s 21) k) ∧ (∀ v, 21 ≤ v → m9_b (r s) v = false)
theorem q9_rd_p {r Z : Nat → Int32} (h : q9_rd r Z) {k : Nat} (hk : k ≤ 20) : ∀ i, i < 96 → (fun i => m9_b (r i) (q9_cv k)) i = q9_zp Z k i := fun i hi => (h i hi).1 k hk
theorem q9_rdS {r : Nat → Int32} (S : k9_Mem) {B : Nat} (h : q9_rd r (S 77)) {s k : Nat} (hs : s < 96) (hk : k ≤ 20) : m9_b (m9_lkS r B s) (q9_cv k) = m9_b (m9_y2 S B 21 81 s) k := by
  rw [Bool.eq_iff_iff, q9_lkS r B s (by have := q9_cv_lt hk; omega), (q9_Y S B hs (by omega)).1]
  exact q9_st_c (q9_rd_p h hk) hs
theorem q9_rdE {r : Nat → Int32} (S : k9_Mem) {B : Nat} (h : q9_rd r (S 77)) {s k : Nat} (hs : s < 96) (hk : k ≤ 20) : m9_b (m9_lkE r B s) (q9_cv k) = m9_b (m9_y2 S B 21 82 s) k := by
  rw [Bool.eq_iff_iff, q9_lkE r B s (by have := q9_cv_lt hk; omega), (q9_Y S B hs (by omega)).2.1]
  exact q9_en_c (q9_rd_p h hk) hs
theorem q9_cvn {n : Nat} (h : n < 20) : q9_cv n = n + 1 := if_neg (by omega)
theorem q9_lk_out {r : Nat → Int32} {B s v : Nat} (h : m9_b (r s) v = false) : m9_b (m9_lkS r B s) v = false ∧ m9_b (m9_lkE r B s) v = false := by
  unfold m9_lkS m9_lkE
  rw [m9_b_and, m9_b_and, h]
  exact ⟨rfl, rfl⟩
theorem q9_rights {r S' E' : Nat → Int32} (S : k9_Mem) {B : Nat} (h : q9_rd r (S 77)) (ht : q9_tun S' E' (S 77)) (hk : q9_tok (S 77)) : m9_rt r B S' E' = m9_rn S B := by
  unfold m9_rt
  rw [q9_sn _ _ _ _ (fun s hs v hv => (q9_lk_out ((h s hs).2 v hv)).2) (fun s hs => (ht s hs).2.1.2) 96 (Nat.le_refl _), q9_rn S B hk, q9_swap (fun s n => q9_T (m9_lkS r B) (m9_lkE r B) S' E' n s) 20 96]
  refine congrArg nI ?_
  apply fb_sm_cong
  intro n hn
  refine q9_TR hn (fun s hs => ?_) (fun s hs => ?_) (fun s hs => ((ht s hs).1 n hn).1) (fun s hs => ((ht s hs).1 n hn).2) (fun s hs q => q9_Yef S B hs (by omega) q) (fun a b hab hb qa qb => ?_)
  · rw [← q9_cvn hn]; exact q9_rdS S h hs (by omega)
  · rw [← q9_cvn hn]; exact q9_rdE S h hs (by omega)
  · obtain ⟨e, e1, e2, e3⟩ := q9_W2 hab hb ((q9_Y S B (by omega) (by omega)).1.mp qa) ((q9_Y S B hb (by omega)).1.mp qb)
    exact ⟨e, e1, e2, (q9_Y S B (by omega) (by omega)).2.1.mpr e3⟩
