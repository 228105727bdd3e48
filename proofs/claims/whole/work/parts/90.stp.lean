/-! Plain mathematics: numbers of steps. -/
theorem q9_satb (N : k9_Mem) (i b : Nat) : ∀ C, m9_b (m9_sat N i C) b = true ↔ ∃ c, c < C ∧ (¬ nI i < N 85 c ∧ ¬ m9_stc N c < nI i) ∧ m9_b ((1 : Int32) <<< (N 84 c &&& 31)) b = true
  | 0 => by
    rw [show m9_sat N i 0 = 0 from rfl, m9_b_0]
    constructor
    · intro h; cases h
    · rintro ⟨c, h, _⟩; omega
  | C + 1 => by
    show m9_b (m9_sat N i C ||| (if ¬ nI i < N 85 C ∧ ¬ m9_stc N C < nI i then (1 : Int32) <<< (N 84 C &&& 31) else 0)) b = true ↔ _
    rw [m9_b_or, Bool.or_eq_true, q9_satb N i b C]
    constructor
    · rintro (⟨c, h1, h2⟩ | h)
      · exact ⟨c, by omega, h2⟩
      · by_cases d : ¬ nI i < N 85 C ∧ ¬ m9_stc N C < nI i
        · rw [if_pos d] at h; exact ⟨C, by omega, d, h⟩
        · rw [if_neg d, m9_b_0] at h; cases h
    · rintro ⟨c, h1, h2, h3⟩
      by_cases d : c = C
      · subst d
        right
        rw [if_pos h2]; exact h3
      · exact Or.inl ⟨c, by omega, h2, h3⟩
/-- the places of what is laid, by note and step -/
theorem q9_plc (S : k9_Mem) (B : Nat) {P : Nat → Prop} : (∃ c, c < m9_C S B ∧ P c) ↔ ∃ k, k < 1920 ∧ m9_bg (m9_y2 S B 21 81) k = true ∧ P (fb_ct (m9_bg (m9_y2 S B 21 81)) k) := by
  unfold m9_C
  constructor
  · rintro ⟨c, h1, h2⟩
    obtain ⟨k, k1, k2, k3⟩ := fb_ct_kth h1
    exact ⟨k, k1, k2, by rw [k3]; exact h2⟩
  · rintro ⟨k, k1, k2, k3⟩
    refine ⟨_, ?_, k3⟩
    have h1 : fb_ct (m9_bg (m9_y2 S B 21 81)) (k + 1) ≤ fb_ct (m9_bg (m9_y2 S B 21 81)) 1920 := fb_ct_mono _ k1
    rw [fb_ct_succ, if_pos k2] at h1
    omega
theorem q9_stcE (S : k9_Mem) (B : Nat) {k : Nat} (hk : k < 1920) (hb : m9_bg (m9_y2 S B 21 81) k = true) : m9_stc (m9_lay S B) (fb_ct (m9_bg (m9_y2 S B 21 81)) k) = nI (m9_sto (m9_lay S B) (k % 20) (m9_ef (m9_y2 S B 21 82) (k % 20) (k / 20))) := by
  obtain ⟨h1, h2, h3⟩ := q9_pl_c84 S B hk hb
  have hb2 := hb
  rw [q9_bg] at hb2
  have he := q9_Yef S B (show k / 20 < 96 by omega) (show k % 20 < 21 by omega) hb2
  unfold m9_stc
  rw [h1, h3, m9_cl (by omega), m9_cl (by omega)]
theorem q9_satE (S : k9_Mem) (B : Nat) {s n : Nat} (hs : s < 96) (hn : n < 32) : m9_b (m9_sat (m9_lay S B) s (m9_C S B)) n = true ↔ n < 20 ∧ ∃ f, f ≤ s ∧ m9_b (m9_y2 S B 21 81 f) n = true ∧ s ≤ m9_sto (m9_lay S B) n (m9_ef (m9_y2 S B 21 82) n f) := by
  rw [q9_satb, q9_plc S B (P := fun c => (¬ nI s < m9_lay S B 85 c ∧ ¬ m9_stc (m9_lay S B) c < nI s) ∧ m9_b ((1 : Int32) <<< (m9_lay S B 84 c &&& 31)) n = true)]
  have key : ∀ k, k < 1920 → m9_bg (m9_y2 S B 21 81) k = true → (((¬ nI s < m9_lay S B 85 (fb_ct (m9_bg (m9_y2 S B 21 81)) k) ∧ ¬ m9_stc (m9_lay S B) (fb_ct (m9_bg (m9_y2 S B 21 81)) k) < nI s) ∧ m9_b ((1 : Int32) <<< (m9_lay S B 84 (fb_ct (m9_bg (m9_y2 S B 21 81)) k) &&& 31)) n = true) ↔ (k / 20 ≤ s ∧ s ≤ m9_sto (m9_lay S B) (k % 20) (m9_ef (m9_y2 S B 21 82) (k % 20) (k / 20))) ∧ n = k % 20) := fun k hk hb => by
    obtain ⟨h1, h2, h3⟩ := q9_pl_c84 S B hk hb
    have hb2 := hb
    rw [q9_bg] at hb2
    have he := q9_Yef S B (show k / 20 < 96 by omega) (show k % 20 < 21 by omega) hb2
    have hst := (q9_sto S B (n := k % 20) (by omega) he).2.1
    have ht := q9_tkb (n := k % 20) (i := n) (by omega) hn
    unfold m9_tk at ht
    rw [q9_stcE S B hk hb, h1, h2, ht, decide_eq_true_iff, m9_lt (by omega) (by omega), m9_lt (by omega) (by omega)]
    omega
  constructor
  · rintro ⟨k, k1, k2, k3⟩
    obtain ⟨⟨h1, h2⟩, h3⟩ := (key k k1 k2).mp k3
    rw [q9_bg] at k2
    rw [← h3] at h2 k2
    exact ⟨by omega, k / 20, h1, k2, h2⟩
  · rintro ⟨hn2, f, f1, f2, f3⟩
    have hb : m9_bg (m9_y2 S B 21 81) (20 * f + n) = true := by
      rw [q9_bg, show (20 * f + n) / 20 = f from by omega, show (20 * f + n) % 20 = n from by omega]; exact f2
    refine ⟨20 * f + n, by omega, hb, (key _ (by omega) hb).mpr ?_⟩
    rw [show (20 * f + n) / 20 = f from by omega, show (20 * f + n) % 20 = n from by omega]
    exact ⟨⟨f1, f3⟩, rfl⟩
/-- a note sounds in the class where it sounds in the reference -/
theorem q9_soundb {M S : k9_Mem} {B R : Nat} (hp : q9_P M 1 (S 77)) (hk : q9_ok (S 77) B R) (hH : q9_H M B) {s n : Nat} (hs : s < 96) (hn : n < 20) : m9_b (M 63 s) (n + 1) = true ↔ ∃ f, f ≤ s ∧ m9_b (m9_y2 S B 21 81 f) n = true ∧ s ≤ m9_sto (m9_lay S B) n (m9_ef (m9_y2 S B 21 82) n f) := by
  rw [q9_b63 hp hk hH hs hn]
  have Y81 : ∀ j, j < 96 → (m9_b (m9_y2 S B 21 81 j) n = true ↔ q9_st (q9_zp (S 77) n) B j) := fun j hj => (q9_Y S B hj (by omega)).1
  have Y82 : ∀ j, j < 96 → (m9_b (m9_y2 S B 21 82 j) n = true ↔ q9_en (q9_zp (S 77) n) B j) := fun j hj => (q9_Y S B hj (by omega)).2.1
  have pls : m9_b (m9_y2 S B 21 83 s) n = true → ∃ f, f ≤ s ∧ m9_b (m9_y2 S B 21 81 f) n = true ∧ s ≤ m9_sto (m9_lay S B) n (m9_ef (m9_y2 S B 21 82) n f) := fun h => by
    obtain ⟨a, a1, a2, a3⟩ := (q9_Y S B hs (show n < 21 by omega)).2.2.mp h
    have a2' := (Y81 a (by omega)).mpr a2
    have he := q9_Yef S B (show a < 96 by omega) (show n < 21 by omega) a2'
    refine ⟨a, a1, a2', ?_⟩
    have h1 := (q9_sto S B hn he).1
    have h2 : s ≤ m9_ef (m9_y2 S B 21 82) n a := by
      rcases Nat.lt_or_ge (m9_ef (m9_y2 S B 21 82) n a) s with z | z
      · exact absurd ((Y82 _ he).mp ((q9_at _ (by omega)).mp (m9_ef_yes he))) (a3 _ (m9_ef_ge _ _ _) z)
      · exact z
    omega
  constructor
  · rintro (h | ⟨e0, e1, e2, e3⟩)
    · exact pls h
    · by_cases c : m9_b (m9_y2 S B 21 83 s) n = true
      · exact pls c
      · obtain ⟨e, y1, y2, y3⟩ := fb_last (p := fun j => m9_b (m9_y2 S B 21 82 j) n = true) (n := s) ⟨e0, e1, e2⟩
        have hee : e0 ≤ e := by
          rcases Nat.lt_or_ge e e0 with z | z
          · exact absurd e2 (y3 e0 z e1)
          · exact z
        obtain ⟨a, a1, a2, a3⟩ := q9_W5 B e (show e < 96 by omega) ((Y82 e (by omega)).mp y2).1
        have a2' := (Y81 a (by omega)).mpr a2
        have hef : m9_ef (m9_y2 S B 21 82) n a = e := q9_ef_eq (by omega) a1 (by omega) y2 (fun j j1 j2 => q9_nt (fun q => a3 j j1 j2 ((Y82 j (by omega)).mp q)))
        have no : ∀ j, e < j → j ≤ s → ¬ m9_b (m9_y2 S B 21 81 j) n = true := fun j j1 j2 q => by
          refine c ((q9_Y S B hs (show n < 21 by omega)).2.2.mpr ⟨j, j2, (Y81 j (by omega)).mp q, fun i i1 i2 z => ?_⟩)
          exact y3 i (by omega) i2 ((Y82 i (by omega)).mpr z)
        refine ⟨a, by omega, a2', ?_⟩
        rw [hef]
        exact ((q9_sto S B hn (show e < 96 by omega)).2.2 s y1 hs).mpr ⟨fun j j1 j2 => e3 j (by omega) j2, no⟩
  · rintro ⟨f, f1, f2, f3⟩
    have he := q9_Yef S B (show f < 96 by omega) (show n < 21 by omega) f2
    have hge := m9_ef_ge (m9_y2 S B 21 82) n f
    obtain ⟨e, hE⟩ : ∃ e, e = m9_ef (m9_y2 S B 21 82) n f := ⟨_, rfl⟩
    have hno := m9_ef_no (r := m9_y2 S B 21 82) (n := n) (s := f)
    have hye := (q9_at _ (by omega)).mp (m9_ef_yes he)
    rw [← hE] at he hge f3 hno hye
    rcases Nat.lt_or_ge e s with z | z
    · exact Or.inr ⟨e, z, hye, (((q9_sto S B hn he).2.2 s z hs).mp f3).1⟩
    · refine Or.inl ((q9_Y S B hs (show n < 21 by omega)).2.2.mpr ⟨f, f1, (Y81 f (by omega)).mp f2, fun j j1 j2 q => ?_⟩)
      exact q9_tn ((q9_at0 _ (by omega)).mp (hno j j1 (by omega))) ((Y82 j (by omega)).mpr q)
theorem q9_m20 (y : Int32) (h : ∀ j, 20 ≤ j → j < 32 → m9_b y j = false) : y &&& 1048575 = y := by
  apply m9_b_ext
  intro i hi
  rw [m9_b_and, q9_mask0 hi]
  by_cases c : i < 20
  · rw [decide_eq_true c, Bool.and_true]
  · rw [decide_eq_false c, Bool.and_false, h i (by omega) hi]
theorem q9_nz1 (x : Int32) : x &&& 2097150 = 0 ↔ ∀ n, n < 20 → ¬ m9_b x (n + 1) = true := by
  constructor
  · intro h n hn q
    have : m9_b (x &&& 2097150) (n + 1) = true := by
      rw [m9_b_and, q, q9_mask (by omega)]
      simp; omega
    rw [h, m9_b_0] at this
    cases this
  · intro h
    apply m9_b_ext
    intro i hi
    rw [m9_b_and, q9_mask hi, m9_b_0]
    by_cases c : 1 ≤ i ∧ i ≤ 20
    · have := q9_nt (h (i - 1) (by omega))
      rw [show i - 1 + 1 = i from by omega] at this
      rw [this]; rfl
    · rw [decide_eq_false c, Bool.and_false]
theorem q9_nz0 (x : Int32) : x &&& 1048575 = 0 ↔ ∀ n, n < 20 → ¬ m9_b x n = true := by
  constructor
  · intro h n hn q
    have : m9_b (x &&& 1048575) n = true := by
      rw [m9_b_and, q, q9_mask0 (by omega)]
      simp; omega
    rw [h, m9_b_0] at this
    cases this
  · intro h
    apply m9_b_ext
    intro i hi
    rw [m9_b_and, q9_mask0 hi, m9_b_0]
    by_cases c : i < 20
    · rw [q9_nt (h i c)]; rfl
    · rw [decide_eq_false c, Bool.and_false]
theorem q9_wish {M S : k9_Mem} {B R : Nat} (hp : q9_P M 1 (S 77)) (hk : q9_ok (S 77) B R) (hH : q9_H M B) {i r : Nat} (hi : i < 96) : m9_wi M (nI i) r ↔ m9_wsh (m9_lay S B) i r := by
  have e81 : m9_lay S B 81 = m9_y2 S B 21 81 := m9_y3_ne _ (by decide) (by decide) (by decide) (by decide) _
  have e83 : m9_lay S B 83 = m9_y2 S B 21 83 := m9_y3_ne _ (by decide) (by decide) (by decide) (by decide) _
  have b60 : ∀ j n, j < 96 → n < 20 → m9_b (M 60 j) (n + 1) = m9_b (m9_y2 S B 21 81 j) n := fun j n hj hn => by
    rw [← q9_cvn hn]; exact q9_b60 hp hk hH hj (by omega)
  have b62 : ∀ j n, j < 96 → n < 20 → m9_b (M 62 j) (n + 1) = m9_b (m9_y2 S B 21 83 j) n := fun j n hj hn => by
    rw [← q9_cvn hn]; exact q9_b62 hp hk hH hj (by omega)
  unfold m9_wi m9_wsh m9_aw m9_bw
  rw [m9_cl (show i < 2147483648 by omega), e81, e83, q9_nz1, q9_nz0, q9_nz1, q9_nz1]
  have p1 : (∀ n, n < 20 → ¬ m9_b (M 62 i) (n + 1) = true) ↔ (∀ n, n < 20 → ¬ m9_b (m9_y2 S B 21 83 i) n = true) := by
    constructor
    · intro h n hn; rw [← b62 i n hi hn]; exact h n hn
    · intro h n hn; rw [b62 i n hi hn]; exact h n hn
  have p2 : (¬ ∀ n, n < 20 → ¬ m9_b (m9_orb (M 62) i r) (n + 1) = true) ↔ ∃ b, 1 ≤ b ∧ b ≤ r ∧ b ≤ i ∧ ¬ m9_y2 S B 21 83 (i - b) &&& 1048575 = 0 := by
    constructor
    · intro h
      apply Classical.byContradiction
      intro h2
      refine h (fun n hn q => ?_)
      obtain ⟨j, j1, j2, j3, j4⟩ := (q9_orb (M 62) i (n + 1) r).mp q
      refine h2 ⟨j, j1, j2, j3, fun z => ?_⟩
      rw [b62 _ n (by omega) hn] at j4
      exact (q9_nz0 _).mp z n hn j4
    · rintro ⟨b, b1, b2, b3, b4⟩ h
      refine b4 ((q9_nz0 _).mpr (fun n hn q => ?_))
      exact h n hn ((q9_orb (M 62) i (n + 1) r).mpr ⟨b, b1, b2, b3, by rw [b62 _ n (by omega) hn]; exact q⟩)
  have p3 : (¬ ∀ n, n < 20 → ¬ m9_b (m9_ora (M 60) i r) (n + 1) = true) ↔ ∃ b, 1 ≤ b ∧ b ≤ r ∧ i + b < 96 ∧ ¬ m9_y2 S B 21 81 (i + b) &&& 1048575 = 0 := by
    constructor
    · intro h
      apply Classical.byContradiction
      intro h2
      refine h (fun n hn q => ?_)
      obtain ⟨j, j1, j2, j3, j4⟩ := (q9_ora (M 60) i (n + 1) r).mp q
      refine h2 ⟨j, j1, j2, j3, fun z => ?_⟩
      rw [b60 _ n (by omega) hn] at j4
      exact (q9_nz0 _).mp z n hn j4
    · rintro ⟨b, b1, b2, b3, b4⟩ h
      refine b4 ((q9_nz0 _).mpr (fun n hn q => ?_))
      exact h n hn ((q9_ora (M 60) i (n + 1) r).mpr ⟨b, b1, b2, b3, by rw [b60 _ n (by omega) hn]; exact q⟩)
  rw [p1, p2, p3]
  constructor
  · rintro ⟨_, h⟩; exact h
  · intro h; exact ⟨m9_isS_nI hi, h⟩
theorem q9_biD {P Q : Prop} [Decidable P] (dq : Decidable Q) (h : P ↔ Q) : m9_bi P = @m9_bi Q dq := by
  by_cases c : P
  · rw [m9_bi_t c]
    exact (@m9_bi_t Q dq (h.mp c)).symm
  · rw [m9_bi_f c]
    exact (@m9_bi_f Q dq (fun z => c (h.mpr z))).symm
/-- all numbers of a step -/
theorem q9_ofs {M S : k9_Mem} {B R : Nat} (hp : q9_P M 1 (S 77)) (hk : q9_ok (S 77) B R) (hH : q9_H M B) {i : Nat} (hi : i < 96) (w : Int32) : m9_ofs M R i w = m9_stv (m9_lay S B) (m9_C S B) R i w := by
  have e83 : m9_lay S B 83 = m9_y2 S B 21 83 := m9_y3_ne _ (by decide) (by decide) (by decide) (by decide) _
  unfold m9_ofs m9_stv
  rw [m9_lay_77, show M 4 i = S 77 (192 + i) from (hp.1 i hi).2.2.1, show M 5 i = S 77 (288 + i) from (hp.1 i hi).2.2.2, q9_op hp hi]
  have e2 : (M 62 i &&& 2097150) >>> ((1 : Int32) &&& 31) = m9_lay S B 83 i &&& 1048575 := by
    rw [e83]
    exact q9_down (fun n hn => by rw [← q9_cvn hn]; exact q9_b62 hp hk hH hi (by omega))
  have e3 : (M 63 i &&& 2097150) >>> ((1 : Int32) &&& 31) = m9_sat (m9_lay S B) i (m9_C S B) := by
    rw [← q9_m20 (m9_sat (m9_lay S B) i (m9_C S B)) (fun j j1 j2 => q9_nt (fun z => by have := ((q9_satE S B hi j2).mp z).1; omega))]
    refine q9_down (fun n hn => ?_)
    rw [Bool.eq_iff_iff, q9_soundb hp hk hH hi hn, q9_satE S B hi (by omega)]
    constructor
    · intro h; exact ⟨hn, h⟩
    · intro h; exact h.2
  have e4 : M 62 i &&& 1 = m9_bi (m9_one (m9_lay S B 83 i) 20) := by
    have := q9_b62 hp hk hH hi (Nat.le_refl 20)
    rw [show q9_cv 20 = 0 from rfl] at this
    rw [q9_and1, this, e83, q9_bi _ (m9_b (m9_y2 S B 21 83 i) 20) (q9_one _ (by decide))]
    cases m9_b (m9_y2 S B 21 83 i) 20 <;> rfl
  have e5 : m9_bi (m9_wi M (nI i) R) = m9_wsv (m9_lay S B) i R := q9_biD _ (q9_wish hp hk hH hi)
  rw [e2, e3, e4, e5]
