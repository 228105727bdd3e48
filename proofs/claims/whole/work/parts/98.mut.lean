/-! Plain mathematics: shifting, tearing, steering, settings. -/
theorem q9_mv32 (x y : Int32) {i : Nat} (hi : i < 32) (hx : ∀ j, 26 ≤ j → m9_b x j = false) (h1 : -26 < y.toInt) (h2 : y.toInt ≤ 6) : m9_b (m9_mv x y) i = true ↔ ∃ j : Nat, j < 26 ∧ (i : Int) = (j : Int) + y.toInt ∧ m9_b x j = true := by
  unfold m9_mv
  by_cases c : y < 0
  · have c' : y.toInt < 0 := by rw [fa_lt] at c; exact c
    have hn : (-y).toInt = -y.toInt := fb_negI (by omega)
    obtain ⟨d, hd⟩ : ∃ d : Nat, (d : Int) = -y.toInt := ⟨(-y.toInt).toNat, by omega⟩
    have hyd : -y = nI d := by rw [fa_eq, hn, nI_toInt (by omega), hd]
    rw [if_pos c, hyd, q9_shr _ (by omega) (by omega)]
    constructor
    · intro h
      by_cases q : d + i < 32
      · rw [if_pos q] at h
        rcases Nat.lt_or_ge (d + i) 26 with z | z
        · exact ⟨d + i, z, by omega, h⟩
        · rw [hx _ z] at h; cases h
      · rw [if_neg q, hx 31 (by decide)] at h; cases h
    · rintro ⟨j, j1, j2, j3⟩
      have : d + i = j := by omega
      rw [if_pos (by omega), this]; exact j3
  · have c' : ¬ y.toInt < 0 := by rw [fa_lt] at c; exact c
    obtain ⟨d, hd⟩ : ∃ d : Nat, (d : Int) = y.toInt := ⟨y.toInt.toNat, by omega⟩
    have hyd : y = nI d := by rw [fa_eq, nI_toInt (by omega), hd]
    rw [if_neg c, hyd, q9_shl _ (by omega) (by omega), nI_toInt (by omega)]
    rw [Bool.and_eq_true, decide_eq_true_iff]
    constructor
    · rintro ⟨a, b⟩
      rcases Nat.lt_or_ge (i - d) 26 with z | z
      · exact ⟨i - d, z, by omega, b⟩
      · rw [hx _ z] at b; cases b
    · rintro ⟨j, j1, j2, j3⟩
      have : i - d = j := by omega
      rw [this]; exact ⟨by omega, j3⟩
theorem q9_wnT {k : Nat} {y : Int32} (hk : k < 26) (h1 : -3 ≤ y.toInt) (h2 : y.toInt ≤ 3) : m9_wn (nI k + y) 0 25 ↔ 0 ≤ (k : Int) + y.toInt ∧ (k : Int) + y.toInt ≤ 25 := by
  have e : (nI k + y).toInt = (k : Int) + y.toInt := by
    rw [fb_addI (by rw [nI_toInt (by omega)]; omega) (by rw [nI_toInt (by omega)]; omega), nI_toInt (by omega)]
  unfold m9_wn
  rw [fa_lt, fa_lt, e, show (0 : Int32).toInt = 0 from rfl, show (25 : Int32).toInt = 25 from rfl]
  omega
/-- whether all holes of a step would be on a track -/
theorem q9_cmv {u y : Int32} (hu : ∀ j, 26 ≤ j → m9_b u j = false) (h1 : -3 ≤ y.toInt) (h2 : y.toInt ≤ 3) : m9_mv (m9_mv u y &&& 67108863) (-y) = u ↔ ∀ k, k < 26 → ((u >>> (nI k &&& 31)) &&& 1 = 0 ∨ m9_wn (nI k + y) 0 25) := by
  have hny : (-y).toInt = -y.toInt := fb_negI (by omega)
  obtain ⟨w, hw⟩ : ∃ w, w = m9_mv u y &&& 67108863 := ⟨_, rfl⟩
  have wb : ∀ i, i < 32 → (m9_b w i = true ↔ i < 26 ∧ ∃ j : Nat, j < 26 ∧ (i : Int) = (j : Int) + y.toInt ∧ m9_b u j = true) := fun i hi => by
    rw [hw, m9_b_and, Bool.and_eq_true, q9_maskT hi, decide_eq_true_iff, q9_mv32 u y hi hu (by omega) (by omega)]
    exact ⟨fun z => ⟨z.2, z.1⟩, fun z => ⟨z.2, z.1⟩⟩
  have w26 : ∀ j, 26 ≤ j → m9_b w j = false := fun j hj => by
    by_cases c : j < 32
    · refine q9_nt (fun z => ?_)
      have := ((wb j c).mp z).1
      omega
    · exact m9_b_big (by omega)
  have vb : ∀ i, i < 32 → (m9_b (m9_mv w (-y)) i = true ↔ i < 26 ∧ 0 ≤ (i : Int) + y.toInt ∧ (i : Int) + y.toInt ≤ 25 ∧ m9_b u i = true) := fun i hi => by
    rw [q9_mv32 w (-y) hi w26 (by omega) (by omega), hny]
    constructor
    · rintro ⟨j, j1, j2, j3⟩
      obtain ⟨_, j', k1, k2, k3⟩ := (wb j (by omega)).mp j3
      have : j' = i := by omega
      subst this
      exact ⟨k1, by omega, by omega, k3⟩
    · rintro ⟨h3, h4, h5, h6⟩
      refine ⟨((i : Int) + y.toInt).toNat, by omega, by omega, (wb _ (by omega)).mpr ⟨by omega, i, h3, by omega, h6⟩⟩
  rw [← hw]
  constructor
  · intro h k hk
    rw [q9_at0 _ (by omega), q9_wnT hk h1 h2]
    cases c : m9_b u k
    · exact Or.inl rfl
    · right
      rw [← h] at c
      obtain ⟨_, z2, z3, _⟩ := (vb k (by omega)).mp c
      exact ⟨z2, z3⟩
  · intro h
    apply m9_b_ext
    intro i hi
    rw [Bool.eq_iff_iff, vb i hi]
    constructor
    · intro z; exact z.2.2.2
    · intro z
      by_cases c : i < 26
      · have h9 := h i c
        rw [q9_at0 _ hi, q9_wnT c h1 h2, z] at h9
        rcases h9 with q | q
        · cases q
        · exact ⟨c, q.1, q.2, z⟩
      · rw [hu i (by omega)] at z; cases z
theorem q9_side_wn {y : Int32} : m9_wn y (-3) 3 ↔ q9_side y := by
  unfold m9_wn q9_side
  rw [fa_lt, fa_lt, show (-3 : Int32).toInt = -3 from rfl, show (3 : Int32).toInt = 3 from rfl]
  omega
theorem q9_canM {K : k9_Mem} {Z : Nat → Int32} {B R : Nat} (hp : q9_P K 1 Z) (hk : q9_ok Z B R) {y : Int32} (hy : q9_side y) : m9_canM K y ↔ m9_csW Z y := by
  refine forall_congr' (fun i => forall_congr' (fun hi => ?_))
  have e1 : K 2 i = Z i := (hp.1 i hi).1
  have e2 : K 3 i = Z (96 + i) := (hp.1 i hi).2.1
  unfold m9_cmv
  rw [e1, e2]
  exact q9_cmv (fun j hj => by rw [m9_b_or, ((hk.1 i hi).1 j hj).1, ((hk.1 i hi).1 j hj).2]; rfl) hy.1 hy.2
theorem q9_xAside (y : Int32) : (y < (-3 : Int32) ∨ (3 : Int32) < y) ↔ ¬ m9_wn y (-3) 3 := q9_xNwn
theorem q9_xShift {M : k9_Mem} {B R F U : Nat} (h : q9_rel M B R F U) (y : Int32) [Decidable (m9_canM M y)] [Decidable (m9_csW (M 77) y)] : q9_k2 (m9_xShift M y) = m9_rsh (M 77) y := by
  unfold m9_xShift m9_rsh m9_xAside
  by_cases c : y < (-3 : Int32) ∨ (3 : Int32) < y
  · rw [if_pos c, if_pos ((q9_xAside y).mp c)]; exact q9_k2a
  · have hy : m9_wn y (-3) 3 := Classical.byContradiction (fun z => c ((q9_xAside y).mpr z))
    have hc := q9_canM h.1 h.2.1 (q9_side_wn.mp hy)
    rw [if_neg c, if_neg (show ¬ ¬ m9_wn y (-3) 3 from fun z => z hy)]
    by_cases d : m9_canM M y
    · rw [if_pos d, if_pos (hc.mp d)]; rfl
    · rw [if_neg d, if_neg (fun z => d (hc.mpr z))]; exact q9_k2s
theorem q9_same_c {M N : k9_Mem} (h : ∀ k, k < 76 → N k = M k) : m9_same N 59 6 = m9_same M 59 6 := by
  unfold m9_same
  rw [h (59 + 1) (by decide), h (59 + 2) (by decide), h (6 + 1) (by decide), h (6 + 2) (by decide)]
theorem q9_relR {M : k9_Mem} {B R F U : Nat} (h : q9_rel M B R F U) : m9_same M 59 6 = m9_rn M B := q9_c5 h.1 h.2.1 h.2.2.1
theorem q9_mutR {N : k9_Mem} {F B R B' R' F' U' : Nat} {Z' : Nat → Int32} (h : q9_rel (k9_sc (m9_save (k9_st (m9_hear N B') 76 5 0) F) 77 Z') B' R' F' U') : m9_gd (k9_sc (m9_save (k9_st (m9_hear N B') 76 5 0) F) 77 Z') B' ∧ m9_same (m9_hear N B') 59 6 = m9_rn (k9_sc (m9_save (k9_st (m9_hear N B') 76 5 0) F) 77 Z') B' := by
  refine ⟨q9_gd _ B' h.2.1.2.2.2.1, ?_⟩
  rw [← q9_relR h]
  refine (q9_same_c (fun k hk => ?_)).symm
  rw [k9_sc_ne _ _ (by omega), m9_save_ne _ _ (by omega) (by omega), m9_st_ne _ _ _ (by omega)]
/-- shift -/
theorem q9_shift {M : k9_Mem} {B R F U : Nat} (h : q9_rel M B R F U) (y : Int32) [Decidable (m9_csW (M 77) y)] (h0 : m9_rsh (M 77) y = 0) : m9_shiM M F B y 77 = M 77 ∧ m9_shiM M F B y 76 = M 76 ∧ m9_gd (m9_shN (m9_shiM M F B y) F y) B ∧ m9_same (m9_shiM M F B y) 59 6 = m9_rn (m9_shN (m9_shiM M F B y) F y) B ∧ q9_rel (m9_shN (m9_shiM M F B y) F y) B R (q9_F F) U := by
  have hy : m9_wn y (-3) 3 := Classical.byContradiction (fun z => by
    unfold m9_rsh at h0
    rw [if_pos z] at h0
    exact absurd h0 (by decide))
  have hw : m9_csW (M 77) y := Classical.byContradiction (fun z => by
    unfold m9_rsh at h0
    rw [if_neg (fun q => q hy), if_neg z] at h0
    exact absurd h0 (by decide))
  have hs := q9_side_wn.mp hy
  have hp := q9_kP h
  have hk := h.2.1
  have hN : ∀ k, 9 ≤ k → m9_mm (m9_keep M F) y 96 k = m9_keep M F k := fun k hk => m9_two_ne _ (by omega) (by omega) _ _
  have e77 : m9_shiM M F B y 77 = M 77 := q9_M77 h hN (by decide) (by decide) (by decide)
  have e76 : m9_shiM M F B y 76 = M 76 := q9_M77 h hN (by decide) (by decide) (by decide)
  have hz : ∀ j, m9_hz (M 77) y 96 j = if j < 192 then m9_mv (M 77 j) y else M 77 j := fun j => by
    unfold m9_hz
    by_cases c : j < 192
    · rw [if_pos c, if_pos (by omega)]
    · rw [if_neg c, if_neg (by omega)]
  have bits : ∀ (q : Nat), q < 192 → (∀ k, k < 26 → m9_b (M 77 q) k = true → 0 ≤ (k : Int) + y.toInt ∧ (k : Int) + y.toInt ≤ 25) → (∀ j, 26 ≤ j → m9_b (M 77 q) j = false) → ∀ j, 26 ≤ j → m9_b (m9_mv (M 77 q) y) j = false := fun q _ hq1 hq2 j hj => by
    by_cases c : j < 32
    · refine q9_nt (fun z => ?_)
      obtain ⟨k, k1, k2, k3⟩ := (q9_mv32 _ y c hq2 (by omega) (by omega)).mp z
      have := hq1 k k1 k3
      omega
    · exact m9_b_big (by omega)
  have cs : ∀ s, s < 96 → ∀ k, k < 26 → (m9_b (M 77 s) k = true ∨ m9_b (M 77 (96 + s)) k = true) → 0 ≤ (k : Int) + y.toInt ∧ (k : Int) + y.toInt ≤ 25 := fun s hs2 k hk2 hb => by
    have h9 := hw s hs2 k hk2
    unfold m9_csk at h9
    rw [q9_at0 _ (by omega), q9_wnT hk2 hs.1 hs.2, m9_b_or] at h9
    rcases h9 with q | q
    · rcases hb with z | z <;> rw [z] at q <;> simp at q
    · exact q
  have hP : q9_P (m9_mm (m9_keep M F) y 96) 1 (m9_hz (M 77) y 96) := by
    obtain ⟨h1, h2, h3⟩ := hp
    refine ⟨fun s hs2 => ?_, ?_, fun s hs2 => ?_⟩
    · obtain ⟨a1, a2, a3, a4⟩ := h1 s hs2
      have a1 : m9_keep M F 2 s = M 77 s := a1
      have a2 : m9_keep M F 3 s = M 77 (96 + s) := a2
      refine ⟨?_, ?_, ?_, ?_⟩
      · show m9_mm (m9_keep M F) y 96 2 s = _
        unfold m9_mm
        rw [k9_sc_ne _ _ (by decide), k9_sc_eq, m9_fl_in hs2, hz, if_pos (by omega), a1]
      · show m9_mm (m9_keep M F) y 96 3 s = _
        unfold m9_mm
        rw [k9_sc_eq, m9_fl_in hs2, hz, if_pos (by omega), a2]
      · rw [show m9_mm (m9_keep M F) y 96 (1 + 3) = m9_keep M F (1 + 3) from m9_two_ne _ (by decide) (by decide) _ _, hz, if_neg (by omega)]; exact a3
      · rw [show m9_mm (m9_keep M F) y 96 (1 + 4) = m9_keep M F (1 + 4) from m9_two_ne _ (by decide) (by decide) _ _, hz, if_neg (by omega)]; exact a4
    · rw [show m9_mm (m9_keep M F) y 96 1 = m9_keep M F 1 from m9_two_ne _ (by decide) (by decide) _ _, hz, hz, if_neg (by omega), if_neg (by omega)]; exact h2
    · rw [show m9_mm (m9_keep M F) y 96 (1 + 6) = m9_keep M F (1 + 6) from m9_two_ne _ (by decide) (by decide) _ _, show m9_mm (m9_keep M F) y 96 (1 + 7) = m9_keep M F (1 + 7) from m9_two_ne _ (by decide) (by decide) _ _, hz, hz, if_neg (by omega), if_neg (by omega)]
      exact h3 s hs2
  have hK : q9_ok (m9_hz (M 77) y 96) B R := by
    obtain ⟨h1, h2, h3, h4, h5⟩ := hk
    refine ⟨fun s hs2 => ⟨fun j hj => ⟨?_, ?_⟩, ?_, ?_⟩, ?_, ?_, q9_tok_c h4 (fun j hj => by rw [hz, if_neg (by omega)]), fun s hs2 => ?_⟩
    · rw [hz, if_pos (by omega)]
      exact bits s (by omega) (fun k k1 k2 => cs s hs2 k k1 (Or.inl k2)) (fun j hj => ((h1 s hs2).1 j hj).1) j hj
    · rw [hz, if_pos (by omega)]
      exact bits (96 + s) (by omega) (fun k k1 k2 => cs s hs2 k k1 (Or.inr k2)) (fun j hj => ((h1 s hs2).1 j hj).2) j hj
    · rw [hz, if_neg (by omega)]; exact (h1 s hs2).2.1
    · rw [hz, if_neg (by omega)]; exact (h1 s hs2).2.2
    · rw [hz, if_neg (by omega)]; exact h2
    · rw [hz, if_neg (by omega)]; exact h3
    · rw [hz, if_neg (by omega)]; exact h5 s hs2
  have e : m9_shN (m9_shiM M F B y) F y = k9_sc (m9_save (k9_st (m9_hear (m9_mm (m9_keep M F) y 96) B) 76 5 0) F) 77 (m9_hz (M 77) y 96) := by
    unfold m9_shN
    rw [e77]; rfl
  have hr := q9_mutS h hN hP hK
  rw [e]
  exact ⟨e77, e76, (q9_mutR (B := B) (R := R) hr).1, (q9_mutR (B := B) (R := R) hr).2, hr⟩
/-- tear -/
theorem q9_canT {K : k9_Mem} {Z : Nat → Int32} (hp : q9_P K 1 Z) {f g : Nat} (hfg : f ≤ g) (hg : g < 96) (y : Int32) : m9_canT K (nI f) (nI g) y ↔ m9_ctW Z y f g := by
  have kp : ∀ x : Int32, m9_kp x = x ↔ m9_wn x (-3) 3 := fun x => by
    rw [q9_side_wn]
    constructor
    · intro z
      have := (q9_kp x).2
      rw [z] at this
      exact this
    · intro z
      rw [(q9_kp x).1]
      unfold m9_hld
      rw [if_neg (fun q => q (by rw [fa_le, show (3 : Int32).toInt = 3 from rfl]; exact z.2)), if_neg (fun q => q (by rw [fa_le, show (-3 : Int32).toInt = -3 from rfl]; exact z.1))]
  constructor
  · intro h j j1 j2
    have h9 := h j (by omega)
    unfold m9_ctr at h9
    rw [q9_rg (by omega) hg (by omega), kp, show K 4 j = Z (192 + j) from (hp.1 j (by omega)).2.2.1] at h9
    exact h9 ⟨j1, j2⟩
  · intro h i hi
    unfold m9_ctr
    rw [q9_rg (by omega) hg hi, kp, show K 4 i = Z (192 + i) from (hp.1 i hi).2.2.1]
    rintro ⟨j1, j2⟩
    exact h i j1 j2
theorem q9_P_45 {K : k9_Mem} {Z : Nat → Int32} (hp : q9_P K 1 Z) {c o f g : Nat} (hc : c = 4 ∧ o = 192 ∨ c = 5 ∧ o = 288) (hfg : f ≤ g) (hg : g < 96) {r p : Nat → Int32} (hr : ∀ s, s < 96 → r s = if m9_rg (nI f) (nI g) s then p s else Z (o + s)) : q9_P (k9_sc K c r) 1 (fb_put Z (fun j => p (f + j)) (o + f) (g + 1 - f)) := by
  obtain ⟨h1, h2, h3⟩ := hp
  have out : ∀ j, (j < o ∨ o + 96 ≤ j) → fb_put Z (fun j => p (f + j)) (o + f) (g + 1 - f) j = Z j := fun j hj => fb_put_out (by omega)
  have inn : ∀ s, s < 96 → fb_put Z (fun j => p (f + j)) (o + f) (g + 1 - f) (o + s) = r s := fun s hs => by
    rw [hr s hs]
    by_cases d : f ≤ s ∧ s ≤ g
    · rw [if_pos ((q9_rg (by omega) hg hs).mpr d), fb_put_in (by omega) (by omega), show f + (o + s - (o + f)) = s from by omega]
    · rw [if_neg (fun z => d ((q9_rg (by omega) hg hs).mp z)), fb_put_out (by omega)]
  refine ⟨fun s hs => ?_, ?_, fun s hs => ?_⟩
  · obtain ⟨a1, a2, a3, a4⟩ := h1 s hs
    refine ⟨?_, ?_, ?_, ?_⟩
    · rw [k9_sc_ne _ _ (by omega), out _ (by omega)]; exact a1
    · rw [k9_sc_ne _ _ (by omega), out _ (by omega)]; exact a2
    · rcases hc with ⟨rfl, rfl⟩ | ⟨rfl, rfl⟩
      · show k9_sc K 4 r 4 s = _
        rw [k9_sc_eq, inn s hs]
      · rw [k9_sc_ne _ _ (by omega), out _ (by omega)]; exact a3
    · rcases hc with ⟨rfl, rfl⟩ | ⟨rfl, rfl⟩
      · rw [k9_sc_ne _ _ (by omega), out _ (by omega)]; exact a4
      · show k9_sc K 5 r 5 s = _
        rw [k9_sc_eq, inn s hs]
  · rw [k9_sc_ne _ _ (by omega), out _ (by omega), out _ (by omega)]; exact h2
  · rw [k9_sc_ne _ _ (by omega), k9_sc_ne _ _ (by omega), out _ (by omega), out _ (by omega)]; exact h3 s hs
theorem q9_ok_45 {Z : Nat → Int32} {B R : Nat} (hk : q9_ok Z B R) {o f g : Nat} (hc : o = 192 ∨ o = 288) (hfg : f ≤ g) (hg : g < 96) {p : Nat → Int32} (hp : ∀ s, f ≤ s → s ≤ g → q9_side (p s)) : q9_ok (fb_put Z (fun j => p (f + j)) (o + f) (g + 1 - f)) B R := by
  obtain ⟨h1, h2, h3, h4, h5⟩ := hk
  have out : ∀ j, (j < o ∨ o + 96 ≤ j) → fb_put Z (fun j => p (f + j)) (o + f) (g + 1 - f) j = Z j := fun j hj => fb_put_out (by omega)
  have side : ∀ s, s < 96 → q9_side (Z (o + s)) → q9_side (fb_put Z (fun j => p (f + j)) (o + f) (g + 1 - f) (o + s)) := fun s hs hz => by
    by_cases d : f ≤ s ∧ s ≤ g
    · rw [fb_put_in (by omega) (by omega)]
      exact hp _ (by omega) (by omega)
    · rw [fb_put_out (by omega)]; exact hz
  refine ⟨fun s hs => ⟨fun j hj => ⟨?_, ?_⟩, ?_, ?_⟩, ?_, ?_, q9_tok_c h4 (fun j hj => out j (by omega)), fun s hs => ?_⟩
  · rw [out _ (by omega)]; exact ((h1 s hs).1 j hj).1
  · rw [out _ (by omega)]; exact ((h1 s hs).1 j hj).2
  · rcases hc with rfl | rfl
    · exact side s hs (h1 s hs).2.1
    · rw [out _ (by omega)]; exact (h1 s hs).2.1
  · rcases hc with rfl | rfl
    · rw [out _ (by omega)]; exact (h1 s hs).2.2
    · exact side s hs (h1 s hs).2.2
  · rw [out _ (by omega)]; exact h2
  · rw [out _ (by omega)]; exact h3
  · rw [out _ (by omega)]; exact h5 s hs
