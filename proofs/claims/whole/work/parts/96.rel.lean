/-! Plain mathematics: class and reference stand alike. -/
def q9_tx (M : k9_Mem) (U : Nat) : Prop := M 66 1 = nI U ∧ U ≤ 60 ∧ M 76 3 = nI U ∧ ∀ i, i < U → M 67 i = M 79 i
def q9_rel (M : k9_Mem) (B R F U : Nat) : Prop := q9_P M 1 (M 77) ∧ q9_ok (M 77) B R ∧ q9_H M B ∧ q9_sv M F ∧ q9_tx M U
theorem q9_okM {M : k9_Mem} {B R F U : Nat} (h : q9_rel M B R F U) : m9_okM M B R F U := by
  obtain ⟨h1, h2, h3, h4, h5⟩ := h
  exact ⟨⟨h1.2.1.1.trans h2.2.1.1, h2.2.1.2⟩, ⟨h1.2.1.2.trans h2.2.2.1.1, h2.2.2.1.2⟩, h4.1, h5.1, h5.2.1⟩
theorem q9_H_c {M N : k9_Mem} {B : Nat} (h : ∀ k, k < 76 → N k = M k) (hH : q9_H M B) : q9_H N B := by
  obtain ⟨h1, h2, h3⟩ := hH
  refine ⟨fun s hs => ?_, fun s hs => ?_, fun s hs => ?_⟩
  · rw [h 58 (by decide), q9_rd_c (h 2 (by decide)) (h 3 (by decide)) (h 4 (by decide)) (h 5 (by decide))]
    exact h1 s hs
  · rw [h 58 (by decide), h 60 (by decide), h 61 (by decide)]; exact h2 s hs
  · rw [h 60 (by decide), h 61 (by decide), h 62 (by decide), h 63 (by decide)]; exact h3 s hs
/-- scratch cells play no part -/
def q9_live (k : Nat) : Prop := k < 71 ∧ (k < 68 ∨ 70 < k) ∨ k = 77 ∨ k = 78 ∨ k = 79
theorem q9_rel_c {M N : k9_Mem} {B R F U : Nat} (h : q9_rel M B R F U) (hc : ∀ k, (k ≤ 65 ∨ k = 67 ∨ k = 77 ∨ k = 78 ∨ k = 79) → N k = M k) (h66 : N 66 1 = M 66 1) (h1 : N 76 1 = M 76 1) (h3 : N 76 3 = M 76 3) : q9_rel N B R F U := by
  obtain ⟨r1, r2, r3, r4, r5⟩ := h
  have e77 : N 77 = M 77 := hc 77 (by omega)
  refine ⟨?_, by rw [e77]; exact r2, ?_, ?_, ?_⟩
  · rw [e77]
    exact q9_P_mem (M := M) (fun i hi => hc _ (by omega)) r1
  · obtain ⟨h1, h2, h3⟩ := r3
    refine ⟨fun s hs => ?_, fun s hs => ?_, fun s hs => ?_⟩
    · rw [hc 58 (by omega), q9_rd_c (hc 2 (by omega)) (hc 3 (by omega)) (hc 4 (by omega)) (hc 5 (by omega))]
      exact h1 s hs
    · rw [hc 58 (by omega), hc 60 (by omega), hc 61 (by omega)]; exact h2 s hs
    · rw [hc 60 (by omega), hc 61 (by omega), hc 62 (by omega), hc 63 (by omega)]; exact h3 s hs
  · obtain ⟨hs, hd, g1, hj⟩ := r4
    have e65 : N 65 = M 65 := hc 65 (by omega)
    have e64 : N 64 = M 64 := hc 64 (by omega)
    refine ⟨⟨by rw [e64]; exact hs.1, hs.2.1, fun j hj6 => by rw [e65]; exact hs.2.2 j hj6⟩, fun i j hi hj6 hij => by rw [e65]; exact hd i j hi hj6 hij, by rw [h1]; exact g1, fun j hjF => ?_⟩
    obtain ⟨y1, B', R', y2⟩ := hj j hjF
    have isj := hs.2.2 j (by have := hs.2.1; omega)
    have bj := m9_isP_2 isj.1 isj.2
    rw [e65, hc 78 (by omega)]
    exact ⟨q9_P_mem (M := M) (fun i hi => hc _ (by omega)) y1, B', R', y2⟩
  · obtain ⟨t1, t2, t3, t4⟩ := r5
    exact ⟨by rw [h66]; exact t1, t2, by rw [h3]; exact t3, fun i hi => by rw [hc 67 (by omega), hc 79 (by omega)]; exact t4 i hi⟩
theorem q9_rel_lay {M : k9_Mem} {B R F U : Nat} (h : q9_rel M B R F U) (B2 : Nat) : q9_rel (m9_lay M B2) B R F U :=
  q9_rel_c h (fun k hk => q9_lay_ne M B2 (by omega)) (by rw [q9_lay_ne M B2 (by omega)]) (q9_lay76 M B2 (by decide)) (q9_lay76 M B2 (by decide))
theorem q9_rel_th {M : k9_Mem} {B R F U : Nat} (h : q9_rel M B R F U) (v : Int32) : q9_rel (k9_st M 76 5 v) B R F U :=
  q9_rel_c h (fun k hk => m9_st_ne _ _ _ (by omega)) (by rw [m9_st_ne _ _ _ (by decide)]) (m9_st_at_ne _ _ (by decide)) (m9_st_at_ne _ _ (by decide))
/-- a change that is saved and listened to -/
theorem q9_mut {M N M2 : k9_Mem} {B R F U B' R' U' : Nat} {Z' : Nat → Int32} (h : q9_rel M B R F U) (hN : ∀ k, (9 ≤ k ∧ k ≤ 56 ∨ k = 64 ∨ k = 65) → N k = m9_keep M F k) (h2 : ∀ k, k < 76 → M2 k = m9_hear N B' k) (hZ : M2 77 = Z') (h78 : M2 78 = q9_h78 (M 78) (M 77) F) (h76 : M2 76 1 = nI (q9_F F)) (hP : q9_P N 1 Z') (hk : q9_ok Z' B' R') (ht : q9_tx M2 U') : q9_rel M2 B' R' (q9_F F) U' := by
  obtain ⟨r1, r2, r3, r4, r5⟩ := h
  refine ⟨?_, by rw [hZ]; exact hk, q9_H_c h2 (q9_hear N B'), ?_, ht⟩
  · rw [hZ]
    refine q9_P_mem (M := N) (fun i hi => ?_) hP
    rw [h2 _ (by omega), q9_hear_f N B' (by omega) (by omega) (by omega) (by omega) (by omega)]
  · refine q9_keep r4 r1 r2 (fun k hk2 => ?_) h78 h76
    rw [h2 _ (by omega), q9_hear_f N B' (by omega) (by omega) (by omega) (by omega) (by omega)]
    exact hN k hk2
/-- .. in the form in which most calls of the reference leave it -/
theorem q9_mutS {M N : k9_Mem} {B R F U B' R' : Nat} {Z' : Nat → Int32} (h : q9_rel M B R F U) (hN : ∀ k, 9 ≤ k → N k = m9_keep M F k) (hP : q9_P N 1 Z') (hk : q9_ok Z' B' R') : q9_rel (k9_sc (m9_save (k9_st (m9_hear N B') 76 5 0) F) 77 Z') B' R' (q9_F F) U := by
  have hs := h.2.2.2.1.1
  have f : ∀ k, 66 ≤ k → k9_st (m9_hear N B') 76 5 0 k = k9_st M 76 5 0 k := fun k k1 => by
    by_cases c : k = 76
    · subst c
      have e : m9_hear N B' 76 = M 76 := by rw [q9_hear_f N B' (by decide) (by decide) (by decide) (by decide) (by decide), hN 76 (by decide), m9_keep_f hs (by omega)]
      rw [m9_st_at, m9_st_at, e]
    · rw [m9_st_ne _ _ _ c, m9_st_ne _ _ _ c, q9_hear_f N B' (by omega) (by omega) (by omega) (by omega) (by omega), hN k (by omega), m9_keep_f hs (by omega)]
  have sv := q9_save (k9_st (m9_hear N B') 76 5 0) F
  refine q9_mut (N := N) (Z' := Z') h (fun k hk2 => hN k (by omega)) (fun k hk2 => ?_) (k9_sc_eq _ _ _) ?_ ?_ hP hk ?_
  · rw [k9_sc_ne _ _ (by omega), m9_save_ne _ _ (by omega) (by omega), m9_st_ne _ _ _ (by omega)]
  · rw [k9_sc_ne _ _ (by decide), sv.1, f 78 (by decide), f 77 (by decide), m9_st_ne _ _ _ (by decide), m9_st_ne _ _ _ (by decide)]
  · rw [k9_sc_ne _ _ (by decide), sv.2]
  · obtain ⟨t1, t2, t3, t4⟩ := h.2.2.2.2
    refine ⟨?_, t2, ?_, fun i hi => ?_⟩
    · rw [k9_sc_ne _ _ (by decide), m9_save_ne _ _ (by decide) (by decide), f 66 (by decide), m9_st_ne _ _ _ (by decide)]; exact t1
    · rw [k9_sc_ne _ _ (by decide), m9_save_76 _ _ (by decide), f 76 (by decide), m9_st_at_ne _ _ (by decide)]; exact t3
    · rw [k9_sc_ne _ _ (by decide), k9_sc_ne _ _ (by decide), m9_save_ne _ _ (by decide) (by decide), m9_save_ne _ _ (by decide) (by decide), f 67 (by decide), f 79 (by decide), m9_st_ne _ _ _ (by decide), m9_st_ne _ _ _ (by decide)]; exact t4 i hi
/-- the paper of the class behind saving is that from before -/
theorem q9_kP {M : k9_Mem} {B R F U : Nat} (h : q9_rel M B R F U) : q9_P (m9_keep M F) 1 (M 77) := q9_P_mem (M := M) (fun i hi => m9_keep_f h.2.2.2.1.1 (by omega)) h.1
/-- the numbers of exceptions -/
def q9_k3 (x : Option String) : Int32 := match x with
  | none => 0
  | some E => if E = m9_io then 1 else if E = m9_ia then 2 else 3
def q9_k2 (x : Option String) : Int32 := match x with
  | none => 0
  | some E => if E = m9_ia then 1 else 2
theorem q9_k3n : q9_k3 none = 0 := rfl
theorem q9_k3o : q9_k3 (some m9_io) = 1 := by decide
theorem q9_k3a : q9_k3 (some m9_ia) = 2 := by decide
theorem q9_k3s : q9_k3 (some m9_is) = 3 := by decide
theorem q9_k2n : q9_k2 none = 0 := rfl
theorem q9_k2a : q9_k2 (some m9_ia) = 1 := by decide
theorem q9_k2s : q9_k2 (some m9_is) = 2 := by decide
theorem q9_gt {a : Int32} {k : Nat} (h : k < 2147483647) : nI (k + 1) ≤ a ↔ nI k < a := by
  rw [fa_le, fa_lt, nI_toInt (by omega), nI_toInt (by omega)]
  omega
theorem q9_isS (a : Int32) : m9_isS a ↔ m9_wn a 0 95 := by
  unfold m9_isS m9_wn
  rw [show (96 : Int32) = nI (95 + 1) from rfl, q9_gt (by decide)]
  exact Iff.rfl
theorem q9_xTrack (t : Int32) : (t < 0 ∨ (26 : Int32) ≤ t) ↔ ¬ m9_wn t 0 25 := by
  unfold m9_wn
  rw [show (26 : Int32) = nI (25 + 1) from rfl, q9_gt (by decide), show nI 25 = (25 : Int32) from rfl]
  constructor
  · rintro (h | h) ⟨h1, h2⟩
    · exact h1 h
    · exact h2 h
  · intro h
    by_cases c : t < 0
    · exact Or.inl c
    · exact Or.inr (Classical.byContradiction (fun z => h ⟨c, z⟩))
theorem q9_xNwn {t lo hi : Int32} : (t < lo ∨ hi < t) ↔ ¬ m9_wn t lo hi := by
  unfold m9_wn
  constructor
  · rintro (h | h) ⟨h1, h2⟩
    · exact h1 h
    · exact h2 h
  · intro h
    by_cases c : t < lo
    · exact Or.inl c
    · exact Or.inr (Classical.byContradiction (fun z => h ⟨c, z⟩))
theorem q9_xPunch (a b n : Int32) : q9_k3 (m9_xPunch a b n) = m9_rpu a b n := by
  have e1 : (a < (-1 : Int32) ∨ (20 : Int32) ≤ a ∨ ¬ m9_isS b) ↔ (¬ m9_wn a (-1) 19 ∨ ¬ m9_wn b 0 95) := by
    rw [q9_isS, show (20 : Int32) = nI (19 + 1) from rfl, q9_gt (by decide), ← or_assoc]
    exact or_congr (q9_xNwn (lo := -1) (hi := 19)) Iff.rfl
  unfold m9_xPunch m9_rpu m9_xLength
  by_cases c1 : a < (-1 : Int32) ∨ (20 : Int32) ≤ a ∨ ¬ m9_isS b
  · rw [if_pos c1, if_pos (e1.mp c1), q9_k3o]
  · rw [if_neg c1, if_neg (fun z => c1 (e1.mpr z))]
    by_cases c2 : n < 1 ∨ (96 : Int32) < n
    · rw [if_pos c2, if_pos (q9_xNwn.mp c2)]
      exact q9_k3a
    · rw [if_neg c2, if_neg (fun z => c2 (q9_xNwn.mpr z))]
      by_cases c3 : (96 : Int32) < b + n
      · rw [if_pos c3, if_pos c3]; exact q9_k3s
      · rw [if_neg c3, if_neg c3]; rfl
theorem q9_xSteps (a b : Int32) : q9_k3 (m9_xSteps a b) = m9_rfr 1 a b := by
  have e1 : (¬ m9_isS a ∨ ¬ m9_isS b) ↔ ((1 : Int32) = 0 ∨ ¬ m9_wn a 0 95 ∨ ¬ m9_wn b 0 95) := by
    rw [q9_isS, q9_isS]
    constructor
    · exact Or.inr
    · rintro (h | h)
      · exact absurd h (by decide)
      · exact h
  unfold m9_xSteps m9_rfr
  by_cases c1 : ¬ m9_isS a ∨ ¬ m9_isS b
  · rw [if_pos c1, if_pos (e1.mp c1), q9_k3o]
  · rw [if_neg c1, if_neg (fun z => c1 (e1.mpr z))]
    by_cases c2 : b < a
    · rw [if_pos c2, if_pos c2, q9_k3a]
    · rw [if_neg c2, if_neg c2]; rfl
theorem q9_xPatch (t a b : Int32) : q9_k3 (m9_xPatch t a b) = m9_rfr (m9_bi (m9_wn t 0 25)) a b := by
  unfold m9_xPatch m9_xTrack
  by_cases c : t < 0 ∨ (26 : Int32) ≤ t
  · rw [if_pos c, m9_bi_f ((q9_xTrack t).mp c)]
    unfold m9_rfr
    rw [if_pos (Or.inl rfl)]
    exact q9_k3o
  · rw [if_neg c, m9_bi_t (Classical.byContradiction (fun z => c ((q9_xTrack t).mpr z)))]
    exact q9_xSteps a b
