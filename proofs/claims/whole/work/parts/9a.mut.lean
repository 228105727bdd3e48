/-! Plain mathematics: learning, undo, the buffer. -/
theorem q9_H_c2 {M N : k9_Mem} {B : Nat} (h : ∀ k, (2 ≤ k ∧ k ≤ 5 ∨ 58 ≤ k ∧ k ≤ 63) → N k = M k) (hH : q9_H M B) : q9_H N B := by
  obtain ⟨h1, h2, h3⟩ := hH
  refine ⟨fun s hs => ?_, fun s hs => ?_, fun s hs => ?_⟩
  · rw [h 58 (by omega), q9_rd_c (h 2 (by omega)) (h 3 (by omega)) (h 4 (by omega)) (h 5 (by omega))]
    exact h1 s hs
  · rw [h 58 (by omega), h 60 (by omega), h 61 (by omega)]; exact h2 s hs
  · rw [h 60 (by omega), h 61 (by omega), h 62 (by omega), h 63 (by omega)]; exact h3 s hs
/-- the state of the reference that learn lays -/
def q9_leS (M : k9_Mem) (F : Nat) : k9_Mem := m9_save (k9_st (m9_leaM M F) 76 5 0) F
theorem q9_learn {M : k9_Mem} {B R F U : Nat} (h : q9_rel M B R F U) : m9_leaM M F 77 = M 77 ∧ m9_leaM M F 76 = M 76 ∧ m9_gd (q9_leS M F) B ∧ m9_leL (m9_leaM M F) F B 76 13 = m9_bin (m9_leaM M F 7) 2097150 ∧ q9_rel (k9_sc (m9_leL (m9_leaM M F) F B) 77 (m9_rln (m9_leL (m9_leaM M F) F B 77) (m9_leL (m9_leaM M F) F B 81) (m9_leL (m9_leaM M F) F B 82) 96)) B R (q9_F F) U := by
  obtain ⟨r1, r2, r3, r4, r5⟩ := h
  have hs := r4.1
  have a : ∀ k, k ≠ 7 → k ≠ 8 → m9_leaM M F k = m9_keep M F k := fun k k1 k2 => m9_cn_ne _ _ _ _ k1 k2
  have ak : ∀ k, (k < 7 ∨ 57 ≤ k ∧ k ≠ 64 ∧ k ≠ 65) → m9_leaM M F k = M k := fun k hk => by rw [a k (by omega) (by omega), m9_keep_f hs (by omega)]
  have e77 : m9_leaM M F 77 = M 77 := ak 77 (by omega)
  have e76 : m9_leaM M F 76 = M 76 := ak 76 (by omega)
  have e60 : m9_keep M F 60 = M 60 := m9_keep_f hs (by omega)
  have e61 : m9_keep M F 61 = M 61 := m9_keep_f hs (by omega)
  have c7 : ∀ s, s < 96 → m9_leaM M F 7 s = M 60 s &&& 2097150 := fun s hs2 => by
    unfold m9_leaM m9_cn
    rw [k9_sc_ne _ _ (by decide), show (7 : Nat) = 6 + 1 from rfl, k9_sc_eq, m9_fl_in hs2]
    unfold m9_nbt
    rw [show m9_keep M F (59 + 1) = m9_keep M F 60 from rfl, e60]
  have c8 : ∀ s, s < 96 → m9_leaM M F 8 s = M 61 s &&& 2097150 := fun s hs2 => by
    unfold m9_leaM m9_cn
    rw [show (8 : Nat) = 6 + 2 from rfl, k9_sc_eq, m9_fl_in hs2]
    unfold m9_nbt
    rw [show m9_keep M F (59 + 2) = m9_keep M F 61 from rfl, e61]
  have sk : ∀ k, k ≠ 76 → k ≠ 78 → q9_leS M F k = m9_leaM M F k := fun k k1 k2 => by
    unfold q9_leS
    rw [m9_save_ne _ _ k1 k2, m9_st_ne _ _ _ k1]
  have s77 : q9_leS M F 77 = M 77 := by rw [sk 77 (by decide) (by decide), e77]
  have sv := q9_save (k9_st (m9_leaM M F) 76 5 0) F
  have s78 : q9_leS M F 78 = q9_h78 (M 78) (M 77) F := by
    unfold q9_leS
    rw [sv.1, m9_st_ne _ _ _ (by decide), m9_st_ne _ _ _ (by decide), e77, ak 78 (by omega)]
  have s1 : q9_leS M F 76 1 = nI (q9_F F) := sv.2
  have s3 : q9_leS M F 76 3 = M 76 3 := by
    unfold q9_leS
    rw [m9_save_76 _ _ (by decide), m9_st_at_ne _ _ (by decide), e76]
  obtain ⟨S, hS⟩ : ∃ S, S = q9_leS M F := ⟨_, rfl⟩
  have eL : m9_leL (m9_leaM M F) F B = m9_lay S B := by rw [hS]; rfl
  rw [← hS] at sk s77 s78 s1 s3 ⊢
  rw [eL]
  have hp : q9_P M 1 (S 77) := by rw [s77]; exact r1
  have hk : q9_ok (S 77) B R := by rw [s77]; exact r2
  have gd := q9_gd S B hk.2.2.2.1
  have e81 : m9_lay S B 81 = m9_y2 S B 21 81 := m9_y3_ne _ (by decide) (by decide) (by decide) (by decide) _
  have e82 : m9_lay S B 82 = m9_y2 S B 21 82 := m9_y3_ne _ (by decide) (by decide) (by decide) (by decide) _
  have l77 : m9_lay S B 77 = M 77 := by rw [m9_lay_77, s77]
  rw [e81, e82, l77]
  obtain ⟨Z, hZ⟩ : ∃ Z, Z = m9_rln (M 77) (m9_y2 S B 21 81) (m9_y2 S B 21 82) 96 := ⟨_, rfl⟩
  have zl : ∀ j, j < 386 → Z j = M 77 j := fun j hj => by
    rw [hZ]
    unfold m9_rln
    rw [if_neg (by omega), if_neg (by omega)]
  have z1 : ∀ s, s < 96 → Z (386 + s) = m9_y2 S B 21 81 s &&& 1048575 := fun s hs2 => by
    rw [hZ]
    unfold m9_rln
    rw [if_pos (by omega), show 386 + s - 386 = s from by omega]
  have z2 : ∀ s, s < 96 → Z (482 + s) = m9_y2 S B 21 82 s &&& 1048575 := fun s hs2 => by
    rw [hZ]
    unfold m9_rln
    rw [if_neg (by omega), if_pos (by omega), show 482 + s - 482 = s from by omega]
  have zb1 : ∀ s, s < 96 → ∀ n, n < 20 → m9_b (Z (386 + s)) n = m9_b (m9_y2 S B 21 81 s) n := fun s hs2 n hn => by
    rw [z1 s hs2, m9_b_and, q9_mask0 (by omega), decide_eq_true hn, Bool.and_true]
  have zb2 : ∀ s, s < 96 → ∀ n, n < 20 → m9_b (Z (482 + s)) n = m9_b (m9_y2 S B 21 82 s) n := fun s hs2 n hn => by
    rw [z2 s hs2, m9_b_and, q9_mask0 (by omega), decide_eq_true hn, Bool.and_true]
  refine ⟨e77, e76, gd, ?_, ?_⟩
  · rw [gd.2.1.1, ← q9_c3 hp hk r3]
    unfold m9_bin
    apply m9_sum_c
    intro s hs2
    rw [c7 s hs2, m9_an_an]
  · rw [← hZ]
    have mk : ∀ k, (k < 71 ∨ k = 79) → k9_sc (m9_lay S B) 77 Z k = m9_leaM M F k := fun k hk2 => by
      rw [k9_sc_ne _ _ (by omega), q9_lay_ne S B (by omega), sk k (by omega) (by omega)]
    refine ⟨?_, ?_, ?_, ?_, ?_⟩
    · rw [k9_sc_eq]
      refine q9_P_mem (M := m9_leaM M F) (fun i hi => mk _ (by omega)) ⟨fun s hs2 => ?_, ⟨?_, ?_⟩, fun s hs2 => ?_⟩
      · rw [ak _ (by omega), ak _ (by omega), ak _ (by omega), ak _ (by omega), zl _ (by omega), zl _ (by omega), zl _ (by omega), zl _ (by omega)]
        exact r1.1 s hs2
      · rw [ak _ (by omega), zl _ (by omega)]; exact r1.2.1.1
      · rw [ak _ (by omega), zl _ (by omega)]; exact r1.2.1.2
      · show (∀ n, n < 20 → m9_b (m9_leaM M F 7 s) (n + 1) = m9_b (Z (386 + s)) n ∧ m9_b (m9_leaM M F 8 s) (n + 1) = m9_b (Z (482 + s)) n) ∧ (m9_b (m9_leaM M F 7 s) 0 = false ∧ m9_b (m9_leaM M F 8 s) 0 = false) ∧ (∀ v, 21 ≤ v → m9_b (m9_leaM M F 7 s) v = false ∧ m9_b (m9_leaM M F 8 s) v = false)
        rw [c7 s hs2, c8 s hs2]
        obtain ⟨a1, a2, a3⟩ := q9_nb (x := M 60 s)
        obtain ⟨b1, b2, b3⟩ := q9_nb (x := M 61 s)
        refine ⟨fun n hn => ?_, ⟨a2, b2⟩, fun v hv => ⟨a3 v hv, b3 v hv⟩⟩
        rw [a1 n hn, b1 n hn, zb1 s hs2 n hn, zb2 s hs2 n hn, ← q9_cvn hn, q9_b60 hp hk r3 hs2 (by omega), q9_b61 hp hk r3 hs2 (by omega)]
        exact ⟨rfl, rfl⟩
    · rw [k9_sc_eq]
      obtain ⟨k1, k2, k3, k4, k5⟩ := r2
      refine ⟨fun s hs2 => ?_, ?_, ?_, fun n hn x hx hb => ?_, fun s hs2 j hj => ?_⟩
      · rw [zl _ (by omega), zl _ (by omega), zl _ (by omega), zl _ (by omega)]; exact k1 s hs2
      · rw [zl _ (by omega)]; exact k2
      · rw [zl _ (by omega)]; exact k3
      · rw [zb1 x hx n hn] at hb
        obtain ⟨e, y1, y2, y3⟩ := q9_Yend S B hx (show n < 21 by omega) hb
        exact ⟨e, y1, y2, by rw [zb2 e y2 n hn]; exact y3⟩
      · rw [z1 s hs2]
        by_cases c : j < 32
        · rw [m9_b_and, q9_mask0 c, decide_eq_false (by omega), Bool.and_false]
        · exact m9_b_big (by omega)
    · exact q9_H_c2 (fun k hk2 => by rw [mk k (by omega), ak k (by omega)]) r3
    · refine q9_keep r4 r1 r2 (fun k hk2 => ?_) ?_ ?_
      · rw [mk k (by omega), a k (by omega) (by omega)]
      · rw [k9_sc_ne _ _ (by decide), q9_lay_ne S B (by omega), s78]
      · rw [k9_sc_ne _ _ (by decide), q9_lay76 S B (by decide), s1]
    · obtain ⟨t1, t2, t3, t4⟩ := r5
      refine ⟨by rw [mk 66 (by omega), ak 66 (by omega)]; exact t1, t2, ?_, fun i hi => ?_⟩
      · rw [k9_sc_ne _ _ (by decide), q9_lay76 S B (by decide), s3]; exact t3
      · rw [mk 67 (by omega), mk 79 (by omega), ak 67 (by omega), ak 79 (by omega)]; exact t4 i hi
/-- undo -/
theorem q9_undo {M : k9_Mem} {B R F U : Nat} (h : q9_rel M B R F U) (hF : 0 < F) : ∃ B' R', B' < 1000 ∧ m9_give M F 1 5 = nI B' ∧ m9_hear (m9_give M F) B' 76 = M 76 ∧ q9_rel (m9_run (m9_hear (m9_give M F) B') F) B' R' (F - 1) U := by
  obtain ⟨r1, r2, r3, r4, r5⟩ := h
  have hs := r4.1
  have isF := hs.2.2 (F - 1) (by have := hs.2.1; omega)
  have gk : ∀ k, 57 ≤ k → k ≠ 64 → m9_give M F k = M k := fun k k1 k2 => by
    unfold m9_give
    rw [m9_cp_ne _ (fun j hj => by omega), m9_st_ne _ _ _ k2]
  have g0 := q9_give (N := k9_st (m9_give M F) 76 1 (nI (F - 1))) r4 hF (fun k hk => m9_st_ne _ _ _ (by omega)) (by rw [m9_st_ne _ _ _ (by decide), gk 78 (by decide) (by decide)]) (by rw [m9_st_at, m9_upd_at])
  obtain ⟨-, p0, B', R', k0⟩ := g0
  have e5 : m9_give M F 1 5 = nI B' := by
    have := p0.2.1.1
    rw [m9_st_ne _ _ _ (by decide)] at this
    rw [this]
    exact k0.2.1.1
  have hk : ∀ k, 57 ≤ k → k ≠ 64 → k ≠ 58 → k ≠ 60 → k ≠ 61 → k ≠ 62 → k ≠ 63 → m9_hear (m9_give M F) B' k = M k := fun k a b c d e f g => by
    rw [q9_hear_f _ _ c d e f g, gk k a b]
  have e76 := hk 76 (by decide) (by decide) (by decide) (by decide) (by decide) (by decide) (by decide)
  refine ⟨B', R', by have := k0.2.1.2; omega, e5, e76, ?_⟩
  obtain ⟨N, hN⟩ : ∃ N, N = m9_hear (m9_give M F) B' := ⟨_, rfl⟩
  rw [← hN] at hk e76 ⊢
  have n78 : N 78 = M 78 := hk 78 (by decide) (by decide) (by decide) (by decide) (by decide) (by decide) (by decide)
  have n77 : N 77 = M 77 := hk 77 (by decide) (by decide) (by decide) (by decide) (by decide) (by decide) (by decide)
  have low : ∀ k, k < 76 → m9_run N F k = N k := fun k hk2 => by
    unfold m9_run
    rw [k9_sc_ne _ _ (by omega), m9_st_ne _ _ _ (by omega), m9_st_ne _ _ _ (by omega)]
  have m77 : ∀ k, k < 578 → m9_run N F 77 k = M 78 (578 * (F - 1) + k) := fun k hk2 => by
    unfold m9_run
    rw [k9_sc_eq, fb_put_in (by omega) (by omega), n78, Nat.sub_zero]
  have g := q9_give (N := m9_run N F) r4 hF (fun k hk2 => by
    rw [low k (by omega), hN, q9_hear_f _ _ (by omega) (by omega) (by omega) (by omega) (by omega)]) (by
    unfold m9_run
    rw [k9_sc_ne _ _ (by decide), m9_st_ne _ _ _ (by decide), m9_st_ne _ _ _ (by decide), n78]) (by
    unfold m9_run
    rw [k9_sc_ne _ _ (by decide), m9_st_at, m9_upd_at])
  obtain ⟨g1, g2, -⟩ := g
  refine ⟨q9_P_row (fun k hk2 => m77 k hk2) g2, q9_ok_row (fun k hk2 => m77 k hk2) k0, q9_H_c low (by rw [hN]; exact q9_hear _ _), g1, ?_⟩
  obtain ⟨t1, t2, t3, t4⟩ := r5
  refine ⟨?_, t2, ?_, fun i hi => ?_⟩
  · rw [low 66 (by decide), hk 66 (by decide) (by decide) (by decide) (by decide) (by decide) (by decide) (by decide)]; exact t1
  · unfold m9_run
    rw [k9_sc_ne _ _ (by decide), m9_st_at_ne _ _ (by decide), m9_st_at_ne _ _ (by decide), e76]; exact t3
  · rw [low 67 (by decide), hk 67 (by decide) (by decide) (by decide) (by decide) (by decide) (by decide) (by decide)]
    have e79 : m9_run N F 79 = M 79 := by
      unfold m9_run
      rw [k9_sc_ne _ _ (by decide), m9_st_ne _ _ _ (by decide), m9_st_ne _ _ _ (by decide), hk 79 (by decide) (by decide) (by decide) (by decide) (by decide) (by decide) (by decide)]
    rw [e79]
    exact t4 i hi
/-- the buffer -/
theorem q9_xAppend {U : Nat} (hU : U ≤ 60) (a : Int32) : q9_k2 (m9_xAppend U a) = m9_rap U a := by
  unfold m9_xAppend m9_rap
  by_cases c : a < (33 : Int32) ∨ (126 : Int32) < a
  · rw [if_pos c, if_pos (q9_xNwn.mp c)]; exact q9_k2a
  · rw [if_neg c, if_neg (fun z => c (q9_xNwn.mpr z))]
    by_cases d : U < 60
    · rw [if_pos d, if_neg (by omega)]; rfl
    · rw [if_neg d, if_pos (by omega)]; exact q9_k2s
theorem q9_rel_t {M N : k9_Mem} {B R F U U' : Nat} (h : q9_rel M B R F U) (hc : ∀ k, (k ≤ 65 ∨ k = 77 ∨ k = 78) → N k = M k) (h1 : N 76 1 = M 76 1) (ht : q9_tx N U') : q9_rel N B R F U' := by
  have h' : q9_rel M B R F U := h
  obtain ⟨r1, r2, r3, r4, r5⟩ := h
  have e77 : N 77 = M 77 := hc 77 (by omega)
  refine ⟨?_, by rw [e77]; exact r2, q9_H_c2 (fun k hk => hc k (by omega)) r3, ?_, ht⟩
  · rw [e77]
    exact q9_P_mem (M := M) (fun i hi => hc _ (by omega)) r1
  · obtain ⟨hs, hd, g1, hj⟩ := r4
    have e65 : N 65 = M 65 := hc 65 (by omega)
    have e64 : N 64 = M 64 := hc 64 (by omega)
    refine ⟨⟨by rw [e64]; exact hs.1, hs.2.1, fun j hj6 => by rw [e65]; exact hs.2.2 j hj6⟩, fun i j hi hj6 hij => by rw [e65]; exact hd i j hi hj6 hij, by rw [h1]; exact g1, fun j hjF => ?_⟩
    obtain ⟨y1, B', R', y2⟩ := hj j hjF
    have isj := hs.2.2 j (by have := hs.2.1; omega)
    have bj := m9_isP_2 isj.1 isj.2
    rw [e65, hc 78 (by omega)]
    exact ⟨q9_P_mem (M := M) (fun i hi => hc _ (by omega)) y1, B', R', y2⟩
theorem q9_append {M : k9_Mem} {B R F U : Nat} (h : q9_rel M B R F U) (hU : U < 60) (a : Int32) : m9_add M U a 76 = M 76 ∧ q9_rel (k9_st (k9_st (k9_st (m9_add M U a) 76 5 0) 79 U a) 76 3 (nI (U + 1))) B R F (U + 1) := by
  have ak : ∀ k, k ≠ 66 → k ≠ 67 → m9_add M U a k = M k := fun k k1 k2 => by
    unfold m9_add
    rw [m9_st_ne _ _ _ k1, m9_st_ne _ _ _ k2]
  obtain ⟨t1, t2, t3, t4⟩ := h.2.2.2.2
  refine ⟨ak 76 (by decide) (by decide), q9_rel_t h (fun k hk => ?_) ?_ ⟨?_, by omega, ?_, fun i hi => ?_⟩⟩
  · rw [m9_st_ne _ _ _ (by omega), m9_st_ne _ _ _ (by omega), m9_st_ne _ _ _ (by omega), ak k (by omega) (by omega)]
  · rw [m9_st_at_ne _ _ (by decide), m9_st_ne _ _ _ (by decide), m9_st_at_ne _ _ (by decide), ak 76 (by decide) (by decide)]
  · rw [m9_st_ne _ _ _ (by decide), m9_st_ne _ _ _ (by decide), m9_st_ne _ _ _ (by decide)]
    unfold m9_add
    rw [m9_st_at, m9_upd_at]
  · rw [m9_st_at, m9_upd_at]
  · have e67 : k9_st (k9_st (k9_st (m9_add M U a) 76 5 0) 79 U a) 76 3 (nI (U + 1)) 67 = upd (M 67) U a := by
      rw [m9_st_ne _ _ _ (by decide), m9_st_ne _ _ _ (by decide), m9_st_ne _ _ _ (by decide)]
      unfold m9_add
      rw [m9_st_ne _ _ _ (by decide), m9_st_at]
    have e79 : k9_st (k9_st (k9_st (m9_add M U a) 76 5 0) 79 U a) 76 3 (nI (U + 1)) 79 = upd (M 79) U a := by
      rw [m9_st_ne _ _ _ (by decide), m9_st_at, m9_st_ne _ _ _ (by decide), ak 79 (by decide) (by decide)]
    rw [e67, e79]
    by_cases c : i = U
    · subst c; rw [m9_upd_at, m9_upd_at]
    · rw [m9_upd_ne _ _ c, m9_upd_ne _ _ c]
      exact t4 i (by omega)
theorem q9_clear {M : k9_Mem} {B R F U : Nat} (h : q9_rel M B R F U) : M 66 1 = nI U ∧ k9_st M 66 1 0 76 = M 76 ∧ M 76 3 = nI U ∧ q9_rel (k9_st (k9_st (k9_st M 66 1 0) 76 5 0) 76 3 0) B R F 0 := by
  obtain ⟨t1, t2, t3, t4⟩ := h.2.2.2.2
  refine ⟨t1, m9_st_ne _ _ _ (by decide), t3, q9_rel_t h (fun k hk => ?_) ?_ ⟨?_, by omega, ?_, fun i hi => by omega⟩⟩
  · rw [m9_st_ne _ _ _ (by omega), m9_st_ne _ _ _ (by omega), m9_st_ne _ _ _ (by omega)]
  · rw [m9_st_at_ne _ _ (by decide), m9_st_at_ne _ _ (by decide), m9_st_ne _ _ _ (by decide)]
  · rw [m9_st_ne _ _ _ (by decide), m9_st_ne _ _ _ (by decide), m9_st_at, m9_upd_at]; rfl
  · rw [m9_st_at, m9_upd_at]; rfl
