/-! The reference: how far the text is right. -/
theorem m9_fM_no {M : k9_Mem} {A : Nat} {x lo hi : Int32} (h : m9_bi (m9_fO M A x lo hi) = 0) : m9_fM M A x lo hi = M := by rw [m9_fM, if_neg (m9_bi_0 h)]
theorem m9_tm_no {M : k9_Mem} {rd d : Nat} {x : Int32} (h : m9_tv M rd d x = 0) : m9_tm M rd d x = M := by
  unfold m9_tv at h
  unfold m9_tm
  repeat' split
  all_goals simp_all
  all_goals exact m9_fM_no h
theorem m9_fM_f {M : k9_Mem} {A : Nat} {x lo hi : Int32} {k : Nat} (h1 : k ≠ 76) (h2 : k ≠ 87) : m9_fM M A x lo hi k = M k := by
  unfold m9_fM
  split
  · rw [m9_st_ne _ _ _ h1, m9_st_ne _ _ _ h2]
  · rfl
theorem m9_fM_3 {M : k9_Mem} {A : Nat} {x lo hi : Int32} {j : Nat} (h1 : j ≠ 16) : m9_fM M A x lo hi 76 j = M 76 j := by
  unfold m9_fM
  split
  · rw [m9_st_at_ne _ _ h1, m9_st_ne _ _ _ (by decide)]
  · rfl
theorem m9_tm_f {M : k9_Mem} {rd d : Nat} {x : Int32} {k : Nat} (h1 : k ≠ 76) (h2 : k ≠ 87) : m9_tm M rd d x k = M k := by
  unfold m9_tm
  repeat' split
  all_goals first | exact m9_fM_f h1 h2 | rfl | (rw [m9_st_ne _ _ _ h1, m9_st_ne _ _ _ h2]) | (rw [m9_st_ne _ _ _ h1, m9_st_ne _ _ _ h1]) | (rw [m9_st_ne _ _ _ h1])
theorem m9_tm_3 {M : k9_Mem} {rd d : Nat} {x : Int32} {j : Nat} (h1 : j ≠ 16) (h2 : j ≠ 15) : m9_tm M rd d x 76 j = M 76 j := by
  unfold m9_tm
  repeat' split
  all_goals first | exact m9_fM_3 h1 | rfl | (rw [m9_st_at_ne _ _ h1, m9_st_ne _ _ _ (by decide)]) | (rw [m9_st_at_ne _ _ h1, m9_st_at_ne _ _ h2]) | (rw [m9_st_at_ne _ _ h1])
def m9_xr (M : k9_Mem) (rd d : Nat → Nat) : Nat → k9_Mem
  | 0 => k9_st (k9_st M 76 15 0) 76 16 0
  | i + 1 => m9_tm (m9_xr M rd d i) (rd i) (d i) (M 79 i)
theorem m9_xr_79 (M : k9_Mem) (rd d : Nat → Nat) : ∀ i, m9_xr M rd d i 79 = M 79
  | 0 => by
    show k9_st (k9_st M 76 15 0) 76 16 0 79 = _
    rw [m9_st_ne _ _ _ (by decide), m9_st_ne _ _ _ (by decide)]
  | i + 1 => (m9_tm_f (by decide) (by decide)).trans (m9_xr_79 M rd d i)
theorem m9_xr_3 (M : k9_Mem) (rd d : Nat → Nat) : ∀ i, m9_xr M rd d i 76 3 = M 76 3
  | 0 => by
    show k9_st (k9_st M 76 15 0) 76 16 0 76 3 = _
    rw [m9_st_at_ne _ _ (by decide), m9_st_at_ne _ _ (by decide)]
  | i + 1 => (m9_tm_3 (by decide) (by decide)).trans (m9_xr_3 M rd d i)
theorem ct_X7_rightUpTo (l : Launch) (G : k9_G) (M : k9_Mem) {U K : Nat} (hU : U ≤ 60) (hM : M 76 3 = nI U) (rd d : Nat → Nat) (hK : K ≤ U) (hst : ∀ i, i ≤ K → i < U → m9_xr M rd d i 76 15 = nI (rd i) ∧ 3 * rd i + 2 < 36 ∧ m9_xr M rd d i 76 16 = nI (d i) ∧ d i ≤ 6) (hall : ∀ i, i < K → m9_tv (m9_xr M rd d i) (rd i) (d i) (M 79 i) = 1) (hstop : K < U → m9_tv (m9_xr M rd d K) (rd K) (d K) (M 79 K) = 0) : k9_Ci l yX7_rightUpTo wsX7_rightUpTo rm_X7_rightUpTo G M [.ref (k9_ga G 76)] (nI K) (m9_xr M rd d K) := by
  refine k9_metI (own := RX7) (by decide +kernel) rfl rfl (Nat.le_of_ble_eq_true rfl) rfl ?_
  intro p e s m args below meth c A Q X HR
  have loop : ∀ i, i ≤ K → k9_U p l e rm_X7_rightUpTo s m args below meth c Q A G 2 0 0 (m9_xr M rd d i) 12 [(0, .ref (k9_ga G 76)), (1, .int (nI i))] [] := by
    refine m9_down K (fun i hi next => ?_)
    have ee : (nI i).toNatClampNeg = i := m9_cl (by omega)
    have e1 : m9_xr M rd d i 76 3 = nI U := by rw [m9_xr_3, hM]
    have hle : nI U ≤ nI i ↔ U ≤ i := m9_le (by omega) (by omega)
    have lt : ¬ m9_xr M rd d i 76 3 ≤ nI i → i < U := fun c1 => by
      rw [e1] at c1
      have : ¬ U ≤ i := fun z => c1 (hle.mpr z)
      omega
    refine bk_X7_rightUpTo_12 (rv1 := m9_tv (m9_xr M rd d i) (rd i) (d i) (M 79 i)) (mv1 := m9_xr M rd d (i + 1)) X (fun c1 => ?_) (fun c1 => ?_) (fun c1 => ?_) (fun c1 c2 => ?_) (fun c1 c2 => ?_)
    · rw [e1] at c1
      have := hle.mp c1
      have : i = K := by omega
      subst this
      exact HR 40 [] dX7_rightUpTo_40
    · have := lt c1
      exact m9_in (by omega) (by decide)
    · obtain ⟨g1, g2, g3, g4⟩ := hst i hi (lt c1)
      rw [ee, m9_xr_79]
      exact ct_X7_takes l G _ g1 g2 g3 g4 _
    · have hiK : i = K := by
        rcases Nat.lt_or_ge i K with q | q
        · have := hall i q
          rw [c2] at this
          exact absurd this (by decide)
        · omega
      subst hiK
      have e5 : m9_xr M rd d (i + 1) = m9_xr M rd d i := m9_tm_no c2
      rw [e5]
      exact HR 40 [] dX7_rightUpTo_40
    · rw [nI_1]
      refine next ?_
      rcases Nat.lt_or_ge i K with q | q
      · exact q
      · have : i = K := by omega
        subst this
        exact absurd (hstop (lt c1)) c2
  exact bk_X7_rightUpTo_0 X (loop 0 (by omega))
