/-! The reference: the calls over the text. -/
/-- how the text is read: K characters of U are right; rd parts, d what is due -/
def m9_rut (M : k9_Mem) (U K : Nat) (rd d : Nat → Nat) : Prop := U ≤ 60 ∧ M 76 3 = nI U ∧ K ≤ U ∧ (∀ i, i ≤ K → i < U → m9_xr M rd d i 76 15 = nI (rd i) ∧ 3 * rd i + 2 < 36 ∧ m9_xr M rd d i 76 16 = nI (d i) ∧ d i ≤ 6) ∧ (∀ i, i < K → m9_tv (m9_xr M rd d i) (rd i) (d i) (M 79 i) = 1) ∧ (K < U → m9_tv (m9_xr M rd d K) (rd K) (d K) (M 79 K) = 0)
theorem ct_X7_rut (l : Launch) (G : k9_G) (M : k9_Mem) {U K : Nat} {rd d : Nat → Nat} (h : m9_rut M U K rd d) : k9_Ci l yX7_rightUpTo wsX7_rightUpTo rm_X7_rightUpTo G M [.ref (k9_ga G 76)] (nI K) (m9_xr M rd d K) := ct_X7_rightUpTo l G M h.1 h.2.1 rd d h.2.2.1 h.2.2.2.1 h.2.2.2.2.1 h.2.2.2.2.2
theorem ct_X7_firstError (l : Launch) (G : k9_G) (M : k9_Mem) {U K : Nat} {rd d : Nat → Nat} (h : m9_rut (k9_st M 76 5 0) U K rd d) : k9_Ci l yX7_firstError wsX7_firstError rm_X7_firstError G M [.ref (k9_ga G 76)] (nI K) (m9_xr (k9_st M 76 5 0) rd d K) := by
  refine k9_metI (own := RX7) (by decide +kernel) rfl rfl (Nat.le_of_ble_eq_true rfl) rfl ?_
  intro p e s m args below meth c A Q X HR
  exact bk_X7_firstError_0 X (ct_X7_rut l G _ h) (HR 9 [] dX7_firstError_9)
abbrev m9_fit7 (M : k9_Mem) (i : Nat) : Prop := ¬ (96 : Int32) < M 87 (3 * i + 1) + M 87 (3 * i + 2)
theorem ct_X7_canPunchAll (l : Launch) (G : k9_G) (M : k9_Mem) {r : Nat} (hr : M 76 15 = nI r) (hA : 3 * r + 2 < 36) [Decidable (∀ i, i < r + 1 → m9_fit7 M i)] : k9_Ci l yX7_canPunchAll wsX7_canPunchAll rm_X7_canPunchAll G M [.ref (k9_ga G 76)] (m9_bi (∀ i, i < r + 1 → m9_fit7 M i)) M := by
  refine k9_metI (own := RX7) (by decide +kernel) rfl rfl (Nat.le_of_ble_eq_true rfl) m9_nb ?_
  intro p e s m args below meth c A Q X HR
  have loop : ∀ i, i ≤ r + 1 → ∀ y, m9_fg y (∀ k, k < i → m9_fit7 M k) → k9_U p l e rm_X7_canPunchAll s m args below meth c Q A G 3 0 0 M 4 [(0, .ref (k9_ga G 76)), (1, .int y), (2, .int (nI i))] [] := by
    refine m9_down (r + 1) (fun i hi next => ?_)
    intro y hy
    have hlt : nI r < nI i ↔ r < i := m9_lt (by omega) (by omega)
    have go : ¬ M 76 15 < nI i → i < r + 1 := fun c1 => by
      rw [hr] at c1
      have : ¬ r < i := fun z => c1 (hlt.mpr z)
      omega
    have e0 : (3 : Int32) * nI i = nI (3 * i) := by rw [show (3 : Int32) = nI 3 from rfl, pk_mul]
    have e1 : nI (3 * i) + 1 = nI (3 * i + 1) := nI_1 _
    have e2 : nI (3 * i) + 2 = nI (3 * i + 2) := nI_add _ 2
    have n1 : (nI (3 * i + 1)).toNatClampNeg = 3 * i + 1 := m9_cl (by omega)
    have n2 : (nI (3 * i + 2)).toNatClampNeg = 3 * i + 2 := m9_cl (by omega)
    refine bk_X7_canPunchAll_4 X (fun c1 => ?_) (fun c1 c2 => ?_) (fun c1 c2 => ?_) (fun c1 c2 => ?_) (fun c1 c2 c3 => ?_) (fun c1 c2 c3 => ?_)
    · rw [hr] at c1
      have hi2 : i = r + 1 := by have := hlt.mp c1; omega
      subst hi2
      refine k9_eq rfl ?_ (HR 55 [] dX7_canPunchAll_55)
      rcases hy with h | h
      · rw [h.1, m9_bi_t h.2]
      · rw [h.1, m9_bi_f h.2]
    · rw [nI_1]
      refine next (go c1) 0 (Or.inr ⟨rfl, fun z => ?_⟩)
      rcases hy with h | h
      · exact absurd (h.1.symm.trans c2) (by decide)
      · exact h.2 (fun k hk => z k (by omega))
    · have := go c1
      rw [e0, e1]; exact m9_in (by omega) (by decide)
    · have := go c1
      rw [e0, e2]; exact m9_in (by omega) (by decide)
    · rw [e0, e1, e2, n1, n2] at c3
      rw [nI_1]
      exact next (go c1) 0 (Or.inr ⟨rfl, fun z => z i (by omega) c3⟩)
    · rw [e0, e1, e2, n1, n2] at c3
      rw [nI_1]
      refine next (go c1) 1 (Or.inl ⟨rfl, ?_⟩)
      rcases hy with h | h
      · exact m9_al_s h.2 c3
      · exact absurd h.1 c2
  exact bk_X7_canPunchAll_0 X (loop 0 (by omega) 1 (Or.inl ⟨rfl, fun k hk => absurd hk (by omega)⟩))
/-- the parts are punched, one after the other -/
def m9_pp (S : k9_Mem) (B : Nat) : Nat → k9_Mem
  | 0 => S
  | i + 1 => k9_sc (m9_pp S B i) 77 (m9_zc (m9_pp S B i 77) (m9_tk (m9_tkn (S 87 (3 * i)))) (m9_pe (S 87 (3 * i + 1)).toNatClampNeg (S 87 (3 * i + 2)).toNatClampNeg B))
theorem m9_pp_ne (S : k9_Mem) (B : Nat) {k : Nat} (h : k ≠ 77) : ∀ i, m9_pp S B i k = S k
  | 0 => rfl
  | i + 1 => (k9_sc_ne _ _ h).trans (m9_pp_ne S B h i)
theorem m9_zc_out (Z : Nat → Int32) (x : Int32) (P : Nat → Bool) {j : Nat} (h : 192 ≤ j) : m9_zc Z x P j = Z j := by
  unfold m9_zc
  rw [if_neg (by omega), if_neg (by omega)]
theorem m9_pp_hi (S : k9_Mem) (B : Nat) {j : Nat} (h : 192 ≤ j) : ∀ i, m9_pp S B i 77 j = S 77 j
  | 0 => rfl
  | i + 1 => by
    show k9_sc _ 77 _ 77 j = _
    rw [k9_sc_eq, m9_zc_out _ _ _ h, m9_pp_hi S B h i]
def m9_ppn (S : k9_Mem) (B : Nat) : Nat → Int32 := m9_sum (fun i => m9_zn (m9_pp S B i 77) (m9_tk (m9_tkn (S 87 (3 * i)))) (m9_pe (S 87 (3 * i + 1)).toNatClampNeg (S 87 (3 * i + 2)).toNatClampNeg B))
abbrev m9_prt7 (S : k9_Mem) (i : Nat) : Prop := ∃ f n : Nat, S 87 (3 * i + 1) = nI f ∧ S 87 (3 * i + 2) = nI n ∧ f < 96 ∧ 1 ≤ n ∧ n ≤ 96
theorem m9_xr_1 (M : k9_Mem) (rd d : Nat → Nat) : ∀ i, m9_xr M rd d i 76 1 = M 76 1
  | 0 => by
    show k9_st (k9_st M 76 15 0) 76 16 0 76 1 = _
    rw [m9_st_at_ne _ _ (by decide), m9_st_at_ne _ _ (by decide)]
  | i + 1 => (m9_tm_3 (by decide) (by decide)).trans (m9_xr_1 M rd d i)
theorem m9_xr_77 (M : k9_Mem) (rd d : Nat → Nat) : ∀ i, m9_xr M rd d i 77 = M 77
  | 0 => by
    show k9_st (k9_st M 76 15 0) 76 16 0 77 = _
    rw [m9_st_ne _ _ _ (by decide), m9_st_ne _ _ _ (by decide)]
  | i + 1 => (m9_tm_f (by decide) (by decide)).trans (m9_xr_77 M rd d i)
/-- what punchAll answers as refused -/
def m9_rpa (N : k9_Mem) (U K r : Nat) [Decidable (∀ i, i < r + 1 → m9_fit7 N i)] : Int32 := if ¬ (K = U ∧ N 76 16 = 6) then 1 else if ∀ i, i < r + 1 → m9_fit7 N i then 0 else 2
def m9_paS (N : k9_Mem) (F : Nat) : k9_Mem := k9_st (m9_save (k9_st N 76 5 0) F) 76 3 0
theorem ct_X7_punchAll (l : Launch) (G : k9_G) (M : k9_Mem) {U K r F B : Nat} {rd d : Nat → Nat} (h : m9_rut M U K rd d) (hr : m9_xr M rd d K 76 15 = nI r) (hA : 3 * r + 2 < 36) (hF : F ≤ 6) (hM1 : M 76 1 = nI F) (hB : B < 1000) (hM2 : M 77 384 = nI B)
    (hp : K = U → m9_xr M rd d K 76 16 = 6 → ∀ i, i < r + 1 → m9_prt7 (m9_xr M rd d K) i) [Decidable (∀ i, i < r + 1 → m9_fit7 (m9_xr M rd d K) i)] :
    k9_Ci l yX7_punchAll wsX7_punchAll rm_X7_punchAll G M [.ref (k9_ga G 76)] (if m9_rpa (m9_xr M rd d K) U K r = 0 then m9_ppn (m9_paS (m9_xr M rd d K) F) B (r + 1) else 0)
      (if m9_rpa (m9_xr M rd d K) U K r = 0 then m9_pp (m9_paS (m9_xr M rd d K) F) B (r + 1) else k9_st (m9_xr M rd d K) 76 5 (m9_rpa (m9_xr M rd d K) U K r)) := by
  refine k9_metI (own := RX7) (by decide +kernel) rfl rfl (Nat.le_of_ble_eq_true rfl) rfl ?_
  intro p e s m args below meth c A Q X HR
  have hK := h.2.2.1
  have hU := h.1
  have f3 : m9_xr M rd d K 76 3 = nI U := by rw [m9_xr_3, h.2.1]
  have f1 : m9_xr M rd d K 76 1 = nI F := by rw [m9_xr_1, hM1]
  have f77 : m9_xr M rd d K 77 = M 77 := m9_xr_77 M rd d K
  obtain ⟨N, hN⟩ : ∃ N, N = m9_xr M rd d K := ⟨_, rfl⟩
  have cr := ct_X7_rut l G M h
  simp only [← hN] at HR hr hp f3 f1 f77 cr ⊢
  have eKU : nI K = N 76 3 ↔ K = U := by rw [f3]; exact m9_eq (by omega) (by omega)
  obtain ⟨S, hS⟩ : ∃ S, S = m9_paS N F := ⟨_, rfl⟩
  have s77 : S 77 = N 77 := by rw [hS, m9_paS, m9_st_ne _ _ _ (by decide), m9_save_ne _ _ (by decide) (by decide), m9_st_ne _ _ _ (by decide)]
  have s87 : S 87 = N 87 := by rw [hS, m9_paS, m9_st_ne _ _ _ (by decide), m9_save_ne _ _ (by decide) (by decide), m9_st_ne _ _ _ (by decide)]
  have s15 : S 76 15 = nI r := by rw [hS, m9_paS, m9_st_at_ne _ _ (by decide), m9_save_76 _ _ (by decide), m9_st_at_ne _ _ (by decide), hr]
  have run : (∀ i, i < r + 1 → m9_prt7 N i ∧ m9_fit7 N i) → (k9_U p l e rm_X7_punchAll s m args below meth c Q A G 4 0 0 (m9_pp S B (r + 1)) 122 [] [.int (m9_ppn S B (r + 1))]) → ∀ i, i ≤ r + 1 → k9_U p l e rm_X7_punchAll s m args below meth c Q A G 4 0 0 (m9_pp S B i) 72 [(0, .ref (k9_ga G 76)), (2, .int (m9_ppn S B i)), (3, .int (nI i))] [] := fun hq out => by
    refine m9_down (r + 1) (fun i hi next => ?_)
    have e15 : m9_pp S B i 76 15 = nI r := by rw [m9_pp_ne _ _ (by decide), s15]
    have e87 : m9_pp S B i 87 = S 87 := m9_pp_ne _ _ (by decide) i
    have hlt : nI r < nI i ↔ r < i := m9_lt (by omega) (by omega)
    have go : ¬ m9_pp S B i 76 15 < nI i → i < r + 1 := fun c1 => by
      rw [e15] at c1
      have : ¬ r < i := fun z => c1 (hlt.mpr z)
      omega
    have e0 : (3 : Int32) * nI i = nI (3 * i) := by rw [show (3 : Int32) = nI 3 from rfl, pk_mul]
    have e1 : nI (3 * i) + 1 = nI (3 * i + 1) := nI_1 _
    have e2 : nI (3 * i) + 2 = nI (3 * i + 2) := nI_add _ 2
    have n0 : (nI (3 * i)).toNatClampNeg = 3 * i := m9_cl (by omega)
    have n1 : (nI (3 * i + 1)).toNatClampNeg = 3 * i + 1 := m9_cl (by omega)
    have n2 : (nI (3 * i + 2)).toNatClampNeg = 3 * i + 2 := m9_cl (by omega)
    refine bk_X7_punchAll_72 (rv1 := m9_zn (m9_pp S B i 77) (m9_tk (m9_tkn (S 87 (3 * i)))) (m9_pe (S 87 (3 * i + 1)).toNatClampNeg (S 87 (3 * i + 2)).toNatClampNeg B)) (mv1 := m9_pp S B (i + 1)) X (fun c1 => ?_) (fun c1 => ?_) (fun c1 => ?_) (fun c1 => ?_) (fun c1 => ?_) (fun c1 => ?_)
    · rw [e15] at c1
      have hi2 : i = r + 1 := by have := hlt.mp c1; omega
      subst hi2
      exact out
    · have := go c1
      rw [e0]; exact m9_in (by omega) (by decide)
    · have := go c1
      rw [e0, e1]; exact m9_in (by omega) (by decide)
    · have := go c1
      rw [e0, e2]; exact m9_in (by omega) (by decide)
    · obtain ⟨⟨f, n, g1, g2, g3, g4, g5⟩, g6⟩ := hq i (go c1)
      have g7 : f + n ≤ 96 := by
        rw [m9_fit7, g1, g2, nI_add] at g6
        have q := m9_lt (a := 96) (b := f + n) (by decide) (by omega)
        have : ¬ 96 < f + n := fun z => g6 (q.mpr z)
        omega
      rw [← s87] at g1 g2
      have h9 := ct_X7_punchChain l G (m9_pp S B i) (S 87 (3 * i)) (f := f) (n := n) (B := B) g4 g7 hB (by rw [m9_pp_hi _ _ (by decide), s77, f77, hM2])
      rw [e0, e1, e2, n0, n1, n2, e87]
      have y1 : (S 87 (3 * i + 1)).toNatClampNeg = f := by rw [g1, m9_cl (by omega)]
      have y2 : (S 87 (3 * i + 2)).toNatClampNeg = n := by rw [g2, m9_cl (by omega)]
      show k9_Ci l yX7_punchChain wsX7_punchChain rm_X7_punchChain G (m9_pp S B i) _ _ (k9_sc (m9_pp S B i) 77 (m9_zc (m9_pp S B i 77) (m9_tk (m9_tkn (S 87 (3 * i)))) (m9_pe (S 87 (3 * i + 1)).toNatClampNeg (S 87 (3 * i + 2)).toNatClampNeg B)))
      rw [y1, y2, g1, g2]
      exact h9
    · have h9 := next (go c1)
      rw [nI_1]; exact h9
  refine bk_X7_punchAll_0 X cr (fun c1 => ?_) (fun c1 c2 => ?_) (fun c1 c2 => ct_X7_canPunchAll l G N hr hA) (fun c1 c2 c3 => ?_) (fun c1 c2 c3 => ct_X7_save l G _ hF (by rw [m9_st_at_ne _ _ (by decide), f1])) (fun c1 c2 c3 => ?_)
  · have h0 : m9_rpa N U K r = 1 := by rw [m9_rpa, if_pos (fun z => c1 (eKU.mpr z.1))]
    have h9 := HR 58 [] dX7_punchAll_58
    rw [h0, if_neg (by decide), if_neg (by decide)] at h9
    exact h9
  · have h0 : m9_rpa N U K r = 1 := by rw [m9_rpa, if_pos (fun z => c2 z.2)]
    have h9 := HR 58 [] dX7_punchAll_58
    rw [h0, if_neg (by decide), if_neg (by decide)] at h9
    exact h9
  · have h0 : m9_rpa N U K r = 2 := by rw [m9_rpa, if_neg (fun z => z ⟨eKU.mp c1, c2⟩), if_neg (m9_bi_0 c3)]
    have h9 := HR 58 [] dX7_punchAll_58
    rw [h0, if_neg (by decide), if_neg (by decide)] at h9
    exact h9
  · have h0 : m9_rpa N U K r = 0 := by rw [m9_rpa, if_neg (fun z => z ⟨eKU.mp c1, c2⟩), if_pos (m9_bi_1 c3)]
    have h9 := HR 122 [] dX7_punchAll_122
    rw [if_pos h0, if_pos h0, ← hS] at h9
    have h8 := run (fun i hi => ⟨hp (eKU.mp c1) c2 i hi, m9_bi_1 c3 i hi⟩) h9 0 (by omega)
    rw [show m9_pp S B 0 = S from rfl, hS] at h8
    exact h8
