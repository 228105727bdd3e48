/-! Chains that are cut, copies of papers, listening, the shelf. -/
theorem m9_sub1 {n : Nat} (h : 1 ≤ n) : nI n - 1 = nI (n - 1) := pk_sub h
theorem ct_X3_cutChain (l : Launch) (G : k9_G) (M : k9_Mem) (v : Int32) {f n B : Nat} (hn : 1 ≤ n) (hfn : f + n ≤ 96) (hB : B < 1000) (hM : M 1 5 = nI B) : k9_Ci l yX3_cutChain wsX3_cutChain rm_X3_cutChain G M [.ref (k9_ga G 1), .int v, .int (nI f), .int (nI n)] (m9_chn M (m9_tk (v + 2)) f n B (f + n)) (m9_ch M (m9_tk (v + 2)) f n B (f + n)) := by
  refine k9_metI (own := RX3) (by decide +kernel) rfl rfl (Nat.le_of_ble_eq_true rfl) rfl ?_
  intro p e s m args below meth c A Q X HR
  obtain ⟨x, hx⟩ : ∃ x, x = m9_tk (v + 2) := ⟨_, rfl⟩
  rw [← hx] at HR
  have loop : ∀ j, j ≤ n → ∀ nx, nx < 3000 → (j < n → (nx - f) % (B + 1) = 0 ∧ f + j ≤ nx ∧ nx < f + j + (B + 1)) → k9_U p l e rm_X3_cutChain s m args below meth c Q A G 9 0 0 (m9_ch M x f n B (f + j)) 23 [(0, .ref (k9_ga G 1)), (4, .int x), (5, .int (nI (f + n - 1))), (6, .int (m9_chn M x f n B (f + j))), (7, .int (nI nx)), (8, .int (nI (f + j)))] [] := by
    refine m9_down n (fun j hj next nx hnx hb => ?_)
    have hlt : nI (f + n - 1) < nI (f + j) ↔ f + n - 1 < f + j := m9_lt (by omega) (by omega)
    have heq : nI (f + j) = nI nx ↔ f + j = nx := m9_eq (by omega) (by omega)
    have hla : nI (f + j) = nI (f + n - 1) ↔ f + j = f + n - 1 := m9_eq (by omega) (by omega)
    have h15 : ∀ i, m9_ch M x f n B i 1 5 = nI B := fun i => by rw [m9_ch_f M x f n B i (by decide) (by decide), hM]
    have hmod : j < n → ((f + j - f) % (B + 1) = 0 ↔ f + j = nx) := fun h => by
      obtain ⟨b1, b2, b3⟩ := hb h
      have := m9_nx (k := j) (b := B) (nx := nx - f) (by omega) (by omega) b1
      rw [show f + j - f = j by omega, this]
      omega
    have step : ∀ (cu : j < n) (hcs : m9_cs f n B (f + j)) (nx' : Nat), nx' = f + j + B + 1 → (j + 1 < n → (nx' - f) % (B + 1) = 0 ∧ f + (j + 1) ≤ nx' ∧ nx' < f + (j + 1) + (B + 1)) → k9_U p l e rm_X3_cutChain s m args below meth c Q A G 9 0 0 (m9_ch M x f n B (f + j + 1)) 23 [(0, .ref (k9_ga G 1)), (4, .int x), (5, .int (nI (f + n - 1))), (6, .int (m9_chn M x f n B (f + j) + m9_bi (M 2 (f + j) &&& x = 0))), (7, .int (nI (f + j) + m9_ch M x f n B (f + j + 1) 1 5 + 1)), (8, .int (nI (f + j) + 1))] [] := fun cu hcs nx' hnx' hb' => by
      have h := next cu nx' (by omega) hb'
      rw [show f + (j + 1) = f + j + 1 by omega, m9_chn_yes hcs] at h
      rw [h15, nI_add, nI_1, nI_1, ← hnx']
      exact h
    have ct : j < n → m9_cs f n B (f + j) → k9_Ci l yX3_cut wsX3_cut rm_X3_cut G (m9_ch M x f n B (f + j)) [.ref (k9_ga G 1), .int (nI (f + j)), .int x] (m9_bi (M 2 (f + j) &&& x = 0)) (m9_ch M x f n B (f + j + 1)) := fun cu hcs => by
      have h := ct_X3_cut l G (m9_ch M x f n B (f + j)) (i := f + j) (by omega) x
      rw [m9_ch_2, m9_ch_3, m9_ch_yes hcs] at h
      exact h
    have go : ¬ nI (f + n - 1) < nI (f + j) → j < n := fun c1 => by
      rcases Nat.lt_or_ge j n with q | q
      · exact q
      · exact absurd (hlt.mpr (by omega)) c1
    refine bk_X3_cutChain_23 (rv1 := m9_bi (M 2 (f + j) &&& x = 0)) (mv1 := m9_ch M x f n B (f + j + 1)) (rv2 := m9_bi (M 2 (f + j) &&& x = 0)) (mv2 := m9_ch M x f n B (f + j + 1)) X (fun c1 => ?_) (fun c1 c2 => ?_) (fun c1 c2 => ?_) (fun c1 c2 c3 => ?_) (fun c1 c2 c3 => ?_) (fun c1 c2 c3 => ?_)
    · have : j = n := by have := hlt.mp c1; omega
      subst this
      exact HR 76 [] dX3_cutChain_76
    · have cu := go c1
      have e := heq.mp c2
      exact ct cu ⟨by omega, by omega, Or.inl ((hmod cu).mpr e)⟩
    · have cu := go c1
      have e := heq.mp c2
      have hz := (hmod cu).mpr e
      refine step cu ⟨by omega, by omega, Or.inl hz⟩ _ rfl (fun h => ⟨?_, by omega, by omega⟩)
      rw [show f + j + B + 1 - f = j + (B + 1) by omega, Nat.add_mod_right]
      rw [show f + j - f = j by omega] at hz
      exact hz
    · have cu := go c1
      have e : ¬ f + j = nx := fun z => c2 (heq.mpr z)
      have e2 : ¬ f + j = f + n - 1 := fun z => c3 (hla.mpr z)
      have hcs : ¬ m9_cs f n B (f + j) := fun z => by
        rcases z.2.2 with q | q
        · exact e ((hmod cu).mp q)
        · omega
      have h := next cu nx hnx (fun h => by
        obtain ⟨b1, b2, b3⟩ := hb cu
        exact ⟨b1, by omega, by omega⟩)
      rw [show f + (j + 1) = f + j + 1 by omega, m9_chn_no hcs, m9_ch_no hcs] at h
      rw [nI_1]; exact h
    · have cu := go c1
      have e2 := hla.mp c3
      exact ct cu ⟨by omega, by omega, Or.inr (by omega)⟩
    · have cu := go c1
      have e2 := hla.mp c3
      exact step cu ⟨by omega, by omega, Or.inr (by omega)⟩ _ rfl (fun h => by omega)
  have h := loop 0 (by omega) f (by omega) (fun _ => ⟨by rw [Nat.sub_self, Nat.zero_mod], by omega, by omega⟩)
  rw [Nat.add_zero, m9_ch_0 M x f n B f (Nat.le_refl f), m9_chn_0 M x f n B f (Nat.le_refl f), hx] at h
  refine bk_X3_cutChain_0 X ?_
  rw [nI_add, m9_sub1 (by omega)]
  exact h
def m9_hi (n B i : Nat) : Int32 := m9_sum (fun s => m9_bi (m9_cs 0 n B s)) i
theorem ct_X3_holesIn (l : Launch) (G : k9_G) (M : k9_Mem) {n B : Nat} (hn : n ≤ 96) (hB : B < 1000) (hM : M 1 5 = nI B) : k9_Ci l yX3_holesIn wsX3_holesIn rm_X3_holesIn G M [.ref (k9_ga G 1), .int (nI n)] (m9_hi n B n) M := by
  refine k9_metI (own := RX3) (by decide +kernel) rfl rfl (Nat.le_of_ble_eq_true rfl) rfl ?_
  intro p e s m args below meth c A Q X HR
  have loop : ∀ j, j ≤ n → ∀ nx, nx < 3000 → (j < n → nx % (B + 1) = 0 ∧ j ≤ nx ∧ nx < j + (B + 1)) → k9_U p l e rm_X3_holesIn s m args below meth c Q A G 5 0 0 M 7 [(0, .ref (k9_ga G 1)), (1, .int (nI n)), (2, .int (m9_hi n B j)), (3, .int (nI nx)), (4, .int (nI j))] [] := by
    refine m9_down n (fun j hj next nx hnx hb => ?_)
    have hle : nI n ≤ nI j ↔ n ≤ j := m9_le (by omega) (by omega)
    have heq : nI j = nI nx ↔ j = nx := m9_eq (by omega) (by omega)
    have hmod : j < n → (j % (B + 1) = 0 ↔ j = nx) := fun h => by
      obtain ⟨b1, b2, b3⟩ := hb h
      exact m9_nx b2 b3 b1
    have go : ¬ nI n ≤ nI j → j < n := fun c1 => by
      rcases Nat.lt_or_ge j n with q | q
      · exact q
      · exact absurd (hle.mpr q) c1
    have hla : j < n → (nI j = nI n - 1 ↔ j + 1 = n) := fun h => by
      rw [m9_sub1 (by omega), m9_eq (by omega) (by omega)]
      omega
    have step : ∀ (cu : j < n) (hcs : m9_cs 0 n B j) (nx' : Nat), nx' = j + B + 1 → (j + 1 < n → nx' % (B + 1) = 0 ∧ (j + 1) ≤ nx' ∧ nx' < (j + 1) + (B + 1)) → k9_U p l e rm_X3_holesIn s m args below meth c Q A G 5 0 0 M 7 [(0, .ref (k9_ga G 1)), (1, .int (nI n)), (2, .int (m9_hi n B j + 1)), (3, .int (nI j + M 1 5 + 1)), (4, .int (nI j + 1))] [] := fun cu hcs nx' hnx' hb' => by
      have h := next cu nx' (by omega) hb'
      rw [m9_hi, m9_sum_s, m9_bi_t hcs] at h
      rw [hM, nI_add, nI_1, nI_1, ← hnx']
      exact h
    refine bk_X3_holesIn_7 X (fun c1 => ?_) (fun c1 c2 => ?_) (fun c1 c2 c3 => ?_) (fun c1 c2 c3 => ?_)
    · have : j = n := by have := hle.mp c1; omega
      subst this
      exact HR 47 [] dX3_holesIn_47
    · have cu := go c1
      have e := heq.mp c2
      have hz := (hmod cu).mpr e
      refine step cu ⟨by omega, by omega, Or.inl hz⟩ _ rfl (fun h => ⟨?_, by omega, by omega⟩)
      rw [show j + B + 1 = j + (B + 1) by omega, Nat.add_mod_right]
      exact hz
    · have cu := go c1
      have e : ¬ j = nx := fun z => c2 (heq.mpr z)
      have e2 : ¬ j + 1 = n := fun z => c3 ((hla cu).mpr z)
      have hcs : ¬ m9_cs 0 n B j := fun z => by
        rcases z.2.2 with q | q
        · exact e ((hmod cu).mp q)
        · omega
      have h := next cu nx hnx (fun h => by
        obtain ⟨b1, b2, b3⟩ := hb cu
        exact ⟨b1, by omega, by omega⟩)
      rw [m9_hi, m9_sum_s, m9_bi_f hcs, m9_add0] at h
      rw [nI_1]; exact h
    · have cu := go c1
      have e2 := (hla cu).mp c3
      exact step cu ⟨by omega, by omega, Or.inr (by omega)⟩ _ rfl (fun h => by omega)
  exact bk_X3_holesIn_0 X (loop 0 (by omega) 0 (by omega) (fun _ => ⟨Nat.zero_mod _, by omega, by omega⟩))
def m9_cr (M : k9_Mem) (q o j : Nat) : Nat → Int32 := va_cpy (M (o + j)) (M (q + j)) 0 0 96
def m9_cp1 (M : k9_Mem) (q o : Nat) : k9_Mem := k9_sc (k9_sc (k9_sc (k9_sc M (q + 1) (m9_cr M q o 1)) (q + 2) (m9_cr M q o 2)) (q + 3) (m9_cr M q o 3)) (q + 4) (m9_cr M q o 4)
def m9_cp (M : k9_Mem) (q o : Nat) : k9_Mem := k9_st (k9_st (m9_cn (m9_cp1 M q o) (q + 5) (o + 5) 96) q 5 (M o 5)) q 6 (M o 6)
theorem m9_pap {q o : Nat} (hq : k9_isP q) (ho : k9_isP o) (h : q ≠ o) : ∀ i j, i < 8 → j < 8 → o + i ≠ q + j := by
  have key : ∀ q ∈ ([1, 9, 17, 25, 33, 41, 49] : List Nat), ∀ o ∈ ([1, 9, 17, 25, 33, 41, 49] : List Nat), q ≠ o → o + 8 ≤ q ∨ q + 8 ≤ o := by decide
  have := key q hq o ho h
  intro i j hi hj
  omega
theorem m9_cn_ne (M : k9_Mem) (q o i : Nat) {k : Nat} (h1 : k ≠ q + 1) (h2 : k ≠ q + 2) : m9_cn M q o i k = M k := m9_two_ne M h1 h2 _ _
theorem m9_isPC {q : Nat} (h : k9_isP q) : k9_isC (q + 5) := by
  have key : ∀ q ∈ ([1, 9, 17, 25, 33, 41, 49] : List Nat), k9_isC (q + 5) := by decide
  exact key q h
theorem ct_X3_copyFrom (l : Launch) (G : k9_G) (M : k9_Mem) {q o : Nat} (hq : k9_isP q) (ho : k9_isP o) (hqo : q ≠ o) : k9_Cv l yX3_copyFrom wsX3_copyFrom rm_X3_copyFrom G M [.ref (k9_ga G q), .ref (k9_ga G o)] (m9_cp M q o) := by
  have P := m9_pap hq ho hqo
  have P0 : ∀ j, j < 8 → o ≠ q + j := fun j hj => P 0 j (by decide) hj
  have e21 : o + 2 ≠ q + 1 := P 2 1 (by decide) (by decide)
  have e31 : o + 3 ≠ q + 1 := P 3 1 (by decide) (by decide)
  have e32 : o + 3 ≠ q + 2 := P 3 2 (by decide) (by decide)
  have e41 : o + 4 ≠ q + 1 := P 4 1 (by decide) (by decide)
  have e42 : o + 4 ≠ q + 2 := P 4 2 (by decide) (by decide)
  have e43 : o + 4 ≠ q + 3 := P 4 3 (by decide) (by decide)
  have f21 : q + 2 ≠ q + 1 := by omega
  have f31 : q + 3 ≠ q + 1 := by omega
  have f32 : q + 3 ≠ q + 2 := by omega
  have f41 : q + 4 ≠ q + 1 := by omega
  have f42 : q + 4 ≠ q + 2 := by omega
  have f43 : q + 4 ≠ q + 3 := by omega
  refine k9_metV (own := RX3) (by decide +kernel) rfl rfl (Nat.le_of_ble_eq_true rfl) ?_
  intro p e s m args below meth c A Q X HR
  refine bk_X3_copyFrom_0 (mv1 := m9_cn (m9_cp1 M q o) (q + 5) (o + 5) 96) X hq ho ?_ ?_
  · simp only [k9_sc_ne _ _ e21, k9_sc_ne _ _ e31, k9_sc_ne _ _ e32, k9_sc_ne _ _ e41, k9_sc_ne _ _ e42, k9_sc_ne _ _ e43, k9_sc_ne _ _ f21, k9_sc_ne _ _ f31, k9_sc_ne _ _ f32, k9_sc_ne _ _ f41, k9_sc_ne _ _ f42, k9_sc_ne _ _ f43]
    exact ct_X0_copyNotes l G (m9_cp1 M q o) (m9_isPC hq) (m9_isPC ho) (by omega)
  · have h0 : m9_cn (m9_cp1 M q o) (q + 5) (o + 5) 96 o = M o := by
      rw [m9_cn_ne _ _ _ _ (P0 6 (by decide)) (P0 7 (by decide)), m9_cp1, k9_sc_ne _ _ (P0 4 (by decide)), k9_sc_ne _ _ (P0 3 (by decide)), k9_sc_ne _ _ (P0 2 (by decide)), k9_sc_ne _ _ (P0 1 (by decide))]
    rw [m9_st_ne _ _ _ (Ne.symm hqo), h0]
    exact HR 87 [] dX3_copyFrom_87
/-! Hearing listens. -/
def m9_rd (M : k9_Mem) (i : Nat) : Int32 := m9_va M i (M 5 i)
def m9_hr1 (M : k9_Mem) : k9_Mem := k9_sc M 58 (m9_fl (m9_rd M) (M 58) 96)
def m9_hr2 (M : k9_Mem) (B : Nat) : k9_Mem := m9_lk (m9_hr1 M) 59 58 B 96
def m9_hr3 (M : k9_Mem) (B : Nat) : k9_Mem := k9_sc (m9_hr2 M B) 62 (m9_fl (m9_pl (m9_hr2 M B 60) (m9_hr2 M B 61)) (m9_hr2 M B 62) 96)
def m9_hear (M : k9_Mem) (B : Nat) : k9_Mem := k9_sc (m9_hr3 M B) 63 (m9_fl (m9_so (m9_hr3 M B 62) (m9_hr3 M B 61)) (m9_hr3 M B 63) 96)
theorem m9_ar58 : k9_ar 58 96 := ⟨by decide, by decide, by decide⟩
theorem ct_X1_listenTo (l : Launch) (G : k9_G) (M : k9_Mem) {B : Nat} (hB : B < 1000) (hM : M 1 5 = nI B) : k9_Cv l yX1_listenTo wsX1_listenTo rm_X1_listenTo G M [.ref (k9_ga G 57), .ref (k9_ga G 1)] (m9_hear M B) := by
  refine k9_metV (own := RX1) (by decide +kernel) rfl rfl (Nat.le_of_ble_eq_true rfl) ?_
  intro p e s m args below meth c A Q X HR
  have loop : ∀ i, i ≤ 96 → k9_U p l e rm_X1_listenTo s m args below meth c Q A G 3 0 0 (k9_sc M 58 (m9_fl (m9_rd M) (M 58) i)) 2 [(0, .ref (k9_ga G 57)), (1, .ref (k9_ga G 1)), (2, .int (nI i))] [] := by
    refine m9_down 96 (fun i hi next => ?_)
    have ee : (nI i).toNatClampNeg = i := m9_cl (by omega)
    refine bk_X1_listenTo_2 (mv1 := m9_hr2 M B) (mv2 := m9_hr3 M B) (mv3 := m9_hear M B) (rv4 := m9_rd M i) X (fun c1 => ?_) (fun c1 => ?_) (fun c1 => ?_) (fun c1 => ?_) (fun c1 => m9_in (m9_go (N := 96) (by decide) hi c1) (by decide)) (fun c1 => ?_) (fun c1 => ?_)
    · have hi2 := m9_ex (N := 96) (by decide) hi c1
      subst hi2
      rw [k9_sc_ne _ _ (by decide), hM]
      exact ct_X0_link l G (m9_hr1 M) (by decide) m9_ar58 (by decide) (by decide) hB
    · exact ct_X1_fillPlaying l G _
    · exact ct_X1_fillSounding l G _
    · exact HR 54 [] dX1_listenTo_54
    · rw [ee]
      exact ct_X3_voicesAt l G (k9_sc M 58 (m9_fl (m9_rd M) (M 58) i)) (m9_go (N := 96) (by decide) hi c1) (M 5 i)
    · have h := next (m9_go (N := 96) (by decide) hi c1)
      rw [ee, m9_st_sc, m9_fl_succ, nI_1]
      exact h
  have h := loop 0 (by decide)
  rw [m9_fl_0, m9_sc_same rfl] at h
  exact bk_X1_listenTo_0 X h
/-! Shelf. -/
abbrev m9_sh (M : k9_Mem) (F : Nat) : Prop := M 64 1 = nI F ∧ F ≤ 6 ∧ ∀ j, j < 6 → k9_isP (k9_pc (M 65 j)) ∧ k9_pc (M 65 j) ≠ 1
def m9_do (M : k9_Mem) : k9_Mem := k9_st (k9_st (k9_sc M 65 (m9_fl (fun j => M 65 (j + 1)) (M 65) 5)) 65 5 (M 65 0)) 64 1 (nI 5)
theorem ct_X4_dropOldest (l : Launch) (G : k9_G) (M : k9_Mem) {F : Nat} (hs : m9_sh M F) : k9_Cv l yX4_dropOldest wsX4_dropOldest rm_X4_dropOldest G M [.ref (k9_ga G 64)] (m9_do M) := by
  refine k9_metV (own := RX4) (by decide +kernel) rfl rfl (Nat.le_of_ble_eq_true rfl) ?_
  intro p e s m args below meth c A Q X HR
  have loop : ∀ i, i ≤ 5 → k9_U p l e rm_X4_dropOldest s m args below meth c Q A G 3 0 0 (k9_sc M 65 (m9_fl (fun j => M 65 (j + 1)) (M 65) i)) 9 [(0, .ref (k9_ga G 64)), (1, .ref (k9_ga G (k9_pc (M 65 0)))), (2, .int (nI (i + 1)))] [] := by
    refine m9_down 5 (fun i hi next => ?_)
    have ee : (nI (i + 1)).toNatClampNeg = i + 1 := m9_cl (by omega)
    have e5 : (nI 5).toNatClampNeg = 5 := m9_cl (by omega)
    have e6 : (6 : Int32) - 1 = nI 5 := by decide
    have ei : nI (i + 1) - 1 = nI i := m9_sub1 (by omega)
    have e1 : (nI i).toNatClampNeg = i := m9_cl (by omega)
    have hle : (6 : Int32) ≤ nI (i + 1) ↔ 6 ≤ i + 1 := m9_le (a := 6) (by decide) (by omega)
    have er : k9_sc M 65 (m9_fl (fun j => M 65 (j + 1)) (M 65) i) 65 (i + 1) = M 65 (i + 1) := by rw [k9_sc_eq, m9_fl_out (by omega)]
    have go : ¬ (6 : Int32) ≤ nI (i + 1) → i < 5 := fun c1 => by
      rcases Nat.lt_or_ge i 5 with q | q
      · exact q
      · exact absurd (hle.mpr (by omega)) c1
    refine bk_X4_dropOldest_9 X (hs.2.2 0 (by decide)).1 (fun c1 => ?_) (fun c1 => ?_) (fun c1 => ?_) (fun c1 => ?_) (fun c1 => ?_) (fun c1 => ?_)
    · rw [e6]; exact m9_in (by decide) (by decide)
    · have hi2 : i = 5 := by have := hle.mp c1; omega
      subst hi2
      rw [e6, e5]
      exact HR 62 [] dX4_dropOldest_62
    · have := go c1
      exact m9_in (by omega) (by decide)
    · have := go c1
      rw [ee, er]
      exact (hs.2.2 (i + 1) (by omega)).1
    · have := go c1
      rw [ei]; exact m9_in (by omega) (by decide)
    · have h := next (go c1)
      rw [ei, e1, ee, er, m9_st_sc, m9_fl_succ (fun j => M 65 (j + 1)), nI_1]
      exact h
  have h := loop 0 (by decide)
  rw [m9_fl_0, m9_sc_same rfl] at h
  exact bk_X4_dropOldest_0 X (m9_in (a := 0) (by decide) (by decide)) (hs.2.2 0 (by decide)).1 h
def m9_kp1 (M : k9_Mem) (F : Nat) : k9_Mem := k9_st (m9_cp M (k9_pc (M 65 F)) 1) 64 1 (nI (F + 1))
def m9_keep (M : k9_Mem) (F : Nat) : k9_Mem := if F < 6 then m9_kp1 M F else m9_kp1 (m9_do M) 5
theorem m9_cp_ne (M : k9_Mem) {q o k : Nat} (h : ∀ j, j < 8 → k ≠ q + j) : m9_cp M q o k = M k := by
  have h0 : k ≠ q := h 0 (by decide)
  rw [m9_cp, m9_st_ne _ _ _ h0, m9_st_ne _ _ _ h0, m9_cn_ne _ _ _ _ (h 6 (by decide)) (h 7 (by decide)), m9_cp1, k9_sc_ne _ _ (h 4 (by decide)), k9_sc_ne _ _ (h 3 (by decide)), k9_sc_ne _ _ (h 2 (by decide)), k9_sc_ne _ _ (h 1 (by decide))]
theorem m9_isP_le {q : Nat} (h : k9_isP q) : 1 ≤ q ∧ q ≤ 49 := by
  have key : ∀ q ∈ ([1, 9, 17, 25, 33, 41, 49] : List Nat), 1 ≤ q ∧ q ≤ 49 := by decide
  exact key q h
theorem m9_do_sh {M : k9_Mem} {F : Nat} (hs : m9_sh M F) : m9_sh (m9_do M) 5 := by
  refine ⟨?_, by decide, fun j hj => ?_⟩
  · rw [m9_do, m9_st_at, m9_upd_at]
  · have e : m9_do M 65 j = if j = 5 then M 65 0 else M 65 (j + 1) := by
      rw [m9_do, m9_st_ne _ _ _ (by decide), m9_st_at]
      by_cases c : j = 5
      · subst c; rw [m9_upd_at, if_pos rfl]
      · rw [m9_upd_ne _ _ c, k9_sc_eq, m9_fl_in (by omega), if_neg c]
    rw [e]
    by_cases c : j = 5
    · rw [if_pos c]; exact hs.2.2 0 (by decide)
    · rw [if_neg c]; exact hs.2.2 (j + 1) (by omega)
theorem ct_X4_keep (l : Launch) (G : k9_G) (M : k9_Mem) {F : Nat} (hs : m9_sh M F) : k9_Cv l yX4_keep wsX4_keep rm_X4_keep G M [.ref (k9_ga G 64), .ref (k9_ga G 1)] (m9_keep M F) := by
  refine k9_metV (own := RX4) (by decide +kernel) rfl rfl (Nat.le_of_ble_eq_true rfl) ?_
  intro p e s m args below meth c A Q X HR
  have hd := m9_do_sh hs
  have hF := hs.2.1
  have core : ∀ (N : k9_Mem) (F' : Nat), F' < 6 → m9_sh N F' → k9_st (m9_cp N (k9_pc (N 65 (N 64 1).toNatClampNeg)) 1) 64 1 (m9_cp N (k9_pc (N 65 (N 64 1).toNatClampNeg)) 1 64 1 + 1) = m9_kp1 N F' := fun N F' hF' hN => by
    have b := m9_isP_le (hN.2.2 F' hF').1
    have ee : (nI F').toNatClampNeg = F' := m9_cl (by omega)
    have h64 : m9_cp N (k9_pc (N 65 F')) 1 64 = N 64 := m9_cp_ne N (fun j hj => by omega)
    rw [hN.1, ee, h64, hN.1, nI_1]; rfl
  have cl : ∀ (N : k9_Mem) (F' : Nat), F' < 6 → m9_sh N F' → (N 65 (N 64 1).toNatClampNeg) = N 65 F' := fun N F' hF' hN => by
    rw [hN.1, m9_cl (by omega)]
  rcases Nat.lt_or_ge F 6 with h6 | h6
  · have hk : m9_keep M F = m9_kp1 M F := if_pos h6
    have hlt : nI F < (6 : Int32) := (m9_lt (b := 6) (by omega) (by decide)).mpr h6
    refine bk_X4_keep_0 (mv1 := m9_cp M (k9_pc (M 65 (M 64 1).toNatClampNeg)) 1) (mv2 := M) (mv3 := M) X (fun c1 c2 => ?_) (fun c1 c2 c3 => ?_) (fun c1 c2 c3 => ?_) (fun c1 c2 c3 => ?_) (fun c1 c2 c3 => ?_) (fun c1 c2 c3 => ?_) (fun c1 => ?_) (fun c1 => ?_) (fun c1 => ?_) (fun c1 => ?_) (fun c1 => ?_) (fun c1 => ?_) (fun c1 => ?_)
    · rw [hs.1] at c2; exact absurd c2 (nI_pos (by omega))
    · rw [hs.1] at c3
      have := (m9_le (a := 6) (by decide) (by omega)).mp c3
      omega
    · rw [hs.1]; exact m9_in h6 (by decide)
    · rw [cl M F h6 hs]; exact (hs.2.2 F h6).1
    · rw [cl M F h6 hs]; exact ct_X3_copyFrom l G M (hs.2.2 F h6).1 (by decide) (hs.2.2 F h6).2
    · rw [core M F h6 hs, ← hk]; exact HR 58 [] dX4_keep_58
    all_goals exact absurd (by rw [hs.1]; exact hlt) c1
  · have hk : m9_keep M F = m9_kp1 (m9_do M) 5 := if_neg (by omega)
    have hge : ¬ nI F < (6 : Int32) := fun z => by have := (m9_lt (b := 6) (by omega) (by decide)).mp z; omega
    refine bk_X4_keep_0 (mv1 := M) (mv2 := m9_do M) (mv3 := m9_cp (m9_do M) (k9_pc (m9_do M 65 (m9_do M 64 1).toNatClampNeg)) 1) X (fun c1 => ?_) (fun c1 => ?_) (fun c1 => ?_) (fun c1 => ?_) (fun c1 => ?_) (fun c1 => ?_) (fun c1 => ?_) (fun c1 c2 => ?_) (fun c1 c2 c3 => ?_) (fun c1 c2 c3 => ?_) (fun c1 c2 c3 => ?_) (fun c1 c2 c3 => ?_) (fun c1 c2 c3 => ?_)
    iterate 6 exact absurd (by rw [hs.1] at c1; exact c1) hge
    · exact ct_X4_dropOldest l G M hs
    · rw [hd.1] at c2; exact absurd c2 (nI_pos (by omega))
    · rw [hd.1] at c3; exact absurd c3 (by decide)
    · rw [hd.1]; exact m9_in (by decide) (by decide)
    · rw [cl _ 5 (by decide) hd]; exact (hd.2.2 5 (by decide)).1
    · rw [cl _ 5 (by decide) hd]; exact ct_X3_copyFrom l G _ (hd.2.2 5 (by decide)).1 (by decide) (hd.2.2 5 (by decide)).2
    · rw [core _ 5 (by decide) hd, ← hk]; exact HR 58 [] dX4_keep_58
theorem ct_X4_size (l : Launch) (G : k9_G) (M : k9_Mem) : k9_Ci l yX4_size wsX4_size rm_X4_size G M [.ref (k9_ga G 64)] (M 64 1) M := by
  refine k9_metI (own := RX4) (by decide +kernel) rfl rfl (Nat.le_of_ble_eq_true rfl) rfl ?_
  intro p e s m args below meth c A Q X HR
  exact bk_X4_size_0 X (HR 4 [] dX4_size_4)
def m9_give (M : k9_Mem) (F : Nat) : k9_Mem := m9_cp (k9_st M 64 1 (nI (F - 1))) 1 (k9_pc (M 65 (F - 1)))
theorem ct_X4_giveBack (l : Launch) (G : k9_G) (M : k9_Mem) {F : Nat} (hs : m9_sh M F) (h0 : 0 < F) : k9_Ci l yX4_giveBack wsX4_giveBack rm_X4_giveBack G M [.ref (k9_ga G 64), .ref (k9_ga G 1)] (nI (F - 1)) (m9_give M F) := by
  refine k9_metI (own := RX4) (by decide +kernel) rfl rfl (Nat.le_of_ble_eq_true rfl) rfl ?_
  intro p e s m args below meth c A Q X HR
  have hF := hs.2.1
  have e1 : M 64 1 - 1 = nI (F - 1) := by rw [hs.1, m9_sub1 h0]
  have ee : (nI (F - 1)).toNatClampNeg = F - 1 := m9_cl (by omega)
  have hq := hs.2.2 (F - 1) (by omega)
  refine bk_X4_giveBack_0 (mv1 := m9_give M F) X (fun c1 => ?_) (fun c1 c2 => ?_) (fun c1 c2 => ?_) (fun c1 c2 => ?_) (fun c1 c2 => ?_) (fun c1 c2 => ?_)
  · rw [hs.1] at c1
    have := (m9_le (b := 0) (by omega) (by decide)).mp c1
    omega
  · rw [hs.1] at c2
    have := (m9_lt (a := 6) (by decide) (by omega)).mp c2
    omega
  · rw [e1]; exact m9_in (by omega) (by decide)
  · rw [e1, ee, m9_st_ne _ _ _ (by decide)]; exact hq.1
  · rw [e1, ee, m9_st_ne _ _ _ (by decide)]
    exact ct_X3_copyFrom l G _ (by decide) hq.1 (Ne.symm hq.2)
  · have h64 : m9_give M F 64 1 = nI (F - 1) := by
      rw [m9_give, m9_cp_ne _ (fun j hj => by omega), m9_st_at, m9_upd_at]
    exact k9_eq rfl (by rw [h64]) (HR 46 [] dX4_giveBack_46)
