/-! Trial. -/
theorem m9_tg_c {S E S' E' S2 E2 S2' E2' : Nat → Int32} : ∀ {n : Nat}, (∀ i, i < n → S i = S2 i ∧ E i = E2 i ∧ S' i = S2' i ∧ E' i = E2' i) → m9_tg S E S' E' n = m9_tg S2 E2 S2' E2' n
  | 0, _ => rfl
  | n + 1, h => by
    obtain ⟨h1, h2, h3, h4⟩ := h n (Nat.lt_succ_self n)
    show (m9_tg S E S' E' n ||| ((S n &&& S' n) &&& 2097150)) &&& ((E n ||| E' n) ^^^ (-1)) = (m9_tg S2 E2 S2' E2' n ||| ((S2 n &&& S2' n) &&& 2097150)) &&& ((E2 n ||| E2' n) ^^^ (-1))
    rw [m9_tg_c (fun i hi => h i (Nat.lt_succ_of_lt hi)), h1, h2, h3, h4]
theorem m9_sn_c {S E S' E' S2 E2 S2' E2' : Nat → Int32} : ∀ {n : Nat}, (∀ i, i < n → S i = S2 i ∧ E i = E2 i ∧ S' i = S2' i ∧ E' i = E2' i) → m9_sn S E S' E' n = m9_sn S2 E2 S2' E2' n
  | 0, _ => rfl
  | n + 1, h => by
    obtain ⟨h1, h2, h3, h4⟩ := h n (Nat.lt_succ_self n)
    show m9_sn S E S' E' n + m9_bc (((m9_tg S E S' E' n ||| ((S n &&& S' n) &&& 2097150)) &&& E n) &&& E' n) = m9_sn S2 E2 S2' E2' n + m9_bc (((m9_tg S2 E2 S2' E2' n ||| ((S2 n &&& S2' n) &&& 2097150)) &&& E2 n) &&& E2' n)
    rw [m9_tg_c (fun i hi => h i (Nat.lt_succ_of_lt hi)), m9_sn_c (fun i hi => h i (Nat.lt_succ_of_lt hi)), h1, h2, h3, h4]
/-- how many notes of what is made out of a row are of the tune -/
def m9_rt (r : Nat → Int32) (B : Nat) (S E : Nat → Int32) : Int32 := m9_sn (m9_lkS r B) (m9_lkE r B) S E 96
theorem m9_lk_1 (M : k9_Mem) (q k B : Nat) {s : Nat} (hs : s < 96) : m9_lk M q k B 96 (q + 1) s = m9_lkS (M k) B s := by
  rw [m9_lk, k9_sc_ne _ _ (by omega), k9_sc_eq, m9_fl_in hs]
theorem m9_lk_2 (M : k9_Mem) (q k B : Nat) {s : Nat} (hs : s < 96) : m9_lk M q k B 96 (q + 2) s = m9_lkE (M k) B s := by
  rw [m9_lk, k9_sc_eq, m9_fl_in hs]
theorem m9_lk_ne (M : k9_Mem) (q k B i : Nat) {a : Nat} (h1 : a ≠ q + 1) (h2 : a ≠ q + 2) : m9_lk M q k B i a = M a := m9_two_ne M h1 h2 _ _
theorem m9_same_lk (M : k9_Mem) {q k o B : Nat} (h1 : o + 1 ≠ q + 1) (h2 : o + 1 ≠ q + 2) (h3 : o + 2 ≠ q + 1) (h4 : o + 2 ≠ q + 2) : m9_same (m9_lk M q k B 96) q o = m9_rt (M k) B (M (o + 1)) (M (o + 2)) :=
  m9_sn_c fun i hi => ⟨m9_lk_1 M q k B hi, m9_lk_2 M q k B hi, by rw [m9_lk_ne M q k B 96 h1 h2], by rw [m9_lk_ne M q k B 96 h3 h4]⟩
def m9_off (M : k9_Mem) (k B : Nat) (w : Int32) : k9_Mem := if m9_rt (M k) B (M 7) (M 8) ≤ M 71 3 then m9_lk M 73 k B 96 else k9_st (k9_st (m9_lk M 73 k B 96) 71 3 (m9_rt (M k) B (M 7) (M 8))) 71 2 w
theorem ct_X5_offer (l : Launch) (G : k9_G) (M : k9_Mem) {k B : Nat} (hk : k9_ar k 96) (h1 : k ≠ 74) (h2 : k ≠ 75) (hB : B < 1000) (w : Int32) : k9_Cv l yX5_offer wsX5_offer rm_X5_offer G M [.ref (k9_ga G 71), .int w, .ref (k9_ga G k), .int (nI B), .ref (k9_ga G 6)] (m9_off M k B w) := by
  refine k9_metV (own := RX5) (by decide +kernel) rfl rfl (Nat.le_of_ble_eq_true rfl) ?_
  intro p e s m args below meth c A Q X HR
  have e71 : m9_lk M 73 k B 96 71 = M 71 := m9_lk_ne M 73 k B 96 (by decide) (by decide)
  have er : m9_same (m9_lk M 73 k B 96) 73 6 = m9_rt (M k) B (M 7) (M 8) := m9_same_lk M (by decide) (by decide) (by decide) (by decide)
  refine bk_X5_offer_0 (mv1 := m9_lk M 73 k B 96) (rv2 := m9_rt (M k) B (M 7) (M 8)) X hk (ct_X0_link l G M (by decide) hk h1 h2 hB) (er ▸ ct_X0_sameNotes l G _ (by decide) (by decide)) (fun c1 => ?_) (fun c1 => ?_)
  · rw [e71] at c1
    exact k9_memeq (by rw [m9_off, if_pos c1]) (HR 40 [] dX5_offer_40)
  · rw [e71] at c1
    exact k9_memeq (by rw [m9_off, if_neg c1]) (HR 40 [] dX5_offer_40)
theorem m9_off_ne (M : k9_Mem) (k B : Nat) (w : Int32) {a : Nat} (h1 : a ≠ 71) (h2 : a ≠ 74) (h3 : a ≠ 75) : m9_off M k B w a = M a := by
  unfold m9_off
  by_cases c : m9_rt (M k) B (M 7) (M 8) ≤ M 71 3
  · rw [if_pos c, m9_lk_ne M 73 k B 96 h2 h3]
  · rw [if_neg c, m9_st_ne _ _ _ h1, m9_st_ne _ _ _ h1, m9_lk_ne M 73 k B 96 h2 h3]
def m9_sr (M : k9_Mem) (a b y : Int32) (i : Nat) : Int32 := if m9_rg a b i then m9_va M i y else M 58 i
def m9_fsR (M : k9_Mem) (a b y : Int32) : k9_Mem := k9_sc M 72 (m9_fl (m9_sr M a b y) (M 72) 96)
def m9_fsM (M : k9_Mem) (a b : Int32) (B : Nat) : Nat → k9_Mem
  | 0 => k9_st M 71 3 (-1)
  | i + 1 => m9_off (m9_fsR (m9_fsM M a b B i) a b (k9_nfi i)) 72 B (k9_nfi i)
theorem m9_fsM_ne (M : k9_Mem) (a b : Int32) (B : Nat) {k : Nat} (h1 : k ≠ 71) (h2 : k ≠ 74) (h3 : k ≠ 75) (h4 : k ≠ 72) : ∀ i, m9_fsM M a b B i k = M k
  | 0 => m9_st_ne _ _ _ h1
  | i + 1 => by
    show m9_off (m9_fsR (m9_fsM M a b B i) a b (k9_nfi i)) 72 B (k9_nfi i) k = M k
    rw [m9_off_ne _ _ _ _ h1 h2 h3, m9_fsR, k9_sc_ne _ _ h4, m9_fsM_ne M a b B h1 h2 h3 h4 i]
theorem m9_ar72 : k9_ar 72 96 := ⟨by decide, by decide, by decide⟩
theorem ct_X5_findSteer (l : Launch) (G : k9_G) (M : k9_Mem) {B : Nat} (hB : B < 1000) (hM : M 1 5 = nI B) (a b : Int32) : k9_Cv l yX5_findSteer wsX5_findSteer rm_X5_findSteer G M [.ref (k9_ga G 71), .ref (k9_ga G 1), .ref (k9_ga G 57), .int a, .int b] (m9_fsM M a b B 7) := by
  refine k9_metV (own := RX5) (by decide +kernel) rfl rfl (Nat.le_of_ble_eq_true rfl) ?_
  intro p e s m args below meth c A Q X HR
  have inner : ∀ (N : k9_Mem) (j : Nat) (y : Int32), N 1 5 = nI B →
      k9_U p l e rm_X5_findSteer s m args below meth c Q A G 11 0 0 (m9_off (m9_fsR N a b y) 72 B y) 18 [(0, .ref (k9_ga G 71)), (1, .ref (k9_ga G 1)), (2, .ref (k9_ga G 57)), (3, .int a), (4, .int b), (5, .ref G.2.2.2.2.2), (6, .int 7), (7, .int (nI j + 1))] [] →
      ∀ i, i ≤ 96 → k9_U p l e rm_X5_findSteer s m args below meth c Q A G 11 0 0 (k9_sc N 72 (m9_fl (m9_sr N a b y) (N 72) i)) 35 [(0, .ref (k9_ga G 71)), (1, .ref (k9_ga G 1)), (2, .ref (k9_ga G 57)), (3, .int a), (4, .int b), (5, .ref G.2.2.2.2.2), (6, .int 7), (7, .int (nI j)), (8, .int y), (9, .int (nI i))] [] := by
    intro N j y hN out
    refine m9_down 96 (fun i hi next => ?_)
    have ee : (nI i).toNatClampNeg = i := m9_cl (by omega)
    have skip : i < 96 → ¬ m9_rg a b i → k9_U p l e rm_X5_findSteer s m args below meth c Q A G 11 0 0 (k9_st (k9_sc N 72 (m9_fl (m9_sr N a b y) (N 72) i)) 72 (nI i).toNatClampNeg (k9_sc N 72 (m9_fl (m9_sr N a b y) (N 72) i) 58 (nI i).toNatClampNeg)) 35 [(0, .ref (k9_ga G 71)), (1, .ref (k9_ga G 1)), (2, .ref (k9_ga G 57)), (3, .int a), (4, .int b), (5, .ref G.2.2.2.2.2), (6, .int 7), (7, .int (nI j)), (8, .int y), (9, .int (nI i + 1))] [] := fun h9 hn => by
      have h := next h9
      rw [← m9_fl_succ, m9_sr, if_neg hn] at h
      rw [ee, m9_st_sc, k9_sc_ne _ _ (by decide), nI_1]
      exact h
    refine bk_X5_findSteer_35 (mv1 := m9_off (m9_fsR N a b y) 72 B y) (rv2 := m9_va N i y) X (fun c1 => ?_) (fun c1 => ?_) (fun c1 c2 => m9_in (m9_go (N := 96) (by decide) hi c1) (by decide)) (fun c1 c2 => ?_) (fun c1 c2 c3 => m9_in (m9_go (N := 96) (by decide) hi c1) (by decide)) (fun c1 c2 c3 => ?_) (fun c1 c2 c3 => ?_) (fun c1 c2 c3 => m9_in (m9_go (N := 96) (by decide) hi c1) (by decide)) (fun c1 c2 c3 => ?_)
    · have hi2 := m9_ex (N := 96) (by decide) hi c1
      subst hi2
      rw [k9_sc_ne _ _ (by decide), hN]
      exact ct_X5_offer l G _ m9_ar72 (by decide) (by decide) hB y
    · exact out
    · exact skip (m9_go (N := 96) (by decide) hi c1) (fun z => z.1 c2)
    · exact skip (m9_go (N := 96) (by decide) hi c1) (fun z => z.2 c3)
    · exact ct_X3_voicesAt l G (k9_sc N 72 (m9_fl (m9_sr N a b y) (N 72) i)) (m9_go (N := 96) (by decide) hi c1) y
    · have h := next (m9_go (N := 96) (by decide) hi c1)
      rw [← m9_fl_succ, m9_sr, if_pos ⟨c2, c3⟩] at h
      rw [ee, m9_st_sc, nI_1]
      exact h
  have loop : ∀ j, j ≤ 7 → k9_U p l e rm_X5_findSteer s m args below meth c Q A G 11 0 0 (m9_fsM M a b B j) 18 [(0, .ref (k9_ga G 71)), (1, .ref (k9_ga G 1)), (2, .ref (k9_ga G 57)), (3, .int a), (4, .int b), (5, .ref G.2.2.2.2.2), (6, .int 7), (7, .int (nI j))] [] := by
    refine m9_down 7 (fun j hj next => ?_)
    have ee : (nI j).toNatClampNeg = j := m9_cl (by omega)
    refine bk_X5_findSteer_18 X (fun c1 => ?_) (fun c1 => m9_in (m9_go (N := 7) (by decide) hj c1) (by decide)) (fun c1 => ?_)
    · have hi2 := m9_ex (N := 7) (by decide) hj c1
      subst hi2
      exact HR 122 [] dX5_findSteer_122
    · have h := next (m9_go (N := 7) (by decide) hj c1)
      rw [ee]
      have h2 := inner (m9_fsM M a b B j) j (k9_nfi j) (by rw [m9_fsM_ne M a b B (by decide) (by decide) (by decide) (by decide), hM]) (by rw [nI_1]; exact h) 0 (by decide)
      rw [m9_fl_0, m9_sc_same rfl] at h2
      exact h2
  exact bk_X5_findSteer_0 X (loop 0 (by decide))
def m9_fbM (M : k9_Mem) : Nat → k9_Mem
  | 0 => k9_st M 71 3 (-1)
  | i + 1 => m9_off (m9_fbM M i) 58 i (nI i)
theorem ct_X5_findBridge (l : Launch) (G : k9_G) (M : k9_Mem) : k9_Cv l yX5_findBridge wsX5_findBridge rm_X5_findBridge G M [.ref (k9_ga G 71), .ref (k9_ga G 1), .ref (k9_ga G 57)] (m9_fbM M 4) := by
  refine k9_metV (own := RX5) (by decide +kernel) rfl rfl (Nat.le_of_ble_eq_true rfl) ?_
  intro p e s m args below meth c A Q X HR
  have loop : ∀ j, j ≤ 4 → k9_U p l e rm_X5_findBridge s m args below meth c Q A G 4 0 0 (m9_fbM M j) 7 [(0, .ref (k9_ga G 71)), (1, .ref (k9_ga G 1)), (2, .ref (k9_ga G 57)), (3, .int (nI j))] [] := by
    refine m9_down 4 (fun j hj next => ?_)
    have hlt : (3 : Int32) < nI j ↔ 3 < j := m9_lt (a := 3) (by decide) (by omega)
    have go : ¬ (3 : Int32) < nI j → j < 4 := fun c1 => by
      rcases Nat.lt_or_ge j 4 with q | q
      · exact q
      · exact absurd (hlt.mpr (by omega)) c1
    refine bk_X5_findBridge_7 (mv1 := m9_fbM M (j + 1)) X (fun c1 => ?_) (fun c1 => ?_) (fun c1 => ?_)
    · have hi2 : j = 4 := by have := hlt.mp c1; omega
      subst hi2
      exact HR 32 [] dX5_findBridge_32
    · exact ct_X5_offer l G _ m9_ar58 (by decide) (by decide) (by have := go c1; omega) _
    · rw [nI_1]; exact next (go c1)
  exact bk_X5_findBridge_0 X (loop 0 (by decide))
def m9_br (M : k9_Mem) (y : Int32) (i : Nat) : Int32 := m9_va M i (m9_kp (M 5 i + y))
def m9_bk0 (M : k9_Mem) (y : Int32) : k9_Mem := k9_sc (k9_st M 71 3 (-1)) 72 (m9_fl (m9_br M y) (M 72) 96)
def m9_bkN (N : k9_Mem) (B i : Nat) (o : Int32) : k9_Mem := if o = 0 then N else m9_off N 72 B (nI i)
def m9_bk (M : k9_Mem) (B : Nat) : Nat → k9_Mem × Int32
  | 0 => (M, 1)
  | i + 1 => (k9_st (m9_bkN (m9_bk M B i).1 B i (m9_bk M B i).2) 72 i ((m9_bk M B i).1 58 i), m9_bi (¬ (m9_bk M B i).1 72 i = (m9_bk M B i).1 58 i))
theorem m9_bkN_ne (N : k9_Mem) (B i : Nat) (o : Int32) {k : Nat} (h1 : k ≠ 71) (h2 : k ≠ 74) (h3 : k ≠ 75) : m9_bkN N B i o k = N k := by
  unfold m9_bkN
  by_cases c : o = 0
  · rw [if_pos c]
  · rw [if_neg c, m9_off_ne _ _ _ _ h1 h2 h3]
theorem m9_bk_ne (M : k9_Mem) (B : Nat) {k : Nat} (h1 : k ≠ 71) (h2 : k ≠ 74) (h3 : k ≠ 75) (h4 : k ≠ 72) : ∀ i, (m9_bk M B i).1 k = M k
  | 0 => rfl
  | i + 1 => by
    show k9_st (m9_bkN (m9_bk M B i).1 B i (m9_bk M B i).2) 72 i ((m9_bk M B i).1 58 i) k = M k
    rw [m9_st_ne _ _ _ h4, m9_bkN_ne _ _ _ _ h1 h2 h3, m9_bk_ne M B h1 h2 h3 h4 i]
theorem ct_X5_findBreak (l : Launch) (G : k9_G) (M : k9_Mem) {B : Nat} (hB : B < 1000) (hM : M 1 5 = nI B) (y : Int32) : k9_Cv l yX5_findBreak wsX5_findBreak rm_X5_findBreak G M [.ref (k9_ga G 71), .ref (k9_ga G 1), .ref (k9_ga G 57), .int y] (m9_bk (m9_bk0 M y) B 96).1 := by
  refine k9_metV (own := RX5) (by decide +kernel) rfl rfl (Nat.le_of_ble_eq_true rfl) ?_
  intro p e s m args below meth c A Q X HR
  obtain ⟨N, hN⟩ : ∃ N, N = m9_bk0 M y := ⟨_, rfl⟩
  have hN1 : N 1 5 = nI B := by rw [hN, m9_bk0, k9_sc_ne _ _ (by decide), m9_st_ne _ _ _ (by decide), hM]
  have second : ∀ j, j ≤ 96 → k9_U p l e rm_X5_findBreak s m args below meth c Q A G 6 0 0 (m9_bk N B j).1 52 [(0, .ref (k9_ga G 71)), (1, .ref (k9_ga G 1)), (2, .ref (k9_ga G 57)), (4, .int (m9_bk N B j).2), (5, .int (nI j))] [] := by
    refine m9_down 96 (fun j hj next => ?_)
    have ee : (nI j).toNatClampNeg = j := m9_cl (by omega)
    obtain ⟨K, hK⟩ : ∃ K, K = (m9_bk N B j).1 := ⟨_, rfl⟩
    obtain ⟨o, ho⟩ : ∃ o, o = (m9_bk N B j).2 := ⟨_, rfl⟩
    have hK1 : K 1 5 = nI B := by rw [hK, m9_bk_ne N B (by decide) (by decide) (by decide) (by decide), hN1]
    have e1 : (m9_bk N B (j + 1)).1 = k9_st (m9_bkN K B j o) 72 j (K 58 j) := by rw [hK, ho]; rfl
    have e2 : (m9_bk N B (j + 1)).2 = m9_bi (¬ K 72 j = K 58 j) := by rw [hK]; rfl
    rw [← hK, ← ho]
    have o72 : ∀ w, m9_off K 72 B w 72 = K 72 := fun w => m9_off_ne K 72 B w (by decide) (by decide) (by decide)
    have o58 : ∀ w, m9_off K 72 B w 58 = K 58 := fun w => m9_off_ne K 72 B w (by decide) (by decide) (by decide)
    refine bk_X5_findBreak_52 (mv1 := m9_off K 72 B (nI j)) X (fun c1 => ?_) (fun c1 c2 => m9_in (m9_go (N := 96) (by decide) hj c1) (by decide)) (fun c1 c2 c3 => ?_) (fun c1 c2 c3 => ?_) (fun c1 c2 => ?_) (fun c1 c2 => m9_in (m9_go (N := 96) (by decide) hj c1) (by decide)) (fun c1 c2 c3 => ?_) (fun c1 c2 c3 => ?_)
    · have hi2 := m9_ex (N := 96) (by decide) hj c1
      subst hi2
      exact k9_memeq (by rw [hK, hN]) (HR 126 [] dX5_findBreak_126)
    · have h := next (m9_go (N := 96) (by decide) hj c1)
      rw [ee] at c3
      rw [e1, e2, m9_bkN, if_pos c2, m9_bi_f (fun z => z c3)] at h
      rw [ee, nI_1]; exact h
    · have h := next (m9_go (N := 96) (by decide) hj c1)
      rw [ee] at c3
      rw [e1, e2, m9_bkN, if_pos c2, m9_bi_t c3] at h
      rw [ee, nI_1]; exact h
    · rw [hK1]
      exact ct_X5_offer l G K m9_ar72 (by decide) (by decide) hB _
    · have h := next (m9_go (N := 96) (by decide) hj c1)
      rw [ee, o72, o58] at c3
      rw [e1, e2, m9_bkN, if_neg c2, m9_bi_f (fun z => z c3)] at h
      rw [ee, o58, nI_1]; exact h
    · have h := next (m9_go (N := 96) (by decide) hj c1)
      rw [ee, o72, o58] at c3
      rw [e1, e2, m9_bkN, if_neg c2, m9_bi_t c3] at h
      rw [ee, o58, nI_1]; exact h
  have first : ∀ i, i ≤ 96 → k9_U p l e rm_X5_findBreak s m args below meth c Q A G 6 0 0 (k9_sc (k9_st M 71 3 (-1)) 72 (m9_fl (m9_br M y) (M 72) i)) 8 [(0, .ref (k9_ga G 71)), (1, .ref (k9_ga G 1)), (2, .ref (k9_ga G 57)), (3, .int y), (4, .int (nI i))] [] := by
    refine m9_down 96 (fun i hi next => ?_)
    have ee : (nI i).toNatClampNeg = i := m9_cl (by omega)
    refine bk_X5_findBreak_8 (rv1 := m9_kp (M 5 i + y)) (rv2 := m9_br M y i) X (fun c1 => ?_) (fun c1 => m9_in (m9_go (N := 96) (by decide) hi c1) (by decide)) (fun c1 => ?_) (fun c1 => ?_) (fun c1 => ?_)
    · have hi2 := m9_ex (N := 96) (by decide) hi c1
      subst hi2
      have h := second 0 (by decide)
      rw [hN] at h
      exact h
    · rw [ee, k9_sc_ne _ _ (by decide), m9_st_ne _ _ _ (by decide)]
      exact ct_X3_kept l G _ _
    · exact ct_X3_voicesAt l G (k9_sc (k9_st M 71 3 (-1)) 72 (m9_fl (m9_br M y) (M 72) i)) (m9_go (N := 96) (by decide) hi c1) _
    · have h := next (m9_go (N := 96) (by decide) hi c1)
      rw [ee, m9_st_sc, m9_fl_succ, nI_1]
      exact h
  have h := first 0 (by decide)
  rw [m9_fl_0, m9_sc_same (by rw [m9_st_ne _ _ _ (by decide)])] at h
  exact bk_X5_findBreak_0 X h
