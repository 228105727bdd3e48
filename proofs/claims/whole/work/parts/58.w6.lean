/-! RollPunch: what it does. -/
theorem m9_do_f (M : k9_Mem) {k : Nat} (h1 : k ≠ 64) (h2 : k ≠ 65) : m9_do M k = M k := by
  rw [m9_do, m9_st_ne _ _ _ h1, m9_st_ne _ _ _ h2, k9_sc_ne _ _ h2]
theorem m9_isP_2 {q : Nat} (h : k9_isP q) (h2 : q ≠ 1) : 9 ≤ q ∧ q ≤ 49 := by
  have key : ∀ q ∈ ([1, 9, 17, 25, 33, 41, 49] : List Nat), q ≠ 1 → 9 ≤ q ∧ q ≤ 49 := by decide
  exact key q h h2
theorem m9_kp1_f {M : k9_Mem} {F : Nat} (h : k9_isP (k9_pc (M 65 F)) ∧ k9_pc (M 65 F) ≠ 1) {k : Nat} (hk : k < 9 ∨ (57 ≤ k ∧ k ≠ 64 ∧ k ≠ 65)) : m9_kp1 M F k = M k := by
  have b := m9_isP_2 h.1 h.2
  have h64 : k ≠ 64 := by omega
  rw [m9_kp1, m9_st_ne _ _ _ h64, m9_cp_ne _ (fun j hj => by omega)]
theorem m9_keep_f {M : k9_Mem} {F : Nat} (hs : m9_sh M F) {k : Nat} (hk : k < 9 ∨ (57 ≤ k ∧ k ≠ 64 ∧ k ≠ 65)) : m9_keep M F k = M k := by
  unfold m9_keep
  by_cases c : F < 6
  · rw [if_pos c]; exact m9_kp1_f (hs.2.2 F c) hk
  · rw [if_neg c, m9_kp1_f ((m9_do_sh hs).2.2 5 (by decide)) hk, m9_do_f _ (by omega) (by omega)]
def m9_xo (x y : Option String) : Option String := match x with
  | some E => some E
  | none => y
theorem m9_xo_s {x y : Option String} {E : String} (h : x = some E) : m9_xo x y = some E := by subst h; rfl
theorem m9_xo_n {x y : Option String} (h : x = none) : m9_xo x y = y := by subst h; rfl
/-- a number in a range -/
theorem m9_rng {a : Int32} {lo hi : Nat} (hh : hi < 2147483648) (h1 : ¬ a < nI lo) (h2 : ¬ nI hi < a) (hl : lo ≤ hi) : a = nI a.toNatClampNeg ∧ lo ≤ a.toNatClampNeg ∧ a.toNatClampNeg ≤ hi := by
  have h0 : ¬ a < 0 := fun c => by
    apply h1
    have q1 := (fa_lt a 0).mp c
    refine (fa_lt a (nI lo)).mpr ?_
    have q2 : (nI lo).toInt = lo := nI_toInt (by omega)
    have q3 : (0 : Int32).toInt = 0 := rfl
    omega
  obtain ⟨j, hj, hj2⟩ := nI_of h0
  subst hj2
  have e : (nI j).toNatClampNeg = j := m9_cl hj
  have g1 : ¬ j < lo := fun c => h1 ((m9_lt hj (by omega)).mpr c)
  have g2 : ¬ hi < j := fun c => h2 ((m9_lt hh hj).mpr c)
  rw [e]
  exact ⟨rfl, by omega, by omega⟩
theorem m9_isS_rng {a : Int32} (h : m9_isS a) : a = nI a.toNatClampNeg ∧ a.toNatClampNeg < 96 := by
  obtain ⟨i, hi, rfl⟩ := m9_isS_of h
  rw [m9_cl (by omega)]
  exact ⟨rfl, hi⟩
/-- what is asked of the settings, the shelf and the text -/
abbrev m9_okM (M : k9_Mem) (B R F U : Nat) : Prop := (M 1 5 = nI B ∧ B ≤ 3) ∧ (M 1 6 = nI R ∧ R ≤ 8) ∧ m9_sh M F ∧ (M 66 1 = nI U ∧ U ≤ 60)
theorem m9_xLength_n {a : Int32} (h : m9_xLength a = none) : a = nI a.toNatClampNeg ∧ 1 ≤ a.toNatClampNeg ∧ a.toNatClampNeg ≤ 96 := by
  unfold m9_xLength at h
  by_cases c : a < 1 ∨ (96 : Int32) < a
  · rw [if_pos c] at h; exact absurd h (by simp)
  · exact m9_rng (lo := 1) (hi := 96) (by decide) (fun z => c (Or.inl z)) (fun z => c (Or.inr z)) (by decide)
def m9_xPunch (a b n : Int32) : Option String := if a < (-1 : Int32) ∨ (20 : Int32) ≤ a ∨ ¬ m9_isS b then some m9_io else m9_xo (m9_xLength n) (if (96 : Int32) < b + n then some m9_is else none)
def m9_punM (M : k9_Mem) (F B : Nat) (a b n : Int32) : k9_Mem := m9_hear (m9_ch (m9_keep M F) (m9_tk (a + 1 + 2)) b.toNatClampNeg n.toNatClampNeg B (b.toNatClampNeg + n.toNatClampNeg)) B
def m9_punV (M : k9_Mem) (F B : Nat) (a b n : Int32) : Int32 := m9_chn (m9_keep M F) (m9_tk (a + 1 + 2)) b.toNatClampNeg n.toNatClampNeg B (b.toNatClampNeg + n.toNatClampNeg)
theorem m9_fitN {b n : Int32} (hb : m9_isS b) (hn : m9_xLength n = none) (hf : ¬ (96 : Int32) < b + n) : b.toNatClampNeg + n.toNatClampNeg ≤ 96 := by
  obtain ⟨e1, h1⟩ := m9_isS_rng hb
  obtain ⟨e2, h2, h3⟩ := m9_xLength_n hn
  have e : b + n = nI (b.toNatClampNeg + n.toNatClampNeg) := by
    have q := nI_add b.toNatClampNeg n.toNatClampNeg
    rw [← e1, ← e2] at q
    exact q
  rw [e] at hf
  rcases Nat.lt_or_ge 96 (b.toNatClampNeg + n.toNatClampNeg) with q | q
  · exact absurd ((m9_lt (a := 96) (by decide) (by omega)).mpr q) hf
  · exact q
theorem ct_X6_punch {l : Launch} (hl : l.stackTraces = false) (G : k9_G) (M : k9_Mem) {B R F U : Nat} (hk : m9_okM M B R F U) (a b n : Int32) : k9_Cxi l yX6_punch wsX6_punch rm_X6_punch 3 18 G M [.ref (k9_ga G 0), .int a, .int b, .int n] (m9_xPunch a b n) (m9_punV M F B a b n) (m9_punM M F B a b n) := by
  refine k9_metXi hl (own := RX6) (by decide +kernel) rfl rfl (Nat.le_of_ble_eq_true rfl) rfl ?_
  intro p e s m args below meth c A Q X he HR
  obtain ⟨⟨hB, hB3⟩, -, hs, -⟩ := hk
  have k1 : m9_keep M F 1 5 = nI B := by rw [m9_keep_f hs (Or.inl (by decide)), hB]
  have thr : ∀ (h : a < (-1 : Int32) ∨ (20 : Int32) ≤ a ∨ ¬ m9_isS b), k9_U p l e rm_X6_punch s m args below meth c (vx_MQ below Q (k9_XC G M (m9_xPunch a b n) A) args s 3 18 A) A G 5 0 0 M 18 [] [] := fun h => th_X6_punch_18 X he (by rw [m9_xPunch, if_pos h]) (by decide) (by decide) (by decide)
  have nx : ¬ a < (-1 : Int32) → ¬ (20 : Int32) ≤ a → m9_isS b → m9_xPunch a b n = m9_xo (m9_xLength n) (if (96 : Int32) < b + n then some m9_is else none) := fun h1 h2 h3 => by rw [m9_xPunch, if_neg (fun z => z.elim h1 (fun z => z.elim h2 (fun z => z h3)))]
  refine bk_X6_punch_0 (mv4 := m9_keep M F) (rv5 := m9_punV M F B a b n) (mv5 := m9_ch (m9_keep M F) (m9_tk (a + 1 + 2)) b.toNatClampNeg n.toNatClampNeg B (b.toNatClampNeg + n.toNatClampNeg)) (mv6 := m9_punM M F B a b n) X (fun c1 => ?_) (fun c1 c2 => ?_) (fun c1 c2 => ct_X6_isStep l G M b) (fun c1 c2 c3 => ct_X6_needLength hl G M n) (fun c1 c2 c3 E hE => ?_) (fun c1 c2 c3 c4 => ct_X6_fits l G M b n) (fun c1 c2 c3 c4 c5 => ct_X4_keep l G M hs) (fun c1 c2 c3 c4 c5 => ?_) (fun c1 c2 c3 c4 c5 => ?_) (fun c1 c2 c3 c4 c5 => ?_) (fun c1 c2 c3 c4 c5 => ?_) (fun c1 c2 c3 => ?_)
  · exact thr (Or.inl c1)
  · exact thr (Or.inr (Or.inl c2))
  · exact k9_outX he.2.1 he.2.2 (by rw [nx c1 c2 (m9_bi_1 c3), m9_xo_s hE]) (by decide) (by decide)
  · have hS := m9_bi_1 c3
    obtain ⟨e1, h1⟩ := m9_isS_rng hS
    obtain ⟨e2, h2, h3⟩ := m9_xLength_n c4
    have hf := m9_fitN hS c4 (m9_bi_1 c5)
    have h := ct_X3_cutChain l G (m9_keep M F) (a + 1) (f := b.toNatClampNeg) (n := n.toNatClampNeg) h2 hf (B := B) (by omega) k1
    rw [← e1, ← e2] at h
    exact h
  · exact ct_X1_listenTo l G _ (by omega) (by rw [m9_ch_f _ _ _ _ _ _ (by decide) (by decide), k1])
  · have hx : m9_xPunch a b n = none := by rw [nx c1 c2 (m9_bi_1 c3), m9_xo_n c4, if_neg (m9_bi_1 c5)]
    exact HR hx _ _ _ _ (by decide) (by decide) dX6_punch_88
  · have hx : m9_xPunch a b n = some m9_is := by
      rw [nx c1 c2 (m9_bi_1 c3), m9_xo_n c4, if_pos]
      exact Classical.byContradiction (fun z => m9_bi_0 c5 z)
    exact th_X6_punch_40 X he hx (by decide) (by decide) (by decide)
  · exact thr (Or.inr (Or.inr (m9_bi_0 c3)))
def m9_xPatch (t a b : Int32) : Option String := m9_xo (m9_xTrack t) (m9_xSteps a b)
def m9_patM (M : k9_Mem) (F B : Nat) (t a b : Int32) : k9_Mem := m9_hear (k9_sc (m9_keep M F) 3 (m9_fl (m9_cv (m9_keep M F) a b (m9_tk t)) (m9_keep M F 3) 96)) B
theorem ct_X6_patch {l : Launch} (hl : l.stackTraces = false) (G : k9_G) (M : k9_Mem) {B R F U : Nat} (hk : m9_okM M B R F U) (t a b : Int32) : k9_Cxi l yX6_patch wsX6_patch rm_X6_patch 3 18 G M [.ref (k9_ga G 0), .int t, .int a, .int b] (m9_xPatch t a b) (m9_cvn (m9_keep M F) a b (m9_tk t)) (m9_patM M F B t a b) := by
  refine k9_metXi hl (own := RX6) (by decide +kernel) rfl rfl (Nat.le_of_ble_eq_true rfl) rfl ?_
  intro p e s m args below meth c A Q X he HR
  obtain ⟨⟨hB, hB3⟩, -, hs, -⟩ := hk
  refine bk_X6_patch_0 X (ct_X6_needTrack hl G M t) (fun E hE => k9_outX he.2.1 he.2.2 (m9_xo_s hE) (by decide) (by decide)) (fun c1 => ct_X6_needSteps hl G M a b) (fun c1 E hE => k9_outX he.2.1 he.2.2 ((m9_xo_n c1).trans hE) (by decide) (by decide)) (fun c1 c2 => ct_X4_keep l G M hs) (fun c1 c2 => ct_X3_cover l G _ t a b) (fun c1 c2 => ct_X1_listenTo l G _ (B := B) (by omega) ?_) (fun c1 c2 => HR ((m9_xo_n c1).trans c2) _ _ _ _ (by decide) (by decide) dX6_patch_45)
  rw [k9_sc_ne _ _ (by decide), m9_keep_f hs (Or.inl (by decide)), hB]
def m9_pelM (M : k9_Mem) (F B : Nat) (t a b : Int32) : k9_Mem := m9_hear (k9_sc (m9_keep M F) 3 (m9_fl (m9_uc (m9_keep M F) a b (m9_tk t)) (m9_keep M F 3) 96)) B
theorem ct_X6_peel {l : Launch} (hl : l.stackTraces = false) (G : k9_G) (M : k9_Mem) {B R F U : Nat} (hk : m9_okM M B R F U) (t a b : Int32) : k9_Cxi l yX6_peel wsX6_peel rm_X6_peel 3 18 G M [.ref (k9_ga G 0), .int t, .int a, .int b] (m9_xPatch t a b) (m9_ucn (m9_keep M F) a b (m9_tk t)) (m9_pelM M F B t a b) := by
  refine k9_metXi hl (own := RX6) (by decide +kernel) rfl rfl (Nat.le_of_ble_eq_true rfl) rfl ?_
  intro p e s m args below meth c A Q X he HR
  obtain ⟨⟨hB, hB3⟩, -, hs, -⟩ := hk
  refine bk_X6_peel_0 X (ct_X6_needTrack hl G M t) (fun E hE => k9_outX he.2.1 he.2.2 (m9_xo_s hE) (by decide) (by decide)) (fun c1 => ct_X6_needSteps hl G M a b) (fun c1 E hE => k9_outX he.2.1 he.2.2 ((m9_xo_n c1).trans hE) (by decide) (by decide)) (fun c1 c2 => ct_X4_keep l G M hs) (fun c1 c2 => ct_X3_uncover l G _ t a b) (fun c1 c2 => ct_X1_listenTo l G _ (B := B) (by omega) ?_) (fun c1 c2 => HR ((m9_xo_n c1).trans c2) _ _ _ _ (by decide) (by decide) dX6_peel_45)
  rw [k9_sc_ne _ _ (by decide), m9_keep_f hs (Or.inl (by decide)), hB]
abbrev m9_canM (M : k9_Mem) (y : Int32) : Prop := ∀ i, i < 96 → m9_cmv M y i
def m9_xShift (M : k9_Mem) (y : Int32) [Decidable (m9_canM M y)] : Option String := m9_xo (m9_xAside y) (if m9_canM M y then none else some m9_is)
def m9_shiM (M : k9_Mem) (F B : Nat) (y : Int32) : k9_Mem := m9_hear (m9_mm (m9_keep M F) y 96) B
theorem ct_X6_shift {l : Launch} (hl : l.stackTraces = false) (G : k9_G) (M : k9_Mem) {B R F U : Nat} (hk : m9_okM M B R F U) (y : Int32) [Decidable (m9_canM M y)] : k9_Cxi l yX6_shift wsX6_shift rm_X6_shift 2 12 G M [.ref (k9_ga G 0), .int y] (m9_xShift M y) (m9_same (m9_shiM M F B y) 59 6) (m9_shiM M F B y) := by
  refine k9_metXi hl (own := RX6) (by decide +kernel) rfl rfl (Nat.le_of_ble_eq_true rfl) rfl ?_
  intro p e s m args below meth c A Q X he HR
  obtain ⟨⟨hB, hB3⟩, -, hs, -⟩ := hk
  refine bk_X6_shift_0 X (ct_X6_needAside hl G M y) (fun E hE => k9_outX he.2.1 he.2.2 (m9_xo_s hE) (by decide) (by decide)) (fun c1 => ct_X3_canMove l G M y) (fun c1 c2 => ct_X4_keep l G M hs) (fun c1 c2 => ct_X3_move l G _ y) (fun c1 c2 => ct_X1_listenTo l G _ (B := B) (by omega) ?_) (fun c1 c2 => ct_X6_rightNotes l G _) (fun c1 c2 => HR ?_ _ _ _ _ (by decide) (by decide) dX6_shift_59) (fun c1 c2 => th_X6_shift_15 X he ?_ (by decide) (by decide) (by decide))
  · rw [m9_mm, k9_sc_ne _ _ (by decide), k9_sc_ne _ _ (by decide), m9_keep_f hs (Or.inl (by decide)), hB]
  · rw [m9_xShift, m9_xo_n c1, if_pos (m9_bi_1 c2)]
  · rw [m9_xShift, m9_xo_n c1, if_neg (m9_bi_0 c2)]
abbrev m9_canT (M : k9_Mem) (a b y : Int32) : Prop := ∀ i, i < 96 → m9_ctr M a b y i
def m9_xTear (M : k9_Mem) (a b y : Int32) [Decidable (m9_canT M a b y)] : Option String := m9_xo (m9_xSteps a b) (m9_xo (m9_xAside y) (if m9_canT M a b y then none else some m9_is))
def m9_teaM (M : k9_Mem) (F B : Nat) (a b y : Int32) : k9_Mem := m9_hear (k9_sc (m9_keep M F) 4 (m9_fl (m9_ae (m9_keep M F) a b y) (m9_keep M F 4) 96)) B
theorem ct_X6_tear {l : Launch} (hl : l.stackTraces = false) (G : k9_G) (M : k9_Mem) {B R F U : Nat} (hk : m9_okM M B R F U) (a b y : Int32) [Decidable (m9_canT M a b y)] : k9_Cxi l yX6_tear wsX6_tear rm_X6_tear 4 24 G M [.ref (k9_ga G 0), .int a, .int b, .int y] (m9_xTear M a b y) (m9_same (m9_teaM M F B a b y) 59 6) (m9_teaM M F B a b y) := by
  refine k9_metXi hl (own := RX6) (by decide +kernel) rfl rfl (Nat.le_of_ble_eq_true rfl) rfl ?_
  intro p e s m args below meth c A Q X he HR
  obtain ⟨⟨hB, hB3⟩, -, hs, -⟩ := hk
  refine bk_X6_tear_0 X (ct_X6_needSteps hl G M a b) (fun E hE => k9_outX he.2.1 he.2.2 (m9_xo_s hE) (by decide) (by decide)) (fun c1 => ct_X6_needAside hl G M y) (fun c1 E hE => k9_outX he.2.1 he.2.2 ((m9_xo_n c1).trans (m9_xo_s hE)) (by decide) (by decide)) (fun c1 c2 => ct_X3_canTear l G M a b y) (fun c1 c2 c3 => ct_X4_keep l G M hs) (fun c1 c2 c3 => ct_X3_addToEdges l G _ a b y) (fun c1 c2 c3 => ct_X1_listenTo l G _ (B := B) (by omega) ?_) (fun c1 c2 c3 => ct_X6_rightNotes l G _) (fun c1 c2 c3 => HR ?_ _ _ _ _ (by decide) (by decide) dX6_tear_68) (fun c1 c2 c3 => th_X6_tear_22 X he ?_ (by decide) (by decide) (by decide))
  · rw [k9_sc_ne _ _ (by decide), m9_keep_f hs (Or.inl (by decide)), hB]
  · rw [m9_xTear, m9_xo_n c1, m9_xo_n c2, if_pos (m9_bi_1 c3)]
  · rw [m9_xTear, m9_xo_n c1, m9_xo_n c2, if_neg (m9_bi_0 c3)]
def m9_xSteer (a b y : Int32) : Option String := m9_xo (m9_xSteps a b) (m9_xAside y)
def m9_steM (M : k9_Mem) (F B : Nat) (a b y : Int32) : k9_Mem := m9_hear (k9_sc (m9_keep M F) 5 (m9_fl (m9_ps (m9_keep M F) a b y) (m9_keep M F 5) 96)) B
theorem ct_X6_steer {l : Launch} (hl : l.stackTraces = false) (G : k9_G) (M : k9_Mem) {B R F U : Nat} (hk : m9_okM M B R F U) (a b y : Int32) : k9_Cxi l yX6_steer wsX6_steer rm_X6_steer 3 18 G M [.ref (k9_ga G 0), .int a, .int b, .int y] (m9_xSteer a b y) (m9_same (m9_steM M F B a b y) 59 6) (m9_steM M F B a b y) := by
  refine k9_metXi hl (own := RX6) (by decide +kernel) rfl rfl (Nat.le_of_ble_eq_true rfl) rfl ?_
  intro p e s m args below meth c A Q X he HR
  obtain ⟨⟨hB, hB3⟩, -, hs, -⟩ := hk
  refine bk_X6_steer_0 X (ct_X6_needSteps hl G M a b) (fun E hE => k9_outX he.2.1 he.2.2 (m9_xo_s hE) (by decide) (by decide)) (fun c1 => ct_X6_needAside hl G M y) (fun c1 E hE => k9_outX he.2.1 he.2.2 ((m9_xo_n c1).trans hE) (by decide) (by decide)) (fun c1 c2 => ct_X4_keep l G M hs) (fun c1 c2 => ct_X3_putSteers l G _ a b y) (fun c1 c2 => ct_X1_listenTo l G _ (B := B) (by omega) ?_) (fun c1 c2 => ct_X6_rightNotes l G _) (fun c1 c2 => HR ((m9_xo_n c1).trans c2) _ _ _ _ (by decide) (by decide) dX6_steer_45)
  rw [k9_sc_ne _ _ (by decide), m9_keep_f hs (Or.inl (by decide)), hB]
def m9_xSet (a v : Int32) : Option String := m9_xo (m9_xSetting a) (if v < 0 ∨ (if a = 0 then (3 : Int32) else (8 : Int32)) < v then some m9_ia else none)
def m9_setM (M : k9_Mem) (F B : Nat) (a v : Int32) : k9_Mem := if a = 0 then m9_hear (k9_st (m9_keep M F) 1 5 v) v.toNatClampNeg else m9_hear (k9_st (m9_keep M F) 1 6 v) B
theorem ct_X6_set {l : Launch} (hl : l.stackTraces = false) (G : k9_G) (M : k9_Mem) {B R F U : Nat} (hk : m9_okM M B R F U) (a v : Int32) : k9_Cxi l yX6_set wsX6_set rm_X6_set 2 12 G M [.ref (k9_ga G 0), .int a, .int v] (m9_xSet a v) (m9_seo (m9_keep M F) a) (m9_setM M F B a v) := by
  refine k9_metXi hl (own := RX6) (by decide +kernel) rfl rfl (Nat.le_of_ble_eq_true rfl) rfl ?_
  intro p e s m args below meth c A Q X he HR
  obtain ⟨⟨hB, hB3⟩, -, hs, -⟩ := hk
  have hK := ct_X4_keep l G M hs
  have out : ∀ {k n : Nat} {pc : Nat}, k ≤ 2 → n ≤ 12 → decode cX6_set pc = .ok (.ireturn, 1) → ¬ a = 0 → m9_xSet a v = none → k9_U p l e rm_X6_set s m args below meth c (vx_MQ below Q (k9_XC G M (m9_xSet a v) A) args s 2 12 A) A G 5 k n (m9_hear (k9_st (m9_keep M F) 1 6 v) B) pc [] [.int (m9_seo (m9_keep M F) a)] := fun hk hn hd ha hx => by
    have h := HR hx _ _ _ [] hk hn hd
    rw [m9_setM, if_neg ha] at h
    exact h
  have out2 : ∀ {k n : Nat} {pc : Nat}, k ≤ 2 → n ≤ 12 → decode cX6_set pc = .ok (.ireturn, 1) → a = 0 → m9_xSet a v = none → k9_U p l e rm_X6_set s m args below meth c (vx_MQ below Q (k9_XC G M (m9_xSet a v) A) args s 2 12 A) A G 5 k n (m9_hear (k9_st (m9_keep M F) 1 5 v) v.toNatClampNeg) pc [] [.int (m9_seo (m9_keep M F) a)] := fun hk hn hd ha hx => by
    have h := HR hx _ _ _ [] hk hn hd
    rw [m9_setM, if_pos ha] at h
    exact h
  have x8 : m9_xSetting a = none → ¬ a = 0 → m9_xSet a v = if v < 0 ∨ (8 : Int32) < v then some m9_ia else none := fun h1 h2 => by rw [m9_xSet, m9_xo_n h1, if_neg h2]
  have x3 : m9_xSetting a = none → a = 0 → m9_xSet a v = if v < 0 ∨ (3 : Int32) < v then some m9_ia else none := fun h1 h2 => by rw [m9_xSet, m9_xo_n h1, if_pos h2]
  refine bk_X6_set_0 X (ct_X6_needSetting hl G M a) (fun E hE => k9_outX he.2.1 he.2.2 (m9_xo_s hE) (by decide) (by decide))
    (fun c1 c2 c3 => th_X6_set_24 X he (by rw [x8 c1 c2, if_pos (Or.inl c3)]) (by decide) (by decide) (by decide)) (fun c1 c2 c3 c4 => hK) (fun c1 c2 c3 c4 => ct_X6_settingOf l G _ a) (fun c1 c2 c3 c4 => ct_X1_listenTo l G _ (B := B) (by omega) ?_) (fun c1 c2 c3 c4 => out (by decide) (by decide) dX6_set_88 c2 (by rw [x8 c1 c2, if_neg (fun z => z.elim c3 (m9_le_n c4))])) (fun c1 c2 c3 c4 => th_X6_set_24 X he (by rw [x8 c1 c2, if_pos (Or.inr (m9_nle c4))]) (by decide) (by decide) (by decide))
    (fun c1 c2 c3 => th_X6_set_24 X he (by rw [x3 c1 c2, if_pos (Or.inl c3)]) (by decide) (by decide) (by decide)) (fun c1 c2 c3 c4 => hK) (fun c1 c2 c3 c4 => ct_X6_settingOf l G _ a) (fun c1 c2 c3 c4 => ?_) (fun c1 c2 c3 c4 => out2 (by decide) (by decide) dX6_set_88 c2 (by rw [x3 c1 c2, if_neg (fun z => z.elim c3 (m9_le_n c4))])) (fun c1 c2 c3 c4 => th_X6_set_24 X he (by rw [x3 c1 c2, if_pos (Or.inr (m9_nle c4))]) (by decide) (by decide) (by decide))
  · rw [m9_st_at_ne _ _ (by decide), m9_keep_f hs (Or.inl (by decide)), hB]
  · have hr := m9_rng (lo := 0) (hi := 3) (by decide) c3 (m9_le_n c4) (by decide)
    exact ct_X1_listenTo l G _ (by omega) (by rw [m9_st_at, m9_upd_at]; exact hr.1)
def m9_leaM (M : k9_Mem) (F : Nat) : k9_Mem := m9_cn (m9_keep M F) 6 59 96
theorem ct_X6_learn (l : Launch) (G : k9_G) (M : k9_Mem) {B R F U : Nat} (hk : m9_okM M B R F U) : k9_Ci l yX6_learn wsX6_learn rm_X6_learn G M [.ref (k9_ga G 0)] (m9_bin (m9_leaM M F 7) 2097150) (m9_leaM M F) := by
  refine k9_metI (own := RX6) (by decide +kernel) rfl rfl (Nat.le_of_ble_eq_true rfl) rfl ?_
  intro p e s m args below meth c A Q X HR
  exact bk_X6_learn_0 X (ct_X4_keep l G M hk.2.2.1) (ct_X0_copyNotes l G _ (by decide) (by decide) (by decide)) (ct_X0_noteCount l G (m9_leaM M F) (q := 6) (by decide)) (HR 38 [] dX6_learn_38)
def m9_xAppend (U : Nat) (a : Int32) : Option String := if a < (33 : Int32) ∨ (126 : Int32) < a then some m9_ia else if U < 60 then none else some m9_is
theorem ct_X6_append {l : Launch} (hl : l.stackTraces = false) (G : k9_G) (M : k9_Mem) {B R F U : Nat} (hk : m9_okM M B R F U) (a : Int32) : k9_Cxi l yX6_append wsX6_append rm_X6_append 2 12 G M [.ref (k9_ga G 0), .int a] (m9_xAppend U a) (nI (U + 1)) (m9_add M U a) := by
  refine k9_metXi hl (own := RX6) (by decide +kernel) rfl rfl (Nat.le_of_ble_eq_true rfl) rfl ?_
  intro p e s m args below meth c A Q X he HR
  obtain ⟨-, -, -, hU, hU6⟩ := hk
  have hlt : M 66 1 < 60 ↔ U < 60 := by rw [hU]; exact m9_lt (b := 60) (by omega) (by decide)
  have un : m9_bi (¬ M 66 1 < 60) = 0 → U < 60 := fun h => hlt.mp (Classical.byContradiction (m9_bi_0 h))
  refine bk_X6_append_0 X (fun c1 => th_X6_append_12 X he (by rw [m9_xAppend, if_pos (Or.inl c1)]) (by decide) (by decide) (by decide)) (fun c1 c2 => ct_X2_isFull l G M) (fun c1 c2 c3 => ct_X2_add l G M (un c3) hU a) (fun c1 c2 c3 => HR ?_ _ _ _ _ (by decide) (by decide) dX6_append_50) (fun c1 c2 c3 => th_X6_append_32 X he ?_ (by decide) (by decide) (by decide)) (fun c1 c2 => th_X6_append_12 X he (by rw [m9_xAppend, if_pos (Or.inr (m9_nle c2))]) (by decide) (by decide) (by decide))
  · rw [m9_xAppend, if_neg (fun z => z.elim c1 (m9_le_n c2)), if_pos (un c3)]
  · rw [m9_xAppend, if_neg (fun z => z.elim c1 (m9_le_n c2)), if_neg (fun z => m9_bi_1 c3 (hlt.mpr z))]
theorem ct_X6_clearBuffer (l : Launch) (G : k9_G) (M : k9_Mem) : k9_Ci l yX6_clearBuffer wsX6_clearBuffer rm_X6_clearBuffer G M [.ref (k9_ga G 0)] (M 66 1) (k9_st M 66 1 0) := by
  refine k9_metI (own := RX6) (by decide +kernel) rfl rfl (Nat.le_of_ble_eq_true rfl) rfl ?_
  intro p e s m args below meth c A Q X HR
  exact bk_X6_clearBuffer_0 X (ct_X2_empty l G M) (HR 7 [] dX6_clearBuffer_7)
theorem ct_X6_firstError (l : Launch) (G : k9_G) (M : k9_Mem) {B R F U K : Nat} (hk : m9_okM M B R F U) (hR : m9_raR M U K) : k9_Ci l yX6_firstError wsX6_firstError rm_X6_firstError G M [.ref (k9_ga G 0)] (nI K) (m9_ra M K) := by
  refine k9_metI (own := RX6) (by decide +kernel) rfl rfl (Nat.le_of_ble_eq_true rfl) rfl ?_
  intro p e s m args below meth c A Q X HR
  exact bk_X6_firstError_0 X (ct_X2_readAll l G M hk.2.2.2.2 hk.2.2.2.1 hR) (HR 7 [] dX6_firstError_7)
/-- .. that throws with another memory -/
def k9_Cyi (l : Launch) (y : MethodName) (ws : List Cond) (rm : Room) (mc ms : Nat) (G : k9_G) (M N : k9_Mem) (av : List Value) (x : Option String) (rv : Int32) (mv : k9_Mem) : Prop :=
  ∀ sz, vx_Met l y ws rm (va_Pc av (k9_Pr G M sz)) (va_Qi (fun r u => x = none ∧ r = rv ∧ u = mv) (k9_We G) (k9_A G sz)) (k9_XC G N x (k9_A G sz)) mc ms (k9_A G sz)
theorem k9_metYi {l : Launch} (hl : l.stackTraces = false) {y : MethodName} {ws ws' : List Cond} {rm : Room} {mc ms : Nat} {G : k9_G} {M N : k9_Mem} {av : List Value} {x : Option String} {rv : Int32} {mv : k9_Mem} {cc : ByteArray} {maxL : Nat} {ty : FieldType} {own : String} (hy : plainName y.cls = true) (hown : y.cls = own) (hw : ws = Cond.code y cc maxL (some ty) :: ws') (hlen : (lg_sl av).length ≤ maxL) (hn : narrow ty (.int rv) = .int rv)
    (body : ∀ {p : Program} {e : Env} {s : State} {m : MethodId} {args : Array Value} {below : List Frame} {meth : Method} {c : Code} {A : Nat → Prop} {Qc : Array Value → State → Outcome → State → Prop}, k9_X p rm s m args c A G maxL cc ws own rm → k9_end l meth c → (x = none → ∀ k n pc lv, k ≤ mc → n ≤ ms → decode cc pc = .ok (.ireturn, 1) → k9_U p l e rm s m args below meth c (vx_MQ below Qc (k9_XC G N x A) args s mc ms A) A G maxL k n mv pc lv [.int rv]) → k9_U p l e rm s m args below meth c (vx_MQ below Qc (k9_XC G N x A) args s mc ms A) A G maxL 0 0 M 0 (lv_args 0 av) []) : k9_Cyi l y ws rm mc ms G M N av x rv mv := by
  intro sz
  refine vx_ofW (cc := cc) (maxL := maxL) (ret := some ty) hy hw ?_
  intro p e s m args below meth c s₁ B hml htab hv
  obtain ⟨rfl, hsz, hP, hK, hD0, hSK⟩ := hv
  have hts := atoms_spec (ws := ws) B.pre
  have hown' : s.vm.findClass own = some m.cls := by rw [← hown]; exact findClass_of_methodNamed B.named
  subst hsz
  have hD := k9_A_D s.heap.size hD0
  have hl2 := lv_entry av hlen
  rw [lg_entry_eq]
  refine body (A := k9_A G s.heap.size) ⟨B.exec, B.bytes, hml, hown', hts, hK, fun q h => Or.inr h, hSK, rfl⟩ ⟨hl, B.notSynchronized, htab⟩ (fun hxn k n pc lv hk hn2 d H locs ls hP hD hS h => ?_) s.heap [] _ hP hD va_S.rf hl2
  refine W.widen hk hn2 (vx_ret ?_)
  exact W.zret B.exec B.bytes B.returns hn (fun t ht hW => ⟨⟨rv, mv, rfl, ⟨hxn, rfl, rfl⟩, by rw [k9_We, ht]; exact hP⟩, hS.F ht⟩) hS.2.2 d
/-- the parts that were read, before it is known whether they fit -/
abbrev m9_prt0 (N : k9_Mem) (i : Nat) : Prop := ∃ f n : Nat, N 69 i = nI f ∧ N 70 i = nI n ∧ f < 96 ∧ 1 ≤ n ∧ n ≤ 96
theorem m9_prt_of {N : k9_Mem} {i : Nat} (h : m9_prt0 N i) (hf : m9_fit N i) : m9_prt N i := by
  obtain ⟨f, n, e1, e2, h1, h2, h3⟩ := h
  refine ⟨f, n, e1, e2, h2, ?_⟩
  unfold m9_fit at hf
  rw [e1, e2, nI_add] at hf
  rcases Nat.lt_or_ge 96 (f + n) with q | q
  · exact absurd ((m9_lt (a := 96) (by decide) (by omega)).mpr q) hf
  · exact q
abbrev m9_allf (N : k9_Mem) (P : Nat) : Prop := ∀ i, i < P → m9_fit N i
def m9_xPunchAll (M : k9_Mem) (U K P : Nat) [Decidable (m9_allf (m9_rrm M U K) P)] : Option String := if m9_row M U K then (if m9_allf (m9_rrm M U K) P then none else some m9_is) else some m9_ia
def m9_paM (M : k9_Mem) (F B U K P : Nat) : k9_Mem := m9_hear (k9_st (m9_ca (m9_keep (m9_rrm M U K) F) B P) 66 1 0) B
theorem m9_rrm_f (M : k9_Mem) (U K : Nat) {k : Nat} (h1 : k ≠ 66) (h2 : k ≠ 68) (h3 : k ≠ 69) (h4 : k ≠ 70) : m9_rrm M U K k = M k := by
  unfold m9_rrm
  by_cases c : m9_row M U K
  · rw [if_pos c, m9_kpm_f h1 h2 h3 h4, m9_ra_f M h1 h2 h3 h4]
  · rw [if_neg c, m9_ra_f M h1 h2 h3 h4]
theorem m9_sh_c {M N : k9_Mem} {F : Nat} (hs : m9_sh M F) (h1 : N 64 = M 64) (h2 : N 65 = M 65) : m9_sh N F := ⟨by rw [h1, hs.1], hs.2.1, fun j hj => by rw [h2]; exact hs.2.2 j hj⟩
theorem ct_X6_punchAll {l : Launch} (hl : l.stackTraces = false) (G : k9_G) (M : k9_Mem) {B R F U K P : Nat} (hk : m9_okM M B R F U) (hR : m9_raR M U K) (hP : P ≤ 60) (hP2 : m9_row M U K → m9_rrm M U K 66 5 = nI P ∧ ∀ i, i < P → m9_prt0 (m9_rrm M U K) i) [Decidable (m9_allf (m9_rrm M U K) P)] : k9_Cyi l yX6_punchAll wsX6_punchAll rm_X6_punchAll 2 12 G M (m9_rrm M U K) [.ref (k9_ga G 0)] (m9_xPunchAll M U K P) (m9_can (m9_keep (m9_rrm M U K) F) B P) (m9_paM M F B U K P) := by
  refine k9_metYi hl (own := RX6) (by decide +kernel) rfl rfl (Nat.le_of_ble_eq_true rfl) rfl ?_
  intro p e s m args below meth c A Q X he HR
  obtain ⟨⟨hB, hB3⟩, -, hs, hU, hU6⟩ := hk
  obtain ⟨N, hN⟩ : ∃ N, N = m9_rrm M U K := ⟨_, rfl⟩
  have hsN : m9_sh N F := m9_sh_c hs (by rw [hN, m9_rrm_f M U K (by decide) (by decide) (by decide) (by decide)]) (by rw [hN, m9_rrm_f M U K (by decide) (by decide) (by decide) (by decide)])
  have fk : ∀ {k : Nat}, k < 9 ∨ (57 ≤ k ∧ k ≠ 64 ∧ k ≠ 65) → m9_keep N F k = N k := fun h => m9_keep_f hsN h
  have k5 : m9_keep N F 1 5 = nI B := by rw [fk (Or.inl (by decide)), hN, m9_rrm_f M U K (by decide) (by decide) (by decide) (by decide), hB]
  have hrow : ∀ {z : Int32}, z = m9_bi (m9_row M U K) → ¬ z = 0 → N 66 5 = nI P ∧ ∀ i, i < P → m9_prt0 N i := fun hz h => by
    rw [hN]; exact hP2 (m9_bi_1 (fun q => h (hz.trans q)))
  refine bk_X6_punchAll_0 (mv1 := m9_rrm M U K) (rv2 := m9_bi (m9_allf (m9_rrm M U K) P)) (mv3 := m9_keep (m9_rrm M U K) F) (rv4 := m9_can (m9_keep (m9_rrm M U K) F) B P) (mv4 := m9_ca (m9_keep (m9_rrm M U K) F) B P) (mv6 := m9_paM M F B U K P) X (ct_X2_readRow l G M hU6 hU hR) (fun c1 => ?_) (fun c1 c2 => ?_) (fun c1 c2 => ?_) (fun c1 c2 => ct_X2_empty l G _) (fun c1 c2 => ?_) (fun c1 c2 => HR ?_ _ _ _ _ (by decide) (by decide) dX6_punchAll_83) (fun c1 c2 => ?_) (fun c1 => ?_)
  · have h := hrow rfl c1
    rw [hN] at h
    exact ct_X2_allFit l G _ hP h.1
  · rw [← hN]; exact ct_X4_keep l G N hsN
  · have h := hrow rfl c1
    have hf := m9_bi_1 c2
    rw [← hN] at hf ⊢
    have e66 := fk (k := 66) (Or.inr (by decide))
    have e69 := fk (k := 69) (Or.inr (by decide))
    have e70 := fk (k := 70) (Or.inr (by decide))
    refine ct_X2_cutAll l G _ hP (by rw [e66]; exact h.1) (by omega) k5 (fun i hi => ?_)
    have hp := m9_prt_of (h.2 i hi) (hf i hi)
    unfold m9_prt at hp ⊢
    rw [e69, e70]; exact hp
  · refine ct_X1_listenTo l G _ (by omega) ?_
    rw [m9_st_ne _ _ _ (by decide), m9_ca_f _ _ (by decide) (by decide), ← hN, k5]
  · rw [m9_xPunchAll, if_pos (m9_bi_1 c1), if_pos (m9_bi_1 c2)]
  · exact th_X6_punchAll_30 X he (by rw [m9_xPunchAll, if_pos (m9_bi_1 c1), if_neg (m9_bi_0 c2)]) (by decide) (by decide) (by decide)
  · exact th_X6_punchAll_10 X he (by rw [m9_xPunchAll, if_neg (m9_bi_0 c1)]) (by decide) (by decide) (by decide)
def m9_xUndo (F : Nat) : Option String := if F = 0 then some m9_is else none
theorem ct_X6_undo {l : Launch} (hl : l.stackTraces = false) (G : k9_G) (M : k9_Mem) {B R F U B' : Nat} (hk : m9_okM M B R F U) (hB' : B' < 1000) (h5 : 0 < F → m9_give M F 1 5 = nI B') : k9_Cxi l yX6_undo wsX6_undo rm_X6_undo 1 6 G M [.ref (k9_ga G 0)] (m9_xUndo F) (nI (F - 1)) (m9_hear (m9_give M F) B') := by
  refine k9_metXi hl (own := RX6) (by decide +kernel) rfl rfl (Nat.le_of_ble_eq_true rfl) rfl ?_
  intro p e s m args below meth c A Q X he HR
  obtain ⟨-, -, hs, -⟩ := hk
  have h6 := hs.2.1
  have hz : M 64 1 = 0 ↔ F = 0 := by rw [hs.1]; exact m9_eq (b := 0) (by omega) (by decide)
  have hp : ¬ M 64 1 = 0 → 0 < F := fun h => by
    have : ¬ F = 0 := fun z => h (hz.mpr z)
    omega
  refine bk_X6_undo_0 X (ct_X4_size l G M) (fun c1 => ct_X4_giveBack l G M hs (hp c1)) (fun c1 => ct_X1_listenTo l G _ hB' (h5 (hp c1))) (fun c1 => HR ?_ _ _ _ _ (by decide) (by decide) dX6_undo_44) (fun c1 => th_X6_undo_10 X he ?_ (by decide) (by decide) (by decide))
  · rw [m9_xUndo, if_neg (fun z => c1 (hz.mpr z))]
  · rw [m9_xUndo, if_pos (hz.mp c1)]
