/-! The reference: tear, steer, set, learn, append, clearBuffer, undo. -/
theorem ct_X7_canTear_z (l : Launch) (G : k9_G) (M : k9_Mem) (Z : Nat → Int32) (hZ : M 77 = Z) (y : Int32) {f g : Nat} (hfg : f ≤ g) (hg : g < 96) [Decidable (m9_ctW Z y f g)] : k9_Ci l yX7_canTear wsX7_canTear rm_X7_canTear G M [.ref (k9_ga G 76), .int (nI f), .int (nI g), .int y] (m9_bi (m9_ctW Z y f g)) M := by
  subst hZ
  exact ct_X7_canTear l G M y hfg hg
def m9_rte (Z : Nat → Int32) (a b y : Int32) [Decidable (m9_ctW Z y a.toNatClampNeg b.toNatClampNeg)] : Int32 := if ¬ m9_rfr 1 a b = 0 then m9_rfr 1 a b else if ¬ m9_wn y (-3) 3 then 2 else if m9_ctW Z y a.toNatClampNeg b.toNatClampNeg then 0 else 3
def m9_teN (M : k9_Mem) (F : Nat) (y : Int32) (f g : Nat) : k9_Mem := k9_sc (m9_save (k9_st M 76 5 0) F) 77 (fb_put (M 77) (fun j => M 77 (192 + f + j) + y) (192 + f) (g + 1 - f))
theorem ct_X7_tear (l : Launch) (G : k9_G) (M : k9_Mem) {F B C : Nat} (hF : F ≤ 6) (hM : M 76 1 = nI F) (hB : B < 1000) (hM2 : M 77 384 = nI B) (a b y : Int32) [Decidable (m9_ctW (M 77) y a.toNatClampNeg b.toNatClampNeg)] (H : m9_rte (M 77) a b y = 0 → m9_lays (m9_y2 (m9_teN M F y a.toNatClampNeg b.toNatClampNeg) B 21) ∧ m9_laid (m9_lay (m9_teN M F y a.toNatClampNeg b.toNatClampNeg) B) C) : k9_Ci l yX7_tear wsX7_tear rm_X7_tear G M [.ref (k9_ga G 76), .int a, .int b, .int y] (if m9_rte (M 77) a b y = 0 then m9_rig (m9_lay (m9_teN M F y a.toNatClampNeg b.toNatClampNeg) B) C else 0) (if m9_rte (M 77) a b y = 0 then m9_lay (m9_teN M F y a.toNatClampNeg b.toNatClampNeg) B else k9_st M 76 5 (m9_rte (M 77) a b y)) := by
  refine k9_metI (own := RX7) (by decide +kernel) rfl rfl (Nat.le_of_ble_eq_true rfl) rfl ?_
  intro p e s m args below meth c A Q X HR
  obtain ⟨r, hr⟩ : ∃ r, r = m9_rfr 1 a b := ⟨_, rfl⟩
  have hle := m9_rfr_le 1 a b
  rw [← hr] at hle
  have hsv : m9_save (k9_st M 76 5 0) F 77 = M 77 := by rw [m9_save_ne _ _ (by decide) (by decide), m9_st_ne _ _ _ (by decide)]
  have no : ∀ z, m9_rte (M 77) a b y = z → ¬ z = 0 → k9_U p l e rm_X7_tear s m args below meth c Q A G 5 0 0 (k9_st M 76 5 z) 55 [] [.int 0] := fun z hz h0 => by
    have h9 := HR 55 [] dX7_tear_55
    rw [hz, if_neg h0, if_neg h0] at h9
    exact h9
  have e77 : ∀ z, k9_st M 76 5 z 77 = M 77 := fun z => m9_st_ne _ _ _ (by decide)
  have ce : m9_rfr 1 a b = 0 → k9_Ci l yX7_canTear wsX7_canTear rm_X7_canTear G (k9_st M 76 5 r) [.ref (k9_ga G 76), .int a, .int b, .int y] (m9_bi (m9_ctW (M 77) y a.toNatClampNeg b.toNatClampNeg)) (k9_st M 76 5 r) := fun h0 => by
    obtain ⟨-, ha, hb, hab⟩ := m9_rfr_0 h0
    have hfg := m9_two_n ha hb hab
    obtain ⟨e1, l1⟩ := m9_wn_rng ha
    obtain ⟨e2, l2⟩ := m9_wn_rng hb
    have h9 := ct_X7_canTear_z l G (k9_st M 76 5 r) (M 77) (e77 r) y hfg l2
    rw [← e1, ← e2] at h9
    exact h9
  refine bk_X7_tear_0 (mv2 := M) (mv5 := m9_save (k9_st M 76 5 0) F) X (hr ▸ ct_X7_refusedRange l G M 1 a b) (fun c1 c2 => absurd (hle.mp c2) c1) (fun c1 c2 => absurd (hle.mp c2) c1) (fun c1 c2 => no r (by rw [m9_rte, if_pos (by rw [← hr]; exact c1), hr]) c1) (fun c1 => ct_X7_isSide l G _ y) (fun c1 c2 => ce (hr.symm.trans c1)) (fun c1 c2 c3 => ?_) (fun c1 c2 c3 => ?_) (fun c1 c2 c3 => ?_) (fun c1 c2 => ?_)
  · rw [m9_st_st]
    exact no 3 (by rw [m9_rte, if_neg (fun z => z (hr.symm.trans c1)), if_neg (fun z => z (m9_bi_1 c2)), if_neg (m9_bi_0 c3)]) (by decide)
  · rw [m9_st_st]
    exact ct_X7_save l G _ hF (by rw [m9_st_at_ne _ _ (by decide), hM])
  · have h0 : m9_rte (M 77) a b y = 0 := by rw [m9_rte, if_neg (fun z => z (hr.symm.trans c1)), if_neg (fun z => z (m9_bi_1 c2)), if_pos (m9_bi_1 c3)]
    rw [if_pos h0, if_pos h0] at HR
    obtain ⟨Hl, Hd⟩ := H h0
    obtain ⟨-, ha, hb, hab⟩ := m9_rfr_0 (hr.symm.trans c1)
    have hfg := m9_two_n ha hb hab
    obtain ⟨e1, l1⟩ := m9_wn_rng ha
    obtain ⟨e2, l2⟩ := m9_wn_rng hb
    obtain ⟨f, hf⟩ : ∃ f, f = a.toNatClampNeg := ⟨_, rfl⟩
    obtain ⟨g, hg⟩ : ∃ g, g = b.toNatClampNeg := ⟨_, rfl⟩
    rw [← hf, ← hg] at HR Hl Hd
    rw [← hf] at e1 l1 hfg
    rw [← hg] at e2 l2 hfg
    rw [e1, e2]
    obtain ⟨N, hN⟩ : ∃ N, N = m9_save (k9_st M 76 5 0) F := ⟨_, rfl⟩
    have hS : m9_teN M F y f g = k9_sc N 77 (fb_put (M 77) (fun j => M 77 (192 + f + j) + y) (192 + f) (g + 1 - f)) := by rw [hN]; rfl
    rw [← hN] at hsv ⊢
    have loop : ∀ j, j ≤ g + 1 - f → k9_U p l e rm_X7_tear s m args below meth c Q A G 5 0 0 (k9_sc N 77 (fb_put (M 77) (fun j => M 77 (192 + f + j) + y) (192 + f) j)) 63 [(0, .ref (k9_ga G 76)), (2, .int (nI g)), (3, .int y), (4, .int (nI (f + j)))] [] := by
      refine m9_down (g + 1 - f) (fun j hj next => ?_)
      have hlt : nI g < nI (f + j) ↔ g < f + j := m9_lt (by omega) (by omega)
      have e3 : (192 : Int32) + nI (f + j) = nI (192 + f + j) := by rw [show 192 + f + j = 192 + (f + j) by omega]; exact nI_add 192 (f + j)
      have e4 : (nI (192 + f + j)).toNatClampNeg = 192 + f + j := m9_cl (by omega)
      have go : ¬ nI g < nI (f + j) → f + j ≤ g := fun c2 => by
        rcases Nat.lt_or_ge g (f + j) with q | q
        · exact absurd (hlt.mpr q) c2
        · exact q
      refine bk_X7_tear_63 (rv1 := m9_rig (m9_lay (m9_teN M F y f g) B) C) (mv1 := m9_lay (m9_teN M F y f g) B) X (fun c4 => ?_) (fun c4 => ?_) (fun c4 => ?_) (fun c4 => ?_)
      · have : j = g + 1 - f := by have := hlt.mp c4; omega
        subst this
        rw [← hS]
        refine ct_X7_rightsNow l G _ hB ?_ Hl Hd
        rw [hS, k9_sc_eq, fb_put_out (Or.inr (by omega)), hM2]
      · exact HR 94 [] dX7_tear_94
      · have := go c4
        rw [e3]; exact m9_in (by omega) (by decide)
      · have := go c4
        have h9 := next (by omega)
        rw [← fb_put_succ] at h9
        rw [e3, e4, m9_st_sc, k9_sc_eq, fb_put_out (Or.inr (Nat.le_refl _)), nI_1]
        exact h9
    have h9 := loop 0 (by omega)
    rw [fb_put_0, m9_sc_same hsv] at h9
    exact h9
  · rw [m9_st_st]
    exact no 2 (by rw [m9_rte, if_neg (fun z => z (hr.symm.trans c1)), if_pos (m9_bi_0 c2)]) (by decide)
def m9_rst (a b y : Int32) : Int32 := if ¬ m9_rfr 1 a b = 0 then m9_rfr 1 a b else if ¬ m9_wn y (-3) 3 then 2 else 0
def m9_stN (M : k9_Mem) (F : Nat) (y : Int32) (f g : Nat) : k9_Mem := k9_sc (m9_save (k9_st M 76 5 0) F) 77 (fb_put (M 77) (fun _ => y) (288 + f) (g + 1 - f))
theorem ct_X7_steer (l : Launch) (G : k9_G) (M : k9_Mem) {F B C : Nat} (hF : F ≤ 6) (hM : M 76 1 = nI F) (hB : B < 1000) (hM2 : M 77 384 = nI B) (a b y : Int32) (H : m9_rst a b y = 0 → m9_lays (m9_y2 (m9_stN M F y a.toNatClampNeg b.toNatClampNeg) B 21) ∧ m9_laid (m9_lay (m9_stN M F y a.toNatClampNeg b.toNatClampNeg) B) C) : k9_Ci l yX7_steer wsX7_steer rm_X7_steer G M [.ref (k9_ga G 76), .int a, .int b, .int y] (if m9_rst a b y = 0 then m9_rig (m9_lay (m9_stN M F y a.toNatClampNeg b.toNatClampNeg) B) C else 0) (if m9_rst a b y = 0 then m9_lay (m9_stN M F y a.toNatClampNeg b.toNatClampNeg) B else k9_st M 76 5 (m9_rst a b y)) := by
  refine k9_metI (own := RX7) (by decide +kernel) rfl rfl (Nat.le_of_ble_eq_true rfl) rfl ?_
  intro p e s m args below meth c A Q X HR
  obtain ⟨r, hr⟩ : ∃ r, r = m9_rfr 1 a b := ⟨_, rfl⟩
  have hle := m9_rfr_le 1 a b
  rw [← hr] at hle
  have hsv : m9_save (k9_st M 76 5 0) F 77 = M 77 := by rw [m9_save_ne _ _ (by decide) (by decide), m9_st_ne _ _ _ (by decide)]
  have no : ∀ z, m9_rst a b y = z → ¬ z = 0 → k9_U p l e rm_X7_steer s m args below meth c Q A G 5 0 0 (k9_st M 76 5 z) 41 [] [.int 0] := fun z hz h0 => by
    have h9 := HR 41 [] dX7_steer_41
    rw [hz, if_neg h0, if_neg h0] at h9
    exact h9
  refine bk_X7_steer_0 (mv2 := M) (mv4 := m9_save (k9_st M 76 5 0) F) X (hr ▸ ct_X7_refusedRange l G M 1 a b) (fun c1 c2 => absurd (hle.mp c2) c1) (fun c1 c2 => absurd (hle.mp c2) c1) (fun c1 c2 => no r (by rw [m9_rst, if_pos (by rw [← hr]; exact c1), hr]) c1) (fun c1 => ct_X7_isSide l G _ y) (fun c1 c2 => ?_) (fun c1 c2 => ?_) (fun c1 c2 => ?_)
  · rw [m9_st_st]
    exact no 2 (by rw [m9_rst, if_neg (fun z => z (hr.symm.trans c1)), if_pos (m9_bi_0 c2)]) (by decide)
  · rw [m9_st_st]
    exact ct_X7_save l G _ hF (by rw [m9_st_at_ne _ _ (by decide), hM])
  · have h0 : m9_rst a b y = 0 := by rw [m9_rst, if_neg (fun z => z (hr.symm.trans c1)), if_neg (fun z => z (m9_bi_1 c2))]
    rw [if_pos h0, if_pos h0] at HR
    obtain ⟨Hl, Hd⟩ := H h0
    obtain ⟨-, ha, hb, hab⟩ := m9_rfr_0 (hr.symm.trans c1)
    have hfg := m9_two_n ha hb hab
    obtain ⟨e1, l1⟩ := m9_wn_rng ha
    obtain ⟨e2, l2⟩ := m9_wn_rng hb
    obtain ⟨f, hf⟩ : ∃ f, f = a.toNatClampNeg := ⟨_, rfl⟩
    obtain ⟨g, hg⟩ : ∃ g, g = b.toNatClampNeg := ⟨_, rfl⟩
    rw [← hf, ← hg] at HR Hl Hd
    rw [← hf] at e1 l1 hfg
    rw [← hg] at e2 l2 hfg
    rw [e1, e2]
    obtain ⟨N, hN⟩ : ∃ N, N = m9_save (k9_st M 76 5 0) F := ⟨_, rfl⟩
    have hS : m9_stN M F y f g = k9_sc N 77 (fb_put (M 77) (fun _ => y) (288 + f) (g + 1 - f)) := by rw [hN]; rfl
    rw [← hN] at hsv ⊢
    have loop : ∀ j, j ≤ g + 1 - f → k9_U p l e rm_X7_steer s m args below meth c Q A G 5 0 0 (k9_sc N 77 (fb_put (M 77) (fun _ => y) (288 + f) j)) 49 [(0, .ref (k9_ga G 76)), (2, .int (nI g)), (3, .int y), (4, .int (nI (f + j)))] [] := by
      refine m9_down (g + 1 - f) (fun j hj next => ?_)
      have hlt : nI g < nI (f + j) ↔ g < f + j := m9_lt (by omega) (by omega)
      have e3 : (288 : Int32) + nI (f + j) = nI (288 + f + j) := by rw [show 288 + f + j = 288 + (f + j) by omega]; exact nI_add 288 (f + j)
      have e4 : (nI (288 + f + j)).toNatClampNeg = 288 + f + j := m9_cl (by omega)
      have go : ¬ nI g < nI (f + j) → f + j ≤ g := fun c2 => by
        rcases Nat.lt_or_ge g (f + j) with q | q
        · exact absurd (hlt.mpr q) c2
        · exact q
      refine bk_X7_steer_49 (rv1 := m9_rig (m9_lay (m9_stN M F y f g) B) C) (mv1 := m9_lay (m9_stN M F y f g) B) X (fun c4 => ?_) (fun c4 => ?_) (fun c4 => ?_) (fun c4 => ?_)
      · have : j = g + 1 - f := by have := hlt.mp c4; omega
        subst this
        rw [← hS]
        refine ct_X7_rightsNow l G _ hB ?_ Hl Hd
        rw [hS, k9_sc_eq, fb_put_out (Or.inr (by omega)), hM2]
      · exact HR 77 [] dX7_steer_77
      · have := go c4
        rw [e3]; exact m9_in (by omega) (by decide)
      · have := go c4
        have h9 := next (by omega)
        rw [← fb_put_succ] at h9
        rw [e3, e4, m9_st_sc, nI_1]
        exact h9
    have h9 := loop 0 (by omega)
    rw [fb_put_0, m9_sc_same hsv] at h9
    exact h9
theorem ct_X7_isSetting (l : Launch) (G : k9_G) (M : k9_Mem) (a : Int32) : k9_Ci l yX7_isSetting wsX7_isSetting rm_X7_isSetting G M [.int a] (m9_bi (m9_wn a 0 1)) M := by
  refine k9_metI (own := RX7) (by decide +kernel) rfl rfl (Nat.le_of_ble_eq_true rfl) m9_nb ?_
  intro p e s m args below meth c A Q X HR
  exact bk_X7_isSetting_0 X (ct_X7_within l G M _ _ _) (HR 6 [] dX7_isSetting_6)
def m9_rse (a v : Int32) : Int32 := if ¬ m9_wn a 0 1 then 1 else if ¬ m9_wn v 0 (if a = 0 then (3 : Int32) else (8 : Int32)) then 2 else 0
theorem ct_X7_set (l : Launch) (G : k9_G) (M : k9_Mem) {F : Nat} (hF : F ≤ 6) (hM : M 76 1 = nI F) (a v : Int32) : k9_Ci l yX7_set wsX7_set rm_X7_set G M [.ref (k9_ga G 76), .int a, .int v] (if m9_rse a v = 0 then M 77 (384 + a.toNatClampNeg) else 0) (if m9_rse a v = 0 then k9_st (m9_save (k9_st M 76 5 0) F) 77 (384 + a.toNatClampNeg) v else k9_st M 76 5 (m9_rse a v)) := by
  refine k9_metI (own := RX7) (by decide +kernel) rfl rfl (Nat.le_of_ble_eq_true rfl) rfl ?_
  intro p e s m args below meth c A Q X HR
  have hsv : m9_save (k9_st M 76 5 0) F 77 = M 77 := by rw [m9_save_ne _ _ (by decide) (by decide), m9_st_ne _ _ _ (by decide)]
  have no : ∀ z, m9_rse a v = z → ¬ z = 0 → k9_U p l e rm_X7_set s m args below meth c Q A G 4 0 0 (k9_st M 76 5 z) 46 [] [.int 0] := fun z hz h0 => by
    have h9 := HR 46 [] dX7_set_46
    rw [hz, if_neg h0, if_neg h0] at h9
    exact h9
  have idx : m9_wn a 0 1 → (384 : Int32) + a = nI (384 + a.toNatClampNeg) ∧ a.toNatClampNeg ≤ 1 := fun h => by
    have h2 := m9_rng (lo := 0) (hi := 1) (by decide) h.1 h.2 (by decide)
    have q := nI_add 384 a.toNatClampNeg
    rw [← h2.1] at q
    exact ⟨q, h2.2.2⟩
  have sv := ct_X7_save l G (k9_st M 76 5 0) hF (by rw [m9_st_at_ne _ _ (by decide), hM])
  have yes : m9_wn a 0 1 → m9_rse a v = 0 → k9_U p l e rm_X7_set s m args below meth c Q A G 4 0 0 (k9_st (m9_save (k9_st M 76 5 0) F) 77 ((384 : Int32) + a).toNatClampNeg v) 74 [] [.int (m9_save (k9_st M 76 5 0) F 77 ((384 : Int32) + a).toNatClampNeg)] := fun h h0 => by
    obtain ⟨e1, l1⟩ := idx h
    have h9 := HR 74 [] dX7_set_74
    rw [if_pos h0, if_pos h0] at h9
    rw [e1, m9_cl (by omega), hsv]
    exact h9
  have i9 : m9_wn a 0 1 → vp_in ((384 : Int32) + a) 578 := fun h => by
    obtain ⟨e1, l1⟩ := idx h
    rw [e1]; exact m9_in (by omega) (by decide)
  have x8 : m9_wn a 0 1 → ¬ a = 0 → m9_rse a v = if ¬ m9_wn v 0 8 then 2 else 0 := fun h1 h2 => by rw [m9_rse, if_neg (fun z => z h1), if_neg h2]
  have x3 : m9_wn a 0 1 → a = 0 → m9_rse a v = if ¬ m9_wn v 0 3 then 2 else 0 := fun h1 h2 => by rw [m9_rse, if_neg (fun z => z h1), if_pos h2]
  refine bk_X7_set_0 X (ct_X7_isSetting l G M a) (fun c1 c2 => ct_X7_within l G M _ _ _) (fun c1 c2 c3 => no 2 (by rw [x8 (m9_bi_1 c1) c2, if_pos (m9_bi_0 c3)]) (by decide)) (fun c1 c2 c3 => sv) (fun c1 c2 c3 => i9 (m9_bi_1 c1)) (fun c1 c2 c3 => yes (m9_bi_1 c1) (by rw [x8 (m9_bi_1 c1) c2, if_neg (fun z => z (m9_bi_1 c3))])) (fun c1 c2 => ct_X7_within l G M _ _ _) (fun c1 c2 c3 => no 2 (by rw [x3 (m9_bi_1 c1) c2, if_pos (m9_bi_0 c3)]) (by decide)) (fun c1 c2 c3 => sv) (fun c1 c2 c3 => i9 (m9_bi_1 c1)) (fun c1 c2 c3 => yes (m9_bi_1 c1) (by rw [x3 (m9_bi_1 c1) c2, if_neg (fun z => z (m9_bi_1 c3))])) (fun c1 => no 1 (by rw [m9_rse, if_pos (m9_bi_0 c1)]) (by decide))
/-- the tune is learnt -/
def m9_rln (Z b e : Nat → Int32) (i : Nat) : Nat → Int32 := fun j => if 386 ≤ j ∧ j < 386 + i then b (j - 386) &&& 1048575 else if 482 ≤ j ∧ j < 482 + i then e (j - 482) &&& 1048575 else Z j
theorem m9_rln_s (Z b e : Nat → Int32) {i : Nat} (hi : i < 96) : upd (upd (m9_rln Z b e i) (386 + i) (b i &&& 1048575)) (482 + i) (e i &&& 1048575) = m9_rln Z b e (i + 1) := by
  funext j
  unfold m9_rln
  by_cases c1 : j = 482 + i
  · subst c1; rw [m9_upd_at, if_neg (by omega), if_pos (by omega), show 482 + i - 482 = i by omega]
  · rw [m9_upd_ne _ _ c1]
    by_cases c2 : j = 386 + i
    · subst c2; rw [m9_upd_at, if_pos (by omega), show 386 + i - 386 = i by omega]
    · rw [m9_upd_ne _ _ c2]
      by_cases c3 : 386 ≤ j ∧ j < 386 + i
      · rw [if_pos c3, if_pos (by omega)]
      · rw [if_neg c3, if_neg (show ¬ (386 ≤ j ∧ j < 386 + (i + 1)) by omega)]
        by_cases c4 : 482 ≤ j ∧ j < 482 + i
        · rw [if_pos c4, if_pos (by omega)]
        · rw [if_neg c4, if_neg (by omega)]
def m9_leL (M : k9_Mem) (F B : Nat) : k9_Mem := m9_lay (m9_save (k9_st M 76 5 0) F) B
theorem ct_X7_learn (l : Launch) (G : k9_G) (M : k9_Mem) {F B : Nat} (hF : F ≤ 6) (hM : M 76 1 = nI F) (hB : B < 1000) (hM2 : M 77 384 = nI B) (H : m9_lays (m9_y2 (m9_save (k9_st M 76 5 0) F) B 21)) : k9_Ci l yX7_learn wsX7_learn rm_X7_learn G M [.ref (k9_ga G 76)] (m9_leL M F B 76 13) (k9_sc (m9_leL M F B) 77 (m9_rln (m9_leL M F B 77) (m9_leL M F B 81) (m9_leL M F B 82) 96)) := by
  refine k9_metI (own := RX7) (by decide +kernel) rfl rfl (Nat.le_of_ble_eq_true rfl) rfl ?_
  intro p e s m args below meth c A Q X HR
  have hsv : m9_save (k9_st M 76 5 0) F 77 = M 77 := by rw [m9_save_ne _ _ (by decide) (by decide), m9_st_ne _ _ _ (by decide)]
  obtain ⟨L, hL⟩ : ∃ L, L = m9_leL M F B := ⟨_, rfl⟩
  rw [← hL] at HR
  have loop : ∀ i, i ≤ 96 → k9_U p l e rm_X7_learn s m args below meth c Q A G 3 0 0 (k9_sc L 77 (m9_rln (L 77) (L 81) (L 82) i)) 18 [(0, .ref (k9_ga G 76)), (1, .int 1048575), (2, .int (nI i))] [] := by
    refine m9_down 96 (fun i hi next => ?_)
    have e0 : (386 : Int32) + nI i = nI (386 + i) := nI_add 386 i
    have e1 : (482 : Int32) + nI i = nI (482 + i) := nI_add 482 i
    have e2 : (nI i).toNatClampNeg = i := m9_cl (by omega)
    have e3 : (nI (386 + i)).toNatClampNeg = 386 + i := m9_cl (by omega)
    have e4 : (nI (482 + i)).toNatClampNeg = 482 + i := m9_cl (by omega)
    refine bk_X7_learn_18 X (fun c1 => ?_) (fun c1 => m9_in (m9_go (N := 96) (by decide) hi c1) (by decide)) (fun c1 => ?_) (fun c1 => ?_) (fun c1 => ?_)
    · have hi2 := m9_ex (N := 96) (by decide) hi c1
      subst hi2
      exact HR 70 [] dX7_learn_70
    · have := m9_go (N := 96) (by decide) hi c1
      rw [e0]; exact m9_in (by omega) (by decide)
    · have := m9_go (N := 96) (by decide) hi c1
      rw [e1]; exact m9_in (by omega) (by decide)
    · have h9 := next (m9_go (N := 96) (by decide) hi c1)
      rw [← m9_rln_s _ _ _ (m9_go (N := 96) (by decide) hi c1)] at h9
      rw [e0, e1, e2, e3, e4, m9_st_sc, m9_st_sc, nI_1]
      exact h9
  have h9 := loop 0 (by decide)
  have ez : m9_rln (L 77) (L 81) (L 82) 0 = L 77 := by
    funext j; unfold m9_rln; rw [if_neg (by omega), if_neg (by omega)]
  rw [ez, m9_sc_same rfl] at h9
  exact bk_X7_learn_0 X (ct_X7_save l G _ hF (by rw [m9_st_at_ne _ _ (by decide), hM])) (hL ▸ ct_X7_lay l G _ hB (by rw [hsv, hM2]) H) h9
def m9_rap (U : Nat) (a : Int32) : Int32 := if ¬ m9_wn a 33 126 then 1 else if U = 60 then 2 else 0
theorem ct_X7_append (l : Launch) (G : k9_G) (M : k9_Mem) {U : Nat} (hU : U ≤ 60) (hM : M 76 3 = nI U) (a : Int32) : k9_Ci l yX7_append wsX7_append rm_X7_append G M [.ref (k9_ga G 76), .int a] (if m9_rap U a = 0 then nI (U + 1) else 0) (if m9_rap U a = 0 then k9_st (k9_st (k9_st M 76 5 0) 79 U a) 76 3 (nI (U + 1)) else k9_st M 76 5 (m9_rap U a)) := by
  refine k9_metI (own := RX7) (by decide +kernel) rfl rfl (Nat.le_of_ble_eq_true rfl) rfl ?_
  intro p e s m args below meth c A Q X HR
  have heq : M 76 3 = (60 : Int32) ↔ U = 60 := by rw [hM]; exact m9_eq (b := 60) (by omega) (by decide)
  have ee : (M 76 3).toNatClampNeg = U := by rw [hM, m9_cl (by omega)]
  have no : ∀ z, m9_rap U a = z → ¬ z = 0 → k9_U p l e rm_X7_append s m args below meth c Q A G 2 0 0 (k9_st M 76 5 z) 41 [] [.int 0] := fun z hz h0 => by
    have h9 := HR 41 [] dX7_append_41
    rw [hz, if_neg h0, if_neg h0] at h9
    exact h9
  refine bk_X7_append_0 X (ct_X7_within l G M _ _ _) (fun c1 c2 => ?_) (fun c1 c2 => ?_) (fun c1 c2 => no 2 (by rw [m9_rap, if_neg (fun z => z (m9_bi_1 c1)), if_pos (heq.mp c2)]) (by decide)) (fun c1 => no 1 (by rw [m9_rap, if_pos (m9_bi_0 c1)]) (by decide))
  · have : ¬ U = 60 := fun z => c2 (heq.mpr z)
    rw [hM]; exact m9_in (by omega) (by decide)
  · have h0 : m9_rap U a = 0 := by rw [m9_rap, if_neg (fun z => z (m9_bi_1 c1)), if_neg (fun z => c2 (heq.mpr z))]
    have h9 := HR 66 [] dX7_append_66
    rw [if_pos h0, if_pos h0] at h9
    rw [ee, hM, nI_1]
    exact h9
theorem ct_X7_clearBuffer (l : Launch) (G : k9_G) (M : k9_Mem) : k9_Ci l yX7_clearBuffer wsX7_clearBuffer rm_X7_clearBuffer G M [.ref (k9_ga G 76)] (M 76 3) (k9_st (k9_st M 76 5 0) 76 3 0) := by
  refine k9_metI (own := RX7) (by decide +kernel) rfl rfl (Nat.le_of_ble_eq_true rfl) rfl ?_
  intro p e s m args below meth c A Q X HR
  exact bk_X7_clearBuffer_0 X (HR 16 [] dX7_clearBuffer_16)
def m9_run (M : k9_Mem) (F : Nat) : k9_Mem := k9_sc (k9_st (k9_st M 76 5 0) 76 1 (nI (F - 1))) 77 (fb_put (M 77) (fun k => M 78 (578 * (F - 1) + k)) 0 578)
theorem ct_X7_undo (l : Launch) (G : k9_G) (M : k9_Mem) {F : Nat} (hF : F ≤ 6) (hM : M 76 1 = nI F) : k9_Ci l yX7_undo wsX7_undo rm_X7_undo G M [.ref (k9_ga G 76)] (if F = 0 then 0 else nI (F - 1)) (if F = 0 then k9_st M 76 5 1 else m9_run M F) := by
  refine k9_metI (own := RX7) (by decide +kernel) rfl rfl (Nat.le_of_ble_eq_true rfl) rfl ?_
  intro p e s m args below meth c A Q X HR
  have hle : M 76 1 ≤ 0 ↔ F = 0 := by
    rw [hM]
    have := m9_le (a := F) (b := 0) (by omega) (by decide)
    constructor
    · intro h; have := this.mp h; omega
    · intro h; exact this.mpr (by omega)
  refine bk_X7_undo_0 X (fun c1 => ?_) (fun c1 => ?_)
  · have h0 := hle.mp c1
    have h9 := HR 24 [] dX7_undo_24
    rw [if_pos h0, if_pos h0] at h9
    exact h9
  · have h0 : ¬ F = 0 := fun z => c1 (hle.mpr z)
    rw [if_neg h0, if_neg h0] at HR
    obtain ⟨N, hN⟩ : ∃ N, N = k9_st (k9_st M 76 5 0) 76 1 (nI (F - 1)) := ⟨_, rfl⟩
    have hN7 : N 77 = M 77 := by rw [hN, m9_st_ne _ _ _ (by decide), m9_st_ne _ _ _ (by decide)]
    have hN8 : N 78 = M 78 := by rw [hN, m9_st_ne _ _ _ (by decide), m9_st_ne _ _ _ (by decide)]
    have hN1 : N 76 1 = nI (F - 1) := by rw [hN, m9_st_at, m9_upd_at]
    have loop : ∀ i, i ≤ 578 → k9_U p l e rm_X7_undo s m args below meth c Q A G 2 0 0 (k9_sc N 77 (fb_put (M 77) (fun k => M 78 (578 * (F - 1) + k)) 0 i)) 37 [(0, .ref (k9_ga G 76)), (1, .int (nI i))] [] := by
      refine m9_down 578 (fun i hi next => ?_)
      have ee : (nI i).toNatClampNeg = i := m9_cl (by omega)
      have e76 : k9_sc N 77 (fb_put (M 77) (fun k => M 78 (578 * (F - 1) + k)) 0 i) 76 1 = nI (F - 1) := by rw [k9_sc_ne _ _ (by decide), hN1]
      have e1 : (578 : Int32) * nI (F - 1) + nI i = nI (578 * (F - 1) + i) := by rw [show (578 : Int32) = nI 578 from rfl, pk_mul, nI_add]
      refine bk_X7_undo_37 X (fun c2 => ?_) (fun c2 => ?_) (fun c2 => m9_in (m9_go (N := 578) (by decide) hi c2) (by decide)) (fun c2 => ?_)
      · have hi2 := m9_ex (N := 578) (by decide) hi c2
        subst hi2
        refine k9_eq rfl (by rw [e76]) (k9_memeq ?_ (HR 75 [] dX7_undo_75))
        rw [m9_run, hN]
      · have := m9_go (N := 578) (by decide) hi c2
        rw [e76, e1]; exact m9_in (by omega) (by decide)
      · have h9 := next (m9_go (N := 578) (by decide) hi c2)
        rw [← fb_put_succ, Nat.zero_add] at h9
        rw [e76, e1, ee, m9_cl (by omega), m9_st_sc, k9_sc_ne _ _ (by decide), hN8, nI_1]
        exact h9
    have h9 := loop 0 (by decide)
    rw [fb_put_0, m9_sc_same hN7, hN] at h9
    rw [hM, m9_sub1 (by omega)]
    exact h9
