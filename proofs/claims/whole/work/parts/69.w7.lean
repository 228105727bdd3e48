/-! The reference: count, setting, place, the tune's places, steering that is kept. -/
theorem m9_lay_77 (M : k9_Mem) (B : Nat) : m9_lay M B 77 = M 77 := by
  rw [m9_lay, m9_y3_ne _ (by decide) (by decide) (by decide) (by decide), m9_y2_ne _ _ (by decide) (by decide) (by decide), m9_y1_77]
/-- how many places are laid; all is laid as it must be -/
def m9_C (S : k9_Mem) (B : Nat) : Nat := fb_ct (m9_bg (m9_y2 S B 21 81)) 1920
abbrev m9_gd (S : k9_Mem) (B : Nat) : Prop := m9_lays (m9_y2 S B 21) ∧ m9_laid (m9_lay S B) (m9_C S B) ∧ m9_lai2 (m9_lay S B) (m9_C S B)
def m9_rn (S : k9_Mem) (B : Nat) : Int32 := m9_rig (m9_lay S B) (m9_C S B)
theorem ct_X7_rn (l : Launch) (G : k9_G) (S : k9_Mem) {B : Nat} (hB : B < 1000) (hM : S 77 384 = nI B) (h : m9_gd S B) : k9_Ci l yX7_rightsNow wsX7_rightsNow rm_X7_rightsNow G S [.ref (k9_ga G 76)] (m9_rn S B) (m9_lay S B) := ct_X7_rightsNow l G S hB hM h.1 h.2.1
def m9_rc0 (w : Int32) : Int32 := if m9_wn w 0 14 then 0 else 1
theorem ct_X7_count (l : Launch) (G : k9_G) (M : k9_Mem) {B R : Nat} (hB : B < 1000) (hM : M 77 384 = nI B) (hR : R < 900) (hM2 : M 77 385 = nI R) (H : m9_gd (k9_st M 76 5 0) B) (w : Int32) : k9_Ci l yX7_count wsX7_count rm_X7_count G M [.ref (k9_ga G 76), .int w] (if m9_rc0 w = 0 then m9_rco (m9_lay (k9_st M 76 5 0) B) (m9_C (k9_st M 76 5 0) B) R w else 0) (if m9_rc0 w = 0 then m9_lay (k9_st M 76 5 0) B else k9_st M 76 5 (m9_rc0 w)) := by
  refine k9_metI (own := RX7) (by decide +kernel) rfl rfl (Nat.le_of_ble_eq_true rfl) rfl ?_
  intro p e s m args below meth c A Q X HR
  refine bk_X7_count_0 X (ct_X7_within l G M _ _ _) (fun c1 => ?_) (fun c1 => ct_X7_lay l G _ hB (by rw [m9_st_ne _ _ _ (by decide), hM]) H.1) (fun c1 => ct_X7_counted l G _ H.2.1 H.2.2 hR (by rw [m9_lay_77, m9_st_ne _ _ _ (by decide), hM2]) w) (fun c1 => ?_)
  · have h0 : m9_rc0 w = 1 := by rw [m9_rc0, if_neg (m9_bi_0 c1)]
    have h9 := HR 27 [] dX7_count_27
    rw [h0, if_neg (by decide), if_neg (by decide)] at h9
    exact h9
  · have h0 : m9_rc0 w = 0 := by rw [m9_rc0, if_pos (m9_bi_1 c1)]
    have h9 := HR 37 [] dX7_count_37
    rw [if_pos h0, if_pos h0] at h9
    exact h9
def m9_rs0 (a : Int32) : Int32 := if m9_wn a 0 1 then 0 else 1
theorem ct_X7_setting (l : Launch) (G : k9_G) (M : k9_Mem) (a : Int32) : k9_Ci l yX7_setting wsX7_setting rm_X7_setting G M [.ref (k9_ga G 76), .int a] (if m9_rs0 a = 0 then M 77 (384 + a.toNatClampNeg) else 0) (k9_st M 76 5 (m9_rs0 a)) := by
  refine k9_metI (own := RX7) (by decide +kernel) rfl rfl (Nat.le_of_ble_eq_true rfl) rfl ?_
  intro p e s m args below meth c A Q X HR
  have idx : m9_wn a 0 1 → (384 : Int32) + a = nI (384 + a.toNatClampNeg) ∧ a.toNatClampNeg ≤ 1 := fun h => by
    have h2 := m9_rng (lo := 0) (hi := 1) (by decide) h.1 h.2 (by decide)
    have q := nI_add 384 a.toNatClampNeg
    rw [← h2.1] at q
    exact ⟨q, h2.2.2⟩
  refine bk_X7_setting_0 X (ct_X7_isSetting l G M a) (fun c1 => ?_) (fun c1 => ?_) (fun c1 => ?_)
  · have h0 : m9_rs0 a = 1 := by rw [m9_rs0, if_neg (m9_bi_0 c1)]
    have h9 := HR 37 [] dX7_setting_37
    rw [h0, if_neg (by decide)] at h9
    exact h9
  · obtain ⟨e1, l1⟩ := idx (m9_bi_1 c1)
    rw [e1]; exact m9_in (by omega) (by decide)
  · obtain ⟨e1, l1⟩ := idx (m9_bi_1 c1)
    have h0 : m9_rs0 a = 0 := by rw [m9_rs0, if_pos (m9_bi_1 c1)]
    have h9 := HR 37 [] dX7_setting_37
    rw [h0, if_pos rfl] at h9
    rw [e1, m9_cl (by omega)]
    exact h9
def m9_rpl (a t w : Int32) : Int32 := if ¬ m9_wn a 0 95 ∨ ¬ m9_wn t 0 25 then 1 else if ¬ m9_wn w 0 2 then 2 else 0
def m9_rpv (Z : Nat → Int32) (i : Nat) (t w : Int32) : Int32 := if w = 0 then (Z i >>> (t &&& 31)) &&& 1 else if w = 1 then (Z (96 + i) >>> (t &&& 31)) &&& 1 else m9_rrf Z i t
theorem ct_X7_place (l : Launch) (G : k9_G) (M : k9_Mem) (a t w : Int32) : k9_Ci l yX7_place wsX7_place rm_X7_place G M [.ref (k9_ga G 76), .int a, .int t, .int w] (if m9_rpl a t w = 0 then m9_rpv (M 77) a.toNatClampNeg t w else 0) (k9_st M 76 5 (m9_rpl a t w)) := by
  refine k9_metI (own := RX7) (by decide +kernel) rfl rfl (Nat.le_of_ble_eq_true rfl) rfl ?_
  intro p e s m args below meth c A Q X HR
  have no : ∀ z, m9_rpl a t w = z → ¬ z = 0 → k9_U p l e rm_X7_place s m args below meth c Q A G 4 0 0 (k9_st M 76 5 z) 44 [] [.int 0] := fun z hz h0 => by
    have h9 := HR 44 [] dX7_place_44
    rw [hz, if_neg h0] at h9
    exact h9
  have e77 : k9_st M 76 5 0 77 = M 77 := m9_st_ne _ _ _ (by decide)
  have yes : m9_wn a 0 95 → m9_wn t 0 25 → m9_wn w 0 2 → ∀ z, z = m9_rpv (M 77) a.toNatClampNeg t w → k9_U p l e rm_X7_place s m args below meth c Q A G 4 0 0 (k9_st M 76 5 0) 91 [] [.int z] := fun h1 h2 h3 z hz => by
    have h0 : m9_rpl a t w = 0 := by rw [m9_rpl, if_neg (fun q => q.elim (fun q => q h1) (fun q => q h2)), if_neg (fun q => q h3)]
    have h9 := HR 91 [] dX7_place_91
    rw [h0, if_pos rfl, ← hz] at h9
    exact h9
  have i0 : m9_wn a 0 95 → (0 : Int32) + a = nI a.toNatClampNeg ∧ (96 : Int32) + a = nI (96 + a.toNatClampNeg) ∧ a = nI a.toNatClampNeg ∧ a.toNatClampNeg < 96 := fun h => by
    obtain ⟨e1, l1⟩ := m9_wn_rng h
    have q0 := nI_add 0 a.toNatClampNeg
    have q1 := nI_add 96 a.toNatClampNeg
    rw [← e1] at q0 q1
    rw [Nat.zero_add, ← e1] at q0
    exact ⟨q0.trans e1, q1, e1, l1⟩
  refine bk_X7_place_0 (rv4 := m9_rrf (M 77) a.toNatClampNeg t) X (ct_X7_isStep l G M a) (fun c1 => no 1 (by rw [m9_rpl, if_pos (Or.inl (m9_bi_0 c1))]) (by decide)) (fun c1 => ct_X7_isTrack l G M t) (fun c1 c2 => ct_X7_within l G M _ _ _) (fun c1 c2 c3 => no 2 (by rw [m9_rpl, if_neg (fun q => q.elim (fun q => q (m9_bi_1 c1)) (fun q => q (m9_bi_1 c2))), if_pos (m9_bi_0 c3)]) (by decide)) (fun c1 c2 c3 c4 c5 => ?_) (fun c1 c2 c3 c4 c5 => ?_) (fun c1 c2 c3 c4 c5 => ?_) (fun c1 c2 c3 c4 c5 => ?_) (fun c1 c2 c3 c4 => ?_) (fun c1 c2 c3 c4 => ?_) (fun c1 c2 => no 1 (by rw [m9_rpl, if_pos (Or.inr (m9_bi_0 c2))]) (by decide))
  · obtain ⟨q0, q1, e1, l1⟩ := i0 (m9_bi_1 c1)
    have h9 := ct_X7_readFor l G (k9_st M 76 5 0) l1 t
    rw [e77, ← e1] at h9
    exact h9
  · exact yes (m9_bi_1 c1) (m9_bi_1 c2) (m9_bi_1 c3) _ (by rw [m9_rpv, if_neg c4, if_neg c5])
  · obtain ⟨q0, q1, e1, l1⟩ := i0 (m9_bi_1 c1)
    rw [q1]; exact m9_in (by omega) (by decide)
  · obtain ⟨q0, q1, e1, l1⟩ := i0 (m9_bi_1 c1)
    exact yes (m9_bi_1 c1) (m9_bi_1 c2) (m9_bi_1 c3) _ (by rw [q1, m9_cl (by omega), m9_rpv, if_neg c4, if_pos c5])
  · obtain ⟨q0, q1, e1, l1⟩ := i0 (m9_bi_1 c1)
    rw [q0]; exact m9_in (by omega) (by decide)
  · obtain ⟨q0, q1, e1, l1⟩ := i0 (m9_bi_1 c1)
    exact yes (m9_bi_1 c1) (m9_bi_1 c2) (m9_bi_1 c3) _ (by rw [q0, m9_cl (by omega), m9_rpv, if_pos c4])
/-- the steering is put aside, and back -/
def m9_ksM (M : k9_Mem) : k9_Mem := k9_sc M 88 (m9_fl (fun i => M 77 (288 + i)) (M 88) 96)
theorem ct_X7_keepSteering (l : Launch) (G : k9_G) (M : k9_Mem) : k9_Cv l yX7_keepSteering wsX7_keepSteering rm_X7_keepSteering G M [.ref (k9_ga G 76)] (m9_ksM M) := by
  refine k9_metV (own := RX7) (by decide +kernel) rfl rfl (Nat.le_of_ble_eq_true rfl) ?_
  intro p e s m args below meth c A Q X HR
  have loop : ∀ i, i ≤ 96 → k9_U p l e rm_X7_keepSteering s m args below meth c Q A G 2 0 0 (k9_sc M 88 (m9_fl (fun i => M 77 (288 + i)) (M 88) i)) 2 [(0, .ref (k9_ga G 76)), (1, .int (nI i))] [] := by
    refine m9_down 96 (fun i hi next => ?_)
    have e0 : (288 : Int32) + nI i = nI (288 + i) := nI_add 288 i
    have ee : (nI i).toNatClampNeg = i := m9_cl (by omega)
    have e1 : (nI (288 + i)).toNatClampNeg = 288 + i := m9_cl (by omega)
    refine bk_X7_keepSteering_2 X (fun c1 => ?_) (fun c1 => ?_) (fun c1 => m9_in (m9_go (N := 96) (by decide) hi c1) (by decide)) (fun c1 => ?_)
    · have hi2 := m9_ex (N := 96) (by decide) hi c1
      subst hi2
      exact HR 30 [] dX7_keepSteering_30
    · have := m9_go (N := 96) (by decide) hi c1
      rw [e0]; exact m9_in (by omega) (by decide)
    · have h9 := next (m9_go (N := 96) (by decide) hi c1)
      rw [e0, e1, ee, m9_st_sc, k9_sc_ne _ _ (by decide), m9_fl_succ (fun i => M 77 (288 + i)), nI_1]
      exact h9
  have h9 := loop 0 (by decide)
  rw [m9_fl_0, m9_sc_same rfl] at h9
  exact bk_X7_keepSteering_0 X h9
def m9_lbM (M : k9_Mem) : k9_Mem := k9_sc M 77 (fb_put (M 77) (M 88) 288 96)
theorem ct_X7_layBack (l : Launch) (G : k9_G) (M : k9_Mem) : k9_Cv l yX7_layBack wsX7_layBack rm_X7_layBack G M [.ref (k9_ga G 76)] (m9_lbM M) := by
  refine k9_metV (own := RX7) (by decide +kernel) rfl rfl (Nat.le_of_ble_eq_true rfl) ?_
  intro p e s m args below meth c A Q X HR
  have loop : ∀ i, i ≤ 96 → k9_U p l e rm_X7_layBack s m args below meth c Q A G 2 0 0 (k9_sc M 77 (fb_put (M 77) (M 88) 288 i)) 2 [(0, .ref (k9_ga G 76)), (1, .int (nI i))] [] := by
    refine m9_down 96 (fun i hi next => ?_)
    have e0 : (288 : Int32) + nI i = nI (288 + i) := nI_add 288 i
    have ee : (nI i).toNatClampNeg = i := m9_cl (by omega)
    have e1 : (nI (288 + i)).toNatClampNeg = 288 + i := m9_cl (by omega)
    refine bk_X7_layBack_2 X (fun c1 => ?_) (fun c1 => m9_in (m9_go (N := 96) (by decide) hi c1) (by decide)) (fun c1 => ?_) (fun c1 => ?_)
    · have hi2 := m9_ex (N := 96) (by decide) hi c1
      subst hi2
      exact HR 30 [] dX7_layBack_30
    · have := m9_go (N := 96) (by decide) hi c1
      rw [e0]; exact m9_in (by omega) (by decide)
    · have h9 := next (m9_go (N := 96) (by decide) hi c1)
      rw [e0, e1, ee, m9_st_sc, k9_sc_ne _ _ (by decide), fb_put_succ, nI_1]
      exact h9
  have h9 := loop 0 (by decide)
  rw [fb_put_0, m9_sc_same rfl] at h9
  exact bk_X7_layBack_0 X h9
