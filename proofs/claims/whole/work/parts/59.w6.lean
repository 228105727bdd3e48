/-! RollPunch: what there is, and what would be. -/
def m9_xPlace (a t w : Int32) : Option String := if ¬ m9_isS a then some m9_io else m9_xo (m9_xTrack t) (m9_xWhat w 2)
def m9_plt (M : k9_Mem) (i : Nat) (t : Int32) : Int32 := t - 2 - M 4 i - M 5 i
def m9_plv (M : k9_Mem) (i : Nat) (t w : Int32) : Int32 :=
  if w = 0 then (M 2 i >>> (t &&& 31)) &&& 1 else if w = 1 then (M 3 i >>> (t &&& 31)) &&& 1 else if m9_plt M i t = 0 then -2 else if m9_plt M i t ≤ 0 then -1 else if (21 : Int32) ≤ m9_plt M i t then -1 else m9_plt M i t - 1
theorem ct_X6_place {l : Launch} (hl : l.stackTraces = false) (G : k9_G) (M : k9_Mem) (a t w : Int32) : k9_Cxi l yX6_place wsX6_place rm_X6_place 3 18 G M [.ref (k9_ga G 0), .int a, .int t, .int w] (m9_xPlace a t w) (m9_plv M a.toNatClampNeg t w) M := by
  refine k9_metXi hl (own := RX6) (by decide +kernel) rfl rfl (Nat.le_of_ble_eq_true rfl) rfl ?_
  intro p e s m args below meth c A Q X he HR
  have nx : m9_isS a → m9_xPlace a t w = m9_xo (m9_xTrack t) (m9_xWhat w 2) := fun h => by rw [m9_xPlace, if_neg (fun z => z h)]
  have hx : ∀ {z : Int32}, z = m9_bi (m9_isS a) → ¬ z = 0 → m9_xTrack t = none → m9_xWhat w 2 = none → m9_xPlace a t w = none := fun hz h h2 h3 => by rw [nx (m9_bi_1 (fun q => h (hz.trans q))), m9_xo_n h2, h3]
  have hin : ¬ m9_bi (m9_isS a) = 0 → vp_in a 96 := fun h => m9_isS_in (m9_bi_1 h)
  refine bk_X6_place_0 X (ct_X6_isStep l G M a) (fun c1 => ct_X6_needTrack hl G M t) (fun c1 E hE => k9_outX he.2.1 he.2.2 (by rw [nx (m9_bi_1 c1), m9_xo_s hE]) (by decide) (by decide)) (fun c1 c2 => ct_X6_needWhat hl G M w 2) (fun c1 c2 E hE => k9_outX he.2.1 he.2.2 (by rw [nx (m9_bi_1 c1), m9_xo_n c2, hE]) (by decide) (by decide))
    (fun c1 c2 c3 c4 c5 => hin c1) (fun c1 c2 c3 c4 c5 c6 c7 => ?_) (fun c1 c2 c3 c4 c5 c6 c7 c8 => ?_) (fun c1 c2 c3 c4 c5 c6 c7 c8 => ?_) (fun c1 c2 c3 c4 c5 c6 => ?_) (fun c1 c2 c3 c4 c5 => hin c1) (fun c1 c2 c3 c4 c5 => ?_) (fun c1 c2 c3 c4 => hin c1) (fun c1 c2 c3 c4 => ?_) (fun c1 => th_X6_place_7 X he (by rw [m9_xPlace, if_pos (m9_bi_0 c1)]) (by decide) (by decide) (by decide))
  · exact k9_eq rfl (by rw [m9_plv, if_neg c4, if_neg c5, m9_plt, if_neg c6, if_pos c7]) (HR (hx rfl c1 c2 c3) _ _ _ [] (by decide) (by decide) dX6_place_116)
  · exact k9_eq rfl (by rw [m9_plv, if_neg c4, if_neg c5, m9_plt, if_neg c6, if_neg c7, if_pos c8]) (HR (hx rfl c1 c2 c3) _ _ _ [] (by decide) (by decide) dX6_place_116)
  · exact k9_eq rfl (by rw [m9_plv, if_neg c4, if_neg c5, m9_plt, if_neg c6, if_neg c7, if_neg c8]) (HR (hx rfl c1 c2 c3) _ _ _ [] (by decide) (by decide) dX6_place_116)
  · exact k9_eq rfl (by rw [m9_plv, if_neg c4, if_neg c5, m9_plt, if_pos c6]) (HR (hx rfl c1 c2 c3) _ _ _ [] (by decide) (by decide) dX6_place_95)
  · exact k9_eq rfl (by rw [m9_plv, if_neg c4, if_pos c5]) (HR (hx rfl c1 c2 c3) _ _ _ [] (by decide) (by decide) dX6_place_62)
  · exact k9_eq rfl (by rw [m9_plv, if_pos c4]) (HR (hx rfl c1 c2 c3) _ _ _ [] (by decide) (by decide) dX6_place_43)
def m9_xStep (a w : Int32) : Option String := if ¬ m9_isS a then some m9_io else m9_xWhat w 6
theorem ct_X6_step {l : Launch} (hl : l.stackTraces = false) (G : k9_G) (M : k9_Mem) {B R F U : Nat} (hk : m9_okM M B R F U) (a w : Int32) : k9_Cxi l yX6_step wsX6_step rm_X6_step 2 12 G M [.ref (k9_ga G 0), .int a, .int w] (m9_xStep a w) (m9_ofs M R a.toNatClampNeg w) M := by
  refine k9_metXi hl (own := RX6) (by decide +kernel) rfl rfl (Nat.le_of_ble_eq_true rfl) rfl ?_
  intro p e s m args below meth c A Q X he HR
  have nx : m9_isS a → m9_xStep a w = m9_xWhat w 6 := fun h => by rw [m9_xStep, if_neg (fun z => z h)]
  refine bk_X6_step_0 X (ct_X6_isStep l G M a) (fun c1 => ct_X6_needWhat hl G M w 6) (fun c1 E hE => k9_outX he.2.1 he.2.2 (by rw [nx (m9_bi_1 c1), hE]) (by decide) (by decide)) (fun c1 c2 => ?_) (fun c1 c2 => HR (by rw [nx (m9_bi_1 c1), c2]) _ _ _ _ (by decide) (by decide) dX6_step_29) (fun c1 => th_X6_step_7 X he (by rw [m9_xStep, if_pos (m9_bi_0 c1)]) (by decide) (by decide) (by decide))
  obtain ⟨e1, h1⟩ := m9_isS_rng (m9_bi_1 c1)
  have h := ct_X6_ofStep l G M h1 (R := R) (by have := hk.2.1.2; omega) hk.2.1.1 w
  rw [← e1] at h
  exact h
def m9_xPlayed (f : Nat → Int32) (a w z : Int32) : Option String := if m9_fst f a = -1 then some m9_io else m9_xWhat w z
theorem ct_X6_played {l : Launch} (hl : l.stackTraces = false) (G : k9_G) (M : k9_Mem) (a w : Int32) : k9_Cxi l yX6_played wsX6_played rm_X6_played 2 12 G M [.ref (k9_ga G 0), .int a, .int w] (m9_xPlayed (M 60) a w 5) (m9_ofp M (m9_voc M 59 a) (m9_fst (M 60) a) w) M := by
  refine k9_metXi hl (own := RX6) (by decide +kernel) rfl rfl (Nat.le_of_ble_eq_true rfl) rfl ?_
  intro p e s m args below meth c A Q X he HR
  refine bk_X6_played_0 X (ct_X0_firstStepOf l G M (q := 59) (by decide) a) (fun c1 => ct_X6_needWhat hl G M w 5) (fun c1 E hE => k9_outX he.2.1 he.2.2 (by rw [m9_xPlayed, if_neg c1, hE]) (by decide) (by decide)) (fun c1 c2 => ct_X0_voiceOf l G M (by decide) a) (fun c1 c2 => ct_X6_ofPlayed l G M _ _ _) (fun c1 c2 => HR (by rw [m9_xPlayed, if_neg c1, c2]) _ _ _ _ (by decide) (by decide) dX6_played_49) (fun c1 => th_X6_played_17 X he (by rw [m9_xPlayed, if_pos c1]) (by decide) (by decide) (by decide))
theorem ct_X6_tune {l : Launch} (hl : l.stackTraces = false) (G : k9_G) (M : k9_Mem) (a w : Int32) : k9_Cxi l yX6_tune wsX6_tune rm_X6_tune 2 12 G M [.ref (k9_ga G 0), .int a, .int w] (m9_xPlayed (M 7) a w 3) (m9_oft M (m9_voc M 6 a) (m9_fst (M 7) a) w) M := by
  refine k9_metXi hl (own := RX6) (by decide +kernel) rfl rfl (Nat.le_of_ble_eq_true rfl) rfl ?_
  intro p e s m args below meth c A Q X he HR
  refine bk_X6_tune_0 X (ct_X0_firstStepOf l G M (q := 6) (by decide) a) (fun c1 => ct_X6_needWhat hl G M w 3) (fun c1 E hE => k9_outX he.2.1 he.2.2 (by rw [m9_xPlayed, if_neg c1, hE]) (by decide) (by decide)) (fun c1 c2 => ct_X0_voiceOf l G M (by decide) a) (fun c1 c2 => ct_X6_ofTune l G M _ _ _) (fun c1 c2 => HR (by rw [m9_xPlayed, if_neg c1, c2]) _ _ _ _ (by decide) (by decide) dX6_tune_49) (fun c1 => th_X6_tune_17 X he (by rw [m9_xPlayed, if_pos c1]) (by decide) (by decide) (by decide))
theorem ct_X6_count {l : Launch} (hl : l.stackTraces = false) (G : k9_G) (M : k9_Mem) {B R F U : Nat} (hk : m9_okM M B R F U) (w : Int32) : k9_Cxi l yX6_count wsX6_count rm_X6_count 1 6 G M [.ref (k9_ga G 0), .int w] (m9_xWhat w 14) (m9_cou M R w) M := by
  refine k9_metXi hl (own := RX6) (by decide +kernel) rfl rfl (Nat.le_of_ble_eq_true rfl) rfl ?_
  intro p e s m args below meth c A Q X he HR
  exact bk_X6_count_0 X (ct_X6_needWhat hl G M w 14) (fun E hE => k9_outX he.2.1 he.2.2 hE (by decide) (by decide)) (fun c1 => ct_X6_counted l G M (by have := hk.2.1.2; omega) hk.2.1.1 w) (fun c1 => HR c1 _ _ _ _ (by decide) (by decide) dX6_count_11)
theorem ct_X6_setting {l : Launch} (hl : l.stackTraces = false) (G : k9_G) (M : k9_Mem) (a : Int32) : k9_Cxi l yX6_setting wsX6_setting rm_X6_setting 1 6 G M [.ref (k9_ga G 0), .int a] (m9_xSetting a) (m9_seo M a) M := by
  refine k9_metXi hl (own := RX6) (by decide +kernel) rfl rfl (Nat.le_of_ble_eq_true rfl) rfl ?_
  intro p e s m args below meth c A Q X he HR
  exact bk_X6_setting_0 X (ct_X6_needSetting hl G M a) (fun E hE => k9_outX he.2.1 he.2.2 hE (by decide) (by decide)) (fun c1 => ct_X6_settingOf l G M a) (fun c1 => HR c1 _ _ _ _ (by decide) (by decide) dX6_setting_9)
def m9_bes (N : k9_Mem) (w : Int32) : Int32 := if w = 0 then N 71 2 else N 71 3
def m9_xBestS (a b w : Int32) : Option String := m9_xo (m9_xSteps a b) (m9_xWhat w 1)
theorem ct_X6_bestSteer {l : Launch} (hl : l.stackTraces = false) (G : k9_G) (M : k9_Mem) {B R F U : Nat} (hk : m9_okM M B R F U) (a b w : Int32) : k9_Cxi l yX6_bestSteer wsX6_bestSteer rm_X6_bestSteer 3 18 G M [.ref (k9_ga G 0), .int a, .int b, .int w] (m9_xBestS a b w) (m9_bes (m9_fsM M a b B 7) w) (m9_fsM M a b B 7) := by
  refine k9_metXi hl (own := RX6) (by decide +kernel) rfl rfl (Nat.le_of_ble_eq_true rfl) rfl ?_
  intro p e s m args below meth c A Q X he HR
  refine bk_X6_bestSteer_0 X (ct_X6_needSteps hl G M a b) (fun E hE => k9_outX he.2.1 he.2.2 (m9_xo_s hE) (by decide) (by decide)) (fun c1 => ct_X6_needWhat hl G M w 1) (fun c1 E hE => k9_outX he.2.1 he.2.2 ((m9_xo_n c1).trans hE) (by decide) (by decide)) (fun c1 c2 => ct_X5_findSteer l G M (by have := hk.1.2; omega) hk.1.1 a b) (fun c1 c2 c3 => ?_) (fun c1 c2 c3 => ?_)
  · exact k9_eq rfl (by rw [m9_bes, if_neg c3]) (HR ((m9_xo_n c1).trans c2) _ _ _ [] (by decide) (by decide) dX6_bestSteer_48)
  · exact k9_eq rfl (by rw [m9_bes, if_pos c3]) (HR ((m9_xo_n c1).trans c2) _ _ _ [] (by decide) (by decide) dX6_bestSteer_48)
theorem ct_X6_bestBridge (l : Launch) (G : k9_G) (M : k9_Mem) : k9_Ci l yX6_bestBridge wsX6_bestBridge rm_X6_bestBridge G M [.ref (k9_ga G 0)] (m9_fbM M 4 71 2) (m9_fbM M 4) := by
  refine k9_metI (own := RX6) (by decide +kernel) rfl rfl (Nat.le_of_ble_eq_true rfl) rfl ?_
  intro p e s m args below meth c A Q X HR
  exact bk_X6_bestBridge_0 X (ct_X5_findBridge l G M) (HR 22 [] dX6_bestBridge_22)
def m9_xBestB (y w : Int32) : Option String := m9_xo (m9_xAside y) (m9_xWhat w 1)
theorem ct_X6_bestBreak {l : Launch} (hl : l.stackTraces = false) (G : k9_G) (M : k9_Mem) {B R F U : Nat} (hk : m9_okM M B R F U) (y w : Int32) : k9_Cxi l yX6_bestBreak wsX6_bestBreak rm_X6_bestBreak 2 12 G M [.ref (k9_ga G 0), .int y, .int w] (m9_xBestB y w) (m9_bes (m9_bk (m9_bk0 M y) B 96).1 w) (m9_bk (m9_bk0 M y) B 96).1 := by
  refine k9_metXi hl (own := RX6) (by decide +kernel) rfl rfl (Nat.le_of_ble_eq_true rfl) rfl ?_
  intro p e s m args below meth c A Q X he HR
  refine bk_X6_bestBreak_0 X (ct_X6_needAside hl G M y) (fun E hE => k9_outX he.2.1 he.2.2 (m9_xo_s hE) (by decide) (by decide)) (fun c1 => ct_X6_needWhat hl G M w 1) (fun c1 E hE => k9_outX he.2.1 he.2.2 ((m9_xo_n c1).trans hE) (by decide) (by decide)) (fun c1 c2 => ct_X5_findBreak l G M (by have := hk.1.2; omega) hk.1.1 y) (fun c1 c2 c3 => ?_) (fun c1 c2 c3 => ?_)
  · exact k9_eq rfl (by rw [m9_bes, if_neg c3]) (HR ((m9_xo_n c1).trans c2) _ _ _ [] (by decide) (by decide) dX6_bestBreak_46)
  · exact k9_eq rfl (by rw [m9_bes, if_pos c3]) (HR ((m9_xo_n c1).trans c2) _ _ _ [] (by decide) (by decide) dX6_bestBreak_46)
theorem ct_X6_holesFor {l : Launch} (hl : l.stackTraces = false) (G : k9_G) (M : k9_Mem) {B R F U : Nat} (hk : m9_okM M B R F U) (a : Int32) : k9_Cxi l yX6_holesFor wsX6_holesFor rm_X6_holesFor 1 6 G M [.ref (k9_ga G 0), .int a] (m9_xLength a) (m9_hi a.toNatClampNeg B a.toNatClampNeg) M := by
  refine k9_metXi hl (own := RX6) (by decide +kernel) rfl rfl (Nat.le_of_ble_eq_true rfl) rfl ?_
  intro p e s m args below meth c A Q X he HR
  refine bk_X6_holesFor_0 X (ct_X6_needLength hl G M a) (fun E hE => k9_outX he.2.1 he.2.2 hE (by decide) (by decide)) (fun c1 => ?_) (fun c1 => HR c1 _ _ _ _ (by decide) (by decide) dX6_holesFor_12)
  obtain ⟨e1, h1, h2⟩ := m9_xLength_n c1
  have h := ct_X3_holesIn l G M (n := a.toNatClampNeg) (B := B) h2 (by have := hk.1.2; omega) hk.1.1
  rw [← e1] at h
  exact h
