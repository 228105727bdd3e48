/-! RollPunch: what it needs, and its numbers. -/
abbrev m9_io : String := "java/lang/IndexOutOfBoundsException"
abbrev m9_ia : String := "java/lang/IllegalArgumentException"
abbrev m9_is : String := "java/lang/IllegalStateException"
def m9_xTrack (a : Int32) : Option String := if a < 0 ∨ (26 : Int32) ≤ a then some m9_io else none
def m9_xSetting (a : Int32) : Option String := if a < 0 ∨ (1 : Int32) < a then some m9_io else none
def m9_xAside (a : Int32) : Option String := if a < (-3 : Int32) ∨ (3 : Int32) < a then some m9_ia else none
def m9_xLength (a : Int32) : Option String := if a < 1 ∨ (96 : Int32) < a then some m9_ia else none
def m9_xWhat (a b : Int32) : Option String := if a < 0 ∨ b < a then some m9_ia else none
def m9_xSteps (a b : Int32) : Option String := if ¬ m9_isS a ∨ ¬ m9_isS b then some m9_io else if b < a then some m9_ia else none
theorem m9_nlt {a b : Int32} (h : ¬ a < b) : b ≤ a := fa_of_nlt h
theorem m9_nle {a b : Int32} (h : ¬ a ≤ b) : b < a := fa_of_nle h
theorem m9_le_n {a b : Int32} (h : a ≤ b) : ¬ b < a := fun c => by
  have h1 := (fa_le a b).mp h
  have h2 := (fa_lt b a).mp c
  omega
theorem m9_lt_n {a b : Int32} (h : a < b) : ¬ b ≤ a := fun c => m9_le_n c h
theorem ct_X6_needTrack {l : Launch} (hl : l.stackTraces = false) (G : k9_G) (M : k9_Mem) (a : Int32) : k9_Cxv l yX6_needTrack wsX6_needTrack rm_X6_needTrack 1 6 G M [.int a] (m9_xTrack a) M := by
  refine k9_metXv hl (own := RX6) (by decide +kernel) rfl rfl (Nat.le_of_ble_eq_true rfl) ?_
  intro p e s m args below meth c A Q X he HR
  refine bk_X6_needTrack_0 X (fun c1 => ?_) (fun c1 c2 => ?_) (fun c1 c2 => ?_)
  · exact th_X6_needTrack_10 X he (by rw [m9_xTrack, if_pos (Or.inl c1)]) (by decide) (by decide) (by decide)
  · exact HR (by rw [m9_xTrack, if_neg (fun z => z.elim c1 (m9_lt_n c2))]) _ _ _ _ (by decide) (by decide) dX6_needTrack_21
  · exact th_X6_needTrack_10 X he (by rw [m9_xTrack, if_pos (Or.inr (m9_nlt c2))]) (by decide) (by decide) (by decide)
theorem ct_X6_needSetting {l : Launch} (hl : l.stackTraces = false) (G : k9_G) (M : k9_Mem) (a : Int32) : k9_Cxv l yX6_needSetting wsX6_needSetting rm_X6_needSetting 1 6 G M [.int a] (m9_xSetting a) M := by
  refine k9_metXv hl (own := RX6) (by decide +kernel) rfl rfl (Nat.le_of_ble_eq_true rfl) ?_
  intro p e s m args below meth c A Q X he HR
  refine bk_X6_needSetting_0 X (fun c1 => ?_) (fun c1 c2 => ?_) (fun c1 c2 => ?_)
  · exact th_X6_needSetting_9 X he (by rw [m9_xSetting, if_pos (Or.inl c1)]) (by decide) (by decide) (by decide)
  · exact HR (by rw [m9_xSetting, if_neg (fun z => z.elim c1 (m9_le_n c2))]) _ _ _ _ (by decide) (by decide) dX6_needSetting_20
  · exact th_X6_needSetting_9 X he (by rw [m9_xSetting, if_pos (Or.inr (m9_nle c2))]) (by decide) (by decide) (by decide)
theorem ct_X6_needAside {l : Launch} (hl : l.stackTraces = false) (G : k9_G) (M : k9_Mem) (a : Int32) : k9_Cxv l yX6_needAside wsX6_needAside rm_X6_needAside 1 6 G M [.int a] (m9_xAside a) M := by
  refine k9_metXv hl (own := RX6) (by decide +kernel) rfl rfl (Nat.le_of_ble_eq_true rfl) ?_
  intro p e s m args below meth c A Q X he HR
  refine bk_X6_needAside_0 X (fun c1 => ?_) (fun c1 c2 => ?_) (fun c1 c2 => ?_)
  · exact th_X6_needAside_11 X he (by rw [m9_xAside, if_pos (Or.inl c1)]) (by decide) (by decide) (by decide)
  · exact HR (by rw [m9_xAside, if_neg (fun z => z.elim c1 (m9_le_n c2))]) _ _ _ _ (by decide) (by decide) dX6_needAside_22
  · exact th_X6_needAside_11 X he (by rw [m9_xAside, if_pos (Or.inr (m9_nle c2))]) (by decide) (by decide) (by decide)
theorem ct_X6_needLength {l : Launch} (hl : l.stackTraces = false) (G : k9_G) (M : k9_Mem) (a : Int32) : k9_Cxv l yX6_needLength wsX6_needLength rm_X6_needLength 1 6 G M [.int a] (m9_xLength a) M := by
  refine k9_metXv hl (own := RX6) (by decide +kernel) rfl rfl (Nat.le_of_ble_eq_true rfl) ?_
  intro p e s m args below meth c A Q X he HR
  refine bk_X6_needLength_0 X (fun c1 => ?_) (fun c1 c2 => ?_) (fun c1 c2 => ?_)
  · exact th_X6_needLength_11 X he (by rw [m9_xLength, if_pos (Or.inl c1)]) (by decide) (by decide) (by decide)
  · exact HR (by rw [m9_xLength, if_neg (fun z => z.elim c1 (m9_le_n c2))]) _ _ _ _ (by decide) (by decide) dX6_needLength_22
  · exact th_X6_needLength_11 X he (by rw [m9_xLength, if_pos (Or.inr (m9_nle c2))]) (by decide) (by decide) (by decide)
theorem ct_X6_needWhat {l : Launch} (hl : l.stackTraces = false) (G : k9_G) (M : k9_Mem) (a b : Int32) : k9_Cxv l yX6_needWhat wsX6_needWhat rm_X6_needWhat 1 6 G M [.int a, .int b] (m9_xWhat a b) M := by
  refine k9_metXv hl (own := RX6) (by decide +kernel) rfl rfl (Nat.le_of_ble_eq_true rfl) ?_
  intro p e s m args below meth c A Q X he HR
  refine bk_X6_needWhat_0 X (fun c1 => ?_) (fun c1 c2 => ?_) (fun c1 c2 => ?_)
  · exact th_X6_needWhat_9 X he (by rw [m9_xWhat, if_pos (Or.inl c1)]) (by decide) (by decide) (by decide)
  · exact HR (by rw [m9_xWhat, if_neg (fun z => z.elim c1 (m9_le_n c2))]) _ _ _ _ (by decide) (by decide) dX6_needWhat_20
  · exact th_X6_needWhat_9 X he (by rw [m9_xWhat, if_pos (Or.inr (m9_nle c2))]) (by decide) (by decide) (by decide)
theorem ct_X6_needSteps {l : Launch} (hl : l.stackTraces = false) (G : k9_G) (M : k9_Mem) (a b : Int32) : k9_Cxv l yX6_needSteps wsX6_needSteps rm_X6_needSteps 2 12 G M [.int a, .int b] (m9_xSteps a b) M := by
  refine k9_metXv hl (own := RX6) (by decide +kernel) rfl rfl (Nat.le_of_ble_eq_true rfl) ?_
  intro p e s m args below meth c A Q X he HR
  refine bk_X6_needSteps_0 X (ct_X6_isStep l G M a) (fun c1 => ?_) (fun c1 => ct_X6_isStep l G M b) (fun c1 c2 c3 => ?_) (fun c1 c2 c3 => ?_) (fun c1 c2 => ?_)
  · exact th_X6_needSteps_14 X he (by rw [m9_xSteps, if_pos (Or.inl (m9_bi_0 c1))]) (by decide) (by decide) (by decide)
  · exact HR (by rw [m9_xSteps, if_neg (fun z => z.elim (fun z => z (m9_bi_1 c1)) (fun z => z (m9_bi_1 c2))), if_neg (m9_le_n c3)]) _ _ _ _ (by decide) (by decide) dX6_needSteps_40
  · exact th_X6_needSteps_29 X he (by rw [m9_xSteps, if_neg (fun z => z.elim (fun z => z (m9_bi_1 c1)) (fun z => z (m9_bi_1 c2))), if_pos (m9_nle c3)]) (by decide) (by decide) (by decide)
  · exact th_X6_needSteps_14 X he (by rw [m9_xSteps, if_pos (Or.inr (m9_bi_0 c2))]) (by decide) (by decide) (by decide)
def m9_seo (M : k9_Mem) (a : Int32) : Int32 := if a = 0 then M 1 5 else M 1 6
theorem ct_X6_settingOf (l : Launch) (G : k9_G) (M : k9_Mem) (a : Int32) : k9_Ci l yX6_settingOf wsX6_settingOf rm_X6_settingOf G M [.ref (k9_ga G 0), .int a] (m9_seo M a) M := by
  refine k9_metI (own := RX6) (by decide +kernel) rfl rfl (Nat.le_of_ble_eq_true rfl) rfl ?_
  intro p e s m args below meth c A Q X HR
  refine bk_X6_settingOf_0 X (fun c1 => ?_) (fun c1 => ?_)
  · exact k9_eq rfl (by rw [m9_seo, if_neg c1]) (HR 21 [] dX6_settingOf_21)
  · exact k9_eq rfl (by rw [m9_seo, if_pos c1]) (HR 21 [] dX6_settingOf_21)
theorem ct_X6_rightNotes (l : Launch) (G : k9_G) (M : k9_Mem) : k9_Ci l yX6_rightNotes wsX6_rightNotes rm_X6_rightNotes G M [.ref (k9_ga G 0)] (m9_same M 59 6) M := by
  refine k9_metI (own := RX6) (by decide +kernel) rfl rfl (Nat.le_of_ble_eq_true rfl) rfl ?_
  intro p e s m args below meth c A Q X HR
  exact bk_X6_rightNotes_0 X (ct_X0_sameNotes l G M (by decide) (by decide)) (HR 17 [] dX6_rightNotes_17)
def m9_ofs (M : k9_Mem) (R i : Nat) (w : Int32) : Int32 :=
  if w = 0 then M 4 i else if w = 1 then M 5 i else if w = 2 then (M 62 i &&& 2097150) >>> ((1 : Int32) &&& 31) else if w = 3 then (M 63 i &&& 2097150) >>> ((1 : Int32) &&& 31) else if w = 4 then M 62 i &&& 1 else if w = 5 then m9_bi (m9_wi M (nI i) R) else m9_op M i
theorem ct_X6_ofStep (l : Launch) (G : k9_G) (M : k9_Mem) {i R : Nat} (hi : i < 96) (hR : R < 1000) (hM : M 1 6 = nI R) (w : Int32) : k9_Ci l yX6_ofStep wsX6_ofStep rm_X6_ofStep G M [.ref (k9_ga G 0), .int (nI i), .int w] (m9_ofs M R i w) M := by
  refine k9_metI (own := RX6) (by decide +kernel) rfl rfl (Nat.le_of_ble_eq_true rfl) rfl ?_
  intro p e s m args below meth c A Q X HR
  have ee : (nI i).toNatClampNeg = i := m9_cl (by omega)
  have hin : vp_in (nI i) 96 := m9_in hi (by decide)
  have n1 : ∀ {a b : Int32}, a = b → ∀ z : Int32, ¬ b = z → ¬ a = z := fun h z hz q => hz (h.symm.trans q)
  refine bk_X6_ofStep_0 (rv2 := m9_bi (m9_wi M (nI i) R)) X (ct_X6_isStep l G M _) (fun c1 c2 => hin) (fun c1 c2 => ?_) (fun c1 c2 => hin) (fun c1 c2 => ?_) (fun c1 c2 => hin) (fun c1 c2 => ?_) (fun c1 c2 => hin) (fun c1 c2 => ?_) (fun c1 c2 => hin) (fun c1 c2 => ?_) (fun c1 c2 => ?_) (fun c1 c2 c3 => ?_) (fun c1 c2 c3 => ?_) (fun c1 c2 c3 c4 c5 c6 c7 => ct_X3_openAt_n l G M hi) (fun c1 c2 c3 c4 c5 c6 c7 => ?_) (fun c1 => ?_)
  · subst c2; rw [ee]; exact HR 57 [] dX6_ofStep_57
  · subst c2; rw [ee]; exact HR 67 [] dX6_ofStep_67
  · subst c2; rw [ee]; exact HR 83 [] dX6_ofStep_83
  · subst c2; rw [ee]; exact HR 99 [] dX6_ofStep_99
  · subst c2; rw [ee]; exact HR 111 [] dX6_ofStep_111
  · rw [hM]; exact ct_X1_isPedalWished l G M _ hR
  · subst c2
    exact k9_eq rfl (by rw [m9_ofs, if_neg (by decide), if_neg (by decide), if_neg (by decide), if_neg (by decide), if_neg (by decide), if_pos rfl, c3]) (HR 135 [] dX6_ofStep_135)
  · subst c2
    exact k9_eq rfl (by rw [m9_ofs, if_neg (by decide), if_neg (by decide), if_neg (by decide), if_neg (by decide), if_neg (by decide), if_pos rfl, m9_bi_t (m9_bi_1 c3)]) (HR 135 [] dX6_ofStep_135)
  · exact k9_eq rfl (by rw [m9_ofs, if_neg c2, if_neg c3, if_neg c4, if_neg c5, if_neg c6, if_neg c7]) (HR 144 [] dX6_ofStep_144)
  · exact absurd (m9_isS_nI hi) (m9_bi_0 c1)
def m9_ofp (M : k9_Mem) (v f w : Int32) : Int32 :=
  if w = 0 then v - 1 else if w = 1 then f else if w = 2 then m9_from (M 61) v f 96 else if w = 3 then m9_ls M v (m9_from (M 61) v f 96) 96 else if w = 4 then m9_hr (M 58) v f (m9_from (M 61) v f 96) else m9_bi (m9_has M 6 v f (m9_from (M 61) v f 96))
theorem ct_X6_ofPlayed (l : Launch) (G : k9_G) (M : k9_Mem) (v f w : Int32) : k9_Ci l yX6_ofPlayed wsX6_ofPlayed rm_X6_ofPlayed G M [.ref (k9_ga G 0), .int v, .int f, .int w] (m9_ofp M v f w) M := by
  refine k9_metI (own := RX6) (by decide +kernel) rfl rfl (Nat.le_of_ble_eq_true rfl) rfl ?_
  intro p e s m args below meth c A Q X HR
  refine bk_X6_ofPlayed_0 X (ct_X0_lastStepFrom l G M (by decide) v f) (fun c2 => ?_) (fun c2 => ?_) (fun c2 => ?_) (fun c2 => ct_X1_lastSoundAfter l G M _ _) (fun c2 => ?_) (fun c2 => ct_X1_holesRead l G M _ _ _) (fun c2 => ?_) (fun c2 c3 c4 c5 c6 => ct_X0_hasChain l G M (by decide) _ _ _) (fun c2 c3 c4 c5 c6 c7 => ?_) (fun c2 c3 c4 c5 c6 c7 => ?_)
  · subst c2; exact HR 51 [] dX6_ofPlayed_51
  · subst c2; exact HR 53 [] dX6_ofPlayed_53
  · subst c2; exact HR 56 [] dX6_ofPlayed_56
  · subst c2; exact k9_eq rfl (by rw [m9_ofp, if_neg (by decide), if_neg (by decide), if_neg (by decide), if_pos rfl]) (HR 67 [] dX6_ofPlayed_67)
  · subst c2; exact k9_eq rfl (by rw [m9_ofp, if_neg (by decide), if_neg (by decide), if_neg (by decide), if_neg (by decide), if_pos rfl]) (HR 79 [] dX6_ofPlayed_79)
  · exact k9_eq rfl (by rw [m9_ofp, if_neg c2, if_neg c3, if_neg c4, if_neg c5, if_neg c6, c7]) (HR 102 [] dX6_ofPlayed_102)
  · exact k9_eq rfl (by rw [m9_ofp, if_neg c2, if_neg c3, if_neg c4, if_neg c5, if_neg c6, m9_bi_t (m9_bi_1 c7)]) (HR 102 [] dX6_ofPlayed_102)
def m9_oft (M : k9_Mem) (v f w : Int32) : Int32 :=
  if w = 0 then v - 1 else if w = 1 then f else if w = 2 then m9_from (M 8) v f 96 else m9_bi (¬ m9_has M 59 v f (m9_from (M 8) v f 96))
theorem ct_X6_ofTune (l : Launch) (G : k9_G) (M : k9_Mem) (v f w : Int32) : k9_Ci l yX6_ofTune wsX6_ofTune rm_X6_ofTune G M [.ref (k9_ga G 0), .int v, .int f, .int w] (m9_oft M v f w) M := by
  refine k9_metI (own := RX6) (by decide +kernel) rfl rfl (Nat.le_of_ble_eq_true rfl) rfl ?_
  intro p e s m args below meth c A Q X HR
  refine bk_X6_ofTune_0 X (ct_X0_lastStepFrom l G M (by decide) v f) (fun c2 => ?_) (fun c2 => ?_) (fun c2 => ?_) (fun c2 c3 c4 => ct_X0_hasChain l G M (by decide) _ _ _) (fun c2 c3 c4 c7 => ?_) (fun c2 c3 c4 c7 => ?_)
  · subst c2; exact HR 43 [] dX6_ofTune_43
  · subst c2; exact HR 45 [] dX6_ofTune_45
  · subst c2; exact HR 48 [] dX6_ofTune_48
  · exact k9_eq rfl (by rw [m9_oft, if_neg c2, if_neg c3, if_neg c4, m9_bi_t (m9_bi_0 c7)]) (HR 71 [] dX6_ofTune_71)
  · exact k9_eq rfl (by rw [m9_oft, if_neg c2, if_neg c3, if_neg c4, m9_bi_f (fun z => z (m9_bi_1 c7))]) (HR 71 [] dX6_ofTune_71)
def m9_cou (M : k9_Mem) (R : Nat) (w : Int32) : Int32 :=
  if w = 0 then m9_bin (M 2) 67108863 else if w = 1 then m9_oh M else if w = 2 then m9_bin (M 3) 67108863 else if w = 3 then m9_bin (M 60) 2097150 else if w = 4 then m9_bin (M 7) 2097150 else if w = 5 then m9_same M 59 6
  else if w = 6 then m9_bin (M 60) 2097150 - m9_same M 59 6 else if w = 7 then m9_bin (M 7) 2097150 - m9_same M 59 6 else if w = 8 then m9_bin (M 60) 1 else if w = 9 then m9_bin (M 62) 1 else if w = 10 then m9_ws M R else if w = 11 then m9_hw M
  else if w = 12 then m9_oh M - m9_bin (M 58) 2097151 else if w = 13 then m9_tn M else M 64 1
theorem ct_X6_counted (l : Launch) (G : k9_G) (M : k9_Mem) {R : Nat} (hR : R < 1000) (hM : M 1 6 = nI R) (w : Int32) : k9_Ci l yX6_counted wsX6_counted rm_X6_counted G M [.ref (k9_ga G 0), .int w] (m9_cou M R w) M := by
  refine k9_metI (own := RX6) (by decide +kernel) rfl rfl (Nat.le_of_ble_eq_true rfl) rfl ?_
  intro p e s m args below meth c A Q X HR
  have a2 : k9_ar 2 96 := ⟨by decide, by decide, by decide⟩
  have a3 : k9_ar 3 96 := ⟨by decide, by decide, by decide⟩
  have a60 : k9_ar 60 96 := ⟨by decide, by decide, by decide⟩
  have a62 : k9_ar 62 96 := ⟨by decide, by decide, by decide⟩
  have kr := ct_X6_rightNotes l G M
  refine bk_X6_counted_0 X (fun c2 => ct_X6_bitsIn l G M a2 _) (fun c2 => ?_) (fun c2 => ct_X3_openHoles l G M) (fun c2 => ?_) (fun c2 => ct_X6_bitsIn l G M a3 _) (fun c2 => ?_) (fun c2 => ct_X0_noteCount l G M (by decide)) (fun c2 => ?_) (fun c2 => ct_X0_noteCount l G M (by decide)) (fun c2 => ?_) (fun c2 => kr) (fun c2 => ?_)
    (fun c2 => ct_X0_noteCount l G M (by decide)) (fun c2 => kr) (fun c2 => ?_) (fun c2 => ct_X0_noteCount l G M (by decide)) (fun c2 => kr) (fun c2 => ?_) (fun c2 => ct_X6_bitsIn l G M a60 _) (fun c2 => ?_) (fun c2 => ct_X6_bitsIn l G M a62 _) (fun c2 => ?_) (fun c2 => hM ▸ ct_X1_stepsWished l G M hR) (fun c2 => ?_) (fun c2 => ct_X1_holesOfWrong l G M) (fun c2 => ?_)
    (fun c2 => ct_X3_openHoles l G M) (fun c2 => ct_X6_bitsIn l G M m9_ar58 _) (fun c2 => ?_) (fun c2 => ct_X3_tornSteps l G M) (fun c2 => ?_) (fun d0 d1 d2 d3 d4 d5 d6 d7 d8 d9 d10 d11 d12 d13 => ct_X4_size l G M) (fun d0 d1 d2 d3 d4 d5 d6 d7 d8 d9 d10 d11 d12 d13 => ?_)
  · subst c2; exact HR 85 [] dX6_counted_85
  · subst c2; exact HR 93 [] dX6_counted_93
  · subst c2; exact HR 107 [] dX6_counted_107
  · subst c2; exact HR 118 [] dX6_counted_118
  · subst c2; exact HR 129 [] dX6_counted_129
  · subst c2; exact HR 134 [] dX6_counted_134
  · subst c2; exact HR 150 [] dX6_counted_150
  · subst c2; exact HR 166 [] dX6_counted_166
  · subst c2; exact HR 181 [] dX6_counted_181
  · subst c2; exact HR 193 [] dX6_counted_193
  · subst c2; exact HR 208 [] dX6_counted_208
  · subst c2; exact HR 223 [] dX6_counted_223
  · subst c2; exact HR 245 [] dX6_counted_245
  · subst c2; exact HR 253 [] dX6_counted_253
  · exact k9_eq rfl (by rw [m9_cou, if_neg d0, if_neg d1, if_neg d2, if_neg d3, if_neg d4, if_neg d5, if_neg d6, if_neg d7, if_neg d8, if_neg d9, if_neg d10, if_neg d11, if_neg d12, if_neg d13]) (HR 261 [] dX6_counted_261)
/-! The hash's parts. -/
def m9_hst (M : k9_Mem) (R : Nat) (h : Int64) : Nat → Int64
  | 0 => h
  | i + 1 => m9_mix (m9_hst M R h i) (fun w => (m9_ofs M R i (nI w)).toInt64) 7
theorem ct_X6_mixedSteps (l : Launch) (G : k9_G) (M : k9_Mem) {R : Nat} (hR : R < 1000) (hM : M 1 6 = nI R) (h0 : Int64) : k9_Cl l yX6_mixedSteps wsX6_mixedSteps rm_X6_mixedSteps G M [.ref (k9_ga G 0), .long h0] (m9_hst M R h0 96) M := by
  refine k9_metL (own := RX6) (by decide +kernel) rfl rfl (Nat.le_of_ble_eq_true rfl) ?_
  intro p e s m args below meth c A Q X HR
  have inner : ∀ i, i < 96 → k9_U p l e rm_X6_mixedSteps s m args below meth c Q A G 7 0 0 M 5 [(0, .ref (k9_ga G 0)), (3, .long (m9_hst M R h0 (i + 1))), (5, .int (nI (i + 1)))] [] → ∀ j, j ≤ 7 → k9_U p l e rm_X6_mixedSteps s m args below meth c Q A G 7 0 0 M 15 [(0, .ref (k9_ga G 0)), (3, .long (m9_mix (m9_hst M R h0 i) (fun w => (m9_ofs M R i (nI w)).toInt64) j)), (5, .int (nI i)), (6, .int (nI j))] [] := by
    intro i hi out
    refine m9_down 7 (fun j hj next => ?_)
    have hlt : (6 : Int32) < nI j ↔ 6 < j := m9_lt (a := 6) (by decide) (by omega)
    have go : ¬ (6 : Int32) < nI j → j < 7 := fun c1 => by
      rcases Nat.lt_or_ge j 7 with q | q
      · exact q
      · exact absurd (hlt.mpr (by omega)) c1
    refine bk_X6_mixedSteps_15 (rv1 := m9_ofs M R i (nI j)) (rv2 := m9_mix (m9_hst M R h0 i) (fun w => (m9_ofs M R i (nI w)).toInt64) (j + 1)) X (fun c1 => ?_) (fun c1 => ct_X6_ofStep l G M hi hR hM _) (fun c1 => ct_X6_mixed l G M _ _) (fun c1 => ?_)
    · have hj2 : j = 7 := by have := hlt.mp c1; omega
      subst hj2
      rw [nI_1]; exact out
    · rw [nI_1]; exact next (go c1)
  have loop : ∀ i, i ≤ 96 → k9_U p l e rm_X6_mixedSteps s m args below meth c Q A G 7 0 0 M 5 [(0, .ref (k9_ga G 0)), (3, .long (m9_hst M R h0 i)), (5, .int (nI i))] [] := by
    refine m9_down 96 (fun i hi next => ?_)
    refine bk_X6_mixedSteps_5 X (fun c1 => ?_) (fun c1 => ?_)
    · have hi2 := m9_ex (N := 96) (by decide) hi c1
      subst hi2
      exact HR 49 [] dX6_mixedSteps_49
    · exact inner i (m9_go (N := 96) (by decide) hi c1) (next (m9_go (N := 96) (by decide) hi c1)) 0 (by decide)
  exact bk_X6_mixedSteps_0 X (loop 0 (by decide))
def m9_hnI (M : k9_Mem) (q : Nat) (val : Int32 → Int32 → Int32 → Int32) (L : Nat) (h : Int64) (s : Nat) : Nat → Int64
  | 0 => h
  | j + 1 => if m9_begins M q (nI (j + 1)) (nI s) then m9_mix (m9_hnI M q val L h s j) (fun w => (val (nI (j + 1)) (nI s) (nI w)).toInt64) (L + 1) else m9_hnI M q val L h s j
def m9_hn (M : k9_Mem) (q : Nat) (val : Int32 → Int32 → Int32 → Int32) (L : Nat) (h : Int64) : Nat → Int64
  | 0 => h
  | s + 1 => m9_hnI M q val L (m9_hn M q val L h s) s 20
theorem ct_X6_mixedNotes_g (l : Launch) (G : k9_G) (M : k9_Mem) (h0 : Int64) (z : Int32) {q L : Nat} (hq : k9_isC q) (hL : L < 10) (val : Int32 → Int32 → Int32 → Int32)
    (h1 : z = 0 → ∀ v f w, k9_Ci l yX6_ofPlayed wsX6_ofPlayed rm_X6_ofPlayed G M [.ref (k9_ga G 0), .int v, .int f, .int w] (val v f w) M)
    (h2 : ¬ z = 0 → ∀ v f w, k9_Ci l yX6_ofTune wsX6_ofTune rm_X6_ofTune G M [.ref (k9_ga G 0), .int v, .int f, .int w] (val v f w) M)
    {p : Program} {e : Env} {s : State} {m : MethodId} {args : Array Value} {below : List Frame} {meth : Method} {c : Code} {A : Nat → Prop} {Q : State → Prop} (X : k9_X p rm_X6_mixedNotes s m args c A G 12 cX6_mixedNotes wsX6_mixedNotes RX6 rm_X6_mixedNotes)
    (HR : k9_U p l e rm_X6_mixedNotes s m args below meth c Q A G 12 0 0 M 138 [] [.long (m9_hn M q val L h0 96)]) :
    k9_U p l e rm_X6_mixedNotes s m args below meth c Q A G 12 0 0 M 40 [(0, .ref (k9_ga G 0)), (3, .int z), (4, .ref (k9_ga G q)), (5, .int (nI L)), (6, .long h0), (8, .int 0)] [] := by
  have inner2 : ∀ i, i < 96 → ∀ j, j < 20 → m9_begins M q (nI (j + 1)) (nI i) → ∀ h9 : Int64, k9_U p l e rm_X6_mixedNotes s m args below meth c Q A G 12 0 0 M 50 [(0, .ref (k9_ga G 0)), (3, .int z), (4, .ref (k9_ga G q)), (5, .int (nI L)), (6, .long (m9_mix h9 (fun w => (val (nI (j + 1)) (nI i) (nI w)).toInt64) (L + 1))), (8, .int (nI i)), (9, .int (nI (j + 1) + 1))] [] →
      ∀ k, k ≤ L + 1 → k9_U p l e rm_X6_mixedNotes s m args below meth c Q A G 12 0 0 M 60 [(0, .ref (k9_ga G 0)), (3, .int z), (4, .ref (k9_ga G q)), (5, .int (nI L)), (6, .long (m9_mix h9 (fun w => (val (nI (j + 1)) (nI i) (nI w)).toInt64) k)), (8, .int (nI i)), (9, .int (nI (j + 1))), (10, .int (nI k))] [] := by
    intro i hi j hj hb h9 out
    refine m9_down (L + 1) (fun k hk next => ?_)
    have hlt : nI L < nI k ↔ L < k := m9_lt (by omega) (by omega)
    have go : ¬ nI L < nI k → k < L + 1 := fun c1 => by
      rcases Nat.lt_or_ge k (L + 1) with q | q
      · exact q
      · exact absurd (hlt.mpr (by omega)) c1
    refine bk_X6_mixedNotes_60 (rv2 := val (nI (j + 1)) (nI i) (nI k)) (rv3 := m9_mix h9 (fun w => (val (nI (j + 1)) (nI i) (nI w)).toInt64) (k + 1)) (rv4 := val (nI (j + 1)) (nI i) (nI k)) (rv5 := m9_mix h9 (fun w => (val (nI (j + 1)) (nI i) (nI w)).toInt64) (k + 1)) X hq (fun c1 => ?_) (fun c1 => ct_X0_beginsAt l G M hq _ _) (fun c1 c2 => ?_) (fun c1 c2 c3 => h1 c3 _ _ _) (fun c1 c2 c3 => ct_X6_mixed l G M _ _) (fun c1 c2 c3 => ?_) (fun c1 c2 c3 => h2 c3 _ _ _) (fun c1 c2 c3 => ct_X6_mixed l G M _ _) (fun c1 c2 c3 => ?_)
    · have hk2 : k = L + 1 := by have := hlt.mp c1; omega
      subst hk2
      exact out
    · exact absurd hb (m9_bi_0 c2)
    · rw [nI_1]; exact next (go c1)
    · rw [nI_1]; exact next (go c1)
  have inner : ∀ i, i < 96 → k9_U p l e rm_X6_mixedNotes s m args below meth c Q A G 12 0 0 M 40 [(0, .ref (k9_ga G 0)), (3, .int z), (4, .ref (k9_ga G q)), (5, .int (nI L)), (6, .long (m9_hn M q val L h0 (i + 1))), (8, .int (nI (i + 1)))] [] →
      ∀ j, j ≤ 20 → k9_U p l e rm_X6_mixedNotes s m args below meth c Q A G 12 0 0 M 50 [(0, .ref (k9_ga G 0)), (3, .int z), (4, .ref (k9_ga G q)), (5, .int (nI L)), (6, .long (m9_hnI M q val L (m9_hn M q val L h0 i) i j)), (8, .int (nI i)), (9, .int (nI (j + 1)))] [] := by
    intro i hi out
    refine m9_down 20 (fun j hj next => ?_)
    have hle : (21 : Int32) ≤ nI (j + 1) ↔ 21 ≤ j + 1 := m9_le (a := 21) (by decide) (by omega)
    have go : ¬ (21 : Int32) ≤ nI (j + 1) → j < 20 := fun c1 => by
      rcases Nat.lt_or_ge j 20 with q | q
      · exact q
      · exact absurd (hle.mpr (by omega)) c1
    refine bk_X6_mixedNotes_50 X hq (fun c1 => ?_) (fun c1 => ?_)
    · have hj2 : j = 20 := by have := hle.mp c1; omega
      subst hj2
      rw [nI_1]; exact out
    · have h := next (go c1)
      have st : m9_hnI M q val L (m9_hn M q val L h0 i) i (j + 1) = if m9_begins M q (nI (j + 1)) (nI i) then m9_mix (m9_hnI M q val L (m9_hn M q val L h0 i) i j) (fun w => (val (nI (j + 1)) (nI i) (nI w)).toInt64) (L + 1) else m9_hnI M q val L (m9_hn M q val L h0 i) i j := rfl
      rw [st] at h
      by_cases hb : m9_begins M q (nI (j + 1)) (nI i)
      · rw [if_pos hb, ← nI_1 (j + 1)] at h
        exact inner2 i hi j (go c1) hb _ h 0 (by omega)
      · rw [if_neg hb, ← nI_1 (j + 1)] at h
        refine bk_X6_mixedNotes_60 (rv2 := 0) (rv3 := 0) (rv4 := 0) (rv5 := 0) X hq (fun c1 => h) (fun c1 => ct_X0_beginsAt l G M hq _ _) (fun c1 c2 => h) (fun c1 c2 => ?_) (fun c1 c2 => ?_) (fun c1 c2 => ?_) (fun c1 c2 => ?_) (fun c1 c2 => ?_) (fun c1 c2 => ?_)
        all_goals exact absurd (m9_bi_1 c2) hb
  have loop : ∀ i, i ≤ 96 → k9_U p l e rm_X6_mixedNotes s m args below meth c Q A G 12 0 0 M 40 [(0, .ref (k9_ga G 0)), (3, .int z), (4, .ref (k9_ga G q)), (5, .int (nI L)), (6, .long (m9_hn M q val L h0 i)), (8, .int (nI i))] [] := by
    refine m9_down 96 (fun i hi next => ?_)
    refine bk_X6_mixedNotes_40 X hq (fun c1 => ?_) (fun c1 => ?_)
    · have hi2 := m9_ex (N := 96) (by decide) hi c1
      subst hi2
      exact HR
    · exact inner i (m9_go (N := 96) (by decide) hi c1) (next (m9_go (N := 96) (by decide) hi c1)) 0 (by decide)
  exact loop 0 (by decide)
theorem ct_X6_mixedNotes_p (l : Launch) (G : k9_G) (M : k9_Mem) (h0 : Int64) : k9_Cl l yX6_mixedNotes wsX6_mixedNotes rm_X6_mixedNotes G M [.ref (k9_ga G 0), .long h0, .int 0] (m9_hn M 59 (m9_ofp M) 5 h0 96) M := by
  refine k9_metL (own := RX6) (by decide +kernel) rfl rfl (Nat.le_of_ble_eq_true rfl) ?_
  intro p e s m args below meth c A Q X HR
  refine bk_X6_mixedNotes_0 X (fun c1 => ?_) (fun c1 => absurd rfl c1)
  exact ct_X6_mixedNotes_g l G M h0 0 (q := 59) (L := 5) (by decide) (by decide) (m9_ofp M) (fun _ v f w => ct_X6_ofPlayed l G M v f w) (fun z => absurd rfl z) X (HR 138 [] dX6_mixedNotes_138)
theorem ct_X6_mixedNotes_t (l : Launch) (G : k9_G) (M : k9_Mem) (h0 : Int64) : k9_Cl l yX6_mixedNotes wsX6_mixedNotes rm_X6_mixedNotes G M [.ref (k9_ga G 0), .long h0, .int 1] (m9_hn M 6 (m9_oft M) 3 h0 96) M := by
  refine k9_metL (own := RX6) (by decide +kernel) rfl rfl (Nat.le_of_ble_eq_true rfl) ?_
  intro p e s m args below meth c A Q X HR
  refine bk_X6_mixedNotes_0 X (fun c1 => absurd c1 (by decide)) (fun c1 => ?_)
  exact ct_X6_mixedNotes_g l G M h0 1 (q := 6) (L := 3) (by decide) (by decide) (m9_oft M) (fun z => absurd z (by decide)) (fun _ v f w => ct_X6_ofTune l G M v f w) X (HR 138 [] dX6_mixedNotes_138)
def m9_two64 (h : Int64) (N : k9_Mem) : Int64 := 31 * (31 * h + (N 71 2).toInt64) + (N 71 3).toInt64
theorem ct_X6_mixedBestSteer (l : Launch) (G : k9_G) (M : k9_Mem) {B : Nat} (hB : B < 1000) (hM : M 1 5 = nI B) (h0 : Int64) (a b : Int32) : k9_Cl l yX6_mixedBestSteer wsX6_mixedBestSteer rm_X6_mixedBestSteer G M [.ref (k9_ga G 0), .long h0, .int a, .int b] (m9_two64 h0 (m9_fsM M a b B 7)) (m9_fsM M a b B 7) := by
  refine k9_metL (own := RX6) (by decide +kernel) rfl rfl (Nat.le_of_ble_eq_true rfl) ?_
  intro p e s m args below meth c A Q X HR
  exact bk_X6_mixedBestSteer_0 X (ct_X5_findSteer l G M hB hM a b) (ct_X6_mixed l G _ _ _) (ct_X6_mixed l G _ _ _) (HR 41 [] dX6_mixedBestSteer_41)
theorem ct_X6_mixedBestBreak (l : Launch) (G : k9_G) (M : k9_Mem) {B : Nat} (hB : B < 1000) (hM : M 1 5 = nI B) (h0 : Int64) (y : Int32) : k9_Cl l yX6_mixedBestBreak wsX6_mixedBestBreak rm_X6_mixedBestBreak G M [.ref (k9_ga G 0), .long h0, .int y] (m9_two64 h0 (m9_bk (m9_bk0 M y) B 96).1) (m9_bk (m9_bk0 M y) B 96).1 := by
  refine k9_metL (own := RX6) (by decide +kernel) rfl rfl (Nat.le_of_ble_eq_true rfl) ?_
  intro p e s m args below meth c A Q X HR
  exact bk_X6_mixedBestBreak_0 X (ct_X5_findBreak l G M hB hM y) (ct_X6_mixed l G _ _ _) (ct_X6_mixed l G _ _ _) (HR 39 [] dX6_mixedBestBreak_39)
def m9_bb1 (M : k9_Mem) (B : Nat) : k9_Mem := m9_fsM M 0 95 B 7
def m9_bb2 (M : k9_Mem) (B : Nat) : k9_Mem := m9_fsM (m9_bb1 M B) 0 (48 - 1) B 7
def m9_bb3 (M : k9_Mem) (B : Nat) : k9_Mem := m9_fsM (m9_bb2 M B) 48 95 B 7
def m9_bb4 (M : k9_Mem) (B : Nat) : k9_Mem := m9_fbM (m9_bb3 M B) 4
def m9_bb5 (M : k9_Mem) (B : Nat) : k9_Mem := (m9_bk (m9_bk0 (m9_bb4 M B) 1) B 96).1
def m9_bb6 (M : k9_Mem) (B : Nat) : k9_Mem := (m9_bk (m9_bk0 (m9_bb5 M B) (-1)) B 96).1
def m9_hbest (M : k9_Mem) (B : Nat) (h : Int64) : Int64 := m9_two64 (m9_two64 (31 * (m9_two64 (m9_two64 (m9_two64 h (m9_bb1 M B)) (m9_bb2 M B)) (m9_bb3 M B)) + (m9_bb4 M B 71 2).toInt64) (m9_bb5 M B)) (m9_bb6 M B)
theorem m9_fbM_ne (M : k9_Mem) {k : Nat} (h1 : k ≠ 71) (h2 : k ≠ 74) (h3 : k ≠ 75) : ∀ i, m9_fbM M i k = M k
  | 0 => m9_st_ne _ _ _ h1
  | i + 1 => by
    show m9_off (m9_fbM M i) 58 i (nI i) k = M k
    rw [m9_off_ne _ _ _ _ h1 h2 h3, m9_fbM_ne M h1 h2 h3 i]
theorem m9_bkA_ne (M : k9_Mem) (y : Int32) (B : Nat) {k : Nat} (h1 : k ≠ 71) (h2 : k ≠ 74) (h3 : k ≠ 75) (h4 : k ≠ 72) : (m9_bk (m9_bk0 M y) B 96).1 k = M k := by
  rw [m9_bk_ne _ B h1 h2 h3 h4, m9_bk0, k9_sc_ne _ _ h4, m9_st_ne _ _ _ h1]
theorem m9_bb1_ne (M : k9_Mem) (B : Nat) {k : Nat} (h1 : k ≠ 71) (h2 : k ≠ 74) (h3 : k ≠ 75) (h4 : k ≠ 72) : m9_bb1 M B k = M k := m9_fsM_ne _ _ _ _ h1 h2 h3 h4 7
theorem m9_bb2_ne (M : k9_Mem) (B : Nat) {k : Nat} (h1 : k ≠ 71) (h2 : k ≠ 74) (h3 : k ≠ 75) (h4 : k ≠ 72) : m9_bb2 M B k = M k := (m9_fsM_ne _ _ _ _ h1 h2 h3 h4 7).trans (m9_bb1_ne M B h1 h2 h3 h4)
theorem m9_bb3_ne (M : k9_Mem) (B : Nat) {k : Nat} (h1 : k ≠ 71) (h2 : k ≠ 74) (h3 : k ≠ 75) (h4 : k ≠ 72) : m9_bb3 M B k = M k := (m9_fsM_ne _ _ _ _ h1 h2 h3 h4 7).trans (m9_bb2_ne M B h1 h2 h3 h4)
theorem m9_bb4_ne (M : k9_Mem) (B : Nat) {k : Nat} (h1 : k ≠ 71) (h2 : k ≠ 74) (h3 : k ≠ 75) (h4 : k ≠ 72) : m9_bb4 M B k = M k := (m9_fbM_ne _ h1 h2 h3 4).trans (m9_bb3_ne M B h1 h2 h3 h4)
theorem m9_bb5_ne (M : k9_Mem) (B : Nat) {k : Nat} (h1 : k ≠ 71) (h2 : k ≠ 74) (h3 : k ≠ 75) (h4 : k ≠ 72) : m9_bb5 M B k = M k := (m9_bkA_ne _ _ _ h1 h2 h3 h4).trans (m9_bb4_ne M B h1 h2 h3 h4)
theorem m9_bb6_ne (M : k9_Mem) (B : Nat) {k : Nat} (h1 : k ≠ 71) (h2 : k ≠ 74) (h3 : k ≠ 75) (h4 : k ≠ 72) : m9_bb6 M B k = M k := (m9_bkA_ne _ _ _ h1 h2 h3 h4).trans (m9_bb5_ne M B h1 h2 h3 h4)
theorem ct_X6_mixedBest (l : Launch) (G : k9_G) (M : k9_Mem) {B : Nat} (hB : B < 1000) (hM : M 1 5 = nI B) (h0 : Int64) : k9_Cl l yX6_mixedBest wsX6_mixedBest rm_X6_mixedBest G M [.ref (k9_ga G 0), .long h0] (m9_hbest M B h0) (m9_bb6 M B) := by
  refine k9_metL (own := RX6) (by decide +kernel) rfl rfl (Nat.le_of_ble_eq_true rfl) ?_
  intro p e s m args below meth c A Q X HR
  have f : ∀ N : k9_Mem, N 1 = M 1 → N 1 5 = nI B := fun N h => by rw [h, hM]
  exact bk_X6_mixedBest_0 X (ct_X6_mixedBestSteer l G M hB hM _ _ _) (ct_X6_mixedBestSteer l G (m9_bb1 M B) hB (f _ (m9_bb1_ne M B (by decide) (by decide) (by decide) (by decide))) _ _ _) (ct_X6_mixedBestSteer l G (m9_bb2 M B) hB (f _ (m9_bb2_ne M B (by decide) (by decide) (by decide) (by decide))) _ _ _) (ct_X5_findBridge l G (m9_bb3 M B)) (ct_X6_mixed l G _ _ _) (ct_X6_mixedBestBreak l G (m9_bb4 M B) hB (f _ (m9_bb4_ne M B (by decide) (by decide) (by decide) (by decide))) _ _) (ct_X6_mixedBestBreak l G (m9_bb5 M B) hB (f _ (m9_bb5_ne M B (by decide) (by decide) (by decide) (by decide))) _ _) (HR 82 [] dX6_mixedBest_82)
