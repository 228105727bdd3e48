/-! Plain mathematics: what is asked. -/
theorem q9_what {w : Int32} {n : Nat} : m9_xWhat w (nI n) = if m9_wn w 0 (nI n) then none else some m9_ia := by
  unfold m9_xWhat
  by_cases c : w < 0 ∨ nI n < w
  · rw [if_pos c, if_neg (q9_xNwn.mp c)]
  · rw [if_neg c, if_pos (Classical.byContradiction (fun z => c (q9_xNwn.mpr z)))]
theorem q9_xPlace (a t w : Int32) : q9_k3 (m9_xPlace a t w) = m9_rpl a t w := by
  have e2 : m9_xWhat w 2 = if m9_wn w 0 2 then none else some m9_ia := q9_what (n := 2)
  unfold m9_xPlace m9_rpl m9_xTrack
  rw [e2]
  by_cases c1 : ¬ m9_isS a
  · rw [if_pos c1, if_pos (Or.inl (fun z => c1 ((q9_isS a).mpr z)))]; exact q9_k3o
  · have h1 : m9_wn a 0 95 := (q9_isS a).mp (Classical.byContradiction c1)
    rw [if_neg c1]
    by_cases c2 : t < 0 ∨ (26 : Int32) ≤ t
    · rw [if_pos c2, if_pos (Or.inr ((q9_xTrack t).mp c2))]; exact q9_k3o
    · have h2 : m9_wn t 0 25 := Classical.byContradiction (fun z => c2 ((q9_xTrack t).mpr z))
      rw [if_neg c2, if_neg (show ¬ (¬ m9_wn a 0 95 ∨ ¬ m9_wn t 0 25) from fun z => z.elim (fun q => q h1) (fun q => q h2))]
      by_cases c3 : m9_wn w 0 2
      · rw [if_pos c3, if_neg (show ¬ ¬ m9_wn w 0 2 from fun z => z c3)]; rfl
      · rw [if_neg c3, if_pos c3]; exact q9_k3a
theorem q9_place {M : k9_Mem} {Z : Nat → Int32} {B R : Nat} (hp : q9_P M 1 Z) (hk : q9_ok Z B R) {a t w : Int32} (h0 : m9_rpl a t w = 0) : m9_plv M a.toNatClampNeg t w = m9_rpv Z a.toNatClampNeg t w := by
  have hh : ¬ (¬ m9_wn a 0 95 ∨ ¬ m9_wn t 0 25) := fun z => by
    unfold m9_rpl at h0
    rw [if_pos z] at h0
    exact absurd h0 (by decide)
  have ha : m9_wn a 0 95 := Classical.byContradiction (fun z => hh (Or.inl z))
  have ht : m9_wn t 0 25 := Classical.byContradiction (fun z => hh (Or.inr z))
  have hi := (m9_wn_rng ha).2
  obtain ⟨i, hI⟩ : ∃ i, i = a.toNatClampNeg := ⟨_, rfl⟩
  rw [← hI] at hi ⊢
  obtain ⟨p1, p2, p3, p4⟩ := hp.1 i hi
  have p1 : M 2 i = Z i := p1
  have p2 : M 3 i = Z (96 + i) := p2
  have p3 : M 4 i = Z (192 + i) := p3
  have p4 : M 5 i = Z (288 + i) := p4
  unfold m9_plv m9_rpv m9_rrf m9_plt m9_zs
  rw [p1, p2, p3, p4]
  by_cases w0 : w = 0
  · rw [if_pos w0, if_pos w0]
  · rw [if_neg w0, if_neg w0]
    by_cases w1 : w = 1
    · rw [if_pos w1, if_pos w1]
    · rw [if_neg w1, if_neg w1]
      obtain ⟨-, s1, s2⟩ := hk.1 i hi
      obtain ⟨k, k1, k2⟩ : ∃ k : Nat, k ≤ 25 ∧ t = nI k := by
        obtain ⟨n1, n2, n3⟩ := m9_rng (lo := 0) (hi := 25) (by decide) ht.1 ht.2 (by decide)
        exact ⟨_, n3, n1⟩
      have tt : t.toInt = (k : Int) := by rw [k2, nI_toInt (by omega)]
      have e1 : (t - 2).toInt = t.toInt - 2 := fb_subI (by rw [show (2 : Int32).toInt = 2 from rfl]; omega) (by rw [show (2 : Int32).toInt = 2 from rfl]; omega)
      have e2 : (t - 2 - Z (192 + i)).toInt = t.toInt - 2 - (Z (192 + i)).toInt := by rw [fb_subI (by rw [e1]; have := s1.1; have := s1.2; omega) (by rw [e1]; have := s1.1; have := s1.2; omega), e1]
      have e3 : (t - 2 - Z (192 + i) - Z (288 + i)).toInt = t.toInt - 2 - (Z (192 + i)).toInt - (Z (288 + i)).toInt := by rw [fb_subI (by rw [e2]; have := s1.1; have := s1.2; have := s2.1; have := s2.2; omega) (by rw [e2]; have := s1.1; have := s1.2; have := s2.1; have := s2.2; omega), e2]
      have f1 : (t - 3).toInt = t.toInt - 3 := fb_subI (by rw [show (3 : Int32).toInt = 3 from rfl]; omega) (by rw [show (3 : Int32).toInt = 3 from rfl]; omega)
      have f2 : (Z (192 + i) + Z (288 + i)).toInt = (Z (192 + i)).toInt + (Z (288 + i)).toInt := fb_addI (by have := s1.1; have := s2.1; omega) (by have := s1.2; have := s2.2; omega)
      have f3 : (t - 3 - (Z (192 + i) + Z (288 + i))).toInt = t.toInt - 3 - ((Z (192 + i)).toInt + (Z (288 + i)).toInt) := by rw [fb_subI (by rw [f1, f2]; have := s1.1; have := s1.2; have := s2.1; have := s2.2; omega) (by rw [f1, f2]; have := s1.1; have := s1.2; have := s2.1; have := s2.2; omega), f1, f2]
      obtain ⟨V, hV⟩ : ∃ V, V = t - 2 - Z (192 + i) - Z (288 + i) := ⟨_, rfl⟩
      obtain ⟨W, hW⟩ : ∃ W, W = t - 3 - (Z (192 + i) + Z (288 + i)) := ⟨_, rfl⟩
      rw [← hV] at e3 ⊢
      rw [← hW] at f3 ⊢
      have hVW : W.toInt = V.toInt - 1 := by rw [e3, f3]; omega
      have hWV : V - 1 = W := by
        rw [fa_eq, fb_subI (by rw [show (1 : Int32).toInt = 1 from rfl, e3]; have := s1.1; have := s1.2; have := s2.1; have := s2.2; omega) (by rw [show (1 : Int32).toInt = 1 from rfl, e3]; have := s1.1; have := s1.2; have := s2.1; have := s2.2; omega), hVW]; rfl
      have z0 : V = 0 ↔ W = -1 := by
        rw [fa_eq, fa_eq, hVW, show (0 : Int32).toInt = 0 from rfl, show (-1 : Int32).toInt = -1 from rfl]; omega
      have zw : m9_wn W 0 19 ↔ (0 : Int32) < V ∧ ¬ (21 : Int32) ≤ V := by
        unfold m9_wn
        rw [fa_lt, fa_lt, fa_lt, fa_le, hVW, show (0 : Int32).toInt = 0 from rfl, show (19 : Int32).toInt = 19 from rfl, show (21 : Int32).toInt = 21 from rfl]; omega
      by_cases c0 : V = 0
      · rw [if_pos c0, if_pos (z0.mp c0)]
      · rw [if_neg c0, if_neg (fun z => c0 (z0.mpr z))]
        by_cases c1 : m9_wn W 0 19
        · rw [if_pos c1]
          obtain ⟨y1, y2⟩ := zw.mp c1
          rw [if_neg (show ¬ V ≤ 0 from fun z => m9_le_n z y1), if_neg y2, hWV]
        · rw [if_neg c1]
          by_cases q : V ≤ 0
          · rw [if_pos q]
          · rw [if_neg q]
            by_cases q2 : (21 : Int32) ≤ V
            · rw [if_pos q2]
            · exact absurd (zw.mpr ⟨m9_nle q, q2⟩) c1
/-- a step's numbers -/
theorem q9_xStep (a w : Int32) : q9_k3 (m9_xStep a w) = m9_rsp a w := by
  have e2 : m9_xWhat w 6 = if m9_wn w 0 6 then none else some m9_ia := q9_what (n := 6)
  unfold m9_xStep m9_rsp
  rw [e2]
  by_cases c1 : ¬ m9_isS a
  · rw [if_pos c1, if_pos (fun z => c1 ((q9_isS a).mpr z))]; exact q9_k3o
  · have h1 : m9_wn a 0 95 := (q9_isS a).mp (Classical.byContradiction c1)
    rw [if_neg c1, if_neg (show ¬ ¬ m9_wn a 0 95 from fun z => z h1)]
    by_cases c3 : m9_wn w 0 6
    · rw [if_pos c3, if_neg (show ¬ ¬ m9_wn w 0 6 from fun z => z c3)]; rfl
    · rw [if_neg c3, if_pos c3]; exact q9_k3a
theorem q9_th77 (M : k9_Mem) (v : Int32) : k9_st M 76 5 v 77 = M 77 := m9_st_ne _ _ _ (by decide)
theorem q9_step_v {M : k9_Mem} {B R F U : Nat} (h : q9_rel M B R F U) {a w : Int32} (h0 : m9_rsp a w = 0) : m9_ofs M R a.toNatClampNeg w = m9_stv (m9_lay (k9_st M 76 5 0) B) (m9_C (k9_st M 76 5 0) B) R a.toNatClampNeg w := by
  have ha : m9_wn a 0 95 := Classical.byContradiction (fun z => by
    unfold m9_rsp at h0
    rw [if_pos z] at h0
    exact absurd h0 (by decide))
  exact q9_ofs (S := k9_st M 76 5 0) (by rw [q9_th77]; exact h.1) (by rw [q9_th77]; exact h.2.1) h.2.2.1 (m9_wn_rng ha).2 w
theorem q9_gd_th {M : k9_Mem} {B R F U : Nat} (h : q9_rel M B R F U) (v : Int32) (B2 : Nat) : m9_gd (k9_st M 76 5 v) B2 := q9_gd _ _ (by rw [q9_th77]; exact h.2.1.2.2.2.1)
/-- counts -/
theorem q9_count_v {M : k9_Mem} {B R F U : Nat} (h : q9_rel M B R F U) (w : Int32) : m9_cou M R w = m9_rco (m9_lay (k9_st M 76 5 0) B) (m9_C (k9_st M 76 5 0) B) R w := by
  refine q9_cou (S := k9_st M 76 5 0) (by rw [q9_th77]; exact h.1) (by rw [q9_th77]; exact h.2.1) h.2.2.1 ?_ w
  rw [m9_st_at_ne _ _ (by decide), h.2.2.2.1.2.2.1, h.2.2.2.1.1.1]
theorem q9_xCount (w : Int32) : q9_k2 (m9_xWhat w 14) = m9_rc0 w := by
  have e2 : m9_xWhat w 14 = if m9_wn w 0 14 then none else some m9_ia := q9_what (n := 14)
  unfold m9_rc0
  rw [e2]
  by_cases c : m9_wn w 0 14
  · rw [if_pos c, if_pos c]; rfl
  · rw [if_neg c, if_neg c]; exact q9_k2a
theorem q9_xSetting (a : Int32) : q9_k3 (m9_xSetting a) = m9_rs0 a := by
  unfold m9_xSetting m9_rs0
  by_cases c : a < 0 ∨ (1 : Int32) < a
  · rw [if_pos c, if_neg (q9_xNwn.mp c)]; exact q9_k3o
  · rw [if_neg c, if_pos (Classical.byContradiction (fun z => c (q9_xNwn.mpr z)))]; rfl
theorem q9_setting {M : k9_Mem} {Z : Nat → Int32} (hp : q9_P M 1 Z) {a : Int32} (h0 : m9_rs0 a = 0) : m9_seo M a = Z (384 + a.toNatClampNeg) := by
  have ha : m9_wn a 0 1 := Classical.byContradiction (fun z => by
    unfold m9_rs0 at h0
    rw [if_neg z] at h0
    exact absurd h0 (by decide))
  obtain ⟨a1, _, a3⟩ := m9_rng (lo := 0) (hi := 1) (by decide) ha.1 ha.2 (by decide)
  unfold m9_seo
  by_cases c : a = 0
  · have ea : a.toNatClampNeg = 0 := by rw [c]; rfl
    rw [if_pos c, ea]; exact hp.2.1.1
  · have ea : a.toNatClampNeg = 1 := by
      rcases Nat.lt_or_ge a.toNatClampNeg 1 with q | q
      · have : a.toNatClampNeg = 0 := by omega
        rw [this] at a1
        exact absurd a1 c
      · omega
    rw [if_neg c, ea]; exact hp.2.1.2
/-- notes that are played -/
theorem q9_pnv_c {N N' : k9_Mem} (h : ∀ k, k ≠ 76 → N' k = N k) (c : Nat) (w : Int32) : m9_pnv N' c w = m9_pnv N c w := by
  have hi : m9_irP N' c ↔ m9_irP N c := by
    unfold m9_irP
    rw [h 77 (by decide), h 84 (by decide), h 85 (by decide), h 86 (by decide)]
  unfold m9_pnv
  rw [q9_biD (instDecidableEqInt32 _ _) hi]
  unfold m9_stc m9_sto m9_hoc m9_hol
  rw [h 80 (by decide), h 81 (by decide), h 82 (by decide), h 83 (by decide), h 84 (by decide), h 85 (by decide), h 86 (by decide)]
theorem q9_row60 {M S : k9_Mem} {B R : Nat} (hp : q9_P M 1 (S 77)) (hk : q9_ok (S 77) B R) (hH : q9_H M B) : ∀ s, s < 96 → ∀ n, n < 20 → m9_b (M (59 + 1) s) (n + 1) = m9_b (m9_y2 S B 21 81 s) n := fun s hs n hn => by
  rw [← q9_cvn hn]; exact q9_b60 hp hk hH hs (by omega)
theorem q9_xPlayed {M : k9_Mem} {B R F U : Nat} (h : q9_rel M B R F U) (a w : Int32) : q9_k3 (m9_xPlayed (M 60) a w 5) = m9_rpy (m9_C M B) a w := by
  have e2 : m9_xWhat w 5 = if m9_wn w 0 5 then none else some m9_ia := q9_what (n := 5)
  have hr := q9_row60 h.1 h.2.1 h.2.2.1
  unfold m9_xPlayed m9_rpy
  rw [e2]
  by_cases c1 : m9_wn a 0 (nI (m9_C M B) - 1)
  · have hC : m9_C M B < 2147483648 := by have := (q9_gd M B h.2.1.2.2.2.1).2.1.2.1; omega
    obtain ⟨a1, a2⟩ := (m9_wn_C hC).mp c1
    obtain ⟨k, k1, k2, k3⟩ := fb_ct_kth (p := m9_bg (m9_y2 M B 21 81)) a2
    have ho := (q9_order (M := M) (qq := 59) hr k1 k2).1
    rw [k3, ← a1] at ho
    have hn : ¬ m9_fst (M 60) a = -1 := fun z => by
      have e : nI (k / 20) = -1 := ho.symm.trans z
      exact q9_nI_m1 (by omega) e
    rw [if_neg hn, if_neg (show ¬ ¬ m9_wn a 0 (nI (m9_C M B) - 1) from fun z => z c1)]
    by_cases c3 : m9_wn w 0 5
    · rw [if_pos c3, if_neg (show ¬ ¬ m9_wn w 0 5 from fun z => z c3)]; rfl
    · rw [if_neg c3, if_pos c3]; exact q9_k3a
  · have hn : m9_fst (M 60) a = -1 := q9_order_no (M := M) (qq := 59) hr c1
    rw [if_pos hn, if_pos c1]; exact q9_k3o
theorem q9_played_v {M : k9_Mem} {B R F U : Nat} (h : q9_rel M B R F U) {a w : Int32} (h0 : m9_rpy (m9_C M B) a w = 0) : m9_ofp M (m9_voc M 59 a) (m9_fst (M 60) a) w = m9_pnv (k9_st (m9_lay M B) 76 5 0) a.toNatClampNeg w := by
  have hr := q9_row60 h.1 h.2.1 h.2.2.1
  have c1 : m9_wn a 0 (nI (m9_C M B) - 1) := Classical.byContradiction (fun z => by
    unfold m9_rpy at h0
    rw [if_pos z] at h0
    exact absurd h0 (by decide))
  have hC : m9_C M B < 2147483648 := by have := (q9_gd M B h.2.1.2.2.2.1).2.1.2.1; omega
  obtain ⟨a1, a2⟩ := (m9_wn_C hC).mp c1
  obtain ⟨k, k1, k2, k3⟩ := fb_ct_kth (p := m9_bg (m9_y2 M B 21 81)) a2
  obtain ⟨o1, o2⟩ := q9_order (M := M) (qq := 59) hr k1 k2
  rw [k3, ← a1] at o1 o2
  have o1 : m9_fst (M 60) a = nI (k / 20) := o1
  have k2' := k2
  rw [q9_bg] at k2'
  rw [o1, o2, q9_ofp h.1 h.2.1 h.2.2.1 (by omega) (by omega) k2' w, q9_pnv_c (N := m9_lay M B) (fun j hj => m9_st_ne _ _ _ hj)]
  have e := q9_pnv M B h.2.1.2.2.2.1 k1 k2 w
  rw [k3] at e
  exact e.symm
/-- notes of the tune -/
def q9_T9 (Z : Nat → Int32) : Nat := fb_ct (m9_bg (fun j => Z (386 + j))) 1920
theorem q9_tnn {Z : Nat → Int32} {B R : Nat} (hk : q9_ok Z B R) : m9_tnn Z = nI (q9_T9 Z) := by
  unfold m9_tnn q9_T9
  rw [q9_Cs, q9_sum (g := fun s => fb_ct (m9_b (Z (386 + s))) 26) (fun s => q9_on _)]
  refine congrArg nI ?_
  apply fb_sm_cong
  intro s hs
  rw [show (26 : Nat) = 20 + 6 from rfl, q9_ct_cut (a := 20) (hk.2.2.2.2 s hs) 6]
theorem q9_row7 {M : k9_Mem} {Z : Nat → Int32} (hp : q9_P M 1 Z) : ∀ s, s < 96 → ∀ n, n < 20 → m9_b (M (6 + 1) s) (n + 1) = m9_b ((fun j => Z (386 + j)) s) n := fun s hs n hn => ((hp.2.2 s hs).1 n hn).1
theorem q9_xTune {M : k9_Mem} {Z : Nat → Int32} (hp : q9_P M 1 Z) (a w : Int32) : q9_k3 (m9_xPlayed (M 7) a w 3) = m9_rtu (q9_T9 Z) a w := by
  have e2 : m9_xWhat w 3 = if m9_wn w 0 3 then none else some m9_ia := q9_what (n := 3)
  have hr := q9_row7 hp
  have hC : q9_T9 Z < 2147483648 := q9_ctlt _ (Nat.le_refl _)
  unfold m9_xPlayed m9_rtu
  rw [e2]
  by_cases c1 : m9_wn a 0 (nI (q9_T9 Z) - 1)
  · obtain ⟨a1, a2⟩ := (m9_wn_C hC).mp c1
    obtain ⟨k, k1, k2, k3⟩ := fb_ct_kth (p := m9_bg (fun j => Z (386 + j))) a2
    have ho := (q9_order (M := M) (qq := 6) hr k1 k2).1
    rw [k3, ← a1] at ho
    have hn : ¬ m9_fst (M 7) a = -1 := fun z => by
      have e : nI (k / 20) = -1 := ho.symm.trans z
      exact q9_nI_m1 (by omega) e
    rw [if_neg hn, if_neg (show ¬ ¬ m9_wn a 0 (nI (q9_T9 Z) - 1) from fun z => z c1)]
    by_cases c3 : m9_wn w 0 3
    · rw [if_pos c3, if_neg (show ¬ ¬ m9_wn w 0 3 from fun z => z c3)]; rfl
    · rw [if_neg c3, if_pos c3]; exact q9_k3a
  · have hn : m9_fst (M 7) a = -1 := q9_order_no (M := M) (qq := 6) hr c1
    rw [if_pos hn, if_pos c1]; exact q9_k3o
theorem q9_tune_K {Z : Nat → Int32} {B R : Nat} (hk : q9_ok Z B R) (a : Nat) : ∃ K, a < q9_T9 Z → m9_tpl Z a K ∧ m9_tlo Z (K % 20) (K / 20) := by
  by_cases c : a < q9_T9 Z
  · obtain ⟨k, k1, k2, k3⟩ := fb_ct_kth (p := m9_bg (fun j => Z (386 + j))) c
    exact ⟨k, fun _ => ⟨⟨k1, k2, k3⟩, q9_tlo hk.2.2.2.1 (by omega) (by omega)⟩⟩
  · exact ⟨0, fun z => absurd z c⟩
theorem q9_tune_v {M S : k9_Mem} {B R : Nat} (hp : q9_P M 1 (S 77)) (hk : q9_ok (S 77) B R) (hH : q9_H M B) {a w : Int32} (h0 : m9_rtu (q9_T9 (S 77)) a w = 0) {K : Nat} (hK : a.toNatClampNeg < q9_T9 (S 77) → m9_tpl (S 77) a.toNatClampNeg K ∧ m9_tlo (S 77) (K % 20) (K / 20)) : m9_oft M (m9_voc M 6 a) (m9_fst (M 7) a) w = m9_tnv (m9_lay S B) K w := by
  have hr := q9_row7 hp
  have c1 : m9_wn a 0 (nI (q9_T9 (S 77)) - 1) := Classical.byContradiction (fun z => by
    unfold m9_rtu at h0
    rw [if_pos z] at h0
    exact absurd h0 (by decide))
  have hC : q9_T9 (S 77) < 2147483648 := q9_ctlt _ (Nat.le_refl _)
  obtain ⟨a1, a2⟩ := (m9_wn_C hC).mp c1
  obtain ⟨⟨k1, k2, k3⟩, k4⟩ := hK a2
  obtain ⟨o1, o2⟩ := q9_order (M := M) (qq := 6) hr k1 k2
  rw [k3, ← a1] at o1 o2
  have o1 : m9_fst (M 7) a = nI (K / 20) := o1
  rw [o1, o2, q9_oft hp hk hH k1 k2 w]
