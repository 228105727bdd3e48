/-! The reference: played, tune. -/
theorem m9_wn_C {a : Int32} {C : Nat} (hC : C < 2147483648) : m9_wn a 0 (nI C - 1) ↔ (a = nI a.toNatClampNeg ∧ a.toNatClampNeg < C) := by
  constructor
  · intro h
    obtain ⟨j, h1, h2⟩ := nI_of h.1
    have h1 : j < 2147483648 := h1
    have h3 : a.toNatClampNeg = j := by rw [h2, m9_cl h1]
    rw [h3]
    refine ⟨h2, ?_⟩
    have h4 := h.2
    rcases Nat.eq_zero_or_pos C with q | q
    · exfalso
      subst q
      refine h4 ?_
      rw [h2, fa_lt, nI_toInt h1, show (nI 0 - 1 : Int32).toInt = -1 from rfl]
      omega
    · rw [m9_sub1 q, h2] at h4
      have h5 := m9_lt (a := C - 1) (b := j) (by omega) h1
      have : ¬ C - 1 < j := fun z => h4 (h5.mpr z)
      omega
  · rintro ⟨h1, h2⟩
    rw [h1]
    refine ⟨nI_pos (by omega), ?_⟩
    rw [m9_sub1 (by omega)]
    have h5 := m9_lt (a := C - 1) (b := a.toNatClampNeg) (by omega) (by omega)
    intro z
    have := h5.mp z
    omega
def m9_rpy (C : Nat) (a w : Int32) : Int32 := if ¬ m9_wn a 0 (nI C - 1) then 1 else if ¬ m9_wn w 0 5 then 2 else 0
theorem ct_X7_played (l : Launch) (G : k9_G) (M : k9_Mem) {B : Nat} (hB : B < 1000) (hM : M 77 384 = nI B) (H : m9_gd M B) (a w : Int32) : k9_Ci l yX7_played wsX7_played rm_X7_played G M [.ref (k9_ga G 76), .int a, .int w]
    (if m9_rpy (m9_C M B) a w = 0 then m9_pnv (k9_st (m9_lay M B) 76 5 0) a.toNatClampNeg w else 0) (k9_st (m9_lay M B) 76 5 (m9_rpy (m9_C M B) a w)) := by
  refine k9_metI (own := RX7) (by decide +kernel) rfl rfl (Nat.le_of_ble_eq_true rfl) rfl ?_
  intro p e s m args below meth c A Q X HR
  obtain ⟨N, hN⟩ : ∃ N, N = m9_lay M B := ⟨_, rfl⟩
  obtain ⟨C, hC⟩ : ∃ C, C = m9_C M B := ⟨_, rfl⟩
  have cl := ct_X7_lay l G M hB hM H.1
  have H1 := H.2.1
  have H2 := H.2.2
  rw [← hN] at cl
  rw [← hN, ← hC] at H1 H2
  rw [← hN, ← hC] at HR
  have hC9 : C ≤ 960 := H1.2.1
  have z : ∀ k, k ≠ 76 → k9_st N 76 5 0 k = N k := fun k hk => m9_st_ne _ _ _ hk
  refine bk_X7_played_0 (rv4 := m9_pnv (k9_st N 76 5 0) a.toNatClampNeg w) X cl (ct_X7_within l G N _ _ _) (fun c1 => ct_X7_within l G N _ _ _) (fun c1 c2 => ?_) (fun c1 c2 => ?_) (fun c1 c2 => ?_) (fun c1 => ?_)
  · rw [H1.1] at c1
    have h0 : m9_rpy C a w = 2 := by rw [m9_rpy, if_neg (fun z => z (m9_bi_1 c1)), if_pos (m9_bi_0 c2)]
    have h9 := HR 57 [] dX7_played_57
    rw [h0, if_neg (by decide)] at h9
    exact h9
  · rw [H1.1] at c1
    obtain ⟨y1, y2⟩ := (m9_wn_C (by omega)).mp (m9_bi_1 c1)
    rw [y1]
    have y3 : (nI a.toNatClampNeg).toNatClampNeg = a.toNatClampNeg := m9_cl (by omega)
    rw [y3]
    refine ct_X7_playedNow l G _ (by omega) ?_ ?_ w
    · obtain ⟨n, i, g1, g2, g3, g4, g5⟩ := H1.2.2 _ y2
      exact ⟨n, i, by rw [z 84 (by decide)]; exact g1, g2, by rw [z 85 (by decide)]; exact g3, g4, by rw [z 77 (by decide)]; exact g5⟩
    · obtain ⟨n, i, g, g1, g2, g3, g4, g5, g6, g7⟩ := H2.2.2 _ y2
      exact ⟨n, i, g, by rw [z 84 (by decide)]; exact g1, g2, by rw [z 85 (by decide)]; exact g3, g4, by rw [z 86 (by decide)]; exact g5, g6, by rw [z 83 (by decide), z 82 (by decide)]; exact g7⟩
  · rw [H1.1] at c1
    have h0 : m9_rpy C a w = 0 := by rw [m9_rpy, if_neg (fun z => z (m9_bi_1 c1)), if_neg (fun z => z (m9_bi_1 c2))]
    have h9 := HR 57 [] dX7_played_57
    rw [h0, if_pos rfl] at h9
    exact h9
  · rw [H1.1] at c1
    have h0 : m9_rpy C a w = 1 := by rw [m9_rpy, if_pos (m9_bi_0 c1)]
    have h9 := HR 57 [] dX7_played_57
    rw [h0, if_neg (by decide)] at h9
    exact h9
/-- K is the q-th place of the tune -/
abbrev m9_tpl (Z : Nat → Int32) (q K : Nat) : Prop := K < 1920 ∧ m9_bg (fun j => Z (386 + j)) K = true ∧ fb_ct (m9_bg (fun j => Z (386 + j))) K = q
abbrev m9_misP (M : k9_Mem) (n i : Nat) : Prop := ¬ (m9_one (M 81 i) n ∧ nI (m9_ef (M 82) n i) = m9_tl (M 77) n i)
def m9_tnv (M : k9_Mem) (K : Nat) (w : Int32) : Int32 :=
  if w = 0 then nI (K % 20) else if w = 1 then nI (K / 20) else if w = 2 then m9_tl (M 77) (K % 20) (K / 20) else m9_bi (m9_misP M (K % 20) (K / 20))
theorem ct_X7_tuneNow (l : Launch) (G : k9_G) (M : k9_Mem) {q K : Nat} (hK : m9_tpl (M 77) q K) (h1 : m9_one (M 81 (K / 20)) (K % 20) → m9_ef (M 82) (K % 20) (K / 20) < 96) (ho : m9_tlo (M 77) (K % 20) (K / 20)) (w : Int32) : k9_Ci l yX7_tuneNow wsX7_tuneNow rm_X7_tuneNow G M [.ref (k9_ga G 76), .int (nI q), .int w] (m9_tnv M K w) M := by
  refine k9_metI (own := RX7) (by decide +kernel) rfl rfl (Nat.le_of_ble_eq_true rfl) rfl ?_
  intro p e s m args below meth c A Q X HR
  have ct := ct_X7_tuneAt l G M hK.1 hK.2.1 hK.2.2
  have hK9 := hK.1
  have e1 : nI K / (20 : Int32) = nI (K / 20) := pk_div (d := 20) (by omega) (by decide) (by decide)
  have e2 : nI K - nI K / (20 : Int32) * (20 : Int32) = nI (K % 20) := pk_rem (d := 20) (by omega) (by decide) (by decide)
  refine bk_X7_tuneNow_0 (rv3 := m9_tl (M 77) (K % 20) (K / 20)) (rv4 := m9_bi (m9_misP M (K % 20) (K / 20))) X ct ct (fun c1 => ?_) (fun c1 => ?_) (fun c1 => ?_) (fun c1 => ?_) (fun c1 c2 c3 => ?_) (fun c1 c2 c3 c4 => ?_) (fun c1 c2 c3 c4 => ?_)
  · have h9 := HR 49 [] dX7_tuneNow_49
    rw [m9_tnv, if_pos c1] at h9
    rw [e2]; exact h9
  · have h9 := HR 52 [] dX7_tuneNow_52
    rw [m9_tnv, if_neg (by rw [c1]; decide), if_pos c1] at h9
    rw [e1]; exact h9
  · rw [e2, e1]; exact ct_X7_tuneLast l G M (by omega) ho
  · have h9 := HR 60 [] dX7_tuneNow_60
    rw [m9_tnv, if_neg (by rw [c1]; decide), if_neg (by rw [c1]; decide), if_pos c1] at h9
    exact h9
  · rw [e2, e1]; exact ct_X7_isMissing l G M (by omega) h1 ho
  · have h9 := HR 76 [] dX7_tuneNow_76
    rw [m9_tnv, if_neg c1, if_neg c2, if_neg c3, c4] at h9
    exact h9
  · have h9 := HR 76 [] dX7_tuneNow_76
    rw [m9_tnv, if_neg c1, if_neg c2, if_neg c3, m9_bi_t (m9_bi_1 c4)] at h9
    exact h9
def m9_rtu (T : Nat) (a w : Int32) : Int32 := if ¬ m9_wn a 0 (nI T - 1) then 1 else if ¬ m9_wn w 0 3 then 2 else 0
theorem ct_X7_tune (l : Launch) (G : k9_G) (M : k9_Mem) {B T K : Nat} (hB : B < 1000) (hM : M 77 384 = nI B) (H : m9_gd (k9_st M 76 5 0) B) (hT : m9_tnn (M 77) = nI T) (hT2 : T < 10000) (a w : Int32)
    (hK : a.toNatClampNeg < T → m9_tpl (M 77) a.toNatClampNeg K ∧ m9_tlo (M 77) (K % 20) (K / 20)) : k9_Ci l yX7_tune wsX7_tune rm_X7_tune G M [.ref (k9_ga G 76), .int a, .int w]
    (if m9_rtu T a w = 0 then m9_tnv (m9_lay (k9_st M 76 5 0) B) K w else 0) (if m9_rtu T a w = 0 then m9_lay (k9_st M 76 5 0) B else k9_st M 76 5 (m9_rtu T a w)) := by
  refine k9_metI (own := RX7) (by decide +kernel) rfl rfl (Nat.le_of_ble_eq_true rfl) rfl ?_
  intro p e s m args below meth c A Q X HR
  have z77 : k9_st M 76 5 0 77 = M 77 := m9_st_ne _ _ _ (by decide)
  have l77 : m9_lay (k9_st M 76 5 0) B 77 = M 77 := by rw [m9_lay_77, z77]
  refine bk_X7_tune_0 (rv5 := m9_tnv (m9_lay (k9_st M 76 5 0) B) K w) X (ct_X7_tuneNotes l G M) (ct_X7_within l G M _ _ _) (fun c1 => ct_X7_within l G M _ _ _) (fun c1 c2 => ?_) (fun c1 c2 => ct_X7_lay l G _ hB (by rw [z77, hM]) H.1) (fun c1 c2 => ?_) (fun c1 c2 => ?_) (fun c1 => ?_)
  · rw [hT] at c1
    have h0 : m9_rtu T a w = 2 := by rw [m9_rtu, if_neg (fun z => z (m9_bi_1 c1)), if_pos (m9_bi_0 c2)]
    have h9 := HR 44 [] dX7_tune_44
    rw [h0, if_neg (by decide), if_neg (by decide)] at h9
    exact h9
  · rw [hT] at c1
    obtain ⟨y1, y2⟩ := (m9_wn_C (by omega)).mp (m9_bi_1 c1)
    obtain ⟨k1, k2⟩ := hK y2
    rw [y1]
    have y3 : (nI a.toNatClampNeg).toNatClampNeg = a.toNatClampNeg := m9_cl (by omega)
    refine ct_X7_tuneNow l G _ (by rw [l77]; exact k1) (fun q => ?_) (by rw [l77]; exact k2) w
    have e81 : m9_lay (k9_st M 76 5 0) B 81 = m9_y2 (k9_st M 76 5 0) B 21 81 := m9_y3_ne _ (by decide) (by decide) (by decide) (by decide) _
    have e82 : m9_lay (k9_st M 76 5 0) B 82 = m9_y2 (k9_st M 76 5 0) B 21 82 := m9_y3_ne _ (by decide) (by decide) (by decide) (by decide) _
    rw [e81] at q
    rw [e82]
    exact H.1.2 K k1.1 (decide_eq_true_iff.mpr q)
  · rw [hT] at c1
    have h0 : m9_rtu T a w = 0 := by rw [m9_rtu, if_neg (fun z => z (m9_bi_1 c1)), if_neg (fun z => z (m9_bi_1 c2))]
    have h9 := HR 55 [] dX7_tune_55
    rw [if_pos h0, if_pos h0] at h9
    exact h9
  · rw [hT] at c1
    have h0 : m9_rtu T a w = 1 := by rw [m9_rtu, if_pos (m9_bi_0 c1)]
    have h9 := HR 44 [] dX7_tune_44
    rw [h0, if_neg (by decide), if_neg (by decide)] at h9
    exact h9
