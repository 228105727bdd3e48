/-! The reference: what lies, rights, saving, punching. -/
/-- the first step from s on at which a row has a bit -/
def m9_ef (r : Nat → Int32) (n s : Nat) : Nat := s + fa_first (fun j => decide (¬ (r (s + j) >>> (nI n &&& 31)) &&& 1 = 0)) (96 - s)
theorem m9_ef_no {r : Nat → Int32} {n s : Nat} : ∀ k, s ≤ k → k < m9_ef r n s → (r k >>> (nI n &&& 31)) &&& 1 = 0 := fun k h1 h2 => by
  unfold m9_ef at h2
  have h := fa_first_no (fun j => decide (¬ (r (s + j) >>> (nI n &&& 31)) &&& 1 = 0)) (96 - s) (k - s) (by omega)
  rw [show s + (k - s) = k by omega] at h
  exact Classical.byContradiction (fun z => by rw [decide_eq_true z] at h; exact absurd h (by decide))
theorem m9_ef_yes {r : Nat → Int32} {n s : Nat} (h : m9_ef r n s < 96) : ¬ (r (m9_ef r n s) >>> (nI n &&& 31)) &&& 1 = 0 := by
  unfold m9_ef at h ⊢
  have h2 := fa_first_yes (fun j => decide (¬ (r (s + j) >>> (nI n &&& 31)) &&& 1 = 0)) (96 - s) (by omega)
  exact of_decide_eq_true h2
theorem m9_ef_ge (r : Nat → Int32) (n s : Nat) : s ≤ m9_ef r n s := Nat.le_add_right _ _
theorem ct_X7_endFrom (l : Launch) (G : k9_G) (M : k9_Mem) {n i : Nat} (h : m9_ef (M 82) n i < 96) : k9_Ci l yX7_endFrom wsX7_endFrom rm_X7_endFrom G M [.ref (k9_ga G 82), .int (nI n), .int (nI i)] (nI (m9_ef (M 82) n i)) M := by
  refine k9_metI (own := RX7) (by decide +kernel) rfl rfl (Nat.le_of_ble_eq_true rfl) rfl ?_
  intro p e s m args below meth c A Q X HR
  obtain ⟨E, hE⟩ : ∃ E, E = m9_ef (M 82) n i := ⟨_, rfl⟩
  have hi := m9_ef_ge (M 82) n i
  have loop : ∀ j, j ≤ E - i → k9_U p l e rm_X7_endFrom s m args below meth c Q A G 4 0 0 M 2 [(0, .ref (k9_ga G 82)), (1, .int (nI n)), (3, .int (nI (i + j)))] [] := by
    refine m9_down (E - i) (fun j hj next => ?_)
    have ej : (nI (i + j)).toNatClampNeg = i + j := m9_cl (by omega)
    refine bk_X7_endFrom_2 X (m9_in (by omega) (by decide)) (fun c1 => ?_) (fun c1 => ?_)
    · rw [ej] at c1
      have : i + j = E := by
        rcases Nat.lt_or_ge (i + j) E with q | q
        · exact absurd (m9_ef_no (r := M 82) (n := n) (s := i) (i + j) (by omega) (by omega)) c1
        · omega
      rw [this, hE]
      exact HR 19 [] dX7_endFrom_19
    · rw [ej] at c1
      rw [nI_1]
      refine next ?_
      rcases Nat.lt_or_ge (i + j) E with q | q
      · omega
      · have e2 : i + j = m9_ef (M 82) n i := by omega
        rw [e2] at c1
        exact absurd c1 (m9_ef_yes h)
  exact bk_X7_endFrom_0 X (loop 0 (by omega))
def m9_y1 (M : k9_Mem) : Nat → k9_Mem
  | 0 => M
  | i + 1 => m9_l0 (m9_y1 M i) i (m9_zr (M 77) i 21)
theorem m9_y1_77 (M : k9_Mem) : ∀ i, m9_y1 M i 77 = M 77
  | 0 => rfl
  | i + 1 => (m9_l0_77 _ _ _).trans (m9_y1_77 M i)
def m9_y2 (M : k9_Mem) (B : Nat) : Nat → k9_Mem
  | 0 => m9_y1 M 96
  | n + 1 => m9_lnF (m9_y2 M B n) n B
theorem m9_lnF_ne (M : k9_Mem) (n B : Nat) {k : Nat} (h1 : k ≠ 81) (h2 : k ≠ 82) (h3 : k ≠ 83) : m9_lnF M n B k = M k := by
  unfold m9_lnF
  match (m9_ln M n B 96).2 with
  | none => exact m9_ln_ne M n B h1 h2 h3 96
  | some (f, g) => exact (m9_lc_ne _ _ _ _ h1 h2 h3).trans (m9_ln_ne M n B h1 h2 h3 96)
theorem m9_y2_ne (M : k9_Mem) (B : Nat) {k : Nat} (h1 : k ≠ 81) (h2 : k ≠ 82) (h3 : k ≠ 83) : ∀ n, m9_y2 M B n k = m9_y1 M 96 k
  | 0 => rfl
  | n + 1 => (m9_lnF_ne _ _ _ h1 h2 h3).trans (m9_y2_ne M B h1 h2 h3 n)
/-- a note begins at the k-th place of all steps and notes -/
def m9_bg (r : Nat → Int32) (k : Nat) : Bool := decide (m9_one (r (k / 20)) (k % 20))
def m9_put (N : k9_Mem) (c k : Nat) : k9_Mem := k9_st (k9_st (k9_st (k9_st N 84 c (nI (k % 20))) 85 c (nI (k / 20))) 86 c (nI (m9_ef (N 82) (k % 20) (k / 20)))) 76 13 (nI (c + 1))
def m9_y3 (Y : k9_Mem) : Nat → k9_Mem
  | 0 => k9_st Y 76 13 0
  | k + 1 => if m9_bg (Y 81) k = true then m9_put (m9_y3 Y k) (fb_ct (m9_bg (Y 81)) k) k else m9_y3 Y k
theorem m9_put_ne (N : k9_Mem) (c k : Nat) {a : Nat} (h1 : a ≠ 84) (h2 : a ≠ 85) (h3 : a ≠ 86) (h4 : a ≠ 76) : m9_put N c k a = N a := by
  rw [m9_put, m9_st_ne _ _ _ h4, m9_st_ne _ _ _ h3, m9_st_ne _ _ _ h2, m9_st_ne _ _ _ h1]
theorem m9_y3_ne (Y : k9_Mem) {a : Nat} (h1 : a ≠ 84) (h2 : a ≠ 85) (h3 : a ≠ 86) (h4 : a ≠ 76) : ∀ k, m9_y3 Y k a = Y a
  | 0 => m9_st_ne _ _ _ h4
  | k + 1 => by
    unfold m9_y3
    by_cases c : m9_bg (Y 81) k = true
    · rw [if_pos c, m9_put_ne _ _ _ h1 h2 h3 h4, m9_y3_ne Y h1 h2 h3 h4 k]
    · rw [if_neg c, m9_y3_ne Y h1 h2 h3 h4 k]
theorem m9_y3_c (Y : k9_Mem) : ∀ k, m9_y3 Y k 76 13 = nI (fb_ct (m9_bg (Y 81)) k)
  | 0 => by
    show k9_st Y 76 13 0 76 13 = _
    rw [m9_st_at, m9_upd_at]; rfl
  | k + 1 => by
    unfold m9_y3
    rw [fb_ct_succ]
    by_cases c : m9_bg (Y 81) k = true
    · rw [if_pos c, if_pos c, m9_put, m9_st_at, m9_upd_at]
    · rw [if_neg c, if_neg c, m9_y3_c Y k, Nat.add_zero]
theorem m9_y3_76 (Y : k9_Mem) {j : Nat} (h : j ≠ 13) : ∀ k, m9_y3 Y k 76 j = Y 76 j
  | 0 => m9_st_at_ne _ _ h
  | k + 1 => by
    unfold m9_y3
    by_cases c : m9_bg (Y 81) k = true
    · rw [if_pos c, m9_put, m9_st_at_ne _ _ h, m9_st_ne _ _ _ (by decide), m9_st_ne _ _ _ (by decide), m9_st_ne _ _ _ (by decide), m9_y3_76 Y h k]
    · rw [if_neg c, m9_y3_76 Y h k]
def m9_lay (M : k9_Mem) (B : Nat) : k9_Mem := m9_y3 (m9_y2 M B 21) 1920
/-- what is laid fits its rows -/
abbrev m9_lays (Y : k9_Mem) : Prop := fb_ct (m9_bg (Y 81)) 1920 ≤ 960 ∧ ∀ k, k < 1920 → m9_bg (Y 81) k = true → m9_ef (Y 82) (k % 20) (k / 20) < 96
theorem ct_X7_lay (l : Launch) (G : k9_G) (M : k9_Mem) {B : Nat} (hB : B < 1000) (hM : M 77 384 = nI B) (hl : m9_lays (m9_y2 M B 21)) : k9_Cv l yX7_lay wsX7_lay rm_X7_lay G M [.ref (k9_ga G 76)] (m9_lay M B) := by
  refine k9_metV (own := RX7) (by decide +kernel) rfl rfl (Nat.le_of_ble_eq_true rfl) ?_
  intro p e s m args below meth c A Q X HR
  obtain ⟨Y, hY⟩ : ∃ Y, Y = m9_y2 M B 21 := ⟨_, rfl⟩
  have hR : k9_U p l e rm_X7_lay s m args below meth c Q A G 4 0 0 (m9_y3 Y 1920) 130 [] [] := by rw [hY]; exact HR 130 [] dX7_lay_130
  rw [← hY] at hl
  have third : ∀ k, k ≤ 1920 → k9_U p l e rm_X7_lay s m args below meth c Q A G 4 0 0 (m9_y3 Y k) 45 [(0, .ref (k9_ga G 76)), (1, .int (nI k))] [] := by
    refine m9_down 1920 (fun k hk next => ?_)
    have e1 : nI k / (20 : Int32) = nI (k / 20) := pk_div (d := 20) (by omega) (by decide) (by decide)
    have e2 : nI k - nI k / (20 : Int32) * (20 : Int32) = nI (k % 20) := pk_rem (d := 20) (by omega) (by decide) (by decide)
    have e3 : (nI (k / 20)).toNatClampNeg = k / 20 := m9_cl (by omega)
    obtain ⟨N, hN⟩ : ∃ N, N = m9_y3 Y k := ⟨_, rfl⟩
    obtain ⟨cc, hcc⟩ : ∃ cc, cc = fb_ct (m9_bg (Y 81)) k := ⟨_, rfl⟩
    have e81 : N 81 = Y 81 := by rw [hN]; exact m9_y3_ne Y (by decide) (by decide) (by decide) (by decide) k
    have e82 : N 82 = Y 82 := by rw [hN]; exact m9_y3_ne Y (by decide) (by decide) (by decide) (by decide) k
    have ec : N 76 13 = nI cc := by rw [hN, m9_y3_c Y k, hcc]
    have hlt : k < 1920 → m9_bg (Y 81) k = true → cc < 960 := fun h1 h2 => by
      have h3 : fb_ct (m9_bg (Y 81)) (k + 1) ≤ fb_ct (m9_bg (Y 81)) 1920 := fb_ct_mono _ h1
      rw [fb_ct_succ, if_pos h2, ← hcc] at h3
      have := hl.1
      omega
    have st : m9_y3 Y (k + 1) = if m9_bg (Y 81) k = true then m9_put N cc k else N := by rw [hN, hcc]; rfl
    rw [st] at next
    rw [← hN]
    have hbg : m9_bg (Y 81) k = true ↔ m9_one (N 81 (k / 20)) (k % 20) := by rw [e81]; exact decide_eq_true_iff
    have h96 : k < 1920 → k / 20 < 96 := fun h => by omega
    have ef2 : ∀ N' : k9_Mem, N' 82 = Y 82 → k < 1920 → m9_bg (Y 81) k = true → k9_Ci l yX7_endFrom wsX7_endFrom rm_X7_endFrom G N' [.ref (k9_ga G 82), .int (nI (k % 20)), .int (nI (k / 20))] (nI (m9_ef (N 82) (k % 20) (k / 20))) N' := fun N' h1 h2 h3 => by
      have h4 := ct_X7_endFrom l G N' (n := k % 20) (i := k / 20) (by rw [h1]; exact hl.2 k h2 h3)
      rw [h1] at h4
      rw [e82]; exact h4
    refine bk_X7_lay_45 (rv1 := nI (m9_ef (N 82) (k % 20) (k / 20))) X (fun c1 => ?_) (fun c1 => ?_) (fun c1 c2 => ?_) (fun c1 c2 => ?_) (fun c1 c2 => ?_) (fun c1 c2 => ?_)
    · have hk2 := m9_ex (N := 1920) (by decide) hk c1
      subst hk2
      rw [hN]; exact hR
    · rw [e1]; exact m9_in (h96 (m9_go (N := 1920) (by decide) hk c1)) (by decide)
    · have h9 := next (m9_go (N := 1920) (by decide) hk c1)
      rw [e2, e1, e3] at c2
      rw [if_neg (fun z => c2 (hbg.mp z))] at h9
      rw [nI_1]; exact h9
    · rw [e2, e1, e3] at c2
      rw [ec]
      exact m9_in (hlt (m9_go (N := 1920) (by decide) hk c1) (hbg.mpr c2)) (by decide)
    · rw [e2, e1, e3] at c2
      rw [e2, e1]
      exact ef2 _ (by rw [m9_st_ne _ _ _ (by decide), m9_st_ne _ _ _ (by decide), e82]) (m9_go (N := 1920) (by decide) hk c1) (hbg.mpr c2)
    · have h9 := next (m9_go (N := 1920) (by decide) hk c1)
      rw [e2, e1, e3] at c2
      have hc9 := hlt (m9_go (N := 1920) (by decide) hk c1) (hbg.mpr c2)
      rw [if_pos (hbg.mpr c2)] at h9
      rw [e2, e1, ec, m9_cl (show cc < 2147483648 by omega), nI_1, nI_1]
      exact h9
  have second : ∀ n, n ≤ 21 → k9_U p l e rm_X7_lay s m args below meth c Q A G 4 0 0 (m9_y2 M B n) 21 [(0, .ref (k9_ga G 76)), (1, .int (nI n))] [] := by
    refine m9_down 21 (fun n hn next => ?_)
    have hlt : (20 : Int32) < nI n ↔ 20 < n := m9_lt (a := 20) (by decide) (by omega)
    have go : ¬ (20 : Int32) < nI n → n < 21 := fun c1 => by
      rcases Nat.lt_or_ge n 21 with q | q
      · exact q
      · exact absurd (hlt.mpr (by omega)) c1
    refine bk_X7_lay_21 (mv1 := m9_y2 M B (n + 1)) X (fun c1 => ?_) (fun c1 => ?_) (fun c1 => ?_)
    · have : n = 21 := by have := hlt.mp c1; omega
      subst this
      rw [← hY]
      exact third 0 (by decide)
    · exact ct_X7_layChains l G _ hB (by rw [m9_y2_ne M B (by decide) (by decide) (by decide), m9_y1_77, hM])
    · rw [nI_1]; exact next (go c1)
  have first : ∀ i, i ≤ 96 → k9_U p l e rm_X7_lay s m args below meth c Q A G 4 0 0 (m9_y1 M i) 2 [(0, .ref (k9_ga G 76)), (1, .int (nI i))] [] := by
    refine m9_down 96 (fun i hi next => ?_)
    refine bk_X7_lay_2 (mv1 := m9_y1 M (i + 1)) X (fun c1 => ?_) (fun c1 => ?_) (fun c1 => ?_)
    · have hi2 := m9_ex (N := 96) (by decide) hi c1
      subst hi2
      exact second 0 (by decide)
    · have h9 := ct_X7_layReads l G (m9_y1 M i) (m9_go (N := 96) (by decide) hi c1)
      rw [m9_y1_77] at h9
      exact h9
    · rw [nI_1]; exact next (m9_go (N := 96) (by decide) hi c1)
  exact bk_X7_lay_0 X (first 0 (by decide))
/-- the last step of the note of the tune that begins at a step -/
def m9_tl (Z : Nat → Int32) (n i : Nat) : Int32 := if (Z (386 + i) >>> (nI n &&& 31)) &&& 1 = 0 then -1 else nI (m9_ef (fun j => Z (482 + j)) n i)
abbrev m9_tlo (Z : Nat → Int32) (n i : Nat) : Prop := ¬ (Z (386 + i) >>> (nI n &&& 31)) &&& 1 = 0 → m9_ef (fun j => Z (482 + j)) n i < 96
theorem ct_X7_tuneLast (l : Launch) (G : k9_G) (M : k9_Mem) {n i : Nat} (hi : i < 96) (ho : m9_tlo (M 77) n i) : k9_Ci l yX7_tuneLast wsX7_tuneLast rm_X7_tuneLast G M [.ref (k9_ga G 76), .int (nI n), .int (nI i)] (m9_tl (M 77) n i) M := by
  refine k9_metI (own := RX7) (by decide +kernel) rfl rfl (Nat.le_of_ble_eq_true rfl) rfl ?_
  intro p e s m args below meth c A Q X HR
  have e0 : (386 : Int32) + nI i = nI (386 + i) := nI_add 386 i
  have e1 : (nI (386 + i)).toNatClampNeg = 386 + i := m9_cl (by omega)
  refine bk_X7_tuneLast_0 X (by rw [e0]; exact m9_in (by omega) (by decide)) (fun c1 => ?_) (fun c1 => ?_)
  · rw [e0, e1] at c1
    have hE := ho c1
    obtain ⟨E, hE2⟩ : ∃ E, E = m9_ef (fun j => M 77 (482 + j)) n i := ⟨_, rfl⟩
    have hge := m9_ef_ge (fun j => M 77 (482 + j)) n i
    have loop : ∀ j, j ≤ E - i → k9_U p l e rm_X7_tuneLast s m args below meth c Q A G 4 0 0 M 21 [(0, .ref (k9_ga G 76)), (1, .int (nI n)), (3, .int (nI (i + j)))] [] := by
      refine m9_down (E - i) (fun j hj next => ?_)
      have e2 : (482 : Int32) + nI (i + j) = nI (482 + (i + j)) := nI_add 482 (i + j)
      have ej : (nI (482 + (i + j))).toNatClampNeg = 482 + (i + j) := m9_cl (by omega)
      refine bk_X7_tuneLast_21 X (by rw [e2]; exact m9_in (by omega) (by decide)) (fun c2 => ?_) (fun c2 => ?_)
      · rw [e2, ej] at c2
        have : i + j = E := by
          rcases Nat.lt_or_ge (i + j) E with q | q
          · exact absurd (m9_ef_no (r := fun j => M 77 (482 + j)) (n := n) (s := i) (i + j) (by omega) (by omega)) c2
          · omega
        have h9 := HR 45 [] dX7_tuneLast_45
        rw [m9_tl, if_neg c1, ← hE2] at h9
        rw [this]; exact h9
      · rw [e2, ej] at c2
        rw [nI_1]
        refine next ?_
        rcases Nat.lt_or_ge (i + j) E with q | q
        · omega
        · have e3 : i + j = m9_ef (fun j => M 77 (482 + j)) n i := by omega
          rw [e3] at c2
          exact absurd c2 (m9_ef_yes (r := fun j => M 77 (482 + j)) hE)
    exact loop 0 (by omega)
  · rw [e0, e1] at c1
    have h9 := HR 18 [] dX7_tuneLast_18
    rw [m9_tl, if_pos c1] at h9
    exact h9
/-- a place of what is laid: a note and a step -/
abbrev m9_plo (M : k9_Mem) (c : Nat) : Prop := ∃ n i : Nat, M 84 c = nI n ∧ n < 20 ∧ M 85 c = nI i ∧ i < 96 ∧ m9_tlo (M 77) n i
abbrev m9_irP (M : k9_Mem) (c : Nat) : Prop := m9_tl (M 77) (M 84 c).toNatClampNeg (M 85 c).toNatClampNeg = M 86 c
theorem ct_X7_isRight (l : Launch) (G : k9_G) (M : k9_Mem) {c9 : Nat} (hc : c9 < 960) (hp : m9_plo M c9) : k9_Ci l yX7_isRight wsX7_isRight rm_X7_isRight G M [.ref (k9_ga G 76), .int (nI c9)] (m9_bi (m9_irP M c9)) M := by
  refine k9_metI (own := RX7) (by decide +kernel) rfl rfl (Nat.le_of_ble_eq_true rfl) m9_nb ?_
  intro p e s m args below meth c A Q X HR
  obtain ⟨n, i, h1, h2, h3, h4, h5⟩ := hp
  have ee : (nI c9).toNatClampNeg = c9 := m9_cl (by omega)
  have en : (M 84 c9).toNatClampNeg = n := by rw [h1, m9_cl (by omega)]
  have ei : (M 85 c9).toNatClampNeg = i := by rw [h3, m9_cl (by omega)]
  have hir : m9_irP M c9 ↔ m9_tl (M 77) n i = M 86 c9 := by rw [m9_irP, en, ei]
  refine bk_X7_isRight_0 (rv1 := m9_tl (M 77) n i) X (m9_in hc (by decide)) ?_ (fun c1 => ?_) (fun c1 => ?_)
  · rw [ee, h1, h3]; exact ct_X7_tuneLast l G M h4 h5
  · rw [ee] at c1
    exact k9_eq rfl (by rw [m9_bi_f (fun z => c1 (hir.mp z))]) (HR 30 [] dX7_isRight_30)
  · rw [ee] at c1
    exact k9_eq rfl (by rw [m9_bi_t (hir.mpr c1)]) (HR 30 [] dX7_isRight_30)
/-- what is laid: C places -/
abbrev m9_laid (M : k9_Mem) (C : Nat) : Prop := M 76 13 = nI C ∧ C ≤ 960 ∧ ∀ c, c < C → m9_plo M c
def m9_rig (M : k9_Mem) (C : Nat) : Int32 := m9_sum (fun c => m9_bi (m9_irP M c)) C
theorem ct_X7_rights (l : Launch) (G : k9_G) (M : k9_Mem) {C : Nat} (h : m9_laid M C) : k9_Ci l yX7_rights wsX7_rights rm_X7_rights G M [.ref (k9_ga G 76)] (m9_rig M C) M := by
  refine k9_metI (own := RX7) (by decide +kernel) rfl rfl (Nat.le_of_ble_eq_true rfl) rfl ?_
  intro p e s m args below meth c A Q X HR
  obtain ⟨h1, h2, h3⟩ := h
  have loop : ∀ i, i ≤ C → k9_U p l e rm_X7_rights s m args below meth c Q A G 3 0 0 M 4 [(0, .ref (k9_ga G 76)), (1, .int (m9_sum (fun c => m9_bi (m9_irP M c)) i)), (2, .int (nI i))] [] := by
    refine m9_down C (fun i hi next => ?_)
    refine bk_X7_rights_4 (rv1 := m9_bi (m9_irP M i)) X (fun c1 => ?_) (fun c1 => ?_) (fun c1 c2 => ?_) (fun c1 c2 => ?_)
    · rw [h1] at c1
      have hi2 := m9_ex (N := C) (by omega) hi c1
      subst hi2
      exact HR 35 [] dX7_rights_35
    · rw [h1] at c1
      have h9 := m9_go (N := C) (by omega) hi c1
      exact ct_X7_isRight l G M (by omega) (h3 i h9)
    · rw [h1] at c1
      have h9 := next (m9_go (N := C) (by omega) hi c1)
      rw [m9_sum_s, m9_bi_f (m9_bi_0 c2)] at h9
      rw [nI_1]; exact h9
    · rw [h1] at c1
      have h9 := next (m9_go (N := C) (by omega) hi c1)
      rw [m9_sum_s, m9_bi_t (m9_bi_1 c2)] at h9
      rw [nI_1]; exact h9
  exact bk_X7_rights_0 X (loop 0 (by omega))
theorem ct_X7_rightsNow (l : Launch) (G : k9_G) (M : k9_Mem) {B C : Nat} (hB : B < 1000) (hM : M 77 384 = nI B) (hl : m9_lays (m9_y2 M B 21)) (h : m9_laid (m9_lay M B) C) : k9_Ci l yX7_rightsNow wsX7_rightsNow rm_X7_rightsNow G M [.ref (k9_ga G 76)] (m9_rig (m9_lay M B) C) (m9_lay M B) := by
  refine k9_metI (own := RX7) (by decide +kernel) rfl rfl (Nat.le_of_ble_eq_true rfl) rfl ?_
  intro p e s m args below meth c A Q X HR
  exact bk_X7_rightsNow_0 X (ct_X7_lay l G M hB hM hl) (ct_X7_rights l G _ h) (HR 8 [] dX7_rightsNow_8)
def m9_tnn (Z : Nat → Int32) : Int32 := m9_sum (fun i => m9_on (Z (386 + i))) 96
theorem ct_X7_tuneNotes (l : Launch) (G : k9_G) (M : k9_Mem) : k9_Ci l yX7_tuneNotes wsX7_tuneNotes rm_X7_tuneNotes G M [.ref (k9_ga G 76)] (m9_tnn (M 77)) M := by
  refine k9_metI (own := RX7) (by decide +kernel) rfl rfl (Nat.le_of_ble_eq_true rfl) rfl ?_
  intro p e s m args below meth c A Q X HR
  have loop : ∀ i, i ≤ 96 → k9_U p l e rm_X7_tuneNotes s m args below meth c Q A G 3 0 0 M 4 [(0, .ref (k9_ga G 76)), (1, .int (m9_sum (fun i => m9_on (M 77 (386 + i))) i)), (2, .int (nI i))] [] := by
    refine m9_down 96 (fun i hi next => ?_)
    have e0 : (386 : Int32) + nI i = nI (386 + i) := nI_add 386 i
    have e1 : (nI (386 + i)).toNatClampNeg = 386 + i := m9_cl (by omega)
    refine bk_X7_tuneNotes_4 (rv1 := m9_on (M 77 (386 + i))) X (fun c1 => ?_) (fun c1 => ?_) (fun c1 => ?_) (fun c1 => ?_)
    · have hi2 := m9_ex (N := 96) (by decide) hi c1
      subst hi2
      exact HR 33 [] dX7_tuneNotes_33
    · have := m9_go (N := 96) (by decide) hi c1
      rw [e0]; exact m9_in (by omega) (by decide)
    · rw [e0, e1]; exact ct_X7_ones l G M _
    · rw [nI_1]; exact next (m9_go (N := 96) (by decide) hi c1)
  exact bk_X7_tuneNotes_0 X (loop 0 (by decide))
