/-! The reference: numbers. -/
def m9_exD (P : Nat → Prop) [DecidablePred P] : (j : Nat) → Decidable (∃ b, 1 ≤ b ∧ b ≤ j ∧ P b)
  | 0 => isFalse (by rintro ⟨b, h1, h2, -⟩; omega)
  | j + 1 => @decidable_of_iff _ ((∃ b, 1 ≤ b ∧ b ≤ j ∧ P b) ∨ P (j + 1)) m9_ex_s.symm (@instDecidableOr _ _ (m9_exD P j) _)
abbrev m9_wsh (M : k9_Mem) (i R : Nat) : Prop := M 83 i &&& 1048575 = 0 ∧ m9_aw M i R ∧ m9_bw M i R
def m9_wshD (M : k9_Mem) (i R : Nat) : Decidable (m9_wsh M i R) := @instDecidableAnd _ _ _ (@instDecidableAnd _ _ (m9_exD (fun b => b ≤ i ∧ ¬ M 83 (i - b) &&& 1048575 = 0) R) (m9_exD (fun b => i + b < 96 ∧ ¬ M 81 (i + b) &&& 1048575 = 0) R))
def m9_wsv (M : k9_Mem) (i R : Nat) : Int32 := @m9_bi (m9_wsh M i R) (m9_wshD M i R)
theorem ct_X7_isWished_v (l : Launch) (G : k9_G) (M : k9_Mem) {i R : Nat} (hi : i < 96) (hR : R < 900) (hM : M 77 385 = nI R) : k9_Ci l yX7_isWished wsX7_isWished rm_X7_isWished G M [.ref (k9_ga G 76), .int (nI i)] (m9_wsv M i R) M := @ct_X7_isWished l G M i R hi hR hM (m9_wshD M i R)
theorem m9_wsv_01 (M : k9_Mem) (i R : Nat) : m9_wsv M i R = 0 ∨ m9_wsv M i R = 1 := by
  unfold m9_wsv m9_bi
  split
  · exact Or.inr rfl
  · exact Or.inl rfl
def m9_stv (M : k9_Mem) (C R i : Nat) (w : Int32) : Int32 :=
  if w = 0 then M 77 (192 + i) else if w = 1 then M 77 (288 + i) else if w = 2 then M 83 i &&& 1048575 else if w = 3 then m9_sat M i C else if w = 4 then m9_bi (m9_one (M 83 i) 20) else if w = 5 then m9_wsv M i R else m9_zo (M 77) i
theorem ct_X7_stepNow (l : Launch) (G : k9_G) (M : k9_Mem) {C R i : Nat} (h : m9_lai2 M C) (hi : i < 96) (hR : R < 900) (hM : M 77 385 = nI R) (w : Int32) : k9_Ci l yX7_stepNow wsX7_stepNow rm_X7_stepNow G M [.ref (k9_ga G 76), .int (nI i), .int w] (m9_stv M C R i w) M := by
  refine k9_metI (own := RX7) (by decide +kernel) rfl rfl (Nat.le_of_ble_eq_true rfl) rfl ?_
  intro p e s m args below meth c A Q X HR
  have e0 : (192 : Int32) + nI i = nI (192 + i) := nI_add 192 i
  have e1 : (288 : Int32) + nI i = nI (288 + i) := nI_add 288 i
  have ee : (nI i).toNatClampNeg = i := m9_cl (by omega)
  have e3 : (nI (192 + i)).toNatClampNeg = 192 + i := m9_cl (by omega)
  have e4 : (nI (288 + i)).toNatClampNeg = 288 + i := m9_cl (by omega)
  refine bk_X7_stepNow_0 (rv3 := m9_wsv M i R) X (fun c1 => ?_) (fun c1 => ?_) (fun c1 => ?_) (fun c1 => ?_) (fun c1 => m9_in hi (by decide)) (fun c1 => ?_) (fun c1 => ct_X7_soundAt l G M h i) (fun c1 => ?_) (fun c1 => ct_X7_isDown l G M hi) (fun c1 c2 => ?_) (fun c1 c2 => ?_) (fun c1 => ct_X7_isWished_v l G M hi hR hM) (fun c1 c2 => ?_) (fun c1 c2 => ?_) (fun c0 c1 c2 c3 c4 c5 => ct_X7_openAt l G M hi) (fun c0 c1 c2 c3 c4 c5 => ?_)
  · rw [e0]; exact m9_in (by omega) (by decide)
  · subst c1; rw [e0, e3]; exact HR 50 [] dX7_stepNow_50
  · rw [e1]; exact m9_in (by omega) (by decide)
  · subst c1; rw [e1, e4]; exact HR 61 [] dX7_stepNow_61
  · subst c1; rw [ee]; exact HR 71 [] dX7_stepNow_71
  · subst c1
    exact k9_eq rfl (by rw [m9_stv, if_neg (by decide), if_neg (by decide), if_neg (by decide), if_pos rfl]) (HR 77 [] dX7_stepNow_77)
  · subst c1
    exact k9_eq rfl (by rw [m9_stv, if_neg (by decide), if_neg (by decide), if_neg (by decide), if_neg (by decide), if_pos rfl, c2]) (HR 91 [] dX7_stepNow_91)
  · subst c1
    exact k9_eq rfl (by rw [m9_stv, if_neg (by decide), if_neg (by decide), if_neg (by decide), if_neg (by decide), if_pos rfl, m9_bi_t (m9_bi_1 c2)]) (HR 91 [] dX7_stepNow_91)
  · subst c1
    exact k9_eq rfl (by rw [m9_stv, if_neg (by decide), if_neg (by decide), if_neg (by decide), if_neg (by decide), if_neg (by decide), if_pos rfl, c2]) (HR 105 [] dX7_stepNow_105)
  · subst c1
    have c3 : m9_wsv M i R = 1 := (m9_wsv_01 M i R).resolve_left c2
    exact k9_eq rfl (by rw [m9_stv, if_neg (by decide), if_neg (by decide), if_neg (by decide), if_neg (by decide), if_neg (by decide), if_pos rfl, c3]) (HR 105 [] dX7_stepNow_105)
  · exact k9_eq rfl (by rw [m9_stv, if_neg c0, if_neg c1, if_neg c2, if_neg c3, if_neg c4, if_neg c5]) (HR 111 [] dX7_stepNow_111)
def m9_rsp (a w : Int32) : Int32 := if ¬ m9_wn a 0 95 then 1 else if ¬ m9_wn w 0 6 then 2 else 0
theorem ct_X7_step (l : Launch) (G : k9_G) (M : k9_Mem) {B C R : Nat} (hB : B < 1000) (hM : M 77 384 = nI B) (hR : R < 900) (hM2 : M 77 385 = nI R) (H : m9_lays (m9_y2 (k9_st M 76 5 0) B 21)) (H2 : m9_lai2 (m9_lay (k9_st M 76 5 0) B) C) (H3 : m9_lay (k9_st M 76 5 0) B 77 = M 77) (a w : Int32) : k9_Ci l yX7_step wsX7_step rm_X7_step G M [.ref (k9_ga G 76), .int a, .int w] (if m9_rsp a w = 0 then m9_stv (m9_lay (k9_st M 76 5 0) B) C R a.toNatClampNeg w else 0) (if m9_rsp a w = 0 then m9_lay (k9_st M 76 5 0) B else k9_st M 76 5 (m9_rsp a w)) := by
  refine k9_metI (own := RX7) (by decide +kernel) rfl rfl (Nat.le_of_ble_eq_true rfl) rfl ?_
  intro p e s m args below meth c A Q X HR
  have no : ∀ z, m9_rsp a w = z → ¬ z = 0 → k9_U p l e rm_X7_step s m args below meth c Q A G 3 0 0 (k9_st M 76 5 z) 38 [] [.int 0] := fun z hz h0 => by
    have h9 := HR 38 [] dX7_step_38
    rw [hz, if_neg h0, if_neg h0] at h9
    exact h9
  refine bk_X7_step_0 (mv3 := m9_lay (k9_st M 76 5 0) B) (rv4 := m9_stv (m9_lay (k9_st M 76 5 0) B) C R a.toNatClampNeg w) X (ct_X7_isStep l G M a) (fun c1 => ct_X7_within l G M _ _ _) (fun c1 c2 => no 2 (by rw [m9_rsp, if_neg (fun z => z (m9_bi_1 c1)), if_pos (m9_bi_0 c2)]) (by decide)) (fun c1 c2 => ct_X7_lay l G _ hB (by rw [m9_st_ne _ _ _ (by decide), hM]) H) (fun c1 c2 => ?_) (fun c1 c2 => ?_) (fun c1 => no 1 (by rw [m9_rsp, if_pos (m9_bi_0 c1)]) (by decide))
  · obtain ⟨e1, l1⟩ := m9_wn_rng (m9_bi_1 c1)
    have h9 := ct_X7_stepNow l G (m9_lay (k9_st M 76 5 0) B) H2 l1 hR (by rw [H3, hM2]) w
    rw [← e1] at h9
    exact h9
  · have h0 : m9_rsp a w = 0 := by rw [m9_rsp, if_neg (fun z => z (m9_bi_1 c1)), if_neg (fun z => z (m9_bi_1 c2))]
    have h9 := HR 49 [] dX7_step_49
    rw [if_pos h0, if_pos h0] at h9
    exact h9
/-- the holes that are read for a place -/
def m9_hol (M : k9_Mem) (n f g : Nat) : Int32 := m9_sum (fun j => (M 80 (f + j) >>> (nI n &&& 31)) &&& 1) (g + 1 - f)
def m9_hoc (M : k9_Mem) (c : Nat) : Int32 := m9_hol M (M 84 c).toNatClampNeg (M 85 c).toNatClampNeg (M 86 c).toNatClampNeg
theorem ct_X7_holesOf (l : Launch) (G : k9_G) (M : k9_Mem) {c9 : Nat} (hc : c9 < 960) (hp : m9_pl2 M c9) : k9_Ci l yX7_holesOf wsX7_holesOf rm_X7_holesOf G M [.ref (k9_ga G 76), .int (nI c9)] (m9_hoc M c9) M := by
  refine k9_metI (own := RX7) (by decide +kernel) rfl rfl (Nat.le_of_ble_eq_true rfl) rfl ?_
  intro p e s m args below meth c A Q X HR
  obtain ⟨n, f, g, h1, h2, h3, h4, h5, h6, h7⟩ := hp
  have ee : (nI c9).toNatClampNeg = c9 := m9_cl (by omega)
  have hh : m9_hoc M c9 = m9_hol M n f g := by rw [m9_hoc, h1, h3, h5, m9_cl (by omega), m9_cl (by omega), m9_cl (by omega)]
  rw [hh] at HR
  have loop : ∀ j, j ≤ g + 1 - f → k9_U p l e rm_X7_holesOf s m args below meth c Q A G 4 0 0 M 9 [(0, .ref (k9_ga G 76)), (1, .int (nI c9)), (2, .int (m9_sum (fun j => (M 80 (f + j) >>> (nI n &&& 31)) &&& 1) j)), (3, .int (nI (f + j)))] [] := by
    refine m9_down (g + 1 - f) (fun j hj next => ?_)
    have hlt : nI g < nI (f + j) ↔ g < f + j := m9_lt (by omega) (by omega)
    have e4 : (nI (f + j)).toNatClampNeg = f + j := m9_cl (by omega)
    have go : ¬ nI g < nI (f + j) → f + j ≤ g := fun c2 => by
      rcases Nat.lt_or_ge g (f + j) with q | q
      · exact absurd (hlt.mpr q) c2
      · exact q
    refine bk_X7_holesOf_9 X (m9_in hc (by decide)) (fun c1 => ?_) (fun c1 => ?_) (fun c1 => ?_)
    · rw [ee, h5] at c1
      have : j = g + 1 - f := by have := hlt.mp c1; omega
      subst this
      exact HR 44 [] dX7_holesOf_44
    · rw [ee, h5] at c1
      have := go c1
      exact m9_in (by omega) (by decide)
    · rw [ee, h5] at c1
      have := go c1
      have h9 := next (by omega)
      rw [ee, h1, e4, nI_1]; exact h9
  refine bk_X7_holesOf_0 X (m9_in hc (by decide)) ?_
  rw [ee, h3]
  exact loop 0 (by omega)
def m9_pnv (M : k9_Mem) (c : Nat) (w : Int32) : Int32 :=
  if w = 0 then M 84 c else if w = 1 then M 85 c else if w = 2 then M 86 c else if w = 3 then m9_stc M c else if w = 4 then m9_hoc M c else m9_bi (m9_irP M c)
theorem ct_X7_playedNow (l : Launch) (G : k9_G) (M : k9_Mem) {c9 : Nat} (hc : c9 < 960) (hp : m9_plo M c9) (hp2 : m9_pl2 M c9) (w : Int32) : k9_Ci l yX7_playedNow wsX7_playedNow rm_X7_playedNow G M [.ref (k9_ga G 76), .int (nI c9), .int w] (m9_pnv M c9 w) M := by
  refine k9_metI (own := RX7) (by decide +kernel) rfl rfl (Nat.le_of_ble_eq_true rfl) rfl ?_
  intro p e s m args below meth c A Q X HR
  have ee : (nI c9).toNatClampNeg = c9 := m9_cl (by omega)
  have hin : vp_in (nI c9) 960 := m9_in hc (by decide)
  refine bk_X7_playedNow_0 X (fun c1 => hin) (fun c1 => ?_) (fun c1 => hin) (fun c1 => ?_) (fun c1 => hin) (fun c1 => ?_) (fun c1 => ct_X7_soundsTo l G M hc hp2) (fun c1 => ?_) (fun c1 => ct_X7_holesOf l G M hc hp2) (fun c1 => ?_) (fun c0 c1 c2 c3 c4 => ct_X7_isRight l G M hc hp) (fun c0 c1 c2 c3 c4 c5 => ?_) (fun c0 c1 c2 c3 c4 c5 => ?_)
  · subst c1; rw [ee]; exact HR 42 [] dX7_playedNow_42
  · subst c1; rw [ee]; exact HR 49 [] dX7_playedNow_49
  · subst c1; rw [ee]; exact HR 56 [] dX7_playedNow_56
  · subst c1
    exact k9_eq rfl (by rw [m9_pnv, if_neg (by decide), if_neg (by decide), if_neg (by decide), if_pos rfl]) (HR 62 [] dX7_playedNow_62)
  · subst c1
    exact k9_eq rfl (by rw [m9_pnv, if_neg (by decide), if_neg (by decide), if_neg (by decide), if_neg (by decide), if_pos rfl]) (HR 68 [] dX7_playedNow_68)
  · exact k9_eq rfl (by rw [m9_pnv, if_neg c0, if_neg c1, if_neg c2, if_neg c3, if_neg c4, c5]) (HR 82 [] dX7_playedNow_82)
  · exact k9_eq rfl (by rw [m9_pnv, if_neg c0, if_neg c1, if_neg c2, if_neg c3, if_neg c4, m9_bi_t (m9_bi_1 c5)]) (HR 82 [] dX7_playedNow_82)
