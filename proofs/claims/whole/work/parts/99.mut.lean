/-! Plain mathematics: tearing, steering, settings, learning, undo, the buffer. -/
theorem q9_xTear {M : k9_Mem} {B R F U : Nat} (h : q9_rel M B R F U) (a b y : Int32) [Decidable (m9_canT M a b y)] [Decidable (m9_ctW (M 77) y a.toNatClampNeg b.toNatClampNeg)] : q9_k3 (m9_xTear M a b y) = m9_rte (M 77) a b y := by
  have e1 := q9_xSteps a b
  unfold m9_xTear m9_rte
  cases hx : m9_xSteps a b with
  | some E =>
    rw [hx] at e1
    have hn : ¬ m9_rfr 1 a b = 0 := fun z => by
      rw [z] at e1
      unfold m9_xSteps at hx
      by_cases c1 : ¬ m9_isS a ∨ ¬ m9_isS b
      · rw [if_pos c1] at hx
        cases hx
        rw [q9_k3o] at e1
        exact absurd e1 (by decide)
      · rw [if_neg c1] at hx
        by_cases c2 : b < a
        · rw [if_pos c2] at hx
          cases hx
          rw [q9_k3a] at e1
          exact absurd e1 (by decide)
        · rw [if_neg c2] at hx
          cases hx
    rw [if_pos hn]
    exact e1
  | none =>
    rw [hx] at e1
    have h0 : m9_rfr 1 a b = 0 := e1.symm
    obtain ⟨a1, b1, hab, hb⟩ := q9_rfr0 h0
    rw [if_neg (show ¬ ¬ m9_rfr 1 a b = 0 from fun z => z h0)]
    show q9_k3 (m9_xo (m9_xAside y) (if m9_canT M a b y then none else some m9_is)) = _
    unfold m9_xAside
    by_cases c : y < (-3 : Int32) ∨ (3 : Int32) < y
    · rw [if_pos c, if_pos ((q9_xAside y).mp c)]; exact q9_k3a
    · have hy : m9_wn y (-3) 3 := Classical.byContradiction (fun z => c ((q9_xAside y).mpr z))
      have hc := q9_canT h.1 hab hb y
      rw [← a1, ← b1] at hc
      rw [if_neg c, if_neg (show ¬ ¬ m9_wn y (-3) 3 from fun z => z hy)]
      by_cases d : m9_canT M a b y
      · rw [if_pos d, if_pos (hc.mp d)]; rfl
      · rw [if_neg d, if_neg (fun z => d (hc.mpr z))]; exact q9_k3s
theorem q9_tear {M : k9_Mem} {B R F U : Nat} (h : q9_rel M B R F U) (a b y : Int32) [Decidable (m9_ctW (M 77) y a.toNatClampNeg b.toNatClampNeg)] (h0 : m9_rte (M 77) a b y = 0) : m9_teaM M F B a b y 77 = M 77 ∧ m9_teaM M F B a b y 76 = M 76 ∧ m9_gd (m9_teN (m9_teaM M F B a b y) F y a.toNatClampNeg b.toNatClampNeg) B ∧ m9_same (m9_teaM M F B a b y) 59 6 = m9_rn (m9_teN (m9_teaM M F B a b y) F y a.toNatClampNeg b.toNatClampNeg) B ∧ q9_rel (m9_teN (m9_teaM M F B a b y) F y a.toNatClampNeg b.toNatClampNeg) B R (q9_F F) U := by
  have hr0 : m9_rfr 1 a b = 0 := Classical.byContradiction (fun z => by
    unfold m9_rte at h0
    rw [if_pos z] at h0
    exact z h0)
  have hy : m9_wn y (-3) 3 := Classical.byContradiction (fun z => by
    unfold m9_rte at h0
    rw [if_neg (show ¬ ¬ m9_rfr 1 a b = 0 from fun z => z hr0), if_pos z] at h0
    exact absurd h0 (by decide))
  have hw : m9_ctW (M 77) y a.toNatClampNeg b.toNatClampNeg := Classical.byContradiction (fun z => by
    unfold m9_rte at h0
    rw [if_neg (show ¬ ¬ m9_rfr 1 a b = 0 from fun z => z hr0), if_neg (show ¬ ¬ m9_wn y (-3) 3 from fun q => q hy), if_neg z] at h0
    exact absurd h0 (by decide))
  obtain ⟨a1, b1, hab, hb⟩ := q9_rfr0 hr0
  have hp := q9_kP h
  have hN : ∀ k, 9 ≤ k → k9_sc (m9_keep M F) 4 (m9_fl (m9_ae (m9_keep M F) a b y) (m9_keep M F 4) 96) k = m9_keep M F k := fun k hk => k9_sc_ne _ _ (by omega)
  have e77 : m9_teaM M F B a b y 77 = M 77 := q9_M77 h hN (by decide) (by decide) (by decide)
  have e76 : m9_teaM M F B a b y 76 = M 76 := q9_M77 h hN (by decide) (by decide) (by decide)
  have ez : fb_put (M 77) (fun j => M 77 (192 + a.toNatClampNeg + j) + y) (192 + a.toNatClampNeg) (b.toNatClampNeg + 1 - a.toNatClampNeg) = fb_put (M 77) (fun j => (fun s => M 77 (192 + s) + y) (a.toNatClampNeg + j)) (192 + a.toNatClampNeg) (b.toNatClampNeg + 1 - a.toNatClampNeg) := by
    refine fb_put_cong (fun j _ => rfl) (fun j _ => ?_)
    show M 77 (192 + a.toNatClampNeg + j) + y = M 77 (192 + (a.toNatClampNeg + j)) + y
    rw [Nat.add_assoc]
  have e : m9_teN (m9_teaM M F B a b y) F y a.toNatClampNeg b.toNatClampNeg = k9_sc (m9_save (k9_st (m9_hear (k9_sc (m9_keep M F) 4 (m9_fl (m9_ae (m9_keep M F) a b y) (m9_keep M F 4) 96)) B) 76 5 0) F) 77 (fb_put (M 77) (fun j => (fun s => M 77 (192 + s) + y) (a.toNatClampNeg + j)) (192 + a.toNatClampNeg) (b.toNatClampNeg + 1 - a.toNatClampNeg)) := by
    unfold m9_teN
    rw [e77, ez]; rfl
  have hr := q9_mutS h hN (q9_P_45 hp (c := 4) (o := 192) (p := fun s => M 77 (192 + s) + y) (Or.inl ⟨rfl, rfl⟩) hab hb (fun s hs => by
    rw [m9_fl_in hs]
    unfold m9_ae
    rw [← a1, ← b1, show m9_keep M F 4 s = M 77 (192 + s) from (hp.1 s hs).2.2.1])) (q9_ok_45 h.2.1 (o := 192) (p := fun s => M 77 (192 + s) + y) (Or.inl rfl) hab hb (fun s s1 s2 => q9_side_wn.mp (hw s s1 s2)))
  rw [e]
  exact ⟨e77, e76, (q9_mutR (B := B) (R := R) hr).1, (q9_mutR (B := B) (R := R) hr).2, hr⟩
theorem q9_xSteer (a b y : Int32) : q9_k3 (m9_xSteer a b y) = m9_rst a b y := by
  have e1 := q9_xSteps a b
  unfold m9_xSteer m9_rst
  cases hx : m9_xSteps a b with
  | some E =>
    rw [hx] at e1
    have hn : ¬ m9_rfr 1 a b = 0 := fun z => by
      rw [z] at e1
      unfold m9_xSteps at hx
      by_cases c1 : ¬ m9_isS a ∨ ¬ m9_isS b
      · rw [if_pos c1] at hx
        cases hx
        rw [q9_k3o] at e1
        exact absurd e1 (by decide)
      · rw [if_neg c1] at hx
        by_cases c2 : b < a
        · rw [if_pos c2] at hx
          cases hx
          rw [q9_k3a] at e1
          exact absurd e1 (by decide)
        · rw [if_neg c2] at hx
          cases hx
    rw [if_pos hn]
    exact e1
  | none =>
    rw [hx] at e1
    have h0 : m9_rfr 1 a b = 0 := e1.symm
    rw [if_neg (show ¬ ¬ m9_rfr 1 a b = 0 from fun z => z h0)]
    show q9_k3 (m9_xAside y) = _
    unfold m9_xAside
    by_cases c : y < (-3 : Int32) ∨ (3 : Int32) < y
    · rw [if_pos c, if_pos ((q9_xAside y).mp c)]; exact q9_k3a
    · have hy : m9_wn y (-3) 3 := Classical.byContradiction (fun z => c ((q9_xAside y).mpr z))
      rw [if_neg c, if_neg (show ¬ ¬ m9_wn y (-3) 3 from fun z => z hy)]; rfl
theorem q9_steer {M : k9_Mem} {B R F U : Nat} (h : q9_rel M B R F U) (a b y : Int32) (h0 : m9_rst a b y = 0) : m9_steM M F B a b y 77 = M 77 ∧ m9_steM M F B a b y 76 = M 76 ∧ m9_gd (m9_stN (m9_steM M F B a b y) F y a.toNatClampNeg b.toNatClampNeg) B ∧ m9_same (m9_steM M F B a b y) 59 6 = m9_rn (m9_stN (m9_steM M F B a b y) F y a.toNatClampNeg b.toNatClampNeg) B ∧ q9_rel (m9_stN (m9_steM M F B a b y) F y a.toNatClampNeg b.toNatClampNeg) B R (q9_F F) U := by
  have hr0 : m9_rfr 1 a b = 0 := Classical.byContradiction (fun z => by
    unfold m9_rst at h0
    rw [if_pos z] at h0
    exact z h0)
  have hy : m9_wn y (-3) 3 := Classical.byContradiction (fun z => by
    unfold m9_rst at h0
    rw [if_neg (show ¬ ¬ m9_rfr 1 a b = 0 from fun z => z hr0), if_pos z] at h0
    exact absurd h0 (by decide))
  obtain ⟨a1, b1, hab, hb⟩ := q9_rfr0 hr0
  have hp := q9_kP h
  have hN : ∀ k, 9 ≤ k → k9_sc (m9_keep M F) 5 (m9_fl (m9_ps (m9_keep M F) a b y) (m9_keep M F 5) 96) k = m9_keep M F k := fun k hk => k9_sc_ne _ _ (by omega)
  have e77 : m9_steM M F B a b y 77 = M 77 := q9_M77 h hN (by decide) (by decide) (by decide)
  have e76 : m9_steM M F B a b y 76 = M 76 := q9_M77 h hN (by decide) (by decide) (by decide)
  have e : m9_stN (m9_steM M F B a b y) F y a.toNatClampNeg b.toNatClampNeg = k9_sc (m9_save (k9_st (m9_hear (k9_sc (m9_keep M F) 5 (m9_fl (m9_ps (m9_keep M F) a b y) (m9_keep M F 5) 96)) B) 76 5 0) F) 77 (fb_put (M 77) (fun j => (fun _ => y) (a.toNatClampNeg + j)) (288 + a.toNatClampNeg) (b.toNatClampNeg + 1 - a.toNatClampNeg)) := by
    unfold m9_stN
    rw [e77]; rfl
  have hr := q9_mutS h hN (q9_P_45 hp (c := 5) (o := 288) (p := fun _ => y) (Or.inr ⟨rfl, rfl⟩) hab hb (fun s hs => by
    rw [m9_fl_in hs]
    unfold m9_ps
    rw [← a1, ← b1, show m9_keep M F 5 s = M 77 (288 + s) from (hp.1 s hs).2.2.2])) (q9_ok_45 h.2.1 (o := 288) (p := fun _ => y) (Or.inr rfl) hab hb (fun s s1 s2 => q9_side_wn.mp hy))
  rw [e]
  exact ⟨e77, e76, (q9_mutR (B := B) (R := R) hr).1, (q9_mutR (B := B) (R := R) hr).2, hr⟩
/-- settings -/
theorem q9_xSet (a v : Int32) : q9_k3 (m9_xSet a v) = m9_rse a v := by
  unfold m9_xSet m9_rse m9_xSetting
  by_cases c1 : a < 0 ∨ (1 : Int32) < a
  · rw [if_pos c1, if_pos (q9_xNwn.mp c1)]; exact q9_k3o
  · rw [if_neg c1, if_neg (fun z => c1 (q9_xNwn.mpr z))]
    by_cases c2 : v < 0 ∨ (if a = 0 then (3 : Int32) else (8 : Int32)) < v
    · rw [if_pos c2, if_pos (q9_xNwn.mp c2)]; exact q9_k3a
    · rw [if_neg c2, if_neg (fun z => c2 (q9_xNwn.mpr z))]; rfl
theorem q9_set {M : k9_Mem} {B R F U : Nat} (h : q9_rel M B R F U) (a v : Int32) (h0 : m9_rse a v = 0) : m9_setM M F B a v 77 = M 77 ∧ m9_setM M F B a v 76 = M 76 ∧ m9_setM M F B a v 77 (384 + a.toNatClampNeg) = m9_seo (m9_keep M F) a ∧ ∃ B' R', q9_rel (k9_st (m9_save (k9_st (m9_setM M F B a v) 76 5 0) F) 77 (384 + a.toNatClampNeg) v) B' R' (q9_F F) U := by
  have ha : m9_wn a 0 1 := Classical.byContradiction (fun z => by
    unfold m9_rse at h0
    rw [if_pos z] at h0
    exact absurd h0 (by decide))
  have hv : m9_wn v 0 (if a = 0 then (3 : Int32) else (8 : Int32)) := Classical.byContradiction (fun z => by
    unfold m9_rse at h0
    rw [if_neg (show ¬ ¬ m9_wn a 0 1 from fun z => z ha), if_pos z] at h0
    exact absurd h0 (by decide))
  have hp := q9_kP h
  obtain ⟨k1, k2, k3, k4, k5⟩ := h.2.1
  obtain ⟨a1, _, a3⟩ := m9_rng (lo := 0) (hi := 1) (by decide) ha.1 ha.2 (by decide)
  by_cases c : a = 0
  · rw [if_pos c] at hv
    obtain ⟨v1, _, v3⟩ := m9_rng (lo := 0) (hi := 3) (by decide) hv.1 hv.2 (by decide)
    have ea : a.toNatClampNeg = 0 := by rw [c]; rfl
    have em : m9_setM M F B a v = m9_hear (k9_st (m9_keep M F) 1 5 v) v.toNatClampNeg := if_pos c
    have hN : ∀ k, 9 ≤ k → k9_st (m9_keep M F) 1 5 v k = m9_keep M F k := fun k hk => m9_st_ne _ _ _ (by omega)
    have e77 : m9_setM M F B a v 77 = M 77 := by rw [em]; exact q9_M77 h hN (by decide) (by decide) (by decide)
    have e76 : m9_setM M F B a v 76 = M 76 := by rw [em]; exact q9_M77 h hN (by decide) (by decide) (by decide)
    have ne : ∀ j, j ≠ 384 → upd (M 77) 384 v j = M 77 j := fun j hj => m9_upd_ne _ _ hj
    refine ⟨e77, e76, ?_, v.toNatClampNeg, R, ?_⟩
    · unfold m9_seo
      rw [if_pos c, e77, ea]
      exact hp.2.1.1.symm
    · have hP : q9_P (k9_st (m9_keep M F) 1 5 v) 1 (upd (M 77) 384 v) := by
        obtain ⟨h1, h2, h3⟩ := hp
        refine ⟨fun s hs => ?_, ⟨?_, ?_⟩, fun s hs => ?_⟩
        · rw [m9_st_ne _ _ _ (by decide), m9_st_ne _ _ _ (by decide), m9_st_ne _ _ _ (by decide), m9_st_ne _ _ _ (by decide), ne _ (by omega), ne _ (by omega), ne _ (by omega), ne _ (by omega)]; exact h1 s hs
        · rw [m9_st_at, m9_upd_at, m9_upd_at]
        · rw [m9_st_at_ne _ _ (by decide), ne _ (by decide)]; exact h2.2
        · rw [m9_st_ne _ _ _ (by decide), m9_st_ne _ _ _ (by decide), ne _ (by omega), ne _ (by omega)]; exact h3 s hs
      have hK : q9_ok (upd (M 77) 384 v) v.toNatClampNeg R := by
        refine ⟨fun s hs => ?_, ⟨by rw [m9_upd_at]; exact v1, v3⟩, ?_, q9_tok_c k4 (fun j hj => ne j (by omega)), fun s hs => ?_⟩
        · rw [ne _ (by omega), ne _ (by omega), ne _ (by omega), ne _ (by omega)]; exact k1 s hs
        · rw [ne _ (by decide)]; exact k3
        · rw [ne _ (by omega)]; exact k5 s hs
      have hr := q9_mutS h hN hP hK
      have e : k9_st (m9_save (k9_st (m9_setM M F B a v) 76 5 0) F) 77 (384 + a.toNatClampNeg) v = k9_sc (m9_save (k9_st (m9_hear (k9_st (m9_keep M F) 1 5 v) v.toNatClampNeg) 76 5 0) F) 77 (upd (M 77) 384 v) := by
        rw [ea]
        unfold k9_st
        rw [show m9_save (k9_sc (m9_setM M F B a v) 76 (upd (m9_setM M F B a v 76) 5 0)) F 77 = M 77 from by rw [m9_save_ne _ _ (by decide) (by decide), k9_sc_ne _ _ (by decide), e77]]
        rw [em]; rfl
      rw [e]
      exact hr
  · rw [if_neg c] at hv
    obtain ⟨v1, _, v3⟩ := m9_rng (lo := 0) (hi := 8) (by decide) hv.1 hv.2 (by decide)
    have ea : a.toNatClampNeg = 1 := by
      rcases Nat.lt_or_ge a.toNatClampNeg 1 with q | q
      · have : a.toNatClampNeg = 0 := by omega
        rw [this] at a1
        exact absurd a1 c
      · omega
    have em : m9_setM M F B a v = m9_hear (k9_st (m9_keep M F) 1 6 v) B := if_neg c
    have hN : ∀ k, 9 ≤ k → k9_st (m9_keep M F) 1 6 v k = m9_keep M F k := fun k hk => m9_st_ne _ _ _ (by omega)
    have e77 : m9_setM M F B a v 77 = M 77 := by rw [em]; exact q9_M77 h hN (by decide) (by decide) (by decide)
    have e76 : m9_setM M F B a v 76 = M 76 := by rw [em]; exact q9_M77 h hN (by decide) (by decide) (by decide)
    have ne : ∀ j, j ≠ 385 → upd (M 77) 385 v j = M 77 j := fun j hj => m9_upd_ne _ _ hj
    refine ⟨e77, e76, ?_, B, v.toNatClampNeg, ?_⟩
    · unfold m9_seo
      rw [if_neg c, e77, ea]
      exact hp.2.1.2.symm
    · have hP : q9_P (k9_st (m9_keep M F) 1 6 v) 1 (upd (M 77) 385 v) := by
        obtain ⟨h1, h2, h3⟩ := hp
        refine ⟨fun s hs => ?_, ⟨?_, ?_⟩, fun s hs => ?_⟩
        · rw [m9_st_ne _ _ _ (by decide), m9_st_ne _ _ _ (by decide), m9_st_ne _ _ _ (by decide), m9_st_ne _ _ _ (by decide), ne _ (by omega), ne _ (by omega), ne _ (by omega), ne _ (by omega)]; exact h1 s hs
        · rw [m9_st_at_ne _ _ (by decide), ne _ (by decide)]; exact h2.1
        · rw [m9_st_at, m9_upd_at, m9_upd_at]
        · rw [m9_st_ne _ _ _ (by decide), m9_st_ne _ _ _ (by decide), ne _ (by omega), ne _ (by omega)]; exact h3 s hs
      have hK : q9_ok (upd (M 77) 385 v) B v.toNatClampNeg := by
        refine ⟨fun s hs => ?_, ?_, ⟨by rw [m9_upd_at]; exact v1, v3⟩, q9_tok_c k4 (fun j hj => ne j (by omega)), fun s hs => ?_⟩
        · rw [ne _ (by omega), ne _ (by omega), ne _ (by omega), ne _ (by omega)]; exact k1 s hs
        · rw [ne _ (by decide)]; exact k2
        · rw [ne _ (by omega)]; exact k5 s hs
      have hr := q9_mutS h hN hP hK
      have e : k9_st (m9_save (k9_st (m9_setM M F B a v) 76 5 0) F) 77 (384 + a.toNatClampNeg) v = k9_sc (m9_save (k9_st (m9_hear (k9_st (m9_keep M F) 1 6 v) B) 76 5 0) F) 77 (upd (M 77) 385 v) := by
        rw [ea]
        unfold k9_st
        rw [show m9_save (k9_sc (m9_setM M F B a v) 76 (upd (m9_setM M F B a v 76) 5 0)) F 77 = M 77 from by rw [m9_save_ne _ _ (by decide) (by decide), k9_sc_ne _ _ (by decide), e77]]
        rw [em]; rfl
      rw [e]
      exact hr
