/-! The reference: what it does. -/
theorem m9_wn_rng {a : Int32} (h : m9_wn a 0 95) : a = nI a.toNatClampNeg ∧ a.toNatClampNeg < 96 := by
  have h2 := m9_rng (lo := 0) (hi := 95) (by decide) h.1 h.2 (by decide)
  exact ⟨h2.1, by omega⟩
theorem m9_rfr_0 {z a b : Int32} (h : m9_rfr z a b = 0) : ¬ z = 0 ∧ m9_wn a 0 95 ∧ m9_wn b 0 95 ∧ ¬ b < a := by
  unfold m9_rfr at h
  by_cases c : z = 0 ∨ ¬ m9_wn a 0 95 ∨ ¬ m9_wn b 0 95
  · rw [if_pos c] at h; exact absurd h (by decide)
  · rw [if_neg c] at h
    by_cases c2 : b < a
    · rw [if_pos c2] at h; exact absurd h (by decide)
    · exact ⟨fun q => c (Or.inl q), Classical.byContradiction (fun q => c (Or.inr (Or.inl q))), Classical.byContradiction (fun q => c (Or.inr (Or.inr q))), c2⟩
theorem m9_rfr_le (z a b : Int32) : m9_rfr z a b ≤ 0 ↔ m9_rfr z a b = 0 := by
  unfold m9_rfr
  by_cases c : z = 0 ∨ ¬ m9_wn a 0 95 ∨ ¬ m9_wn b 0 95
  · rw [if_pos c]; decide
  · rw [if_neg c]
    by_cases c2 : b < a
    · rw [if_pos c2]; decide
    · rw [if_neg c2]; decide
/-- two steps, the second not before the first -/
theorem m9_two_n {a b : Int32} (h1 : m9_wn a 0 95) (h2 : m9_wn b 0 95) (h3 : ¬ b < a) : a.toNatClampNeg ≤ b.toNatClampNeg := by
  obtain ⟨e1, l1⟩ := m9_wn_rng h1
  obtain ⟨e2, l2⟩ := m9_wn_rng h2
  rcases Nat.lt_or_ge b.toNatClampNeg a.toNatClampNeg with q | q
  · rw [e1, e2] at h3
    exact absurd ((m9_lt (by omega) (by omega)).mpr q) h3
  · exact q
def m9_pz (Z : Nat → Int32) (t : Int32) (f g : Nat) : Nat → Int32 := fb_put Z (fun j => Z (96 + f + j) ||| m9_tk t) (96 + f) (g + 1 - f)
def m9_pzv (Z : Nat → Int32) (t : Int32) (f g : Nat) : Int32 := m9_sum (fun j => (m9_zo Z (f + j) >>> (t &&& 31)) &&& 1) (g + 1 - f)
def m9_rpV (M : k9_Mem) (t a b : Int32) : Int32 := if m9_rfr (m9_bi (m9_wn t 0 25)) a b = 0 then m9_pzv (M 77) t a.toNatClampNeg b.toNatClampNeg else 0
def m9_rpM (M : k9_Mem) (F : Nat) (t a b : Int32) : k9_Mem := if m9_rfr (m9_bi (m9_wn t 0 25)) a b = 0 then k9_sc (m9_save (k9_st M 76 5 0) F) 77 (m9_pz (M 77) t a.toNatClampNeg b.toNatClampNeg) else k9_st M 76 5 (m9_rfr (m9_bi (m9_wn t 0 25)) a b)
theorem m9_zo_put (Z g : Nat → Int32) {f k : Nat} (hk : f + k < 96) : m9_zo (fb_put Z g (96 + f) k) (f + k) = m9_zo Z (f + k) := by
  unfold m9_zo
  rw [fb_put_out (Or.inl (by omega)), fb_put_out (Or.inr (by omega))]
theorem ct_X7_patch (l : Launch) (G : k9_G) (M : k9_Mem) {F : Nat} (hF : F ≤ 6) (hM : M 76 1 = nI F) (t a b : Int32) : k9_Ci l yX7_patch wsX7_patch rm_X7_patch G M [.ref (k9_ga G 76), .int t, .int a, .int b] (m9_rpV M t a b) (m9_rpM M F t a b) := by
  refine k9_metI (own := RX7) (by decide +kernel) rfl rfl (Nat.le_of_ble_eq_true rfl) rfl ?_
  intro p e s m args below meth c A Q X HR
  obtain ⟨r, hr⟩ : ∃ r, r = m9_rfr (m9_bi (m9_wn t 0 25)) a b := ⟨_, rfl⟩
  have hle := m9_rfr_le (m9_bi (m9_wn t 0 25)) a b
  have hsv : m9_save (k9_st M 76 5 0) F 77 = M 77 := by rw [m9_save_ne _ _ (by decide) (by decide), m9_st_ne _ _ _ (by decide)]
  rw [← hr] at hle
  refine bk_X7_patch_0 (mv3 := m9_save (k9_st M 76 5 r) F) X (ct_X7_isTrack l G M t) (hr ▸ ct_X7_refusedRange l G M _ a b) (fun c1 => ct_X7_save l G _ hF (by rw [m9_st_at_ne _ _ (by decide), hM])) (fun c1 => ?_) (fun c1 => ?_)
  · have h0 := hle.mp c1
    rw [hr] at h0
    obtain ⟨-, ha, hb, hab⟩ := m9_rfr_0 h0
    have hfg := m9_two_n ha hb hab
    obtain ⟨e1, l1⟩ := m9_wn_rng ha
    obtain ⟨e2, l2⟩ := m9_wn_rng hb
    obtain ⟨f, hf⟩ : ∃ f, f = a.toNatClampNeg := ⟨_, rfl⟩
    obtain ⟨g, hg⟩ : ∃ g, g = b.toNatClampNeg := ⟨_, rfl⟩
    rw [m9_rpV, m9_rpM, if_pos h0, if_pos h0, ← hf, ← hg] at HR
    rw [← hf] at e1 l1 hfg
    rw [← hg] at e2 l2 hfg
    rw [hr, h0, e1, e2]
    obtain ⟨N, hN⟩ : ∃ N, N = m9_save (k9_st M 76 5 0) F := ⟨_, rfl⟩
    rw [← hN] at HR hsv ⊢
    have loop : ∀ j, j ≤ g + 1 - f → k9_U p l e rm_X7_patch s m args below meth c Q A G 6 0 0 (k9_sc N 77 (fb_put (M 77) (fun j => M 77 (96 + f + j) ||| m9_tk t) (96 + f) j)) 32 [(0, .ref (k9_ga G 76)), (1, .int t), (3, .int (nI g)), (4, .int (m9_sum (fun j => (m9_zo (M 77) (f + j) >>> (t &&& 31)) &&& 1) j)), (5, .int (nI (f + j)))] [] := by
      refine m9_down (g + 1 - f) (fun j hj next => ?_)
      have hlt : nI g < nI (f + j) ↔ g < f + j := m9_lt (by omega) (by omega)
      have e3 : (96 : Int32) + nI (f + j) = nI (96 + f + j) := by rw [show 96 + f + j = 96 + (f + j) by omega]; exact nI_add 96 (f + j)
      have e4 : (nI (96 + f + j)).toNatClampNeg = 96 + f + j := m9_cl (by omega)
      have go : ¬ nI g < nI (f + j) → f + j ≤ g := fun c2 => by
        rcases Nat.lt_or_ge g (f + j) with q | q
        · exact absurd (hlt.mpr q) c2
        · exact q
      refine bk_X7_patch_32 (rv1 := m9_zo (M 77) (f + j)) X (fun c2 => ?_) (fun c2 => ?_) (fun c2 => ?_) (fun c2 => ?_)
      · have : j = g + 1 - f := by have := hlt.mp c2; omega
        subst this
        exact HR 77 [] dX7_patch_77
      · have c3 := go c2
        have h9 := ct_X7_openAt l G (k9_sc N 77 (fb_put (M 77) (fun j => M 77 (96 + f + j) ||| m9_tk t) (96 + f) j)) (i := f + j) (by omega)
        rw [k9_sc_eq, m9_zo_put _ _ (by omega)] at h9
        exact h9
      · have c3 := go c2
        rw [e3]; exact m9_in (by omega) (by decide)
      · have c3 := go c2
        have h9 := next (by omega)
        rw [← fb_put_succ] at h9
        rw [e3, e4, m9_st_sc, k9_sc_eq, fb_put_out (Or.inr (Nat.le_refl _)), nI_1]
        exact h9
    have h9 := loop 0 (by omega)
    rw [fb_put_0, m9_sc_same hsv] at h9
    exact h9
  · have h0 : ¬ m9_rfr (m9_bi (m9_wn t 0 25)) a b = 0 := fun z => c1 (hle.mpr (hr.trans z))
    have h9 := HR 21 [] dX7_patch_21
    rw [m9_rpV, m9_rpM, if_neg h0, if_neg h0, ← hr] at h9
    exact h9
def m9_lz (Z : Nat → Int32) (t : Int32) (f g : Nat) : Nat → Int32 := fb_put Z (fun j => Z (96 + f + j) &&& (m9_tk t ^^^ (-1))) (96 + f) (g + 1 - f)
def m9_lzv (Z : Nat → Int32) (t : Int32) (f g : Nat) : Int32 := m9_sum (fun j => (Z (96 + f + j) >>> (t &&& 31)) &&& 1) (g + 1 - f)
def m9_rlV (M : k9_Mem) (t a b : Int32) : Int32 := if m9_rfr (m9_bi (m9_wn t 0 25)) a b = 0 then m9_lzv (M 77) t a.toNatClampNeg b.toNatClampNeg else 0
def m9_rlM (M : k9_Mem) (F : Nat) (t a b : Int32) : k9_Mem := if m9_rfr (m9_bi (m9_wn t 0 25)) a b = 0 then k9_sc (m9_save (k9_st M 76 5 0) F) 77 (m9_lz (M 77) t a.toNatClampNeg b.toNatClampNeg) else k9_st M 76 5 (m9_rfr (m9_bi (m9_wn t 0 25)) a b)
theorem ct_X7_peel (l : Launch) (G : k9_G) (M : k9_Mem) {F : Nat} (hF : F ≤ 6) (hM : M 76 1 = nI F) (t a b : Int32) : k9_Ci l yX7_peel wsX7_peel rm_X7_peel G M [.ref (k9_ga G 76), .int t, .int a, .int b] (m9_rlV M t a b) (m9_rlM M F t a b) := by
  refine k9_metI (own := RX7) (by decide +kernel) rfl rfl (Nat.le_of_ble_eq_true rfl) rfl ?_
  intro p e s m args below meth c A Q X HR
  obtain ⟨r, hr⟩ : ∃ r, r = m9_rfr (m9_bi (m9_wn t 0 25)) a b := ⟨_, rfl⟩
  have hle := m9_rfr_le (m9_bi (m9_wn t 0 25)) a b
  have hsv : m9_save (k9_st M 76 5 0) F 77 = M 77 := by rw [m9_save_ne _ _ (by decide) (by decide), m9_st_ne _ _ _ (by decide)]
  rw [← hr] at hle
  refine bk_X7_peel_0 (mv3 := m9_save (k9_st M 76 5 r) F) X (ct_X7_isTrack l G M t) (hr ▸ ct_X7_refusedRange l G M _ a b) (fun c1 => ct_X7_save l G _ hF (by rw [m9_st_at_ne _ _ (by decide), hM])) (fun c1 => ?_) (fun c1 => ?_)
  · have h0 := hle.mp c1
    rw [hr] at h0
    obtain ⟨-, ha, hb, hab⟩ := m9_rfr_0 h0
    have hfg := m9_two_n ha hb hab
    obtain ⟨e1, l1⟩ := m9_wn_rng ha
    obtain ⟨e2, l2⟩ := m9_wn_rng hb
    obtain ⟨f, hf⟩ : ∃ f, f = a.toNatClampNeg := ⟨_, rfl⟩
    obtain ⟨g, hg⟩ : ∃ g, g = b.toNatClampNeg := ⟨_, rfl⟩
    rw [m9_rlV, m9_rlM, if_pos h0, if_pos h0, ← hf, ← hg] at HR
    rw [← hf] at e1 l1 hfg
    rw [← hg] at e2 l2 hfg
    rw [hr, h0, e1, e2]
    obtain ⟨N, hN⟩ : ∃ N, N = m9_save (k9_st M 76 5 0) F := ⟨_, rfl⟩
    rw [← hN] at HR hsv ⊢
    have loop : ∀ j, j ≤ g + 1 - f → k9_U p l e rm_X7_peel s m args below meth c Q A G 6 0 0 (k9_sc N 77 (fb_put (M 77) (fun j => M 77 (96 + f + j) &&& (m9_tk t ^^^ (-1))) (96 + f) j)) 32 [(0, .ref (k9_ga G 76)), (1, .int t), (3, .int (nI g)), (4, .int (m9_sum (fun j => (M 77 (96 + f + j) >>> (t &&& 31)) &&& 1) j)), (5, .int (nI (f + j)))] [] := by
      refine m9_down (g + 1 - f) (fun j hj next => ?_)
      have hlt : nI g < nI (f + j) ↔ g < f + j := m9_lt (by omega) (by omega)
      have e3 : (96 : Int32) + nI (f + j) = nI (96 + f + j) := by rw [show 96 + f + j = 96 + (f + j) by omega]; exact nI_add 96 (f + j)
      have e4 : (nI (96 + f + j)).toNatClampNeg = 96 + f + j := m9_cl (by omega)
      have go : ¬ nI g < nI (f + j) → f + j ≤ g := fun c2 => by
        rcases Nat.lt_or_ge g (f + j) with q | q
        · exact absurd (hlt.mpr q) c2
        · exact q
      refine bk_X7_peel_32 X (fun c2 => ?_) (fun c2 => ?_) (fun c2 => ?_)
      · have : j = g + 1 - f := by have := hlt.mp c2; omega
        subst this
        exact HR 83 [] dX7_peel_83
      · have c3 := go c2
        rw [e3]; exact m9_in (by omega) (by decide)
      · have c3 := go c2
        have h9 := next (by omega)
        rw [← fb_put_succ] at h9
        rw [e3, e4, m9_st_sc, k9_sc_eq, fb_put_out (Or.inr (Nat.le_refl _)), nI_1]
        exact h9
    have h9 := loop 0 (by omega)
    rw [fb_put_0, m9_sc_same hsv] at h9
    exact h9
  · have h0 : ¬ m9_rfr (m9_bi (m9_wn t 0 25)) a b = 0 := fun z => c1 (hle.mpr (hr.trans z))
    have h9 := HR 21 [] dX7_peel_21
    rw [m9_rlV, m9_rlM, if_neg h0, if_neg h0, ← hr] at h9
    exact h9
/-- punch: what it refuses -/
def m9_rpu (a b n : Int32) : Int32 := if ¬ m9_wn a (-1) 19 ∨ ¬ m9_wn b 0 95 then 1 else if ¬ m9_wn n 1 96 then 2 else if (96 : Int32) < b + n then 3 else 0
def m9_ruV (M : k9_Mem) (B : Nat) (a b n : Int32) : Int32 := if m9_rpu a b n = 0 then m9_zn (M 77) (m9_tk (m9_tkn a)) (m9_pe b.toNatClampNeg n.toNatClampNeg B) else 0
def m9_ruM (M : k9_Mem) (F B : Nat) (a b n : Int32) : k9_Mem := if m9_rpu a b n = 0 then k9_sc (m9_save (k9_st M 76 5 0) F) 77 (m9_zc (M 77) (m9_tk (m9_tkn a)) (m9_pe b.toNatClampNeg n.toNatClampNeg B)) else k9_st M 76 5 (m9_rpu a b n)
theorem ct_X7_punch (l : Launch) (G : k9_G) (M : k9_Mem) {F B : Nat} (hF : F ≤ 6) (hM : M 76 1 = nI F) (hB : B < 1000) (hM2 : M 77 384 = nI B) (a b n : Int32) : k9_Ci l yX7_punch wsX7_punch rm_X7_punch G M [.ref (k9_ga G 76), .int a, .int b, .int n] (m9_ruV M B a b n) (m9_ruM M F B a b n) := by
  refine k9_metI (own := RX7) (by decide +kernel) rfl rfl (Nat.le_of_ble_eq_true rfl) rfl ?_
  intro p e s m args below meth c A Q X HR
  have hsv : m9_save (k9_st M 76 5 0) F 77 = M 77 := by rw [m9_save_ne _ _ (by decide) (by decide), m9_st_ne _ _ _ (by decide)]
  have no : ∀ z, m9_rpu a b n = z → ¬ z = 0 → k9_U p l e rm_X7_punch s m args below meth c Q A G 4 0 0 (k9_st M 76 5 z) 60 [] [.int 0] := fun z hz h0 => by
    have h9 := HR 60 [] dX7_punch_60
    rw [m9_ruV, m9_ruM, hz, if_neg h0, if_neg h0] at h9
    exact h9
  have x0 : m9_wn a (-1) 19 → m9_wn b 0 95 → m9_rpu a b n = if ¬ m9_wn n 1 96 then 2 else if (96 : Int32) < b + n then 3 else 0 := fun h1 h2 => by rw [m9_rpu, if_neg (fun z => z.elim (fun z => z h1) (fun z => z h2))]
  refine bk_X7_punch_0 (mv4 := m9_save (k9_st M 76 5 0) F) (rv5 := m9_zn (M 77) (m9_tk (m9_tkn a)) (m9_pe b.toNatClampNeg n.toNatClampNeg B)) (mv5 := k9_sc (m9_save (k9_st M 76 5 0) F) 77 (m9_zc (M 77) (m9_tk (m9_tkn a)) (m9_pe b.toNatClampNeg n.toNatClampNeg B))) X (ct_X7_within l G M _ _ _) (fun c1 => ?_) (fun c1 => ct_X7_isStep l G M b) (fun c1 c2 => ct_X7_within l G M _ _ _) (fun c1 c2 c3 c4 => ct_X7_save l G _ hF (by rw [m9_st_at_ne _ _ (by decide), hM])) (fun c1 c2 c3 c4 => ?_) (fun c1 c2 c3 c4 => ?_) (fun c1 c2 c3 c4 => ?_) (fun c1 c2 c3 => ?_) (fun c1 c2 => ?_)
  · exact no 1 (by rw [m9_rpu, if_pos (Or.inl (m9_bi_0 c1))]) (by decide)
  · obtain ⟨e1, l1⟩ := m9_wn_rng (m9_bi_1 c2)
    have hn := m9_bi_1 c3
    have h2 := m9_rng (lo := 1) (hi := 96) (by decide) hn.1 hn.2 (by decide)
    have hf : b.toNatClampNeg + n.toNatClampNeg ≤ 96 := by
      have e : b + n = nI (b.toNatClampNeg + n.toNatClampNeg) := by
        have q := nI_add b.toNatClampNeg n.toNatClampNeg
        rw [← e1, ← h2.1] at q
        exact q
      rw [e] at c4
      exact (m9_le (b := 96) (by omega) (by decide)).mp c4
    have h9 := ct_X7_punchChain l G (m9_save (k9_st M 76 5 0) F) a (f := b.toNatClampNeg) (n := n.toNatClampNeg) h2.2.1 hf hB (by rw [hsv, hM2])
    rw [hsv, ← e1, ← h2.1] at h9
    exact h9
  · have hz : m9_rpu a b n = 0 := by rw [x0 (m9_bi_1 c1) (m9_bi_1 c2), if_neg (fun z => z (m9_bi_1 c3)), if_neg (m9_le_n c4)]
    have h9 := HR 72 [] dX7_punch_72
    rw [m9_ruV, m9_ruM, if_pos hz, if_pos hz] at h9
    exact h9
  · exact no 3 (by rw [x0 (m9_bi_1 c1) (m9_bi_1 c2), if_neg (fun z => z (m9_bi_1 c3)), if_pos (m9_nle c4)]) (by decide)
  · exact no 2 (by rw [x0 (m9_bi_1 c1) (m9_bi_1 c2), if_pos (m9_bi_0 c3)]) (by decide)
  · exact no 1 (by rw [m9_rpu, if_pos (Or.inr (m9_bi_0 c2))]) (by decide)
