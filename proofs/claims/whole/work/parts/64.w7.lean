/-! The reference: what it does (shift, tear, steer, set, learn, append, undo). -/
abbrev m9_csk (Z : Nat → Int32) (y : Int32) (i k : Nat) : Prop := ((Z i ||| Z (96 + i)) >>> (nI k &&& 31)) &&& 1 = 0 ∨ m9_wn (nI k + y) 0 25
abbrev m9_csW (Z : Nat → Int32) (y : Int32) : Prop := ∀ i, i < 96 → ∀ k, k < 26 → m9_csk Z y i k
theorem ct_X7_canShift (l : Launch) (G : k9_G) (M : k9_Mem) (y : Int32) [Decidable (m9_csW (M 77) y)] : k9_Ci l yX7_canShift wsX7_canShift rm_X7_canShift G M [.ref (k9_ga G 76), .int y] (m9_bi (m9_csW (M 77) y)) M := by
  refine k9_metI (own := RX7) (by decide +kernel) rfl rfl (Nat.le_of_ble_eq_true rfl) m9_nb ?_
  intro p e s m args below meth c A Q X HR
  have inner : ∀ i, i < 96 → (∀ i', i' < i → ∀ k, k < 26 → m9_csk (M 77) y i' k) ∨ ¬ m9_csW (M 77) y → (∀ x, (x = 1 ∧ (∀ i', i' < i + 1 → ∀ k, k < 26 → m9_csk (M 77) y i' k)) ∨ (x = 0 ∧ ¬ m9_csW (M 77) y) → k9_U p l e rm_X7_canShift s m args below meth c Q A G 6 0 0 M 4 [(0, .ref (k9_ga G 76)), (1, .int y), (2, .int x), (3, .int (nI (i + 1)))] []) →
      ∀ k, k ≤ 26 → ∀ x, (x = 1 ∧ (∀ i', i' < i → ∀ k, k < 26 → m9_csk (M 77) y i' k) ∧ ∀ k', k' < k → m9_csk (M 77) y i k') ∨ (x = 0 ∧ ¬ m9_csW (M 77) y) → k9_U p l e rm_X7_canShift s m args below meth c Q A G 6 0 0 M 33 [(0, .ref (k9_ga G 76)), (1, .int y), (2, .int x), (3, .int (nI i)), (4, .int (M 77 i ||| M 77 (96 + i))), (5, .int (nI k))] [] := by
    intro i hi _ out
    refine m9_down 26 (fun k hk next x hx => ?_)
    refine bk_X7_canShift_33 X (fun c1 => ?_) (fun c1 c2 => ?_) (fun c1 c2 c3 => ?_) (fun c1 c2 c3 => ct_X7_isTrack l G M _) (fun c1 c2 c3 c4 => ?_) (fun c1 c2 c3 c4 => ?_)
    · have hk2 := m9_ex (N := 26) (by decide) hk c1
      subst hk2
      rw [nI_1]
      refine out x ?_
      rcases hx with ⟨h1, h2, h3⟩ | h1
      · exact Or.inl ⟨h1, m9_al_s h2 h3⟩
      · exact Or.inr h1
    · rw [nI_1]
      refine next (m9_go (N := 26) (by decide) hk c1) 0 (Or.inr ⟨rfl, ?_⟩)
      rcases hx with h | h
      · exact absurd (h.1.symm.trans c2) (by decide)
      · exact h.2
    · rw [nI_1]
      refine next (m9_go (N := 26) (by decide) hk c1) 1 (Or.inl ⟨rfl, ?_⟩)
      rcases hx with h | h
      · exact ⟨h.2.1, m9_al_s h.2.2 (Or.inl c3)⟩
      · exact absurd h.1 c2
    · rw [nI_1]
      have h9 := m9_go (N := 26) (by decide) hk c1
      refine next h9 0 (Or.inr ⟨rfl, fun w => ?_⟩)
      rcases w i hi k h9 with q | q
      · exact c3 q
      · exact m9_bi_0 c4 q
    · rw [nI_1]
      refine next (m9_go (N := 26) (by decide) hk c1) 1 (Or.inl ⟨rfl, ?_⟩)
      rcases hx with h | h
      · exact ⟨h.2.1, m9_al_s h.2.2 (Or.inr (m9_bi_1 c4))⟩
      · exact absurd h.1 c2
  have loop : ∀ i, i ≤ 96 → ∀ x, (x = 1 ∧ (∀ i', i' < i → ∀ k, k < 26 → m9_csk (M 77) y i' k)) ∨ (x = 0 ∧ ¬ m9_csW (M 77) y) → k9_U p l e rm_X7_canShift s m args below meth c Q A G 6 0 0 M 4 [(0, .ref (k9_ga G 76)), (1, .int y), (2, .int x), (3, .int (nI i))] [] := by
    refine m9_down 96 (fun i hi next x hx => ?_)
    have e0 : (0 : Int32) + nI i = nI i := by rw [show (0 : Int32) = nI 0 from rfl, nI_add, Nat.zero_add]
    have e1 : (96 : Int32) + nI i = nI (96 + i) := nI_add 96 i
    have e2 : (nI i).toNatClampNeg = i := m9_cl (by omega)
    have e3 : (nI (96 + i)).toNatClampNeg = 96 + i := m9_cl (by omega)
    refine bk_X7_canShift_4 X (fun c1 => ?_) (fun c1 => ?_) (fun c1 => ?_) (fun c1 => ?_)
    · have hi2 := m9_ex (N := 96) (by decide) hi c1
      subst hi2
      rcases hx with h | h
      · exact k9_eq rfl (by rw [h.1, m9_bi_t h.2]) (HR 83 [] dX7_canShift_83)
      · exact k9_eq rfl (by rw [h.1, m9_bi_f h.2]) (HR 83 [] dX7_canShift_83)
    · have := m9_go (N := 96) (by decide) hi c1
      rw [e0]; exact m9_in (by omega) (by decide)
    · have := m9_go (N := 96) (by decide) hi c1
      rw [e1]; exact m9_in (by omega) (by decide)
    · have h9 := m9_go (N := 96) (by decide) hi c1
      rw [e0, e1, e2, e3]
      refine inner i h9 ?_ (next h9) 0 (by decide) x ?_
      · rcases hx with h | h
        · exact Or.inl h.2
        · exact Or.inr h.2
      · rcases hx with h | h
        · exact Or.inl ⟨h.1, h.2, fun k' hk' => absurd hk' (Nat.not_lt_zero k')⟩
        · exact Or.inr h
  exact bk_X7_canShift_0 X (loop 0 (by decide) 1 (Or.inl ⟨rfl, fun i' hi' => absurd hi' (Nat.not_lt_zero i')⟩))
def m9_hz (Z : Nat → Int32) (y : Int32) (i : Nat) : Nat → Int32 := fun j => if j < i ∨ (96 ≤ j ∧ j < 96 + i) then m9_mv (Z j) y else Z j
def m9_rsh (Z : Nat → Int32) (y : Int32) [Decidable (m9_csW Z y)] : Int32 := if ¬ m9_wn y (-3) 3 then 1 else if m9_csW Z y then 0 else 2
def m9_shN (M : k9_Mem) (F : Nat) (y : Int32) : k9_Mem := k9_sc (m9_save (k9_st M 76 5 0) F) 77 (m9_hz (M 77) y 96)
theorem m9_hz_s (Z : Nat → Int32) (y : Int32) {i : Nat} (hi : i < 96) : upd (upd (m9_hz Z y i) i (m9_mv (Z i) y)) (96 + i) (m9_mv (Z (96 + i)) y) = m9_hz Z y (i + 1) := by
  funext j
  unfold m9_hz
  by_cases c1 : j = 96 + i
  · subst c1; rw [m9_upd_at, if_pos (Or.inr ⟨by omega, by omega⟩)]
  · rw [m9_upd_ne _ _ c1]
    by_cases c2 : j = i
    · subst c2; rw [m9_upd_at, if_pos (Or.inl (by omega))]
    · rw [m9_upd_ne _ _ c2]
      by_cases c3 : j < i ∨ (96 ≤ j ∧ j < 96 + i)
      · rw [if_pos c3, if_pos (by omega)]
      · rw [if_neg c3, if_neg (by omega)]
theorem ct_X7_shift (l : Launch) (G : k9_G) (M : k9_Mem) {F B C : Nat} (hF : F ≤ 6) (hM : M 76 1 = nI F) (hB : B < 1000) (hM2 : M 77 384 = nI B) (y : Int32) [Decidable (m9_csW (M 77) y)] (H : m9_rsh (M 77) y = 0 → m9_lays (m9_y2 (m9_shN M F y) B 21) ∧ m9_laid (m9_lay (m9_shN M F y) B) C) : k9_Ci l yX7_shift wsX7_shift rm_X7_shift G M [.ref (k9_ga G 76), .int y] (if m9_rsh (M 77) y = 0 then m9_rig (m9_lay (m9_shN M F y) B) C else 0) (if m9_rsh (M 77) y = 0 then m9_lay (m9_shN M F y) B else k9_st M 76 5 (m9_rsh (M 77) y)) := by
  refine k9_metI (own := RX7) (by decide +kernel) rfl rfl (Nat.le_of_ble_eq_true rfl) rfl ?_
  intro p e s m args below meth c A Q X HR
  have hsv : m9_save (k9_st M 76 5 0) F 77 = M 77 := by rw [m9_save_ne _ _ (by decide) (by decide), m9_st_ne _ _ _ (by decide)]
  have no : ∀ z, m9_rsh (M 77) y = z → ¬ z = 0 → k9_U p l e rm_X7_shift s m args below meth c Q A G 3 0 0 (k9_st M 76 5 z) 36 [] [.int 0] := fun z hz h0 => by
    have h9 := HR 36 [] dX7_shift_36
    rw [hz, if_neg h0, if_neg h0] at h9
    exact h9
  refine bk_X7_shift_0 (mv3 := m9_save (k9_st M 76 5 0) F) X (ct_X7_isSide l G M y) (fun c1 => ct_X7_canShift l G M y) (fun c1 c2 => no 2 (by rw [m9_rsh, if_neg (fun z => z (m9_bi_1 c1)), if_neg (m9_bi_0 c2)]) (by decide)) (fun c1 c2 => ct_X7_save l G _ hF (by rw [m9_st_at_ne _ _ (by decide), hM])) (fun c1 c2 => ?_) (fun c1 => no 1 (by rw [m9_rsh, if_pos (m9_bi_0 c1)]) (by decide))
  have h0 : m9_rsh (M 77) y = 0 := by rw [m9_rsh, if_neg (fun z => z (m9_bi_1 c1)), if_pos (m9_bi_1 c2)]
  rw [if_pos h0, if_pos h0] at HR
  obtain ⟨Hl, Hd⟩ := H h0
  obtain ⟨N, hN⟩ : ∃ N, N = m9_save (k9_st M 76 5 0) F := ⟨_, rfl⟩
  rw [← hN] at hsv ⊢
  have hS : m9_shN M F y = k9_sc N 77 (m9_hz (M 77) y 96) := by rw [hN]; rfl
  have loop : ∀ i, i ≤ 96 → k9_U p l e rm_X7_shift s m args below meth c Q A G 3 0 0 (k9_sc N 77 (m9_hz (M 77) y i)) 43 [(0, .ref (k9_ga G 76)), (1, .int y), (2, .int (nI i))] [] := by
    refine m9_down 96 (fun i hi next => ?_)
    have e0 : (0 : Int32) + nI i = nI i := by rw [show (0 : Int32) = nI 0 from rfl, nI_add, Nat.zero_add]
    have e1 : (96 : Int32) + nI i = nI (96 + i) := nI_add 96 i
    have e2 : (nI i).toNatClampNeg = i := m9_cl (by omega)
    have e3 : (nI (96 + i)).toNatClampNeg = 96 + i := m9_cl (by omega)
    have r1 : i < 96 → k9_sc N 77 (m9_hz (M 77) y i) 77 i = M 77 i := fun h => by rw [k9_sc_eq, m9_hz, if_neg (by omega)]
    have r2 : i < 96 → k9_st (k9_sc N 77 (m9_hz (M 77) y i)) 77 i (m9_mv (M 77 i) y) 77 (96 + i) = M 77 (96 + i) := fun h => by
      rw [m9_st_at_ne _ _ (by omega), k9_sc_eq, m9_hz, if_neg (by omega)]
    refine bk_X7_shift_43 (rv1 := m9_rig (m9_lay (m9_shN M F y) B) C) (mv1 := m9_lay (m9_shN M F y) B) (rv2 := m9_mv (M 77 i) y) (rv3 := m9_mv (M 77 (96 + i)) y) X (fun c3 => ?_) (fun c3 => ?_) (fun c3 => ?_) (fun c3 => ?_) (fun c3 => ?_) (fun c3 => ?_) (fun c3 => ?_)
    · have hi2 := m9_ex (N := 96) (by decide) hi c3
      subst hi2
      rw [← hS]
      exact ct_X7_rightsNow l G _ hB (by rw [hS, k9_sc_eq, m9_hz, if_neg (by decide), hM2]) Hl Hd
    · exact HR 101 [] dX7_shift_101
    · have := m9_go (N := 96) (by decide) hi c3
      rw [e0]; exact m9_in (by omega) (by decide)
    · rw [e0, e2, r1 (m9_go (N := 96) (by decide) hi c3)]; exact ct_X7_shifted l G _ _ _
    · have := m9_go (N := 96) (by decide) hi c3
      rw [e1]; exact m9_in (by omega) (by decide)
    · rw [e0, e1, e2, e3, r2 (m9_go (N := 96) (by decide) hi c3)]; exact ct_X7_shifted l G _ _ _
    · have h9 := next (m9_go (N := 96) (by decide) hi c3)
      rw [← m9_hz_s (M 77) y (m9_go (N := 96) (by decide) hi c3)] at h9
      rw [e0, e1, e2, e3, m9_st_sc, m9_st_sc, nI_1]
      exact h9
  have h9 := loop 0 (by decide)
  have ez : m9_hz (M 77) y 0 = N 77 := by
    rw [hsv]; funext j; unfold m9_hz; exact if_neg (by omega)
  rw [ez, m9_sc_same rfl] at h9
  exact h9
abbrev m9_ctW (Z : Nat → Int32) (y : Int32) (f g : Nat) : Prop := ∀ j, f ≤ j → j ≤ g → m9_wn (Z (192 + j) + y) (-3) 3
theorem ct_X7_canTear (l : Launch) (G : k9_G) (M : k9_Mem) (y : Int32) {f g : Nat} (hfg : f ≤ g) (hg : g < 96) [Decidable (m9_ctW (M 77) y f g)] : k9_Ci l yX7_canTear wsX7_canTear rm_X7_canTear G M [.ref (k9_ga G 76), .int (nI f), .int (nI g), .int y] (m9_bi (m9_ctW (M 77) y f g)) M := by
  refine k9_metI (own := RX7) (by decide +kernel) rfl rfl (Nat.le_of_ble_eq_true rfl) m9_nb ?_
  intro p e s m args below meth c A Q X HR
  have loop : ∀ j, j ≤ g + 1 - f → ∀ x, (x = 1 ∧ ∀ i, f ≤ i → i < f + j → m9_wn (M 77 (192 + i) + y) (-3) 3) ∨ (x = 0 ∧ ¬ m9_ctW (M 77) y f g) → k9_U p l e rm_X7_canTear s m args below meth c Q A G 6 0 0 M 6 [(0, .ref (k9_ga G 76)), (2, .int (nI g)), (3, .int y), (4, .int x), (5, .int (nI (f + j)))] [] := by
    refine m9_down (g + 1 - f) (fun j hj next x hx => ?_)
    have hlt : nI g < nI (f + j) ↔ g < f + j := m9_lt (by omega) (by omega)
    have e1 : (192 : Int32) + nI (f + j) = nI (192 + (f + j)) := nI_add 192 (f + j)
    have e3 : (nI (192 + (f + j))).toNatClampNeg = 192 + (f + j) := m9_cl (by omega)
    have go : ¬ nI g < nI (f + j) → f + j ≤ g := fun c2 => by
      rcases Nat.lt_or_ge g (f + j) with q | q
      · exact absurd (hlt.mpr q) c2
      · exact q
    refine bk_X7_canTear_6 X (fun c1 => ?_) (fun c1 c2 => ?_) (fun c1 c2 => ?_) (fun c1 c2 => ct_X7_isSide l G M _) (fun c1 c2 c3 => ?_) (fun c1 c2 c3 => ?_)
    · have h2 := hlt.mp c1
      rcases hx with h | h
      · exact k9_eq rfl (by rw [h.1, m9_bi_t (fun i h3 h4 => h.2 i h3 (by omega))]) (HR 51 [] dX7_canTear_51)
      · exact k9_eq rfl (by rw [h.1, m9_bi_f h.2]) (HR 51 [] dX7_canTear_51)
    · have h9 := go c1
      rw [nI_1]
      refine next (by omega) 0 (Or.inr ⟨rfl, ?_⟩)
      rcases hx with h | h
      · exact absurd (h.1.symm.trans c2) (by decide)
      · exact h.2
    · have h9 := go c1
      rw [e1]; exact m9_in (by omega) (by decide)
    · have h9 := go c1
      rw [e1, e3] at c3
      rw [nI_1]
      exact next (by omega) 0 (Or.inr ⟨rfl, fun w => m9_bi_0 c3 (w (f + j) (by omega) h9)⟩)
    · have h9 := go c1
      rw [e1, e3] at c3
      rw [nI_1]
      refine next (by omega) 1 (Or.inl ⟨rfl, fun i h3 h4 => ?_⟩)
      rcases hx with h | h
      · by_cases q : i = f + j
        · rw [q]; exact m9_bi_1 c3
        · exact h.2 i h3 (by omega)
      · exact absurd h.1 c2
  exact bk_X7_canTear_0 X (loop 0 (by omega) 1 (Or.inl ⟨rfl, fun i h1 h2 => by omega⟩))
