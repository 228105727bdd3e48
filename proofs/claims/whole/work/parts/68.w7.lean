/-! The reference: counts. -/
def m9_oin (Z : Nat → Int32) (o : Nat) : Int32 := m9_sum (fun i => m9_on (Z (o + i))) 96
theorem ct_X7_onesIn (l : Launch) (G : k9_G) (M : k9_Mem) {o : Nat} (ho : o + 96 ≤ 578) : k9_Ci l yX7_onesIn wsX7_onesIn rm_X7_onesIn G M [.ref (k9_ga G 76), .int (nI o)] (m9_oin (M 77) o) M := by
  refine k9_metI (own := RX7) (by decide +kernel) rfl rfl (Nat.le_of_ble_eq_true rfl) rfl ?_
  intro p e s m args below meth c A Q X HR
  have loop : ∀ i, i ≤ 96 → k9_U p l e rm_X7_onesIn s m args below meth c Q A G 4 0 0 M 4 [(0, .ref (k9_ga G 76)), (1, .int (nI o)), (2, .int (m9_sum (fun i => m9_on (M 77 (o + i))) i)), (3, .int (nI i))] [] := by
    refine m9_down 96 (fun i hi next => ?_)
    have e0 : nI o + nI i = nI (o + i) := nI_add o i
    have e1 : (nI (o + i)).toNatClampNeg = o + i := m9_cl (by omega)
    refine bk_X7_onesIn_4 (rv1 := m9_on (M 77 (o + i))) X (fun c1 => ?_) (fun c1 => ?_) (fun c1 => ?_) (fun c1 => ?_)
    · have hi2 := m9_ex (N := 96) (by decide) hi c1
      subst hi2
      exact HR 31 [] dX7_onesIn_31
    · have := m9_go (N := 96) (by decide) hi c1
      rw [e0]; exact m9_in (by omega) (by decide)
    · rw [e0, e1]; exact ct_X7_ones l G M _
    · rw [nI_1]; exact next (m9_go (N := 96) (by decide) hi c1)
  exact bk_X7_onesIn_0 X (loop 0 (by decide))
def m9_zoh (Z : Nat → Int32) : Int32 := m9_sum (fun i => m9_on (m9_zo Z i)) 96
theorem ct_X7_openHoles (l : Launch) (G : k9_G) (M : k9_Mem) : k9_Ci l yX7_openHoles wsX7_openHoles rm_X7_openHoles G M [.ref (k9_ga G 76)] (m9_zoh (M 77)) M := by
  refine k9_metI (own := RX7) (by decide +kernel) rfl rfl (Nat.le_of_ble_eq_true rfl) rfl ?_
  intro p e s m args below meth c A Q X HR
  have loop : ∀ i, i ≤ 96 → k9_U p l e rm_X7_openHoles s m args below meth c Q A G 3 0 0 M 4 [(0, .ref (k9_ga G 76)), (1, .int (m9_sum (fun i => m9_on (m9_zo (M 77) i)) i)), (2, .int (nI i))] [] := by
    refine m9_down 96 (fun i hi next => ?_)
    refine bk_X7_openHoles_4 X (fun c1 => ?_) (fun c1 => ct_X7_openAt l G M (m9_go (N := 96) (by decide) hi c1)) (fun c1 => ct_X7_ones l G M _) (fun c1 => ?_)
    · have hi2 := m9_ex (N := 96) (by decide) hi c1
      subst hi2
      exact HR 28 [] dX7_openHoles_28
    · rw [nI_1]; exact next (m9_go (N := 96) (by decide) hi c1)
  exact bk_X7_openHoles_0 X (loop 0 (by decide))
def m9_sof (M : k9_Mem) (R : Nat) (w : Int32) (i : Nat) : Int32 :=
  if w = 0 then (M 81 i >>> (nI 20 &&& 31)) &&& 1 else if w = 1 then m9_bi (m9_one (M 83 i) 20) else if w = 2 then m9_wsv M i R else if w = 3 then m9_on (M 80 i) else m9_bi (¬ M 77 (192 + i) = 0)
theorem ct_X7_sumOf (l : Launch) (G : k9_G) (M : k9_Mem) {R : Nat} (hR : R < 900) (hM : M 77 385 = nI R) (w : Int32) : k9_Ci l yX7_sumOf wsX7_sumOf rm_X7_sumOf G M [.ref (k9_ga G 76), .int w] (m9_sum (m9_sof M R w) 96) M := by
  refine k9_metI (own := RX7) (by decide +kernel) rfl rfl (Nat.le_of_ble_eq_true rfl) rfl ?_
  intro p e s m args below meth c A Q X HR
  have loop : ∀ i, i ≤ 96 → k9_U p l e rm_X7_sumOf s m args below meth c Q A G 4 0 0 M 4 [(0, .ref (k9_ga G 76)), (1, .int w), (2, .int (m9_sum (m9_sof M R w) i)), (3, .int (nI i))] [] := by
    refine m9_down 96 (fun i hi next => ?_)
    have ee : (nI i).toNatClampNeg = i := m9_cl (by omega)
    have e0 : (192 : Int32) + nI i = nI (192 + i) := nI_add 192 i
    have e1 : (nI (192 + i)).toNatClampNeg = 192 + i := m9_cl (by omega)
    have nx : i < 96 → ∀ z, m9_sof M R w i = z → k9_U p l e rm_X7_sumOf s m args below meth c Q A G 4 0 0 M 4 [(0, .ref (k9_ga G 76)), (1, .int w), (2, .int (m9_sum (m9_sof M R w) i + z)), (3, .int (nI i + 1))] [] := fun h z hz => by
      have h9 := next h
      rw [m9_sum_s, hz] at h9
      rw [nI_1]; exact h9
    refine bk_X7_sumOf_4 (rv2 := m9_wsv M i R) X (fun c1 => ?_) (fun c1 c2 => m9_in (m9_go (N := 96) (by decide) hi c1) (by decide)) (fun c1 c2 => ?_) (fun c1 c2 => ct_X7_isDown l G M (m9_go (N := 96) (by decide) hi c1)) (fun c1 c2 c3 => ?_) (fun c1 c2 c3 => ?_) (fun c1 c2 => ct_X7_isWished_v l G M (m9_go (N := 96) (by decide) hi c1) hR hM) (fun c1 c2 c3 => ?_) (fun c1 c2 c3 => ?_) (fun c1 c2 => m9_in (m9_go (N := 96) (by decide) hi c1) (by decide)) (fun c1 c2 => ct_X7_ones l G M _) (fun c1 c2 => ?_) (fun c1 c2 c3 c4 c5 => ?_) (fun c1 c2 c3 c4 c5 c6 => ?_) (fun c1 c2 c3 c4 c5 c6 => ?_)
    · have hi2 := m9_ex (N := 96) (by decide) hi c1
      subst hi2
      exact HR 138 [] dX7_sumOf_138
    · rw [ee]; exact nx (m9_go (N := 96) (by decide) hi c1) _ (by rw [m9_sof, if_pos c2]; rfl)
    · exact nx (m9_go (N := 96) (by decide) hi c1) _ (by rw [m9_sof, c2, if_neg (by decide), if_pos rfl, c3])
    · exact nx (m9_go (N := 96) (by decide) hi c1) _ (by rw [m9_sof, c2, if_neg (by decide), if_pos rfl, m9_bi_t (m9_bi_1 c3)])
    · exact nx (m9_go (N := 96) (by decide) hi c1) _ (by rw [m9_sof, c2, if_neg (by decide), if_neg (by decide), if_pos rfl, c3])
    · exact nx (m9_go (N := 96) (by decide) hi c1) _ (by rw [m9_sof, c2, if_neg (by decide), if_neg (by decide), if_pos rfl, (m9_wsv_01 M i R).resolve_left c3])
    · rw [ee]; exact nx (m9_go (N := 96) (by decide) hi c1) _ (by rw [m9_sof, c2, if_neg (by decide), if_neg (by decide), if_neg (by decide), if_pos rfl])
    · have := m9_go (N := 96) (by decide) hi c1
      rw [e0]; exact m9_in (by omega) (by decide)
    · rw [e0, e1] at c6
      exact nx (m9_go (N := 96) (by decide) hi c1) _ (by rw [m9_sof, if_neg c2, if_neg c3, if_neg c4, if_neg c5, m9_bi_t c6])
    · rw [e0, e1] at c6
      exact nx (m9_go (N := 96) (by decide) hi c1) _ (by rw [m9_sof, if_neg c2, if_neg c3, if_neg c4, if_neg c5, m9_bi_f (fun z => z c6)])
  exact bk_X7_sumOf_0 X (loop 0 (by decide))
def m9_who (M : k9_Mem) (C : Nat) : Int32 := m9_sum (fun c => if m9_irP M c then 0 else m9_hoc M c) C
theorem ct_X7_wrongHoles (l : Launch) (G : k9_G) (M : k9_Mem) {C : Nat} (h : m9_laid M C) (h2 : m9_lai2 M C) : k9_Ci l yX7_wrongHoles wsX7_wrongHoles rm_X7_wrongHoles G M [.ref (k9_ga G 76)] (m9_who M C) M := by
  refine k9_metI (own := RX7) (by decide +kernel) rfl rfl (Nat.le_of_ble_eq_true rfl) rfl ?_
  intro p e s m args below meth c A Q X HR
  obtain ⟨g1, g2, g3⟩ := h
  have loop : ∀ i, i ≤ C → k9_U p l e rm_X7_wrongHoles s m args below meth c Q A G 3 0 0 M 4 [(0, .ref (k9_ga G 76)), (1, .int (m9_sum (fun c => if m9_irP M c then 0 else m9_hoc M c) i)), (2, .int (nI i))] [] := by
    refine m9_down C (fun i hi next => ?_)
    have ok : ¬ nI C ≤ nI i → i < 960 := fun c1 => by have := m9_go (N := C) (by omega) hi c1; omega
    refine bk_X7_wrongHoles_4 (rv1 := m9_bi (m9_irP M i)) (rv2 := m9_hoc M i) X (fun c1 => ?_) (fun c1 => ?_) (fun c1 c2 => ?_) (fun c1 c2 => ?_) (fun c1 c2 => ?_)
    · rw [g1] at c1
      have hi2 := m9_ex (N := C) (by omega) hi c1
      subst hi2
      exact HR 39 [] dX7_wrongHoles_39
    · rw [g1] at c1
      exact ct_X7_isRight l G M (ok c1) (g3 i (m9_go (N := C) (by omega) hi c1))
    · rw [g1] at c1
      exact ct_X7_holesOf l G M (ok c1) (h2.2.2 i (m9_go (N := C) (by omega) hi c1))
    · rw [g1] at c1
      have h9 := next (m9_go (N := C) (by omega) hi c1)
      rw [m9_sum_s, if_neg (m9_bi_0 c2)] at h9
      rw [nI_1]; exact h9
    · rw [g1] at c1
      have h9 := next (m9_go (N := C) (by omega) hi c1)
      rw [m9_sum_s, if_pos (m9_bi_1 c2)] at h9
      rw [nI_1]; exact h9
  exact bk_X7_wrongHoles_0 X (loop 0 (by omega))
def m9_rco (M : k9_Mem) (C R : Nat) (w : Int32) : Int32 :=
  if w = 0 then m9_oin (M 77) 0 else if w = 1 then m9_zoh (M 77) else if w = 2 then m9_oin (M 77) 96 else if w = 3 then M 76 13 else if w = 4 then m9_tnn (M 77) else if w = 5 then m9_rig M C
  else if w = 6 then M 76 13 - m9_rig M C else if w = 7 then m9_tnn (M 77) - m9_rig M C else if w = 8 then m9_sum (m9_sof M R 0) 96 else if w = 9 then m9_sum (m9_sof M R 1) 96 else if w = 10 then m9_sum (m9_sof M R 2) 96 else if w = 11 then m9_who M C
  else if w = 12 then m9_zoh (M 77) - m9_sum (m9_sof M R 3) 96 else if w = 13 then m9_sum (m9_sof M R 4) 96 else M 76 1
theorem ct_X7_counted (l : Launch) (G : k9_G) (M : k9_Mem) {C R : Nat} (h : m9_laid M C) (h2 : m9_lai2 M C) (hR : R < 900) (hM : M 77 385 = nI R) (w : Int32) : k9_Ci l yX7_counted wsX7_counted rm_X7_counted G M [.ref (k9_ga G 76), .int w] (m9_rco M C R w) M := by
  refine k9_metI (own := RX7) (by decide +kernel) rfl rfl (Nat.le_of_ble_eq_true rfl) rfl ?_
  intro p e s m args below meth c A Q X HR
  have kr := ct_X7_rights l G M h
  have sm : ∀ {z v : Int32}, z = v → k9_Ci l yX7_sumOf wsX7_sumOf rm_X7_sumOf G M [.ref (k9_ga G 76), .int z] (m9_sum (m9_sof M R v) 96) M := fun hz => hz ▸ ct_X7_sumOf l G M hR hM _
  refine bk_X7_counted_0 X (fun c1 => ct_X7_onesIn l G M (o := 0) (by decide)) (fun c1 => ?_) (fun c1 => ct_X7_openHoles l G M) (fun c1 => ?_) (fun c1 => ct_X7_onesIn l G M (o := 96) (by decide)) (fun c1 => ?_) (fun c1 => ?_) (fun c1 => ct_X7_tuneNotes l G M) (fun c1 => ?_) (fun c1 => kr) (fun c1 => ?_) (fun c1 => kr) (fun c1 => ?_) (fun c1 => ct_X7_tuneNotes l G M) (fun c1 => kr) (fun c1 => ?_)
    (fun c1 => sm (v := 0) (by rw [c1]; rfl)) (fun c1 => ?_) (fun c1 => sm (v := 1) (by rw [c1]; rfl)) (fun c1 => ?_) (fun c1 => sm (v := 2) (by rw [c1]; rfl)) (fun c1 => ?_) (fun c1 => ct_X7_wrongHoles l G M h h2) (fun c1 => ?_) (fun c1 => ct_X7_openHoles l G M) (fun c1 => sm (v := 3) rfl) (fun c1 => ?_) (fun c1 => sm (v := 4) rfl) (fun c1 => ?_) (fun d0 d1 d2 d3 d4 d5 d6 d7 d8 d9 d10 d11 d12 d13 => ?_)
  · subst c1; exact HR 77 [] dX7_counted_77
  · subst c1; exact HR 82 [] dX7_counted_82
  · subst c1; exact HR 89 [] dX7_counted_89
  · subst c1; exact HR 94 [] dX7_counted_94
  · subst c1; exact HR 99 [] dX7_counted_99
  · subst c1; exact HR 104 [] dX7_counted_104
  · subst c1; exact HR 114 [] dX7_counted_114
  · subst c1; exact HR 124 [] dX7_counted_124
  · subst c1; exact HR 133 [] dX7_counted_133
  · subst c1; exact HR 133 [] dX7_counted_133
  · subst c1; exact HR 133 [] dX7_counted_133
  · subst c1; exact HR 138 [] dX7_counted_138
  · subst c1; exact HR 149 [] dX7_counted_149
  · subst c1; exact HR 155 [] dX7_counted_155
  · exact k9_eq rfl (by rw [m9_rco, if_neg d0, if_neg d1, if_neg d2, if_neg d3, if_neg d4, if_neg d5, if_neg d6, if_neg d7, if_neg d8, if_neg d9, if_neg d10, if_neg d11, if_neg d12, if_neg d13]) (HR 160 [] dX7_counted_160)
theorem ct_X7_held (l : Launch) (G : k9_G) (M : k9_Mem) (a : Int32) : k9_Ci l yX7_held wsX7_held rm_X7_held G M [.int a] (if ¬ a ≤ 3 then 3 else if ¬ (-3 : Int32) ≤ a then -3 else a) M := by
  refine k9_metI (own := RX7) (by decide +kernel) rfl rfl (Nat.le_of_ble_eq_true rfl) rfl ?_
  intro p e s m args below meth c A Q X HR
  refine bk_X7_held_0 X (fun c1 c2 => ?_) (fun c1 c2 => ?_) (fun c1 => ?_)
  · exact k9_eq rfl (by rw [if_neg (fun z => z c1), if_neg (fun z => z c2)]) (HR 21 [] dX7_held_21)
  · exact k9_eq rfl (by rw [if_neg (fun z => z c1), if_pos c2]) (HR 21 [] dX7_held_21)
  · exact k9_eq rfl (by rw [if_pos c1]) (HR 21 [] dX7_held_21)
def m9_rrf (Z : Nat → Int32) (i : Nat) (t : Int32) : Int32 := if t - 3 - m9_zs Z i = -1 then -2 else if m9_wn (t - 3 - m9_zs Z i) 0 19 then t - 3 - m9_zs Z i else -1
theorem ct_X7_readFor (l : Launch) (G : k9_G) (M : k9_Mem) {i : Nat} (hi : i < 96) (t : Int32) : k9_Ci l yX7_readFor wsX7_readFor rm_X7_readFor G M [.ref (k9_ga G 76), .int (nI i), .int t] (m9_rrf (M 77) i t) M := by
  refine k9_metI (own := RX7) (by decide +kernel) rfl rfl (Nat.le_of_ble_eq_true rfl) rfl ?_
  intro p e s m args below meth c A Q X HR
  refine bk_X7_readFor_0 X (ct_X7_aside l G M hi) (fun c1 => ct_X7_within l G M _ _ _) (fun c1 c2 => ?_) (fun c1 c2 => ?_) (fun c1 => ?_)
  · exact k9_eq rfl (by rw [m9_rrf, if_neg c1, if_neg (m9_bi_0 c2)]) (HR 35 [] dX7_readFor_35)
  · exact k9_eq rfl (by rw [m9_rrf, if_neg c1, if_pos (m9_bi_1 c2)]) (HR 35 [] dX7_readFor_35)
  · exact k9_eq rfl (by rw [m9_rrf, if_pos c1]) (HR 35 [] dX7_readFor_35)
