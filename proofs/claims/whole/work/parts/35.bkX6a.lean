section BK
variable {p : Program} {l : Launch} {e : Env} {R : Room} {s : State} {m : MethodId} {args : Array Value} {below : List Frame} {meth : Method} {c : Code} {Q : State → Prop} {A : Nat → Prop} {G : k9_G} {M : k9_Mem}
theorem in_X6_punch_X6 : ∀ w ∈ u_ws RX6 TX6 5, w ∈ wsX6_punch := by decide +kernel
theorem fl_X6_punch_26 : Cond.fieldLink RX6 26 (TX6 2).1 (TX6 2).2.1 (TX6 2).2.2.1 ∈ wsX6_punch := by decide +kernel
theorem fl_X6_punch_12 : Cond.fieldLink RX6 12 (TX6 0).1 (TX6 0).2.1 (TX6 0).2.2.1 ∈ wsX6_punch := by decide +kernel
theorem fl_X6_punch_19 : Cond.fieldLink RX6 19 (TX6 1).1 (TX6 1).2.1 (TX6 1).2.2.1 ∈ wsX6_punch := by decide +kernel
set_option maxRecDepth 20000 in
theorem bk_X6_punch_0 (X : k9_X p R s m args c A G 5 cX6_punch wsX6_punch RX6 rm_X6_punch) {a0 a1 a2 : Int32} {rv1 : Int32} {xv2 : Option String} {rv3 : Int32} {mv4 : k9_Mem} {rv5 : Int32} {mv5 : k9_Mem} {mv6 : k9_Mem}
    (l1 : (a0 < (-1 : Int32)) → k9_U p l e R s m args below meth c Q A G 5 0 0 M 18 [] [])
    (l2 : (¬ (a0 < (-1 : Int32))) → ((20 : Int32) ≤ a0) → k9_U p l e R s m args below meth c Q A G 5 0 0 M 18 [] [])
    (k1 : (¬ (a0 < (-1 : Int32))) → (¬ ((20 : Int32) ≤ a0)) → k9_Ci l yX6_isStep wsX6_isStep rm_X6_isStep G M [.int a1] rv1 M)
    (k2 : (¬ (a0 < (-1 : Int32))) → (¬ ((20 : Int32) ≤ a0)) → (¬ rv1 = 0) → k9_Cxv l yX6_needLength wsX6_needLength rm_X6_needLength 1 6 G M [.int a2] xv2 M)
    (l3 : (¬ (a0 < (-1 : Int32))) → (¬ ((20 : Int32) ≤ a0)) → (¬ rv1 = 0) → (∀ E : String, xv2 = some E → k9_UX p l e R s m args below meth c Q A G 5 (0 + 1) (0 + 6) M 29 [(0, .ref (k9_ga G 0)), (1, .int a0), (2, .int a1), (3, .int a2)] [] E))
    (k3 : (¬ (a0 < (-1 : Int32))) → (¬ ((20 : Int32) ≤ a0)) → (¬ rv1 = 0) → xv2 = none → k9_Ci l yX6_fits wsX6_fits rm_X6_fits G M [.int a1, .int a2] rv3 M)
    (k4 : (¬ (a0 < (-1 : Int32))) → (¬ ((20 : Int32) ≤ a0)) → (¬ rv1 = 0) → xv2 = none → (¬ rv3 = 0) → k9_Cv l yX4_keep wsX4_keep rm_X4_keep G M [.ref (k9_ga G 64), .ref (k9_ga G 1)] mv4)
    (k5 : (¬ (a0 < (-1 : Int32))) → (¬ ((20 : Int32) ≤ a0)) → (¬ rv1 = 0) → xv2 = none → (¬ rv3 = 0) → k9_Ci l yX3_cutChain wsX3_cutChain rm_X3_cutChain G mv4 [.ref (k9_ga G 1), .int (a0 + (1 : Int32)), .int a1, .int a2] rv5 mv5)
    (k6 : (¬ (a0 < (-1 : Int32))) → (¬ ((20 : Int32) ≤ a0)) → (¬ rv1 = 0) → xv2 = none → (¬ rv3 = 0) → k9_Cv l yX1_listenTo wsX1_listenTo rm_X1_listenTo G mv5 [.ref (k9_ga G 57), .ref (k9_ga G 1)] mv6)
    (l4 : (¬ (a0 < (-1 : Int32))) → (¬ ((20 : Int32) ≤ a0)) → (¬ rv1 = 0) → xv2 = none → (¬ rv3 = 0) → k9_U p l e R s m args below meth c Q A G 5 (0 + 1) (0 + 6) mv6 88 [] [.int rv5])
    (l5 : (¬ (a0 < (-1 : Int32))) → (¬ ((20 : Int32) ≤ a0)) → (¬ rv1 = 0) → xv2 = none → (rv3 = 0) → k9_U p l e R s m args below meth c Q A G 5 (0 + 1) (0 + 6) M 40 [] [])
    (l6 : (¬ (a0 < (-1 : Int32))) → (¬ ((20 : Int32) ≤ a0)) → (rv1 = 0) → k9_U p l e R s m args below meth c Q A G 5 0 0 M 18 [] []) : k9_U p l e R s m args below meth c Q A G 5 0 0 M 0 [(0, .ref (k9_ga G 0)), (1, .int a0), (2, .int a1), (3, .int a2)] [] := by
  refine k9_iload_n X dX6_punch_0 rfl 1 rfl ?_
  refine k9_iconst (v := -1) X dX6_punch_1 (by decide) ?_
  refine k9_icmp_lt (tgt := 18) X dX6_punch_2 (by decide) (fun c1 => ?_) (fun c1 => ?_)
  · refine k9_sub (lv' := []) [] rfl ?_
    exact (l1 c1)
  · refine k9_iload_n X dX6_punch_5 rfl 1 rfl ?_
    refine k9_bipush (v := 20) X dX6_punch_6 (by decide) ?_
    refine k9_icmp_ge (tgt := 18) X dX6_punch_8 (by decide) (fun c2 => ?_) (fun c2 => ?_)
    · refine k9_sub (lv' := []) [] rfl ?_
      exact (l2 c1 c2)
    · refine k9_iload_n X dX6_punch_11 rfl 2 rfl ?_
      refine k9_callSi1 X (k1 c1 c2)  (va_cwS 1 X.2.2.2.2.1 gX6_punch_X6_isStep rfl rfl rfl (by decide +kernel) ⟨Nat.le_of_ble_eq_true rfl, Nat.le_of_ble_eq_true rfl⟩) (Nat.le_of_ble_eq_true rfl) dX6_punch_12 ⟨Nat.zero_le _, Nat.zero_le _⟩ ?_
      refine k9_if_ne (tgt := 28) X dX6_punch_15 (by decide) (fun c3 => ?_) (fun c3 => ?_)
      · refine k9_iload_n X dX6_punch_28 rfl 3 rfl ?_
        refine k9_callSxv1 X (k2 c1 c2 c3)  (va_cwS 1 X.2.2.2.2.1 gX6_punch_X6_needLength rfl rfl rfl (by decide +kernel) ⟨Nat.le_of_ble_eq_true rfl, Nat.le_of_ble_eq_true rfl⟩) (Nat.le_of_ble_eq_true rfl) dX6_punch_29 (k9_rmX X (by decide) (by decide)) (l3 c1 c2 c3) (fun c4 => ?_)
        refine k9_iload_n X dX6_punch_32 rfl 2 rfl ?_
        refine k9_iload_n X dX6_punch_33 rfl 3 rfl ?_
        refine k9_callSi2 X (k3 c1 c2 c3 c4)  (va_cwS 2 X.2.2.2.2.1 gX6_punch_X6_fits rfl rfl rfl (by decide +kernel) ⟨Nat.le_of_ble_eq_true rfl, Nat.le_of_ble_eq_true rfl⟩) (Nat.le_of_ble_eq_true rfl) dX6_punch_34 ⟨by decide, by decide⟩ ?_
        refine k9_if_ne (tgt := 50) X dX6_punch_37 (by decide) (fun c5 => ?_) (fun c5 => ?_)
        · refine k9_aload_n X dX6_punch_50 rfl 0 rfl ?_
          refine k9_gX6_2 X in_X6_punch_X6 fl_X6_punch_26 dX6_punch_51 ?_
          refine k9_aload_n X dX6_punch_54 rfl 0 rfl ?_
          refine k9_gX6_0 X in_X6_punch_X6 fl_X6_punch_12 dX6_punch_55 ?_
          refine k9_callVv1 X (k4 c1 c2 c3 c4 c5) k9_ob_64 (cwV 1 X.2.2.2.2.1 gX6_punch_X4_keep rfl rfl rfl (by decide +kernel) ⟨Nat.le_of_ble_eq_true rfl, Nat.le_of_ble_eq_true rfl⟩) (Nat.le_of_ble_eq_true rfl) dX6_punch_58 ⟨by decide, by decide⟩ ?_
          refine k9_aload_n X dX6_punch_61 rfl 0 rfl ?_
          refine k9_gX6_0 X in_X6_punch_X6 fl_X6_punch_12 dX6_punch_62 ?_
          refine k9_iload_n X dX6_punch_65 rfl 1 rfl ?_
          refine k9_iconst (v := 1) X dX6_punch_66 (by decide) ?_
          refine k9_iadd X dX6_punch_67 ?_
          refine k9_iload_n X dX6_punch_68 rfl 2 rfl ?_
          refine k9_iload_n X dX6_punch_69 rfl 3 rfl ?_
          refine k9_callVi3 X (k5 c1 c2 c3 c4 c5) (k9_ob_P (by decide)) (cwV 3 X.2.2.2.2.1 gX6_punch_X3_cutChain rfl rfl rfl (by decide +kernel) ⟨Nat.le_of_ble_eq_true rfl, Nat.le_of_ble_eq_true rfl⟩) (Nat.le_of_ble_eq_true rfl) dX6_punch_70 ⟨by decide, by decide⟩ ?_
          refine k9_istore (lv' := [(0, .ref (k9_ga G 0)), (1, .int a0), (2, .int a1), (3, .int a2), (4, .int rv5)]) X dX6_punch_73 (by decide) [1, 2, 3, 4, 0] rfl ?_
          refine k9_aload_n X dX6_punch_75 rfl 0 rfl ?_
          refine k9_gX6_1 X in_X6_punch_X6 fl_X6_punch_19 dX6_punch_76 ?_
          refine k9_aload_n X dX6_punch_79 rfl 0 rfl ?_
          refine k9_gX6_0 X in_X6_punch_X6 fl_X6_punch_12 dX6_punch_80 ?_
          refine k9_callVv1 X (k6 c1 c2 c3 c4 c5) k9_ob_57 (cwV 1 X.2.2.2.2.1 gX6_punch_X1_listenTo rfl rfl rfl (by decide +kernel) ⟨Nat.le_of_ble_eq_true rfl, Nat.le_of_ble_eq_true rfl⟩) (Nat.le_of_ble_eq_true rfl) dX6_punch_83 ⟨by decide, by decide⟩ ?_
          refine k9_iload X dX6_punch_86 4 rfl ?_
          refine k9_sub (lv' := []) [] rfl ?_
          exact (l4 c1 c2 c3 c4 c5)
        · refine k9_sub (lv' := []) [] rfl ?_
          exact (l5 c1 c2 c3 c4 c5)
      · refine k9_sub (lv' := []) [] rfl ?_
        exact (l6 c1 c2 c3)

theorem in_X6_patch_X6 : ∀ w ∈ u_ws RX6 TX6 5, w ∈ wsX6_patch := by decide +kernel
theorem fl_X6_patch_26 : Cond.fieldLink RX6 26 (TX6 2).1 (TX6 2).2.1 (TX6 2).2.2.1 ∈ wsX6_patch := by decide +kernel
theorem fl_X6_patch_12 : Cond.fieldLink RX6 12 (TX6 0).1 (TX6 0).2.1 (TX6 0).2.2.1 ∈ wsX6_patch := by decide +kernel
theorem fl_X6_patch_19 : Cond.fieldLink RX6 19 (TX6 1).1 (TX6 1).2.1 (TX6 1).2.2.1 ∈ wsX6_patch := by decide +kernel
set_option maxRecDepth 20000 in
theorem bk_X6_patch_0 (X : k9_X p R s m args c A G 5 cX6_patch wsX6_patch RX6 rm_X6_patch) {a0 a1 a2 : Int32} {xv1 : Option String} {xv2 : Option String} {mv3 : k9_Mem} {rv4 : Int32} {mv4 : k9_Mem} {mv5 : k9_Mem}
    (k1 : k9_Cxv l yX6_needTrack wsX6_needTrack rm_X6_needTrack 1 6 G M [.int a0] xv1 M)
    (l1 : (∀ E : String, xv1 = some E → k9_UX p l e R s m args below meth c Q A G 5 (0 + 1) (0 + 6) M 1 [(0, .ref (k9_ga G 0)), (1, .int a0), (2, .int a1), (3, .int a2)] [] E))
    (k2 : xv1 = none → k9_Cxv l yX6_needSteps wsX6_needSteps rm_X6_needSteps 2 12 G M [.int a1, .int a2] xv2 M)
    (l2 : xv1 = none → (∀ E : String, xv2 = some E → k9_UX p l e R s m args below meth c Q A G 5 (0 + 1 + 2) (0 + 6 + 12) M 6 [(0, .ref (k9_ga G 0)), (1, .int a0), (2, .int a1), (3, .int a2)] [] E))
    (k3 : xv1 = none → xv2 = none → k9_Cv l yX4_keep wsX4_keep rm_X4_keep G M [.ref (k9_ga G 64), .ref (k9_ga G 1)] mv3)
    (k4 : xv1 = none → xv2 = none → k9_Ci l yX3_cover wsX3_cover rm_X3_cover G mv3 [.ref (k9_ga G 1), .int a0, .int a1, .int a2] rv4 mv4)
    (k5 : xv1 = none → xv2 = none → k9_Cv l yX1_listenTo wsX1_listenTo rm_X1_listenTo G mv4 [.ref (k9_ga G 57), .ref (k9_ga G 1)] mv5)
    (l3 : xv1 = none → xv2 = none → k9_U p l e R s m args below meth c Q A G 5 (0 + 1 + 2) (0 + 6 + 12) mv5 45 [] [.int rv4]) : k9_U p l e R s m args below meth c Q A G 5 0 0 M 0 [(0, .ref (k9_ga G 0)), (1, .int a0), (2, .int a1), (3, .int a2)] [] := by
  refine k9_iload_n X dX6_patch_0 rfl 1 rfl ?_
  refine k9_callSxv1 X k1  (va_cwS 1 X.2.2.2.2.1 gX6_patch_X6_needTrack rfl rfl rfl (by decide +kernel) ⟨Nat.le_of_ble_eq_true rfl, Nat.le_of_ble_eq_true rfl⟩) (Nat.le_of_ble_eq_true rfl) dX6_patch_1 (k9_rmX X (by decide) (by decide)) l1 (fun c1 => ?_)
  refine k9_iload_n X dX6_patch_4 rfl 2 rfl ?_
  refine k9_iload_n X dX6_patch_5 rfl 3 rfl ?_
  refine k9_callSxv2 X (k2 c1)  (va_cwS 2 X.2.2.2.2.1 gX6_patch_X6_needSteps rfl rfl rfl (by decide +kernel) ⟨Nat.le_of_ble_eq_true rfl, Nat.le_of_ble_eq_true rfl⟩) (Nat.le_of_ble_eq_true rfl) dX6_patch_6 (k9_rmX X (by decide) (by decide)) (l2 c1) (fun c2 => ?_)
  refine k9_aload_n X dX6_patch_9 rfl 0 rfl ?_
  refine k9_gX6_2 X in_X6_patch_X6 fl_X6_patch_26 dX6_patch_10 ?_
  refine k9_aload_n X dX6_patch_13 rfl 0 rfl ?_
  refine k9_gX6_0 X in_X6_patch_X6 fl_X6_patch_12 dX6_patch_14 ?_
  refine k9_callVv1 X (k3 c1 c2) k9_ob_64 (cwV 1 X.2.2.2.2.1 gX6_patch_X4_keep rfl rfl rfl (by decide +kernel) ⟨Nat.le_of_ble_eq_true rfl, Nat.le_of_ble_eq_true rfl⟩) (Nat.le_of_ble_eq_true rfl) dX6_patch_17 ⟨by decide, by decide⟩ ?_
  refine k9_aload_n X dX6_patch_20 rfl 0 rfl ?_
  refine k9_gX6_0 X in_X6_patch_X6 fl_X6_patch_12 dX6_patch_21 ?_
  refine k9_iload_n X dX6_patch_24 rfl 1 rfl ?_
  refine k9_iload_n X dX6_patch_25 rfl 2 rfl ?_
  refine k9_iload_n X dX6_patch_26 rfl 3 rfl ?_
  refine k9_callVi3 X (k4 c1 c2) (k9_ob_P (by decide)) (cwV 3 X.2.2.2.2.1 gX6_patch_X3_cover rfl rfl rfl (by decide +kernel) ⟨Nat.le_of_ble_eq_true rfl, Nat.le_of_ble_eq_true rfl⟩) (Nat.le_of_ble_eq_true rfl) dX6_patch_27 ⟨by decide, by decide⟩ ?_
  refine k9_istore (lv' := [(0, .ref (k9_ga G 0)), (1, .int a0), (2, .int a1), (3, .int a2), (4, .int rv4)]) X dX6_patch_30 (by decide) [1, 2, 3, 4, 0] rfl ?_
  refine k9_aload_n X dX6_patch_32 rfl 0 rfl ?_
  refine k9_gX6_1 X in_X6_patch_X6 fl_X6_patch_19 dX6_patch_33 ?_
  refine k9_aload_n X dX6_patch_36 rfl 0 rfl ?_
  refine k9_gX6_0 X in_X6_patch_X6 fl_X6_patch_12 dX6_patch_37 ?_
  refine k9_callVv1 X (k5 c1 c2) k9_ob_57 (cwV 1 X.2.2.2.2.1 gX6_patch_X1_listenTo rfl rfl rfl (by decide +kernel) ⟨Nat.le_of_ble_eq_true rfl, Nat.le_of_ble_eq_true rfl⟩) (Nat.le_of_ble_eq_true rfl) dX6_patch_40 ⟨by decide, by decide⟩ ?_
  refine k9_iload X dX6_patch_43 4 rfl ?_
  refine k9_sub (lv' := []) [] rfl ?_
  exact (l3 c1 c2)

theorem in_X6_peel_X6 : ∀ w ∈ u_ws RX6 TX6 5, w ∈ wsX6_peel := by decide +kernel
theorem fl_X6_peel_26 : Cond.fieldLink RX6 26 (TX6 2).1 (TX6 2).2.1 (TX6 2).2.2.1 ∈ wsX6_peel := by decide +kernel
theorem fl_X6_peel_12 : Cond.fieldLink RX6 12 (TX6 0).1 (TX6 0).2.1 (TX6 0).2.2.1 ∈ wsX6_peel := by decide +kernel
theorem fl_X6_peel_19 : Cond.fieldLink RX6 19 (TX6 1).1 (TX6 1).2.1 (TX6 1).2.2.1 ∈ wsX6_peel := by decide +kernel
set_option maxRecDepth 20000 in
theorem bk_X6_peel_0 (X : k9_X p R s m args c A G 5 cX6_peel wsX6_peel RX6 rm_X6_peel) {a0 a1 a2 : Int32} {xv1 : Option String} {xv2 : Option String} {mv3 : k9_Mem} {rv4 : Int32} {mv4 : k9_Mem} {mv5 : k9_Mem}
    (k1 : k9_Cxv l yX6_needTrack wsX6_needTrack rm_X6_needTrack 1 6 G M [.int a0] xv1 M)
    (l1 : (∀ E : String, xv1 = some E → k9_UX p l e R s m args below meth c Q A G 5 (0 + 1) (0 + 6) M 1 [(0, .ref (k9_ga G 0)), (1, .int a0), (2, .int a1), (3, .int a2)] [] E))
    (k2 : xv1 = none → k9_Cxv l yX6_needSteps wsX6_needSteps rm_X6_needSteps 2 12 G M [.int a1, .int a2] xv2 M)
    (l2 : xv1 = none → (∀ E : String, xv2 = some E → k9_UX p l e R s m args below meth c Q A G 5 (0 + 1 + 2) (0 + 6 + 12) M 6 [(0, .ref (k9_ga G 0)), (1, .int a0), (2, .int a1), (3, .int a2)] [] E))
    (k3 : xv1 = none → xv2 = none → k9_Cv l yX4_keep wsX4_keep rm_X4_keep G M [.ref (k9_ga G 64), .ref (k9_ga G 1)] mv3)
    (k4 : xv1 = none → xv2 = none → k9_Ci l yX3_uncover wsX3_uncover rm_X3_uncover G mv3 [.ref (k9_ga G 1), .int a0, .int a1, .int a2] rv4 mv4)
    (k5 : xv1 = none → xv2 = none → k9_Cv l yX1_listenTo wsX1_listenTo rm_X1_listenTo G mv4 [.ref (k9_ga G 57), .ref (k9_ga G 1)] mv5)
    (l3 : xv1 = none → xv2 = none → k9_U p l e R s m args below meth c Q A G 5 (0 + 1 + 2) (0 + 6 + 12) mv5 45 [] [.int rv4]) : k9_U p l e R s m args below meth c Q A G 5 0 0 M 0 [(0, .ref (k9_ga G 0)), (1, .int a0), (2, .int a1), (3, .int a2)] [] := by
  refine k9_iload_n X dX6_peel_0 rfl 1 rfl ?_
  refine k9_callSxv1 X k1  (va_cwS 1 X.2.2.2.2.1 gX6_peel_X6_needTrack rfl rfl rfl (by decide +kernel) ⟨Nat.le_of_ble_eq_true rfl, Nat.le_of_ble_eq_true rfl⟩) (Nat.le_of_ble_eq_true rfl) dX6_peel_1 (k9_rmX X (by decide) (by decide)) l1 (fun c1 => ?_)
  refine k9_iload_n X dX6_peel_4 rfl 2 rfl ?_
  refine k9_iload_n X dX6_peel_5 rfl 3 rfl ?_
  refine k9_callSxv2 X (k2 c1)  (va_cwS 2 X.2.2.2.2.1 gX6_peel_X6_needSteps rfl rfl rfl (by decide +kernel) ⟨Nat.le_of_ble_eq_true rfl, Nat.le_of_ble_eq_true rfl⟩) (Nat.le_of_ble_eq_true rfl) dX6_peel_6 (k9_rmX X (by decide) (by decide)) (l2 c1) (fun c2 => ?_)
  refine k9_aload_n X dX6_peel_9 rfl 0 rfl ?_
  refine k9_gX6_2 X in_X6_peel_X6 fl_X6_peel_26 dX6_peel_10 ?_
  refine k9_aload_n X dX6_peel_13 rfl 0 rfl ?_
  refine k9_gX6_0 X in_X6_peel_X6 fl_X6_peel_12 dX6_peel_14 ?_
  refine k9_callVv1 X (k3 c1 c2) k9_ob_64 (cwV 1 X.2.2.2.2.1 gX6_peel_X4_keep rfl rfl rfl (by decide +kernel) ⟨Nat.le_of_ble_eq_true rfl, Nat.le_of_ble_eq_true rfl⟩) (Nat.le_of_ble_eq_true rfl) dX6_peel_17 ⟨by decide, by decide⟩ ?_
  refine k9_aload_n X dX6_peel_20 rfl 0 rfl ?_
  refine k9_gX6_0 X in_X6_peel_X6 fl_X6_peel_12 dX6_peel_21 ?_
  refine k9_iload_n X dX6_peel_24 rfl 1 rfl ?_
  refine k9_iload_n X dX6_peel_25 rfl 2 rfl ?_
  refine k9_iload_n X dX6_peel_26 rfl 3 rfl ?_
  refine k9_callVi3 X (k4 c1 c2) (k9_ob_P (by decide)) (cwV 3 X.2.2.2.2.1 gX6_peel_X3_uncover rfl rfl rfl (by decide +kernel) ⟨Nat.le_of_ble_eq_true rfl, Nat.le_of_ble_eq_true rfl⟩) (Nat.le_of_ble_eq_true rfl) dX6_peel_27 ⟨by decide, by decide⟩ ?_
  refine k9_istore (lv' := [(0, .ref (k9_ga G 0)), (1, .int a0), (2, .int a1), (3, .int a2), (4, .int rv4)]) X dX6_peel_30 (by decide) [1, 2, 3, 4, 0] rfl ?_
  refine k9_aload_n X dX6_peel_32 rfl 0 rfl ?_
  refine k9_gX6_1 X in_X6_peel_X6 fl_X6_peel_19 dX6_peel_33 ?_
  refine k9_aload_n X dX6_peel_36 rfl 0 rfl ?_
  refine k9_gX6_0 X in_X6_peel_X6 fl_X6_peel_12 dX6_peel_37 ?_
  refine k9_callVv1 X (k5 c1 c2) k9_ob_57 (cwV 1 X.2.2.2.2.1 gX6_peel_X1_listenTo rfl rfl rfl (by decide +kernel) ⟨Nat.le_of_ble_eq_true rfl, Nat.le_of_ble_eq_true rfl⟩) (Nat.le_of_ble_eq_true rfl) dX6_peel_40 ⟨by decide, by decide⟩ ?_
  refine k9_iload X dX6_peel_43 4 rfl ?_
  refine k9_sub (lv' := []) [] rfl ?_
  exact (l3 c1 c2)

theorem in_X6_shift_X6 : ∀ w ∈ u_ws RX6 TX6 5, w ∈ wsX6_shift := by decide +kernel
theorem fl_X6_shift_12 : Cond.fieldLink RX6 12 (TX6 0).1 (TX6 0).2.1 (TX6 0).2.2.1 ∈ wsX6_shift := by decide +kernel
theorem fl_X6_shift_26 : Cond.fieldLink RX6 26 (TX6 2).1 (TX6 2).2.1 (TX6 2).2.2.1 ∈ wsX6_shift := by decide +kernel
theorem fl_X6_shift_19 : Cond.fieldLink RX6 19 (TX6 1).1 (TX6 1).2.1 (TX6 1).2.2.1 ∈ wsX6_shift := by decide +kernel
set_option maxRecDepth 20000 in
theorem bk_X6_shift_0 (X : k9_X p R s m args c A G 2 cX6_shift wsX6_shift RX6 rm_X6_shift) {a0 : Int32} {xv1 : Option String} {rv2 : Int32} {mv3 : k9_Mem} {mv4 : k9_Mem} {mv5 : k9_Mem} {rv6 : Int32}
    (k1 : k9_Cxv l yX6_needAside wsX6_needAside rm_X6_needAside 1 6 G M [.int a0] xv1 M)
    (l1 : (∀ E : String, xv1 = some E → k9_UX p l e R s m args below meth c Q A G 2 (0 + 1) (0 + 6) M 1 [(0, .ref (k9_ga G 0)), (1, .int a0)] [] E))
    (k2 : xv1 = none → k9_Ci l yX3_canMove wsX3_canMove rm_X3_canMove G M [.ref (k9_ga G 1), .int a0] rv2 M)
    (k3 : xv1 = none → (¬ rv2 = 0) → k9_Cv l yX4_keep wsX4_keep rm_X4_keep G M [.ref (k9_ga G 64), .ref (k9_ga G 1)] mv3)
    (k4 : xv1 = none → (¬ rv2 = 0) → k9_Cv l yX3_move wsX3_move rm_X3_move G mv3 [.ref (k9_ga G 1), .int a0] mv4)
    (k5 : xv1 = none → (¬ rv2 = 0) → k9_Cv l yX1_listenTo wsX1_listenTo rm_X1_listenTo G mv4 [.ref (k9_ga G 57), .ref (k9_ga G 1)] mv5)
    (k6 : xv1 = none → (¬ rv2 = 0) → k9_Ci l yX6_rightNotes wsX6_rightNotes rm_X6_rightNotes G mv5 [.ref (k9_ga G 0)] rv6 mv5)
    (l2 : xv1 = none → (¬ rv2 = 0) → k9_U p l e R s m args below meth c Q A G 2 (0 + 1) (0 + 6) mv5 59 [] [.int rv6])
    (l3 : xv1 = none → (rv2 = 0) → k9_U p l e R s m args below meth c Q A G 2 (0 + 1) (0 + 6) M 15 [] []) : k9_U p l e R s m args below meth c Q A G 2 0 0 M 0 [(0, .ref (k9_ga G 0)), (1, .int a0)] [] := by
  refine k9_iload_n X dX6_shift_0 rfl 1 rfl ?_
  refine k9_callSxv1 X k1  (va_cwS 1 X.2.2.2.2.1 gX6_shift_X6_needAside rfl rfl rfl (by decide +kernel) ⟨Nat.le_of_ble_eq_true rfl, Nat.le_of_ble_eq_true rfl⟩) (Nat.le_of_ble_eq_true rfl) dX6_shift_1 (k9_rmX X (by decide) (by decide)) l1 (fun c1 => ?_)
  refine k9_aload_n X dX6_shift_4 rfl 0 rfl ?_
  refine k9_gX6_0 X in_X6_shift_X6 fl_X6_shift_12 dX6_shift_5 ?_
  refine k9_iload_n X dX6_shift_8 rfl 1 rfl ?_
  refine k9_callVi1 X (k2 c1) (k9_ob_P (by decide)) (cwV 1 X.2.2.2.2.1 gX6_shift_X3_canMove rfl rfl rfl (by decide +kernel) ⟨Nat.le_of_ble_eq_true rfl, Nat.le_of_ble_eq_true rfl⟩) (Nat.le_of_ble_eq_true rfl) dX6_shift_9 ⟨by decide, by decide⟩ ?_
  refine k9_if_ne (tgt := 25) X dX6_shift_12 (by decide) (fun c2 => ?_) (fun c2 => ?_)
  · refine k9_aload_n X dX6_shift_25 rfl 0 rfl ?_
    refine k9_gX6_2 X in_X6_shift_X6 fl_X6_shift_26 dX6_shift_26 ?_
    refine k9_aload_n X dX6_shift_29 rfl 0 rfl ?_
    refine k9_gX6_0 X in_X6_shift_X6 fl_X6_shift_12 dX6_shift_30 ?_
    refine k9_callVv1 X (k3 c1 c2) k9_ob_64 (cwV 1 X.2.2.2.2.1 gX6_shift_X4_keep rfl rfl rfl (by decide +kernel) ⟨Nat.le_of_ble_eq_true rfl, Nat.le_of_ble_eq_true rfl⟩) (Nat.le_of_ble_eq_true rfl) dX6_shift_33 ⟨by decide, by decide⟩ ?_
    refine k9_aload_n X dX6_shift_36 rfl 0 rfl ?_
    refine k9_gX6_0 X in_X6_shift_X6 fl_X6_shift_12 dX6_shift_37 ?_
    refine k9_iload_n X dX6_shift_40 rfl 1 rfl ?_
    refine k9_callVv1 X (k4 c1 c2) (k9_ob_P (by decide)) (cwV 1 X.2.2.2.2.1 gX6_shift_X3_move rfl rfl rfl (by decide +kernel) ⟨Nat.le_of_ble_eq_true rfl, Nat.le_of_ble_eq_true rfl⟩) (Nat.le_of_ble_eq_true rfl) dX6_shift_41 ⟨by decide, by decide⟩ ?_
    refine k9_aload_n X dX6_shift_44 rfl 0 rfl ?_
    refine k9_gX6_1 X in_X6_shift_X6 fl_X6_shift_19 dX6_shift_45 ?_
    refine k9_aload_n X dX6_shift_48 rfl 0 rfl ?_
    refine k9_gX6_0 X in_X6_shift_X6 fl_X6_shift_12 dX6_shift_49 ?_
    refine k9_callVv1 X (k5 c1 c2) k9_ob_57 (cwV 1 X.2.2.2.2.1 gX6_shift_X1_listenTo rfl rfl rfl (by decide +kernel) ⟨Nat.le_of_ble_eq_true rfl, Nat.le_of_ble_eq_true rfl⟩) (Nat.le_of_ble_eq_true rfl) dX6_shift_52 ⟨by decide, by decide⟩ ?_
    refine k9_aload_n X dX6_shift_55 rfl 0 rfl ?_
    refine k9_callVi0 X (k6 c1 c2) k9_ob_0 (cwV 0 X.2.2.2.2.1 gX6_shift_X6_rightNotes rfl rfl rfl (by decide +kernel) ⟨Nat.le_of_ble_eq_true rfl, Nat.le_of_ble_eq_true rfl⟩) (Nat.le_of_ble_eq_true rfl) dX6_shift_56 ⟨by decide, by decide⟩ ?_
    refine k9_sub (lv' := []) [] rfl ?_
    exact (l2 c1 c2)
  · refine k9_sub (lv' := []) [] rfl ?_
    exact (l3 c1 c2)

theorem in_X6_tear_X6 : ∀ w ∈ u_ws RX6 TX6 5, w ∈ wsX6_tear := by decide +kernel
theorem fl_X6_tear_12 : Cond.fieldLink RX6 12 (TX6 0).1 (TX6 0).2.1 (TX6 0).2.2.1 ∈ wsX6_tear := by decide +kernel
theorem fl_X6_tear_26 : Cond.fieldLink RX6 26 (TX6 2).1 (TX6 2).2.1 (TX6 2).2.2.1 ∈ wsX6_tear := by decide +kernel
theorem fl_X6_tear_19 : Cond.fieldLink RX6 19 (TX6 1).1 (TX6 1).2.1 (TX6 1).2.2.1 ∈ wsX6_tear := by decide +kernel
set_option maxRecDepth 20000 in
theorem bk_X6_tear_0 (X : k9_X p R s m args c A G 4 cX6_tear wsX6_tear RX6 rm_X6_tear) {a0 a1 a2 : Int32} {xv1 : Option String} {xv2 : Option String} {rv3 : Int32} {mv4 : k9_Mem} {mv5 : k9_Mem} {mv6 : k9_Mem} {rv7 : Int32}
    (k1 : k9_Cxv l yX6_needSteps wsX6_needSteps rm_X6_needSteps 2 12 G M [.int a0, .int a1] xv1 M)
    (l1 : (∀ E : String, xv1 = some E → k9_UX p l e R s m args below meth c Q A G 4 (0 + 2) (0 + 12) M 2 [(0, .ref (k9_ga G 0)), (1, .int a0), (2, .int a1), (3, .int a2)] [] E))
    (k2 : xv1 = none → k9_Cxv l yX6_needAside wsX6_needAside rm_X6_needAside 1 6 G M [.int a2] xv2 M)
    (l2 : xv1 = none → (∀ E : String, xv2 = some E → k9_UX p l e R s m args below meth c Q A G 4 (0 + 2 + 1) (0 + 12 + 6) M 6 [(0, .ref (k9_ga G 0)), (1, .int a0), (2, .int a1), (3, .int a2)] [] E))
    (k3 : xv1 = none → xv2 = none → k9_Ci l yX3_canTear wsX3_canTear rm_X3_canTear G M [.ref (k9_ga G 1), .int a0, .int a1, .int a2] rv3 M)
    (k4 : xv1 = none → xv2 = none → (¬ rv3 = 0) → k9_Cv l yX4_keep wsX4_keep rm_X4_keep G M [.ref (k9_ga G 64), .ref (k9_ga G 1)] mv4)
    (k5 : xv1 = none → xv2 = none → (¬ rv3 = 0) → k9_Cv l yX3_addToEdges wsX3_addToEdges rm_X3_addToEdges G mv4 [.ref (k9_ga G 1), .int a0, .int a1, .int a2] mv5)
    (k6 : xv1 = none → xv2 = none → (¬ rv3 = 0) → k9_Cv l yX1_listenTo wsX1_listenTo rm_X1_listenTo G mv5 [.ref (k9_ga G 57), .ref (k9_ga G 1)] mv6)
    (k7 : xv1 = none → xv2 = none → (¬ rv3 = 0) → k9_Ci l yX6_rightNotes wsX6_rightNotes rm_X6_rightNotes G mv6 [.ref (k9_ga G 0)] rv7 mv6)
    (l3 : xv1 = none → xv2 = none → (¬ rv3 = 0) → k9_U p l e R s m args below meth c Q A G 4 (0 + 2 + 1) (0 + 12 + 6) mv6 68 [] [.int rv7])
    (l4 : xv1 = none → xv2 = none → (rv3 = 0) → k9_U p l e R s m args below meth c Q A G 4 (0 + 2 + 1) (0 + 12 + 6) M 22 [] []) : k9_U p l e R s m args below meth c Q A G 4 0 0 M 0 [(0, .ref (k9_ga G 0)), (1, .int a0), (2, .int a1), (3, .int a2)] [] := by
  refine k9_iload_n X dX6_tear_0 rfl 1 rfl ?_
  refine k9_iload_n X dX6_tear_1 rfl 2 rfl ?_
  refine k9_callSxv2 X k1  (va_cwS 2 X.2.2.2.2.1 gX6_tear_X6_needSteps rfl rfl rfl (by decide +kernel) ⟨Nat.le_of_ble_eq_true rfl, Nat.le_of_ble_eq_true rfl⟩) (Nat.le_of_ble_eq_true rfl) dX6_tear_2 (k9_rmX X (by decide) (by decide)) l1 (fun c1 => ?_)
  refine k9_iload_n X dX6_tear_5 rfl 3 rfl ?_
  refine k9_callSxv1 X (k2 c1)  (va_cwS 1 X.2.2.2.2.1 gX6_tear_X6_needAside rfl rfl rfl (by decide +kernel) ⟨Nat.le_of_ble_eq_true rfl, Nat.le_of_ble_eq_true rfl⟩) (Nat.le_of_ble_eq_true rfl) dX6_tear_6 (k9_rmX X (by decide) (by decide)) (l2 c1) (fun c2 => ?_)
  refine k9_aload_n X dX6_tear_9 rfl 0 rfl ?_
  refine k9_gX6_0 X in_X6_tear_X6 fl_X6_tear_12 dX6_tear_10 ?_
  refine k9_iload_n X dX6_tear_13 rfl 1 rfl ?_
  refine k9_iload_n X dX6_tear_14 rfl 2 rfl ?_
  refine k9_iload_n X dX6_tear_15 rfl 3 rfl ?_
  refine k9_callVi3 X (k3 c1 c2) (k9_ob_P (by decide)) (cwV 3 X.2.2.2.2.1 gX6_tear_X3_canTear rfl rfl rfl (by decide +kernel) ⟨Nat.le_of_ble_eq_true rfl, Nat.le_of_ble_eq_true rfl⟩) (Nat.le_of_ble_eq_true rfl) dX6_tear_16 ⟨by decide, by decide⟩ ?_
  refine k9_if_ne (tgt := 32) X dX6_tear_19 (by decide) (fun c3 => ?_) (fun c3 => ?_)
  · refine k9_aload_n X dX6_tear_32 rfl 0 rfl ?_
    refine k9_gX6_2 X in_X6_tear_X6 fl_X6_tear_26 dX6_tear_33 ?_
    refine k9_aload_n X dX6_tear_36 rfl 0 rfl ?_
    refine k9_gX6_0 X in_X6_tear_X6 fl_X6_tear_12 dX6_tear_37 ?_
    refine k9_callVv1 X (k4 c1 c2 c3) k9_ob_64 (cwV 1 X.2.2.2.2.1 gX6_tear_X4_keep rfl rfl rfl (by decide +kernel) ⟨Nat.le_of_ble_eq_true rfl, Nat.le_of_ble_eq_true rfl⟩) (Nat.le_of_ble_eq_true rfl) dX6_tear_40 ⟨by decide, by decide⟩ ?_
    refine k9_aload_n X dX6_tear_43 rfl 0 rfl ?_
    refine k9_gX6_0 X in_X6_tear_X6 fl_X6_tear_12 dX6_tear_44 ?_
    refine k9_iload_n X dX6_tear_47 rfl 1 rfl ?_
    refine k9_iload_n X dX6_tear_48 rfl 2 rfl ?_
    refine k9_iload_n X dX6_tear_49 rfl 3 rfl ?_
    refine k9_callVv3 X (k5 c1 c2 c3) (k9_ob_P (by decide)) (cwV 3 X.2.2.2.2.1 gX6_tear_X3_addToEdges rfl rfl rfl (by decide +kernel) ⟨Nat.le_of_ble_eq_true rfl, Nat.le_of_ble_eq_true rfl⟩) (Nat.le_of_ble_eq_true rfl) dX6_tear_50 ⟨by decide, by decide⟩ ?_
    refine k9_aload_n X dX6_tear_53 rfl 0 rfl ?_
    refine k9_gX6_1 X in_X6_tear_X6 fl_X6_tear_19 dX6_tear_54 ?_
    refine k9_aload_n X dX6_tear_57 rfl 0 rfl ?_
    refine k9_gX6_0 X in_X6_tear_X6 fl_X6_tear_12 dX6_tear_58 ?_
    refine k9_callVv1 X (k6 c1 c2 c3) k9_ob_57 (cwV 1 X.2.2.2.2.1 gX6_tear_X1_listenTo rfl rfl rfl (by decide +kernel) ⟨Nat.le_of_ble_eq_true rfl, Nat.le_of_ble_eq_true rfl⟩) (Nat.le_of_ble_eq_true rfl) dX6_tear_61 ⟨by decide, by decide⟩ ?_
    refine k9_aload_n X dX6_tear_64 rfl 0 rfl ?_
    refine k9_callVi0 X (k7 c1 c2 c3) k9_ob_0 (cwV 0 X.2.2.2.2.1 gX6_tear_X6_rightNotes rfl rfl rfl (by decide +kernel) ⟨Nat.le_of_ble_eq_true rfl, Nat.le_of_ble_eq_true rfl⟩) (Nat.le_of_ble_eq_true rfl) dX6_tear_65 ⟨by decide, by decide⟩ ?_
    refine k9_sub (lv' := []) [] rfl ?_
    exact (l3 c1 c2 c3)
  · refine k9_sub (lv' := []) [] rfl ?_
    exact (l4 c1 c2 c3)

theorem in_X6_steer_X6 : ∀ w ∈ u_ws RX6 TX6 5, w ∈ wsX6_steer := by decide +kernel
theorem fl_X6_steer_26 : Cond.fieldLink RX6 26 (TX6 2).1 (TX6 2).2.1 (TX6 2).2.2.1 ∈ wsX6_steer := by decide +kernel
theorem fl_X6_steer_12 : Cond.fieldLink RX6 12 (TX6 0).1 (TX6 0).2.1 (TX6 0).2.2.1 ∈ wsX6_steer := by decide +kernel
theorem fl_X6_steer_19 : Cond.fieldLink RX6 19 (TX6 1).1 (TX6 1).2.1 (TX6 1).2.2.1 ∈ wsX6_steer := by decide +kernel
set_option maxRecDepth 20000 in
theorem bk_X6_steer_0 (X : k9_X p R s m args c A G 4 cX6_steer wsX6_steer RX6 rm_X6_steer) {a0 a1 a2 : Int32} {xv1 : Option String} {xv2 : Option String} {mv3 : k9_Mem} {mv4 : k9_Mem} {mv5 : k9_Mem} {rv6 : Int32}
    (k1 : k9_Cxv l yX6_needSteps wsX6_needSteps rm_X6_needSteps 2 12 G M [.int a0, .int a1] xv1 M)
    (l1 : (∀ E : String, xv1 = some E → k9_UX p l e R s m args below meth c Q A G 4 (0 + 2) (0 + 12) M 2 [(0, .ref (k9_ga G 0)), (1, .int a0), (2, .int a1), (3, .int a2)] [] E))
    (k2 : xv1 = none → k9_Cxv l yX6_needAside wsX6_needAside rm_X6_needAside 1 6 G M [.int a2] xv2 M)
    (l2 : xv1 = none → (∀ E : String, xv2 = some E → k9_UX p l e R s m args below meth c Q A G 4 (0 + 2 + 1) (0 + 12 + 6) M 6 [(0, .ref (k9_ga G 0)), (1, .int a0), (2, .int a1), (3, .int a2)] [] E))
    (k3 : xv1 = none → xv2 = none → k9_Cv l yX4_keep wsX4_keep rm_X4_keep G M [.ref (k9_ga G 64), .ref (k9_ga G 1)] mv3)
    (k4 : xv1 = none → xv2 = none → k9_Cv l yX3_putSteers wsX3_putSteers rm_X3_putSteers G mv3 [.ref (k9_ga G 1), .int a0, .int a1, .int a2] mv4)
    (k5 : xv1 = none → xv2 = none → k9_Cv l yX1_listenTo wsX1_listenTo rm_X1_listenTo G mv4 [.ref (k9_ga G 57), .ref (k9_ga G 1)] mv5)
    (k6 : xv1 = none → xv2 = none → k9_Ci l yX6_rightNotes wsX6_rightNotes rm_X6_rightNotes G mv5 [.ref (k9_ga G 0)] rv6 mv5)
    (l3 : xv1 = none → xv2 = none → k9_U p l e R s m args below meth c Q A G 4 (0 + 2 + 1) (0 + 12 + 6) mv5 45 [] [.int rv6]) : k9_U p l e R s m args below meth c Q A G 4 0 0 M 0 [(0, .ref (k9_ga G 0)), (1, .int a0), (2, .int a1), (3, .int a2)] [] := by
  refine k9_iload_n X dX6_steer_0 rfl 1 rfl ?_
  refine k9_iload_n X dX6_steer_1 rfl 2 rfl ?_
  refine k9_callSxv2 X k1  (va_cwS 2 X.2.2.2.2.1 gX6_steer_X6_needSteps rfl rfl rfl (by decide +kernel) ⟨Nat.le_of_ble_eq_true rfl, Nat.le_of_ble_eq_true rfl⟩) (Nat.le_of_ble_eq_true rfl) dX6_steer_2 (k9_rmX X (by decide) (by decide)) l1 (fun c1 => ?_)
  refine k9_iload_n X dX6_steer_5 rfl 3 rfl ?_
  refine k9_callSxv1 X (k2 c1)  (va_cwS 1 X.2.2.2.2.1 gX6_steer_X6_needAside rfl rfl rfl (by decide +kernel) ⟨Nat.le_of_ble_eq_true rfl, Nat.le_of_ble_eq_true rfl⟩) (Nat.le_of_ble_eq_true rfl) dX6_steer_6 (k9_rmX X (by decide) (by decide)) (l2 c1) (fun c2 => ?_)
  refine k9_aload_n X dX6_steer_9 rfl 0 rfl ?_
  refine k9_gX6_2 X in_X6_steer_X6 fl_X6_steer_26 dX6_steer_10 ?_
  refine k9_aload_n X dX6_steer_13 rfl 0 rfl ?_
  refine k9_gX6_0 X in_X6_steer_X6 fl_X6_steer_12 dX6_steer_14 ?_
  refine k9_callVv1 X (k3 c1 c2) k9_ob_64 (cwV 1 X.2.2.2.2.1 gX6_steer_X4_keep rfl rfl rfl (by decide +kernel) ⟨Nat.le_of_ble_eq_true rfl, Nat.le_of_ble_eq_true rfl⟩) (Nat.le_of_ble_eq_true rfl) dX6_steer_17 ⟨by decide, by decide⟩ ?_
  refine k9_aload_n X dX6_steer_20 rfl 0 rfl ?_
  refine k9_gX6_0 X in_X6_steer_X6 fl_X6_steer_12 dX6_steer_21 ?_
  refine k9_iload_n X dX6_steer_24 rfl 1 rfl ?_
  refine k9_iload_n X dX6_steer_25 rfl 2 rfl ?_
  refine k9_iload_n X dX6_steer_26 rfl 3 rfl ?_
  refine k9_callVv3 X (k4 c1 c2) (k9_ob_P (by decide)) (cwV 3 X.2.2.2.2.1 gX6_steer_X3_putSteers rfl rfl rfl (by decide +kernel) ⟨Nat.le_of_ble_eq_true rfl, Nat.le_of_ble_eq_true rfl⟩) (Nat.le_of_ble_eq_true rfl) dX6_steer_27 ⟨by decide, by decide⟩ ?_
  refine k9_aload_n X dX6_steer_30 rfl 0 rfl ?_
  refine k9_gX6_1 X in_X6_steer_X6 fl_X6_steer_19 dX6_steer_31 ?_
  refine k9_aload_n X dX6_steer_34 rfl 0 rfl ?_
  refine k9_gX6_0 X in_X6_steer_X6 fl_X6_steer_12 dX6_steer_35 ?_
  refine k9_callVv1 X (k5 c1 c2) k9_ob_57 (cwV 1 X.2.2.2.2.1 gX6_steer_X1_listenTo rfl rfl rfl (by decide +kernel) ⟨Nat.le_of_ble_eq_true rfl, Nat.le_of_ble_eq_true rfl⟩) (Nat.le_of_ble_eq_true rfl) dX6_steer_38 ⟨by decide, by decide⟩ ?_
  refine k9_aload_n X dX6_steer_41 rfl 0 rfl ?_
  refine k9_callVi0 X (k6 c1 c2) k9_ob_0 (cwV 0 X.2.2.2.2.1 gX6_steer_X6_rightNotes rfl rfl rfl (by decide +kernel) ⟨Nat.le_of_ble_eq_true rfl, Nat.le_of_ble_eq_true rfl⟩) (Nat.le_of_ble_eq_true rfl) dX6_steer_42 ⟨by decide, by decide⟩ ?_
  refine k9_sub (lv' := []) [] rfl ?_
  exact (l3 c1 c2)

theorem in_X6_set_X6 : ∀ w ∈ u_ws RX6 TX6 5, w ∈ wsX6_set := by decide +kernel
theorem fl_X6_set_26 : Cond.fieldLink RX6 26 (TX6 2).1 (TX6 2).2.1 (TX6 2).2.2.1 ∈ wsX6_set := by decide +kernel
theorem fl_X6_set_12 : Cond.fieldLink RX6 12 (TX6 0).1 (TX6 0).2.1 (TX6 0).2.2.1 ∈ wsX6_set := by decide +kernel
theorem in_X6_set_X3 : ∀ w ∈ u_ws RX3 TX3 7, w ∈ wsX6_set := by decide +kernel
theorem fl_X6_set_136 : Cond.fieldLink RX6 136 (TX3 6).1 (TX3 6).2.1 (TX3 6).2.2.1 ∈ wsX6_set := by decide +kernel
theorem fl_X6_set_19 : Cond.fieldLink RX6 19 (TX6 1).1 (TX6 1).2.1 (TX6 1).2.2.1 ∈ wsX6_set := by decide +kernel
theorem fl_X6_set_132 : Cond.fieldLink RX6 132 (TX3 5).1 (TX3 5).2.1 (TX3 5).2.2.1 ∈ wsX6_set := by decide +kernel
set_option maxRecDepth 20000 in
theorem bk_X6_set_0 (X : k9_X p R s m args c A G 5 cX6_set wsX6_set RX6 rm_X6_set) {a0 a1 : Int32} {xv1 : Option String} {mv2 : k9_Mem} {rv3 : Int32} {mv4 : k9_Mem} {mv5 : k9_Mem} {rv6 : Int32} {mv7 : k9_Mem}
    (k1 : k9_Cxv l yX6_needSetting wsX6_needSetting rm_X6_needSetting 1 6 G M [.int a0] xv1 M)
    (l1 : (∀ E : String, xv1 = some E → k9_UX p l e R s m args below meth c Q A G 5 (0 + 1) (0 + 6) M 1 [(0, .ref (k9_ga G 0)), (1, .int a0), (2, .int a1)] [] E))
    (l2 : xv1 = none → (¬ a0 = 0) → (a1 < 0) → k9_U p l e R s m args below meth c Q A G 5 (0 + 1) (0 + 6) M 24 [] [])
    (k2 : xv1 = none → (¬ a0 = 0) → (¬ (a1 < 0)) → (a1 ≤ (8 : Int32)) → k9_Cv l yX4_keep wsX4_keep rm_X4_keep G M [.ref (k9_ga G 64), .ref (k9_ga G 1)] mv2)
    (k3 : xv1 = none → (¬ a0 = 0) → (¬ (a1 < 0)) → (a1 ≤ (8 : Int32)) → k9_Ci l yX6_settingOf wsX6_settingOf rm_X6_settingOf G mv2 [.ref (k9_ga G 0), .int a0] rv3 mv2)
    (k4 : xv1 = none → (¬ a0 = 0) → (¬ (a1 < 0)) → (a1 ≤ (8 : Int32)) → k9_Cv l yX1_listenTo wsX1_listenTo rm_X1_listenTo G (k9_st mv2 1 6 a1) [.ref (k9_ga G 57), .ref (k9_ga G 1)] mv4)
    (l3 : xv1 = none → (¬ a0 = 0) → (¬ (a1 < 0)) → (a1 ≤ (8 : Int32)) → k9_U p l e R s m args below meth c Q A G 5 (0 + 1) (0 + 6) mv4 88 [] [.int rv3])
    (l4 : xv1 = none → (¬ a0 = 0) → (¬ (a1 < 0)) → (¬ (a1 ≤ (8 : Int32))) → k9_U p l e R s m args below meth c Q A G 5 (0 + 1) (0 + 6) M 24 [] [])
    (l5 : xv1 = none → (a0 = 0) → (a1 < 0) → k9_U p l e R s m args below meth c Q A G 5 (0 + 1) (0 + 6) M 24 [] [])
    (k5 : xv1 = none → (a0 = 0) → (¬ (a1 < 0)) → (a1 ≤ (3 : Int32)) → k9_Cv l yX4_keep wsX4_keep rm_X4_keep G M [.ref (k9_ga G 64), .ref (k9_ga G 1)] mv5)
    (k6 : xv1 = none → (a0 = 0) → (¬ (a1 < 0)) → (a1 ≤ (3 : Int32)) → k9_Ci l yX6_settingOf wsX6_settingOf rm_X6_settingOf G mv5 [.ref (k9_ga G 0), .int a0] rv6 mv5)
    (k7 : xv1 = none → (a0 = 0) → (¬ (a1 < 0)) → (a1 ≤ (3 : Int32)) → k9_Cv l yX1_listenTo wsX1_listenTo rm_X1_listenTo G (k9_st mv5 1 5 a1) [.ref (k9_ga G 57), .ref (k9_ga G 1)] mv7)
    (l6 : xv1 = none → (a0 = 0) → (¬ (a1 < 0)) → (a1 ≤ (3 : Int32)) → k9_U p l e R s m args below meth c Q A G 5 (0 + 1) (0 + 6) mv7 88 [] [.int rv6])
    (l7 : xv1 = none → (a0 = 0) → (¬ (a1 < 0)) → (¬ (a1 ≤ (3 : Int32))) → k9_U p l e R s m args below meth c Q A G 5 (0 + 1) (0 + 6) M 24 [] []) : k9_U p l e R s m args below meth c Q A G 5 0 0 M 0 [(0, .ref (k9_ga G 0)), (1, .int a0), (2, .int a1)] [] := by
  refine k9_iload_n X dX6_set_0 rfl 1 rfl ?_
  refine k9_callSxv1 X k1  (va_cwS 1 X.2.2.2.2.1 gX6_set_X6_needSetting rfl rfl rfl (by decide +kernel) ⟨Nat.le_of_ble_eq_true rfl, Nat.le_of_ble_eq_true rfl⟩) (Nat.le_of_ble_eq_true rfl) dX6_set_1 (k9_rmX X (by decide) (by decide)) l1 (fun c1 => ?_)
  refine k9_iload_n X dX6_set_4 rfl 1 rfl ?_
  refine k9_if_ne (tgt := 12) X dX6_set_5 (by decide) (fun c2 => ?_) (fun c2 => ?_)
  · refine k9_bipush (v := 8) X dX6_set_12 (by decide) ?_
    refine k9_istore_n (lv' := [(0, .ref (k9_ga G 0)), (1, .int a0), (2, .int a1), (3, .int (8 : Int32))]) X dX6_set_14 rfl (by decide) [1, 2, 3, 0] rfl ?_
    refine k9_iload_n X dX6_set_15 rfl 2 rfl ?_
    refine k9_if_lt (tgt := 24) X dX6_set_16 (by decide) (fun c3 => ?_) (fun c3 => ?_)
    · refine k9_sub (lv' := []) [] rfl ?_
      exact (l2 c1 c2 c3)
    · refine k9_iload_n X dX6_set_19 rfl 2 rfl ?_
      refine k9_iload_n X dX6_set_20 rfl 3 rfl ?_
      refine k9_icmp_le (tgt := 34) X dX6_set_21 (by decide) (fun c4 => ?_) (fun c4 => ?_)
      · refine k9_aload_n X dX6_set_34 rfl 0 rfl ?_
        refine k9_gX6_2 X in_X6_set_X6 fl_X6_set_26 dX6_set_35 ?_
        refine k9_aload_n X dX6_set_38 rfl 0 rfl ?_
        refine k9_gX6_0 X in_X6_set_X6 fl_X6_set_12 dX6_set_39 ?_
        refine k9_callVv1 X (k2 c1 c2 c3 c4) k9_ob_64 (cwV 1 X.2.2.2.2.1 gX6_set_X4_keep rfl rfl rfl (by decide +kernel) ⟨Nat.le_of_ble_eq_true rfl, Nat.le_of_ble_eq_true rfl⟩) (Nat.le_of_ble_eq_true rfl) dX6_set_42 ⟨by decide, by decide⟩ ?_
        refine k9_aload_n X dX6_set_45 rfl 0 rfl ?_
        refine k9_iload_n X dX6_set_46 rfl 1 rfl ?_
        refine k9_callVi1 X (k3 c1 c2 c3 c4) k9_ob_0 (cwV 1 X.2.2.2.2.1 gX6_set_X6_settingOf rfl rfl rfl (by decide +kernel) ⟨Nat.le_of_ble_eq_true rfl, Nat.le_of_ble_eq_true rfl⟩) (Nat.le_of_ble_eq_true rfl) dX6_set_47 ⟨by decide, by decide⟩ ?_
        refine k9_istore (lv' := [(0, .ref (k9_ga G 0)), (1, .int a0), (2, .int a1), (3, .int (8 : Int32)), (4, .int rv3)]) X dX6_set_50 (by decide) [1, 2, 3, 4, 0] rfl ?_
        refine k9_iload_n X dX6_set_52 rfl 1 rfl ?_
        refine k9_if_ne (tgt := 67) X dX6_set_53 (by decide) (fun _ => ?_) (fun c => absurd c c2)
        refine k9_aload_n X dX6_set_67 rfl 0 rfl ?_
        refine k9_gX6_0 X in_X6_set_X6 fl_X6_set_12 dX6_set_68 ?_
        refine k9_iload_n X dX6_set_71 rfl 2 rfl ?_
        refine k9_pX3_6 (q := 1) X (by decide) in_X6_set_X3 fl_X6_set_136 dX6_set_72 ?_
        refine k9_aload_n X dX6_set_75 rfl 0 rfl ?_
        refine k9_gX6_1 X in_X6_set_X6 fl_X6_set_19 dX6_set_76 ?_
        refine k9_aload_n X dX6_set_79 rfl 0 rfl ?_
        refine k9_gX6_0 X in_X6_set_X6 fl_X6_set_12 dX6_set_80 ?_
        refine k9_callVv1 X (k4 c1 c2 c3 c4) k9_ob_57 (cwV 1 X.2.2.2.2.1 gX6_set_X1_listenTo rfl rfl rfl (by decide +kernel) ⟨Nat.le_of_ble_eq_true rfl, Nat.le_of_ble_eq_true rfl⟩) (Nat.le_of_ble_eq_true rfl) dX6_set_83 ⟨by decide, by decide⟩ ?_
        refine k9_iload X dX6_set_86 4 rfl ?_
        refine k9_sub (lv' := []) [] rfl ?_
        exact (l3 c1 c2 c3 c4)
      · refine k9_sub (lv' := []) [] rfl ?_
        exact (l4 c1 c2 c3 c4)
  · refine k9_iconst (v := 3) X dX6_set_8 (by decide) ?_
    refine k9_goto (tgt := 14) X dX6_set_9 (by decide) ?_
    refine k9_istore_n (lv' := [(0, .ref (k9_ga G 0)), (1, .int a0), (2, .int a1), (3, .int (3 : Int32))]) X dX6_set_14 rfl (by decide) [1, 2, 3, 0] rfl ?_
    refine k9_iload_n X dX6_set_15 rfl 2 rfl ?_
    refine k9_if_lt (tgt := 24) X dX6_set_16 (by decide) (fun c5 => ?_) (fun c5 => ?_)
    · refine k9_sub (lv' := []) [] rfl ?_
      exact (l5 c1 c2 c5)
    · refine k9_iload_n X dX6_set_19 rfl 2 rfl ?_
      refine k9_iload_n X dX6_set_20 rfl 3 rfl ?_
      refine k9_icmp_le (tgt := 34) X dX6_set_21 (by decide) (fun c6 => ?_) (fun c6 => ?_)
      · refine k9_aload_n X dX6_set_34 rfl 0 rfl ?_
        refine k9_gX6_2 X in_X6_set_X6 fl_X6_set_26 dX6_set_35 ?_
        refine k9_aload_n X dX6_set_38 rfl 0 rfl ?_
        refine k9_gX6_0 X in_X6_set_X6 fl_X6_set_12 dX6_set_39 ?_
        refine k9_callVv1 X (k5 c1 c2 c5 c6) k9_ob_64 (cwV 1 X.2.2.2.2.1 gX6_set_X4_keep rfl rfl rfl (by decide +kernel) ⟨Nat.le_of_ble_eq_true rfl, Nat.le_of_ble_eq_true rfl⟩) (Nat.le_of_ble_eq_true rfl) dX6_set_42 ⟨by decide, by decide⟩ ?_
        refine k9_aload_n X dX6_set_45 rfl 0 rfl ?_
        refine k9_iload_n X dX6_set_46 rfl 1 rfl ?_
        refine k9_callVi1 X (k6 c1 c2 c5 c6) k9_ob_0 (cwV 1 X.2.2.2.2.1 gX6_set_X6_settingOf rfl rfl rfl (by decide +kernel) ⟨Nat.le_of_ble_eq_true rfl, Nat.le_of_ble_eq_true rfl⟩) (Nat.le_of_ble_eq_true rfl) dX6_set_47 ⟨by decide, by decide⟩ ?_
        refine k9_istore (lv' := [(0, .ref (k9_ga G 0)), (1, .int a0), (2, .int a1), (3, .int (3 : Int32)), (4, .int rv6)]) X dX6_set_50 (by decide) [1, 2, 3, 4, 0] rfl ?_
        refine k9_iload_n X dX6_set_52 rfl 1 rfl ?_
        refine k9_if_ne (tgt := 67) X dX6_set_53 (by decide) (fun c => absurd c2 c) (fun _ => ?_)
        refine k9_aload_n X dX6_set_56 rfl 0 rfl ?_
        refine k9_gX6_0 X in_X6_set_X6 fl_X6_set_12 dX6_set_57 ?_
        refine k9_iload_n X dX6_set_60 rfl 2 rfl ?_
        refine k9_pX3_5 (q := 1) X (by decide) in_X6_set_X3 fl_X6_set_132 dX6_set_61 ?_
        refine k9_goto (tgt := 75) X dX6_set_64 (by decide) ?_
        refine k9_aload_n X dX6_set_75 rfl 0 rfl ?_
        refine k9_gX6_1 X in_X6_set_X6 fl_X6_set_19 dX6_set_76 ?_
        refine k9_aload_n X dX6_set_79 rfl 0 rfl ?_
        refine k9_gX6_0 X in_X6_set_X6 fl_X6_set_12 dX6_set_80 ?_
        refine k9_callVv1 X (k7 c1 c2 c5 c6) k9_ob_57 (cwV 1 X.2.2.2.2.1 gX6_set_X1_listenTo rfl rfl rfl (by decide +kernel) ⟨Nat.le_of_ble_eq_true rfl, Nat.le_of_ble_eq_true rfl⟩) (Nat.le_of_ble_eq_true rfl) dX6_set_83 ⟨by decide, by decide⟩ ?_
        refine k9_iload X dX6_set_86 4 rfl ?_
        refine k9_sub (lv' := []) [] rfl ?_
        exact (l6 c1 c2 c5 c6)
      · refine k9_sub (lv' := []) [] rfl ?_
        exact (l7 c1 c2 c5 c6)

theorem in_X6_learn_X6 : ∀ w ∈ u_ws RX6 TX6 5, w ∈ wsX6_learn := by decide +kernel
theorem fl_X6_learn_26 : Cond.fieldLink RX6 26 (TX6 2).1 (TX6 2).2.1 (TX6 2).2.2.1 ∈ wsX6_learn := by decide +kernel
theorem fl_X6_learn_12 : Cond.fieldLink RX6 12 (TX6 0).1 (TX6 0).2.1 (TX6 0).2.2.1 ∈ wsX6_learn := by decide +kernel
theorem in_X6_learn_X3 : ∀ w ∈ u_ws RX3 TX3 7, w ∈ wsX6_learn := by decide +kernel
theorem fl_X6_learn_139 : Cond.fieldLink RX6 139 (TX3 4).1 (TX3 4).2.1 (TX3 4).2.2.1 ∈ wsX6_learn := by decide +kernel
theorem fl_X6_learn_19 : Cond.fieldLink RX6 19 (TX6 1).1 (TX6 1).2.1 (TX6 1).2.2.1 ∈ wsX6_learn := by decide +kernel
theorem in_X6_learn_X1 : ∀ w ∈ u_ws RX1 TX1 4, w ∈ wsX6_learn := by decide +kernel
theorem fl_X6_learn_143 : Cond.fieldLink RX6 143 (TX1 1).1 (TX1 1).2.1 (TX1 1).2.2.1 ∈ wsX6_learn := by decide +kernel
set_option maxRecDepth 20000 in
theorem bk_X6_learn_0 (X : k9_X p R s m args c A G 1 cX6_learn wsX6_learn RX6 rm_X6_learn) {mv1 : k9_Mem} {mv2 : k9_Mem} {rv3 : Int32}
    (k1 : k9_Cv l yX4_keep wsX4_keep rm_X4_keep G M [.ref (k9_ga G 64), .ref (k9_ga G 1)] mv1)
    (k2 : k9_Cv l yX0_copyNotes wsX0_copyNotes rm_X0_copyNotes G mv1 [.ref (k9_ga G 6), .ref (k9_ga G 59)] mv2)
    (k3 : k9_Ci l yX0_noteCount wsX0_noteCount rm_X0_noteCount G mv2 [.ref (k9_ga G 6)] rv3 mv2)
    (l1 : k9_U p l e R s m args below meth c Q A G 1 0 0 mv2 38 [] [.int rv3]) : k9_U p l e R s m args below meth c Q A G 1 0 0 M 0 [(0, .ref (k9_ga G 0))] [] := by
  refine k9_aload_n X dX6_learn_0 rfl 0 rfl ?_
  refine k9_gX6_2 X in_X6_learn_X6 fl_X6_learn_26 dX6_learn_1 ?_
  refine k9_aload_n X dX6_learn_4 rfl 0 rfl ?_
  refine k9_gX6_0 X in_X6_learn_X6 fl_X6_learn_12 dX6_learn_5 ?_
  refine k9_callVv1 X k1 k9_ob_64 (cwV 1 X.2.2.2.2.1 gX6_learn_X4_keep rfl rfl rfl (by decide +kernel) ⟨Nat.le_of_ble_eq_true rfl, Nat.le_of_ble_eq_true rfl⟩) (Nat.le_of_ble_eq_true rfl) dX6_learn_8 ⟨Nat.zero_le _, Nat.zero_le _⟩ ?_
  refine k9_aload_n X dX6_learn_11 rfl 0 rfl ?_
  refine k9_gX6_0 X in_X6_learn_X6 fl_X6_learn_12 dX6_learn_12 ?_
  refine k9_gX3_4 (q := 1) (q1 := 6) X (by decide) (by rfl) in_X6_learn_X3 fl_X6_learn_139 dX6_learn_15 ?_
  refine k9_aload_n X dX6_learn_18 rfl 0 rfl ?_
  refine k9_gX6_1 X in_X6_learn_X6 fl_X6_learn_19 dX6_learn_19 ?_
  refine k9_gX1_1 X in_X6_learn_X1 fl_X6_learn_143 dX6_learn_22 ?_
  refine k9_callVv1 X k2 (k9_ob_C (by decide)) (cwV 1 X.2.2.2.2.1 gX6_learn_X0_copyNotes rfl rfl rfl (by decide +kernel) ⟨Nat.le_of_ble_eq_true rfl, Nat.le_of_ble_eq_true rfl⟩) (Nat.le_of_ble_eq_true rfl) dX6_learn_25 ⟨Nat.zero_le _, Nat.zero_le _⟩ ?_
  refine k9_aload_n X dX6_learn_28 rfl 0 rfl ?_
  refine k9_gX6_0 X in_X6_learn_X6 fl_X6_learn_12 dX6_learn_29 ?_
  refine k9_gX3_4 (q := 1) (q1 := 6) X (by decide) (by rfl) in_X6_learn_X3 fl_X6_learn_139 dX6_learn_32 ?_
  refine k9_callVi0 X k3 (k9_ob_C (by decide)) (cwV 0 X.2.2.2.2.1 gX6_learn_X0_noteCount rfl rfl rfl (by decide +kernel) ⟨Nat.le_of_ble_eq_true rfl, Nat.le_of_ble_eq_true rfl⟩) (Nat.le_of_ble_eq_true rfl) dX6_learn_35 ⟨Nat.zero_le _, Nat.zero_le _⟩ ?_
  refine k9_sub (lv' := []) [] rfl ?_
  exact l1

theorem in_X6_append_X6 : ∀ w ∈ u_ws RX6 TX6 5, w ∈ wsX6_append := by decide +kernel
theorem fl_X6_append_33 : Cond.fieldLink RX6 33 (TX6 3).1 (TX6 3).2.1 (TX6 3).2.2.1 ∈ wsX6_append := by decide +kernel
set_option maxRecDepth 20000 in
theorem bk_X6_append_0 (X : k9_X p R s m args c A G 2 cX6_append wsX6_append RX6 rm_X6_append) {a0 : Int32} {rv1 : Int32} {rv2 : Int32} {mv2 : k9_Mem}
    (l1 : (a0 < (33 : Int32)) → k9_U p l e R s m args below meth c Q A G 2 0 0 M 12 [] [])
    (k1 : (¬ (a0 < (33 : Int32))) → (a0 ≤ (126 : Int32)) → k9_Ci l yX2_isFull wsX2_isFull rm_X2_isFull G M [.ref (k9_ga G 66)] rv1 M)
    (k2 : (¬ (a0 < (33 : Int32))) → (a0 ≤ (126 : Int32)) → (rv1 = 0) → k9_Ci l yX2_add wsX2_add rm_X2_add G M [.ref (k9_ga G 66), .int a0] rv2 mv2)
    (l2 : (¬ (a0 < (33 : Int32))) → (a0 ≤ (126 : Int32)) → (rv1 = 0) → k9_U p l e R s m args below meth c Q A G 2 0 0 mv2 50 [] [.int rv2])
    (l3 : (¬ (a0 < (33 : Int32))) → (a0 ≤ (126 : Int32)) → (¬ (rv1 = 0)) → k9_U p l e R s m args below meth c Q A G 2 0 0 M 32 [] [])
    (l4 : (¬ (a0 < (33 : Int32))) → (¬ (a0 ≤ (126 : Int32))) → k9_U p l e R s m args below meth c Q A G 2 0 0 M 12 [] []) : k9_U p l e R s m args below meth c Q A G 2 0 0 M 0 [(0, .ref (k9_ga G 0)), (1, .int a0)] [] := by
  refine k9_iload_n X dX6_append_0 rfl 1 rfl ?_
  refine k9_bipush (v := 33) X dX6_append_1 (by decide) ?_
  refine k9_icmp_lt (tgt := 12) X dX6_append_3 (by decide) (fun c1 => ?_) (fun c1 => ?_)
  · refine k9_sub (lv' := []) [] rfl ?_
    exact (l1 c1)
  · refine k9_iload_n X dX6_append_6 rfl 1 rfl ?_
    refine k9_bipush (v := 126) X dX6_append_7 (by decide) ?_
    refine k9_icmp_le (tgt := 22) X dX6_append_9 (by decide) (fun c2 => ?_) (fun c2 => ?_)
    · refine k9_aload_n X dX6_append_22 rfl 0 rfl ?_
      refine k9_gX6_3 X in_X6_append_X6 fl_X6_append_33 dX6_append_23 ?_
      refine k9_callVi0 X (k1 c1 c2) k9_ob_66 (cwV 0 X.2.2.2.2.1 gX6_append_X2_isFull rfl rfl rfl (by decide +kernel) ⟨Nat.le_of_ble_eq_true rfl, Nat.le_of_ble_eq_true rfl⟩) (Nat.le_of_ble_eq_true rfl) dX6_append_26 ⟨Nat.zero_le _, Nat.zero_le _⟩ ?_
      refine k9_if_eq (tgt := 42) X dX6_append_29 (by decide) (fun c3 => ?_) (fun c3 => ?_)
      · refine k9_aload_n X dX6_append_42 rfl 0 rfl ?_
        refine k9_gX6_3 X in_X6_append_X6 fl_X6_append_33 dX6_append_43 ?_
        refine k9_iload_n X dX6_append_46 rfl 1 rfl ?_
        refine k9_callVi1 X (k2 c1 c2 c3) k9_ob_66 (cwV 1 X.2.2.2.2.1 gX6_append_X2_add rfl rfl rfl (by decide +kernel) ⟨Nat.le_of_ble_eq_true rfl, Nat.le_of_ble_eq_true rfl⟩) (Nat.le_of_ble_eq_true rfl) dX6_append_47 ⟨Nat.zero_le _, Nat.zero_le _⟩ ?_
        refine k9_sub (lv' := []) [] rfl ?_
        exact (l2 c1 c2 c3)
      · refine k9_sub (lv' := []) [] rfl ?_
        exact (l3 c1 c2 c3)
    · refine k9_sub (lv' := []) [] rfl ?_
      exact (l4 c1 c2)

theorem in_X6_clearBuffer_X6 : ∀ w ∈ u_ws RX6 TX6 5, w ∈ wsX6_clearBuffer := by decide +kernel
theorem fl_X6_clearBuffer_33 : Cond.fieldLink RX6 33 (TX6 3).1 (TX6 3).2.1 (TX6 3).2.2.1 ∈ wsX6_clearBuffer := by decide +kernel
set_option maxRecDepth 20000 in
theorem bk_X6_clearBuffer_0 (X : k9_X p R s m args c A G 1 cX6_clearBuffer wsX6_clearBuffer RX6 rm_X6_clearBuffer) {rv1 : Int32} {mv1 : k9_Mem}
    (k1 : k9_Ci l yX2_empty wsX2_empty rm_X2_empty G M [.ref (k9_ga G 66)] rv1 mv1)
    (l1 : k9_U p l e R s m args below meth c Q A G 1 0 0 mv1 7 [] [.int rv1]) : k9_U p l e R s m args below meth c Q A G 1 0 0 M 0 [(0, .ref (k9_ga G 0))] [] := by
  refine k9_aload_n X dX6_clearBuffer_0 rfl 0 rfl ?_
  refine k9_gX6_3 X in_X6_clearBuffer_X6 fl_X6_clearBuffer_33 dX6_clearBuffer_1 ?_
  refine k9_callVi0 X k1 k9_ob_66 (cwV 0 X.2.2.2.2.1 gX6_clearBuffer_X2_empty rfl rfl rfl (by decide +kernel) ⟨Nat.le_of_ble_eq_true rfl, Nat.le_of_ble_eq_true rfl⟩) (Nat.le_of_ble_eq_true rfl) dX6_clearBuffer_4 ⟨Nat.zero_le _, Nat.zero_le _⟩ ?_
  refine k9_sub (lv' := []) [] rfl ?_
  exact l1

theorem in_X6_firstError_X6 : ∀ w ∈ u_ws RX6 TX6 5, w ∈ wsX6_firstError := by decide +kernel
theorem fl_X6_firstError_33 : Cond.fieldLink RX6 33 (TX6 3).1 (TX6 3).2.1 (TX6 3).2.2.1 ∈ wsX6_firstError := by decide +kernel
set_option maxRecDepth 20000 in
theorem bk_X6_firstError_0 (X : k9_X p R s m args c A G 1 cX6_firstError wsX6_firstError RX6 rm_X6_firstError) {rv1 : Int32} {mv1 : k9_Mem}
    (k1 : k9_Ci l yX2_readAll wsX2_readAll rm_X2_readAll G M [.ref (k9_ga G 66)] rv1 mv1)
    (l1 : k9_U p l e R s m args below meth c Q A G 1 0 0 mv1 7 [] [.int rv1]) : k9_U p l e R s m args below meth c Q A G 1 0 0 M 0 [(0, .ref (k9_ga G 0))] [] := by
  refine k9_aload_n X dX6_firstError_0 rfl 0 rfl ?_
  refine k9_gX6_3 X in_X6_firstError_X6 fl_X6_firstError_33 dX6_firstError_1 ?_
  refine k9_callVi0 X k1 k9_ob_66 (cwV 0 X.2.2.2.2.1 gX6_firstError_X2_readAll rfl rfl rfl (by decide +kernel) ⟨Nat.le_of_ble_eq_true rfl, Nat.le_of_ble_eq_true rfl⟩) (Nat.le_of_ble_eq_true rfl) dX6_firstError_4 ⟨Nat.zero_le _, Nat.zero_le _⟩ ?_
  refine k9_sub (lv' := []) [] rfl ?_
  exact l1

theorem in_X6_punchAll_X6 : ∀ w ∈ u_ws RX6 TX6 5, w ∈ wsX6_punchAll := by decide +kernel
theorem fl_X6_punchAll_33 : Cond.fieldLink RX6 33 (TX6 3).1 (TX6 3).2.1 (TX6 3).2.2.1 ∈ wsX6_punchAll := by decide +kernel
theorem fl_X6_punchAll_26 : Cond.fieldLink RX6 26 (TX6 2).1 (TX6 2).2.1 (TX6 2).2.2.1 ∈ wsX6_punchAll := by decide +kernel
theorem fl_X6_punchAll_12 : Cond.fieldLink RX6 12 (TX6 0).1 (TX6 0).2.1 (TX6 0).2.2.1 ∈ wsX6_punchAll := by decide +kernel
theorem fl_X6_punchAll_19 : Cond.fieldLink RX6 19 (TX6 1).1 (TX6 1).2.1 (TX6 1).2.2.1 ∈ wsX6_punchAll := by decide +kernel
set_option maxRecDepth 20000 in
theorem bk_X6_punchAll_0 (X : k9_X p R s m args c A G 2 cX6_punchAll wsX6_punchAll RX6 rm_X6_punchAll) {rv1 : Int32} {mv1 : k9_Mem} {rv2 : Int32} {mv3 : k9_Mem} {rv4 : Int32} {mv4 : k9_Mem} {rv5 : Int32} {mv5 : k9_Mem} {mv6 : k9_Mem}
    (k1 : k9_Ci l yX2_readRow wsX2_readRow rm_X2_readRow G M [.ref (k9_ga G 66)] rv1 mv1)
    (k2 : (¬ rv1 = 0) → k9_Ci l yX2_allFit wsX2_allFit rm_X2_allFit G mv1 [.ref (k9_ga G 66)] rv2 mv1)
    (k3 : (¬ rv1 = 0) → (¬ rv2 = 0) → k9_Cv l yX4_keep wsX4_keep rm_X4_keep G mv1 [.ref (k9_ga G 64), .ref (k9_ga G 1)] mv3)
    (k4 : (¬ rv1 = 0) → (¬ rv2 = 0) → k9_Ci l yX2_cutAll wsX2_cutAll rm_X2_cutAll G mv3 [.ref (k9_ga G 66), .ref (k9_ga G 1)] rv4 mv4)
    (k5 : (¬ rv1 = 0) → (¬ rv2 = 0) → k9_Ci l yX2_empty wsX2_empty rm_X2_empty G mv4 [.ref (k9_ga G 66)] rv5 mv5)
    (k6 : (¬ rv1 = 0) → (¬ rv2 = 0) → k9_Cv l yX1_listenTo wsX1_listenTo rm_X1_listenTo G mv5 [.ref (k9_ga G 57), .ref (k9_ga G 1)] mv6)
    (l1 : (¬ rv1 = 0) → (¬ rv2 = 0) → k9_U p l e R s m args below meth c Q A G 2 0 0 mv6 83 [] [.int rv4])
    (l2 : (¬ rv1 = 0) → (rv2 = 0) → k9_U p l e R s m args below meth c Q A G 2 0 0 mv1 30 [] [])
    (l3 : (rv1 = 0) → k9_U p l e R s m args below meth c Q A G 2 0 0 mv1 10 [] []) : k9_U p l e R s m args below meth c Q A G 2 0 0 M 0 [(0, .ref (k9_ga G 0))] [] := by
  refine k9_aload_n X dX6_punchAll_0 rfl 0 rfl ?_
  refine k9_gX6_3 X in_X6_punchAll_X6 fl_X6_punchAll_33 dX6_punchAll_1 ?_
  refine k9_callVi0 X k1 k9_ob_66 (cwV 0 X.2.2.2.2.1 gX6_punchAll_X2_readRow rfl rfl rfl (by decide +kernel) ⟨Nat.le_of_ble_eq_true rfl, Nat.le_of_ble_eq_true rfl⟩) (Nat.le_of_ble_eq_true rfl) dX6_punchAll_4 ⟨Nat.zero_le _, Nat.zero_le _⟩ ?_
  refine k9_if_ne (tgt := 20) X dX6_punchAll_7 (by decide) (fun c1 => ?_) (fun c1 => ?_)
  · refine k9_aload_n X dX6_punchAll_20 rfl 0 rfl ?_
    refine k9_gX6_3 X in_X6_punchAll_X6 fl_X6_punchAll_33 dX6_punchAll_21 ?_
    refine k9_callVi0 X (k2 c1) k9_ob_66 (cwV 0 X.2.2.2.2.1 gX6_punchAll_X2_allFit rfl rfl rfl (by decide +kernel) ⟨Nat.le_of_ble_eq_true rfl, Nat.le_of_ble_eq_true rfl⟩) (Nat.le_of_ble_eq_true rfl) dX6_punchAll_24 ⟨Nat.zero_le _, Nat.zero_le _⟩ ?_
    refine k9_if_ne (tgt := 40) X dX6_punchAll_27 (by decide) (fun c2 => ?_) (fun c2 => ?_)
    · refine k9_aload_n X dX6_punchAll_40 rfl 0 rfl ?_
      refine k9_gX6_2 X in_X6_punchAll_X6 fl_X6_punchAll_26 dX6_punchAll_41 ?_
      refine k9_aload_n X dX6_punchAll_44 rfl 0 rfl ?_
      refine k9_gX6_0 X in_X6_punchAll_X6 fl_X6_punchAll_12 dX6_punchAll_45 ?_
      refine k9_callVv1 X (k3 c1 c2) k9_ob_64 (cwV 1 X.2.2.2.2.1 gX6_punchAll_X4_keep rfl rfl rfl (by decide +kernel) ⟨Nat.le_of_ble_eq_true rfl, Nat.le_of_ble_eq_true rfl⟩) (Nat.le_of_ble_eq_true rfl) dX6_punchAll_48 ⟨Nat.zero_le _, Nat.zero_le _⟩ ?_
      refine k9_aload_n X dX6_punchAll_51 rfl 0 rfl ?_
      refine k9_gX6_3 X in_X6_punchAll_X6 fl_X6_punchAll_33 dX6_punchAll_52 ?_
      refine k9_aload_n X dX6_punchAll_55 rfl 0 rfl ?_
      refine k9_gX6_0 X in_X6_punchAll_X6 fl_X6_punchAll_12 dX6_punchAll_56 ?_
      refine k9_callVi1 X (k4 c1 c2) k9_ob_66 (cwV 1 X.2.2.2.2.1 gX6_punchAll_X2_cutAll rfl rfl rfl (by decide +kernel) ⟨Nat.le_of_ble_eq_true rfl, Nat.le_of_ble_eq_true rfl⟩) (Nat.le_of_ble_eq_true rfl) dX6_punchAll_59 ⟨Nat.zero_le _, Nat.zero_le _⟩ ?_
      refine k9_istore_n (lv' := [(0, .ref (k9_ga G 0)), (1, .int rv4)]) X dX6_punchAll_62 rfl (by decide) [1, 0] rfl ?_
      refine k9_aload_n X dX6_punchAll_63 rfl 0 rfl ?_
      refine k9_gX6_3 X in_X6_punchAll_X6 fl_X6_punchAll_33 dX6_punchAll_64 ?_
      refine k9_callVi0 X (k5 c1 c2) k9_ob_66 (cwV 0 X.2.2.2.2.1 gX6_punchAll_X2_empty rfl rfl rfl (by decide +kernel) ⟨Nat.le_of_ble_eq_true rfl, Nat.le_of_ble_eq_true rfl⟩) (Nat.le_of_ble_eq_true rfl) dX6_punchAll_67 ⟨Nat.zero_le _, Nat.zero_le _⟩ ?_
      refine k9_pop X dX6_punchAll_70 rfl ?_
      refine k9_aload_n X dX6_punchAll_71 rfl 0 rfl ?_
      refine k9_gX6_1 X in_X6_punchAll_X6 fl_X6_punchAll_19 dX6_punchAll_72 ?_
      refine k9_aload_n X dX6_punchAll_75 rfl 0 rfl ?_
      refine k9_gX6_0 X in_X6_punchAll_X6 fl_X6_punchAll_12 dX6_punchAll_76 ?_
      refine k9_callVv1 X (k6 c1 c2) k9_ob_57 (cwV 1 X.2.2.2.2.1 gX6_punchAll_X1_listenTo rfl rfl rfl (by decide +kernel) ⟨Nat.le_of_ble_eq_true rfl, Nat.le_of_ble_eq_true rfl⟩) (Nat.le_of_ble_eq_true rfl) dX6_punchAll_79 ⟨Nat.zero_le _, Nat.zero_le _⟩ ?_
      refine k9_iload_n X dX6_punchAll_82 rfl 1 rfl ?_
      refine k9_sub (lv' := []) [] rfl ?_
      exact (l1 c1 c2)
    · refine k9_sub (lv' := []) [] rfl ?_
      exact (l2 c1 c2)
  · refine k9_sub (lv' := []) [] rfl ?_
    exact (l3 c1)

theorem in_X6_undo_X6 : ∀ w ∈ u_ws RX6 TX6 5, w ∈ wsX6_undo := by decide +kernel
theorem fl_X6_undo_26 : Cond.fieldLink RX6 26 (TX6 2).1 (TX6 2).2.1 (TX6 2).2.2.1 ∈ wsX6_undo := by decide +kernel
theorem fl_X6_undo_12 : Cond.fieldLink RX6 12 (TX6 0).1 (TX6 0).2.1 (TX6 0).2.2.1 ∈ wsX6_undo := by decide +kernel
theorem fl_X6_undo_19 : Cond.fieldLink RX6 19 (TX6 1).1 (TX6 1).2.1 (TX6 1).2.2.1 ∈ wsX6_undo := by decide +kernel
set_option maxRecDepth 20000 in
theorem bk_X6_undo_0 (X : k9_X p R s m args c A G 2 cX6_undo wsX6_undo RX6 rm_X6_undo) {rv1 : Int32} {rv2 : Int32} {mv2 : k9_Mem} {mv3 : k9_Mem}
    (k1 : k9_Ci l yX4_size wsX4_size rm_X4_size G M [.ref (k9_ga G 64)] rv1 M)
    (k2 : (¬ rv1 = 0) → k9_Ci l yX4_giveBack wsX4_giveBack rm_X4_giveBack G M [.ref (k9_ga G 64), .ref (k9_ga G 1)] rv2 mv2)
    (k3 : (¬ rv1 = 0) → k9_Cv l yX1_listenTo wsX1_listenTo rm_X1_listenTo G mv2 [.ref (k9_ga G 57), .ref (k9_ga G 1)] mv3)
    (l1 : (¬ rv1 = 0) → k9_U p l e R s m args below meth c Q A G 2 0 0 mv3 44 [] [.int rv2])
    (l2 : (rv1 = 0) → k9_U p l e R s m args below meth c Q A G 2 0 0 M 10 [] []) : k9_U p l e R s m args below meth c Q A G 2 0 0 M 0 [(0, .ref (k9_ga G 0))] [] := by
  refine k9_aload_n X dX6_undo_0 rfl 0 rfl ?_
  refine k9_gX6_2 X in_X6_undo_X6 fl_X6_undo_26 dX6_undo_1 ?_
  refine k9_callVi0 X k1 k9_ob_64 (cwV 0 X.2.2.2.2.1 gX6_undo_X4_size rfl rfl rfl (by decide +kernel) ⟨Nat.le_of_ble_eq_true rfl, Nat.le_of_ble_eq_true rfl⟩) (Nat.le_of_ble_eq_true rfl) dX6_undo_4 ⟨Nat.zero_le _, Nat.zero_le _⟩ ?_
  refine k9_if_ne (tgt := 20) X dX6_undo_7 (by decide) (fun c1 => ?_) (fun c1 => ?_)
  · refine k9_aload_n X dX6_undo_20 rfl 0 rfl ?_
    refine k9_gX6_2 X in_X6_undo_X6 fl_X6_undo_26 dX6_undo_21 ?_
    refine k9_aload_n X dX6_undo_24 rfl 0 rfl ?_
    refine k9_gX6_0 X in_X6_undo_X6 fl_X6_undo_12 dX6_undo_25 ?_
    refine k9_callVi1 X (k2 c1) k9_ob_64 (cwV 1 X.2.2.2.2.1 gX6_undo_X4_giveBack rfl rfl rfl (by decide +kernel) ⟨Nat.le_of_ble_eq_true rfl, Nat.le_of_ble_eq_true rfl⟩) (Nat.le_of_ble_eq_true rfl) dX6_undo_28 ⟨Nat.zero_le _, Nat.zero_le _⟩ ?_
    refine k9_istore_n (lv' := [(0, .ref (k9_ga G 0)), (1, .int rv2)]) X dX6_undo_31 rfl (by decide) [1, 0] rfl ?_
    refine k9_aload_n X dX6_undo_32 rfl 0 rfl ?_
    refine k9_gX6_1 X in_X6_undo_X6 fl_X6_undo_19 dX6_undo_33 ?_
    refine k9_aload_n X dX6_undo_36 rfl 0 rfl ?_
    refine k9_gX6_0 X in_X6_undo_X6 fl_X6_undo_12 dX6_undo_37 ?_
    refine k9_callVv1 X (k3 c1) k9_ob_57 (cwV 1 X.2.2.2.2.1 gX6_undo_X1_listenTo rfl rfl rfl (by decide +kernel) ⟨Nat.le_of_ble_eq_true rfl, Nat.le_of_ble_eq_true rfl⟩) (Nat.le_of_ble_eq_true rfl) dX6_undo_40 ⟨Nat.zero_le _, Nat.zero_le _⟩ ?_
    refine k9_iload_n X dX6_undo_43 rfl 1 rfl ?_
    refine k9_sub (lv' := []) [] rfl ?_
    exact (l1 c1)
  · refine k9_sub (lv' := []) [] rfl ?_
    exact (l2 c1)

theorem in_X6_place_X6 : ∀ w ∈ u_ws RX6 TX6 5, w ∈ wsX6_place := by decide +kernel
theorem fl_X6_place_12 : Cond.fieldLink RX6 12 (TX6 0).1 (TX6 0).2.1 (TX6 0).2.2.1 ∈ wsX6_place := by decide +kernel
theorem in_X6_place_X3 : ∀ w ∈ u_ws RX3 TX3 7, w ∈ wsX6_place := by decide +kernel
theorem fl_X6_place_206 : Cond.fieldLink RX6 206 (TX3 2).1 (TX3 2).2.1 (TX3 2).2.2.1 ∈ wsX6_place := by decide +kernel
theorem fl_X6_place_209 : Cond.fieldLink RX6 209 (TX3 3).1 (TX3 3).2.1 (TX3 3).2.2.1 ∈ wsX6_place := by decide +kernel
theorem fl_X6_place_203 : Cond.fieldLink RX6 203 (TX3 1).1 (TX3 1).2.1 (TX3 1).2.2.1 ∈ wsX6_place := by decide +kernel
theorem fl_X6_place_199 : Cond.fieldLink RX6 199 (TX3 0).1 (TX3 0).2.1 (TX3 0).2.2.1 ∈ wsX6_place := by decide +kernel
set_option maxRecDepth 20000 in
theorem bk_X6_place_0 (X : k9_X p R s m args c A G 5 cX6_place wsX6_place RX6 rm_X6_place) {a0 a1 a2 : Int32} {rv1 : Int32} {xv2 : Option String} {xv3 : Option String}
    (k1 : k9_Ci l yX6_isStep wsX6_isStep rm_X6_isStep G M [.int a0] rv1 M)
    (k2 : (¬ rv1 = 0) → k9_Cxv l yX6_needTrack wsX6_needTrack rm_X6_needTrack 1 6 G M [.int a1] xv2 M)
    (l1 : (¬ rv1 = 0) → (∀ E : String, xv2 = some E → k9_UX p l e R s m args below meth c Q A G 5 (0 + 1) (0 + 6) M 18 [(0, .ref (k9_ga G 0)), (1, .int a0), (2, .int a1), (3, .int a2)] [] E))
    (k3 : (¬ rv1 = 0) → xv2 = none → k9_Cxv l yX6_needWhat wsX6_needWhat rm_X6_needWhat 1 6 G M [.int a2, .int (2 : Int32)] xv3 M)
    (l2 : (¬ rv1 = 0) → xv2 = none → (∀ E : String, xv3 = some E → k9_UX p l e R s m args below meth c Q A G 5 (0 + 1 + 1) (0 + 6 + 6) M 23 [(0, .ref (k9_ga G 0)), (1, .int a0), (2, .int a1), (3, .int a2)] [] E))
    (o1 : (¬ rv1 = 0) → xv2 = none → xv3 = none → (¬ a2 = 0) → (¬ a2 = (1 : Int32)) → vp_in a0 96)
    (l3 : (¬ rv1 = 0) → xv2 = none → xv3 = none → (¬ a2 = 0) → (¬ a2 = (1 : Int32)) → (¬ (((a1 - (2 : Int32)) - (M 4 a0.toNatClampNeg)) - (M 5 a0.toNatClampNeg)) = 0) → ((((a1 - (2 : Int32)) - (M 4 a0.toNatClampNeg)) - (M 5 a0.toNatClampNeg)) ≤ 0) → k9_U p l e R s m args below meth c Q A G 5 (0 + 1 + 1) (0 + 6 + 6) M 116 [] [.int (-1 : Int32)])
    (l4 : (¬ rv1 = 0) → xv2 = none → xv3 = none → (¬ a2 = 0) → (¬ a2 = (1 : Int32)) → (¬ (((a1 - (2 : Int32)) - (M 4 a0.toNatClampNeg)) - (M 5 a0.toNatClampNeg)) = 0) → (¬ ((((a1 - (2 : Int32)) - (M 4 a0.toNatClampNeg)) - (M 5 a0.toNatClampNeg)) ≤ 0)) → ((21 : Int32) ≤ (((a1 - (2 : Int32)) - (M 4 a0.toNatClampNeg)) - (M 5 a0.toNatClampNeg))) → k9_U p l e R s m args below meth c Q A G 5 (0 + 1 + 1) (0 + 6 + 6) M 116 [] [.int (-1 : Int32)])
    (l5 : (¬ rv1 = 0) → xv2 = none → xv3 = none → (¬ a2 = 0) → (¬ a2 = (1 : Int32)) → (¬ (((a1 - (2 : Int32)) - (M 4 a0.toNatClampNeg)) - (M 5 a0.toNatClampNeg)) = 0) → (¬ ((((a1 - (2 : Int32)) - (M 4 a0.toNatClampNeg)) - (M 5 a0.toNatClampNeg)) ≤ 0)) → (¬ ((21 : Int32) ≤ (((a1 - (2 : Int32)) - (M 4 a0.toNatClampNeg)) - (M 5 a0.toNatClampNeg)))) → k9_U p l e R s m args below meth c Q A G 5 (0 + 1 + 1) (0 + 6 + 6) M 116 [] [.int ((((a1 - (2 : Int32)) - (M 4 a0.toNatClampNeg)) - (M 5 a0.toNatClampNeg)) - (1 : Int32))])
    (l6 : (¬ rv1 = 0) → xv2 = none → xv3 = none → (¬ a2 = 0) → (¬ a2 = (1 : Int32)) → ((((a1 - (2 : Int32)) - (M 4 a0.toNatClampNeg)) - (M 5 a0.toNatClampNeg)) = 0) → k9_U p l e R s m args below meth c Q A G 5 (0 + 1 + 1) (0 + 6 + 6) M 95 [] [.int (-2 : Int32)])
    (o2 : (¬ rv1 = 0) → xv2 = none → xv3 = none → (¬ a2 = 0) → (a2 = (1 : Int32)) → vp_in a0 96)
    (l7 : (¬ rv1 = 0) → xv2 = none → xv3 = none → (¬ a2 = 0) → (a2 = (1 : Int32)) → k9_U p l e R s m args below meth c Q A G 5 (0 + 1 + 1) (0 + 6 + 6) M 62 [] [.int (((M 3 a0.toNatClampNeg) >>> (a1 &&& 31)) &&& (1 : Int32))])
    (o3 : (¬ rv1 = 0) → xv2 = none → xv3 = none → (a2 = 0) → vp_in a0 96)
    (l8 : (¬ rv1 = 0) → xv2 = none → xv3 = none → (a2 = 0) → k9_U p l e R s m args below meth c Q A G 5 (0 + 1 + 1) (0 + 6 + 6) M 43 [] [.int (((M 2 a0.toNatClampNeg) >>> (a1 &&& 31)) &&& (1 : Int32))])
    (l9 : (rv1 = 0) → k9_U p l e R s m args below meth c Q A G 5 0 0 M 7 [] []) : k9_U p l e R s m args below meth c Q A G 5 0 0 M 0 [(0, .ref (k9_ga G 0)), (1, .int a0), (2, .int a1), (3, .int a2)] [] := by
  refine k9_iload_n X dX6_place_0 rfl 1 rfl ?_
  refine k9_callSi1 X k1  (va_cwS 1 X.2.2.2.2.1 gX6_place_X6_isStep rfl rfl rfl (by decide +kernel) ⟨Nat.le_of_ble_eq_true rfl, Nat.le_of_ble_eq_true rfl⟩) (Nat.le_of_ble_eq_true rfl) dX6_place_1 ⟨Nat.zero_le _, Nat.zero_le _⟩ ?_
  refine k9_if_ne (tgt := 17) X dX6_place_4 (by decide) (fun c1 => ?_) (fun c1 => ?_)
  · refine k9_iload_n X dX6_place_17 rfl 2 rfl ?_
    refine k9_callSxv1 X (k2 c1)  (va_cwS 1 X.2.2.2.2.1 gX6_place_X6_needTrack rfl rfl rfl (by decide +kernel) ⟨Nat.le_of_ble_eq_true rfl, Nat.le_of_ble_eq_true rfl⟩) (Nat.le_of_ble_eq_true rfl) dX6_place_18 (k9_rmX X (by decide) (by decide)) (l1 c1) (fun c2 => ?_)
    refine k9_iload_n X dX6_place_21 rfl 3 rfl ?_
    refine k9_iconst (v := 2) X dX6_place_22 (by decide) ?_
    refine k9_callSxv2 X (k3 c1 c2)  (va_cwS 2 X.2.2.2.2.1 gX6_place_X6_needWhat rfl rfl rfl (by decide +kernel) ⟨Nat.le_of_ble_eq_true rfl, Nat.le_of_ble_eq_true rfl⟩) (Nat.le_of_ble_eq_true rfl) dX6_place_23 (k9_rmX X (by decide) (by decide)) (l2 c1 c2) (fun c3 => ?_)
    refine k9_iload_n X dX6_place_26 rfl 3 rfl ?_
    refine k9_if_ne (tgt := 44) X dX6_place_27 (by decide) (fun c4 => ?_) (fun c4 => ?_)
    · refine k9_iload_n X dX6_place_44 rfl 3 rfl ?_
      refine k9_iconst (v := 1) X dX6_place_45 (by decide) ?_
      refine k9_icmp_ne (tgt := 63) X dX6_place_46 (by decide) (fun c5 => ?_) (fun c5 => ?_)
      · refine k9_iload_n X dX6_place_63 rfl 2 rfl ?_
        refine k9_iconst (v := 2) X dX6_place_64 (by decide) ?_
        refine k9_isub X dX6_place_65 ?_
        refine k9_aload_n X dX6_place_66 rfl 0 rfl ?_
        refine k9_gX6_0 X in_X6_place_X6 fl_X6_place_12 dX6_place_67 ?_
        refine k9_gX3_2 (q := 1) (q1 := 4) X (by decide) (by rfl) in_X6_place_X3 fl_X6_place_206 dX6_place_70 ?_
        refine k9_iload_n X dX6_place_73 rfl 1 rfl ?_
        refine k9_iald X (by decide) (o1 c1 c2 c3 c4 c5) (by rfl) dX6_place_74 ?_
        refine k9_isub X dX6_place_75 ?_
        refine k9_aload_n X dX6_place_76 rfl 0 rfl ?_
        refine k9_gX6_0 X in_X6_place_X6 fl_X6_place_12 dX6_place_77 ?_
        refine k9_gX3_3 (q := 1) (q1 := 5) X (by decide) (by rfl) in_X6_place_X3 fl_X6_place_209 dX6_place_80 ?_
        refine k9_iload_n X dX6_place_83 rfl 1 rfl ?_
        refine k9_iald X (by decide) (o1 c1 c2 c3 c4 c5) (by rfl) dX6_place_84 ?_
        refine k9_isub X dX6_place_85 ?_
        refine k9_istore (lv' := [(0, .ref (k9_ga G 0)), (1, .int a0), (2, .int a1), (3, .int a2), (4, .int (((a1 - (2 : Int32)) - (M 4 a0.toNatClampNeg)) - (M 5 a0.toNatClampNeg)))]) X dX6_place_86 (by decide) [1, 2, 3, 4, 0] rfl ?_
        refine k9_iload X dX6_place_88 4 rfl ?_
        refine k9_if_ne (tgt := 96) X dX6_place_90 (by decide) (fun c6 => ?_) (fun c6 => ?_)
        · refine k9_iload X dX6_place_96 4 rfl ?_
          refine k9_if_le (tgt := 115) X dX6_place_98 (by decide) (fun c7 => ?_) (fun c7 => ?_)
          · refine k9_iconst (v := -1) X dX6_place_115 (by decide) ?_
            refine k9_sub (lv' := []) [] rfl ?_
            exact (l3 c1 c2 c3 c4 c5 c6 c7)
          · refine k9_iload X dX6_place_101 4 rfl ?_
            refine k9_bipush (v := 21) X dX6_place_103 (by decide) ?_
            refine k9_icmp_ge (tgt := 115) X dX6_place_105 (by decide) (fun c8 => ?_) (fun c8 => ?_)
            · refine k9_iconst (v := -1) X dX6_place_115 (by decide) ?_
              refine k9_sub (lv' := []) [] rfl ?_
              exact (l4 c1 c2 c3 c4 c5 c6 c7 c8)
            · refine k9_iload X dX6_place_108 4 rfl ?_
              refine k9_iconst (v := 1) X dX6_place_110 (by decide) ?_
              refine k9_isub X dX6_place_111 ?_
              refine k9_goto (tgt := 116) X dX6_place_112 (by decide) ?_
              refine k9_sub (lv' := []) [] rfl ?_
              exact (l5 c1 c2 c3 c4 c5 c6 c7 c8)
        · refine k9_bipush (v := -2) X dX6_place_93 (by decide) ?_
          refine k9_sub (lv' := []) [] rfl ?_
          exact (l6 c1 c2 c3 c4 c5 c6)
      · refine k9_aload_n X dX6_place_49 rfl 0 rfl ?_
        refine k9_gX6_0 X in_X6_place_X6 fl_X6_place_12 dX6_place_50 ?_
        refine k9_gX3_1 (q := 1) (q1 := 3) X (by decide) (by rfl) in_X6_place_X3 fl_X6_place_203 dX6_place_53 ?_
        refine k9_iload_n X dX6_place_56 rfl 1 rfl ?_
        refine k9_iald X (by decide) (o2 c1 c2 c3 c4 c5) (by rfl) dX6_place_57 ?_
        refine k9_iload_n X dX6_place_58 rfl 2 rfl ?_
        refine k9_ishr X dX6_place_59 ?_
        refine k9_iconst (v := 1) X dX6_place_60 (by decide) ?_
        refine k9_iand X dX6_place_61 ?_
        refine k9_sub (lv' := []) [] rfl ?_
        exact (l7 c1 c2 c3 c4 c5)
    · refine k9_aload_n X dX6_place_30 rfl 0 rfl ?_
      refine k9_gX6_0 X in_X6_place_X6 fl_X6_place_12 dX6_place_31 ?_
      refine k9_gX3_0 (q := 1) (q1 := 2) X (by decide) (by rfl) in_X6_place_X3 fl_X6_place_199 dX6_place_34 ?_
      refine k9_iload_n X dX6_place_37 rfl 1 rfl ?_
      refine k9_iald X (by decide) (o3 c1 c2 c3 c4) (by rfl) dX6_place_38 ?_
      refine k9_iload_n X dX6_place_39 rfl 2 rfl ?_
      refine k9_ishr X dX6_place_40 ?_
      refine k9_iconst (v := 1) X dX6_place_41 (by decide) ?_
      refine k9_iand X dX6_place_42 ?_
      refine k9_sub (lv' := []) [] rfl ?_
      exact (l8 c1 c2 c3 c4)
  · refine k9_sub (lv' := []) [] rfl ?_
    exact (l9 c1)

set_option maxRecDepth 20000 in
theorem bk_X6_step_0 (X : k9_X p R s m args c A G 3 cX6_step wsX6_step RX6 rm_X6_step) {a0 a1 : Int32} {rv1 : Int32} {xv2 : Option String} {rv3 : Int32}
    (k1 : k9_Ci l yX6_isStep wsX6_isStep rm_X6_isStep G M [.int a0] rv1 M)
    (k2 : (¬ rv1 = 0) → k9_Cxv l yX6_needWhat wsX6_needWhat rm_X6_needWhat 1 6 G M [.int a1, .int (6 : Int32)] xv2 M)
    (l1 : (¬ rv1 = 0) → (∀ E : String, xv2 = some E → k9_UX p l e R s m args below meth c Q A G 3 (0 + 1) (0 + 6) M 20 [(0, .ref (k9_ga G 0)), (1, .int a0), (2, .int a1)] [] E))
    (k3 : (¬ rv1 = 0) → xv2 = none → k9_Ci l yX6_ofStep wsX6_ofStep rm_X6_ofStep G M [.ref (k9_ga G 0), .int a0, .int a1] rv3 M)
    (l2 : (¬ rv1 = 0) → xv2 = none → k9_U p l e R s m args below meth c Q A G 3 (0 + 1) (0 + 6) M 29 [] [.int rv3])
    (l3 : (rv1 = 0) → k9_U p l e R s m args below meth c Q A G 3 0 0 M 7 [] []) : k9_U p l e R s m args below meth c Q A G 3 0 0 M 0 [(0, .ref (k9_ga G 0)), (1, .int a0), (2, .int a1)] [] := by
  refine k9_iload_n X dX6_step_0 rfl 1 rfl ?_
  refine k9_callSi1 X k1  (va_cwS 1 X.2.2.2.2.1 gX6_step_X6_isStep rfl rfl rfl (by decide +kernel) ⟨Nat.le_of_ble_eq_true rfl, Nat.le_of_ble_eq_true rfl⟩) (Nat.le_of_ble_eq_true rfl) dX6_step_1 ⟨Nat.zero_le _, Nat.zero_le _⟩ ?_
  refine k9_if_ne (tgt := 17) X dX6_step_4 (by decide) (fun c1 => ?_) (fun c1 => ?_)
  · refine k9_iload_n X dX6_step_17 rfl 2 rfl ?_
    refine k9_bipush (v := 6) X dX6_step_18 (by decide) ?_
    refine k9_callSxv2 X (k2 c1)  (va_cwS 2 X.2.2.2.2.1 gX6_step_X6_needWhat rfl rfl rfl (by decide +kernel) ⟨Nat.le_of_ble_eq_true rfl, Nat.le_of_ble_eq_true rfl⟩) (Nat.le_of_ble_eq_true rfl) dX6_step_20 (k9_rmX X (by decide) (by decide)) (l1 c1) (fun c2 => ?_)
    refine k9_aload_n X dX6_step_23 rfl 0 rfl ?_
    refine k9_iload_n X dX6_step_24 rfl 1 rfl ?_
    refine k9_iload_n X dX6_step_25 rfl 2 rfl ?_
    refine k9_callVi2 X (k3 c1 c2) k9_ob_0 (cwV 2 X.2.2.2.2.1 gX6_step_X6_ofStep rfl rfl rfl (by decide +kernel) ⟨Nat.le_of_ble_eq_true rfl, Nat.le_of_ble_eq_true rfl⟩) (Nat.le_of_ble_eq_true rfl) dX6_step_26 ⟨by decide, by decide⟩ ?_
    refine k9_sub (lv' := []) [] rfl ?_
    exact (l2 c1 c2)
  · refine k9_sub (lv' := []) [] rfl ?_
    exact (l3 c1)

theorem in_X6_played_X6 : ∀ w ∈ u_ws RX6 TX6 5, w ∈ wsX6_played := by decide +kernel
theorem fl_X6_played_19 : Cond.fieldLink RX6 19 (TX6 1).1 (TX6 1).2.1 (TX6 1).2.2.1 ∈ wsX6_played := by decide +kernel
theorem in_X6_played_X1 : ∀ w ∈ u_ws RX1 TX1 4, w ∈ wsX6_played := by decide +kernel
theorem fl_X6_played_143 : Cond.fieldLink RX6 143 (TX1 1).1 (TX1 1).2.1 (TX1 1).2.2.1 ∈ wsX6_played := by decide +kernel
set_option maxRecDepth 20000 in
theorem bk_X6_played_0 (X : k9_X p R s m args c A G 4 cX6_played wsX6_played RX6 rm_X6_played) {a0 a1 : Int32} {rv1 : Int32} {xv2 : Option String} {rv3 : Int32} {rv4 : Int32}
    (k1 : k9_Ci l yX0_firstStepOf wsX0_firstStepOf rm_X0_firstStepOf G M [.ref (k9_ga G 59), .int a0] rv1 M)
    (k2 : (¬ rv1 = (-1 : Int32)) → k9_Cxv l yX6_needWhat wsX6_needWhat rm_X6_needWhat 1 6 G M [.int a1, .int (5 : Int32)] xv2 M)
    (l1 : (¬ rv1 = (-1 : Int32)) → (∀ E : String, xv2 = some E → k9_UX p l e R s m args below meth c Q A G 4 (0 + 1) (0 + 6) M 29 [(0, .ref (k9_ga G 0)), (1, .int a0), (2, .int a1), (3, .int rv1)] [] E))
    (k3 : (¬ rv1 = (-1 : Int32)) → xv2 = none → k9_Ci l yX0_voiceOf wsX0_voiceOf rm_X0_voiceOf G M [.ref (k9_ga G 59), .int a0] rv3 M)
    (k4 : (¬ rv1 = (-1 : Int32)) → xv2 = none → k9_Ci l yX6_ofPlayed wsX6_ofPlayed rm_X6_ofPlayed G M [.ref (k9_ga G 0), .int rv3, .int rv1, .int a1] rv4 M)
    (l2 : (¬ rv1 = (-1 : Int32)) → xv2 = none → k9_U p l e R s m args below meth c Q A G 4 (0 + 1) (0 + 6) M 49 [] [.int rv4])
    (l3 : (rv1 = (-1 : Int32)) → k9_U p l e R s m args below meth c Q A G 4 0 0 M 17 [] []) : k9_U p l e R s m args below meth c Q A G 4 0 0 M 0 [(0, .ref (k9_ga G 0)), (1, .int a0), (2, .int a1)] [] := by
  refine k9_aload_n X dX6_played_0 rfl 0 rfl ?_
  refine k9_gX6_1 X in_X6_played_X6 fl_X6_played_19 dX6_played_1 ?_
  refine k9_gX1_1 X in_X6_played_X1 fl_X6_played_143 dX6_played_4 ?_
  refine k9_iload_n X dX6_played_7 rfl 1 rfl ?_
  refine k9_callVi1 X k1 (k9_ob_C (by decide)) (cwV 1 X.2.2.2.2.1 gX6_played_X0_firstStepOf rfl rfl rfl (by decide +kernel) ⟨Nat.le_of_ble_eq_true rfl, Nat.le_of_ble_eq_true rfl⟩) (Nat.le_of_ble_eq_true rfl) dX6_played_8 ⟨Nat.zero_le _, Nat.zero_le _⟩ ?_
  refine k9_istore_n (lv' := [(0, .ref (k9_ga G 0)), (1, .int a0), (2, .int a1), (3, .int rv1)]) X dX6_played_11 rfl (by decide) [1, 2, 3, 0] rfl ?_
  refine k9_iload_n X dX6_played_12 rfl 3 rfl ?_
  refine k9_iconst (v := -1) X dX6_played_13 (by decide) ?_
  refine k9_icmp_ne (tgt := 27) X dX6_played_14 (by decide) (fun c1 => ?_) (fun c1 => ?_)
  · refine k9_iload_n X dX6_played_27 rfl 2 rfl ?_
    refine k9_iconst (v := 5) X dX6_played_28 (by decide) ?_
    refine k9_callSxv2 X (k2 c1)  (va_cwS 2 X.2.2.2.2.1 gX6_played_X6_needWhat rfl rfl rfl (by decide +kernel) ⟨Nat.le_of_ble_eq_true rfl, Nat.le_of_ble_eq_true rfl⟩) (Nat.le_of_ble_eq_true rfl) dX6_played_29 (k9_rmX X (by decide) (by decide)) (l1 c1) (fun c2 => ?_)
    refine k9_aload_n X dX6_played_32 rfl 0 rfl ?_
    refine k9_aload_n X dX6_played_33 rfl 0 rfl ?_
    refine k9_gX6_1 X in_X6_played_X6 fl_X6_played_19 dX6_played_34 ?_
    refine k9_gX1_1 X in_X6_played_X1 fl_X6_played_143 dX6_played_37 ?_
    refine k9_iload_n X dX6_played_40 rfl 1 rfl ?_
    refine k9_callVi1 X (k3 c1 c2) (k9_ob_C (by decide)) (cwV 1 X.2.2.2.2.1 gX6_played_X0_voiceOf rfl rfl rfl (by decide +kernel) ⟨Nat.le_of_ble_eq_true rfl, Nat.le_of_ble_eq_true rfl⟩) (Nat.le_of_ble_eq_true rfl) dX6_played_41 ⟨by decide, by decide⟩ ?_
    refine k9_iload_n X dX6_played_44 rfl 3 rfl ?_
    refine k9_iload_n X dX6_played_45 rfl 2 rfl ?_
    refine k9_callVi3 X (k4 c1 c2) k9_ob_0 (cwV 3 X.2.2.2.2.1 gX6_played_X6_ofPlayed rfl rfl rfl (by decide +kernel) ⟨Nat.le_of_ble_eq_true rfl, Nat.le_of_ble_eq_true rfl⟩) (Nat.le_of_ble_eq_true rfl) dX6_played_46 ⟨by decide, by decide⟩ ?_
    refine k9_sub (lv' := []) [] rfl ?_
    exact (l2 c1 c2)
  · refine k9_sub (lv' := []) [] rfl ?_
    exact (l3 c1)

theorem in_X6_tune_X6 : ∀ w ∈ u_ws RX6 TX6 5, w ∈ wsX6_tune := by decide +kernel
theorem fl_X6_tune_12 : Cond.fieldLink RX6 12 (TX6 0).1 (TX6 0).2.1 (TX6 0).2.2.1 ∈ wsX6_tune := by decide +kernel
theorem in_X6_tune_X3 : ∀ w ∈ u_ws RX3 TX3 7, w ∈ wsX6_tune := by decide +kernel
theorem fl_X6_tune_139 : Cond.fieldLink RX6 139 (TX3 4).1 (TX3 4).2.1 (TX3 4).2.2.1 ∈ wsX6_tune := by decide +kernel
set_option maxRecDepth 20000 in
theorem bk_X6_tune_0 (X : k9_X p R s m args c A G 4 cX6_tune wsX6_tune RX6 rm_X6_tune) {a0 a1 : Int32} {rv1 : Int32} {xv2 : Option String} {rv3 : Int32} {rv4 : Int32}
    (k1 : k9_Ci l yX0_firstStepOf wsX0_firstStepOf rm_X0_firstStepOf G M [.ref (k9_ga G 6), .int a0] rv1 M)
    (k2 : (¬ rv1 = (-1 : Int32)) → k9_Cxv l yX6_needWhat wsX6_needWhat rm_X6_needWhat 1 6 G M [.int a1, .int (3 : Int32)] xv2 M)
    (l1 : (¬ rv1 = (-1 : Int32)) → (∀ E : String, xv2 = some E → k9_UX p l e R s m args below meth c Q A G 4 (0 + 1) (0 + 6) M 29 [(0, .ref (k9_ga G 0)), (1, .int a0), (2, .int a1), (3, .int rv1)] [] E))
    (k3 : (¬ rv1 = (-1 : Int32)) → xv2 = none → k9_Ci l yX0_voiceOf wsX0_voiceOf rm_X0_voiceOf G M [.ref (k9_ga G 6), .int a0] rv3 M)
    (k4 : (¬ rv1 = (-1 : Int32)) → xv2 = none → k9_Ci l yX6_ofTune wsX6_ofTune rm_X6_ofTune G M [.ref (k9_ga G 0), .int rv3, .int rv1, .int a1] rv4 M)
    (l2 : (¬ rv1 = (-1 : Int32)) → xv2 = none → k9_U p l e R s m args below meth c Q A G 4 (0 + 1) (0 + 6) M 49 [] [.int rv4])
    (l3 : (rv1 = (-1 : Int32)) → k9_U p l e R s m args below meth c Q A G 4 0 0 M 17 [] []) : k9_U p l e R s m args below meth c Q A G 4 0 0 M 0 [(0, .ref (k9_ga G 0)), (1, .int a0), (2, .int a1)] [] := by
  refine k9_aload_n X dX6_tune_0 rfl 0 rfl ?_
  refine k9_gX6_0 X in_X6_tune_X6 fl_X6_tune_12 dX6_tune_1 ?_
  refine k9_gX3_4 (q := 1) (q1 := 6) X (by decide) (by rfl) in_X6_tune_X3 fl_X6_tune_139 dX6_tune_4 ?_
  refine k9_iload_n X dX6_tune_7 rfl 1 rfl ?_
  refine k9_callVi1 X k1 (k9_ob_C (by decide)) (cwV 1 X.2.2.2.2.1 gX6_tune_X0_firstStepOf rfl rfl rfl (by decide +kernel) ⟨Nat.le_of_ble_eq_true rfl, Nat.le_of_ble_eq_true rfl⟩) (Nat.le_of_ble_eq_true rfl) dX6_tune_8 ⟨Nat.zero_le _, Nat.zero_le _⟩ ?_
  refine k9_istore_n (lv' := [(0, .ref (k9_ga G 0)), (1, .int a0), (2, .int a1), (3, .int rv1)]) X dX6_tune_11 rfl (by decide) [1, 2, 3, 0] rfl ?_
  refine k9_iload_n X dX6_tune_12 rfl 3 rfl ?_
  refine k9_iconst (v := -1) X dX6_tune_13 (by decide) ?_
  refine k9_icmp_ne (tgt := 27) X dX6_tune_14 (by decide) (fun c1 => ?_) (fun c1 => ?_)
  · refine k9_iload_n X dX6_tune_27 rfl 2 rfl ?_
    refine k9_iconst (v := 3) X dX6_tune_28 (by decide) ?_
    refine k9_callSxv2 X (k2 c1)  (va_cwS 2 X.2.2.2.2.1 gX6_tune_X6_needWhat rfl rfl rfl (by decide +kernel) ⟨Nat.le_of_ble_eq_true rfl, Nat.le_of_ble_eq_true rfl⟩) (Nat.le_of_ble_eq_true rfl) dX6_tune_29 (k9_rmX X (by decide) (by decide)) (l1 c1) (fun c2 => ?_)
    refine k9_aload_n X dX6_tune_32 rfl 0 rfl ?_
    refine k9_aload_n X dX6_tune_33 rfl 0 rfl ?_
    refine k9_gX6_0 X in_X6_tune_X6 fl_X6_tune_12 dX6_tune_34 ?_
    refine k9_gX3_4 (q := 1) (q1 := 6) X (by decide) (by rfl) in_X6_tune_X3 fl_X6_tune_139 dX6_tune_37 ?_
    refine k9_iload_n X dX6_tune_40 rfl 1 rfl ?_
    refine k9_callVi1 X (k3 c1 c2) (k9_ob_C (by decide)) (cwV 1 X.2.2.2.2.1 gX6_tune_X0_voiceOf rfl rfl rfl (by decide +kernel) ⟨Nat.le_of_ble_eq_true rfl, Nat.le_of_ble_eq_true rfl⟩) (Nat.le_of_ble_eq_true rfl) dX6_tune_41 ⟨by decide, by decide⟩ ?_
    refine k9_iload_n X dX6_tune_44 rfl 3 rfl ?_
    refine k9_iload_n X dX6_tune_45 rfl 2 rfl ?_
    refine k9_callVi3 X (k4 c1 c2) k9_ob_0 (cwV 3 X.2.2.2.2.1 gX6_tune_X6_ofTune rfl rfl rfl (by decide +kernel) ⟨Nat.le_of_ble_eq_true rfl, Nat.le_of_ble_eq_true rfl⟩) (Nat.le_of_ble_eq_true rfl) dX6_tune_46 ⟨by decide, by decide⟩ ?_
    refine k9_sub (lv' := []) [] rfl ?_
    exact (l2 c1 c2)
  · refine k9_sub (lv' := []) [] rfl ?_
    exact (l3 c1)

set_option maxRecDepth 20000 in
theorem bk_X6_count_0 (X : k9_X p R s m args c A G 2 cX6_count wsX6_count RX6 rm_X6_count) {a0 : Int32} {xv1 : Option String} {rv2 : Int32}
    (k1 : k9_Cxv l yX6_needWhat wsX6_needWhat rm_X6_needWhat 1 6 G M [.int a0, .int (14 : Int32)] xv1 M)
    (l1 : (∀ E : String, xv1 = some E → k9_UX p l e R s m args below meth c Q A G 2 (0 + 1) (0 + 6) M 3 [(0, .ref (k9_ga G 0)), (1, .int a0)] [] E))
    (k2 : xv1 = none → k9_Ci l yX6_counted wsX6_counted rm_X6_counted G M [.ref (k9_ga G 0), .int a0] rv2 M)
    (l2 : xv1 = none → k9_U p l e R s m args below meth c Q A G 2 (0 + 1) (0 + 6) M 11 [] [.int rv2]) : k9_U p l e R s m args below meth c Q A G 2 0 0 M 0 [(0, .ref (k9_ga G 0)), (1, .int a0)] [] := by
  refine k9_iload_n X dX6_count_0 rfl 1 rfl ?_
  refine k9_bipush (v := 14) X dX6_count_1 (by decide) ?_
  refine k9_callSxv2 X k1  (va_cwS 2 X.2.2.2.2.1 gX6_count_X6_needWhat rfl rfl rfl (by decide +kernel) ⟨Nat.le_of_ble_eq_true rfl, Nat.le_of_ble_eq_true rfl⟩) (Nat.le_of_ble_eq_true rfl) dX6_count_3 (k9_rmX X (by decide) (by decide)) l1 (fun c1 => ?_)
  refine k9_aload_n X dX6_count_6 rfl 0 rfl ?_
  refine k9_iload_n X dX6_count_7 rfl 1 rfl ?_
  refine k9_callVi1 X (k2 c1) k9_ob_0 (cwV 1 X.2.2.2.2.1 gX6_count_X6_counted rfl rfl rfl (by decide +kernel) ⟨Nat.le_of_ble_eq_true rfl, Nat.le_of_ble_eq_true rfl⟩) (Nat.le_of_ble_eq_true rfl) dX6_count_8 ⟨by decide, by decide⟩ ?_
  refine k9_sub (lv' := []) [] rfl ?_
  exact (l2 c1)

set_option maxRecDepth 20000 in
theorem bk_X6_setting_0 (X : k9_X p R s m args c A G 2 cX6_setting wsX6_setting RX6 rm_X6_setting) {a0 : Int32} {xv1 : Option String} {rv2 : Int32}
    (k1 : k9_Cxv l yX6_needSetting wsX6_needSetting rm_X6_needSetting 1 6 G M [.int a0] xv1 M)
    (l1 : (∀ E : String, xv1 = some E → k9_UX p l e R s m args below meth c Q A G 2 (0 + 1) (0 + 6) M 1 [(0, .ref (k9_ga G 0)), (1, .int a0)] [] E))
    (k2 : xv1 = none → k9_Ci l yX6_settingOf wsX6_settingOf rm_X6_settingOf G M [.ref (k9_ga G 0), .int a0] rv2 M)
    (l2 : xv1 = none → k9_U p l e R s m args below meth c Q A G 2 (0 + 1) (0 + 6) M 9 [] [.int rv2]) : k9_U p l e R s m args below meth c Q A G 2 0 0 M 0 [(0, .ref (k9_ga G 0)), (1, .int a0)] [] := by
  refine k9_iload_n X dX6_setting_0 rfl 1 rfl ?_
  refine k9_callSxv1 X k1  (va_cwS 1 X.2.2.2.2.1 gX6_setting_X6_needSetting rfl rfl rfl (by decide +kernel) ⟨Nat.le_of_ble_eq_true rfl, Nat.le_of_ble_eq_true rfl⟩) (Nat.le_of_ble_eq_true rfl) dX6_setting_1 (k9_rmX X (by decide) (by decide)) l1 (fun c1 => ?_)
  refine k9_aload_n X dX6_setting_4 rfl 0 rfl ?_
  refine k9_iload_n X dX6_setting_5 rfl 1 rfl ?_
  refine k9_callVi1 X (k2 c1) k9_ob_0 (cwV 1 X.2.2.2.2.1 gX6_setting_X6_settingOf rfl rfl rfl (by decide +kernel) ⟨Nat.le_of_ble_eq_true rfl, Nat.le_of_ble_eq_true rfl⟩) (Nat.le_of_ble_eq_true rfl) dX6_setting_6 ⟨by decide, by decide⟩ ?_
  refine k9_sub (lv' := []) [] rfl ?_
  exact (l2 c1)

theorem in_X6_bestSteer_X6 : ∀ w ∈ u_ws RX6 TX6 5, w ∈ wsX6_bestSteer := by decide +kernel
theorem fl_X6_bestSteer_40 : Cond.fieldLink RX6 40 (TX6 4).1 (TX6 4).2.1 (TX6 4).2.2.1 ∈ wsX6_bestSteer := by decide +kernel
theorem fl_X6_bestSteer_12 : Cond.fieldLink RX6 12 (TX6 0).1 (TX6 0).2.1 (TX6 0).2.2.1 ∈ wsX6_bestSteer := by decide +kernel
theorem fl_X6_bestSteer_19 : Cond.fieldLink RX6 19 (TX6 1).1 (TX6 1).2.1 (TX6 1).2.2.1 ∈ wsX6_bestSteer := by decide +kernel
theorem in_X6_bestSteer_X5 : ∀ w ∈ u_ws RX5 TX5 4, w ∈ wsX6_bestSteer := by decide +kernel
theorem fl_X6_bestSteer_242 : Cond.fieldLink RX6 242 (TX5 3).1 (TX5 3).2.1 (TX5 3).2.2.1 ∈ wsX6_bestSteer := by decide +kernel
theorem fl_X6_bestSteer_239 : Cond.fieldLink RX6 239 (TX5 2).1 (TX5 2).2.1 (TX5 2).2.2.1 ∈ wsX6_bestSteer := by decide +kernel
set_option maxRecDepth 20000 in
theorem bk_X6_bestSteer_0 (X : k9_X p R s m args c A G 4 cX6_bestSteer wsX6_bestSteer RX6 rm_X6_bestSteer) {a0 a1 a2 : Int32} {xv1 : Option String} {xv2 : Option String} {mv3 : k9_Mem}
    (k1 : k9_Cxv l yX6_needSteps wsX6_needSteps rm_X6_needSteps 2 12 G M [.int a0, .int a1] xv1 M)
    (l1 : (∀ E : String, xv1 = some E → k9_UX p l e R s m args below meth c Q A G 4 (0 + 2) (0 + 12) M 2 [(0, .ref (k9_ga G 0)), (1, .int a0), (2, .int a1), (3, .int a2)] [] E))
    (k2 : xv1 = none → k9_Cxv l yX6_needWhat wsX6_needWhat rm_X6_needWhat 1 6 G M [.int a2, .int (1 : Int32)] xv2 M)
    (l2 : xv1 = none → (∀ E : String, xv2 = some E → k9_UX p l e R s m args below meth c Q A G 4 (0 + 2 + 1) (0 + 12 + 6) M 7 [(0, .ref (k9_ga G 0)), (1, .int a0), (2, .int a1), (3, .int a2)] [] E))
    (k3 : xv1 = none → xv2 = none → k9_Cv l yX5_findSteer wsX5_findSteer rm_X5_findSteer G M [.ref (k9_ga G 71), .ref (k9_ga G 1), .ref (k9_ga G 57), .int a0, .int a1] mv3)
    (l3 : xv1 = none → xv2 = none → (¬ a2 = 0) → k9_U p l e R s m args below meth c Q A G 4 (0 + 2 + 1) (0 + 12 + 6) mv3 48 [] [.int (mv3 71 3)])
    (l4 : xv1 = none → xv2 = none → (a2 = 0) → k9_U p l e R s m args below meth c Q A G 4 (0 + 2 + 1) (0 + 12 + 6) mv3 48 [] [.int (mv3 71 2)]) : k9_U p l e R s m args below meth c Q A G 4 0 0 M 0 [(0, .ref (k9_ga G 0)), (1, .int a0), (2, .int a1), (3, .int a2)] [] := by
  refine k9_iload_n X dX6_bestSteer_0 rfl 1 rfl ?_
  refine k9_iload_n X dX6_bestSteer_1 rfl 2 rfl ?_
  refine k9_callSxv2 X k1  (va_cwS 2 X.2.2.2.2.1 gX6_bestSteer_X6_needSteps rfl rfl rfl (by decide +kernel) ⟨Nat.le_of_ble_eq_true rfl, Nat.le_of_ble_eq_true rfl⟩) (Nat.le_of_ble_eq_true rfl) dX6_bestSteer_2 (k9_rmX X (by decide) (by decide)) l1 (fun c1 => ?_)
  refine k9_iload_n X dX6_bestSteer_5 rfl 3 rfl ?_
  refine k9_iconst (v := 1) X dX6_bestSteer_6 (by decide) ?_
  refine k9_callSxv2 X (k2 c1)  (va_cwS 2 X.2.2.2.2.1 gX6_bestSteer_X6_needWhat rfl rfl rfl (by decide +kernel) ⟨Nat.le_of_ble_eq_true rfl, Nat.le_of_ble_eq_true rfl⟩) (Nat.le_of_ble_eq_true rfl) dX6_bestSteer_7 (k9_rmX X (by decide) (by decide)) (l2 c1) (fun c2 => ?_)
  refine k9_aload_n X dX6_bestSteer_10 rfl 0 rfl ?_
  refine k9_gX6_4 X in_X6_bestSteer_X6 fl_X6_bestSteer_40 dX6_bestSteer_11 ?_
  refine k9_aload_n X dX6_bestSteer_14 rfl 0 rfl ?_
  refine k9_gX6_0 X in_X6_bestSteer_X6 fl_X6_bestSteer_12 dX6_bestSteer_15 ?_
  refine k9_aload_n X dX6_bestSteer_18 rfl 0 rfl ?_
  refine k9_gX6_1 X in_X6_bestSteer_X6 fl_X6_bestSteer_19 dX6_bestSteer_19 ?_
  refine k9_iload_n X dX6_bestSteer_22 rfl 1 rfl ?_
  refine k9_iload_n X dX6_bestSteer_23 rfl 2 rfl ?_
  refine k9_callVv4 X (k3 c1 c2) k9_ob_71 (cwV 4 X.2.2.2.2.1 gX6_bestSteer_X5_findSteer rfl rfl rfl (by decide +kernel) ⟨Nat.le_of_ble_eq_true rfl, Nat.le_of_ble_eq_true rfl⟩) (Nat.le_of_ble_eq_true rfl) dX6_bestSteer_24 ⟨by decide, by decide⟩ ?_
  refine k9_iload_n X dX6_bestSteer_27 rfl 3 rfl ?_
  refine k9_if_ne (tgt := 41) X dX6_bestSteer_28 (by decide) (fun c3 => ?_) (fun c3 => ?_)
  · refine k9_aload_n X dX6_bestSteer_41 rfl 0 rfl ?_
    refine k9_gX6_4 X in_X6_bestSteer_X6 fl_X6_bestSteer_40 dX6_bestSteer_42 ?_
    refine k9_gX5_3 X (by rfl) in_X6_bestSteer_X5 fl_X6_bestSteer_242 dX6_bestSteer_45 ?_
    refine k9_sub (lv' := []) [] rfl ?_
    exact (l3 c1 c2 c3)
  · refine k9_aload_n X dX6_bestSteer_31 rfl 0 rfl ?_
    refine k9_gX6_4 X in_X6_bestSteer_X6 fl_X6_bestSteer_40 dX6_bestSteer_32 ?_
    refine k9_gX5_2 X (by rfl) in_X6_bestSteer_X5 fl_X6_bestSteer_239 dX6_bestSteer_35 ?_
    refine k9_goto (tgt := 48) X dX6_bestSteer_38 (by decide) ?_
    refine k9_sub (lv' := []) [] rfl ?_
    exact (l4 c1 c2 c3)

theorem in_X6_bestBridge_X6 : ∀ w ∈ u_ws RX6 TX6 5, w ∈ wsX6_bestBridge := by decide +kernel
theorem fl_X6_bestBridge_40 : Cond.fieldLink RX6 40 (TX6 4).1 (TX6 4).2.1 (TX6 4).2.2.1 ∈ wsX6_bestBridge := by decide +kernel
theorem fl_X6_bestBridge_12 : Cond.fieldLink RX6 12 (TX6 0).1 (TX6 0).2.1 (TX6 0).2.2.1 ∈ wsX6_bestBridge := by decide +kernel
theorem fl_X6_bestBridge_19 : Cond.fieldLink RX6 19 (TX6 1).1 (TX6 1).2.1 (TX6 1).2.2.1 ∈ wsX6_bestBridge := by decide +kernel
theorem in_X6_bestBridge_X5 : ∀ w ∈ u_ws RX5 TX5 4, w ∈ wsX6_bestBridge := by decide +kernel
theorem fl_X6_bestBridge_239 : Cond.fieldLink RX6 239 (TX5 2).1 (TX5 2).2.1 (TX5 2).2.2.1 ∈ wsX6_bestBridge := by decide +kernel
set_option maxRecDepth 20000 in
theorem bk_X6_bestBridge_0 (X : k9_X p R s m args c A G 1 cX6_bestBridge wsX6_bestBridge RX6 rm_X6_bestBridge) {mv1 : k9_Mem}
    (k1 : k9_Cv l yX5_findBridge wsX5_findBridge rm_X5_findBridge G M [.ref (k9_ga G 71), .ref (k9_ga G 1), .ref (k9_ga G 57)] mv1)
    (l1 : k9_U p l e R s m args below meth c Q A G 1 0 0 mv1 22 [] [.int (mv1 71 2)]) : k9_U p l e R s m args below meth c Q A G 1 0 0 M 0 [(0, .ref (k9_ga G 0))] [] := by
  refine k9_aload_n X dX6_bestBridge_0 rfl 0 rfl ?_
  refine k9_gX6_4 X in_X6_bestBridge_X6 fl_X6_bestBridge_40 dX6_bestBridge_1 ?_
  refine k9_aload_n X dX6_bestBridge_4 rfl 0 rfl ?_
  refine k9_gX6_0 X in_X6_bestBridge_X6 fl_X6_bestBridge_12 dX6_bestBridge_5 ?_
  refine k9_aload_n X dX6_bestBridge_8 rfl 0 rfl ?_
  refine k9_gX6_1 X in_X6_bestBridge_X6 fl_X6_bestBridge_19 dX6_bestBridge_9 ?_
  refine k9_callVv2 X k1 k9_ob_71 (cwV 2 X.2.2.2.2.1 gX6_bestBridge_X5_findBridge rfl rfl rfl (by decide +kernel) ⟨Nat.le_of_ble_eq_true rfl, Nat.le_of_ble_eq_true rfl⟩) (Nat.le_of_ble_eq_true rfl) dX6_bestBridge_12 ⟨Nat.zero_le _, Nat.zero_le _⟩ ?_
  refine k9_aload_n X dX6_bestBridge_15 rfl 0 rfl ?_
  refine k9_gX6_4 X in_X6_bestBridge_X6 fl_X6_bestBridge_40 dX6_bestBridge_16 ?_
  refine k9_gX5_2 X (by rfl) in_X6_bestBridge_X5 fl_X6_bestBridge_239 dX6_bestBridge_19 ?_
  refine k9_sub (lv' := []) [] rfl ?_
  exact l1

theorem in_X6_bestBreak_X6 : ∀ w ∈ u_ws RX6 TX6 5, w ∈ wsX6_bestBreak := by decide +kernel
theorem fl_X6_bestBreak_40 : Cond.fieldLink RX6 40 (TX6 4).1 (TX6 4).2.1 (TX6 4).2.2.1 ∈ wsX6_bestBreak := by decide +kernel
theorem fl_X6_bestBreak_12 : Cond.fieldLink RX6 12 (TX6 0).1 (TX6 0).2.1 (TX6 0).2.2.1 ∈ wsX6_bestBreak := by decide +kernel
theorem fl_X6_bestBreak_19 : Cond.fieldLink RX6 19 (TX6 1).1 (TX6 1).2.1 (TX6 1).2.2.1 ∈ wsX6_bestBreak := by decide +kernel
theorem in_X6_bestBreak_X5 : ∀ w ∈ u_ws RX5 TX5 4, w ∈ wsX6_bestBreak := by decide +kernel
theorem fl_X6_bestBreak_242 : Cond.fieldLink RX6 242 (TX5 3).1 (TX5 3).2.1 (TX5 3).2.2.1 ∈ wsX6_bestBreak := by decide +kernel
theorem fl_X6_bestBreak_239 : Cond.fieldLink RX6 239 (TX5 2).1 (TX5 2).2.1 (TX5 2).2.2.1 ∈ wsX6_bestBreak := by decide +kernel
set_option maxRecDepth 20000 in
theorem bk_X6_bestBreak_0 (X : k9_X p R s m args c A G 3 cX6_bestBreak wsX6_bestBreak RX6 rm_X6_bestBreak) {a0 a1 : Int32} {xv1 : Option String} {xv2 : Option String} {mv3 : k9_Mem}
    (k1 : k9_Cxv l yX6_needAside wsX6_needAside rm_X6_needAside 1 6 G M [.int a0] xv1 M)
    (l1 : (∀ E : String, xv1 = some E → k9_UX p l e R s m args below meth c Q A G 3 (0 + 1) (0 + 6) M 1 [(0, .ref (k9_ga G 0)), (1, .int a0), (2, .int a1)] [] E))
    (k2 : xv1 = none → k9_Cxv l yX6_needWhat wsX6_needWhat rm_X6_needWhat 1 6 G M [.int a1, .int (1 : Int32)] xv2 M)
    (l2 : xv1 = none → (∀ E : String, xv2 = some E → k9_UX p l e R s m args below meth c Q A G 3 (0 + 1 + 1) (0 + 6 + 6) M 6 [(0, .ref (k9_ga G 0)), (1, .int a0), (2, .int a1)] [] E))
    (k3 : xv1 = none → xv2 = none → k9_Cv l yX5_findBreak wsX5_findBreak rm_X5_findBreak G M [.ref (k9_ga G 71), .ref (k9_ga G 1), .ref (k9_ga G 57), .int a0] mv3)
    (l3 : xv1 = none → xv2 = none → (¬ a1 = 0) → k9_U p l e R s m args below meth c Q A G 3 (0 + 1 + 1) (0 + 6 + 6) mv3 46 [] [.int (mv3 71 3)])
    (l4 : xv1 = none → xv2 = none → (a1 = 0) → k9_U p l e R s m args below meth c Q A G 3 (0 + 1 + 1) (0 + 6 + 6) mv3 46 [] [.int (mv3 71 2)]) : k9_U p l e R s m args below meth c Q A G 3 0 0 M 0 [(0, .ref (k9_ga G 0)), (1, .int a0), (2, .int a1)] [] := by
  refine k9_iload_n X dX6_bestBreak_0 rfl 1 rfl ?_
  refine k9_callSxv1 X k1  (va_cwS 1 X.2.2.2.2.1 gX6_bestBreak_X6_needAside rfl rfl rfl (by decide +kernel) ⟨Nat.le_of_ble_eq_true rfl, Nat.le_of_ble_eq_true rfl⟩) (Nat.le_of_ble_eq_true rfl) dX6_bestBreak_1 (k9_rmX X (by decide) (by decide)) l1 (fun c1 => ?_)
  refine k9_iload_n X dX6_bestBreak_4 rfl 2 rfl ?_
  refine k9_iconst (v := 1) X dX6_bestBreak_5 (by decide) ?_
  refine k9_callSxv2 X (k2 c1)  (va_cwS 2 X.2.2.2.2.1 gX6_bestBreak_X6_needWhat rfl rfl rfl (by decide +kernel) ⟨Nat.le_of_ble_eq_true rfl, Nat.le_of_ble_eq_true rfl⟩) (Nat.le_of_ble_eq_true rfl) dX6_bestBreak_6 (k9_rmX X (by decide) (by decide)) (l2 c1) (fun c2 => ?_)
  refine k9_aload_n X dX6_bestBreak_9 rfl 0 rfl ?_
  refine k9_gX6_4 X in_X6_bestBreak_X6 fl_X6_bestBreak_40 dX6_bestBreak_10 ?_
  refine k9_aload_n X dX6_bestBreak_13 rfl 0 rfl ?_
  refine k9_gX6_0 X in_X6_bestBreak_X6 fl_X6_bestBreak_12 dX6_bestBreak_14 ?_
  refine k9_aload_n X dX6_bestBreak_17 rfl 0 rfl ?_
  refine k9_gX6_1 X in_X6_bestBreak_X6 fl_X6_bestBreak_19 dX6_bestBreak_18 ?_
  refine k9_iload_n X dX6_bestBreak_21 rfl 1 rfl ?_
  refine k9_callVv3 X (k3 c1 c2) k9_ob_71 (cwV 3 X.2.2.2.2.1 gX6_bestBreak_X5_findBreak rfl rfl rfl (by decide +kernel) ⟨Nat.le_of_ble_eq_true rfl, Nat.le_of_ble_eq_true rfl⟩) (Nat.le_of_ble_eq_true rfl) dX6_bestBreak_22 ⟨by decide, by decide⟩ ?_
  refine k9_iload_n X dX6_bestBreak_25 rfl 2 rfl ?_
  refine k9_if_ne (tgt := 39) X dX6_bestBreak_26 (by decide) (fun c3 => ?_) (fun c3 => ?_)
  · refine k9_aload_n X dX6_bestBreak_39 rfl 0 rfl ?_
    refine k9_gX6_4 X in_X6_bestBreak_X6 fl_X6_bestBreak_40 dX6_bestBreak_40 ?_
    refine k9_gX5_3 X (by rfl) in_X6_bestBreak_X5 fl_X6_bestBreak_242 dX6_bestBreak_43 ?_
    refine k9_sub (lv' := []) [] rfl ?_
    exact (l3 c1 c2 c3)
  · refine k9_aload_n X dX6_bestBreak_29 rfl 0 rfl ?_
    refine k9_gX6_4 X in_X6_bestBreak_X6 fl_X6_bestBreak_40 dX6_bestBreak_30 ?_
    refine k9_gX5_2 X (by rfl) in_X6_bestBreak_X5 fl_X6_bestBreak_239 dX6_bestBreak_33 ?_
    refine k9_goto (tgt := 46) X dX6_bestBreak_36 (by decide) ?_
    refine k9_sub (lv' := []) [] rfl ?_
    exact (l4 c1 c2 c3)

theorem in_X6_holesFor_X6 : ∀ w ∈ u_ws RX6 TX6 5, w ∈ wsX6_holesFor := by decide +kernel
theorem fl_X6_holesFor_12 : Cond.fieldLink RX6 12 (TX6 0).1 (TX6 0).2.1 (TX6 0).2.2.1 ∈ wsX6_holesFor := by decide +kernel
set_option maxRecDepth 20000 in
theorem bk_X6_holesFor_0 (X : k9_X p R s m args c A G 2 cX6_holesFor wsX6_holesFor RX6 rm_X6_holesFor) {a0 : Int32} {xv1 : Option String} {rv2 : Int32}
    (k1 : k9_Cxv l yX6_needLength wsX6_needLength rm_X6_needLength 1 6 G M [.int a0] xv1 M)
    (l1 : (∀ E : String, xv1 = some E → k9_UX p l e R s m args below meth c Q A G 2 (0 + 1) (0 + 6) M 1 [(0, .ref (k9_ga G 0)), (1, .int a0)] [] E))
    (k2 : xv1 = none → k9_Ci l yX3_holesIn wsX3_holesIn rm_X3_holesIn G M [.ref (k9_ga G 1), .int a0] rv2 M)
    (l2 : xv1 = none → k9_U p l e R s m args below meth c Q A G 2 (0 + 1) (0 + 6) M 12 [] [.int rv2]) : k9_U p l e R s m args below meth c Q A G 2 0 0 M 0 [(0, .ref (k9_ga G 0)), (1, .int a0)] [] := by
  refine k9_iload_n X dX6_holesFor_0 rfl 1 rfl ?_
  refine k9_callSxv1 X k1  (va_cwS 1 X.2.2.2.2.1 gX6_holesFor_X6_needLength rfl rfl rfl (by decide +kernel) ⟨Nat.le_of_ble_eq_true rfl, Nat.le_of_ble_eq_true rfl⟩) (Nat.le_of_ble_eq_true rfl) dX6_holesFor_1 (k9_rmX X (by decide) (by decide)) l1 (fun c1 => ?_)
  refine k9_aload_n X dX6_holesFor_4 rfl 0 rfl ?_
  refine k9_gX6_0 X in_X6_holesFor_X6 fl_X6_holesFor_12 dX6_holesFor_5 ?_
  refine k9_iload_n X dX6_holesFor_8 rfl 1 rfl ?_
  refine k9_callVi1 X (k2 c1) (k9_ob_P (by decide)) (cwV 1 X.2.2.2.2.1 gX6_holesFor_X3_holesIn rfl rfl rfl (by decide +kernel) ⟨Nat.le_of_ble_eq_true rfl, Nat.le_of_ble_eq_true rfl⟩) (Nat.le_of_ble_eq_true rfl) dX6_holesFor_9 ⟨by decide, by decide⟩ ?_
  refine k9_sub (lv' := []) [] rfl ?_
  exact (l2 c1)

set_option maxRecDepth 20000 in
theorem bk_X6_tuneShare_0 (X : k9_X p R s m args c A G 1 cX6_tuneShare wsX6_tuneShare RX6 rm_X6_tuneShare) {rv1 : UInt64}
    (k1 : k9_Cd l yX6_rightShare wsX6_rightShare rm_X6_rightShare G M [.ref (k9_ga G 0)] rv1 M)
    (l1 : k9_U p l e R s m args below meth c Q A G 1 0 0 M 4 [] [.double rv1]) : k9_U p l e R s m args below meth c Q A G 1 0 0 M 0 [(0, .ref (k9_ga G 0))] [] := by
  refine k9_aload_n X dX6_tuneShare_0 rfl 0 rfl ?_
  refine k9_callVd0 X k1 k9_ob_0 (cwV 0 X.2.2.2.2.1 gX6_tuneShare_X6_rightShare rfl rfl rfl (by decide +kernel) ⟨Nat.le_of_ble_eq_true rfl, Nat.le_of_ble_eq_true rfl⟩) (Nat.le_of_ble_eq_true rfl) dX6_tuneShare_1 ⟨Nat.zero_le _, Nat.zero_le _⟩ ?_
  refine k9_sub (lv' := []) [] rfl ?_
  exact l1

end BK
