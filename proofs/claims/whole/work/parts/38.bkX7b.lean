section BK
variable {p : Program} {l : Launch} {e : Env} {R : Room} {s : State} {m : MethodId} {args : Array Value} {below : List Frame} {meth : Method} {c : Code} {Q : State → Prop} {A : Nat → Prop} {G : k9_G} {M : k9_Mem}
theorem in_X7_shift_X7 : ∀ w ∈ u_ws RX7 TX7 19, w ∈ wsX7_shift := by decide +kernel
theorem fl_X7_shift_46 : Cond.fieldLink RX7 46 (TX7 5).1 (TX7 5).2.1 (TX7 5).2.2.1 ∈ wsX7_shift := by decide +kernel
theorem fl_X7_shift_7 : Cond.fieldLink RX7 7 (TX7 0).1 (TX7 0).2.1 (TX7 0).2.2.1 ∈ wsX7_shift := by decide +kernel
set_option maxRecDepth 20000 in
theorem bk_X7_shift_0 (X : k9_X p R s m args c A G 3 cX7_shift wsX7_shift RX7 rm_X7_shift) {a0 : Int32} {rv1 : Int32} {rv2 : Int32} {mv3 : k9_Mem}
    (k1 : k9_Ci l yX7_isSide wsX7_isSide rm_X7_isSide G M [.int a0] rv1 M)
    (k2 : (¬ rv1 = 0) → k9_Ci l yX7_canShift wsX7_canShift rm_X7_canShift G M [.ref (k9_ga G 76), .int a0] rv2 M)
    (l1 : (¬ rv1 = 0) → (rv2 = 0) → k9_U p l e R s m args below meth c Q A G 3 0 0 (k9_st M 76 5 (2 : Int32)) 36 [] [.int (0 : Int32)])
    (k3 : (¬ rv1 = 0) → (¬ (rv2 = 0)) → k9_Cv l yX7_save wsX7_save rm_X7_save G (k9_st M 76 5 (0 : Int32)) [.ref (k9_ga G 76)] mv3)
    (l2 : (¬ rv1 = 0) → (¬ (rv2 = 0)) → k9_U p l e R s m args below meth c Q A G 3 0 0 mv3 43 [(0, .ref (k9_ga G 76)), (1, .int a0), (2, .int (0 : Int32))] [])
    (l3 : (rv1 = 0) → k9_U p l e R s m args below meth c Q A G 3 0 0 (k9_st M 76 5 (1 : Int32)) 36 [] [.int (0 : Int32)]) : k9_U p l e R s m args below meth c Q A G 3 0 0 M 0 [(0, .ref (k9_ga G 76)), (1, .int a0)] [] := by
  refine k9_aload_n X dX7_shift_0 rfl 0 rfl ?_
  refine k9_iload_n X dX7_shift_1 rfl 1 rfl ?_
  refine k9_callSi1 X k1  (va_cwS 1 X.2.2.2.2.1 gX7_shift_X7_isSide rfl rfl rfl (by decide +kernel) ⟨Nat.le_of_ble_eq_true rfl, Nat.le_of_ble_eq_true rfl⟩) (Nat.le_of_ble_eq_true rfl) dX7_shift_2 ⟨Nat.zero_le _, Nat.zero_le _⟩ ?_
  refine k9_if_ne (tgt := 12) X dX7_shift_5 (by decide) (fun c1 => ?_) (fun c1 => ?_)
  · refine k9_aload_n X dX7_shift_12 rfl 0 rfl ?_
    refine k9_iload_n X dX7_shift_13 rfl 1 rfl ?_
    refine k9_callVi1 X (k2 c1) k9_ob_76 (cwV 1 X.2.2.2.2.1 gX7_shift_X7_canShift rfl rfl rfl (by decide +kernel) ⟨Nat.le_of_ble_eq_true rfl, Nat.le_of_ble_eq_true rfl⟩) (Nat.le_of_ble_eq_true rfl) dX7_shift_14 ⟨Nat.zero_le _, Nat.zero_le _⟩ ?_
    refine k9_if_eq (tgt := 24) X dX7_shift_17 (by decide) (fun c2 => ?_) (fun c2 => ?_)
    · refine k9_iconst (v := 2) X dX7_shift_24 (by decide) ?_
      refine k9_pX7_5 X in_X7_shift_X7 fl_X7_shift_46 dX7_shift_25 ?_
      refine k9_aload_n X dX7_shift_28 rfl 0 rfl ?_
      refine k9_gX7_5 (v := (2 : Int32)) X (by rfl) in_X7_shift_X7 fl_X7_shift_46 dX7_shift_29 ?_
      refine k9_if_le (tgt := 37) X dX7_shift_32 (by decide) (fun c => absurd c (by decide)) (fun _ => ?_)
      refine k9_iconst (v := 0) X dX7_shift_35 (by decide) ?_
      refine k9_sub (lv' := []) [] rfl ?_
      exact (l1 c1 c2)
    · refine k9_iconst (v := 0) X dX7_shift_20 (by decide) ?_
      refine k9_goto (tgt := 25) X dX7_shift_21 (by decide) ?_
      refine k9_pX7_5 X in_X7_shift_X7 fl_X7_shift_46 dX7_shift_25 ?_
      refine k9_aload_n X dX7_shift_28 rfl 0 rfl ?_
      refine k9_gX7_5 (v := (0 : Int32)) X (by rfl) in_X7_shift_X7 fl_X7_shift_46 dX7_shift_29 ?_
      refine k9_if_le (tgt := 37) X dX7_shift_32 (by decide) (fun _ => ?_) (fun c => absurd c (by decide))
      refine k9_aload_n X dX7_shift_37 rfl 0 rfl ?_
      refine k9_callVv0 X (k3 c1 c2) k9_ob_76 (cwV 0 X.2.2.2.2.1 gX7_shift_X7_save rfl rfl rfl (by decide +kernel) ⟨Nat.le_of_ble_eq_true rfl, Nat.le_of_ble_eq_true rfl⟩) (Nat.le_of_ble_eq_true rfl) dX7_shift_38 ⟨Nat.zero_le _, Nat.zero_le _⟩ ?_
      refine k9_iconst (v := 0) X dX7_shift_41 (by decide) ?_
      refine k9_istore_n (lv' := [(0, .ref (k9_ga G 76)), (1, .int a0), (2, .int (0 : Int32))]) X dX7_shift_42 rfl (by decide) [1, 2, 0] rfl ?_
      exact (l2 c1 c2)
  · refine k9_iconst (v := 1) X dX7_shift_8 (by decide) ?_
    refine k9_goto (tgt := 25) X dX7_shift_9 (by decide) ?_
    refine k9_pX7_5 X in_X7_shift_X7 fl_X7_shift_46 dX7_shift_25 ?_
    refine k9_aload_n X dX7_shift_28 rfl 0 rfl ?_
    refine k9_gX7_5 (v := (1 : Int32)) X (by rfl) in_X7_shift_X7 fl_X7_shift_46 dX7_shift_29 ?_
    refine k9_if_le (tgt := 37) X dX7_shift_32 (by decide) (fun c => absurd c (by decide)) (fun _ => ?_)
    refine k9_iconst (v := 0) X dX7_shift_35 (by decide) ?_
    refine k9_sub (lv' := []) [] rfl ?_
    exact (l3 c1)

set_option maxRecDepth 20000 in
theorem bk_X7_shift_43 (X : k9_X p R s m args c A G 3 cX7_shift wsX7_shift RX7 rm_X7_shift) {x1 x2 : Int32} {rv1 : Int32} {mv1 : k9_Mem} {rv2 : Int32} {rv3 : Int32}
    (k1 : ((96 : Int32) ≤ x2) → k9_Ci l yX7_rightsNow wsX7_rightsNow rm_X7_rightsNow G M [.ref (k9_ga G 76)] rv1 mv1)
    (l1 : ((96 : Int32) ≤ x2) → k9_U p l e R s m args below meth c Q A G 3 0 0 mv1 101 [] [.int rv1])
    (o1 : (¬ ((96 : Int32) ≤ x2)) → vp_in ((0 : Int32) + x2) 578)
    (k2 : (¬ ((96 : Int32) ≤ x2)) → k9_Ci l yX7_shifted wsX7_shifted rm_X7_shifted G M [.int (M 77 ((0 : Int32) + x2).toNatClampNeg), .int x1] rv2 M)
    (o2 : (¬ ((96 : Int32) ≤ x2)) → vp_in ((96 : Int32) + x2) 578)
    (k3 : (¬ ((96 : Int32) ≤ x2)) → k9_Ci l yX7_shifted wsX7_shifted rm_X7_shifted G (k9_st M 77 ((0 : Int32) + x2).toNatClampNeg rv2) [.int ((k9_st M 77 ((0 : Int32) + x2).toNatClampNeg rv2) 77 ((96 : Int32) + x2).toNatClampNeg), .int x1] rv3 (k9_st M 77 ((0 : Int32) + x2).toNatClampNeg rv2))
    (l2 : (¬ ((96 : Int32) ≤ x2)) → k9_U p l e R s m args below meth c Q A G 3 0 0 (k9_st (k9_st M 77 ((0 : Int32) + x2).toNatClampNeg rv2) 77 ((96 : Int32) + x2).toNatClampNeg rv3) 43 [(0, .ref (k9_ga G 76)), (1, .int x1), (2, .int (x2 + (1 : Int32)))] []) : k9_U p l e R s m args below meth c Q A G 3 0 0 M 43 [(0, .ref (k9_ga G 76)), (1, .int x1), (2, .int x2)] [] := by
  refine k9_iload_n X dX7_shift_43 rfl 2 rfl ?_
  refine k9_bipush (v := 96) X dX7_shift_44 (by decide) ?_
  refine k9_icmp_ge (tgt := 97) X dX7_shift_46 (by decide) (fun c1 => ?_) (fun c1 => ?_)
  · refine k9_aload_n X dX7_shift_97 rfl 0 rfl ?_
    refine k9_callVi0 X (k1 c1) k9_ob_76 (cwV 0 X.2.2.2.2.1 gX7_shift_X7_rightsNow rfl rfl rfl (by decide +kernel) ⟨Nat.le_of_ble_eq_true rfl, Nat.le_of_ble_eq_true rfl⟩) (Nat.le_of_ble_eq_true rfl) dX7_shift_98 ⟨Nat.zero_le _, Nat.zero_le _⟩ ?_
    refine k9_sub (lv' := []) [] rfl ?_
    exact (l1 c1)
  · refine k9_aload_n X dX7_shift_49 rfl 0 rfl ?_
    refine k9_gX7_0 X in_X7_shift_X7 fl_X7_shift_7 dX7_shift_50 ?_
    refine k9_iconst (v := 0) X dX7_shift_53 (by decide) ?_
    refine k9_iload_n X dX7_shift_54 rfl 2 rfl ?_
    refine k9_iadd X dX7_shift_55 ?_
    refine k9_aload_n X dX7_shift_56 rfl 0 rfl ?_
    refine k9_gX7_0 X in_X7_shift_X7 fl_X7_shift_7 dX7_shift_57 ?_
    refine k9_iconst (v := 0) X dX7_shift_60 (by decide) ?_
    refine k9_iload_n X dX7_shift_61 rfl 2 rfl ?_
    refine k9_iadd X dX7_shift_62 ?_
    refine k9_iald X (by decide) (o1 c1) (by rfl) dX7_shift_63 ?_
    refine k9_iload_n X dX7_shift_64 rfl 1 rfl ?_
    refine k9_callSi2 X (k2 c1)  (va_cwS 2 X.2.2.2.2.1 gX7_shift_X7_shifted rfl rfl rfl (by decide +kernel) ⟨Nat.le_of_ble_eq_true rfl, Nat.le_of_ble_eq_true rfl⟩) (Nat.le_of_ble_eq_true rfl) dX7_shift_65 ⟨Nat.zero_le _, Nat.zero_le _⟩ ?_
    refine k9_iast X (by decide) (o1 c1) dX7_shift_68 ?_
    refine k9_aload_n X dX7_shift_69 rfl 0 rfl ?_
    refine k9_gX7_0 X in_X7_shift_X7 fl_X7_shift_7 dX7_shift_70 ?_
    refine k9_bipush (v := 96) X dX7_shift_73 (by decide) ?_
    refine k9_iload_n X dX7_shift_75 rfl 2 rfl ?_
    refine k9_iadd X dX7_shift_76 ?_
    refine k9_aload_n X dX7_shift_77 rfl 0 rfl ?_
    refine k9_gX7_0 X in_X7_shift_X7 fl_X7_shift_7 dX7_shift_78 ?_
    refine k9_bipush (v := 96) X dX7_shift_81 (by decide) ?_
    refine k9_iload_n X dX7_shift_83 rfl 2 rfl ?_
    refine k9_iadd X dX7_shift_84 ?_
    refine k9_iald X (by decide) (o2 c1) (by rfl) dX7_shift_85 ?_
    refine k9_iload_n X dX7_shift_86 rfl 1 rfl ?_
    refine k9_callSi2 X (k3 c1)  (va_cwS 2 X.2.2.2.2.1 gX7_shift_X7_shifted rfl rfl rfl (by decide +kernel) ⟨Nat.le_of_ble_eq_true rfl, Nat.le_of_ble_eq_true rfl⟩) (Nat.le_of_ble_eq_true rfl) dX7_shift_87 ⟨Nat.zero_le _, Nat.zero_le _⟩ ?_
    refine k9_iast X (by decide) (o2 c1) dX7_shift_90 ?_
    refine k9_iinc (v := x2 + (1 : Int32)) (lv' := [(0, .ref (k9_ga G 76)), (1, .int x1), (2, .int (x2 + (1 : Int32)))]) X dX7_shift_91 (k := 2) rfl (by rfl) (by decide) [1, 2, 0] rfl ?_
    refine k9_goto (tgt := 43) X dX7_shift_94 (by decide) ?_
    exact (l2 c1)

theorem in_X7_canTear_X7 : ∀ w ∈ u_ws RX7 TX7 19, w ∈ wsX7_canTear := by decide +kernel
theorem fl_X7_canTear_7 : Cond.fieldLink RX7 7 (TX7 0).1 (TX7 0).2.1 (TX7 0).2.2.1 ∈ wsX7_canTear := by decide +kernel
set_option maxRecDepth 20000 in
theorem bk_X7_canTear_0 (X : k9_X p R s m args c A G 6 cX7_canTear wsX7_canTear RX7 rm_X7_canTear) {a0 a1 a2 : Int32}
    (l1 : k9_U p l e R s m args below meth c Q A G 6 0 0 M 6 [(0, .ref (k9_ga G 76)), (2, .int a1), (3, .int a2), (4, .int (1 : Int32)), (5, .int a0)] []) : k9_U p l e R s m args below meth c Q A G 6 0 0 M 0 [(0, .ref (k9_ga G 76)), (1, .int a0), (2, .int a1), (3, .int a2)] [] := by
  refine k9_iconst (v := 1) X dX7_canTear_0 (by decide) ?_
  refine k9_istore (lv' := [(0, .ref (k9_ga G 76)), (1, .int a0), (2, .int a1), (3, .int a2), (4, .int (1 : Int32))]) X dX7_canTear_1 (by decide) [1, 2, 3, 4, 0] rfl ?_
  refine k9_iload_n X dX7_canTear_3 rfl 1 rfl ?_
  refine k9_istore (lv' := [(0, .ref (k9_ga G 76)), (1, .int a0), (2, .int a1), (3, .int a2), (4, .int (1 : Int32)), (5, .int a0)]) X dX7_canTear_4 (by decide) [1, 2, 3, 4, 5, 0] rfl ?_
  refine k9_sub (lv' := [(0, .ref (k9_ga G 76)), (2, .int a1), (3, .int a2), (4, .int (1 : Int32)), (5, .int a0)]) [0, 2, 3, 4, 5] rfl ?_
  exact l1

set_option maxRecDepth 20000 in
theorem bk_X7_canTear_6 (X : k9_X p R s m args c A G 6 cX7_canTear wsX7_canTear RX7 rm_X7_canTear) {x2 x3 x4 x5 : Int32} {rv1 : Int32}
    (l1 : (x2 < x5) → k9_U p l e R s m args below meth c Q A G 6 0 0 M 51 [] [.int x4])
    (l2 : (¬ (x2 < x5)) → (x4 = 0) → k9_U p l e R s m args below meth c Q A G 6 0 0 M 6 [(0, .ref (k9_ga G 76)), (2, .int x2), (3, .int x3), (4, .int (0 : Int32)), (5, .int (x5 + (1 : Int32)))] [])
    (o1 : (¬ (x2 < x5)) → (¬ (x4 = 0)) → vp_in ((192 : Int32) + x5) 578)
    (k1 : (¬ (x2 < x5)) → (¬ (x4 = 0)) → k9_Ci l yX7_isSide wsX7_isSide rm_X7_isSide G M [.int ((M 77 ((192 : Int32) + x5).toNatClampNeg) + x3)] rv1 M)
    (l3 : (¬ (x2 < x5)) → (¬ (x4 = 0)) → (rv1 = 0) → k9_U p l e R s m args below meth c Q A G 6 0 0 M 6 [(0, .ref (k9_ga G 76)), (2, .int x2), (3, .int x3), (4, .int (0 : Int32)), (5, .int (x5 + (1 : Int32)))] [])
    (l4 : (¬ (x2 < x5)) → (¬ (x4 = 0)) → (¬ (rv1 = 0)) → k9_U p l e R s m args below meth c Q A G 6 0 0 M 6 [(0, .ref (k9_ga G 76)), (2, .int x2), (3, .int x3), (4, .int (1 : Int32)), (5, .int (x5 + (1 : Int32)))] []) : k9_U p l e R s m args below meth c Q A G 6 0 0 M 6 [(0, .ref (k9_ga G 76)), (2, .int x2), (3, .int x3), (4, .int x4), (5, .int x5)] [] := by
  refine k9_iload X dX7_canTear_6 4 rfl ?_
  refine k9_iload_n X dX7_canTear_8 rfl 1 rfl ?_
  refine k9_icmp_gt (tgt := 49) X dX7_canTear_9 (by decide) (fun c1 => ?_) (fun c1 => ?_)
  · refine k9_iload X dX7_canTear_49 3 rfl ?_
    refine k9_sub (lv' := []) [] rfl ?_
    exact (l1 c1)
  · refine k9_iload X dX7_canTear_12 3 rfl ?_
    refine k9_if_eq (tgt := 40) X dX7_canTear_14 (by decide) (fun c2 => ?_) (fun c2 => ?_)
    · refine k9_iconst (v := 0) X dX7_canTear_40 (by decide) ?_
      refine k9_istore (lv' := [(0, .ref (k9_ga G 76)), (2, .int x2), (3, .int x3), (4, .int (0 : Int32)), (5, .int x5)]) X dX7_canTear_41 (by decide) [1, 2, 3, 0, 4] rfl ?_
      refine k9_iinc (v := x5 + (1 : Int32)) (lv' := [(0, .ref (k9_ga G 76)), (2, .int x2), (3, .int x3), (4, .int (0 : Int32)), (5, .int (x5 + (1 : Int32)))]) X dX7_canTear_43 (k := 4) rfl (by rfl) (by decide) [1, 2, 3, 4, 0] rfl ?_
      refine k9_goto (tgt := 6) X dX7_canTear_46 (by decide) ?_
      exact (l2 c1 c2)
    · refine k9_aload_n X dX7_canTear_17 rfl 0 rfl ?_
      refine k9_gX7_0 X in_X7_canTear_X7 fl_X7_canTear_7 dX7_canTear_18 ?_
      refine k9_sipush (v := 192) X dX7_canTear_21 (by decide) ?_
      refine k9_iload X dX7_canTear_24 4 rfl ?_
      refine k9_iadd X dX7_canTear_26 ?_
      refine k9_iald X (by decide) (o1 c1 c2) (by rfl) dX7_canTear_27 ?_
      refine k9_iload_n X dX7_canTear_28 rfl 2 rfl ?_
      refine k9_iadd X dX7_canTear_29 ?_
      refine k9_callSi1 X (k1 c1 c2)  (va_cwS 1 X.2.2.2.2.1 gX7_canTear_X7_isSide rfl rfl rfl (by decide +kernel) ⟨Nat.le_of_ble_eq_true rfl, Nat.le_of_ble_eq_true rfl⟩) (Nat.le_of_ble_eq_true rfl) dX7_canTear_30 ⟨Nat.zero_le _, Nat.zero_le _⟩ ?_
      refine k9_if_eq (tgt := 40) X dX7_canTear_33 (by decide) (fun c3 => ?_) (fun c3 => ?_)
      · refine k9_iconst (v := 0) X dX7_canTear_40 (by decide) ?_
        refine k9_istore (lv' := [(0, .ref (k9_ga G 76)), (2, .int x2), (3, .int x3), (4, .int (0 : Int32)), (5, .int x5)]) X dX7_canTear_41 (by decide) [1, 2, 3, 0, 4] rfl ?_
        refine k9_iinc (v := x5 + (1 : Int32)) (lv' := [(0, .ref (k9_ga G 76)), (2, .int x2), (3, .int x3), (4, .int (0 : Int32)), (5, .int (x5 + (1 : Int32)))]) X dX7_canTear_43 (k := 4) rfl (by rfl) (by decide) [1, 2, 3, 4, 0] rfl ?_
        refine k9_goto (tgt := 6) X dX7_canTear_46 (by decide) ?_
        exact (l3 c1 c2 c3)
      · refine k9_iconst (v := 1) X dX7_canTear_36 (by decide) ?_
        refine k9_goto (tgt := 41) X dX7_canTear_37 (by decide) ?_
        refine k9_istore (lv' := [(0, .ref (k9_ga G 76)), (2, .int x2), (3, .int x3), (4, .int (1 : Int32)), (5, .int x5)]) X dX7_canTear_41 (by decide) [1, 2, 3, 0, 4] rfl ?_
        refine k9_iinc (v := x5 + (1 : Int32)) (lv' := [(0, .ref (k9_ga G 76)), (2, .int x2), (3, .int x3), (4, .int (1 : Int32)), (5, .int (x5 + (1 : Int32)))]) X dX7_canTear_43 (k := 4) rfl (by rfl) (by decide) [1, 2, 3, 4, 0] rfl ?_
        refine k9_goto (tgt := 6) X dX7_canTear_46 (by decide) ?_
        exact (l4 c1 c2 c3)

theorem in_X7_tear_X7 : ∀ w ∈ u_ws RX7 TX7 19, w ∈ wsX7_tear := by decide +kernel
theorem fl_X7_tear_46 : Cond.fieldLink RX7 46 (TX7 5).1 (TX7 5).2.1 (TX7 5).2.2.1 ∈ wsX7_tear := by decide +kernel
theorem fl_X7_tear_7 : Cond.fieldLink RX7 7 (TX7 0).1 (TX7 0).2.1 (TX7 0).2.2.1 ∈ wsX7_tear := by decide +kernel
set_option maxRecDepth 20000 in
theorem bk_X7_tear_0 (X : k9_X p R s m args c A G 5 cX7_tear wsX7_tear RX7 rm_X7_tear) {a0 a1 a2 : Int32} {rv1 : Int32} {mv2 : k9_Mem} {rv3 : Int32} {rv4 : Int32} {mv5 : k9_Mem}
    (k1 : k9_Ci l yX7_refusedRange wsX7_refusedRange rm_X7_refusedRange G M [.int (1 : Int32), .int a0, .int a1] rv1 M)
    (k2 : (¬ rv1 = 0) → (rv1 ≤ 0) → k9_Cv l yX7_save wsX7_save rm_X7_save G (k9_st M 76 5 rv1) [.ref (k9_ga G 76)] mv2)
    (l1 : (¬ rv1 = 0) → (rv1 ≤ 0) → k9_U p l e R s m args below meth c Q A G 5 0 0 mv2 63 [(0, .ref (k9_ga G 76)), (2, .int a1), (3, .int a2), (4, .int a0)] [])
    (l2 : (¬ rv1 = 0) → (¬ (rv1 ≤ 0)) → k9_U p l e R s m args below meth c Q A G 5 0 0 (k9_st M 76 5 rv1) 55 [] [.int (0 : Int32)])
    (k3 : (rv1 = 0) → k9_Ci l yX7_isSide wsX7_isSide rm_X7_isSide G (k9_st M 76 5 rv1) [.int a2] rv3 (k9_st M 76 5 rv1))
    (k4 : (rv1 = 0) → (¬ rv3 = 0) → k9_Ci l yX7_canTear wsX7_canTear rm_X7_canTear G (k9_st M 76 5 rv1) [.ref (k9_ga G 76), .int a0, .int a1, .int a2] rv4 (k9_st M 76 5 rv1))
    (l3 : (rv1 = 0) → (¬ rv3 = 0) → (rv4 = 0) → k9_U p l e R s m args below meth c Q A G 5 0 0 (k9_st (k9_st M 76 5 rv1) 76 5 (3 : Int32)) 55 [] [.int (0 : Int32)])
    (k5 : (rv1 = 0) → (¬ rv3 = 0) → (¬ (rv4 = 0)) → k9_Cv l yX7_save wsX7_save rm_X7_save G (k9_st (k9_st M 76 5 rv1) 76 5 (0 : Int32)) [.ref (k9_ga G 76)] mv5)
    (l4 : (rv1 = 0) → (¬ rv3 = 0) → (¬ (rv4 = 0)) → k9_U p l e R s m args below meth c Q A G 5 0 0 mv5 63 [(0, .ref (k9_ga G 76)), (2, .int a1), (3, .int a2), (4, .int a0)] [])
    (l5 : (rv1 = 0) → (rv3 = 0) → k9_U p l e R s m args below meth c Q A G 5 0 0 (k9_st (k9_st M 76 5 rv1) 76 5 (2 : Int32)) 55 [] [.int (0 : Int32)]) : k9_U p l e R s m args below meth c Q A G 5 0 0 M 0 [(0, .ref (k9_ga G 76)), (1, .int a0), (2, .int a1), (3, .int a2)] [] := by
  refine k9_aload_n X dX7_tear_0 rfl 0 rfl ?_
  refine k9_iconst (v := 1) X dX7_tear_1 (by decide) ?_
  refine k9_iload_n X dX7_tear_2 rfl 1 rfl ?_
  refine k9_iload_n X dX7_tear_3 rfl 2 rfl ?_
  refine k9_callSi3 X k1  (va_cwS 3 X.2.2.2.2.1 gX7_tear_X7_refusedRange rfl rfl rfl (by decide +kernel) ⟨Nat.le_of_ble_eq_true rfl, Nat.le_of_ble_eq_true rfl⟩) (Nat.le_of_ble_eq_true rfl) dX7_tear_4 ⟨Nat.zero_le _, Nat.zero_le _⟩ ?_
  refine k9_pX7_5 X in_X7_tear_X7 fl_X7_tear_46 dX7_tear_7 ?_
  refine k9_aload_n X dX7_tear_10 rfl 0 rfl ?_
  refine k9_gX7_5 (v := rv1) X (by rfl) in_X7_tear_X7 fl_X7_tear_46 dX7_tear_11 ?_
  refine k9_if_ne (tgt := 47) X dX7_tear_14 (by decide) (fun c1 => ?_) (fun c1 => ?_)
  · refine k9_aload_n X dX7_tear_47 rfl 0 rfl ?_
    refine k9_gX7_5 (v := rv1) X (by rfl) in_X7_tear_X7 fl_X7_tear_46 dX7_tear_48 ?_
    refine k9_if_le (tgt := 56) X dX7_tear_51 (by decide) (fun c2 => ?_) (fun c2 => ?_)
    · refine k9_aload_n X dX7_tear_56 rfl 0 rfl ?_
      refine k9_callVv0 X (k2 c1 c2) k9_ob_76 (cwV 0 X.2.2.2.2.1 gX7_tear_X7_save rfl rfl rfl (by decide +kernel) ⟨Nat.le_of_ble_eq_true rfl, Nat.le_of_ble_eq_true rfl⟩) (Nat.le_of_ble_eq_true rfl) dX7_tear_57 ⟨Nat.zero_le _, Nat.zero_le _⟩ ?_
      refine k9_iload_n X dX7_tear_60 rfl 1 rfl ?_
      refine k9_istore (lv' := [(0, .ref (k9_ga G 76)), (1, .int a0), (2, .int a1), (3, .int a2), (4, .int a0)]) X dX7_tear_61 (by decide) [1, 2, 3, 4, 0] rfl ?_
      refine k9_sub (lv' := [(0, .ref (k9_ga G 76)), (2, .int a1), (3, .int a2), (4, .int a0)]) [0, 2, 3, 4] rfl ?_
      exact (l1 c1 c2)
    · refine k9_iconst (v := 0) X dX7_tear_54 (by decide) ?_
      refine k9_sub (lv' := []) [] rfl ?_
      exact (l2 c1 c2)
  · refine k9_aload_n X dX7_tear_17 rfl 0 rfl ?_
    refine k9_iload_n X dX7_tear_18 rfl 3 rfl ?_
    refine k9_callSi1 X (k3 c1)  (va_cwS 1 X.2.2.2.2.1 gX7_tear_X7_isSide rfl rfl rfl (by decide +kernel) ⟨Nat.le_of_ble_eq_true rfl, Nat.le_of_ble_eq_true rfl⟩) (Nat.le_of_ble_eq_true rfl) dX7_tear_19 ⟨Nat.zero_le _, Nat.zero_le _⟩ ?_
    refine k9_if_ne (tgt := 29) X dX7_tear_22 (by decide) (fun c3 => ?_) (fun c3 => ?_)
    · refine k9_aload_n X dX7_tear_29 rfl 0 rfl ?_
      refine k9_iload_n X dX7_tear_30 rfl 1 rfl ?_
      refine k9_iload_n X dX7_tear_31 rfl 2 rfl ?_
      refine k9_iload_n X dX7_tear_32 rfl 3 rfl ?_
      refine k9_callVi3 X (k4 c1 c3) k9_ob_76 (cwV 3 X.2.2.2.2.1 gX7_tear_X7_canTear rfl rfl rfl (by decide +kernel) ⟨Nat.le_of_ble_eq_true rfl, Nat.le_of_ble_eq_true rfl⟩) (Nat.le_of_ble_eq_true rfl) dX7_tear_33 ⟨Nat.zero_le _, Nat.zero_le _⟩ ?_
      refine k9_if_eq (tgt := 43) X dX7_tear_36 (by decide) (fun c4 => ?_) (fun c4 => ?_)
      · refine k9_iconst (v := 3) X dX7_tear_43 (by decide) ?_
        refine k9_pX7_5 X in_X7_tear_X7 fl_X7_tear_46 dX7_tear_44 ?_
        refine k9_aload_n X dX7_tear_47 rfl 0 rfl ?_
        refine k9_gX7_5 (v := (3 : Int32)) X (by rfl) in_X7_tear_X7 fl_X7_tear_46 dX7_tear_48 ?_
        refine k9_if_le (tgt := 56) X dX7_tear_51 (by decide) (fun c => absurd c (by decide)) (fun _ => ?_)
        refine k9_iconst (v := 0) X dX7_tear_54 (by decide) ?_
        refine k9_sub (lv' := []) [] rfl ?_
        exact (l3 c1 c3 c4)
      · refine k9_iconst (v := 0) X dX7_tear_39 (by decide) ?_
        refine k9_goto (tgt := 44) X dX7_tear_40 (by decide) ?_
        refine k9_pX7_5 X in_X7_tear_X7 fl_X7_tear_46 dX7_tear_44 ?_
        refine k9_aload_n X dX7_tear_47 rfl 0 rfl ?_
        refine k9_gX7_5 (v := (0 : Int32)) X (by rfl) in_X7_tear_X7 fl_X7_tear_46 dX7_tear_48 ?_
        refine k9_if_le (tgt := 56) X dX7_tear_51 (by decide) (fun _ => ?_) (fun c => absurd c (by decide))
        refine k9_aload_n X dX7_tear_56 rfl 0 rfl ?_
        refine k9_callVv0 X (k5 c1 c3 c4) k9_ob_76 (cwV 0 X.2.2.2.2.1 gX7_tear_X7_save rfl rfl rfl (by decide +kernel) ⟨Nat.le_of_ble_eq_true rfl, Nat.le_of_ble_eq_true rfl⟩) (Nat.le_of_ble_eq_true rfl) dX7_tear_57 ⟨Nat.zero_le _, Nat.zero_le _⟩ ?_
        refine k9_iload_n X dX7_tear_60 rfl 1 rfl ?_
        refine k9_istore (lv' := [(0, .ref (k9_ga G 76)), (1, .int a0), (2, .int a1), (3, .int a2), (4, .int a0)]) X dX7_tear_61 (by decide) [1, 2, 3, 4, 0] rfl ?_
        refine k9_sub (lv' := [(0, .ref (k9_ga G 76)), (2, .int a1), (3, .int a2), (4, .int a0)]) [0, 2, 3, 4] rfl ?_
        exact (l4 c1 c3 c4)
    · refine k9_iconst (v := 2) X dX7_tear_25 (by decide) ?_
      refine k9_goto (tgt := 44) X dX7_tear_26 (by decide) ?_
      refine k9_pX7_5 X in_X7_tear_X7 fl_X7_tear_46 dX7_tear_44 ?_
      refine k9_aload_n X dX7_tear_47 rfl 0 rfl ?_
      refine k9_gX7_5 (v := (2 : Int32)) X (by rfl) in_X7_tear_X7 fl_X7_tear_46 dX7_tear_48 ?_
      refine k9_if_le (tgt := 56) X dX7_tear_51 (by decide) (fun c => absurd c (by decide)) (fun _ => ?_)
      refine k9_iconst (v := 0) X dX7_tear_54 (by decide) ?_
      refine k9_sub (lv' := []) [] rfl ?_
      exact (l5 c1 c3)

set_option maxRecDepth 20000 in
theorem bk_X7_tear_63 (X : k9_X p R s m args c A G 5 cX7_tear wsX7_tear RX7 rm_X7_tear) {x2 x3 x4 : Int32} {rv1 : Int32} {mv1 : k9_Mem}
    (k1 : (x2 < x4) → k9_Ci l yX7_rightsNow wsX7_rightsNow rm_X7_rightsNow G M [.ref (k9_ga G 76)] rv1 mv1)
    (l1 : (x2 < x4) → k9_U p l e R s m args below meth c Q A G 5 0 0 mv1 94 [] [.int rv1])
    (o1 : (¬ (x2 < x4)) → vp_in ((192 : Int32) + x4) 578)
    (l2 : (¬ (x2 < x4)) → k9_U p l e R s m args below meth c Q A G 5 0 0 (k9_st M 77 ((192 : Int32) + x4).toNatClampNeg ((M 77 ((192 : Int32) + x4).toNatClampNeg) + x3)) 63 [(0, .ref (k9_ga G 76)), (2, .int x2), (3, .int x3), (4, .int (x4 + (1 : Int32)))] []) : k9_U p l e R s m args below meth c Q A G 5 0 0 M 63 [(0, .ref (k9_ga G 76)), (2, .int x2), (3, .int x3), (4, .int x4)] [] := by
  refine k9_iload X dX7_tear_63 3 rfl ?_
  refine k9_iload_n X dX7_tear_65 rfl 1 rfl ?_
  refine k9_icmp_gt (tgt := 90) X dX7_tear_66 (by decide) (fun c1 => ?_) (fun c1 => ?_)
  · refine k9_aload_n X dX7_tear_90 rfl 0 rfl ?_
    refine k9_callVi0 X (k1 c1) k9_ob_76 (cwV 0 X.2.2.2.2.1 gX7_tear_X7_rightsNow rfl rfl rfl (by decide +kernel) ⟨Nat.le_of_ble_eq_true rfl, Nat.le_of_ble_eq_true rfl⟩) (Nat.le_of_ble_eq_true rfl) dX7_tear_91 ⟨Nat.zero_le _, Nat.zero_le _⟩ ?_
    refine k9_sub (lv' := []) [] rfl ?_
    exact (l1 c1)
  · refine k9_aload_n X dX7_tear_69 rfl 0 rfl ?_
    refine k9_gX7_0 X in_X7_tear_X7 fl_X7_tear_7 dX7_tear_70 ?_
    refine k9_sipush (v := 192) X dX7_tear_73 (by decide) ?_
    refine k9_iload X dX7_tear_76 3 rfl ?_
    refine k9_iadd X dX7_tear_78 ?_
    refine k9_dup2 X dX7_tear_79 rfl rfl ?_
    refine k9_iald X (by decide) (o1 c1) (by rfl) dX7_tear_80 ?_
    refine k9_iload_n X dX7_tear_81 rfl 2 rfl ?_
    refine k9_iadd X dX7_tear_82 ?_
    refine k9_iast X (by decide) (o1 c1) dX7_tear_83 ?_
    refine k9_iinc (v := x4 + (1 : Int32)) (lv' := [(0, .ref (k9_ga G 76)), (2, .int x2), (3, .int x3), (4, .int (x4 + (1 : Int32)))]) X dX7_tear_84 (k := 3) rfl (by rfl) (by decide) [1, 2, 3, 0] rfl ?_
    refine k9_goto (tgt := 63) X dX7_tear_87 (by decide) ?_
    exact (l2 c1)

theorem in_X7_steer_X7 : ∀ w ∈ u_ws RX7 TX7 19, w ∈ wsX7_steer := by decide +kernel
theorem fl_X7_steer_46 : Cond.fieldLink RX7 46 (TX7 5).1 (TX7 5).2.1 (TX7 5).2.2.1 ∈ wsX7_steer := by decide +kernel
theorem fl_X7_steer_7 : Cond.fieldLink RX7 7 (TX7 0).1 (TX7 0).2.1 (TX7 0).2.2.1 ∈ wsX7_steer := by decide +kernel
set_option maxRecDepth 20000 in
theorem bk_X7_steer_0 (X : k9_X p R s m args c A G 5 cX7_steer wsX7_steer RX7 rm_X7_steer) {a0 a1 a2 : Int32} {rv1 : Int32} {mv2 : k9_Mem} {rv3 : Int32} {mv4 : k9_Mem}
    (k1 : k9_Ci l yX7_refusedRange wsX7_refusedRange rm_X7_refusedRange G M [.int (1 : Int32), .int a0, .int a1] rv1 M)
    (k2 : (¬ rv1 = 0) → (rv1 ≤ 0) → k9_Cv l yX7_save wsX7_save rm_X7_save G (k9_st M 76 5 rv1) [.ref (k9_ga G 76)] mv2)
    (l1 : (¬ rv1 = 0) → (rv1 ≤ 0) → k9_U p l e R s m args below meth c Q A G 5 0 0 mv2 49 [(0, .ref (k9_ga G 76)), (2, .int a1), (3, .int a2), (4, .int a0)] [])
    (l2 : (¬ rv1 = 0) → (¬ (rv1 ≤ 0)) → k9_U p l e R s m args below meth c Q A G 5 0 0 (k9_st M 76 5 rv1) 41 [] [.int (0 : Int32)])
    (k3 : (rv1 = 0) → k9_Ci l yX7_isSide wsX7_isSide rm_X7_isSide G (k9_st M 76 5 rv1) [.int a2] rv3 (k9_st M 76 5 rv1))
    (l3 : (rv1 = 0) → (rv3 = 0) → k9_U p l e R s m args below meth c Q A G 5 0 0 (k9_st (k9_st M 76 5 rv1) 76 5 (2 : Int32)) 41 [] [.int (0 : Int32)])
    (k4 : (rv1 = 0) → (¬ (rv3 = 0)) → k9_Cv l yX7_save wsX7_save rm_X7_save G (k9_st (k9_st M 76 5 rv1) 76 5 (0 : Int32)) [.ref (k9_ga G 76)] mv4)
    (l4 : (rv1 = 0) → (¬ (rv3 = 0)) → k9_U p l e R s m args below meth c Q A G 5 0 0 mv4 49 [(0, .ref (k9_ga G 76)), (2, .int a1), (3, .int a2), (4, .int a0)] []) : k9_U p l e R s m args below meth c Q A G 5 0 0 M 0 [(0, .ref (k9_ga G 76)), (1, .int a0), (2, .int a1), (3, .int a2)] [] := by
  refine k9_aload_n X dX7_steer_0 rfl 0 rfl ?_
  refine k9_iconst (v := 1) X dX7_steer_1 (by decide) ?_
  refine k9_iload_n X dX7_steer_2 rfl 1 rfl ?_
  refine k9_iload_n X dX7_steer_3 rfl 2 rfl ?_
  refine k9_callSi3 X k1  (va_cwS 3 X.2.2.2.2.1 gX7_steer_X7_refusedRange rfl rfl rfl (by decide +kernel) ⟨Nat.le_of_ble_eq_true rfl, Nat.le_of_ble_eq_true rfl⟩) (Nat.le_of_ble_eq_true rfl) dX7_steer_4 ⟨Nat.zero_le _, Nat.zero_le _⟩ ?_
  refine k9_pX7_5 X in_X7_steer_X7 fl_X7_steer_46 dX7_steer_7 ?_
  refine k9_aload_n X dX7_steer_10 rfl 0 rfl ?_
  refine k9_gX7_5 (v := rv1) X (by rfl) in_X7_steer_X7 fl_X7_steer_46 dX7_steer_11 ?_
  refine k9_if_ne (tgt := 33) X dX7_steer_14 (by decide) (fun c1 => ?_) (fun c1 => ?_)
  · refine k9_aload_n X dX7_steer_33 rfl 0 rfl ?_
    refine k9_gX7_5 (v := rv1) X (by rfl) in_X7_steer_X7 fl_X7_steer_46 dX7_steer_34 ?_
    refine k9_if_le (tgt := 42) X dX7_steer_37 (by decide) (fun c2 => ?_) (fun c2 => ?_)
    · refine k9_aload_n X dX7_steer_42 rfl 0 rfl ?_
      refine k9_callVv0 X (k2 c1 c2) k9_ob_76 (cwV 0 X.2.2.2.2.1 gX7_steer_X7_save rfl rfl rfl (by decide +kernel) ⟨Nat.le_of_ble_eq_true rfl, Nat.le_of_ble_eq_true rfl⟩) (Nat.le_of_ble_eq_true rfl) dX7_steer_43 ⟨Nat.zero_le _, Nat.zero_le _⟩ ?_
      refine k9_iload_n X dX7_steer_46 rfl 1 rfl ?_
      refine k9_istore (lv' := [(0, .ref (k9_ga G 76)), (1, .int a0), (2, .int a1), (3, .int a2), (4, .int a0)]) X dX7_steer_47 (by decide) [1, 2, 3, 4, 0] rfl ?_
      refine k9_sub (lv' := [(0, .ref (k9_ga G 76)), (2, .int a1), (3, .int a2), (4, .int a0)]) [0, 2, 3, 4] rfl ?_
      exact (l1 c1 c2)
    · refine k9_iconst (v := 0) X dX7_steer_40 (by decide) ?_
      refine k9_sub (lv' := []) [] rfl ?_
      exact (l2 c1 c2)
  · refine k9_aload_n X dX7_steer_17 rfl 0 rfl ?_
    refine k9_iload_n X dX7_steer_18 rfl 3 rfl ?_
    refine k9_callSi1 X (k3 c1)  (va_cwS 1 X.2.2.2.2.1 gX7_steer_X7_isSide rfl rfl rfl (by decide +kernel) ⟨Nat.le_of_ble_eq_true rfl, Nat.le_of_ble_eq_true rfl⟩) (Nat.le_of_ble_eq_true rfl) dX7_steer_19 ⟨Nat.zero_le _, Nat.zero_le _⟩ ?_
    refine k9_if_eq (tgt := 29) X dX7_steer_22 (by decide) (fun c3 => ?_) (fun c3 => ?_)
    · refine k9_iconst (v := 2) X dX7_steer_29 (by decide) ?_
      refine k9_pX7_5 X in_X7_steer_X7 fl_X7_steer_46 dX7_steer_30 ?_
      refine k9_aload_n X dX7_steer_33 rfl 0 rfl ?_
      refine k9_gX7_5 (v := (2 : Int32)) X (by rfl) in_X7_steer_X7 fl_X7_steer_46 dX7_steer_34 ?_
      refine k9_if_le (tgt := 42) X dX7_steer_37 (by decide) (fun c => absurd c (by decide)) (fun _ => ?_)
      refine k9_iconst (v := 0) X dX7_steer_40 (by decide) ?_
      refine k9_sub (lv' := []) [] rfl ?_
      exact (l3 c1 c3)
    · refine k9_iconst (v := 0) X dX7_steer_25 (by decide) ?_
      refine k9_goto (tgt := 30) X dX7_steer_26 (by decide) ?_
      refine k9_pX7_5 X in_X7_steer_X7 fl_X7_steer_46 dX7_steer_30 ?_
      refine k9_aload_n X dX7_steer_33 rfl 0 rfl ?_
      refine k9_gX7_5 (v := (0 : Int32)) X (by rfl) in_X7_steer_X7 fl_X7_steer_46 dX7_steer_34 ?_
      refine k9_if_le (tgt := 42) X dX7_steer_37 (by decide) (fun _ => ?_) (fun c => absurd c (by decide))
      refine k9_aload_n X dX7_steer_42 rfl 0 rfl ?_
      refine k9_callVv0 X (k4 c1 c3) k9_ob_76 (cwV 0 X.2.2.2.2.1 gX7_steer_X7_save rfl rfl rfl (by decide +kernel) ⟨Nat.le_of_ble_eq_true rfl, Nat.le_of_ble_eq_true rfl⟩) (Nat.le_of_ble_eq_true rfl) dX7_steer_43 ⟨Nat.zero_le _, Nat.zero_le _⟩ ?_
      refine k9_iload_n X dX7_steer_46 rfl 1 rfl ?_
      refine k9_istore (lv' := [(0, .ref (k9_ga G 76)), (1, .int a0), (2, .int a1), (3, .int a2), (4, .int a0)]) X dX7_steer_47 (by decide) [1, 2, 3, 4, 0] rfl ?_
      refine k9_sub (lv' := [(0, .ref (k9_ga G 76)), (2, .int a1), (3, .int a2), (4, .int a0)]) [0, 2, 3, 4] rfl ?_
      exact (l4 c1 c3)

set_option maxRecDepth 20000 in
theorem bk_X7_steer_49 (X : k9_X p R s m args c A G 5 cX7_steer wsX7_steer RX7 rm_X7_steer) {x2 x3 x4 : Int32} {rv1 : Int32} {mv1 : k9_Mem}
    (k1 : (x2 < x4) → k9_Ci l yX7_rightsNow wsX7_rightsNow rm_X7_rightsNow G M [.ref (k9_ga G 76)] rv1 mv1)
    (l1 : (x2 < x4) → k9_U p l e R s m args below meth c Q A G 5 0 0 mv1 77 [] [.int rv1])
    (o1 : (¬ (x2 < x4)) → vp_in ((288 : Int32) + x4) 578)
    (l2 : (¬ (x2 < x4)) → k9_U p l e R s m args below meth c Q A G 5 0 0 (k9_st M 77 ((288 : Int32) + x4).toNatClampNeg x3) 49 [(0, .ref (k9_ga G 76)), (2, .int x2), (3, .int x3), (4, .int (x4 + (1 : Int32)))] []) : k9_U p l e R s m args below meth c Q A G 5 0 0 M 49 [(0, .ref (k9_ga G 76)), (2, .int x2), (3, .int x3), (4, .int x4)] [] := by
  refine k9_iload X dX7_steer_49 3 rfl ?_
  refine k9_iload_n X dX7_steer_51 rfl 1 rfl ?_
  refine k9_icmp_gt (tgt := 73) X dX7_steer_52 (by decide) (fun c1 => ?_) (fun c1 => ?_)
  · refine k9_aload_n X dX7_steer_73 rfl 0 rfl ?_
    refine k9_callVi0 X (k1 c1) k9_ob_76 (cwV 0 X.2.2.2.2.1 gX7_steer_X7_rightsNow rfl rfl rfl (by decide +kernel) ⟨Nat.le_of_ble_eq_true rfl, Nat.le_of_ble_eq_true rfl⟩) (Nat.le_of_ble_eq_true rfl) dX7_steer_74 ⟨Nat.zero_le _, Nat.zero_le _⟩ ?_
    refine k9_sub (lv' := []) [] rfl ?_
    exact (l1 c1)
  · refine k9_aload_n X dX7_steer_55 rfl 0 rfl ?_
    refine k9_gX7_0 X in_X7_steer_X7 fl_X7_steer_7 dX7_steer_56 ?_
    refine k9_sipush (v := 288) X dX7_steer_59 (by decide) ?_
    refine k9_iload X dX7_steer_62 3 rfl ?_
    refine k9_iadd X dX7_steer_64 ?_
    refine k9_iload_n X dX7_steer_65 rfl 2 rfl ?_
    refine k9_iast X (by decide) (o1 c1) dX7_steer_66 ?_
    refine k9_iinc (v := x4 + (1 : Int32)) (lv' := [(0, .ref (k9_ga G 76)), (2, .int x2), (3, .int x3), (4, .int (x4 + (1 : Int32)))]) X dX7_steer_67 (k := 3) rfl (by rfl) (by decide) [1, 2, 3, 0] rfl ?_
    refine k9_goto (tgt := 49) X dX7_steer_70 (by decide) ?_
    exact (l2 c1)

set_option maxRecDepth 20000 in
theorem bk_X7_isSetting_0 (X : k9_X p R s m args c A G 1 cX7_isSetting wsX7_isSetting RX7 rm_X7_isSetting) {a0 : Int32} {rv1 : Int32}
    (k1 : k9_Ci l yX7_within wsX7_within rm_X7_within G M [.int a0, .int (0 : Int32), .int (1 : Int32)] rv1 M)
    (l1 : k9_U p l e R s m args below meth c Q A G 1 0 0 M 6 [] [.int rv1]) : k9_U p l e R s m args below meth c Q A G 1 0 0 M 0 [(0, .int a0)] [] := by
  refine k9_iload_n X dX7_isSetting_0 rfl 0 rfl ?_
  refine k9_iconst (v := 0) X dX7_isSetting_1 (by decide) ?_
  refine k9_iconst (v := 1) X dX7_isSetting_2 (by decide) ?_
  refine k9_callSi3 X k1  (va_cwS 3 X.2.2.2.2.1 gX7_isSetting_X7_within rfl rfl rfl (by decide +kernel) ⟨Nat.le_of_ble_eq_true rfl, Nat.le_of_ble_eq_true rfl⟩) (Nat.le_of_ble_eq_true rfl) dX7_isSetting_3 ⟨Nat.zero_le _, Nat.zero_le _⟩ ?_
  refine k9_sub (lv' := []) [] rfl ?_
  exact l1

theorem in_X7_set_X7 : ∀ w ∈ u_ws RX7 TX7 19, w ∈ wsX7_set := by decide +kernel
theorem fl_X7_set_46 : Cond.fieldLink RX7 46 (TX7 5).1 (TX7 5).2.1 (TX7 5).2.2.1 ∈ wsX7_set := by decide +kernel
theorem fl_X7_set_7 : Cond.fieldLink RX7 7 (TX7 0).1 (TX7 0).2.1 (TX7 0).2.2.1 ∈ wsX7_set := by decide +kernel
set_option maxRecDepth 20000 in
theorem bk_X7_set_0 (X : k9_X p R s m args c A G 4 cX7_set wsX7_set RX7 rm_X7_set) {a0 a1 : Int32} {rv1 : Int32} {rv2 : Int32} {mv3 : k9_Mem} {rv4 : Int32} {mv5 : k9_Mem}
    (k1 : k9_Ci l yX7_isSetting wsX7_isSetting rm_X7_isSetting G M [.int a0] rv1 M)
    (k2 : (¬ rv1 = 0) → (¬ a0 = 0) → k9_Ci l yX7_within wsX7_within rm_X7_within G M [.int a1, .int (0 : Int32), .int (8 : Int32)] rv2 M)
    (l1 : (¬ rv1 = 0) → (¬ a0 = 0) → (rv2 = 0) → k9_U p l e R s m args below meth c Q A G 4 0 0 (k9_st M 76 5 (2 : Int32)) 46 [] [.int (0 : Int32)])
    (k3 : (¬ rv1 = 0) → (¬ a0 = 0) → (¬ (rv2 = 0)) → k9_Cv l yX7_save wsX7_save rm_X7_save G (k9_st M 76 5 (0 : Int32)) [.ref (k9_ga G 76)] mv3)
    (o1 : (¬ rv1 = 0) → (¬ a0 = 0) → (¬ (rv2 = 0)) → vp_in ((384 : Int32) + a0) 578)
    (l2 : (¬ rv1 = 0) → (¬ a0 = 0) → (¬ (rv2 = 0)) → k9_U p l e R s m args below meth c Q A G 4 0 0 (k9_st mv3 77 ((384 : Int32) + a0).toNatClampNeg a1) 74 [] [.int (mv3 77 ((384 : Int32) + a0).toNatClampNeg)])
    (k4 : (¬ rv1 = 0) → (a0 = 0) → k9_Ci l yX7_within wsX7_within rm_X7_within G M [.int a1, .int (0 : Int32), .int (3 : Int32)] rv4 M)
    (l3 : (¬ rv1 = 0) → (a0 = 0) → (rv4 = 0) → k9_U p l e R s m args below meth c Q A G 4 0 0 (k9_st M 76 5 (2 : Int32)) 46 [] [.int (0 : Int32)])
    (k5 : (¬ rv1 = 0) → (a0 = 0) → (¬ (rv4 = 0)) → k9_Cv l yX7_save wsX7_save rm_X7_save G (k9_st M 76 5 (0 : Int32)) [.ref (k9_ga G 76)] mv5)
    (o2 : (¬ rv1 = 0) → (a0 = 0) → (¬ (rv4 = 0)) → vp_in ((384 : Int32) + a0) 578)
    (l4 : (¬ rv1 = 0) → (a0 = 0) → (¬ (rv4 = 0)) → k9_U p l e R s m args below meth c Q A G 4 0 0 (k9_st mv5 77 ((384 : Int32) + a0).toNatClampNeg a1) 74 [] [.int (mv5 77 ((384 : Int32) + a0).toNatClampNeg)])
    (l5 : (rv1 = 0) → k9_U p l e R s m args below meth c Q A G 4 0 0 (k9_st M 76 5 (1 : Int32)) 46 [] [.int (0 : Int32)]) : k9_U p l e R s m args below meth c Q A G 4 0 0 M 0 [(0, .ref (k9_ga G 76)), (1, .int a0), (2, .int a1)] [] := by
  refine k9_aload_n X dX7_set_0 rfl 0 rfl ?_
  refine k9_iload_n X dX7_set_1 rfl 1 rfl ?_
  refine k9_callSi1 X k1  (va_cwS 1 X.2.2.2.2.1 gX7_set_X7_isSetting rfl rfl rfl (by decide +kernel) ⟨Nat.le_of_ble_eq_true rfl, Nat.le_of_ble_eq_true rfl⟩) (Nat.le_of_ble_eq_true rfl) dX7_set_2 ⟨Nat.zero_le _, Nat.zero_le _⟩ ?_
  refine k9_if_ne (tgt := 12) X dX7_set_5 (by decide) (fun c1 => ?_) (fun c1 => ?_)
  · refine k9_iload_n X dX7_set_12 rfl 2 rfl ?_
    refine k9_iconst (v := 0) X dX7_set_13 (by decide) ?_
    refine k9_iload_n X dX7_set_14 rfl 1 rfl ?_
    refine k9_if_ne (tgt := 22) X dX7_set_15 (by decide) (fun c2 => ?_) (fun c2 => ?_)
    · refine k9_bipush (v := 8) X dX7_set_22 (by decide) ?_
      refine k9_callSi3 X (k2 c1 c2)  (va_cwS 3 X.2.2.2.2.1 gX7_set_X7_within rfl rfl rfl (by decide +kernel) ⟨Nat.le_of_ble_eq_true rfl, Nat.le_of_ble_eq_true rfl⟩) (Nat.le_of_ble_eq_true rfl) dX7_set_24 ⟨Nat.zero_le _, Nat.zero_le _⟩ ?_
      refine k9_if_eq (tgt := 34) X dX7_set_27 (by decide) (fun c3 => ?_) (fun c3 => ?_)
      · refine k9_iconst (v := 2) X dX7_set_34 (by decide) ?_
        refine k9_pX7_5 X in_X7_set_X7 fl_X7_set_46 dX7_set_35 ?_
        refine k9_aload_n X dX7_set_38 rfl 0 rfl ?_
        refine k9_gX7_5 (v := (2 : Int32)) X (by rfl) in_X7_set_X7 fl_X7_set_46 dX7_set_39 ?_
        refine k9_if_le (tgt := 47) X dX7_set_42 (by decide) (fun c => absurd c (by decide)) (fun _ => ?_)
        refine k9_iconst (v := 0) X dX7_set_45 (by decide) ?_
        refine k9_sub (lv' := []) [] rfl ?_
        exact (l1 c1 c2 c3)
      · refine k9_iconst (v := 0) X dX7_set_30 (by decide) ?_
        refine k9_goto (tgt := 35) X dX7_set_31 (by decide) ?_
        refine k9_pX7_5 X in_X7_set_X7 fl_X7_set_46 dX7_set_35 ?_
        refine k9_aload_n X dX7_set_38 rfl 0 rfl ?_
        refine k9_gX7_5 (v := (0 : Int32)) X (by rfl) in_X7_set_X7 fl_X7_set_46 dX7_set_39 ?_
        refine k9_if_le (tgt := 47) X dX7_set_42 (by decide) (fun _ => ?_) (fun c => absurd c (by decide))
        refine k9_aload_n X dX7_set_47 rfl 0 rfl ?_
        refine k9_callVv0 X (k3 c1 c2 c3) k9_ob_76 (cwV 0 X.2.2.2.2.1 gX7_set_X7_save rfl rfl rfl (by decide +kernel) ⟨Nat.le_of_ble_eq_true rfl, Nat.le_of_ble_eq_true rfl⟩) (Nat.le_of_ble_eq_true rfl) dX7_set_48 ⟨Nat.zero_le _, Nat.zero_le _⟩ ?_
        refine k9_aload_n X dX7_set_51 rfl 0 rfl ?_
        refine k9_gX7_0 X in_X7_set_X7 fl_X7_set_7 dX7_set_52 ?_
        refine k9_sipush (v := 384) X dX7_set_55 (by decide) ?_
        refine k9_iload_n X dX7_set_58 rfl 1 rfl ?_
        refine k9_iadd X dX7_set_59 ?_
        refine k9_iald X (by decide) (o1 c1 c2 c3) (by rfl) dX7_set_60 ?_
        refine k9_istore_n (lv' := [(0, .ref (k9_ga G 76)), (1, .int a0), (2, .int a1), (3, .int (mv3 77 ((384 : Int32) + a0).toNatClampNeg))]) X dX7_set_61 rfl (by decide) [1, 2, 3, 0] rfl ?_
        refine k9_aload_n X dX7_set_62 rfl 0 rfl ?_
        refine k9_gX7_0 X in_X7_set_X7 fl_X7_set_7 dX7_set_63 ?_
        refine k9_sipush (v := 384) X dX7_set_66 (by decide) ?_
        refine k9_iload_n X dX7_set_69 rfl 1 rfl ?_
        refine k9_iadd X dX7_set_70 ?_
        refine k9_iload_n X dX7_set_71 rfl 2 rfl ?_
        refine k9_iast X (by decide) (o1 c1 c2 c3) dX7_set_72 ?_
        refine k9_iload_n X dX7_set_73 rfl 3 rfl ?_
        refine k9_sub (lv' := []) [] rfl ?_
        exact (l2 c1 c2 c3)
    · refine k9_iconst (v := 3) X dX7_set_18 (by decide) ?_
      refine k9_goto (tgt := 24) X dX7_set_19 (by decide) ?_
      refine k9_callSi3 X (k4 c1 c2)  (va_cwS 3 X.2.2.2.2.1 gX7_set_X7_within rfl rfl rfl (by decide +kernel) ⟨Nat.le_of_ble_eq_true rfl, Nat.le_of_ble_eq_true rfl⟩) (Nat.le_of_ble_eq_true rfl) dX7_set_24 ⟨Nat.zero_le _, Nat.zero_le _⟩ ?_
      refine k9_if_eq (tgt := 34) X dX7_set_27 (by decide) (fun c4 => ?_) (fun c4 => ?_)
      · refine k9_iconst (v := 2) X dX7_set_34 (by decide) ?_
        refine k9_pX7_5 X in_X7_set_X7 fl_X7_set_46 dX7_set_35 ?_
        refine k9_aload_n X dX7_set_38 rfl 0 rfl ?_
        refine k9_gX7_5 (v := (2 : Int32)) X (by rfl) in_X7_set_X7 fl_X7_set_46 dX7_set_39 ?_
        refine k9_if_le (tgt := 47) X dX7_set_42 (by decide) (fun c => absurd c (by decide)) (fun _ => ?_)
        refine k9_iconst (v := 0) X dX7_set_45 (by decide) ?_
        refine k9_sub (lv' := []) [] rfl ?_
        exact (l3 c1 c2 c4)
      · refine k9_iconst (v := 0) X dX7_set_30 (by decide) ?_
        refine k9_goto (tgt := 35) X dX7_set_31 (by decide) ?_
        refine k9_pX7_5 X in_X7_set_X7 fl_X7_set_46 dX7_set_35 ?_
        refine k9_aload_n X dX7_set_38 rfl 0 rfl ?_
        refine k9_gX7_5 (v := (0 : Int32)) X (by rfl) in_X7_set_X7 fl_X7_set_46 dX7_set_39 ?_
        refine k9_if_le (tgt := 47) X dX7_set_42 (by decide) (fun _ => ?_) (fun c => absurd c (by decide))
        refine k9_aload_n X dX7_set_47 rfl 0 rfl ?_
        refine k9_callVv0 X (k5 c1 c2 c4) k9_ob_76 (cwV 0 X.2.2.2.2.1 gX7_set_X7_save rfl rfl rfl (by decide +kernel) ⟨Nat.le_of_ble_eq_true rfl, Nat.le_of_ble_eq_true rfl⟩) (Nat.le_of_ble_eq_true rfl) dX7_set_48 ⟨Nat.zero_le _, Nat.zero_le _⟩ ?_
        refine k9_aload_n X dX7_set_51 rfl 0 rfl ?_
        refine k9_gX7_0 X in_X7_set_X7 fl_X7_set_7 dX7_set_52 ?_
        refine k9_sipush (v := 384) X dX7_set_55 (by decide) ?_
        refine k9_iload_n X dX7_set_58 rfl 1 rfl ?_
        refine k9_iadd X dX7_set_59 ?_
        refine k9_iald X (by decide) (o2 c1 c2 c4) (by rfl) dX7_set_60 ?_
        refine k9_istore_n (lv' := [(0, .ref (k9_ga G 76)), (1, .int a0), (2, .int a1), (3, .int (mv5 77 ((384 : Int32) + a0).toNatClampNeg))]) X dX7_set_61 rfl (by decide) [1, 2, 3, 0] rfl ?_
        refine k9_aload_n X dX7_set_62 rfl 0 rfl ?_
        refine k9_gX7_0 X in_X7_set_X7 fl_X7_set_7 dX7_set_63 ?_
        refine k9_sipush (v := 384) X dX7_set_66 (by decide) ?_
        refine k9_iload_n X dX7_set_69 rfl 1 rfl ?_
        refine k9_iadd X dX7_set_70 ?_
        refine k9_iload_n X dX7_set_71 rfl 2 rfl ?_
        refine k9_iast X (by decide) (o2 c1 c2 c4) dX7_set_72 ?_
        refine k9_iload_n X dX7_set_73 rfl 3 rfl ?_
        refine k9_sub (lv' := []) [] rfl ?_
        exact (l4 c1 c2 c4)
  · refine k9_iconst (v := 1) X dX7_set_8 (by decide) ?_
    refine k9_goto (tgt := 35) X dX7_set_9 (by decide) ?_
    refine k9_pX7_5 X in_X7_set_X7 fl_X7_set_46 dX7_set_35 ?_
    refine k9_aload_n X dX7_set_38 rfl 0 rfl ?_
    refine k9_gX7_5 (v := (1 : Int32)) X (by rfl) in_X7_set_X7 fl_X7_set_46 dX7_set_39 ?_
    refine k9_if_le (tgt := 47) X dX7_set_42 (by decide) (fun c => absurd c (by decide)) (fun _ => ?_)
    refine k9_iconst (v := 0) X dX7_set_45 (by decide) ?_
    refine k9_sub (lv' := []) [] rfl ?_
    exact (l5 c1)

theorem in_X7_learn_X7 : ∀ w ∈ u_ws RX7 TX7 19, w ∈ wsX7_learn := by decide +kernel
theorem fl_X7_learn_46 : Cond.fieldLink RX7 46 (TX7 5).1 (TX7 5).2.1 (TX7 5).2.2.1 ∈ wsX7_learn := by decide +kernel
theorem co_X7_learn_138 : Cond.constant RX7 138 (1048575) ∈ wsX7_learn := by decide +kernel
theorem fl_X7_learn_79 : Cond.fieldLink RX7 79 (TX7 13).1 (TX7 13).2.1 (TX7 13).2.2.1 ∈ wsX7_learn := by decide +kernel
theorem fl_X7_learn_7 : Cond.fieldLink RX7 7 (TX7 0).1 (TX7 0).2.1 (TX7 0).2.2.1 ∈ wsX7_learn := by decide +kernel
theorem fl_X7_learn_22 : Cond.fieldLink RX7 22 (TX7 7).1 (TX7 7).2.1 (TX7 7).2.2.1 ∈ wsX7_learn := by decide +kernel
theorem fl_X7_learn_25 : Cond.fieldLink RX7 25 (TX7 8).1 (TX7 8).2.1 (TX7 8).2.2.1 ∈ wsX7_learn := by decide +kernel
set_option maxRecDepth 20000 in
theorem bk_X7_learn_0 (X : k9_X p R s m args c A G 3 cX7_learn wsX7_learn RX7 rm_X7_learn) {mv1 : k9_Mem} {mv2 : k9_Mem}
    (k1 : k9_Cv l yX7_save wsX7_save rm_X7_save G (k9_st M 76 5 (0 : Int32)) [.ref (k9_ga G 76)] mv1)
    (k2 : k9_Cv l yX7_lay wsX7_lay rm_X7_lay G mv1 [.ref (k9_ga G 76)] mv2)
    (l1 : k9_U p l e R s m args below meth c Q A G 3 0 0 mv2 18 [(0, .ref (k9_ga G 76)), (1, .int (1048575 : Int32)), (2, .int (0 : Int32))] []) : k9_U p l e R s m args below meth c Q A G 3 0 0 M 0 [(0, .ref (k9_ga G 76))] [] := by
  refine k9_aload_n X dX7_learn_0 rfl 0 rfl ?_
  refine k9_iconst (v := 0) X dX7_learn_1 (by decide) ?_
  refine k9_pX7_5 X in_X7_learn_X7 fl_X7_learn_46 dX7_learn_2 ?_
  refine k9_aload_n X dX7_learn_5 rfl 0 rfl ?_
  refine k9_callVv0 X k1 k9_ob_76 (cwV 0 X.2.2.2.2.1 gX7_learn_X7_save rfl rfl rfl (by decide +kernel) ⟨Nat.le_of_ble_eq_true rfl, Nat.le_of_ble_eq_true rfl⟩) (Nat.le_of_ble_eq_true rfl) dX7_learn_6 ⟨Nat.zero_le _, Nat.zero_le _⟩ ?_
  refine k9_aload_n X dX7_learn_9 rfl 0 rfl ?_
  refine k9_callVv0 X k2 k9_ob_76 (cwV 0 X.2.2.2.2.1 gX7_learn_X7_lay rfl rfl rfl (by decide +kernel) ⟨Nat.le_of_ble_eq_true rfl, Nat.le_of_ble_eq_true rfl⟩) (Nat.le_of_ble_eq_true rfl) dX7_learn_10 ⟨Nat.zero_le _, Nat.zero_le _⟩ ?_
  refine k9_ldc X co_X7_learn_138 dX7_learn_13 ?_
  refine k9_istore_n (lv' := [(0, .ref (k9_ga G 76)), (1, .int (1048575 : Int32))]) X dX7_learn_15 rfl (by decide) [1, 0] rfl ?_
  refine k9_iconst (v := 0) X dX7_learn_16 (by decide) ?_
  refine k9_istore_n (lv' := [(0, .ref (k9_ga G 76)), (1, .int (1048575 : Int32)), (2, .int (0 : Int32))]) X dX7_learn_17 rfl (by decide) [1, 2, 0] rfl ?_
  exact l1

set_option maxRecDepth 20000 in
theorem bk_X7_learn_18 (X : k9_X p R s m args c A G 3 cX7_learn wsX7_learn RX7 rm_X7_learn) {x1 x2 : Int32}
    (l1 : ((96 : Int32) ≤ x2) → k9_U p l e R s m args below meth c Q A G 3 0 0 M 70 [] [.int (M 76 13)])
    (o1 : (¬ ((96 : Int32) ≤ x2)) → vp_in x2 96)
    (o2 : (¬ ((96 : Int32) ≤ x2)) → vp_in ((386 : Int32) + x2) 578)
    (o3 : (¬ ((96 : Int32) ≤ x2)) → vp_in ((482 : Int32) + x2) 578)
    (l2 : (¬ ((96 : Int32) ≤ x2)) → k9_U p l e R s m args below meth c Q A G 3 0 0 (k9_st (k9_st M 77 ((386 : Int32) + x2).toNatClampNeg ((M 81 x2.toNatClampNeg) &&& x1)) 77 ((482 : Int32) + x2).toNatClampNeg ((M 82 x2.toNatClampNeg) &&& x1)) 18 [(0, .ref (k9_ga G 76)), (1, .int x1), (2, .int (x2 + (1 : Int32)))] []) : k9_U p l e R s m args below meth c Q A G 3 0 0 M 18 [(0, .ref (k9_ga G 76)), (1, .int x1), (2, .int x2)] [] := by
  refine k9_iload_n X dX7_learn_18 rfl 2 rfl ?_
  refine k9_bipush (v := 96) X dX7_learn_19 (by decide) ?_
  refine k9_icmp_ge (tgt := 66) X dX7_learn_21 (by decide) (fun c1 => ?_) (fun c1 => ?_)
  · refine k9_aload_n X dX7_learn_66 rfl 0 rfl ?_
    refine k9_gX7_13 X (by rfl) in_X7_learn_X7 fl_X7_learn_79 dX7_learn_67 ?_
    refine k9_sub (lv' := []) [] rfl ?_
    exact (l1 c1)
  · refine k9_aload_n X dX7_learn_24 rfl 0 rfl ?_
    refine k9_gX7_0 X in_X7_learn_X7 fl_X7_learn_7 dX7_learn_25 ?_
    refine k9_sipush (v := 386) X dX7_learn_28 (by decide) ?_
    refine k9_iload_n X dX7_learn_31 rfl 2 rfl ?_
    refine k9_iadd X dX7_learn_32 ?_
    refine k9_aload_n X dX7_learn_33 rfl 0 rfl ?_
    refine k9_gX7_7 X in_X7_learn_X7 fl_X7_learn_22 dX7_learn_34 ?_
    refine k9_iload_n X dX7_learn_37 rfl 2 rfl ?_
    refine k9_iald X (by decide) (o1 c1) (by rfl) dX7_learn_38 ?_
    refine k9_iload_n X dX7_learn_39 rfl 1 rfl ?_
    refine k9_iand X dX7_learn_40 ?_
    refine k9_iast X (by decide) (o2 c1) dX7_learn_41 ?_
    refine k9_aload_n X dX7_learn_42 rfl 0 rfl ?_
    refine k9_gX7_0 X in_X7_learn_X7 fl_X7_learn_7 dX7_learn_43 ?_
    refine k9_sipush (v := 482) X dX7_learn_46 (by decide) ?_
    refine k9_iload_n X dX7_learn_49 rfl 2 rfl ?_
    refine k9_iadd X dX7_learn_50 ?_
    refine k9_aload_n X dX7_learn_51 rfl 0 rfl ?_
    refine k9_gX7_8 X in_X7_learn_X7 fl_X7_learn_25 dX7_learn_52 ?_
    refine k9_iload_n X dX7_learn_55 rfl 2 rfl ?_
    refine k9_iald (v := (M 82 x2.toNatClampNeg)) X (by decide) (o1 c1) (by rfl) dX7_learn_56 ?_
    refine k9_iload_n X dX7_learn_57 rfl 1 rfl ?_
    refine k9_iand X dX7_learn_58 ?_
    refine k9_iast X (by decide) (o3 c1) dX7_learn_59 ?_
    refine k9_iinc (v := x2 + (1 : Int32)) (lv' := [(0, .ref (k9_ga G 76)), (1, .int x1), (2, .int (x2 + (1 : Int32)))]) X dX7_learn_60 (k := 2) rfl (by rfl) (by decide) [1, 2, 0] rfl ?_
    refine k9_goto (tgt := 18) X dX7_learn_63 (by decide) ?_
    exact (l2 c1)

theorem in_X7_append_X7 : ∀ w ∈ u_ws RX7 TX7 19, w ∈ wsX7_append := by decide +kernel
theorem fl_X7_append_139 : Cond.fieldLink RX7 139 (TX7 3).1 (TX7 3).2.1 (TX7 3).2.2.1 ∈ wsX7_append := by decide +kernel
theorem fl_X7_append_46 : Cond.fieldLink RX7 46 (TX7 5).1 (TX7 5).2.1 (TX7 5).2.2.1 ∈ wsX7_append := by decide +kernel
theorem fl_X7_append_16 : Cond.fieldLink RX7 16 (TX7 4).1 (TX7 4).2.1 (TX7 4).2.2.1 ∈ wsX7_append := by decide +kernel
set_option maxRecDepth 20000 in
theorem bk_X7_append_0 (X : k9_X p R s m args c A G 2 cX7_append wsX7_append RX7 rm_X7_append) {a0 : Int32} {rv1 : Int32}
    (k1 : k9_Ci l yX7_within wsX7_within rm_X7_within G M [.int a0, .int (33 : Int32), .int (126 : Int32)] rv1 M)
    (o1 : (¬ rv1 = 0) → (¬ (M 76 3) = (60 : Int32)) → vp_in (M 76 3) 60)
    (l1 : (¬ rv1 = 0) → (¬ (M 76 3) = (60 : Int32)) → k9_U p l e R s m args below meth c Q A G 2 0 0 (k9_st (k9_st (k9_st M 76 5 (0 : Int32)) 79 (M 76 3).toNatClampNeg a0) 76 3 ((M 76 3) + (1 : Int32))) 66 [] [.int ((M 76 3) + (1 : Int32))])
    (l2 : (¬ rv1 = 0) → ((M 76 3) = (60 : Int32)) → k9_U p l e R s m args below meth c Q A G 2 0 0 (k9_st M 76 5 (2 : Int32)) 41 [] [.int (0 : Int32)])
    (l3 : (rv1 = 0) → k9_U p l e R s m args below meth c Q A G 2 0 0 (k9_st M 76 5 (1 : Int32)) 41 [] [.int (0 : Int32)]) : k9_U p l e R s m args below meth c Q A G 2 0 0 M 0 [(0, .ref (k9_ga G 76)), (1, .int a0)] [] := by
  refine k9_aload_n X dX7_append_0 rfl 0 rfl ?_
  refine k9_iload_n X dX7_append_1 rfl 1 rfl ?_
  refine k9_bipush (v := 33) X dX7_append_2 (by decide) ?_
  refine k9_bipush (v := 126) X dX7_append_4 (by decide) ?_
  refine k9_callSi3 X k1  (va_cwS 3 X.2.2.2.2.1 gX7_append_X7_within rfl rfl rfl (by decide +kernel) ⟨Nat.le_of_ble_eq_true rfl, Nat.le_of_ble_eq_true rfl⟩) (Nat.le_of_ble_eq_true rfl) dX7_append_6 ⟨Nat.zero_le _, Nat.zero_le _⟩ ?_
  refine k9_if_ne (tgt := 16) X dX7_append_9 (by decide) (fun c1 => ?_) (fun c1 => ?_)
  · refine k9_aload_n X dX7_append_16 rfl 0 rfl ?_
    refine k9_gX7_3 X (by rfl) in_X7_append_X7 fl_X7_append_139 dX7_append_17 ?_
    refine k9_bipush (v := 60) X dX7_append_20 (by decide) ?_
    refine k9_icmp_ne (tgt := 29) X dX7_append_22 (by decide) (fun c2 => ?_) (fun c2 => ?_)
    · refine k9_iconst (v := 0) X dX7_append_29 (by decide) ?_
      refine k9_pX7_5 X in_X7_append_X7 fl_X7_append_46 dX7_append_30 ?_
      refine k9_aload_n X dX7_append_33 rfl 0 rfl ?_
      refine k9_gX7_5 (v := (0 : Int32)) X (by rfl) in_X7_append_X7 fl_X7_append_46 dX7_append_34 ?_
      refine k9_if_le (tgt := 42) X dX7_append_37 (by decide) (fun _ => ?_) (fun c => absurd c (by decide))
      refine k9_aload_n X dX7_append_42 rfl 0 rfl ?_
      refine k9_gX7_4 X in_X7_append_X7 fl_X7_append_16 dX7_append_43 ?_
      refine k9_aload_n X dX7_append_46 rfl 0 rfl ?_
      refine k9_gX7_3 (v := (M 76 3)) X (by rfl) in_X7_append_X7 fl_X7_append_139 dX7_append_47 ?_
      refine k9_iload_n X dX7_append_50 rfl 1 rfl ?_
      refine k9_iast X (by decide) (o1 c1 c2) dX7_append_51 ?_
      refine k9_aload_n X dX7_append_52 rfl 0 rfl ?_
      refine k9_dup X dX7_append_53 rfl ?_
      refine k9_gX7_3 (v := (M 76 3)) X (by rfl) in_X7_append_X7 fl_X7_append_139 dX7_append_54 ?_
      refine k9_iconst (v := 1) X dX7_append_57 (by decide) ?_
      refine k9_iadd X dX7_append_58 ?_
      refine k9_pX7_3 X in_X7_append_X7 fl_X7_append_139 dX7_append_59 ?_
      refine k9_aload_n X dX7_append_62 rfl 0 rfl ?_
      refine k9_gX7_3 (v := ((M 76 3) + (1 : Int32))) X (by rfl) in_X7_append_X7 fl_X7_append_139 dX7_append_63 ?_
      refine k9_sub (lv' := []) [] rfl ?_
      exact (l1 c1 c2)
    · refine k9_iconst (v := 2) X dX7_append_25 (by decide) ?_
      refine k9_goto (tgt := 30) X dX7_append_26 (by decide) ?_
      refine k9_pX7_5 X in_X7_append_X7 fl_X7_append_46 dX7_append_30 ?_
      refine k9_aload_n X dX7_append_33 rfl 0 rfl ?_
      refine k9_gX7_5 (v := (2 : Int32)) X (by rfl) in_X7_append_X7 fl_X7_append_46 dX7_append_34 ?_
      refine k9_if_le (tgt := 42) X dX7_append_37 (by decide) (fun c => absurd c (by decide)) (fun _ => ?_)
      refine k9_iconst (v := 0) X dX7_append_40 (by decide) ?_
      refine k9_sub (lv' := []) [] rfl ?_
      exact (l2 c1 c2)
  · refine k9_iconst (v := 1) X dX7_append_12 (by decide) ?_
    refine k9_goto (tgt := 30) X dX7_append_13 (by decide) ?_
    refine k9_pX7_5 X in_X7_append_X7 fl_X7_append_46 dX7_append_30 ?_
    refine k9_aload_n X dX7_append_33 rfl 0 rfl ?_
    refine k9_gX7_5 (v := (1 : Int32)) X (by rfl) in_X7_append_X7 fl_X7_append_46 dX7_append_34 ?_
    refine k9_if_le (tgt := 42) X dX7_append_37 (by decide) (fun c => absurd c (by decide)) (fun _ => ?_)
    refine k9_iconst (v := 0) X dX7_append_40 (by decide) ?_
    refine k9_sub (lv' := []) [] rfl ?_
    exact (l3 c1)

theorem in_X7_clearBuffer_X7 : ∀ w ∈ u_ws RX7 TX7 19, w ∈ wsX7_clearBuffer := by decide +kernel
theorem fl_X7_clearBuffer_46 : Cond.fieldLink RX7 46 (TX7 5).1 (TX7 5).2.1 (TX7 5).2.2.1 ∈ wsX7_clearBuffer := by decide +kernel
theorem fl_X7_clearBuffer_139 : Cond.fieldLink RX7 139 (TX7 3).1 (TX7 3).2.1 (TX7 3).2.2.1 ∈ wsX7_clearBuffer := by decide +kernel
set_option maxRecDepth 20000 in
theorem bk_X7_clearBuffer_0 (X : k9_X p R s m args c A G 2 cX7_clearBuffer wsX7_clearBuffer RX7 rm_X7_clearBuffer) 
    (l1 : k9_U p l e R s m args below meth c Q A G 2 0 0 (k9_st (k9_st M 76 5 (0 : Int32)) 76 3 (0 : Int32)) 16 [] [.int (M 76 3)]) : k9_U p l e R s m args below meth c Q A G 2 0 0 M 0 [(0, .ref (k9_ga G 76))] [] := by
  refine k9_aload_n X dX7_clearBuffer_0 rfl 0 rfl ?_
  refine k9_iconst (v := 0) X dX7_clearBuffer_1 (by decide) ?_
  refine k9_pX7_5 X in_X7_clearBuffer_X7 fl_X7_clearBuffer_46 dX7_clearBuffer_2 ?_
  refine k9_aload_n X dX7_clearBuffer_5 rfl 0 rfl ?_
  refine k9_gX7_3 (v := (M 76 3)) X (by rfl) in_X7_clearBuffer_X7 fl_X7_clearBuffer_139 dX7_clearBuffer_6 ?_
  refine k9_istore_n (lv' := [(0, .ref (k9_ga G 76)), (1, .int (M 76 3))]) X dX7_clearBuffer_9 rfl (by decide) [1, 0] rfl ?_
  refine k9_aload_n X dX7_clearBuffer_10 rfl 0 rfl ?_
  refine k9_iconst (v := 0) X dX7_clearBuffer_11 (by decide) ?_
  refine k9_pX7_3 X in_X7_clearBuffer_X7 fl_X7_clearBuffer_139 dX7_clearBuffer_12 ?_
  refine k9_iload_n X dX7_clearBuffer_15 rfl 1 rfl ?_
  refine k9_sub (lv' := []) [] rfl ?_
  exact l1

theorem in_X7_takesFigure_X7 : ∀ w ∈ u_ws RX7 TX7 19, w ∈ wsX7_takesFigure := by decide +kernel
theorem fl_X7_takesFigure_142 : Cond.fieldLink RX7 142 (TX7 15).1 (TX7 15).2.1 (TX7 15).2.2.1 ∈ wsX7_takesFigure := by decide +kernel
theorem fl_X7_takesFigure_145 : Cond.fieldLink RX7 145 (TX7 16).1 (TX7 16).2.1 (TX7 16).2.2.1 ∈ wsX7_takesFigure := by decide +kernel
theorem fl_X7_takesFigure_40 : Cond.fieldLink RX7 40 (TX7 14).1 (TX7 14).2.1 (TX7 14).2.2.1 ∈ wsX7_takesFigure := by decide +kernel
set_option maxRecDepth 20000 in
theorem bk_X7_takesFigure_0 (X : k9_X p R s m args c A G 9 cX7_takesFigure wsX7_takesFigure RX7 rm_X7_takesFigure) {a0 a1 a2 a3 : Int32}
    (l1 : ((M 76 16) = 0) → k9_U p l e R s m args below meth c Q A G 9 0 0 M 66 [(0, .ref (k9_ga G 76)), (1, .int a0), (3, .int a2), (4, .int a3), (5, .int (((3 : Int32) * (M 76 15)) + a1)), (6, .int (1 : Int32)), (7, .int (((0 : Int32) + a0) - (48 : Int32)))] [])
    (l2 : (¬ ((M 76 16) = 0)) → ((M 76 16) = (3 : Int32)) → k9_U p l e R s m args below meth c Q A G 9 0 0 M 66 [(0, .ref (k9_ga G 76)), (1, .int a0), (3, .int a2), (4, .int a3), (5, .int (((3 : Int32) * (M 76 15)) + a1)), (6, .int (1 : Int32)), (7, .int (((0 : Int32) + a0) - (48 : Int32)))] [])
    (o1 : (¬ ((M 76 16) = 0)) → (¬ ((M 76 16) = (3 : Int32))) → (¬ (M 76 16) = (5 : Int32)) → vp_in (((3 : Int32) * (M 76 15)) + a1) 36)
    (l3 : (¬ ((M 76 16) = 0)) → (¬ ((M 76 16) = (3 : Int32))) → (¬ (M 76 16) = (5 : Int32)) → k9_U p l e R s m args below meth c Q A G 9 0 0 M 66 [(0, .ref (k9_ga G 76)), (1, .int a0), (3, .int a2), (4, .int a3), (5, .int (((3 : Int32) * (M 76 15)) + a1)), (6, .int (0 : Int32)), (7, .int ((((10 : Int32) * (M 87 (((3 : Int32) * (M 76 15)) + a1).toNatClampNeg)) + a0) - (48 : Int32)))] [])
    (l4 : (¬ ((M 76 16) = 0)) → (¬ ((M 76 16) = (3 : Int32))) → ((M 76 16) = (5 : Int32)) → k9_U p l e R s m args below meth c Q A G 9 0 0 M 66 [(0, .ref (k9_ga G 76)), (1, .int a0), (3, .int a2), (4, .int a3), (5, .int (((3 : Int32) * (M 76 15)) + a1)), (6, .int (1 : Int32)), (7, .int (((0 : Int32) + a0) - (48 : Int32)))] []) : k9_U p l e R s m args below meth c Q A G 9 0 0 M 0 [(0, .ref (k9_ga G 76)), (1, .int a0), (2, .int a1), (3, .int a2), (4, .int a3)] [] := by
  refine k9_iconst (v := 3) X dX7_takesFigure_0 (by decide) ?_
  refine k9_aload_n X dX7_takesFigure_1 rfl 0 rfl ?_
  refine k9_gX7_15 X (by rfl) in_X7_takesFigure_X7 fl_X7_takesFigure_142 dX7_takesFigure_2 ?_
  refine k9_imul X dX7_takesFigure_5 ?_
  refine k9_iload_n X dX7_takesFigure_6 rfl 2 rfl ?_
  refine k9_iadd X dX7_takesFigure_7 ?_
  refine k9_istore (lv' := [(0, .ref (k9_ga G 76)), (1, .int a0), (2, .int a1), (3, .int a2), (4, .int a3), (5, .int (((3 : Int32) * (M 76 15)) + a1))]) X dX7_takesFigure_8 (by decide) [1, 2, 3, 4, 5, 0] rfl ?_
  refine k9_aload_n X dX7_takesFigure_10 rfl 0 rfl ?_
  refine k9_gX7_16 X (by rfl) in_X7_takesFigure_X7 fl_X7_takesFigure_145 dX7_takesFigure_11 ?_
  refine k9_if_eq (tgt := 33) X dX7_takesFigure_14 (by decide) (fun c1 => ?_) (fun c1 => ?_)
  · refine k9_iconst (v := 1) X dX7_takesFigure_33 (by decide) ?_
    refine k9_goto (tgt := 38) X dX7_takesFigure_34 (by decide) ?_
    refine k9_istore (lv' := [(0, .ref (k9_ga G 76)), (1, .int a0), (2, .int a1), (3, .int a2), (4, .int a3), (5, .int (((3 : Int32) * (M 76 15)) + a1)), (6, .int (1 : Int32))]) X dX7_takesFigure_38 (by decide) [1, 2, 3, 4, 5, 6, 0] rfl ?_
    refine k9_iload X dX7_takesFigure_40 6 rfl ?_
    refine k9_if_eq (tgt := 49) X dX7_takesFigure_42 (by decide) (fun c => absurd c (by decide)) (fun _ => ?_)
    refine k9_iconst (v := 0) X dX7_takesFigure_45 (by decide) ?_
    refine k9_goto (tgt := 59) X dX7_takesFigure_46 (by decide) ?_
    refine k9_iload_n X dX7_takesFigure_59 rfl 1 rfl ?_
    refine k9_iadd X dX7_takesFigure_60 ?_
    refine k9_bipush (v := 48) X dX7_takesFigure_61 (by decide) ?_
    refine k9_isub X dX7_takesFigure_63 ?_
    refine k9_istore (lv' := [(0, .ref (k9_ga G 76)), (1, .int a0), (2, .int a1), (3, .int a2), (4, .int a3), (5, .int (((3 : Int32) * (M 76 15)) + a1)), (6, .int (1 : Int32)), (7, .int (((0 : Int32) + a0) - (48 : Int32)))]) X dX7_takesFigure_64 (by decide) [1, 2, 3, 4, 5, 6, 7, 0] rfl ?_
    refine k9_sub (lv' := [(0, .ref (k9_ga G 76)), (1, .int a0), (3, .int a2), (4, .int a3), (5, .int (((3 : Int32) * (M 76 15)) + a1)), (6, .int (1 : Int32)), (7, .int (((0 : Int32) + a0) - (48 : Int32)))]) [0, 1, 3, 4, 5, 6, 7] rfl ?_
    exact (l1 c1)
  · refine k9_aload_n X dX7_takesFigure_17 rfl 0 rfl ?_
    refine k9_gX7_16 X (by rfl) in_X7_takesFigure_X7 fl_X7_takesFigure_145 dX7_takesFigure_18 ?_
    refine k9_iconst (v := 3) X dX7_takesFigure_21 (by decide) ?_
    refine k9_icmp_eq (tgt := 33) X dX7_takesFigure_22 (by decide) (fun c2 => ?_) (fun c2 => ?_)
    · refine k9_iconst (v := 1) X dX7_takesFigure_33 (by decide) ?_
      refine k9_goto (tgt := 38) X dX7_takesFigure_34 (by decide) ?_
      refine k9_istore (lv' := [(0, .ref (k9_ga G 76)), (1, .int a0), (2, .int a1), (3, .int a2), (4, .int a3), (5, .int (((3 : Int32) * (M 76 15)) + a1)), (6, .int (1 : Int32))]) X dX7_takesFigure_38 (by decide) [1, 2, 3, 4, 5, 6, 0] rfl ?_
      refine k9_iload X dX7_takesFigure_40 6 rfl ?_
      refine k9_if_eq (tgt := 49) X dX7_takesFigure_42 (by decide) (fun c => absurd c (by decide)) (fun _ => ?_)
      refine k9_iconst (v := 0) X dX7_takesFigure_45 (by decide) ?_
      refine k9_goto (tgt := 59) X dX7_takesFigure_46 (by decide) ?_
      refine k9_iload_n X dX7_takesFigure_59 rfl 1 rfl ?_
      refine k9_iadd X dX7_takesFigure_60 ?_
      refine k9_bipush (v := 48) X dX7_takesFigure_61 (by decide) ?_
      refine k9_isub X dX7_takesFigure_63 ?_
      refine k9_istore (lv' := [(0, .ref (k9_ga G 76)), (1, .int a0), (2, .int a1), (3, .int a2), (4, .int a3), (5, .int (((3 : Int32) * (M 76 15)) + a1)), (6, .int (1 : Int32)), (7, .int (((0 : Int32) + a0) - (48 : Int32)))]) X dX7_takesFigure_64 (by decide) [1, 2, 3, 4, 5, 6, 7, 0] rfl ?_
      refine k9_sub (lv' := [(0, .ref (k9_ga G 76)), (1, .int a0), (3, .int a2), (4, .int a3), (5, .int (((3 : Int32) * (M 76 15)) + a1)), (6, .int (1 : Int32)), (7, .int (((0 : Int32) + a0) - (48 : Int32)))]) [0, 1, 3, 4, 5, 6, 7] rfl ?_
      exact (l2 c1 c2)
    · refine k9_aload_n X dX7_takesFigure_25 rfl 0 rfl ?_
      refine k9_gX7_16 X (by rfl) in_X7_takesFigure_X7 fl_X7_takesFigure_145 dX7_takesFigure_26 ?_
      refine k9_iconst (v := 5) X dX7_takesFigure_29 (by decide) ?_
      refine k9_icmp_ne (tgt := 37) X dX7_takesFigure_30 (by decide) (fun c3 => ?_) (fun c3 => ?_)
      · refine k9_iconst (v := 0) X dX7_takesFigure_37 (by decide) ?_
        refine k9_istore (lv' := [(0, .ref (k9_ga G 76)), (1, .int a0), (2, .int a1), (3, .int a2), (4, .int a3), (5, .int (((3 : Int32) * (M 76 15)) + a1)), (6, .int (0 : Int32))]) X dX7_takesFigure_38 (by decide) [1, 2, 3, 4, 5, 6, 0] rfl ?_
        refine k9_iload X dX7_takesFigure_40 6 rfl ?_
        refine k9_if_eq (tgt := 49) X dX7_takesFigure_42 (by decide) (fun _ => ?_) (fun c => absurd c (by decide))
        refine k9_bipush (v := 10) X dX7_takesFigure_49 (by decide) ?_
        refine k9_aload_n X dX7_takesFigure_51 rfl 0 rfl ?_
        refine k9_gX7_14 X in_X7_takesFigure_X7 fl_X7_takesFigure_40 dX7_takesFigure_52 ?_
        refine k9_iload X dX7_takesFigure_55 5 rfl ?_
        refine k9_iald X (by decide) (o1 c1 c2 c3) (by rfl) dX7_takesFigure_57 ?_
        refine k9_imul X dX7_takesFigure_58 ?_
        refine k9_iload_n X dX7_takesFigure_59 rfl 1 rfl ?_
        refine k9_iadd X dX7_takesFigure_60 ?_
        refine k9_bipush (v := 48) X dX7_takesFigure_61 (by decide) ?_
        refine k9_isub X dX7_takesFigure_63 ?_
        refine k9_istore (lv' := [(0, .ref (k9_ga G 76)), (1, .int a0), (2, .int a1), (3, .int a2), (4, .int a3), (5, .int (((3 : Int32) * (M 76 15)) + a1)), (6, .int (0 : Int32)), (7, .int ((((10 : Int32) * (M 87 (((3 : Int32) * (M 76 15)) + a1).toNatClampNeg)) + a0) - (48 : Int32)))]) X dX7_takesFigure_64 (by decide) [1, 2, 3, 4, 5, 6, 7, 0] rfl ?_
        refine k9_sub (lv' := [(0, .ref (k9_ga G 76)), (1, .int a0), (3, .int a2), (4, .int a3), (5, .int (((3 : Int32) * (M 76 15)) + a1)), (6, .int (0 : Int32)), (7, .int ((((10 : Int32) * (M 87 (((3 : Int32) * (M 76 15)) + a1).toNatClampNeg)) + a0) - (48 : Int32)))]) [0, 1, 3, 4, 5, 6, 7] rfl ?_
        exact (l3 c1 c2 c3)
      · refine k9_iconst (v := 1) X dX7_takesFigure_33 (by decide) ?_
        refine k9_goto (tgt := 38) X dX7_takesFigure_34 (by decide) ?_
        refine k9_istore (lv' := [(0, .ref (k9_ga G 76)), (1, .int a0), (2, .int a1), (3, .int a2), (4, .int a3), (5, .int (((3 : Int32) * (M 76 15)) + a1)), (6, .int (1 : Int32))]) X dX7_takesFigure_38 (by decide) [1, 2, 3, 4, 5, 6, 0] rfl ?_
        refine k9_iload X dX7_takesFigure_40 6 rfl ?_
        refine k9_if_eq (tgt := 49) X dX7_takesFigure_42 (by decide) (fun c => absurd c (by decide)) (fun _ => ?_)
        refine k9_iconst (v := 0) X dX7_takesFigure_45 (by decide) ?_
        refine k9_goto (tgt := 59) X dX7_takesFigure_46 (by decide) ?_
        refine k9_iload_n X dX7_takesFigure_59 rfl 1 rfl ?_
        refine k9_iadd X dX7_takesFigure_60 ?_
        refine k9_bipush (v := 48) X dX7_takesFigure_61 (by decide) ?_
        refine k9_isub X dX7_takesFigure_63 ?_
        refine k9_istore (lv' := [(0, .ref (k9_ga G 76)), (1, .int a0), (2, .int a1), (3, .int a2), (4, .int a3), (5, .int (((3 : Int32) * (M 76 15)) + a1)), (6, .int (1 : Int32)), (7, .int (((0 : Int32) + a0) - (48 : Int32)))]) X dX7_takesFigure_64 (by decide) [1, 2, 3, 4, 5, 6, 7, 0] rfl ?_
        refine k9_sub (lv' := [(0, .ref (k9_ga G 76)), (1, .int a0), (3, .int a2), (4, .int a3), (5, .int (((3 : Int32) * (M 76 15)) + a1)), (6, .int (1 : Int32)), (7, .int (((0 : Int32) + a0) - (48 : Int32)))]) [0, 1, 3, 4, 5, 6, 7] rfl ?_
        exact (l4 c1 c2 c3)

set_option maxRecDepth 20000 in
theorem bk_X7_takesFigure_66 (X : k9_X p R s m args c A G 9 cX7_takesFigure wsX7_takesFigure RX7 rm_X7_takesFigure) {x1 x3 x4 x5 x6 x7 : Int32} {rv1 : Int32} {rv2 : Int32}
    (k1 : k9_Ci l yX7_within wsX7_within rm_X7_within G M [.int x1, .int (48 : Int32), .int (57 : Int32)] rv1 M)
    (l1 : (rv1 = 0) → k9_U p l e R s m args below meth c Q A G 9 0 0 M 110 [(0, .ref (k9_ga G 76)), (5, .int x5), (6, .int x6), (7, .int x7), (8, .int (0 : Int32))] [])
    (k2 : (¬ (rv1 = 0)) → k9_Ci l yX7_within wsX7_within rm_X7_within G M [.int x7, .int x3, .int x4] rv2 M)
    (l2 : (¬ (rv1 = 0)) → (rv2 = 0) → k9_U p l e R s m args below meth c Q A G 9 0 0 M 110 [(0, .ref (k9_ga G 76)), (5, .int x5), (6, .int x6), (7, .int x7), (8, .int (0 : Int32))] [])
    (l3 : (¬ (rv1 = 0)) → (¬ (rv2 = 0)) → (¬ x6 = 0) → k9_U p l e R s m args below meth c Q A G 9 0 0 M 110 [(0, .ref (k9_ga G 76)), (5, .int x5), (6, .int x6), (7, .int x7), (8, .int (1 : Int32))] [])
    (o1 : (¬ (rv1 = 0)) → (¬ (rv2 = 0)) → (x6 = 0) → vp_in x5 36)
    (l4 : (¬ (rv1 = 0)) → (¬ (rv2 = 0)) → (x6 = 0) → ((M 87 x5.toNatClampNeg) ≤ 0) → k9_U p l e R s m args below meth c Q A G 9 0 0 M 110 [(0, .ref (k9_ga G 76)), (5, .int x5), (6, .int x6), (7, .int x7), (8, .int (0 : Int32))] [])
    (l5 : (¬ (rv1 = 0)) → (¬ (rv2 = 0)) → (x6 = 0) → (¬ ((M 87 x5.toNatClampNeg) ≤ 0)) → k9_U p l e R s m args below meth c Q A G 9 0 0 M 110 [(0, .ref (k9_ga G 76)), (5, .int x5), (6, .int x6), (7, .int x7), (8, .int (1 : Int32))] []) : k9_U p l e R s m args below meth c Q A G 9 0 0 M 66 [(0, .ref (k9_ga G 76)), (1, .int x1), (3, .int x3), (4, .int x4), (5, .int x5), (6, .int x6), (7, .int x7)] [] := by
  refine k9_iload_n X dX7_takesFigure_66 rfl 1 rfl ?_
  refine k9_bipush (v := 48) X dX7_takesFigure_67 (by decide) ?_
  refine k9_bipush (v := 57) X dX7_takesFigure_69 (by decide) ?_
  refine k9_callSi3 X k1  (va_cwS 3 X.2.2.2.2.1 gX7_takesFigure_X7_within rfl rfl rfl (by decide +kernel) ⟨Nat.le_of_ble_eq_true rfl, Nat.le_of_ble_eq_true rfl⟩) (Nat.le_of_ble_eq_true rfl) dX7_takesFigure_71 ⟨Nat.zero_le _, Nat.zero_le _⟩ ?_
  refine k9_if_eq (tgt := 107) X dX7_takesFigure_74 (by decide) (fun c1 => ?_) (fun c1 => ?_)
  · refine k9_iconst (v := 0) X dX7_takesFigure_107 (by decide) ?_
    refine k9_istore (lv' := [(0, .ref (k9_ga G 76)), (1, .int x1), (3, .int x3), (4, .int x4), (5, .int x5), (6, .int x6), (7, .int x7), (8, .int (0 : Int32))]) X dX7_takesFigure_108 (by decide) [1, 2, 3, 4, 5, 6, 7, 0] rfl ?_
    refine k9_sub (lv' := [(0, .ref (k9_ga G 76)), (5, .int x5), (6, .int x6), (7, .int x7), (8, .int (0 : Int32))]) [0, 4, 5, 6, 7] rfl ?_
    exact (l1 c1)
  · refine k9_iload X dX7_takesFigure_77 6 rfl ?_
    refine k9_iload_n X dX7_takesFigure_79 rfl 2 rfl ?_
    refine k9_iload X dX7_takesFigure_80 3 rfl ?_
    refine k9_callSi3 X (k2 c1)  (va_cwS 3 X.2.2.2.2.1 gX7_takesFigure_X7_within rfl rfl rfl (by decide +kernel) ⟨Nat.le_of_ble_eq_true rfl, Nat.le_of_ble_eq_true rfl⟩) (Nat.le_of_ble_eq_true rfl) dX7_takesFigure_82 ⟨Nat.zero_le _, Nat.zero_le _⟩ ?_
    refine k9_if_eq (tgt := 107) X dX7_takesFigure_85 (by decide) (fun c2 => ?_) (fun c2 => ?_)
    · refine k9_iconst (v := 0) X dX7_takesFigure_107 (by decide) ?_
      refine k9_istore (lv' := [(0, .ref (k9_ga G 76)), (1, .int x1), (3, .int x3), (4, .int x4), (5, .int x5), (6, .int x6), (7, .int x7), (8, .int (0 : Int32))]) X dX7_takesFigure_108 (by decide) [1, 2, 3, 4, 5, 6, 7, 0] rfl ?_
      refine k9_sub (lv' := [(0, .ref (k9_ga G 76)), (5, .int x5), (6, .int x6), (7, .int x7), (8, .int (0 : Int32))]) [0, 4, 5, 6, 7] rfl ?_
      exact (l2 c1 c2)
    · refine k9_iload X dX7_takesFigure_88 5 rfl ?_
      refine k9_if_ne (tgt := 103) X dX7_takesFigure_90 (by decide) (fun c3 => ?_) (fun c3 => ?_)
      · refine k9_iconst (v := 1) X dX7_takesFigure_103 (by decide) ?_
        refine k9_goto (tgt := 108) X dX7_takesFigure_104 (by decide) ?_
        refine k9_istore (lv' := [(0, .ref (k9_ga G 76)), (1, .int x1), (3, .int x3), (4, .int x4), (5, .int x5), (6, .int x6), (7, .int x7), (8, .int (1 : Int32))]) X dX7_takesFigure_108 (by decide) [1, 2, 3, 4, 5, 6, 7, 0] rfl ?_
        refine k9_sub (lv' := [(0, .ref (k9_ga G 76)), (5, .int x5), (6, .int x6), (7, .int x7), (8, .int (1 : Int32))]) [0, 4, 5, 6, 7] rfl ?_
        exact (l3 c1 c2 c3)
      · refine k9_aload_n X dX7_takesFigure_93 rfl 0 rfl ?_
        refine k9_gX7_14 X in_X7_takesFigure_X7 fl_X7_takesFigure_40 dX7_takesFigure_94 ?_
        refine k9_iload X dX7_takesFigure_97 4 rfl ?_
        refine k9_iald X (by decide) (o1 c1 c2 c3) (by rfl) dX7_takesFigure_99 ?_
        refine k9_if_le (tgt := 107) X dX7_takesFigure_100 (by decide) (fun c4 => ?_) (fun c4 => ?_)
        · refine k9_iconst (v := 0) X dX7_takesFigure_107 (by decide) ?_
          refine k9_istore (lv' := [(0, .ref (k9_ga G 76)), (1, .int x1), (3, .int x3), (4, .int x4), (5, .int x5), (6, .int x6), (7, .int x7), (8, .int (0 : Int32))]) X dX7_takesFigure_108 (by decide) [1, 2, 3, 4, 5, 6, 7, 0] rfl ?_
          refine k9_sub (lv' := [(0, .ref (k9_ga G 76)), (5, .int x5), (6, .int x6), (7, .int x7), (8, .int (0 : Int32))]) [0, 4, 5, 6, 7] rfl ?_
          exact (l4 c1 c2 c3 c4)
        · refine k9_iconst (v := 1) X dX7_takesFigure_103 (by decide) ?_
          refine k9_goto (tgt := 108) X dX7_takesFigure_104 (by decide) ?_
          refine k9_istore (lv' := [(0, .ref (k9_ga G 76)), (1, .int x1), (3, .int x3), (4, .int x4), (5, .int x5), (6, .int x6), (7, .int x7), (8, .int (1 : Int32))]) X dX7_takesFigure_108 (by decide) [1, 2, 3, 4, 5, 6, 7, 0] rfl ?_
          refine k9_sub (lv' := [(0, .ref (k9_ga G 76)), (5, .int x5), (6, .int x6), (7, .int x7), (8, .int (1 : Int32))]) [0, 4, 5, 6, 7] rfl ?_
          exact (l5 c1 c2 c3 c4)

set_option maxRecDepth 20000 in
theorem bk_X7_takesFigure_110 (X : k9_X p R s m args c A G 9 cX7_takesFigure wsX7_takesFigure RX7 rm_X7_takesFigure) {x5 x6 x7 x8 : Int32}
    (o1 : (x8 = 0) → vp_in x5 36)
    (l1 : (x8 = 0) → k9_U p l e R s m args below meth c Q A G 9 0 0 (k9_st (k9_st M 87 x5.toNatClampNeg (M 87 x5.toNatClampNeg)) 76 16 ((M 76 16) + (0 : Int32))) 160 [] [.int x8])
    (o2 : (¬ (x8 = 0)) → vp_in x5 36)
    (l2 : (¬ (x8 = 0)) → (x6 = 0) → k9_U p l e R s m args below meth c Q A G 9 0 0 (k9_st (k9_st M 87 x5.toNatClampNeg x7) 76 16 ((M 76 16) + (0 : Int32))) 160 [] [.int x8])
    (l3 : (¬ (x8 = 0)) → (¬ (x6 = 0)) → k9_U p l e R s m args below meth c Q A G 9 0 0 (k9_st (k9_st M 87 x5.toNatClampNeg x7) 76 16 ((M 76 16) + (1 : Int32))) 160 [] [.int x8]) : k9_U p l e R s m args below meth c Q A G 9 0 0 M 110 [(0, .ref (k9_ga G 76)), (5, .int x5), (6, .int x6), (7, .int x7), (8, .int x8)] [] := by
  refine k9_aload_n X dX7_takesFigure_110 rfl 0 rfl ?_
  refine k9_gX7_14 X in_X7_takesFigure_X7 fl_X7_takesFigure_40 dX7_takesFigure_111 ?_
  refine k9_iload X dX7_takesFigure_114 1 rfl ?_
  refine k9_iload X dX7_takesFigure_116 4 rfl ?_
  refine k9_if_eq (tgt := 126) X dX7_takesFigure_118 (by decide) (fun c1 => ?_) (fun c1 => ?_)
  · refine k9_aload_n X dX7_takesFigure_126 rfl 0 rfl ?_
    refine k9_gX7_14 X in_X7_takesFigure_X7 fl_X7_takesFigure_40 dX7_takesFigure_127 ?_
    refine k9_iload X dX7_takesFigure_130 1 rfl ?_
    refine k9_iald X (by decide) (o1 c1) (by rfl) dX7_takesFigure_132 ?_
    refine k9_iast X (by decide) (o1 c1) dX7_takesFigure_133 ?_
    refine k9_aload_n X dX7_takesFigure_134 rfl 0 rfl ?_
    refine k9_dup X dX7_takesFigure_135 rfl ?_
    refine k9_gX7_16 (v := (M 76 16)) X (by rfl) in_X7_takesFigure_X7 fl_X7_takesFigure_145 dX7_takesFigure_136 ?_
    refine k9_iload X dX7_takesFigure_139 4 rfl ?_
    refine k9_if_eq (tgt := 153) X dX7_takesFigure_141 (by decide) (fun _ => ?_) (fun c => absurd c1 c)
    refine k9_iconst (v := 0) X dX7_takesFigure_153 (by decide) ?_
    refine k9_iadd X dX7_takesFigure_154 ?_
    refine k9_pX7_16 X in_X7_takesFigure_X7 fl_X7_takesFigure_145 dX7_takesFigure_155 ?_
    refine k9_iload X dX7_takesFigure_158 4 rfl ?_
    refine k9_sub (lv' := []) [] rfl ?_
    exact (l1 c1)
  · refine k9_iload X dX7_takesFigure_121 3 rfl ?_
    refine k9_goto (tgt := 133) X dX7_takesFigure_123 (by decide) ?_
    refine k9_iast X (by decide) (o2 c1) dX7_takesFigure_133 ?_
    refine k9_aload_n X dX7_takesFigure_134 rfl 0 rfl ?_
    refine k9_dup X dX7_takesFigure_135 rfl ?_
    refine k9_gX7_16 (v := (M 76 16)) X (by rfl) in_X7_takesFigure_X7 fl_X7_takesFigure_145 dX7_takesFigure_136 ?_
    refine k9_iload X dX7_takesFigure_139 4 rfl ?_
    refine k9_if_eq (tgt := 153) X dX7_takesFigure_141 (by decide) (fun c => absurd c c1) (fun _ => ?_)
    refine k9_iload X dX7_takesFigure_144 2 rfl ?_
    refine k9_if_eq (tgt := 153) X dX7_takesFigure_146 (by decide) (fun c2 => ?_) (fun c2 => ?_)
    · refine k9_iconst (v := 0) X dX7_takesFigure_153 (by decide) ?_
      refine k9_iadd X dX7_takesFigure_154 ?_
      refine k9_pX7_16 X in_X7_takesFigure_X7 fl_X7_takesFigure_145 dX7_takesFigure_155 ?_
      refine k9_iload X dX7_takesFigure_158 4 rfl ?_
      refine k9_sub (lv' := []) [] rfl ?_
      exact (l2 c1 c2)
    · refine k9_iconst (v := 1) X dX7_takesFigure_149 (by decide) ?_
      refine k9_goto (tgt := 154) X dX7_takesFigure_150 (by decide) ?_
      refine k9_iadd X dX7_takesFigure_154 ?_
      refine k9_pX7_16 X in_X7_takesFigure_X7 fl_X7_takesFigure_145 dX7_takesFigure_155 ?_
      refine k9_iload X dX7_takesFigure_158 4 rfl ?_
      refine k9_sub (lv' := []) [] rfl ?_
      exact (l3 c1 c2)

theorem in_X7_goesOn_X7 : ∀ w ∈ u_ws RX7 TX7 19, w ∈ wsX7_goesOn := by decide +kernel
theorem fl_X7_goesOn_145 : Cond.fieldLink RX7 145 (TX7 16).1 (TX7 16).2.1 (TX7 16).2.2.1 ∈ wsX7_goesOn := by decide +kernel
set_option maxRecDepth 20000 in
theorem bk_X7_goesOn_0 (X : k9_X p R s m args c A G 3 cX7_goesOn wsX7_goesOn RX7 rm_X7_goesOn) {a0 a1 : Int32}
    (l1 : (a0 = 0) → k9_U p l e R s m args below meth c Q A G 3 0 0 (k9_st M 76 16 (M 76 16)) 17 [] [.int a0])
    (l2 : (¬ (a0 = 0)) → k9_U p l e R s m args below meth c Q A G 3 0 0 (k9_st M 76 16 a1) 17 [] [.int a0]) : k9_U p l e R s m args below meth c Q A G 3 0 0 M 0 [(0, .ref (k9_ga G 76)), (1, .int a0), (2, .int a1)] [] := by
  refine k9_aload_n X dX7_goesOn_0 rfl 0 rfl ?_
  refine k9_iload_n X dX7_goesOn_1 rfl 1 rfl ?_
  refine k9_if_eq (tgt := 9) X dX7_goesOn_2 (by decide) (fun c1 => ?_) (fun c1 => ?_)
  · refine k9_aload_n X dX7_goesOn_9 rfl 0 rfl ?_
    refine k9_gX7_16 X (by rfl) in_X7_goesOn_X7 fl_X7_goesOn_145 dX7_goesOn_10 ?_
    refine k9_pX7_16 X in_X7_goesOn_X7 fl_X7_goesOn_145 dX7_goesOn_13 ?_
    refine k9_iload_n X dX7_goesOn_16 rfl 1 rfl ?_
    refine k9_sub (lv' := []) [] rfl ?_
    exact (l1 c1)
  · refine k9_iload_n X dX7_goesOn_5 rfl 2 rfl ?_
    refine k9_goto (tgt := 13) X dX7_goesOn_6 (by decide) ?_
    refine k9_pX7_16 X in_X7_goesOn_X7 fl_X7_goesOn_145 dX7_goesOn_13 ?_
    refine k9_iload_n X dX7_goesOn_16 rfl 1 rfl ?_
    refine k9_sub (lv' := []) [] rfl ?_
    exact (l2 c1)

theorem in_X7_takes_X7 : ∀ w ∈ u_ws RX7 TX7 19, w ∈ wsX7_takes := by decide +kernel
theorem fl_X7_takes_145 : Cond.fieldLink RX7 145 (TX7 16).1 (TX7 16).2.1 (TX7 16).2.2.1 ∈ wsX7_takes := by decide +kernel
theorem fl_X7_takes_40 : Cond.fieldLink RX7 40 (TX7 14).1 (TX7 14).2.1 (TX7 14).2.2.1 ∈ wsX7_takes := by decide +kernel
theorem fl_X7_takes_142 : Cond.fieldLink RX7 142 (TX7 15).1 (TX7 15).2.1 (TX7 15).2.2.1 ∈ wsX7_takes := by decide +kernel
set_option maxRecDepth 20000 in
theorem bk_X7_takes_0 (X : k9_X p R s m args c A G 2 cX7_takes wsX7_takes RX7 rm_X7_takes) {a0 : Int32} {rv1 : Int32} {mv1 : k9_Mem} {rv2 : Int32} {mv2 : k9_Mem} {rv3 : Int32} {mv3 : k9_Mem} {rv4 : Int32} {mv4 : k9_Mem} {rv5 : Int32} {mv5 : k9_Mem} {rv6 : Int32} {mv6 : k9_Mem} {rv7 : Int32} {mv7 : k9_Mem} {rv8 : Int32} {mv8 : k9_Mem} {rv9 : Int32} {mv9 : k9_Mem} {rv10 : Int32} {mv10 : k9_Mem} {rv11 : Int32} {mv11 : k9_Mem} {rv12 : Int32} {mv12 : k9_Mem}
    (k1 : ((M 76 16) = (0 : Int32)) → (¬ a0 = (112 : Int32)) → k9_Ci l yX7_takesFigure wsX7_takesFigure rm_X7_takesFigure G M [.ref (k9_ga G 76), .int a0, .int (0 : Int32), .int (0 : Int32), .int (19 : Int32)] rv1 mv1)
    (l1 : ((M 76 16) = (0 : Int32)) → (¬ a0 = (112 : Int32)) → k9_U p l e R s m args below meth c Q A G 2 0 0 mv1 78 [] [.int rv1])
    (o1 : ((M 76 16) = (0 : Int32)) → (a0 = (112 : Int32)) → vp_in ((3 : Int32) * (M 76 15)) 36)
    (k2 : ((M 76 16) = (0 : Int32)) → (a0 = (112 : Int32)) → k9_Ci l yX7_goesOn wsX7_goesOn rm_X7_goesOn G (k9_st M 87 ((3 : Int32) * (M 76 15)).toNatClampNeg (-1 : Int32)) [.ref (k9_ga G 76), .int (1 : Int32), .int (2 : Int32)] rv2 mv2)
    (l2 : ((M 76 16) = (0 : Int32)) → (a0 = (112 : Int32)) → k9_U p l e R s m args below meth c Q A G 2 0 0 mv2 68 [] [.int rv2])
    (k3 : ((M 76 16) = (1 : Int32)) → (¬ a0 = (64 : Int32)) → k9_Ci l yX7_takesFigure wsX7_takesFigure rm_X7_takesFigure G M [.ref (k9_ga G 76), .int a0, .int (0 : Int32), .int (0 : Int32), .int (19 : Int32)] rv3 mv3)
    (l3 : ((M 76 16) = (1 : Int32)) → (¬ a0 = (64 : Int32)) → k9_U p l e R s m args below meth c Q A G 2 0 0 mv3 103 [] [.int rv3])
    (k4 : ((M 76 16) = (1 : Int32)) → (a0 = (64 : Int32)) → k9_Ci l yX7_goesOn wsX7_goesOn rm_X7_goesOn G M [.ref (k9_ga G 76), .int (1 : Int32), .int (3 : Int32)] rv4 mv4)
    (l4 : ((M 76 16) = (1 : Int32)) → (a0 = (64 : Int32)) → k9_U p l e R s m args below meth c Q A G 2 0 0 mv4 103 [] [.int rv4])
    (k5 : ((M 76 16) = (2 : Int32)) → (¬ a0 = (64 : Int32)) → k9_Ci l yX7_goesOn wsX7_goesOn rm_X7_goesOn G M [.ref (k9_ga G 76), .int (0 : Int32), .int (3 : Int32)] rv5 mv5)
    (l5 : ((M 76 16) = (2 : Int32)) → (¬ a0 = (64 : Int32)) → k9_U p l e R s m args below meth c Q A G 2 0 0 mv5 120 [] [.int rv5])
    (k6 : ((M 76 16) = (2 : Int32)) → (a0 = (64 : Int32)) → k9_Ci l yX7_goesOn wsX7_goesOn rm_X7_goesOn G M [.ref (k9_ga G 76), .int (1 : Int32), .int (3 : Int32)] rv6 mv6)
    (l6 : ((M 76 16) = (2 : Int32)) → (a0 = (64 : Int32)) → k9_U p l e R s m args below meth c Q A G 2 0 0 mv6 120 [] [.int rv6])
    (k7 : ((M 76 16) = (3 : Int32)) → k9_Ci l yX7_takesFigure wsX7_takesFigure rm_X7_takesFigure G M [.ref (k9_ga G 76), .int a0, .int (1 : Int32), .int (0 : Int32), .int (95 : Int32)] rv7 mv7)
    (l7 : ((M 76 16) = (3 : Int32)) → k9_U p l e R s m args below meth c Q A G 2 0 0 mv7 130 [] [.int rv7])
    (k8 : ((M 76 16) = (4 : Int32)) → (¬ a0 = (58 : Int32)) → k9_Ci l yX7_takesFigure wsX7_takesFigure rm_X7_takesFigure G M [.ref (k9_ga G 76), .int a0, .int (1 : Int32), .int (0 : Int32), .int (95 : Int32)] rv8 mv8)
    (l8 : ((M 76 16) = (4 : Int32)) → (¬ a0 = (58 : Int32)) → k9_U p l e R s m args below meth c Q A G 2 0 0 mv8 155 [] [.int rv8])
    (k9 : ((M 76 16) = (4 : Int32)) → (a0 = (58 : Int32)) → k9_Ci l yX7_goesOn wsX7_goesOn rm_X7_goesOn G M [.ref (k9_ga G 76), .int (1 : Int32), .int (5 : Int32)] rv9 mv9)
    (l9 : ((M 76 16) = (4 : Int32)) → (a0 = (58 : Int32)) → k9_U p l e R s m args below meth c Q A G 2 0 0 mv9 155 [] [.int rv9])
    (k10 : ((M 76 16) = (5 : Int32)) → k9_Ci l yX7_takesFigure wsX7_takesFigure rm_X7_takesFigure G M [.ref (k9_ga G 76), .int a0, .int (2 : Int32), .int (1 : Int32), .int (96 : Int32)] rv10 mv10)
    (l10 : ((M 76 16) = (5 : Int32)) → k9_U p l e R s m args below meth c Q A G 2 0 0 mv10 165 [] [.int rv10])
    (k11 : (¬ (M 76 16) = (0 : Int32)) → (¬ (M 76 16) = (1 : Int32)) → (¬ (M 76 16) = (2 : Int32)) → (¬ (M 76 16) = (3 : Int32)) → (¬ (M 76 16) = (4 : Int32)) → (¬ (M 76 16) = (5 : Int32)) → (¬ a0 = (44 : Int32)) → k9_Ci l yX7_takesFigure wsX7_takesFigure rm_X7_takesFigure G M [.ref (k9_ga G 76), .int a0, .int (2 : Int32), .int (1 : Int32), .int (96 : Int32)] rv11 mv11)
    (l11 : (¬ (M 76 16) = (0 : Int32)) → (¬ (M 76 16) = (1 : Int32)) → (¬ (M 76 16) = (2 : Int32)) → (¬ (M 76 16) = (3 : Int32)) → (¬ (M 76 16) = (4 : Int32)) → (¬ (M 76 16) = (5 : Int32)) → (¬ a0 = (44 : Int32)) → k9_U p l e R s m args below meth c Q A G 2 0 0 mv11 198 [] [.int rv11])
    (k12 : (¬ (M 76 16) = (0 : Int32)) → (¬ (M 76 16) = (1 : Int32)) → (¬ (M 76 16) = (2 : Int32)) → (¬ (M 76 16) = (3 : Int32)) → (¬ (M 76 16) = (4 : Int32)) → (¬ (M 76 16) = (5 : Int32)) → (a0 = (44 : Int32)) → k9_Ci l yX7_goesOn wsX7_goesOn rm_X7_goesOn G (k9_st M 76 15 ((M 76 15) + (1 : Int32))) [.ref (k9_ga G 76), .int (1 : Int32), .int (0 : Int32)] rv12 mv12)
    (l12 : (¬ (M 76 16) = (0 : Int32)) → (¬ (M 76 16) = (1 : Int32)) → (¬ (M 76 16) = (2 : Int32)) → (¬ (M 76 16) = (3 : Int32)) → (¬ (M 76 16) = (4 : Int32)) → (¬ (M 76 16) = (5 : Int32)) → (a0 = (44 : Int32)) → k9_U p l e R s m args below meth c Q A G 2 0 0 mv12 188 [] [.int rv12]) : k9_U p l e R s m args below meth c Q A G 2 0 0 M 0 [(0, .ref (k9_ga G 76)), (1, .int a0)] [] := by
  refine k9_aload_n X dX7_takes_0 rfl 0 rfl ?_
  refine k9_gX7_16 X (by rfl) in_X7_takes_X7 fl_X7_takes_145 dX7_takes_1 ?_
  rcases Classical.em ((M 76 16) = (0 : Int32)) with c1 | c1
  · refine k9_tswIn (tgt := 44) X dX7_takes_4 (0 : Int32) c1 (by decide) (by decide) (by rfl) (by decide) ?_
    refine k9_iload_n X dX7_takes_44 rfl 1 rfl ?_
    refine k9_bipush (v := 112) X dX7_takes_45 (by decide) ?_
    refine k9_icmp_ne (tgt := 69) X dX7_takes_47 (by decide) (fun c2 => ?_) (fun c2 => ?_)
    · refine k9_aload_n X dX7_takes_69 rfl 0 rfl ?_
      refine k9_iload_n X dX7_takes_70 rfl 1 rfl ?_
      refine k9_iconst (v := 0) X dX7_takes_71 (by decide) ?_
      refine k9_iconst (v := 0) X dX7_takes_72 (by decide) ?_
      refine k9_bipush (v := 19) X dX7_takes_73 (by decide) ?_
      refine k9_callVi4 X (k1 c1 c2) k9_ob_76 (cwV 4 X.2.2.2.2.1 gX7_takes_X7_takesFigure rfl rfl rfl (by decide +kernel) ⟨Nat.le_of_ble_eq_true rfl, Nat.le_of_ble_eq_true rfl⟩) (Nat.le_of_ble_eq_true rfl) dX7_takes_75 ⟨Nat.zero_le _, Nat.zero_le _⟩ ?_
      refine k9_sub (lv' := []) [] rfl ?_
      exact (l1 c1 c2)
    · refine k9_aload_n X dX7_takes_50 rfl 0 rfl ?_
      refine k9_gX7_14 X in_X7_takes_X7 fl_X7_takes_40 dX7_takes_51 ?_
      refine k9_iconst (v := 3) X dX7_takes_54 (by decide) ?_
      refine k9_aload_n X dX7_takes_55 rfl 0 rfl ?_
      refine k9_gX7_15 X (by rfl) in_X7_takes_X7 fl_X7_takes_142 dX7_takes_56 ?_
      refine k9_imul X dX7_takes_59 ?_
      refine k9_iconst (v := -1) X dX7_takes_60 (by decide) ?_
      refine k9_iast X (by decide) (o1 c1 c2) dX7_takes_61 ?_
      refine k9_aload_n X dX7_takes_62 rfl 0 rfl ?_
      refine k9_iconst (v := 1) X dX7_takes_63 (by decide) ?_
      refine k9_iconst (v := 2) X dX7_takes_64 (by decide) ?_
      refine k9_callVi2 X (k2 c1 c2) k9_ob_76 (cwV 2 X.2.2.2.2.1 gX7_takes_X7_goesOn rfl rfl rfl (by decide +kernel) ⟨Nat.le_of_ble_eq_true rfl, Nat.le_of_ble_eq_true rfl⟩) (Nat.le_of_ble_eq_true rfl) dX7_takes_65 ⟨Nat.zero_le _, Nat.zero_le _⟩ ?_
      refine k9_sub (lv' := []) [] rfl ?_
      exact (l2 c1 c2)
  rcases Classical.em ((M 76 16) = (1 : Int32)) with c3 | c3
  · refine k9_tswIn (tgt := 79) X dX7_takes_4 (1 : Int32) c3 (by decide) (by decide) (by rfl) (by decide) ?_
    refine k9_iload_n X dX7_takes_79 rfl 1 rfl ?_
    refine k9_bipush (v := 64) X dX7_takes_80 (by decide) ?_
    refine k9_icmp_ne (tgt := 94) X dX7_takes_82 (by decide) (fun c4 => ?_) (fun c4 => ?_)
    · refine k9_aload_n X dX7_takes_94 rfl 0 rfl ?_
      refine k9_iload_n X dX7_takes_95 rfl 1 rfl ?_
      refine k9_iconst (v := 0) X dX7_takes_96 (by decide) ?_
      refine k9_iconst (v := 0) X dX7_takes_97 (by decide) ?_
      refine k9_bipush (v := 19) X dX7_takes_98 (by decide) ?_
      refine k9_callVi4 X (k3 c3 c4) k9_ob_76 (cwV 4 X.2.2.2.2.1 gX7_takes_X7_takesFigure rfl rfl rfl (by decide +kernel) ⟨Nat.le_of_ble_eq_true rfl, Nat.le_of_ble_eq_true rfl⟩) (Nat.le_of_ble_eq_true rfl) dX7_takes_100 ⟨Nat.zero_le _, Nat.zero_le _⟩ ?_
      refine k9_sub (lv' := []) [] rfl ?_
      exact (l3 c3 c4)
    · refine k9_aload_n X dX7_takes_85 rfl 0 rfl ?_
      refine k9_iconst (v := 1) X dX7_takes_86 (by decide) ?_
      refine k9_iconst (v := 3) X dX7_takes_87 (by decide) ?_
      refine k9_callVi2 X (k4 c3 c4) k9_ob_76 (cwV 2 X.2.2.2.2.1 gX7_takes_X7_goesOn rfl rfl rfl (by decide +kernel) ⟨Nat.le_of_ble_eq_true rfl, Nat.le_of_ble_eq_true rfl⟩) (Nat.le_of_ble_eq_true rfl) dX7_takes_88 ⟨Nat.zero_le _, Nat.zero_le _⟩ ?_
      refine k9_goto (tgt := 103) X dX7_takes_91 (by decide) ?_
      refine k9_sub (lv' := []) [] rfl ?_
      exact (l4 c3 c4)
  rcases Classical.em ((M 76 16) = (2 : Int32)) with c5 | c5
  · refine k9_tswIn (tgt := 104) X dX7_takes_4 (2 : Int32) c5 (by decide) (by decide) (by rfl) (by decide) ?_
    refine k9_aload_n X dX7_takes_104 rfl 0 rfl ?_
    refine k9_iload_n X dX7_takes_105 rfl 1 rfl ?_
    refine k9_bipush (v := 64) X dX7_takes_106 (by decide) ?_
    refine k9_icmp_ne (tgt := 115) X dX7_takes_108 (by decide) (fun c6 => ?_) (fun c6 => ?_)
    · refine k9_iconst (v := 0) X dX7_takes_115 (by decide) ?_
      refine k9_iconst (v := 3) X dX7_takes_116 (by decide) ?_
      refine k9_callVi2 X (k5 c5 c6) k9_ob_76 (cwV 2 X.2.2.2.2.1 gX7_takes_X7_goesOn rfl rfl rfl (by decide +kernel) ⟨Nat.le_of_ble_eq_true rfl, Nat.le_of_ble_eq_true rfl⟩) (Nat.le_of_ble_eq_true rfl) dX7_takes_117 ⟨Nat.zero_le _, Nat.zero_le _⟩ ?_
      refine k9_sub (lv' := []) [] rfl ?_
      exact (l5 c5 c6)
    · refine k9_iconst (v := 1) X dX7_takes_111 (by decide) ?_
      refine k9_goto (tgt := 116) X dX7_takes_112 (by decide) ?_
      refine k9_iconst (v := 3) X dX7_takes_116 (by decide) ?_
      refine k9_callVi2 X (k6 c5 c6) k9_ob_76 (cwV 2 X.2.2.2.2.1 gX7_takes_X7_goesOn rfl rfl rfl (by decide +kernel) ⟨Nat.le_of_ble_eq_true rfl, Nat.le_of_ble_eq_true rfl⟩) (Nat.le_of_ble_eq_true rfl) dX7_takes_117 ⟨Nat.zero_le _, Nat.zero_le _⟩ ?_
      refine k9_sub (lv' := []) [] rfl ?_
      exact (l6 c5 c6)
  rcases Classical.em ((M 76 16) = (3 : Int32)) with c7 | c7
  · refine k9_tswIn (tgt := 121) X dX7_takes_4 (3 : Int32) c7 (by decide) (by decide) (by rfl) (by decide) ?_
    refine k9_aload_n X dX7_takes_121 rfl 0 rfl ?_
    refine k9_iload_n X dX7_takes_122 rfl 1 rfl ?_
    refine k9_iconst (v := 1) X dX7_takes_123 (by decide) ?_
    refine k9_iconst (v := 0) X dX7_takes_124 (by decide) ?_
    refine k9_bipush (v := 95) X dX7_takes_125 (by decide) ?_
    refine k9_callVi4 X (k7 c7) k9_ob_76 (cwV 4 X.2.2.2.2.1 gX7_takes_X7_takesFigure rfl rfl rfl (by decide +kernel) ⟨Nat.le_of_ble_eq_true rfl, Nat.le_of_ble_eq_true rfl⟩) (Nat.le_of_ble_eq_true rfl) dX7_takes_127 ⟨Nat.zero_le _, Nat.zero_le _⟩ ?_
    refine k9_sub (lv' := []) [] rfl ?_
    exact (l7 c7)
  rcases Classical.em ((M 76 16) = (4 : Int32)) with c8 | c8
  · refine k9_tswIn (tgt := 131) X dX7_takes_4 (4 : Int32) c8 (by decide) (by decide) (by rfl) (by decide) ?_
    refine k9_iload_n X dX7_takes_131 rfl 1 rfl ?_
    refine k9_bipush (v := 58) X dX7_takes_132 (by decide) ?_
    refine k9_icmp_ne (tgt := 146) X dX7_takes_134 (by decide) (fun c9 => ?_) (fun c9 => ?_)
    · refine k9_aload_n X dX7_takes_146 rfl 0 rfl ?_
      refine k9_iload_n X dX7_takes_147 rfl 1 rfl ?_
      refine k9_iconst (v := 1) X dX7_takes_148 (by decide) ?_
      refine k9_iconst (v := 0) X dX7_takes_149 (by decide) ?_
      refine k9_bipush (v := 95) X dX7_takes_150 (by decide) ?_
      refine k9_callVi4 X (k8 c8 c9) k9_ob_76 (cwV 4 X.2.2.2.2.1 gX7_takes_X7_takesFigure rfl rfl rfl (by decide +kernel) ⟨Nat.le_of_ble_eq_true rfl, Nat.le_of_ble_eq_true rfl⟩) (Nat.le_of_ble_eq_true rfl) dX7_takes_152 ⟨Nat.zero_le _, Nat.zero_le _⟩ ?_
      refine k9_sub (lv' := []) [] rfl ?_
      exact (l8 c8 c9)
    · refine k9_aload_n X dX7_takes_137 rfl 0 rfl ?_
      refine k9_iconst (v := 1) X dX7_takes_138 (by decide) ?_
      refine k9_iconst (v := 5) X dX7_takes_139 (by decide) ?_
      refine k9_callVi2 X (k9 c8 c9) k9_ob_76 (cwV 2 X.2.2.2.2.1 gX7_takes_X7_goesOn rfl rfl rfl (by decide +kernel) ⟨Nat.le_of_ble_eq_true rfl, Nat.le_of_ble_eq_true rfl⟩) (Nat.le_of_ble_eq_true rfl) dX7_takes_140 ⟨Nat.zero_le _, Nat.zero_le _⟩ ?_
      refine k9_goto (tgt := 155) X dX7_takes_143 (by decide) ?_
      refine k9_sub (lv' := []) [] rfl ?_
      exact (l9 c8 c9)
  rcases Classical.em ((M 76 16) = (5 : Int32)) with c10 | c10
  · refine k9_tswIn (tgt := 156) X dX7_takes_4 (5 : Int32) c10 (by decide) (by decide) (by rfl) (by decide) ?_
    refine k9_aload_n X dX7_takes_156 rfl 0 rfl ?_
    refine k9_iload_n X dX7_takes_157 rfl 1 rfl ?_
    refine k9_iconst (v := 2) X dX7_takes_158 (by decide) ?_
    refine k9_iconst (v := 1) X dX7_takes_159 (by decide) ?_
    refine k9_bipush (v := 96) X dX7_takes_160 (by decide) ?_
    refine k9_callVi4 X (k10 c10) k9_ob_76 (cwV 4 X.2.2.2.2.1 gX7_takes_X7_takesFigure rfl rfl rfl (by decide +kernel) ⟨Nat.le_of_ble_eq_true rfl, Nat.le_of_ble_eq_true rfl⟩) (Nat.le_of_ble_eq_true rfl) dX7_takes_162 ⟨Nat.zero_le _, Nat.zero_le _⟩ ?_
    refine k9_sub (lv' := []) [] rfl ?_
    exact (l10 c10)
  refine k9_tswOut (tgt := 166) X dX7_takes_4 (k9_swOut 6 (by decide) (by intro j hj; rcases (show j = 0 ∨ j = 1 ∨ j = 2 ∨ j = 3 ∨ j = 4 ∨ j = 5 by omega) with rfl | rfl | rfl | rfl | rfl | rfl <;> assumption)) (by decide) (by decide) ?_
  refine k9_iload_n X dX7_takes_166 rfl 1 rfl ?_
  refine k9_bipush (v := 44) X dX7_takes_167 (by decide) ?_
  refine k9_icmp_ne (tgt := 189) X dX7_takes_169 (by decide) (fun c11 => ?_) (fun c11 => ?_)
  · refine k9_aload_n X dX7_takes_189 rfl 0 rfl ?_
    refine k9_iload_n X dX7_takes_190 rfl 1 rfl ?_
    refine k9_iconst (v := 2) X dX7_takes_191 (by decide) ?_
    refine k9_iconst (v := 1) X dX7_takes_192 (by decide) ?_
    refine k9_bipush (v := 96) X dX7_takes_193 (by decide) ?_
    refine k9_callVi4 X (k11 c1 c3 c5 c7 c8 c10 c11) k9_ob_76 (cwV 4 X.2.2.2.2.1 gX7_takes_X7_takesFigure rfl rfl rfl (by decide +kernel) ⟨Nat.le_of_ble_eq_true rfl, Nat.le_of_ble_eq_true rfl⟩) (Nat.le_of_ble_eq_true rfl) dX7_takes_195 ⟨Nat.zero_le _, Nat.zero_le _⟩ ?_
    refine k9_sub (lv' := []) [] rfl ?_
    exact (l11 c1 c3 c5 c7 c8 c10 c11)
  · refine k9_aload_n X dX7_takes_172 rfl 0 rfl ?_
    refine k9_dup X dX7_takes_173 rfl ?_
    refine k9_gX7_15 X (by rfl) in_X7_takes_X7 fl_X7_takes_142 dX7_takes_174 ?_
    refine k9_iconst (v := 1) X dX7_takes_177 (by decide) ?_
    refine k9_iadd X dX7_takes_178 ?_
    refine k9_pX7_15 X in_X7_takes_X7 fl_X7_takes_142 dX7_takes_179 ?_
    refine k9_aload_n X dX7_takes_182 rfl 0 rfl ?_
    refine k9_iconst (v := 1) X dX7_takes_183 (by decide) ?_
    refine k9_iconst (v := 0) X dX7_takes_184 (by decide) ?_
    refine k9_callVi2 X (k12 c1 c3 c5 c7 c8 c10 c11) k9_ob_76 (cwV 2 X.2.2.2.2.1 gX7_takes_X7_goesOn rfl rfl rfl (by decide +kernel) ⟨Nat.le_of_ble_eq_true rfl, Nat.le_of_ble_eq_true rfl⟩) (Nat.le_of_ble_eq_true rfl) dX7_takes_185 ⟨Nat.zero_le _, Nat.zero_le _⟩ ?_
    refine k9_sub (lv' := []) [] rfl ?_
    exact (l12 c1 c3 c5 c7 c8 c10 c11)

theorem in_X7_rightUpTo_X7 : ∀ w ∈ u_ws RX7 TX7 19, w ∈ wsX7_rightUpTo := by decide +kernel
theorem fl_X7_rightUpTo_142 : Cond.fieldLink RX7 142 (TX7 15).1 (TX7 15).2.1 (TX7 15).2.2.1 ∈ wsX7_rightUpTo := by decide +kernel
theorem fl_X7_rightUpTo_145 : Cond.fieldLink RX7 145 (TX7 16).1 (TX7 16).2.1 (TX7 16).2.2.1 ∈ wsX7_rightUpTo := by decide +kernel
theorem fl_X7_rightUpTo_139 : Cond.fieldLink RX7 139 (TX7 3).1 (TX7 3).2.1 (TX7 3).2.2.1 ∈ wsX7_rightUpTo := by decide +kernel
theorem fl_X7_rightUpTo_16 : Cond.fieldLink RX7 16 (TX7 4).1 (TX7 4).2.1 (TX7 4).2.2.1 ∈ wsX7_rightUpTo := by decide +kernel
set_option maxRecDepth 20000 in
theorem bk_X7_rightUpTo_0 (X : k9_X p R s m args c A G 2 cX7_rightUpTo wsX7_rightUpTo RX7 rm_X7_rightUpTo) 
    (l1 : k9_U p l e R s m args below meth c Q A G 2 0 0 (k9_st (k9_st M 76 15 (0 : Int32)) 76 16 (0 : Int32)) 12 [(0, .ref (k9_ga G 76)), (1, .int (0 : Int32))] []) : k9_U p l e R s m args below meth c Q A G 2 0 0 M 0 [(0, .ref (k9_ga G 76))] [] := by
  refine k9_aload_n X dX7_rightUpTo_0 rfl 0 rfl ?_
  refine k9_iconst (v := 0) X dX7_rightUpTo_1 (by decide) ?_
  refine k9_pX7_15 X in_X7_rightUpTo_X7 fl_X7_rightUpTo_142 dX7_rightUpTo_2 ?_
  refine k9_aload_n X dX7_rightUpTo_5 rfl 0 rfl ?_
  refine k9_iconst (v := 0) X dX7_rightUpTo_6 (by decide) ?_
  refine k9_pX7_16 X in_X7_rightUpTo_X7 fl_X7_rightUpTo_145 dX7_rightUpTo_7 ?_
  refine k9_iconst (v := 0) X dX7_rightUpTo_10 (by decide) ?_
  refine k9_istore_n (lv' := [(0, .ref (k9_ga G 76)), (1, .int (0 : Int32))]) X dX7_rightUpTo_11 rfl (by decide) [1, 0] rfl ?_
  exact l1

set_option maxRecDepth 20000 in
theorem bk_X7_rightUpTo_12 (X : k9_X p R s m args c A G 2 cX7_rightUpTo wsX7_rightUpTo RX7 rm_X7_rightUpTo) {x1 : Int32} {rv1 : Int32} {mv1 : k9_Mem}
    (l1 : ((M 76 3) ≤ x1) → k9_U p l e R s m args below meth c Q A G 2 0 0 M 40 [] [.int x1])
    (o1 : (¬ ((M 76 3) ≤ x1)) → vp_in x1 60)
    (k1 : (¬ ((M 76 3) ≤ x1)) → k9_Ci l yX7_takes wsX7_takes rm_X7_takes G M [.ref (k9_ga G 76), .int (M 79 x1.toNatClampNeg)] rv1 mv1)
    (l2 : (¬ ((M 76 3) ≤ x1)) → (rv1 = 0) → k9_U p l e R s m args below meth c Q A G 2 0 0 mv1 40 [] [.int x1])
    (l3 : (¬ ((M 76 3) ≤ x1)) → (¬ (rv1 = 0)) → k9_U p l e R s m args below meth c Q A G 2 0 0 mv1 12 [(0, .ref (k9_ga G 76)), (1, .int (x1 + (1 : Int32)))] []) : k9_U p l e R s m args below meth c Q A G 2 0 0 M 12 [(0, .ref (k9_ga G 76)), (1, .int x1)] [] := by
  refine k9_iload_n X dX7_rightUpTo_12 rfl 1 rfl ?_
  refine k9_aload_n X dX7_rightUpTo_13 rfl 0 rfl ?_
  refine k9_gX7_3 X (by rfl) in_X7_rightUpTo_X7 fl_X7_rightUpTo_139 dX7_rightUpTo_14 ?_
  refine k9_icmp_ge (tgt := 39) X dX7_rightUpTo_17 (by decide) (fun c1 => ?_) (fun c1 => ?_)
  · refine k9_iload_n X dX7_rightUpTo_39 rfl 1 rfl ?_
    refine k9_sub (lv' := []) [] rfl ?_
    exact (l1 c1)
  · refine k9_aload_n X dX7_rightUpTo_20 rfl 0 rfl ?_
    refine k9_aload_n X dX7_rightUpTo_21 rfl 0 rfl ?_
    refine k9_gX7_4 X in_X7_rightUpTo_X7 fl_X7_rightUpTo_16 dX7_rightUpTo_22 ?_
    refine k9_iload_n X dX7_rightUpTo_25 rfl 1 rfl ?_
    refine k9_iald X (by decide) (o1 c1) (by rfl) dX7_rightUpTo_26 ?_
    refine k9_callVi1 X (k1 c1) k9_ob_76 (cwV 1 X.2.2.2.2.1 gX7_rightUpTo_X7_takes rfl rfl rfl (by decide +kernel) ⟨Nat.le_of_ble_eq_true rfl, Nat.le_of_ble_eq_true rfl⟩) (Nat.le_of_ble_eq_true rfl) dX7_rightUpTo_27 ⟨Nat.zero_le _, Nat.zero_le _⟩ ?_
    refine k9_if_eq (tgt := 39) X dX7_rightUpTo_30 (by decide) (fun c2 => ?_) (fun c2 => ?_)
    · refine k9_iload_n X dX7_rightUpTo_39 rfl 1 rfl ?_
      refine k9_sub (lv' := []) [] rfl ?_
      exact (l2 c1 c2)
    · refine k9_iinc (v := x1 + (1 : Int32)) (lv' := [(0, .ref (k9_ga G 76)), (1, .int (x1 + (1 : Int32)))]) X dX7_rightUpTo_33 (k := 1) rfl (by rfl) (by decide) [1, 0] rfl ?_
      refine k9_goto (tgt := 12) X dX7_rightUpTo_36 (by decide) ?_
      exact (l3 c1 c2)

theorem in_X7_firstError_X7 : ∀ w ∈ u_ws RX7 TX7 19, w ∈ wsX7_firstError := by decide +kernel
theorem fl_X7_firstError_46 : Cond.fieldLink RX7 46 (TX7 5).1 (TX7 5).2.1 (TX7 5).2.2.1 ∈ wsX7_firstError := by decide +kernel
set_option maxRecDepth 20000 in
theorem bk_X7_firstError_0 (X : k9_X p R s m args c A G 1 cX7_firstError wsX7_firstError RX7 rm_X7_firstError) {rv1 : Int32} {mv1 : k9_Mem}
    (k1 : k9_Ci l yX7_rightUpTo wsX7_rightUpTo rm_X7_rightUpTo G (k9_st M 76 5 (0 : Int32)) [.ref (k9_ga G 76)] rv1 mv1)
    (l1 : k9_U p l e R s m args below meth c Q A G 1 0 0 mv1 9 [] [.int rv1]) : k9_U p l e R s m args below meth c Q A G 1 0 0 M 0 [(0, .ref (k9_ga G 76))] [] := by
  refine k9_aload_n X dX7_firstError_0 rfl 0 rfl ?_
  refine k9_iconst (v := 0) X dX7_firstError_1 (by decide) ?_
  refine k9_pX7_5 X in_X7_firstError_X7 fl_X7_firstError_46 dX7_firstError_2 ?_
  refine k9_aload_n X dX7_firstError_5 rfl 0 rfl ?_
  refine k9_callVi0 X k1 k9_ob_76 (cwV 0 X.2.2.2.2.1 gX7_firstError_X7_rightUpTo rfl rfl rfl (by decide +kernel) ⟨Nat.le_of_ble_eq_true rfl, Nat.le_of_ble_eq_true rfl⟩) (Nat.le_of_ble_eq_true rfl) dX7_firstError_6 ⟨Nat.zero_le _, Nat.zero_le _⟩ ?_
  refine k9_sub (lv' := []) [] rfl ?_
  exact l1

theorem in_X7_canPunchAll_X7 : ∀ w ∈ u_ws RX7 TX7 19, w ∈ wsX7_canPunchAll := by decide +kernel
theorem fl_X7_canPunchAll_142 : Cond.fieldLink RX7 142 (TX7 15).1 (TX7 15).2.1 (TX7 15).2.2.1 ∈ wsX7_canPunchAll := by decide +kernel
theorem fl_X7_canPunchAll_40 : Cond.fieldLink RX7 40 (TX7 14).1 (TX7 14).2.1 (TX7 14).2.2.1 ∈ wsX7_canPunchAll := by decide +kernel
set_option maxRecDepth 20000 in
theorem bk_X7_canPunchAll_0 (X : k9_X p R s m args c A G 3 cX7_canPunchAll wsX7_canPunchAll RX7 rm_X7_canPunchAll) 
    (l1 : k9_U p l e R s m args below meth c Q A G 3 0 0 M 4 [(0, .ref (k9_ga G 76)), (1, .int (1 : Int32)), (2, .int (0 : Int32))] []) : k9_U p l e R s m args below meth c Q A G 3 0 0 M 0 [(0, .ref (k9_ga G 76))] [] := by
  refine k9_iconst (v := 1) X dX7_canPunchAll_0 (by decide) ?_
  refine k9_istore_n (lv' := [(0, .ref (k9_ga G 76)), (1, .int (1 : Int32))]) X dX7_canPunchAll_1 rfl (by decide) [1, 0] rfl ?_
  refine k9_iconst (v := 0) X dX7_canPunchAll_2 (by decide) ?_
  refine k9_istore_n (lv' := [(0, .ref (k9_ga G 76)), (1, .int (1 : Int32)), (2, .int (0 : Int32))]) X dX7_canPunchAll_3 rfl (by decide) [1, 2, 0] rfl ?_
  exact l1

set_option maxRecDepth 20000 in
theorem bk_X7_canPunchAll_4 (X : k9_X p R s m args c A G 3 cX7_canPunchAll wsX7_canPunchAll RX7 rm_X7_canPunchAll) {x1 x2 : Int32}
    (l1 : ((M 76 15) < x2) → k9_U p l e R s m args below meth c Q A G 3 0 0 M 55 [] [.int x1])
    (l2 : (¬ ((M 76 15) < x2)) → (x1 = 0) → k9_U p l e R s m args below meth c Q A G 3 0 0 M 4 [(0, .ref (k9_ga G 76)), (1, .int (0 : Int32)), (2, .int (x2 + (1 : Int32)))] [])
    (o1 : (¬ ((M 76 15) < x2)) → (¬ (x1 = 0)) → vp_in (((3 : Int32) * x2) + (1 : Int32)) 36)
    (o2 : (¬ ((M 76 15) < x2)) → (¬ (x1 = 0)) → vp_in (((3 : Int32) * x2) + (2 : Int32)) 36)
    (l3 : (¬ ((M 76 15) < x2)) → (¬ (x1 = 0)) → ((96 : Int32) < ((M 87 (((3 : Int32) * x2) + (1 : Int32)).toNatClampNeg) + (M 87 (((3 : Int32) * x2) + (2 : Int32)).toNatClampNeg))) → k9_U p l e R s m args below meth c Q A G 3 0 0 M 4 [(0, .ref (k9_ga G 76)), (1, .int (0 : Int32)), (2, .int (x2 + (1 : Int32)))] [])
    (l4 : (¬ ((M 76 15) < x2)) → (¬ (x1 = 0)) → (¬ ((96 : Int32) < ((M 87 (((3 : Int32) * x2) + (1 : Int32)).toNatClampNeg) + (M 87 (((3 : Int32) * x2) + (2 : Int32)).toNatClampNeg)))) → k9_U p l e R s m args below meth c Q A G 3 0 0 M 4 [(0, .ref (k9_ga G 76)), (1, .int (1 : Int32)), (2, .int (x2 + (1 : Int32)))] []) : k9_U p l e R s m args below meth c Q A G 3 0 0 M 4 [(0, .ref (k9_ga G 76)), (1, .int x1), (2, .int x2)] [] := by
  refine k9_iload_n X dX7_canPunchAll_4 rfl 2 rfl ?_
  refine k9_aload_n X dX7_canPunchAll_5 rfl 0 rfl ?_
  refine k9_gX7_15 X (by rfl) in_X7_canPunchAll_X7 fl_X7_canPunchAll_142 dX7_canPunchAll_6 ?_
  refine k9_icmp_gt (tgt := 54) X dX7_canPunchAll_9 (by decide) (fun c1 => ?_) (fun c1 => ?_)
  · refine k9_iload_n X dX7_canPunchAll_54 rfl 1 rfl ?_
    refine k9_sub (lv' := []) [] rfl ?_
    exact (l1 c1)
  · refine k9_iload_n X dX7_canPunchAll_12 rfl 1 rfl ?_
    refine k9_if_eq (tgt := 46) X dX7_canPunchAll_13 (by decide) (fun c2 => ?_) (fun c2 => ?_)
    · refine k9_iconst (v := 0) X dX7_canPunchAll_46 (by decide) ?_
      refine k9_istore_n (lv' := [(0, .ref (k9_ga G 76)), (1, .int (0 : Int32)), (2, .int x2)]) X dX7_canPunchAll_47 rfl (by decide) [1, 0, 2] rfl ?_
      refine k9_iinc (v := x2 + (1 : Int32)) (lv' := [(0, .ref (k9_ga G 76)), (1, .int (0 : Int32)), (2, .int (x2 + (1 : Int32)))]) X dX7_canPunchAll_48 (k := 2) rfl (by rfl) (by decide) [1, 2, 0] rfl ?_
      refine k9_goto (tgt := 4) X dX7_canPunchAll_51 (by decide) ?_
      exact (l2 c1 c2)
    · refine k9_aload_n X dX7_canPunchAll_16 rfl 0 rfl ?_
      refine k9_gX7_14 X in_X7_canPunchAll_X7 fl_X7_canPunchAll_40 dX7_canPunchAll_17 ?_
      refine k9_iconst (v := 3) X dX7_canPunchAll_20 (by decide) ?_
      refine k9_iload_n X dX7_canPunchAll_21 rfl 2 rfl ?_
      refine k9_imul X dX7_canPunchAll_22 ?_
      refine k9_iconst (v := 1) X dX7_canPunchAll_23 (by decide) ?_
      refine k9_iadd X dX7_canPunchAll_24 ?_
      refine k9_iald X (by decide) (o1 c1 c2) (by rfl) dX7_canPunchAll_25 ?_
      refine k9_aload_n X dX7_canPunchAll_26 rfl 0 rfl ?_
      refine k9_gX7_14 X in_X7_canPunchAll_X7 fl_X7_canPunchAll_40 dX7_canPunchAll_27 ?_
      refine k9_iconst (v := 3) X dX7_canPunchAll_30 (by decide) ?_
      refine k9_iload_n X dX7_canPunchAll_31 rfl 2 rfl ?_
      refine k9_imul X dX7_canPunchAll_32 ?_
      refine k9_iconst (v := 2) X dX7_canPunchAll_33 (by decide) ?_
      refine k9_iadd X dX7_canPunchAll_34 ?_
      refine k9_iald X (by decide) (o2 c1 c2) (by rfl) dX7_canPunchAll_35 ?_
      refine k9_iadd X dX7_canPunchAll_36 ?_
      refine k9_bipush (v := 96) X dX7_canPunchAll_37 (by decide) ?_
      refine k9_icmp_gt (tgt := 46) X dX7_canPunchAll_39 (by decide) (fun c3 => ?_) (fun c3 => ?_)
      · refine k9_iconst (v := 0) X dX7_canPunchAll_46 (by decide) ?_
        refine k9_istore_n (lv' := [(0, .ref (k9_ga G 76)), (1, .int (0 : Int32)), (2, .int x2)]) X dX7_canPunchAll_47 rfl (by decide) [1, 0, 2] rfl ?_
        refine k9_iinc (v := x2 + (1 : Int32)) (lv' := [(0, .ref (k9_ga G 76)), (1, .int (0 : Int32)), (2, .int (x2 + (1 : Int32)))]) X dX7_canPunchAll_48 (k := 2) rfl (by rfl) (by decide) [1, 2, 0] rfl ?_
        refine k9_goto (tgt := 4) X dX7_canPunchAll_51 (by decide) ?_
        exact (l3 c1 c2 c3)
      · refine k9_iconst (v := 1) X dX7_canPunchAll_42 (by decide) ?_
        refine k9_goto (tgt := 47) X dX7_canPunchAll_43 (by decide) ?_
        refine k9_istore_n (lv' := [(0, .ref (k9_ga G 76)), (1, .int (1 : Int32)), (2, .int x2)]) X dX7_canPunchAll_47 rfl (by decide) [1, 0, 2] rfl ?_
        refine k9_iinc (v := x2 + (1 : Int32)) (lv' := [(0, .ref (k9_ga G 76)), (1, .int (1 : Int32)), (2, .int (x2 + (1 : Int32)))]) X dX7_canPunchAll_48 (k := 2) rfl (by rfl) (by decide) [1, 2, 0] rfl ?_
        refine k9_goto (tgt := 4) X dX7_canPunchAll_51 (by decide) ?_
        exact (l4 c1 c2 c3)

theorem in_X7_punchAll_X7 : ∀ w ∈ u_ws RX7 TX7 19, w ∈ wsX7_punchAll := by decide +kernel
theorem fl_X7_punchAll_139 : Cond.fieldLink RX7 139 (TX7 3).1 (TX7 3).2.1 (TX7 3).2.2.1 ∈ wsX7_punchAll := by decide +kernel
theorem fl_X7_punchAll_46 : Cond.fieldLink RX7 46 (TX7 5).1 (TX7 5).2.1 (TX7 5).2.2.1 ∈ wsX7_punchAll := by decide +kernel
theorem fl_X7_punchAll_145 : Cond.fieldLink RX7 145 (TX7 16).1 (TX7 16).2.1 (TX7 16).2.2.1 ∈ wsX7_punchAll := by decide +kernel
theorem fl_X7_punchAll_142 : Cond.fieldLink RX7 142 (TX7 15).1 (TX7 15).2.1 (TX7 15).2.2.1 ∈ wsX7_punchAll := by decide +kernel
theorem fl_X7_punchAll_40 : Cond.fieldLink RX7 40 (TX7 14).1 (TX7 14).2.1 (TX7 14).2.2.1 ∈ wsX7_punchAll := by decide +kernel
set_option maxRecDepth 20000 in
theorem bk_X7_punchAll_0 (X : k9_X p R s m args c A G 4 cX7_punchAll wsX7_punchAll RX7 rm_X7_punchAll) {rv1 : Int32} {mv1 : k9_Mem} {rv2 : Int32} {mv3 : k9_Mem}
    (k1 : k9_Ci l yX7_rightUpTo wsX7_rightUpTo rm_X7_rightUpTo G M [.ref (k9_ga G 76)] rv1 mv1)
    (l1 : (¬ rv1 = (mv1 76 3)) → k9_U p l e R s m args below meth c Q A G 4 0 0 (k9_st mv1 76 5 (1 : Int32)) 58 [] [.int (0 : Int32)])
    (l2 : (rv1 = (mv1 76 3)) → (¬ (mv1 76 16) = (6 : Int32)) → k9_U p l e R s m args below meth c Q A G 4 0 0 (k9_st mv1 76 5 (1 : Int32)) 58 [] [.int (0 : Int32)])
    (k2 : (rv1 = (mv1 76 3)) → ((mv1 76 16) = (6 : Int32)) → k9_Ci l yX7_canPunchAll wsX7_canPunchAll rm_X7_canPunchAll G mv1 [.ref (k9_ga G 76)] rv2 mv1)
    (l3 : (rv1 = (mv1 76 3)) → ((mv1 76 16) = (6 : Int32)) → (rv2 = 0) → k9_U p l e R s m args below meth c Q A G 4 0 0 (k9_st mv1 76 5 (2 : Int32)) 58 [] [.int (0 : Int32)])
    (k3 : (rv1 = (mv1 76 3)) → ((mv1 76 16) = (6 : Int32)) → (¬ (rv2 = 0)) → k9_Cv l yX7_save wsX7_save rm_X7_save G (k9_st mv1 76 5 (0 : Int32)) [.ref (k9_ga G 76)] mv3)
    (l4 : (rv1 = (mv1 76 3)) → ((mv1 76 16) = (6 : Int32)) → (¬ (rv2 = 0)) → k9_U p l e R s m args below meth c Q A G 4 0 0 (k9_st mv3 76 3 (0 : Int32)) 72 [(0, .ref (k9_ga G 76)), (2, .int (0 : Int32)), (3, .int (0 : Int32))] []) : k9_U p l e R s m args below meth c Q A G 4 0 0 M 0 [(0, .ref (k9_ga G 76))] [] := by
  refine k9_aload_n X dX7_punchAll_0 rfl 0 rfl ?_
  refine k9_callVi0 X k1 k9_ob_76 (cwV 0 X.2.2.2.2.1 gX7_punchAll_X7_rightUpTo rfl rfl rfl (by decide +kernel) ⟨Nat.le_of_ble_eq_true rfl, Nat.le_of_ble_eq_true rfl⟩) (Nat.le_of_ble_eq_true rfl) dX7_punchAll_1 ⟨Nat.zero_le _, Nat.zero_le _⟩ ?_
  refine k9_aload_n X dX7_punchAll_4 rfl 0 rfl ?_
  refine k9_gX7_3 X (by rfl) in_X7_punchAll_X7 fl_X7_punchAll_139 dX7_punchAll_5 ?_
  refine k9_icmp_ne (tgt := 24) X dX7_punchAll_8 (by decide) (fun c1 => ?_) (fun c1 => ?_)
  · refine k9_iconst (v := 0) X dX7_punchAll_24 (by decide) ?_
    refine k9_istore_n (lv' := [(0, .ref (k9_ga G 76)), (1, .int (0 : Int32))]) X dX7_punchAll_25 rfl (by decide) [1, 0] rfl ?_
    refine k9_aload_n X dX7_punchAll_26 rfl 0 rfl ?_
    refine k9_iload_n X dX7_punchAll_27 rfl 1 rfl ?_
    refine k9_if_ne (tgt := 35) X dX7_punchAll_28 (by decide) (fun c => absurd c (by decide)) (fun _ => ?_)
    refine k9_iconst (v := 1) X dX7_punchAll_31 (by decide) ?_
    refine k9_goto (tgt := 47) X dX7_punchAll_32 (by decide) ?_
    refine k9_pX7_5 X in_X7_punchAll_X7 fl_X7_punchAll_46 dX7_punchAll_47 ?_
    refine k9_aload_n X dX7_punchAll_50 rfl 0 rfl ?_
    refine k9_gX7_5 (v := (1 : Int32)) X (by rfl) in_X7_punchAll_X7 fl_X7_punchAll_46 dX7_punchAll_51 ?_
    refine k9_if_le (tgt := 59) X dX7_punchAll_54 (by decide) (fun c => absurd c (by decide)) (fun _ => ?_)
    refine k9_iconst (v := 0) X dX7_punchAll_57 (by decide) ?_
    refine k9_sub (lv' := []) [] rfl ?_
    exact (l1 c1)
  · refine k9_aload_n X dX7_punchAll_11 rfl 0 rfl ?_
    refine k9_gX7_16 X (by rfl) in_X7_punchAll_X7 fl_X7_punchAll_145 dX7_punchAll_12 ?_
    refine k9_bipush (v := 6) X dX7_punchAll_15 (by decide) ?_
    refine k9_icmp_ne (tgt := 24) X dX7_punchAll_17 (by decide) (fun c2 => ?_) (fun c2 => ?_)
    · refine k9_iconst (v := 0) X dX7_punchAll_24 (by decide) ?_
      refine k9_istore_n (lv' := [(0, .ref (k9_ga G 76)), (1, .int (0 : Int32))]) X dX7_punchAll_25 rfl (by decide) [1, 0] rfl ?_
      refine k9_aload_n X dX7_punchAll_26 rfl 0 rfl ?_
      refine k9_iload_n X dX7_punchAll_27 rfl 1 rfl ?_
      refine k9_if_ne (tgt := 35) X dX7_punchAll_28 (by decide) (fun c => absurd c (by decide)) (fun _ => ?_)
      refine k9_iconst (v := 1) X dX7_punchAll_31 (by decide) ?_
      refine k9_goto (tgt := 47) X dX7_punchAll_32 (by decide) ?_
      refine k9_pX7_5 X in_X7_punchAll_X7 fl_X7_punchAll_46 dX7_punchAll_47 ?_
      refine k9_aload_n X dX7_punchAll_50 rfl 0 rfl ?_
      refine k9_gX7_5 (v := (1 : Int32)) X (by rfl) in_X7_punchAll_X7 fl_X7_punchAll_46 dX7_punchAll_51 ?_
      refine k9_if_le (tgt := 59) X dX7_punchAll_54 (by decide) (fun c => absurd c (by decide)) (fun _ => ?_)
      refine k9_iconst (v := 0) X dX7_punchAll_57 (by decide) ?_
      refine k9_sub (lv' := []) [] rfl ?_
      exact (l2 c1 c2)
    · refine k9_iconst (v := 1) X dX7_punchAll_20 (by decide) ?_
      refine k9_goto (tgt := 25) X dX7_punchAll_21 (by decide) ?_
      refine k9_istore_n (lv' := [(0, .ref (k9_ga G 76)), (1, .int (1 : Int32))]) X dX7_punchAll_25 rfl (by decide) [1, 0] rfl ?_
      refine k9_aload_n X dX7_punchAll_26 rfl 0 rfl ?_
      refine k9_iload_n X dX7_punchAll_27 rfl 1 rfl ?_
      refine k9_if_ne (tgt := 35) X dX7_punchAll_28 (by decide) (fun _ => ?_) (fun c => absurd c (by decide))
      refine k9_aload_n X dX7_punchAll_35 rfl 0 rfl ?_
      refine k9_callVi0 X (k2 c1 c2) k9_ob_76 (cwV 0 X.2.2.2.2.1 gX7_punchAll_X7_canPunchAll rfl rfl rfl (by decide +kernel) ⟨Nat.le_of_ble_eq_true rfl, Nat.le_of_ble_eq_true rfl⟩) (Nat.le_of_ble_eq_true rfl) dX7_punchAll_36 ⟨Nat.zero_le _, Nat.zero_le _⟩ ?_
      refine k9_if_eq (tgt := 46) X dX7_punchAll_39 (by decide) (fun c3 => ?_) (fun c3 => ?_)
      · refine k9_iconst (v := 2) X dX7_punchAll_46 (by decide) ?_
        refine k9_pX7_5 X in_X7_punchAll_X7 fl_X7_punchAll_46 dX7_punchAll_47 ?_
        refine k9_aload_n X dX7_punchAll_50 rfl 0 rfl ?_
        refine k9_gX7_5 (v := (2 : Int32)) X (by rfl) in_X7_punchAll_X7 fl_X7_punchAll_46 dX7_punchAll_51 ?_
        refine k9_if_le (tgt := 59) X dX7_punchAll_54 (by decide) (fun c => absurd c (by decide)) (fun _ => ?_)
        refine k9_iconst (v := 0) X dX7_punchAll_57 (by decide) ?_
        refine k9_sub (lv' := []) [] rfl ?_
        exact (l3 c1 c2 c3)
      · refine k9_iconst (v := 0) X dX7_punchAll_42 (by decide) ?_
        refine k9_goto (tgt := 47) X dX7_punchAll_43 (by decide) ?_
        refine k9_pX7_5 X in_X7_punchAll_X7 fl_X7_punchAll_46 dX7_punchAll_47 ?_
        refine k9_aload_n X dX7_punchAll_50 rfl 0 rfl ?_
        refine k9_gX7_5 (v := (0 : Int32)) X (by rfl) in_X7_punchAll_X7 fl_X7_punchAll_46 dX7_punchAll_51 ?_
        refine k9_if_le (tgt := 59) X dX7_punchAll_54 (by decide) (fun _ => ?_) (fun c => absurd c (by decide))
        refine k9_aload_n X dX7_punchAll_59 rfl 0 rfl ?_
        refine k9_callVv0 X (k3 c1 c2 c3) k9_ob_76 (cwV 0 X.2.2.2.2.1 gX7_punchAll_X7_save rfl rfl rfl (by decide +kernel) ⟨Nat.le_of_ble_eq_true rfl, Nat.le_of_ble_eq_true rfl⟩) (Nat.le_of_ble_eq_true rfl) dX7_punchAll_60 ⟨Nat.zero_le _, Nat.zero_le _⟩ ?_
        refine k9_aload_n X dX7_punchAll_63 rfl 0 rfl ?_
        refine k9_iconst (v := 0) X dX7_punchAll_64 (by decide) ?_
        refine k9_pX7_3 X in_X7_punchAll_X7 fl_X7_punchAll_139 dX7_punchAll_65 ?_
        refine k9_iconst (v := 0) X dX7_punchAll_68 (by decide) ?_
        refine k9_istore_n (lv' := [(0, .ref (k9_ga G 76)), (1, .int (1 : Int32)), (2, .int (0 : Int32))]) X dX7_punchAll_69 rfl (by decide) [1, 2, 0] rfl ?_
        refine k9_iconst (v := 0) X dX7_punchAll_70 (by decide) ?_
        refine k9_istore_n (lv' := [(0, .ref (k9_ga G 76)), (1, .int (1 : Int32)), (2, .int (0 : Int32)), (3, .int (0 : Int32))]) X dX7_punchAll_71 rfl (by decide) [1, 2, 3, 0] rfl ?_
        refine k9_sub (lv' := [(0, .ref (k9_ga G 76)), (2, .int (0 : Int32)), (3, .int (0 : Int32))]) [0, 2, 3] rfl ?_
        exact (l4 c1 c2 c3)

set_option maxRecDepth 20000 in
theorem bk_X7_punchAll_72 (X : k9_X p R s m args c A G 4 cX7_punchAll wsX7_punchAll RX7 rm_X7_punchAll) {x2 x3 : Int32} {rv1 : Int32} {mv1 : k9_Mem}
    (l1 : ((M 76 15) < x3) → k9_U p l e R s m args below meth c Q A G 4 0 0 M 122 [] [.int x2])
    (o1 : (¬ ((M 76 15) < x3)) → vp_in ((3 : Int32) * x3) 36)
    (o2 : (¬ ((M 76 15) < x3)) → vp_in (((3 : Int32) * x3) + (1 : Int32)) 36)
    (o3 : (¬ ((M 76 15) < x3)) → vp_in (((3 : Int32) * x3) + (2 : Int32)) 36)
    (k1 : (¬ ((M 76 15) < x3)) → k9_Ci l yX7_punchChain wsX7_punchChain rm_X7_punchChain G M [.ref (k9_ga G 76), .int (M 87 ((3 : Int32) * x3).toNatClampNeg), .int (M 87 (((3 : Int32) * x3) + (1 : Int32)).toNatClampNeg), .int (M 87 (((3 : Int32) * x3) + (2 : Int32)).toNatClampNeg)] rv1 mv1)
    (l2 : (¬ ((M 76 15) < x3)) → k9_U p l e R s m args below meth c Q A G 4 0 0 mv1 72 [(0, .ref (k9_ga G 76)), (2, .int (x2 + rv1)), (3, .int (x3 + (1 : Int32)))] []) : k9_U p l e R s m args below meth c Q A G 4 0 0 M 72 [(0, .ref (k9_ga G 76)), (2, .int x2), (3, .int x3)] [] := by
  refine k9_iload_n X dX7_punchAll_72 rfl 2 rfl ?_
  refine k9_aload_n X dX7_punchAll_73 rfl 0 rfl ?_
  refine k9_gX7_15 X (by rfl) in_X7_punchAll_X7 fl_X7_punchAll_142 dX7_punchAll_74 ?_
  refine k9_icmp_gt (tgt := 121) X dX7_punchAll_77 (by decide) (fun c1 => ?_) (fun c1 => ?_)
  · refine k9_iload_n X dX7_punchAll_121 rfl 1 rfl ?_
    refine k9_sub (lv' := []) [] rfl ?_
    exact (l1 c1)
  · refine k9_iload_n X dX7_punchAll_80 rfl 1 rfl ?_
    refine k9_aload_n X dX7_punchAll_81 rfl 0 rfl ?_
    refine k9_aload_n X dX7_punchAll_82 rfl 0 rfl ?_
    refine k9_gX7_14 X in_X7_punchAll_X7 fl_X7_punchAll_40 dX7_punchAll_83 ?_
    refine k9_iconst (v := 3) X dX7_punchAll_86 (by decide) ?_
    refine k9_iload_n X dX7_punchAll_87 rfl 2 rfl ?_
    refine k9_imul X dX7_punchAll_88 ?_
    refine k9_iald X (by decide) (o1 c1) (by rfl) dX7_punchAll_89 ?_
    refine k9_aload_n X dX7_punchAll_90 rfl 0 rfl ?_
    refine k9_gX7_14 X in_X7_punchAll_X7 fl_X7_punchAll_40 dX7_punchAll_91 ?_
    refine k9_iconst (v := 3) X dX7_punchAll_94 (by decide) ?_
    refine k9_iload_n X dX7_punchAll_95 rfl 2 rfl ?_
    refine k9_imul X dX7_punchAll_96 ?_
    refine k9_iconst (v := 1) X dX7_punchAll_97 (by decide) ?_
    refine k9_iadd X dX7_punchAll_98 ?_
    refine k9_iald X (by decide) (o2 c1) (by rfl) dX7_punchAll_99 ?_
    refine k9_aload_n X dX7_punchAll_100 rfl 0 rfl ?_
    refine k9_gX7_14 X in_X7_punchAll_X7 fl_X7_punchAll_40 dX7_punchAll_101 ?_
    refine k9_iconst (v := 3) X dX7_punchAll_104 (by decide) ?_
    refine k9_iload_n X dX7_punchAll_105 rfl 2 rfl ?_
    refine k9_imul X dX7_punchAll_106 ?_
    refine k9_iconst (v := 2) X dX7_punchAll_107 (by decide) ?_
    refine k9_iadd X dX7_punchAll_108 ?_
    refine k9_iald X (by decide) (o3 c1) (by rfl) dX7_punchAll_109 ?_
    refine k9_callVi3 X (k1 c1) k9_ob_76 (cwV 3 X.2.2.2.2.1 gX7_punchAll_X7_punchChain rfl rfl rfl (by decide +kernel) ⟨Nat.le_of_ble_eq_true rfl, Nat.le_of_ble_eq_true rfl⟩) (Nat.le_of_ble_eq_true rfl) dX7_punchAll_110 ⟨Nat.zero_le _, Nat.zero_le _⟩ ?_
    refine k9_iadd X dX7_punchAll_113 ?_
    refine k9_istore_n (lv' := [(0, .ref (k9_ga G 76)), (2, .int (x2 + rv1)), (3, .int x3)]) X dX7_punchAll_114 rfl (by decide) [1, 0, 2] rfl ?_
    refine k9_iinc (v := x3 + (1 : Int32)) (lv' := [(0, .ref (k9_ga G 76)), (2, .int (x2 + rv1)), (3, .int (x3 + (1 : Int32)))]) X dX7_punchAll_115 (k := 2) rfl (by rfl) (by decide) [1, 2, 0] rfl ?_
    refine k9_goto (tgt := 72) X dX7_punchAll_118 (by decide) ?_
    exact (l2 c1)

theorem in_X7_undo_X7 : ∀ w ∈ u_ws RX7 TX7 19, w ∈ wsX7_undo := by decide +kernel
theorem fl_X7_undo_50 : Cond.fieldLink RX7 50 (TX7 1).1 (TX7 1).2.1 (TX7 1).2.2.1 ∈ wsX7_undo := by decide +kernel
theorem fl_X7_undo_46 : Cond.fieldLink RX7 46 (TX7 5).1 (TX7 5).2.1 (TX7 5).2.2.1 ∈ wsX7_undo := by decide +kernel
theorem fl_X7_undo_7 : Cond.fieldLink RX7 7 (TX7 0).1 (TX7 0).2.1 (TX7 0).2.2.1 ∈ wsX7_undo := by decide +kernel
theorem fl_X7_undo_13 : Cond.fieldLink RX7 13 (TX7 2).1 (TX7 2).2.1 (TX7 2).2.2.1 ∈ wsX7_undo := by decide +kernel
set_option maxRecDepth 20000 in
theorem bk_X7_undo_0 (X : k9_X p R s m args c A G 2 cX7_undo wsX7_undo RX7 rm_X7_undo) 
    (l1 : ((M 76 1) ≤ 0) → k9_U p l e R s m args below meth c Q A G 2 0 0 (k9_st M 76 5 (1 : Int32)) 24 [] [.int (0 : Int32)])
    (l2 : (¬ ((M 76 1) ≤ 0)) → k9_U p l e R s m args below meth c Q A G 2 0 0 (k9_st (k9_st M 76 5 (0 : Int32)) 76 1 ((M 76 1) - (1 : Int32))) 37 [(0, .ref (k9_ga G 76)), (1, .int (0 : Int32))] []) : k9_U p l e R s m args below meth c Q A G 2 0 0 M 0 [(0, .ref (k9_ga G 76))] [] := by
  refine k9_aload_n X dX7_undo_0 rfl 0 rfl ?_
  refine k9_aload_n X dX7_undo_1 rfl 0 rfl ?_
  refine k9_gX7_1 X (by rfl) in_X7_undo_X7 fl_X7_undo_50 dX7_undo_2 ?_
  refine k9_if_le (tgt := 12) X dX7_undo_5 (by decide) (fun c1 => ?_) (fun c1 => ?_)
  · refine k9_iconst (v := 1) X dX7_undo_12 (by decide) ?_
    refine k9_pX7_5 X in_X7_undo_X7 fl_X7_undo_46 dX7_undo_13 ?_
    refine k9_aload_n X dX7_undo_16 rfl 0 rfl ?_
    refine k9_gX7_5 (v := (1 : Int32)) X (by rfl) in_X7_undo_X7 fl_X7_undo_46 dX7_undo_17 ?_
    refine k9_if_le (tgt := 25) X dX7_undo_20 (by decide) (fun c => absurd c (by decide)) (fun _ => ?_)
    refine k9_iconst (v := 0) X dX7_undo_23 (by decide) ?_
    refine k9_sub (lv' := []) [] rfl ?_
    exact (l1 c1)
  · refine k9_iconst (v := 0) X dX7_undo_8 (by decide) ?_
    refine k9_goto (tgt := 13) X dX7_undo_9 (by decide) ?_
    refine k9_pX7_5 X in_X7_undo_X7 fl_X7_undo_46 dX7_undo_13 ?_
    refine k9_aload_n X dX7_undo_16 rfl 0 rfl ?_
    refine k9_gX7_5 (v := (0 : Int32)) X (by rfl) in_X7_undo_X7 fl_X7_undo_46 dX7_undo_17 ?_
    refine k9_if_le (tgt := 25) X dX7_undo_20 (by decide) (fun _ => ?_) (fun c => absurd c (by decide))
    refine k9_aload_n X dX7_undo_25 rfl 0 rfl ?_
    refine k9_dup X dX7_undo_26 rfl ?_
    refine k9_gX7_1 (v := (M 76 1)) X (by rfl) in_X7_undo_X7 fl_X7_undo_50 dX7_undo_27 ?_
    refine k9_iconst (v := 1) X dX7_undo_30 (by decide) ?_
    refine k9_isub X dX7_undo_31 ?_
    refine k9_pX7_1 X in_X7_undo_X7 fl_X7_undo_50 dX7_undo_32 ?_
    refine k9_iconst (v := 0) X dX7_undo_35 (by decide) ?_
    refine k9_istore_n (lv' := [(0, .ref (k9_ga G 76)), (1, .int (0 : Int32))]) X dX7_undo_36 rfl (by decide) [1, 0] rfl ?_
    exact (l2 c1)

set_option maxRecDepth 20000 in
theorem bk_X7_undo_37 (X : k9_X p R s m args c A G 2 cX7_undo wsX7_undo RX7 rm_X7_undo) {x1 : Int32}
    (l1 : ((578 : Int32) ≤ x1) → k9_U p l e R s m args below meth c Q A G 2 0 0 M 75 [] [.int (M 76 1)])
    (o1 : (¬ ((578 : Int32) ≤ x1)) → vp_in (((578 : Int32) * (M 76 1)) + x1) 3468)
    (o2 : (¬ ((578 : Int32) ≤ x1)) → vp_in x1 578)
    (l2 : (¬ ((578 : Int32) ≤ x1)) → k9_U p l e R s m args below meth c Q A G 2 0 0 (k9_st M 77 x1.toNatClampNeg (M 78 (((578 : Int32) * (M 76 1)) + x1).toNatClampNeg)) 37 [(0, .ref (k9_ga G 76)), (1, .int (x1 + (1 : Int32)))] []) : k9_U p l e R s m args below meth c Q A G 2 0 0 M 37 [(0, .ref (k9_ga G 76)), (1, .int x1)] [] := by
  refine k9_iload_n X dX7_undo_37 rfl 1 rfl ?_
  refine k9_sipush (v := 578) X dX7_undo_38 (by decide) ?_
  refine k9_icmp_ge (tgt := 71) X dX7_undo_41 (by decide) (fun c1 => ?_) (fun c1 => ?_)
  · refine k9_aload_n X dX7_undo_71 rfl 0 rfl ?_
    refine k9_gX7_1 X (by rfl) in_X7_undo_X7 fl_X7_undo_50 dX7_undo_72 ?_
    refine k9_sub (lv' := []) [] rfl ?_
    exact (l1 c1)
  · refine k9_aload_n X dX7_undo_44 rfl 0 rfl ?_
    refine k9_gX7_0 X in_X7_undo_X7 fl_X7_undo_7 dX7_undo_45 ?_
    refine k9_iload_n X dX7_undo_48 rfl 1 rfl ?_
    refine k9_aload_n X dX7_undo_49 rfl 0 rfl ?_
    refine k9_gX7_2 X in_X7_undo_X7 fl_X7_undo_13 dX7_undo_50 ?_
    refine k9_sipush (v := 578) X dX7_undo_53 (by decide) ?_
    refine k9_aload_n X dX7_undo_56 rfl 0 rfl ?_
    refine k9_gX7_1 X (by rfl) in_X7_undo_X7 fl_X7_undo_50 dX7_undo_57 ?_
    refine k9_imul X dX7_undo_60 ?_
    refine k9_iload_n X dX7_undo_61 rfl 1 rfl ?_
    refine k9_iadd X dX7_undo_62 ?_
    refine k9_iald X (by decide) (o1 c1) (by rfl) dX7_undo_63 ?_
    refine k9_iast X (by decide) (o2 c1) dX7_undo_64 ?_
    refine k9_iinc (v := x1 + (1 : Int32)) (lv' := [(0, .ref (k9_ga G 76)), (1, .int (x1 + (1 : Int32)))]) X dX7_undo_65 (k := 1) rfl (by rfl) (by decide) [1, 0] rfl ?_
    refine k9_goto (tgt := 37) X dX7_undo_68 (by decide) ?_
    exact (l2 c1)

set_option maxRecDepth 20000 in
theorem bk_X7_readFor_0 (X : k9_X p R s m args c A G 4 cX7_readFor wsX7_readFor RX7 rm_X7_readFor) {a0 a1 : Int32} {rv1 : Int32} {rv2 : Int32}
    (k1 : k9_Ci l yX7_aside wsX7_aside rm_X7_aside G M [.ref (k9_ga G 76), .int a0] rv1 M)
    (k2 : (¬ ((a1 - (3 : Int32)) - rv1) = (-1 : Int32)) → k9_Ci l yX7_within wsX7_within rm_X7_within G M [.int ((a1 - (3 : Int32)) - rv1), .int (0 : Int32), .int (19 : Int32)] rv2 M)
    (l1 : (¬ ((a1 - (3 : Int32)) - rv1) = (-1 : Int32)) → (rv2 = 0) → k9_U p l e R s m args below meth c Q A G 4 0 0 M 35 [] [.int (-1 : Int32)])
    (l2 : (¬ ((a1 - (3 : Int32)) - rv1) = (-1 : Int32)) → (¬ (rv2 = 0)) → k9_U p l e R s m args below meth c Q A G 4 0 0 M 35 [] [.int ((a1 - (3 : Int32)) - rv1)])
    (l3 : (((a1 - (3 : Int32)) - rv1) = (-1 : Int32)) → k9_U p l e R s m args below meth c Q A G 4 0 0 M 35 [] [.int (-2 : Int32)]) : k9_U p l e R s m args below meth c Q A G 4 0 0 M 0 [(0, .ref (k9_ga G 76)), (1, .int a0), (2, .int a1)] [] := by
  refine k9_iload_n X dX7_readFor_0 rfl 2 rfl ?_
  refine k9_iconst (v := 3) X dX7_readFor_1 (by decide) ?_
  refine k9_isub X dX7_readFor_2 ?_
  refine k9_aload_n X dX7_readFor_3 rfl 0 rfl ?_
  refine k9_iload_n X dX7_readFor_4 rfl 1 rfl ?_
  refine k9_callVi1 X k1 k9_ob_76 (cwV 1 X.2.2.2.2.1 gX7_readFor_X7_aside rfl rfl rfl (by decide +kernel) ⟨Nat.le_of_ble_eq_true rfl, Nat.le_of_ble_eq_true rfl⟩) (Nat.le_of_ble_eq_true rfl) dX7_readFor_5 ⟨Nat.zero_le _, Nat.zero_le _⟩ ?_
  refine k9_isub X dX7_readFor_8 ?_
  refine k9_istore_n (lv' := [(0, .ref (k9_ga G 76)), (1, .int a0), (2, .int a1), (3, .int ((a1 - (3 : Int32)) - rv1))]) X dX7_readFor_9 rfl (by decide) [1, 2, 3, 0] rfl ?_
  refine k9_iload_n X dX7_readFor_10 rfl 3 rfl ?_
  refine k9_iconst (v := -1) X dX7_readFor_11 (by decide) ?_
  refine k9_icmp_ne (tgt := 20) X dX7_readFor_12 (by decide) (fun c1 => ?_) (fun c1 => ?_)
  · refine k9_iload_n X dX7_readFor_20 rfl 3 rfl ?_
    refine k9_iconst (v := 0) X dX7_readFor_21 (by decide) ?_
    refine k9_bipush (v := 19) X dX7_readFor_22 (by decide) ?_
    refine k9_callSi3 X (k2 c1)  (va_cwS 3 X.2.2.2.2.1 gX7_readFor_X7_within rfl rfl rfl (by decide +kernel) ⟨Nat.le_of_ble_eq_true rfl, Nat.le_of_ble_eq_true rfl⟩) (Nat.le_of_ble_eq_true rfl) dX7_readFor_24 ⟨Nat.zero_le _, Nat.zero_le _⟩ ?_
    refine k9_if_eq (tgt := 34) X dX7_readFor_27 (by decide) (fun c2 => ?_) (fun c2 => ?_)
    · refine k9_iconst (v := -1) X dX7_readFor_34 (by decide) ?_
      refine k9_sub (lv' := []) [] rfl ?_
      exact (l1 c1 c2)
    · refine k9_iload_n X dX7_readFor_30 rfl 3 rfl ?_
      refine k9_goto (tgt := 35) X dX7_readFor_31 (by decide) ?_
      refine k9_sub (lv' := []) [] rfl ?_
      exact (l2 c1 c2)
  · refine k9_bipush (v := -2) X dX7_readFor_15 (by decide) ?_
    refine k9_goto (tgt := 35) X dX7_readFor_17 (by decide) ?_
    refine k9_sub (lv' := []) [] rfl ?_
    exact (l3 c1)

theorem in_X7_place_X7 : ∀ w ∈ u_ws RX7 TX7 19, w ∈ wsX7_place := by decide +kernel
theorem fl_X7_place_46 : Cond.fieldLink RX7 46 (TX7 5).1 (TX7 5).2.1 (TX7 5).2.2.1 ∈ wsX7_place := by decide +kernel
theorem fl_X7_place_7 : Cond.fieldLink RX7 7 (TX7 0).1 (TX7 0).2.1 (TX7 0).2.2.1 ∈ wsX7_place := by decide +kernel
set_option maxRecDepth 20000 in
theorem bk_X7_place_0 (X : k9_X p R s m args c A G 4 cX7_place wsX7_place RX7 rm_X7_place) {a0 a1 a2 : Int32} {rv1 : Int32} {rv2 : Int32} {rv3 : Int32} {rv4 : Int32}
    (k1 : k9_Ci l yX7_isStep wsX7_isStep rm_X7_isStep G M [.int a0] rv1 M)
    (l1 : (rv1 = 0) → k9_U p l e R s m args below meth c Q A G 4 0 0 (k9_st M 76 5 (1 : Int32)) 44 [] [.int (0 : Int32)])
    (k2 : (¬ (rv1 = 0)) → k9_Ci l yX7_isTrack wsX7_isTrack rm_X7_isTrack G M [.int a1] rv2 M)
    (k3 : (¬ (rv1 = 0)) → (¬ rv2 = 0) → k9_Ci l yX7_within wsX7_within rm_X7_within G M [.int a2, .int (0 : Int32), .int (2 : Int32)] rv3 M)
    (l2 : (¬ (rv1 = 0)) → (¬ rv2 = 0) → (rv3 = 0) → k9_U p l e R s m args below meth c Q A G 4 0 0 (k9_st M 76 5 (2 : Int32)) 44 [] [.int (0 : Int32)])
    (k4 : (¬ (rv1 = 0)) → (¬ rv2 = 0) → (¬ (rv3 = 0)) → (¬ a2 = 0) → (¬ a2 = (1 : Int32)) → k9_Ci l yX7_readFor wsX7_readFor rm_X7_readFor G (k9_st M 76 5 (0 : Int32)) [.ref (k9_ga G 76), .int a0, .int a1] rv4 (k9_st M 76 5 (0 : Int32)))
    (l3 : (¬ (rv1 = 0)) → (¬ rv2 = 0) → (¬ (rv3 = 0)) → (¬ a2 = 0) → (¬ a2 = (1 : Int32)) → k9_U p l e R s m args below meth c Q A G 4 0 0 (k9_st M 76 5 (0 : Int32)) 91 [] [.int rv4])
    (o1 : (¬ (rv1 = 0)) → (¬ rv2 = 0) → (¬ (rv3 = 0)) → (¬ a2 = 0) → (a2 = (1 : Int32)) → vp_in ((96 : Int32) + a0) 578)
    (l4 : (¬ (rv1 = 0)) → (¬ rv2 = 0) → (¬ (rv3 = 0)) → (¬ a2 = 0) → (a2 = (1 : Int32)) → k9_U p l e R s m args below meth c Q A G 4 0 0 (k9_st M 76 5 (0 : Int32)) 91 [] [.int (((M 77 ((96 : Int32) + a0).toNatClampNeg) >>> (a1 &&& 31)) &&& (1 : Int32))])
    (o2 : (¬ (rv1 = 0)) → (¬ rv2 = 0) → (¬ (rv3 = 0)) → (a2 = 0) → vp_in ((0 : Int32) + a0) 578)
    (l5 : (¬ (rv1 = 0)) → (¬ rv2 = 0) → (¬ (rv3 = 0)) → (a2 = 0) → k9_U p l e R s m args below meth c Q A G 4 0 0 (k9_st M 76 5 (0 : Int32)) 91 [] [.int (((M 77 ((0 : Int32) + a0).toNatClampNeg) >>> (a1 &&& 31)) &&& (1 : Int32))])
    (l6 : (¬ (rv1 = 0)) → (rv2 = 0) → k9_U p l e R s m args below meth c Q A G 4 0 0 (k9_st M 76 5 (1 : Int32)) 44 [] [.int (0 : Int32)]) : k9_U p l e R s m args below meth c Q A G 4 0 0 M 0 [(0, .ref (k9_ga G 76)), (1, .int a0), (2, .int a1), (3, .int a2)] [] := by
  refine k9_aload_n X dX7_place_0 rfl 0 rfl ?_
  refine k9_iload_n X dX7_place_1 rfl 1 rfl ?_
  refine k9_callSi1 X k1  (va_cwS 1 X.2.2.2.2.1 gX7_place_X7_isStep rfl rfl rfl (by decide +kernel) ⟨Nat.le_of_ble_eq_true rfl, Nat.le_of_ble_eq_true rfl⟩) (Nat.le_of_ble_eq_true rfl) dX7_place_2 ⟨Nat.zero_le _, Nat.zero_le _⟩ ?_
  refine k9_if_eq (tgt := 15) X dX7_place_5 (by decide) (fun c1 => ?_) (fun c1 => ?_)
  · refine k9_iconst (v := 1) X dX7_place_15 (by decide) ?_
    refine k9_goto (tgt := 33) X dX7_place_16 (by decide) ?_
    refine k9_pX7_5 X in_X7_place_X7 fl_X7_place_46 dX7_place_33 ?_
    refine k9_aload_n X dX7_place_36 rfl 0 rfl ?_
    refine k9_gX7_5 (v := (1 : Int32)) X (by rfl) in_X7_place_X7 fl_X7_place_46 dX7_place_37 ?_
    refine k9_if_le (tgt := 45) X dX7_place_40 (by decide) (fun c => absurd c (by decide)) (fun _ => ?_)
    refine k9_iconst (v := 0) X dX7_place_43 (by decide) ?_
    refine k9_sub (lv' := []) [] rfl ?_
    exact (l1 c1)
  · refine k9_iload_n X dX7_place_8 rfl 2 rfl ?_
    refine k9_callSi1 X (k2 c1)  (va_cwS 1 X.2.2.2.2.1 gX7_place_X7_isTrack rfl rfl rfl (by decide +kernel) ⟨Nat.le_of_ble_eq_true rfl, Nat.le_of_ble_eq_true rfl⟩) (Nat.le_of_ble_eq_true rfl) dX7_place_9 ⟨Nat.zero_le _, Nat.zero_le _⟩ ?_
    refine k9_if_ne (tgt := 19) X dX7_place_12 (by decide) (fun c2 => ?_) (fun c2 => ?_)
    · refine k9_iload_n X dX7_place_19 rfl 3 rfl ?_
      refine k9_iconst (v := 0) X dX7_place_20 (by decide) ?_
      refine k9_iconst (v := 2) X dX7_place_21 (by decide) ?_
      refine k9_callSi3 X (k3 c1 c2)  (va_cwS 3 X.2.2.2.2.1 gX7_place_X7_within rfl rfl rfl (by decide +kernel) ⟨Nat.le_of_ble_eq_true rfl, Nat.le_of_ble_eq_true rfl⟩) (Nat.le_of_ble_eq_true rfl) dX7_place_22 ⟨Nat.zero_le _, Nat.zero_le _⟩ ?_
      refine k9_if_eq (tgt := 32) X dX7_place_25 (by decide) (fun c3 => ?_) (fun c3 => ?_)
      · refine k9_iconst (v := 2) X dX7_place_32 (by decide) ?_
        refine k9_pX7_5 X in_X7_place_X7 fl_X7_place_46 dX7_place_33 ?_
        refine k9_aload_n X dX7_place_36 rfl 0 rfl ?_
        refine k9_gX7_5 (v := (2 : Int32)) X (by rfl) in_X7_place_X7 fl_X7_place_46 dX7_place_37 ?_
        refine k9_if_le (tgt := 45) X dX7_place_40 (by decide) (fun c => absurd c (by decide)) (fun _ => ?_)
        refine k9_iconst (v := 0) X dX7_place_43 (by decide) ?_
        refine k9_sub (lv' := []) [] rfl ?_
        exact (l2 c1 c2 c3)
      · refine k9_iconst (v := 0) X dX7_place_28 (by decide) ?_
        refine k9_goto (tgt := 33) X dX7_place_29 (by decide) ?_
        refine k9_pX7_5 X in_X7_place_X7 fl_X7_place_46 dX7_place_33 ?_
        refine k9_aload_n X dX7_place_36 rfl 0 rfl ?_
        refine k9_gX7_5 (v := (0 : Int32)) X (by rfl) in_X7_place_X7 fl_X7_place_46 dX7_place_37 ?_
        refine k9_if_le (tgt := 45) X dX7_place_40 (by decide) (fun _ => ?_) (fun c => absurd c (by decide))
        refine k9_iload_n X dX7_place_45 rfl 3 rfl ?_
        refine k9_if_ne (tgt := 64) X dX7_place_46 (by decide) (fun c4 => ?_) (fun c4 => ?_)
        · refine k9_iload_n X dX7_place_64 rfl 3 rfl ?_
          refine k9_iconst (v := 1) X dX7_place_65 (by decide) ?_
          refine k9_icmp_ne (tgt := 85) X dX7_place_66 (by decide) (fun c5 => ?_) (fun c5 => ?_)
          · refine k9_aload_n X dX7_place_85 rfl 0 rfl ?_
            refine k9_iload_n X dX7_place_86 rfl 1 rfl ?_
            refine k9_iload_n X dX7_place_87 rfl 2 rfl ?_
            refine k9_callVi2 X (k4 c1 c2 c3 c4 c5) k9_ob_76 (cwV 2 X.2.2.2.2.1 gX7_place_X7_readFor rfl rfl rfl (by decide +kernel) ⟨Nat.le_of_ble_eq_true rfl, Nat.le_of_ble_eq_true rfl⟩) (Nat.le_of_ble_eq_true rfl) dX7_place_88 ⟨Nat.zero_le _, Nat.zero_le _⟩ ?_
            refine k9_sub (lv' := []) [] rfl ?_
            exact (l3 c1 c2 c3 c4 c5)
          · refine k9_aload_n X dX7_place_69 rfl 0 rfl ?_
            refine k9_gX7_0 X in_X7_place_X7 fl_X7_place_7 dX7_place_70 ?_
            refine k9_bipush (v := 96) X dX7_place_73 (by decide) ?_
            refine k9_iload_n X dX7_place_75 rfl 1 rfl ?_
            refine k9_iadd X dX7_place_76 ?_
            refine k9_iald (v := (M 77 ((96 : Int32) + a0).toNatClampNeg)) X (by decide) (o1 c1 c2 c3 c4 c5) (by rfl) dX7_place_77 ?_
            refine k9_iload_n X dX7_place_78 rfl 2 rfl ?_
            refine k9_ishr X dX7_place_79 ?_
            refine k9_iconst (v := 1) X dX7_place_80 (by decide) ?_
            refine k9_iand X dX7_place_81 ?_
            refine k9_goto (tgt := 91) X dX7_place_82 (by decide) ?_
            refine k9_sub (lv' := []) [] rfl ?_
            exact (l4 c1 c2 c3 c4 c5)
        · refine k9_aload_n X dX7_place_49 rfl 0 rfl ?_
          refine k9_gX7_0 X in_X7_place_X7 fl_X7_place_7 dX7_place_50 ?_
          refine k9_iconst (v := 0) X dX7_place_53 (by decide) ?_
          refine k9_iload_n X dX7_place_54 rfl 1 rfl ?_
          refine k9_iadd X dX7_place_55 ?_
          refine k9_iald (v := (M 77 ((0 : Int32) + a0).toNatClampNeg)) X (by decide) (o2 c1 c2 c3 c4) (by rfl) dX7_place_56 ?_
          refine k9_iload_n X dX7_place_57 rfl 2 rfl ?_
          refine k9_ishr X dX7_place_58 ?_
          refine k9_iconst (v := 1) X dX7_place_59 (by decide) ?_
          refine k9_iand X dX7_place_60 ?_
          refine k9_goto (tgt := 91) X dX7_place_61 (by decide) ?_
          refine k9_sub (lv' := []) [] rfl ?_
          exact (l5 c1 c2 c3 c4)
    · refine k9_iconst (v := 1) X dX7_place_15 (by decide) ?_
      refine k9_goto (tgt := 33) X dX7_place_16 (by decide) ?_
      refine k9_pX7_5 X in_X7_place_X7 fl_X7_place_46 dX7_place_33 ?_
      refine k9_aload_n X dX7_place_36 rfl 0 rfl ?_
      refine k9_gX7_5 (v := (1 : Int32)) X (by rfl) in_X7_place_X7 fl_X7_place_46 dX7_place_37 ?_
      refine k9_if_le (tgt := 45) X dX7_place_40 (by decide) (fun c => absurd c (by decide)) (fun _ => ?_)
      refine k9_iconst (v := 0) X dX7_place_43 (by decide) ?_
      refine k9_sub (lv' := []) [] rfl ?_
      exact (l6 c1 c2)

theorem in_X7_isDown_X7 : ∀ w ∈ u_ws RX7 TX7 19, w ∈ wsX7_isDown := by decide +kernel
theorem fl_X7_isDown_28 : Cond.fieldLink RX7 28 (TX7 9).1 (TX7 9).2.1 (TX7 9).2.2.1 ∈ wsX7_isDown := by decide +kernel
set_option maxRecDepth 20000 in
theorem bk_X7_isDown_0 (X : k9_X p R s m args c A G 2 cX7_isDown wsX7_isDown RX7 rm_X7_isDown) {a0 : Int32}
    (o1 : vp_in a0 96)
    (l1 : (¬ (((M 83 a0.toNatClampNeg) >>> ((20 : Int32) &&& 31)) &&& (1 : Int32)) = (1 : Int32)) → k9_U p l e R s m args below meth c Q A G 2 0 0 M 20 [] [.int (0 : Int32)])
    (l2 : ((((M 83 a0.toNatClampNeg) >>> ((20 : Int32) &&& 31)) &&& (1 : Int32)) = (1 : Int32)) → k9_U p l e R s m args below meth c Q A G 2 0 0 M 20 [] [.int (1 : Int32)]) : k9_U p l e R s m args below meth c Q A G 2 0 0 M 0 [(0, .ref (k9_ga G 76)), (1, .int a0)] [] := by
  refine k9_aload_n X dX7_isDown_0 rfl 0 rfl ?_
  refine k9_gX7_9 X in_X7_isDown_X7 fl_X7_isDown_28 dX7_isDown_1 ?_
  refine k9_iload_n X dX7_isDown_4 rfl 1 rfl ?_
  refine k9_iald X (by decide) o1 (by rfl) dX7_isDown_5 ?_
  refine k9_bipush (v := 20) X dX7_isDown_6 (by decide) ?_
  refine k9_ishr X dX7_isDown_8 ?_
  refine k9_iconst (v := 1) X dX7_isDown_9 (by decide) ?_
  refine k9_iand X dX7_isDown_10 ?_
  refine k9_iconst (v := 1) X dX7_isDown_11 (by decide) ?_
  refine k9_icmp_ne (tgt := 19) X dX7_isDown_12 (by decide) (fun c1 => ?_) (fun c1 => ?_)
  · refine k9_iconst (v := 0) X dX7_isDown_19 (by decide) ?_
    refine k9_sub (lv' := []) [] rfl ?_
    exact (l1 c1)
  · refine k9_iconst (v := 1) X dX7_isDown_15 (by decide) ?_
    refine k9_goto (tgt := 20) X dX7_isDown_16 (by decide) ?_
    refine k9_sub (lv' := []) [] rfl ?_
    exact (l2 c1)

theorem in_X7_soundsTo_X7 : ∀ w ∈ u_ws RX7 TX7 19, w ∈ wsX7_soundsTo := by decide +kernel
theorem fl_X7_soundsTo_37 : Cond.fieldLink RX7 37 (TX7 12).1 (TX7 12).2.1 (TX7 12).2.2.1 ∈ wsX7_soundsTo := by decide +kernel
theorem fl_X7_soundsTo_25 : Cond.fieldLink RX7 25 (TX7 8).1 (TX7 8).2.1 (TX7 8).2.2.1 ∈ wsX7_soundsTo := by decide +kernel
theorem fl_X7_soundsTo_22 : Cond.fieldLink RX7 22 (TX7 7).1 (TX7 7).2.1 (TX7 7).2.2.1 ∈ wsX7_soundsTo := by decide +kernel
theorem fl_X7_soundsTo_31 : Cond.fieldLink RX7 31 (TX7 10).1 (TX7 10).2.1 (TX7 10).2.2.1 ∈ wsX7_soundsTo := by decide +kernel
set_option maxRecDepth 20000 in
theorem bk_X7_soundsTo_0 (X : k9_X p R s m args c A G 5 cX7_soundsTo wsX7_soundsTo RX7 rm_X7_soundsTo) {a0 : Int32} {rv1 : Int32} {rv2 : Int32}
    (o1 : vp_in a0 960)
    (k1 : k9_Ci l yX7_isDown wsX7_isDown rm_X7_isDown G M [.ref (k9_ga G 76), .int (M 86 a0.toNatClampNeg)] rv1 M)
    (k2 : (¬ rv1 = 0) → k9_Ci l yX7_endFrom wsX7_endFrom rm_X7_endFrom G M [.ref (k9_ga G 82), .int (20 : Int32), .int (M 86 a0.toNatClampNeg)] rv2 M)
    (l1 : (¬ rv1 = 0) → k9_U p l e R s m args below meth c Q A G 5 0 0 M 33 [(0, .ref (k9_ga G 76)), (1, .int a0), (3, .int rv2), (4, .int ((M 86 a0.toNatClampNeg) + (1 : Int32)))] [])
    (l2 : (rv1 = 0) → k9_U p l e R s m args below meth c Q A G 5 0 0 M 16 [] [.int (M 86 a0.toNatClampNeg)]) : k9_U p l e R s m args below meth c Q A G 5 0 0 M 0 [(0, .ref (k9_ga G 76)), (1, .int a0)] [] := by
  refine k9_aload_n X dX7_soundsTo_0 rfl 0 rfl ?_
  refine k9_gX7_12 X in_X7_soundsTo_X7 fl_X7_soundsTo_37 dX7_soundsTo_1 ?_
  refine k9_iload_n X dX7_soundsTo_4 rfl 1 rfl ?_
  refine k9_iald X (by decide) o1 (by rfl) dX7_soundsTo_5 ?_
  refine k9_istore_n (lv' := [(0, .ref (k9_ga G 76)), (1, .int a0), (2, .int (M 86 a0.toNatClampNeg))]) X dX7_soundsTo_6 rfl (by decide) [1, 2, 0] rfl ?_
  refine k9_aload_n X dX7_soundsTo_7 rfl 0 rfl ?_
  refine k9_iload_n X dX7_soundsTo_8 rfl 2 rfl ?_
  refine k9_callVi1 X k1 k9_ob_76 (cwV 1 X.2.2.2.2.1 gX7_soundsTo_X7_isDown rfl rfl rfl (by decide +kernel) ⟨Nat.le_of_ble_eq_true rfl, Nat.le_of_ble_eq_true rfl⟩) (Nat.le_of_ble_eq_true rfl) dX7_soundsTo_9 ⟨Nat.zero_le _, Nat.zero_le _⟩ ?_
  refine k9_if_ne (tgt := 17) X dX7_soundsTo_12 (by decide) (fun c1 => ?_) (fun c1 => ?_)
  · refine k9_aload_n X dX7_soundsTo_17 rfl 0 rfl ?_
    refine k9_gX7_8 X in_X7_soundsTo_X7 fl_X7_soundsTo_25 dX7_soundsTo_18 ?_
    refine k9_bipush (v := 20) X dX7_soundsTo_21 (by decide) ?_
    refine k9_iload_n X dX7_soundsTo_23 rfl 2 rfl ?_
    refine k9_callSi3 X (k2 c1)  (va_cwS 3 X.2.2.2.2.1 gX7_soundsTo_X7_endFrom rfl rfl rfl (by decide +kernel) ⟨Nat.le_of_ble_eq_true rfl, Nat.le_of_ble_eq_true rfl⟩) (Nat.le_of_ble_eq_true rfl) dX7_soundsTo_24 ⟨Nat.zero_le _, Nat.zero_le _⟩ ?_
    refine k9_istore_n (lv' := [(0, .ref (k9_ga G 76)), (1, .int a0), (2, .int (M 86 a0.toNatClampNeg)), (3, .int rv2)]) X dX7_soundsTo_27 rfl (by decide) [1, 2, 3, 0] rfl ?_
    refine k9_iload_n X dX7_soundsTo_28 rfl 2 rfl ?_
    refine k9_iconst (v := 1) X dX7_soundsTo_29 (by decide) ?_
    refine k9_iadd X dX7_soundsTo_30 ?_
    refine k9_istore (lv' := [(0, .ref (k9_ga G 76)), (1, .int a0), (2, .int (M 86 a0.toNatClampNeg)), (3, .int rv2), (4, .int ((M 86 a0.toNatClampNeg) + (1 : Int32)))]) X dX7_soundsTo_31 (by decide) [1, 2, 3, 4, 0] rfl ?_
    refine k9_sub (lv' := [(0, .ref (k9_ga G 76)), (1, .int a0), (3, .int rv2), (4, .int ((M 86 a0.toNatClampNeg) + (1 : Int32)))]) [0, 1, 3, 4] rfl ?_
    exact (l1 c1)
  · refine k9_iload_n X dX7_soundsTo_15 rfl 2 rfl ?_
    refine k9_sub (lv' := []) [] rfl ?_
    exact (l2 c1)

set_option maxRecDepth 20000 in
theorem bk_X7_soundsTo_33 (X : k9_X p R s m args c A G 5 cX7_soundsTo wsX7_soundsTo RX7 rm_X7_soundsTo) {x1 x3 x4 : Int32}
    (l1 : (x3 < x4) → k9_U p l e R s m args below meth c Q A G 5 0 0 M 71 [] [.int x3])
    (o1 : (¬ (x3 < x4)) → vp_in x4 96)
    (o2 : (¬ (x3 < x4)) → vp_in x1 960)
    (l2 : (¬ (x3 < x4)) → (¬ (((M 81 x4.toNatClampNeg) >>> ((M 84 x1.toNatClampNeg) &&& 31)) &&& (1 : Int32)) = (1 : Int32)) → k9_U p l e R s m args below meth c Q A G 5 0 0 M 33 [(0, .ref (k9_ga G 76)), (1, .int x1), (3, .int x3), (4, .int (x4 + (1 : Int32)))] [])
    (l3 : (¬ (x3 < x4)) → ((((M 81 x4.toNatClampNeg) >>> ((M 84 x1.toNatClampNeg) &&& 31)) &&& (1 : Int32)) = (1 : Int32)) → k9_U p l e R s m args below meth c Q A G 5 0 0 M 63 [] [.int (x4 - (1 : Int32))]) : k9_U p l e R s m args below meth c Q A G 5 0 0 M 33 [(0, .ref (k9_ga G 76)), (1, .int x1), (3, .int x3), (4, .int x4)] [] := by
  refine k9_iload X dX7_soundsTo_33 3 rfl ?_
  refine k9_iload_n X dX7_soundsTo_35 rfl 2 rfl ?_
  refine k9_icmp_gt (tgt := 70) X dX7_soundsTo_36 (by decide) (fun c1 => ?_) (fun c1 => ?_)
  · refine k9_iload_n X dX7_soundsTo_70 rfl 2 rfl ?_
    refine k9_sub (lv' := []) [] rfl ?_
    exact (l1 c1)
  · refine k9_aload_n X dX7_soundsTo_39 rfl 0 rfl ?_
    refine k9_gX7_7 X in_X7_soundsTo_X7 fl_X7_soundsTo_22 dX7_soundsTo_40 ?_
    refine k9_iload X dX7_soundsTo_43 3 rfl ?_
    refine k9_iald X (by decide) (o1 c1) (by rfl) dX7_soundsTo_45 ?_
    refine k9_aload_n X dX7_soundsTo_46 rfl 0 rfl ?_
    refine k9_gX7_10 X in_X7_soundsTo_X7 fl_X7_soundsTo_31 dX7_soundsTo_47 ?_
    refine k9_iload_n X dX7_soundsTo_50 rfl 1 rfl ?_
    refine k9_iald X (by decide) (o2 c1) (by rfl) dX7_soundsTo_51 ?_
    refine k9_ishr X dX7_soundsTo_52 ?_
    refine k9_iconst (v := 1) X dX7_soundsTo_53 (by decide) ?_
    refine k9_iand X dX7_soundsTo_54 ?_
    refine k9_iconst (v := 1) X dX7_soundsTo_55 (by decide) ?_
    refine k9_icmp_ne (tgt := 64) X dX7_soundsTo_56 (by decide) (fun c2 => ?_) (fun c2 => ?_)
    · refine k9_iinc (v := x4 + (1 : Int32)) (lv' := [(0, .ref (k9_ga G 76)), (1, .int x1), (3, .int x3), (4, .int (x4 + (1 : Int32)))]) X dX7_soundsTo_64 (k := 3) rfl (by rfl) (by decide) [1, 2, 3, 0] rfl ?_
      refine k9_goto (tgt := 33) X dX7_soundsTo_67 (by decide) ?_
      exact (l2 c1 c2)
    · refine k9_iload X dX7_soundsTo_59 3 rfl ?_
      refine k9_iconst (v := 1) X dX7_soundsTo_61 (by decide) ?_
      refine k9_isub X dX7_soundsTo_62 ?_
      refine k9_sub (lv' := []) [] rfl ?_
      exact (l3 c1 c2)

theorem in_X7_soundAt_X7 : ∀ w ∈ u_ws RX7 TX7 19, w ∈ wsX7_soundAt := by decide +kernel
theorem fl_X7_soundAt_79 : Cond.fieldLink RX7 79 (TX7 13).1 (TX7 13).2.1 (TX7 13).2.2.1 ∈ wsX7_soundAt := by decide +kernel
theorem fl_X7_soundAt_34 : Cond.fieldLink RX7 34 (TX7 11).1 (TX7 11).2.1 (TX7 11).2.2.1 ∈ wsX7_soundAt := by decide +kernel
theorem fl_X7_soundAt_31 : Cond.fieldLink RX7 31 (TX7 10).1 (TX7 10).2.1 (TX7 10).2.2.1 ∈ wsX7_soundAt := by decide +kernel
set_option maxRecDepth 20000 in
theorem bk_X7_soundAt_0 (X : k9_X p R s m args c A G 4 cX7_soundAt wsX7_soundAt RX7 rm_X7_soundAt) {a0 : Int32}
    (l1 : k9_U p l e R s m args below meth c Q A G 4 0 0 M 4 [(0, .ref (k9_ga G 76)), (1, .int a0), (2, .int (0 : Int32)), (3, .int (0 : Int32))] []) : k9_U p l e R s m args below meth c Q A G 4 0 0 M 0 [(0, .ref (k9_ga G 76)), (1, .int a0)] [] := by
  refine k9_iconst (v := 0) X dX7_soundAt_0 (by decide) ?_
  refine k9_istore_n (lv' := [(0, .ref (k9_ga G 76)), (1, .int a0), (2, .int (0 : Int32))]) X dX7_soundAt_1 rfl (by decide) [1, 2, 0] rfl ?_
  refine k9_iconst (v := 0) X dX7_soundAt_2 (by decide) ?_
  refine k9_istore_n (lv' := [(0, .ref (k9_ga G 76)), (1, .int a0), (2, .int (0 : Int32)), (3, .int (0 : Int32))]) X dX7_soundAt_3 rfl (by decide) [1, 2, 3, 0] rfl ?_
  exact l1

set_option maxRecDepth 20000 in
theorem bk_X7_soundAt_4 (X : k9_X p R s m args c A G 4 cX7_soundAt wsX7_soundAt RX7 rm_X7_soundAt) {x1 x2 x3 : Int32} {rv1 : Int32}
    (l1 : ((M 76 13) ≤ x3) → k9_U p l e R s m args below meth c Q A G 4 0 0 M 53 [] [.int x2])
    (o1 : (¬ ((M 76 13) ≤ x3)) → vp_in x3 960)
    (l2 : (¬ ((M 76 13) ≤ x3)) → (x1 < (M 85 x3.toNatClampNeg)) → k9_U p l e R s m args below meth c Q A G 4 0 0 M 4 [(0, .ref (k9_ga G 76)), (1, .int x1), (2, .int (x2 ||| (0 : Int32))), (3, .int (x3 + (1 : Int32)))] [])
    (k1 : (¬ ((M 76 13) ≤ x3)) → (¬ (x1 < (M 85 x3.toNatClampNeg))) → k9_Ci l yX7_soundsTo wsX7_soundsTo rm_X7_soundsTo G M [.ref (k9_ga G 76), .int x3] rv1 M)
    (l3 : (¬ ((M 76 13) ≤ x3)) → (¬ (x1 < (M 85 x3.toNatClampNeg))) → (rv1 < x1) → k9_U p l e R s m args below meth c Q A G 4 0 0 M 4 [(0, .ref (k9_ga G 76)), (1, .int x1), (2, .int (x2 ||| (0 : Int32))), (3, .int (x3 + (1 : Int32)))] [])
    (l4 : (¬ ((M 76 13) ≤ x3)) → (¬ (x1 < (M 85 x3.toNatClampNeg))) → (¬ (rv1 < x1)) → k9_U p l e R s m args below meth c Q A G 4 0 0 M 4 [(0, .ref (k9_ga G 76)), (1, .int x1), (2, .int (x2 ||| ((1 : Int32) <<< ((M 84 x3.toNatClampNeg) &&& 31)))), (3, .int (x3 + (1 : Int32)))] []) : k9_U p l e R s m args below meth c Q A G 4 0 0 M 4 [(0, .ref (k9_ga G 76)), (1, .int x1), (2, .int x2), (3, .int x3)] [] := by
  refine k9_iload_n X dX7_soundAt_4 rfl 3 rfl ?_
  refine k9_aload_n X dX7_soundAt_5 rfl 0 rfl ?_
  refine k9_gX7_13 X (by rfl) in_X7_soundAt_X7 fl_X7_soundAt_79 dX7_soundAt_6 ?_
  refine k9_icmp_ge (tgt := 52) X dX7_soundAt_9 (by decide) (fun c1 => ?_) (fun c1 => ?_)
  · refine k9_iload_n X dX7_soundAt_52 rfl 2 rfl ?_
    refine k9_sub (lv' := []) [] rfl ?_
    exact (l1 c1)
  · refine k9_iload_n X dX7_soundAt_12 rfl 2 rfl ?_
    refine k9_aload_n X dX7_soundAt_13 rfl 0 rfl ?_
    refine k9_gX7_11 X in_X7_soundAt_X7 fl_X7_soundAt_34 dX7_soundAt_14 ?_
    refine k9_iload_n X dX7_soundAt_17 rfl 3 rfl ?_
    refine k9_iald X (by decide) (o1 c1) (by rfl) dX7_soundAt_18 ?_
    refine k9_iload_n X dX7_soundAt_19 rfl 1 rfl ?_
    refine k9_icmp_gt (tgt := 43) X dX7_soundAt_20 (by decide) (fun c2 => ?_) (fun c2 => ?_)
    · refine k9_iconst (v := 0) X dX7_soundAt_43 (by decide) ?_
      refine k9_ior X dX7_soundAt_44 ?_
      refine k9_istore_n (lv' := [(0, .ref (k9_ga G 76)), (1, .int x1), (2, .int (x2 ||| (0 : Int32))), (3, .int x3)]) X dX7_soundAt_45 rfl (by decide) [1, 2, 0, 3] rfl ?_
      refine k9_iinc (v := x3 + (1 : Int32)) (lv' := [(0, .ref (k9_ga G 76)), (1, .int x1), (2, .int (x2 ||| (0 : Int32))), (3, .int (x3 + (1 : Int32)))]) X dX7_soundAt_46 (k := 3) rfl (by rfl) (by decide) [1, 2, 3, 0] rfl ?_
      refine k9_goto (tgt := 4) X dX7_soundAt_49 (by decide) ?_
      exact (l2 c1 c2)
    · refine k9_aload_n X dX7_soundAt_23 rfl 0 rfl ?_
      refine k9_iload_n X dX7_soundAt_24 rfl 3 rfl ?_
      refine k9_callVi1 X (k1 c1 c2) k9_ob_76 (cwV 1 X.2.2.2.2.1 gX7_soundAt_X7_soundsTo rfl rfl rfl (by decide +kernel) ⟨Nat.le_of_ble_eq_true rfl, Nat.le_of_ble_eq_true rfl⟩) (Nat.le_of_ble_eq_true rfl) dX7_soundAt_25 ⟨Nat.zero_le _, Nat.zero_le _⟩ ?_
      refine k9_iload_n X dX7_soundAt_28 rfl 1 rfl ?_
      refine k9_icmp_lt (tgt := 43) X dX7_soundAt_29 (by decide) (fun c3 => ?_) (fun c3 => ?_)
      · refine k9_iconst (v := 0) X dX7_soundAt_43 (by decide) ?_
        refine k9_ior X dX7_soundAt_44 ?_
        refine k9_istore_n (lv' := [(0, .ref (k9_ga G 76)), (1, .int x1), (2, .int (x2 ||| (0 : Int32))), (3, .int x3)]) X dX7_soundAt_45 rfl (by decide) [1, 2, 0, 3] rfl ?_
        refine k9_iinc (v := x3 + (1 : Int32)) (lv' := [(0, .ref (k9_ga G 76)), (1, .int x1), (2, .int (x2 ||| (0 : Int32))), (3, .int (x3 + (1 : Int32)))]) X dX7_soundAt_46 (k := 3) rfl (by rfl) (by decide) [1, 2, 3, 0] rfl ?_
        refine k9_goto (tgt := 4) X dX7_soundAt_49 (by decide) ?_
        exact (l3 c1 c2 c3)
      · refine k9_iconst (v := 1) X dX7_soundAt_32 (by decide) ?_
        refine k9_aload_n X dX7_soundAt_33 rfl 0 rfl ?_
        refine k9_gX7_10 X in_X7_soundAt_X7 fl_X7_soundAt_31 dX7_soundAt_34 ?_
        refine k9_iload_n X dX7_soundAt_37 rfl 3 rfl ?_
        refine k9_iald X (by decide) (o1 c1) (by rfl) dX7_soundAt_38 ?_
        refine k9_ishl X dX7_soundAt_39 ?_
        refine k9_goto (tgt := 44) X dX7_soundAt_40 (by decide) ?_
        refine k9_ior X dX7_soundAt_44 ?_
        refine k9_istore_n (lv' := [(0, .ref (k9_ga G 76)), (1, .int x1), (2, .int (x2 ||| ((1 : Int32) <<< ((M 84 x3.toNatClampNeg) &&& 31)))), (3, .int x3)]) X dX7_soundAt_45 rfl (by decide) [1, 2, 0, 3] rfl ?_
        refine k9_iinc (v := x3 + (1 : Int32)) (lv' := [(0, .ref (k9_ga G 76)), (1, .int x1), (2, .int (x2 ||| ((1 : Int32) <<< ((M 84 x3.toNatClampNeg) &&& 31)))), (3, .int (x3 + (1 : Int32)))]) X dX7_soundAt_46 (k := 3) rfl (by rfl) (by decide) [1, 2, 3, 0] rfl ?_
        refine k9_goto (tgt := 4) X dX7_soundAt_49 (by decide) ?_
        exact (l4 c1 c2 c3)

theorem co_X7_isWished_138 : Cond.constant RX7 138 (1048575) ∈ wsX7_isWished := by decide +kernel
theorem in_X7_isWished_X7 : ∀ w ∈ u_ws RX7 TX7 19, w ∈ wsX7_isWished := by decide +kernel
theorem fl_X7_isWished_7 : Cond.fieldLink RX7 7 (TX7 0).1 (TX7 0).2.1 (TX7 0).2.2.1 ∈ wsX7_isWished := by decide +kernel
theorem fl_X7_isWished_28 : Cond.fieldLink RX7 28 (TX7 9).1 (TX7 9).2.1 (TX7 9).2.2.1 ∈ wsX7_isWished := by decide +kernel
theorem fl_X7_isWished_22 : Cond.fieldLink RX7 22 (TX7 7).1 (TX7 7).2.1 (TX7 7).2.2.1 ∈ wsX7_isWished := by decide +kernel
set_option maxRecDepth 20000 in
theorem bk_X7_isWished_0 (X : k9_X p R s m args c A G 6 cX7_isWished wsX7_isWished RX7 rm_X7_isWished) {a0 : Int32}
    (l1 : k9_U p l e R s m args below meth c Q A G 6 0 0 M 11 [(0, .ref (k9_ga G 76)), (1, .int a0), (2, .int (1048575 : Int32)), (3, .int (0 : Int32)), (4, .int (0 : Int32)), (5, .int (1 : Int32))] []) : k9_U p l e R s m args below meth c Q A G 6 0 0 M 0 [(0, .ref (k9_ga G 76)), (1, .int a0)] [] := by
  refine k9_ldc X co_X7_isWished_138 dX7_isWished_0 ?_
  refine k9_istore_n (lv' := [(0, .ref (k9_ga G 76)), (1, .int a0), (2, .int (1048575 : Int32))]) X dX7_isWished_2 rfl (by decide) [1, 2, 0] rfl ?_
  refine k9_iconst (v := 0) X dX7_isWished_3 (by decide) ?_
  refine k9_istore_n (lv' := [(0, .ref (k9_ga G 76)), (1, .int a0), (2, .int (1048575 : Int32)), (3, .int (0 : Int32))]) X dX7_isWished_4 rfl (by decide) [1, 2, 3, 0] rfl ?_
  refine k9_iconst (v := 0) X dX7_isWished_5 (by decide) ?_
  refine k9_istore (lv' := [(0, .ref (k9_ga G 76)), (1, .int a0), (2, .int (1048575 : Int32)), (3, .int (0 : Int32)), (4, .int (0 : Int32))]) X dX7_isWished_6 (by decide) [1, 2, 3, 4, 0] rfl ?_
  refine k9_iconst (v := 1) X dX7_isWished_8 (by decide) ?_
  refine k9_istore (lv' := [(0, .ref (k9_ga G 76)), (1, .int a0), (2, .int (1048575 : Int32)), (3, .int (0 : Int32)), (4, .int (0 : Int32)), (5, .int (1 : Int32))]) X dX7_isWished_9 (by decide) [1, 2, 3, 4, 5, 0] rfl ?_
  exact l1

set_option maxRecDepth 20000 in
theorem bk_X7_isWished_11 (X : k9_X p R s m args c A G 6 cX7_isWished wsX7_isWished RX7 rm_X7_isWished) {x1 x2 x3 x4 x5 : Int32} {rv1 : Int32}
    (o1 : ((M 77 385) < x5) → vp_in x1 96)
    (l1 : ((M 77 385) < x5) → (¬ ((M 83 x1.toNatClampNeg) &&& x2) = 0) → k9_U p l e R s m args below meth c Q A G 6 0 0 M 125 [] [.int (0 : Int32)])
    (l2 : ((M 77 385) < x5) → (((M 83 x1.toNatClampNeg) &&& x2) = 0) → (x3 = 0) → k9_U p l e R s m args below meth c Q A G 6 0 0 M 125 [] [.int (0 : Int32)])
    (l3 : ((M 77 385) < x5) → (((M 83 x1.toNatClampNeg) &&& x2) = 0) → (¬ (x3 = 0)) → (x4 = 0) → k9_U p l e R s m args below meth c Q A G 6 0 0 M 125 [] [.int (0 : Int32)])
    (l4 : ((M 77 385) < x5) → (((M 83 x1.toNatClampNeg) &&& x2) = 0) → (¬ (x3 = 0)) → (¬ (x4 = 0)) → k9_U p l e R s m args below meth c Q A G 6 0 0 M 125 [] [.int (1 : Int32)])
    (l5 : (¬ ((M 77 385) < x5)) → (¬ x3 = 0) → k9_U p l e R s m args below meth c Q A G 6 0 0 M 58 [(0, .ref (k9_ga G 76)), (1, .int x1), (2, .int x2), (3, .int (1 : Int32)), (4, .int x4), (5, .int x5)] [])
    (k1 : (¬ ((M 77 385) < x5)) → (x3 = 0) → k9_Ci l yX7_isStep wsX7_isStep rm_X7_isStep G M [.int (x1 - x5)] rv1 M)
    (l6 : (¬ ((M 77 385) < x5)) → (x3 = 0) → (rv1 = 0) → k9_U p l e R s m args below meth c Q A G 6 0 0 M 58 [(0, .ref (k9_ga G 76)), (1, .int x1), (2, .int x2), (3, .int (0 : Int32)), (4, .int x4), (5, .int x5)] [])
    (o2 : (¬ ((M 77 385) < x5)) → (x3 = 0) → (¬ (rv1 = 0)) → vp_in (x1 - x5) 96)
    (l7 : (¬ ((M 77 385) < x5)) → (x3 = 0) → (¬ (rv1 = 0)) → (((M 83 (x1 - x5).toNatClampNeg) &&& x2) = 0) → k9_U p l e R s m args below meth c Q A G 6 0 0 M 58 [(0, .ref (k9_ga G 76)), (1, .int x1), (2, .int x2), (3, .int (0 : Int32)), (4, .int x4), (5, .int x5)] [])
    (l8 : (¬ ((M 77 385) < x5)) → (x3 = 0) → (¬ (rv1 = 0)) → (¬ (((M 83 (x1 - x5).toNatClampNeg) &&& x2) = 0)) → k9_U p l e R s m args below meth c Q A G 6 0 0 M 58 [(0, .ref (k9_ga G 76)), (1, .int x1), (2, .int x2), (3, .int (1 : Int32)), (4, .int x4), (5, .int x5)] []) : k9_U p l e R s m args below meth c Q A G 6 0 0 M 11 [(0, .ref (k9_ga G 76)), (1, .int x1), (2, .int x2), (3, .int x3), (4, .int x4), (5, .int x5)] [] := by
  refine k9_iload X dX7_isWished_11 5 rfl ?_
  refine k9_aload_n X dX7_isWished_13 rfl 0 rfl ?_
  refine k9_gX7_0 X in_X7_isWished_X7 fl_X7_isWished_7 dX7_isWished_14 ?_
  refine k9_sipush (v := 385) X dX7_isWished_17 (by decide) ?_
  refine k9_ialdL (n := 578) (j := 385) X (by decide) (by decide) (by decide) (by decide) (by rfl) dX7_isWished_20 ?_
  refine k9_icmp_gt (tgt := 100) X dX7_isWished_21 (by decide) (fun c1 => ?_) (fun c1 => ?_)
  · refine k9_aload_n X dX7_isWished_100 rfl 0 rfl ?_
    refine k9_gX7_9 X in_X7_isWished_X7 fl_X7_isWished_28 dX7_isWished_101 ?_
    refine k9_iload_n X dX7_isWished_104 rfl 1 rfl ?_
    refine k9_iald X (by decide) (o1 c1) (by rfl) dX7_isWished_105 ?_
    refine k9_iload_n X dX7_isWished_106 rfl 2 rfl ?_
    refine k9_iand X dX7_isWished_107 ?_
    refine k9_if_ne (tgt := 124) X dX7_isWished_108 (by decide) (fun c2 => ?_) (fun c2 => ?_)
    · refine k9_iconst (v := 0) X dX7_isWished_124 (by decide) ?_
      refine k9_sub (lv' := []) [] rfl ?_
      exact (l1 c1 c2)
    · refine k9_iload_n X dX7_isWished_111 rfl 3 rfl ?_
      refine k9_if_eq (tgt := 124) X dX7_isWished_112 (by decide) (fun c3 => ?_) (fun c3 => ?_)
      · refine k9_iconst (v := 0) X dX7_isWished_124 (by decide) ?_
        refine k9_sub (lv' := []) [] rfl ?_
        exact (l2 c1 c2 c3)
      · refine k9_iload X dX7_isWished_115 4 rfl ?_
        refine k9_if_eq (tgt := 124) X dX7_isWished_117 (by decide) (fun c4 => ?_) (fun c4 => ?_)
        · refine k9_iconst (v := 0) X dX7_isWished_124 (by decide) ?_
          refine k9_sub (lv' := []) [] rfl ?_
          exact (l3 c1 c2 c3 c4)
        · refine k9_iconst (v := 1) X dX7_isWished_120 (by decide) ?_
          refine k9_goto (tgt := 125) X dX7_isWished_121 (by decide) ?_
          refine k9_sub (lv' := []) [] rfl ?_
          exact (l4 c1 c2 c3 c4)
  · refine k9_iload_n X dX7_isWished_24 rfl 3 rfl ?_
    refine k9_if_ne (tgt := 52) X dX7_isWished_25 (by decide) (fun c5 => ?_) (fun c5 => ?_)
    · refine k9_iconst (v := 1) X dX7_isWished_52 (by decide) ?_
      refine k9_goto (tgt := 57) X dX7_isWished_53 (by decide) ?_
      refine k9_istore_n (lv' := [(0, .ref (k9_ga G 76)), (1, .int x1), (2, .int x2), (3, .int (1 : Int32)), (4, .int x4), (5, .int x5)]) X dX7_isWished_57 rfl (by decide) [1, 2, 3, 0, 4, 5] rfl ?_
      exact (l5 c1 c5)
    · refine k9_iload_n X dX7_isWished_28 rfl 1 rfl ?_
      refine k9_iload X dX7_isWished_29 5 rfl ?_
      refine k9_isub X dX7_isWished_31 ?_
      refine k9_callSi1 X (k1 c1 c5)  (va_cwS 1 X.2.2.2.2.1 gX7_isWished_X7_isStep rfl rfl rfl (by decide +kernel) ⟨Nat.le_of_ble_eq_true rfl, Nat.le_of_ble_eq_true rfl⟩) (Nat.le_of_ble_eq_true rfl) dX7_isWished_32 ⟨Nat.zero_le _, Nat.zero_le _⟩ ?_
      refine k9_if_eq (tgt := 56) X dX7_isWished_35 (by decide) (fun c6 => ?_) (fun c6 => ?_)
      · refine k9_iconst (v := 0) X dX7_isWished_56 (by decide) ?_
        refine k9_istore_n (lv' := [(0, .ref (k9_ga G 76)), (1, .int x1), (2, .int x2), (3, .int (0 : Int32)), (4, .int x4), (5, .int x5)]) X dX7_isWished_57 rfl (by decide) [1, 2, 3, 0, 4, 5] rfl ?_
        exact (l6 c1 c5 c6)
      · refine k9_aload_n X dX7_isWished_38 rfl 0 rfl ?_
        refine k9_gX7_9 X in_X7_isWished_X7 fl_X7_isWished_28 dX7_isWished_39 ?_
        refine k9_iload_n X dX7_isWished_42 rfl 1 rfl ?_
        refine k9_iload X dX7_isWished_43 5 rfl ?_
        refine k9_isub X dX7_isWished_45 ?_
        refine k9_iald X (by decide) (o2 c1 c5 c6) (by rfl) dX7_isWished_46 ?_
        refine k9_iload_n X dX7_isWished_47 rfl 2 rfl ?_
        refine k9_iand X dX7_isWished_48 ?_
        refine k9_if_eq (tgt := 56) X dX7_isWished_49 (by decide) (fun c7 => ?_) (fun c7 => ?_)
        · refine k9_iconst (v := 0) X dX7_isWished_56 (by decide) ?_
          refine k9_istore_n (lv' := [(0, .ref (k9_ga G 76)), (1, .int x1), (2, .int x2), (3, .int (0 : Int32)), (4, .int x4), (5, .int x5)]) X dX7_isWished_57 rfl (by decide) [1, 2, 3, 0, 4, 5] rfl ?_
          exact (l7 c1 c5 c6 c7)
        · refine k9_iconst (v := 1) X dX7_isWished_52 (by decide) ?_
          refine k9_goto (tgt := 57) X dX7_isWished_53 (by decide) ?_
          refine k9_istore_n (lv' := [(0, .ref (k9_ga G 76)), (1, .int x1), (2, .int x2), (3, .int (1 : Int32)), (4, .int x4), (5, .int x5)]) X dX7_isWished_57 rfl (by decide) [1, 2, 3, 0, 4, 5] rfl ?_
          exact (l8 c1 c5 c6 c7)

set_option maxRecDepth 20000 in
theorem bk_X7_isWished_58 (X : k9_X p R s m args c A G 6 cX7_isWished wsX7_isWished RX7 rm_X7_isWished) {x1 x2 x3 x4 x5 : Int32} {rv1 : Int32}
    (l1 : (¬ x4 = 0) → k9_U p l e R s m args below meth c Q A G 6 0 0 M 11 [(0, .ref (k9_ga G 76)), (1, .int x1), (2, .int x2), (3, .int x3), (4, .int (1 : Int32)), (5, .int (x5 + (1 : Int32)))] [])
    (k1 : (x4 = 0) → k9_Ci l yX7_isStep wsX7_isStep rm_X7_isStep G M [.int (x1 + x5)] rv1 M)
    (l2 : (x4 = 0) → (rv1 = 0) → k9_U p l e R s m args below meth c Q A G 6 0 0 M 11 [(0, .ref (k9_ga G 76)), (1, .int x1), (2, .int x2), (3, .int x3), (4, .int (0 : Int32)), (5, .int (x5 + (1 : Int32)))] [])
    (o1 : (x4 = 0) → (¬ (rv1 = 0)) → vp_in (x1 + x5) 96)
    (l3 : (x4 = 0) → (¬ (rv1 = 0)) → (((M 81 (x1 + x5).toNatClampNeg) &&& x2) = 0) → k9_U p l e R s m args below meth c Q A G 6 0 0 M 11 [(0, .ref (k9_ga G 76)), (1, .int x1), (2, .int x2), (3, .int x3), (4, .int (0 : Int32)), (5, .int (x5 + (1 : Int32)))] [])
    (l4 : (x4 = 0) → (¬ (rv1 = 0)) → (¬ (((M 81 (x1 + x5).toNatClampNeg) &&& x2) = 0)) → k9_U p l e R s m args below meth c Q A G 6 0 0 M 11 [(0, .ref (k9_ga G 76)), (1, .int x1), (2, .int x2), (3, .int x3), (4, .int (1 : Int32)), (5, .int (x5 + (1 : Int32)))] []) : k9_U p l e R s m args below meth c Q A G 6 0 0 M 58 [(0, .ref (k9_ga G 76)), (1, .int x1), (2, .int x2), (3, .int x3), (4, .int x4), (5, .int x5)] [] := by
  refine k9_iload X dX7_isWished_58 4 rfl ?_
  refine k9_if_ne (tgt := 87) X dX7_isWished_60 (by decide) (fun c1 => ?_) (fun c1 => ?_)
  · refine k9_iconst (v := 1) X dX7_isWished_87 (by decide) ?_
    refine k9_goto (tgt := 92) X dX7_isWished_88 (by decide) ?_
    refine k9_istore (lv' := [(0, .ref (k9_ga G 76)), (1, .int x1), (2, .int x2), (3, .int x3), (4, .int (1 : Int32)), (5, .int x5)]) X dX7_isWished_92 (by decide) [1, 2, 3, 4, 0, 5] rfl ?_
    refine k9_iinc (v := x5 + (1 : Int32)) (lv' := [(0, .ref (k9_ga G 76)), (1, .int x1), (2, .int x2), (3, .int x3), (4, .int (1 : Int32)), (5, .int (x5 + (1 : Int32)))]) X dX7_isWished_94 (k := 5) rfl (by rfl) (by decide) [1, 2, 3, 4, 5, 0] rfl ?_
    refine k9_goto (tgt := 11) X dX7_isWished_97 (by decide) ?_
    exact (l1 c1)
  · refine k9_iload_n X dX7_isWished_63 rfl 1 rfl ?_
    refine k9_iload X dX7_isWished_64 5 rfl ?_
    refine k9_iadd X dX7_isWished_66 ?_
    refine k9_callSi1 X (k1 c1)  (va_cwS 1 X.2.2.2.2.1 gX7_isWished_X7_isStep rfl rfl rfl (by decide +kernel) ⟨Nat.le_of_ble_eq_true rfl, Nat.le_of_ble_eq_true rfl⟩) (Nat.le_of_ble_eq_true rfl) dX7_isWished_67 ⟨Nat.zero_le _, Nat.zero_le _⟩ ?_
    refine k9_if_eq (tgt := 91) X dX7_isWished_70 (by decide) (fun c2 => ?_) (fun c2 => ?_)
    · refine k9_iconst (v := 0) X dX7_isWished_91 (by decide) ?_
      refine k9_istore (lv' := [(0, .ref (k9_ga G 76)), (1, .int x1), (2, .int x2), (3, .int x3), (4, .int (0 : Int32)), (5, .int x5)]) X dX7_isWished_92 (by decide) [1, 2, 3, 4, 0, 5] rfl ?_
      refine k9_iinc (v := x5 + (1 : Int32)) (lv' := [(0, .ref (k9_ga G 76)), (1, .int x1), (2, .int x2), (3, .int x3), (4, .int (0 : Int32)), (5, .int (x5 + (1 : Int32)))]) X dX7_isWished_94 (k := 5) rfl (by rfl) (by decide) [1, 2, 3, 4, 5, 0] rfl ?_
      refine k9_goto (tgt := 11) X dX7_isWished_97 (by decide) ?_
      exact (l2 c1 c2)
    · refine k9_aload_n X dX7_isWished_73 rfl 0 rfl ?_
      refine k9_gX7_7 X in_X7_isWished_X7 fl_X7_isWished_22 dX7_isWished_74 ?_
      refine k9_iload_n X dX7_isWished_77 rfl 1 rfl ?_
      refine k9_iload X dX7_isWished_78 5 rfl ?_
      refine k9_iadd X dX7_isWished_80 ?_
      refine k9_iald X (by decide) (o1 c1 c2) (by rfl) dX7_isWished_81 ?_
      refine k9_iload_n X dX7_isWished_82 rfl 2 rfl ?_
      refine k9_iand X dX7_isWished_83 ?_
      refine k9_if_eq (tgt := 91) X dX7_isWished_84 (by decide) (fun c3 => ?_) (fun c3 => ?_)
      · refine k9_iconst (v := 0) X dX7_isWished_91 (by decide) ?_
        refine k9_istore (lv' := [(0, .ref (k9_ga G 76)), (1, .int x1), (2, .int x2), (3, .int x3), (4, .int (0 : Int32)), (5, .int x5)]) X dX7_isWished_92 (by decide) [1, 2, 3, 4, 0, 5] rfl ?_
        refine k9_iinc (v := x5 + (1 : Int32)) (lv' := [(0, .ref (k9_ga G 76)), (1, .int x1), (2, .int x2), (3, .int x3), (4, .int (0 : Int32)), (5, .int (x5 + (1 : Int32)))]) X dX7_isWished_94 (k := 5) rfl (by rfl) (by decide) [1, 2, 3, 4, 5, 0] rfl ?_
        refine k9_goto (tgt := 11) X dX7_isWished_97 (by decide) ?_
        exact (l3 c1 c2 c3)
      · refine k9_iconst (v := 1) X dX7_isWished_87 (by decide) ?_
        refine k9_goto (tgt := 92) X dX7_isWished_88 (by decide) ?_
        refine k9_istore (lv' := [(0, .ref (k9_ga G 76)), (1, .int x1), (2, .int x2), (3, .int x3), (4, .int (1 : Int32)), (5, .int x5)]) X dX7_isWished_92 (by decide) [1, 2, 3, 4, 0, 5] rfl ?_
        refine k9_iinc (v := x5 + (1 : Int32)) (lv' := [(0, .ref (k9_ga G 76)), (1, .int x1), (2, .int x2), (3, .int x3), (4, .int (1 : Int32)), (5, .int (x5 + (1 : Int32)))]) X dX7_isWished_94 (k := 5) rfl (by rfl) (by decide) [1, 2, 3, 4, 5, 0] rfl ?_
        refine k9_goto (tgt := 11) X dX7_isWished_97 (by decide) ?_
        exact (l4 c1 c2 c3)

theorem in_X7_stepNow_X7 : ∀ w ∈ u_ws RX7 TX7 19, w ∈ wsX7_stepNow := by decide +kernel
theorem fl_X7_stepNow_7 : Cond.fieldLink RX7 7 (TX7 0).1 (TX7 0).2.1 (TX7 0).2.2.1 ∈ wsX7_stepNow := by decide +kernel
theorem fl_X7_stepNow_28 : Cond.fieldLink RX7 28 (TX7 9).1 (TX7 9).2.1 (TX7 9).2.2.1 ∈ wsX7_stepNow := by decide +kernel
theorem co_X7_stepNow_138 : Cond.constant RX7 138 (1048575) ∈ wsX7_stepNow := by decide +kernel
set_option maxRecDepth 20000 in
theorem bk_X7_stepNow_0 (X : k9_X p R s m args c A G 3 cX7_stepNow wsX7_stepNow RX7 rm_X7_stepNow) {a0 a1 : Int32} {rv1 : Int32} {rv2 : Int32} {rv3 : Int32} {rv4 : Int32}
    (o1 : (a1 = (0 : Int32)) → vp_in ((192 : Int32) + a0) 578)
    (l1 : (a1 = (0 : Int32)) → k9_U p l e R s m args below meth c Q A G 3 0 0 M 50 [] [.int (M 77 ((192 : Int32) + a0).toNatClampNeg)])
    (o2 : (a1 = (1 : Int32)) → vp_in ((288 : Int32) + a0) 578)
    (l2 : (a1 = (1 : Int32)) → k9_U p l e R s m args below meth c Q A G 3 0 0 M 61 [] [.int (M 77 ((288 : Int32) + a0).toNatClampNeg)])
    (o3 : (a1 = (2 : Int32)) → vp_in a0 96)
    (l3 : (a1 = (2 : Int32)) → k9_U p l e R s m args below meth c Q A G 3 0 0 M 71 [] [.int ((M 83 a0.toNatClampNeg) &&& (1048575 : Int32))])
    (k1 : (a1 = (3 : Int32)) → k9_Ci l yX7_soundAt wsX7_soundAt rm_X7_soundAt G M [.ref (k9_ga G 76), .int a0] rv1 M)
    (l4 : (a1 = (3 : Int32)) → k9_U p l e R s m args below meth c Q A G 3 0 0 M 77 [] [.int rv1])
    (k2 : (a1 = (4 : Int32)) → k9_Ci l yX7_isDown wsX7_isDown rm_X7_isDown G M [.ref (k9_ga G 76), .int a0] rv2 M)
    (l5 : (a1 = (4 : Int32)) → (rv2 = 0) → k9_U p l e R s m args below meth c Q A G 3 0 0 M 91 [] [.int (0 : Int32)])
    (l6 : (a1 = (4 : Int32)) → (¬ (rv2 = 0)) → k9_U p l e R s m args below meth c Q A G 3 0 0 M 91 [] [.int (1 : Int32)])
    (k3 : (a1 = (5 : Int32)) → k9_Ci l yX7_isWished wsX7_isWished rm_X7_isWished G M [.ref (k9_ga G 76), .int a0] rv3 M)
    (l7 : (a1 = (5 : Int32)) → (rv3 = 0) → k9_U p l e R s m args below meth c Q A G 3 0 0 M 105 [] [.int (0 : Int32)])
    (l8 : (a1 = (5 : Int32)) → (¬ (rv3 = 0)) → k9_U p l e R s m args below meth c Q A G 3 0 0 M 105 [] [.int (1 : Int32)])
    (k4 : (¬ a1 = (0 : Int32)) → (¬ a1 = (1 : Int32)) → (¬ a1 = (2 : Int32)) → (¬ a1 = (3 : Int32)) → (¬ a1 = (4 : Int32)) → (¬ a1 = (5 : Int32)) → k9_Ci l yX7_openAt wsX7_openAt rm_X7_openAt G M [.ref (k9_ga G 76), .int a0] rv4 M)
    (l9 : (¬ a1 = (0 : Int32)) → (¬ a1 = (1 : Int32)) → (¬ a1 = (2 : Int32)) → (¬ a1 = (3 : Int32)) → (¬ a1 = (4 : Int32)) → (¬ a1 = (5 : Int32)) → k9_U p l e R s m args below meth c Q A G 3 0 0 M 111 [] [.int rv4]) : k9_U p l e R s m args below meth c Q A G 3 0 0 M 0 [(0, .ref (k9_ga G 76)), (1, .int a0), (2, .int a1)] [] := by
  refine k9_iload_n X dX7_stepNow_0 rfl 2 rfl ?_
  rcases Classical.em (a1 = (0 : Int32)) with c1 | c1
  · refine k9_tswIn (tgt := 40) X dX7_stepNow_1 (0 : Int32) c1 (by decide) (by decide) (by rfl) (by decide) ?_
    refine k9_aload_n X dX7_stepNow_40 rfl 0 rfl ?_
    refine k9_gX7_0 X in_X7_stepNow_X7 fl_X7_stepNow_7 dX7_stepNow_41 ?_
    refine k9_sipush (v := 192) X dX7_stepNow_44 (by decide) ?_
    refine k9_iload_n X dX7_stepNow_47 rfl 1 rfl ?_
    refine k9_iadd X dX7_stepNow_48 ?_
    refine k9_iald X (by decide) (o1 c1) (by rfl) dX7_stepNow_49 ?_
    refine k9_sub (lv' := []) [] rfl ?_
    exact (l1 c1)
  rcases Classical.em (a1 = (1 : Int32)) with c2 | c2
  · refine k9_tswIn (tgt := 51) X dX7_stepNow_1 (1 : Int32) c2 (by decide) (by decide) (by rfl) (by decide) ?_
    refine k9_aload_n X dX7_stepNow_51 rfl 0 rfl ?_
    refine k9_gX7_0 X in_X7_stepNow_X7 fl_X7_stepNow_7 dX7_stepNow_52 ?_
    refine k9_sipush (v := 288) X dX7_stepNow_55 (by decide) ?_
    refine k9_iload_n X dX7_stepNow_58 rfl 1 rfl ?_
    refine k9_iadd X dX7_stepNow_59 ?_
    refine k9_iald X (by decide) (o2 c2) (by rfl) dX7_stepNow_60 ?_
    refine k9_sub (lv' := []) [] rfl ?_
    exact (l2 c2)
  rcases Classical.em (a1 = (2 : Int32)) with c3 | c3
  · refine k9_tswIn (tgt := 62) X dX7_stepNow_1 (2 : Int32) c3 (by decide) (by decide) (by rfl) (by decide) ?_
    refine k9_aload_n X dX7_stepNow_62 rfl 0 rfl ?_
    refine k9_gX7_9 X in_X7_stepNow_X7 fl_X7_stepNow_28 dX7_stepNow_63 ?_
    refine k9_iload_n X dX7_stepNow_66 rfl 1 rfl ?_
    refine k9_iald X (by decide) (o3 c3) (by rfl) dX7_stepNow_67 ?_
    refine k9_ldc X co_X7_stepNow_138 dX7_stepNow_68 ?_
    refine k9_iand X dX7_stepNow_70 ?_
    refine k9_sub (lv' := []) [] rfl ?_
    exact (l3 c3)
  rcases Classical.em (a1 = (3 : Int32)) with c4 | c4
  · refine k9_tswIn (tgt := 72) X dX7_stepNow_1 (3 : Int32) c4 (by decide) (by decide) (by rfl) (by decide) ?_
    refine k9_aload_n X dX7_stepNow_72 rfl 0 rfl ?_
    refine k9_iload_n X dX7_stepNow_73 rfl 1 rfl ?_
    refine k9_callVi1 X (k1 c4) k9_ob_76 (cwV 1 X.2.2.2.2.1 gX7_stepNow_X7_soundAt rfl rfl rfl (by decide +kernel) ⟨Nat.le_of_ble_eq_true rfl, Nat.le_of_ble_eq_true rfl⟩) (Nat.le_of_ble_eq_true rfl) dX7_stepNow_74 ⟨Nat.zero_le _, Nat.zero_le _⟩ ?_
    refine k9_sub (lv' := []) [] rfl ?_
    exact (l4 c4)
  rcases Classical.em (a1 = (4 : Int32)) with c5 | c5
  · refine k9_tswIn (tgt := 78) X dX7_stepNow_1 (4 : Int32) c5 (by decide) (by decide) (by rfl) (by decide) ?_
    refine k9_aload_n X dX7_stepNow_78 rfl 0 rfl ?_
    refine k9_iload_n X dX7_stepNow_79 rfl 1 rfl ?_
    refine k9_callVi1 X (k2 c5) k9_ob_76 (cwV 1 X.2.2.2.2.1 gX7_stepNow_X7_isDown rfl rfl rfl (by decide +kernel) ⟨Nat.le_of_ble_eq_true rfl, Nat.le_of_ble_eq_true rfl⟩) (Nat.le_of_ble_eq_true rfl) dX7_stepNow_80 ⟨Nat.zero_le _, Nat.zero_le _⟩ ?_
    refine k9_if_eq (tgt := 90) X dX7_stepNow_83 (by decide) (fun c6 => ?_) (fun c6 => ?_)
    · refine k9_iconst (v := 0) X dX7_stepNow_90 (by decide) ?_
      refine k9_sub (lv' := []) [] rfl ?_
      exact (l5 c5 c6)
    · refine k9_iconst (v := 1) X dX7_stepNow_86 (by decide) ?_
      refine k9_goto (tgt := 91) X dX7_stepNow_87 (by decide) ?_
      refine k9_sub (lv' := []) [] rfl ?_
      exact (l6 c5 c6)
  rcases Classical.em (a1 = (5 : Int32)) with c7 | c7
  · refine k9_tswIn (tgt := 92) X dX7_stepNow_1 (5 : Int32) c7 (by decide) (by decide) (by rfl) (by decide) ?_
    refine k9_aload_n X dX7_stepNow_92 rfl 0 rfl ?_
    refine k9_iload_n X dX7_stepNow_93 rfl 1 rfl ?_
    refine k9_callVi1 X (k3 c7) k9_ob_76 (cwV 1 X.2.2.2.2.1 gX7_stepNow_X7_isWished rfl rfl rfl (by decide +kernel) ⟨Nat.le_of_ble_eq_true rfl, Nat.le_of_ble_eq_true rfl⟩) (Nat.le_of_ble_eq_true rfl) dX7_stepNow_94 ⟨Nat.zero_le _, Nat.zero_le _⟩ ?_
    refine k9_if_eq (tgt := 104) X dX7_stepNow_97 (by decide) (fun c8 => ?_) (fun c8 => ?_)
    · refine k9_iconst (v := 0) X dX7_stepNow_104 (by decide) ?_
      refine k9_sub (lv' := []) [] rfl ?_
      exact (l7 c7 c8)
    · refine k9_iconst (v := 1) X dX7_stepNow_100 (by decide) ?_
      refine k9_goto (tgt := 105) X dX7_stepNow_101 (by decide) ?_
      refine k9_sub (lv' := []) [] rfl ?_
      exact (l8 c7 c8)
  refine k9_tswOut (tgt := 106) X dX7_stepNow_1 (k9_swOut 6 (by decide) (by intro j hj; rcases (show j = 0 ∨ j = 1 ∨ j = 2 ∨ j = 3 ∨ j = 4 ∨ j = 5 by omega) with rfl | rfl | rfl | rfl | rfl | rfl <;> assumption)) (by decide) (by decide) ?_
  refine k9_aload_n X dX7_stepNow_106 rfl 0 rfl ?_
  refine k9_iload_n X dX7_stepNow_107 rfl 1 rfl ?_
  refine k9_callVi1 X (k4 c1 c2 c3 c4 c5 c7) k9_ob_76 (cwV 1 X.2.2.2.2.1 gX7_stepNow_X7_openAt rfl rfl rfl (by decide +kernel) ⟨Nat.le_of_ble_eq_true rfl, Nat.le_of_ble_eq_true rfl⟩) (Nat.le_of_ble_eq_true rfl) dX7_stepNow_108 ⟨Nat.zero_le _, Nat.zero_le _⟩ ?_
  refine k9_sub (lv' := []) [] rfl ?_
  exact (l9 c1 c2 c3 c4 c5 c7)

theorem in_X7_step_X7 : ∀ w ∈ u_ws RX7 TX7 19, w ∈ wsX7_step := by decide +kernel
theorem fl_X7_step_46 : Cond.fieldLink RX7 46 (TX7 5).1 (TX7 5).2.1 (TX7 5).2.2.1 ∈ wsX7_step := by decide +kernel
set_option maxRecDepth 20000 in
theorem bk_X7_step_0 (X : k9_X p R s m args c A G 3 cX7_step wsX7_step RX7 rm_X7_step) {a0 a1 : Int32} {rv1 : Int32} {rv2 : Int32} {mv3 : k9_Mem} {rv4 : Int32}
    (k1 : k9_Ci l yX7_isStep wsX7_isStep rm_X7_isStep G M [.int a0] rv1 M)
    (k2 : (¬ rv1 = 0) → k9_Ci l yX7_within wsX7_within rm_X7_within G M [.int a1, .int (0 : Int32), .int (6 : Int32)] rv2 M)
    (l1 : (¬ rv1 = 0) → (rv2 = 0) → k9_U p l e R s m args below meth c Q A G 3 0 0 (k9_st M 76 5 (2 : Int32)) 38 [] [.int (0 : Int32)])
    (k3 : (¬ rv1 = 0) → (¬ (rv2 = 0)) → k9_Cv l yX7_lay wsX7_lay rm_X7_lay G (k9_st M 76 5 (0 : Int32)) [.ref (k9_ga G 76)] mv3)
    (k4 : (¬ rv1 = 0) → (¬ (rv2 = 0)) → k9_Ci l yX7_stepNow wsX7_stepNow rm_X7_stepNow G mv3 [.ref (k9_ga G 76), .int a0, .int a1] rv4 mv3)
    (l2 : (¬ rv1 = 0) → (¬ (rv2 = 0)) → k9_U p l e R s m args below meth c Q A G 3 0 0 mv3 49 [] [.int rv4])
    (l3 : (rv1 = 0) → k9_U p l e R s m args below meth c Q A G 3 0 0 (k9_st M 76 5 (1 : Int32)) 38 [] [.int (0 : Int32)]) : k9_U p l e R s m args below meth c Q A G 3 0 0 M 0 [(0, .ref (k9_ga G 76)), (1, .int a0), (2, .int a1)] [] := by
  refine k9_aload_n X dX7_step_0 rfl 0 rfl ?_
  refine k9_iload_n X dX7_step_1 rfl 1 rfl ?_
  refine k9_callSi1 X k1  (va_cwS 1 X.2.2.2.2.1 gX7_step_X7_isStep rfl rfl rfl (by decide +kernel) ⟨Nat.le_of_ble_eq_true rfl, Nat.le_of_ble_eq_true rfl⟩) (Nat.le_of_ble_eq_true rfl) dX7_step_2 ⟨Nat.zero_le _, Nat.zero_le _⟩ ?_
  refine k9_if_ne (tgt := 12) X dX7_step_5 (by decide) (fun c1 => ?_) (fun c1 => ?_)
  · refine k9_iload_n X dX7_step_12 rfl 2 rfl ?_
    refine k9_iconst (v := 0) X dX7_step_13 (by decide) ?_
    refine k9_bipush (v := 6) X dX7_step_14 (by decide) ?_
    refine k9_callSi3 X (k2 c1)  (va_cwS 3 X.2.2.2.2.1 gX7_step_X7_within rfl rfl rfl (by decide +kernel) ⟨Nat.le_of_ble_eq_true rfl, Nat.le_of_ble_eq_true rfl⟩) (Nat.le_of_ble_eq_true rfl) dX7_step_16 ⟨Nat.zero_le _, Nat.zero_le _⟩ ?_
    refine k9_if_eq (tgt := 26) X dX7_step_19 (by decide) (fun c2 => ?_) (fun c2 => ?_)
    · refine k9_iconst (v := 2) X dX7_step_26 (by decide) ?_
      refine k9_pX7_5 X in_X7_step_X7 fl_X7_step_46 dX7_step_27 ?_
      refine k9_aload_n X dX7_step_30 rfl 0 rfl ?_
      refine k9_gX7_5 (v := (2 : Int32)) X (by rfl) in_X7_step_X7 fl_X7_step_46 dX7_step_31 ?_
      refine k9_if_le (tgt := 39) X dX7_step_34 (by decide) (fun c => absurd c (by decide)) (fun _ => ?_)
      refine k9_iconst (v := 0) X dX7_step_37 (by decide) ?_
      refine k9_sub (lv' := []) [] rfl ?_
      exact (l1 c1 c2)
    · refine k9_iconst (v := 0) X dX7_step_22 (by decide) ?_
      refine k9_goto (tgt := 27) X dX7_step_23 (by decide) ?_
      refine k9_pX7_5 X in_X7_step_X7 fl_X7_step_46 dX7_step_27 ?_
      refine k9_aload_n X dX7_step_30 rfl 0 rfl ?_
      refine k9_gX7_5 (v := (0 : Int32)) X (by rfl) in_X7_step_X7 fl_X7_step_46 dX7_step_31 ?_
      refine k9_if_le (tgt := 39) X dX7_step_34 (by decide) (fun _ => ?_) (fun c => absurd c (by decide))
      refine k9_aload_n X dX7_step_39 rfl 0 rfl ?_
      refine k9_callVv0 X (k3 c1 c2) k9_ob_76 (cwV 0 X.2.2.2.2.1 gX7_step_X7_lay rfl rfl rfl (by decide +kernel) ⟨Nat.le_of_ble_eq_true rfl, Nat.le_of_ble_eq_true rfl⟩) (Nat.le_of_ble_eq_true rfl) dX7_step_40 ⟨Nat.zero_le _, Nat.zero_le _⟩ ?_
      refine k9_aload_n X dX7_step_43 rfl 0 rfl ?_
      refine k9_iload_n X dX7_step_44 rfl 1 rfl ?_
      refine k9_iload_n X dX7_step_45 rfl 2 rfl ?_
      refine k9_callVi2 X (k4 c1 c2) k9_ob_76 (cwV 2 X.2.2.2.2.1 gX7_step_X7_stepNow rfl rfl rfl (by decide +kernel) ⟨Nat.le_of_ble_eq_true rfl, Nat.le_of_ble_eq_true rfl⟩) (Nat.le_of_ble_eq_true rfl) dX7_step_46 ⟨Nat.zero_le _, Nat.zero_le _⟩ ?_
      refine k9_sub (lv' := []) [] rfl ?_
      exact (l2 c1 c2)
  · refine k9_iconst (v := 1) X dX7_step_8 (by decide) ?_
    refine k9_goto (tgt := 27) X dX7_step_9 (by decide) ?_
    refine k9_pX7_5 X in_X7_step_X7 fl_X7_step_46 dX7_step_27 ?_
    refine k9_aload_n X dX7_step_30 rfl 0 rfl ?_
    refine k9_gX7_5 (v := (1 : Int32)) X (by rfl) in_X7_step_X7 fl_X7_step_46 dX7_step_31 ?_
    refine k9_if_le (tgt := 39) X dX7_step_34 (by decide) (fun c => absurd c (by decide)) (fun _ => ?_)
    refine k9_iconst (v := 0) X dX7_step_37 (by decide) ?_
    refine k9_sub (lv' := []) [] rfl ?_
    exact (l3 c1)

theorem in_X7_holesOf_X7 : ∀ w ∈ u_ws RX7 TX7 19, w ∈ wsX7_holesOf := by decide +kernel
theorem fl_X7_holesOf_34 : Cond.fieldLink RX7 34 (TX7 11).1 (TX7 11).2.1 (TX7 11).2.2.1 ∈ wsX7_holesOf := by decide +kernel
theorem fl_X7_holesOf_37 : Cond.fieldLink RX7 37 (TX7 12).1 (TX7 12).2.1 (TX7 12).2.2.1 ∈ wsX7_holesOf := by decide +kernel
theorem fl_X7_holesOf_19 : Cond.fieldLink RX7 19 (TX7 6).1 (TX7 6).2.1 (TX7 6).2.2.1 ∈ wsX7_holesOf := by decide +kernel
theorem fl_X7_holesOf_31 : Cond.fieldLink RX7 31 (TX7 10).1 (TX7 10).2.1 (TX7 10).2.2.1 ∈ wsX7_holesOf := by decide +kernel
set_option maxRecDepth 20000 in
theorem bk_X7_holesOf_0 (X : k9_X p R s m args c A G 4 cX7_holesOf wsX7_holesOf RX7 rm_X7_holesOf) {a0 : Int32}
    (o1 : vp_in a0 960)
    (l1 : k9_U p l e R s m args below meth c Q A G 4 0 0 M 9 [(0, .ref (k9_ga G 76)), (1, .int a0), (2, .int (0 : Int32)), (3, .int (M 85 a0.toNatClampNeg))] []) : k9_U p l e R s m args below meth c Q A G 4 0 0 M 0 [(0, .ref (k9_ga G 76)), (1, .int a0)] [] := by
  refine k9_iconst (v := 0) X dX7_holesOf_0 (by decide) ?_
  refine k9_istore_n (lv' := [(0, .ref (k9_ga G 76)), (1, .int a0), (2, .int (0 : Int32))]) X dX7_holesOf_1 rfl (by decide) [1, 2, 0] rfl ?_
  refine k9_aload_n X dX7_holesOf_2 rfl 0 rfl ?_
  refine k9_gX7_11 X in_X7_holesOf_X7 fl_X7_holesOf_34 dX7_holesOf_3 ?_
  refine k9_iload_n X dX7_holesOf_6 rfl 1 rfl ?_
  refine k9_iald X (by decide) o1 (by rfl) dX7_holesOf_7 ?_
  refine k9_istore_n (lv' := [(0, .ref (k9_ga G 76)), (1, .int a0), (2, .int (0 : Int32)), (3, .int (M 85 a0.toNatClampNeg))]) X dX7_holesOf_8 rfl (by decide) [1, 2, 3, 0] rfl ?_
  exact l1

set_option maxRecDepth 20000 in
theorem bk_X7_holesOf_9 (X : k9_X p R s m args c A G 4 cX7_holesOf wsX7_holesOf RX7 rm_X7_holesOf) {x1 x2 x3 : Int32}
    (o1 : vp_in x1 960)
    (l1 : ((M 86 x1.toNatClampNeg) < x3) → k9_U p l e R s m args below meth c Q A G 4 0 0 M 44 [] [.int x2])
    (o2 : (¬ ((M 86 x1.toNatClampNeg) < x3)) → vp_in x3 96)
    (l2 : (¬ ((M 86 x1.toNatClampNeg) < x3)) → k9_U p l e R s m args below meth c Q A G 4 0 0 M 9 [(0, .ref (k9_ga G 76)), (1, .int x1), (2, .int (x2 + (((M 80 x3.toNatClampNeg) >>> ((M 84 x1.toNatClampNeg) &&& 31)) &&& (1 : Int32)))), (3, .int (x3 + (1 : Int32)))] []) : k9_U p l e R s m args below meth c Q A G 4 0 0 M 9 [(0, .ref (k9_ga G 76)), (1, .int x1), (2, .int x2), (3, .int x3)] [] := by
  refine k9_iload_n X dX7_holesOf_9 rfl 3 rfl ?_
  refine k9_aload_n X dX7_holesOf_10 rfl 0 rfl ?_
  refine k9_gX7_12 X in_X7_holesOf_X7 fl_X7_holesOf_37 dX7_holesOf_11 ?_
  refine k9_iload_n X dX7_holesOf_14 rfl 1 rfl ?_
  refine k9_iald X (by decide) o1 (by rfl) dX7_holesOf_15 ?_
  refine k9_icmp_gt (tgt := 43) X dX7_holesOf_16 (by decide) (fun c1 => ?_) (fun c1 => ?_)
  · refine k9_iload_n X dX7_holesOf_43 rfl 2 rfl ?_
    refine k9_sub (lv' := []) [] rfl ?_
    exact (l1 c1)
  · refine k9_iload_n X dX7_holesOf_19 rfl 2 rfl ?_
    refine k9_aload_n X dX7_holesOf_20 rfl 0 rfl ?_
    refine k9_gX7_6 X in_X7_holesOf_X7 fl_X7_holesOf_19 dX7_holesOf_21 ?_
    refine k9_iload_n X dX7_holesOf_24 rfl 3 rfl ?_
    refine k9_iald X (by decide) (o2 c1) (by rfl) dX7_holesOf_25 ?_
    refine k9_aload_n X dX7_holesOf_26 rfl 0 rfl ?_
    refine k9_gX7_10 X in_X7_holesOf_X7 fl_X7_holesOf_31 dX7_holesOf_27 ?_
    refine k9_iload_n X dX7_holesOf_30 rfl 1 rfl ?_
    refine k9_iald X (by decide) o1 (by rfl) dX7_holesOf_31 ?_
    refine k9_ishr X dX7_holesOf_32 ?_
    refine k9_iconst (v := 1) X dX7_holesOf_33 (by decide) ?_
    refine k9_iand X dX7_holesOf_34 ?_
    refine k9_iadd X dX7_holesOf_35 ?_
    refine k9_istore_n (lv' := [(0, .ref (k9_ga G 76)), (1, .int x1), (2, .int (x2 + (((M 80 x3.toNatClampNeg) >>> ((M 84 x1.toNatClampNeg) &&& 31)) &&& (1 : Int32)))), (3, .int x3)]) X dX7_holesOf_36 rfl (by decide) [1, 2, 0, 3] rfl ?_
    refine k9_iinc (v := x3 + (1 : Int32)) (lv' := [(0, .ref (k9_ga G 76)), (1, .int x1), (2, .int (x2 + (((M 80 x3.toNatClampNeg) >>> ((M 84 x1.toNatClampNeg) &&& 31)) &&& (1 : Int32)))), (3, .int (x3 + (1 : Int32)))]) X dX7_holesOf_37 (k := 3) rfl (by rfl) (by decide) [1, 2, 3, 0] rfl ?_
    refine k9_goto (tgt := 9) X dX7_holesOf_40 (by decide) ?_
    exact (l2 c1)

theorem in_X7_playedNow_X7 : ∀ w ∈ u_ws RX7 TX7 19, w ∈ wsX7_playedNow := by decide +kernel
theorem fl_X7_playedNow_31 : Cond.fieldLink RX7 31 (TX7 10).1 (TX7 10).2.1 (TX7 10).2.2.1 ∈ wsX7_playedNow := by decide +kernel
theorem fl_X7_playedNow_34 : Cond.fieldLink RX7 34 (TX7 11).1 (TX7 11).2.1 (TX7 11).2.2.1 ∈ wsX7_playedNow := by decide +kernel
theorem fl_X7_playedNow_37 : Cond.fieldLink RX7 37 (TX7 12).1 (TX7 12).2.1 (TX7 12).2.2.1 ∈ wsX7_playedNow := by decide +kernel
set_option maxRecDepth 20000 in
theorem bk_X7_playedNow_0 (X : k9_X p R s m args c A G 3 cX7_playedNow wsX7_playedNow RX7 rm_X7_playedNow) {a0 a1 : Int32} {rv1 : Int32} {rv2 : Int32} {rv3 : Int32}
    (o1 : (a1 = (0 : Int32)) → vp_in a0 960)
    (l1 : (a1 = (0 : Int32)) → k9_U p l e R s m args below meth c Q A G 3 0 0 M 42 [] [.int (M 84 a0.toNatClampNeg)])
    (o2 : (a1 = (1 : Int32)) → vp_in a0 960)
    (l2 : (a1 = (1 : Int32)) → k9_U p l e R s m args below meth c Q A G 3 0 0 M 49 [] [.int (M 85 a0.toNatClampNeg)])
    (o3 : (a1 = (2 : Int32)) → vp_in a0 960)
    (l3 : (a1 = (2 : Int32)) → k9_U p l e R s m args below meth c Q A G 3 0 0 M 56 [] [.int (M 86 a0.toNatClampNeg)])
    (k1 : (a1 = (3 : Int32)) → k9_Ci l yX7_soundsTo wsX7_soundsTo rm_X7_soundsTo G M [.ref (k9_ga G 76), .int a0] rv1 M)
    (l4 : (a1 = (3 : Int32)) → k9_U p l e R s m args below meth c Q A G 3 0 0 M 62 [] [.int rv1])
    (k2 : (a1 = (4 : Int32)) → k9_Ci l yX7_holesOf wsX7_holesOf rm_X7_holesOf G M [.ref (k9_ga G 76), .int a0] rv2 M)
    (l5 : (a1 = (4 : Int32)) → k9_U p l e R s m args below meth c Q A G 3 0 0 M 68 [] [.int rv2])
    (k3 : (¬ a1 = (0 : Int32)) → (¬ a1 = (1 : Int32)) → (¬ a1 = (2 : Int32)) → (¬ a1 = (3 : Int32)) → (¬ a1 = (4 : Int32)) → k9_Ci l yX7_isRight wsX7_isRight rm_X7_isRight G M [.ref (k9_ga G 76), .int a0] rv3 M)
    (l6 : (¬ a1 = (0 : Int32)) → (¬ a1 = (1 : Int32)) → (¬ a1 = (2 : Int32)) → (¬ a1 = (3 : Int32)) → (¬ a1 = (4 : Int32)) → (rv3 = 0) → k9_U p l e R s m args below meth c Q A G 3 0 0 M 82 [] [.int (0 : Int32)])
    (l7 : (¬ a1 = (0 : Int32)) → (¬ a1 = (1 : Int32)) → (¬ a1 = (2 : Int32)) → (¬ a1 = (3 : Int32)) → (¬ a1 = (4 : Int32)) → (¬ (rv3 = 0)) → k9_U p l e R s m args below meth c Q A G 3 0 0 M 82 [] [.int (1 : Int32)]) : k9_U p l e R s m args below meth c Q A G 3 0 0 M 0 [(0, .ref (k9_ga G 76)), (1, .int a0), (2, .int a1)] [] := by
  refine k9_iload_n X dX7_playedNow_0 rfl 2 rfl ?_
  rcases Classical.em (a1 = (0 : Int32)) with c1 | c1
  · refine k9_tswIn (tgt := 36) X dX7_playedNow_1 (0 : Int32) c1 (by decide) (by decide) (by rfl) (by decide) ?_
    refine k9_aload_n X dX7_playedNow_36 rfl 0 rfl ?_
    refine k9_gX7_10 X in_X7_playedNow_X7 fl_X7_playedNow_31 dX7_playedNow_37 ?_
    refine k9_iload_n X dX7_playedNow_40 rfl 1 rfl ?_
    refine k9_iald X (by decide) (o1 c1) (by rfl) dX7_playedNow_41 ?_
    refine k9_sub (lv' := []) [] rfl ?_
    exact (l1 c1)
  rcases Classical.em (a1 = (1 : Int32)) with c2 | c2
  · refine k9_tswIn (tgt := 43) X dX7_playedNow_1 (1 : Int32) c2 (by decide) (by decide) (by rfl) (by decide) ?_
    refine k9_aload_n X dX7_playedNow_43 rfl 0 rfl ?_
    refine k9_gX7_11 X in_X7_playedNow_X7 fl_X7_playedNow_34 dX7_playedNow_44 ?_
    refine k9_iload_n X dX7_playedNow_47 rfl 1 rfl ?_
    refine k9_iald X (by decide) (o2 c2) (by rfl) dX7_playedNow_48 ?_
    refine k9_sub (lv' := []) [] rfl ?_
    exact (l2 c2)
  rcases Classical.em (a1 = (2 : Int32)) with c3 | c3
  · refine k9_tswIn (tgt := 50) X dX7_playedNow_1 (2 : Int32) c3 (by decide) (by decide) (by rfl) (by decide) ?_
    refine k9_aload_n X dX7_playedNow_50 rfl 0 rfl ?_
    refine k9_gX7_12 X in_X7_playedNow_X7 fl_X7_playedNow_37 dX7_playedNow_51 ?_
    refine k9_iload_n X dX7_playedNow_54 rfl 1 rfl ?_
    refine k9_iald X (by decide) (o3 c3) (by rfl) dX7_playedNow_55 ?_
    refine k9_sub (lv' := []) [] rfl ?_
    exact (l3 c3)
  rcases Classical.em (a1 = (3 : Int32)) with c4 | c4
  · refine k9_tswIn (tgt := 57) X dX7_playedNow_1 (3 : Int32) c4 (by decide) (by decide) (by rfl) (by decide) ?_
    refine k9_aload_n X dX7_playedNow_57 rfl 0 rfl ?_
    refine k9_iload_n X dX7_playedNow_58 rfl 1 rfl ?_
    refine k9_callVi1 X (k1 c4) k9_ob_76 (cwV 1 X.2.2.2.2.1 gX7_playedNow_X7_soundsTo rfl rfl rfl (by decide +kernel) ⟨Nat.le_of_ble_eq_true rfl, Nat.le_of_ble_eq_true rfl⟩) (Nat.le_of_ble_eq_true rfl) dX7_playedNow_59 ⟨Nat.zero_le _, Nat.zero_le _⟩ ?_
    refine k9_sub (lv' := []) [] rfl ?_
    exact (l4 c4)
  rcases Classical.em (a1 = (4 : Int32)) with c5 | c5
  · refine k9_tswIn (tgt := 63) X dX7_playedNow_1 (4 : Int32) c5 (by decide) (by decide) (by rfl) (by decide) ?_
    refine k9_aload_n X dX7_playedNow_63 rfl 0 rfl ?_
    refine k9_iload_n X dX7_playedNow_64 rfl 1 rfl ?_
    refine k9_callVi1 X (k2 c5) k9_ob_76 (cwV 1 X.2.2.2.2.1 gX7_playedNow_X7_holesOf rfl rfl rfl (by decide +kernel) ⟨Nat.le_of_ble_eq_true rfl, Nat.le_of_ble_eq_true rfl⟩) (Nat.le_of_ble_eq_true rfl) dX7_playedNow_65 ⟨Nat.zero_le _, Nat.zero_le _⟩ ?_
    refine k9_sub (lv' := []) [] rfl ?_
    exact (l5 c5)
  refine k9_tswOut (tgt := 69) X dX7_playedNow_1 (k9_swOut 5 (by decide) (by intro j hj; rcases (show j = 0 ∨ j = 1 ∨ j = 2 ∨ j = 3 ∨ j = 4 by omega) with rfl | rfl | rfl | rfl | rfl <;> assumption)) (by decide) (by decide) ?_
  refine k9_aload_n X dX7_playedNow_69 rfl 0 rfl ?_
  refine k9_iload_n X dX7_playedNow_70 rfl 1 rfl ?_
  refine k9_callVi1 X (k3 c1 c2 c3 c4 c5) k9_ob_76 (cwV 1 X.2.2.2.2.1 gX7_playedNow_X7_isRight rfl rfl rfl (by decide +kernel) ⟨Nat.le_of_ble_eq_true rfl, Nat.le_of_ble_eq_true rfl⟩) (Nat.le_of_ble_eq_true rfl) dX7_playedNow_71 ⟨Nat.zero_le _, Nat.zero_le _⟩ ?_
  refine k9_if_eq (tgt := 81) X dX7_playedNow_74 (by decide) (fun c6 => ?_) (fun c6 => ?_)
  · refine k9_iconst (v := 0) X dX7_playedNow_81 (by decide) ?_
    refine k9_sub (lv' := []) [] rfl ?_
    exact (l6 c1 c2 c3 c4 c5 c6)
  · refine k9_iconst (v := 1) X dX7_playedNow_77 (by decide) ?_
    refine k9_goto (tgt := 82) X dX7_playedNow_78 (by decide) ?_
    refine k9_sub (lv' := []) [] rfl ?_
    exact (l7 c1 c2 c3 c4 c5 c6)

end BK
