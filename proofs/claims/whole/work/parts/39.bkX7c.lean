section BK
variable {p : Program} {l : Launch} {e : Env} {R : Room} {s : State} {m : MethodId} {args : Array Value} {below : List Frame} {meth : Method} {c : Code} {Q : State → Prop} {A : Nat → Prop} {G : k9_G} {M : k9_Mem}
theorem in_X7_played_X7 : ∀ w ∈ u_ws RX7 TX7 19, w ∈ wsX7_played := by decide +kernel
theorem fl_X7_played_79 : Cond.fieldLink RX7 79 (TX7 13).1 (TX7 13).2.1 (TX7 13).2.2.1 ∈ wsX7_played := by decide +kernel
theorem fl_X7_played_46 : Cond.fieldLink RX7 46 (TX7 5).1 (TX7 5).2.1 (TX7 5).2.2.1 ∈ wsX7_played := by decide +kernel
set_option maxRecDepth 20000 in
theorem bk_X7_played_0 (X : k9_X p R s m args c A G 3 cX7_played wsX7_played RX7 rm_X7_played) {a0 a1 : Int32} {mv1 : k9_Mem} {rv2 : Int32} {rv3 : Int32} {rv4 : Int32}
    (k1 : k9_Cv l yX7_lay wsX7_lay rm_X7_lay G M [.ref (k9_ga G 76)] mv1)
    (k2 : k9_Ci l yX7_within wsX7_within rm_X7_within G mv1 [.int a0, .int (0 : Int32), .int ((mv1 76 13) - (1 : Int32))] rv2 mv1)
    (k3 : (¬ rv2 = 0) → k9_Ci l yX7_within wsX7_within rm_X7_within G mv1 [.int a1, .int (0 : Int32), .int (5 : Int32)] rv3 mv1)
    (l1 : (¬ rv2 = 0) → (rv3 = 0) → k9_U p l e R s m args below meth c Q A G 3 0 0 (k9_st mv1 76 5 (2 : Int32)) 57 [] [.int (0 : Int32)])
    (k4 : (¬ rv2 = 0) → (¬ (rv3 = 0)) → k9_Ci l yX7_playedNow wsX7_playedNow rm_X7_playedNow G (k9_st mv1 76 5 (0 : Int32)) [.ref (k9_ga G 76), .int a0, .int a1] rv4 (k9_st mv1 76 5 (0 : Int32)))
    (l2 : (¬ rv2 = 0) → (¬ (rv3 = 0)) → k9_U p l e R s m args below meth c Q A G 3 0 0 (k9_st mv1 76 5 (0 : Int32)) 57 [] [.int rv4])
    (l3 : (rv2 = 0) → k9_U p l e R s m args below meth c Q A G 3 0 0 (k9_st mv1 76 5 (1 : Int32)) 57 [] [.int (0 : Int32)]) : k9_U p l e R s m args below meth c Q A G 3 0 0 M 0 [(0, .ref (k9_ga G 76)), (1, .int a0), (2, .int a1)] [] := by
  refine k9_aload_n X dX7_played_0 rfl 0 rfl ?_
  refine k9_callVv0 X k1 k9_ob_76 (cwV 0 X.2.2.2.2.1 gX7_played_X7_lay rfl rfl rfl (by decide +kernel) ⟨Nat.le_of_ble_eq_true rfl, Nat.le_of_ble_eq_true rfl⟩) (Nat.le_of_ble_eq_true rfl) dX7_played_1 ⟨Nat.zero_le _, Nat.zero_le _⟩ ?_
  refine k9_aload_n X dX7_played_4 rfl 0 rfl ?_
  refine k9_iload_n X dX7_played_5 rfl 1 rfl ?_
  refine k9_iconst (v := 0) X dX7_played_6 (by decide) ?_
  refine k9_aload_n X dX7_played_7 rfl 0 rfl ?_
  refine k9_gX7_13 X (by rfl) in_X7_played_X7 fl_X7_played_79 dX7_played_8 ?_
  refine k9_iconst (v := 1) X dX7_played_11 (by decide) ?_
  refine k9_isub X dX7_played_12 ?_
  refine k9_callSi3 X k2  (va_cwS 3 X.2.2.2.2.1 gX7_played_X7_within rfl rfl rfl (by decide +kernel) ⟨Nat.le_of_ble_eq_true rfl, Nat.le_of_ble_eq_true rfl⟩) (Nat.le_of_ble_eq_true rfl) dX7_played_13 ⟨Nat.zero_le _, Nat.zero_le _⟩ ?_
  refine k9_if_ne (tgt := 23) X dX7_played_16 (by decide) (fun c1 => ?_) (fun c1 => ?_)
  · refine k9_iload_n X dX7_played_23 rfl 2 rfl ?_
    refine k9_iconst (v := 0) X dX7_played_24 (by decide) ?_
    refine k9_iconst (v := 5) X dX7_played_25 (by decide) ?_
    refine k9_callSi3 X (k3 c1)  (va_cwS 3 X.2.2.2.2.1 gX7_played_X7_within rfl rfl rfl (by decide +kernel) ⟨Nat.le_of_ble_eq_true rfl, Nat.le_of_ble_eq_true rfl⟩) (Nat.le_of_ble_eq_true rfl) dX7_played_26 ⟨Nat.zero_le _, Nat.zero_le _⟩ ?_
    refine k9_if_eq (tgt := 36) X dX7_played_29 (by decide) (fun c2 => ?_) (fun c2 => ?_)
    · refine k9_iconst (v := 2) X dX7_played_36 (by decide) ?_
      refine k9_pX7_5 X in_X7_played_X7 fl_X7_played_46 dX7_played_37 ?_
      refine k9_aload_n X dX7_played_40 rfl 0 rfl ?_
      refine k9_gX7_5 (v := (2 : Int32)) X (by rfl) in_X7_played_X7 fl_X7_played_46 dX7_played_41 ?_
      refine k9_if_le (tgt := 51) X dX7_played_44 (by decide) (fun c => absurd c (by decide)) (fun _ => ?_)
      refine k9_iconst (v := 0) X dX7_played_47 (by decide) ?_
      refine k9_goto (tgt := 57) X dX7_played_48 (by decide) ?_
      refine k9_sub (lv' := []) [] rfl ?_
      exact (l1 c1 c2)
    · refine k9_iconst (v := 0) X dX7_played_32 (by decide) ?_
      refine k9_goto (tgt := 37) X dX7_played_33 (by decide) ?_
      refine k9_pX7_5 X in_X7_played_X7 fl_X7_played_46 dX7_played_37 ?_
      refine k9_aload_n X dX7_played_40 rfl 0 rfl ?_
      refine k9_gX7_5 (v := (0 : Int32)) X (by rfl) in_X7_played_X7 fl_X7_played_46 dX7_played_41 ?_
      refine k9_if_le (tgt := 51) X dX7_played_44 (by decide) (fun _ => ?_) (fun c => absurd c (by decide))
      refine k9_aload_n X dX7_played_51 rfl 0 rfl ?_
      refine k9_iload_n X dX7_played_52 rfl 1 rfl ?_
      refine k9_iload_n X dX7_played_53 rfl 2 rfl ?_
      refine k9_callVi2 X (k4 c1 c2) k9_ob_76 (cwV 2 X.2.2.2.2.1 gX7_played_X7_playedNow rfl rfl rfl (by decide +kernel) ⟨Nat.le_of_ble_eq_true rfl, Nat.le_of_ble_eq_true rfl⟩) (Nat.le_of_ble_eq_true rfl) dX7_played_54 ⟨Nat.zero_le _, Nat.zero_le _⟩ ?_
      refine k9_sub (lv' := []) [] rfl ?_
      exact (l2 c1 c2)
  · refine k9_iconst (v := 1) X dX7_played_19 (by decide) ?_
    refine k9_goto (tgt := 37) X dX7_played_20 (by decide) ?_
    refine k9_pX7_5 X in_X7_played_X7 fl_X7_played_46 dX7_played_37 ?_
    refine k9_aload_n X dX7_played_40 rfl 0 rfl ?_
    refine k9_gX7_5 (v := (1 : Int32)) X (by rfl) in_X7_played_X7 fl_X7_played_46 dX7_played_41 ?_
    refine k9_if_le (tgt := 51) X dX7_played_44 (by decide) (fun c => absurd c (by decide)) (fun _ => ?_)
    refine k9_iconst (v := 0) X dX7_played_47 (by decide) ?_
    refine k9_goto (tgt := 57) X dX7_played_48 (by decide) ?_
    refine k9_sub (lv' := []) [] rfl ?_
    exact (l3 c1)

theorem in_X7_tuneAt_X7 : ∀ w ∈ u_ws RX7 TX7 19, w ∈ wsX7_tuneAt := by decide +kernel
theorem fl_X7_tuneAt_7 : Cond.fieldLink RX7 7 (TX7 0).1 (TX7 0).2.1 (TX7 0).2.2.1 ∈ wsX7_tuneAt := by decide +kernel
set_option maxRecDepth 20000 in
theorem bk_X7_tuneAt_0 (X : k9_X p R s m args c A G 4 cX7_tuneAt wsX7_tuneAt RX7 rm_X7_tuneAt) {a0 : Int32}
    (l1 : k9_U p l e R s m args below meth c Q A G 4 0 0 M 4 [(0, .ref (k9_ga G 76)), (2, .int a0), (3, .int (0 : Int32))] []) : k9_U p l e R s m args below meth c Q A G 4 0 0 M 0 [(0, .ref (k9_ga G 76)), (1, .int a0)] [] := by
  refine k9_iload_n X dX7_tuneAt_0 rfl 1 rfl ?_
  refine k9_istore_n (lv' := [(0, .ref (k9_ga G 76)), (1, .int a0), (2, .int a0)]) X dX7_tuneAt_1 rfl (by decide) [1, 2, 0] rfl ?_
  refine k9_iconst (v := 0) X dX7_tuneAt_2 (by decide) ?_
  refine k9_istore_n (lv' := [(0, .ref (k9_ga G 76)), (1, .int a0), (2, .int a0), (3, .int (0 : Int32))]) X dX7_tuneAt_3 rfl (by decide) [1, 2, 3, 0] rfl ?_
  refine k9_sub (lv' := [(0, .ref (k9_ga G 76)), (2, .int a0), (3, .int (0 : Int32))]) [0, 2, 3] rfl ?_
  exact l1

set_option maxRecDepth 20000 in
theorem bk_X7_tuneAt_4 (X : k9_X p R s m args c A G 4 cX7_tuneAt wsX7_tuneAt RX7 rm_X7_tuneAt) {x2 x3 : Int32}
    (o1 : (0 < x2) → vp_in ((386 : Int32) + (x3 / (20 : Int32))) 578)
    (l1 : (0 < x2) → k9_U p l e R s m args below meth c Q A G 4 0 0 M 4 [(0, .ref (k9_ga G 76)), (2, .int (x2 - (((M 77 ((386 : Int32) + (x3 / (20 : Int32))).toNatClampNeg) >>> ((x3 - x3 / (20 : Int32) * (20 : Int32)) &&& 31)) &&& (1 : Int32)))), (3, .int (x3 + (1 : Int32)))] [])
    (o2 : (¬ (0 < x2)) → vp_in ((386 : Int32) + (x3 / (20 : Int32))) 578)
    (l2 : (¬ (0 < x2)) → (¬ (((M 77 ((386 : Int32) + (x3 / (20 : Int32))).toNatClampNeg) >>> ((x3 - x3 / (20 : Int32) * (20 : Int32)) &&& 31)) &&& (1 : Int32)) = 0) → k9_U p l e R s m args below meth c Q A G 4 0 0 M 61 [] [.int x3])
    (l3 : (¬ (0 < x2)) → ((((M 77 ((386 : Int32) + (x3 / (20 : Int32))).toNatClampNeg) >>> ((x3 - x3 / (20 : Int32) * (20 : Int32)) &&& 31)) &&& (1 : Int32)) = 0) → k9_U p l e R s m args below meth c Q A G 4 0 0 M 4 [(0, .ref (k9_ga G 76)), (2, .int (x2 - (((M 77 ((386 : Int32) + (x3 / (20 : Int32))).toNatClampNeg) >>> ((x3 - x3 / (20 : Int32) * (20 : Int32)) &&& 31)) &&& (1 : Int32)))), (3, .int (x3 + (1 : Int32)))] []) : k9_U p l e R s m args below meth c Q A G 4 0 0 M 4 [(0, .ref (k9_ga G 76)), (2, .int x2), (3, .int x3)] [] := by
  refine k9_iload_n X dX7_tuneAt_4 rfl 1 rfl ?_
  refine k9_if_gt (tgt := 31) X dX7_tuneAt_5 (by decide) (fun c1 => ?_) (fun c1 => ?_)
  · refine k9_iload_n X dX7_tuneAt_31 rfl 1 rfl ?_
    refine k9_aload_n X dX7_tuneAt_32 rfl 0 rfl ?_
    refine k9_gX7_0 X in_X7_tuneAt_X7 fl_X7_tuneAt_7 dX7_tuneAt_33 ?_
    refine k9_sipush (v := 386) X dX7_tuneAt_36 (by decide) ?_
    refine k9_iload_n X dX7_tuneAt_39 rfl 2 rfl ?_
    refine k9_bipush (v := 20) X dX7_tuneAt_40 (by decide) ?_
    refine k9_idiv X dX7_tuneAt_42 (by decide) ?_
    refine k9_iadd X dX7_tuneAt_43 ?_
    refine k9_iald X (by decide) (o1 c1) (by rfl) dX7_tuneAt_44 ?_
    refine k9_iload_n X dX7_tuneAt_45 rfl 2 rfl ?_
    refine k9_bipush (v := 20) X dX7_tuneAt_46 (by decide) ?_
    refine k9_irem X dX7_tuneAt_48 (by decide) ?_
    refine k9_ishr X dX7_tuneAt_49 ?_
    refine k9_iconst (v := 1) X dX7_tuneAt_50 (by decide) ?_
    refine k9_iand X dX7_tuneAt_51 ?_
    refine k9_isub X dX7_tuneAt_52 ?_
    refine k9_istore_n (lv' := [(0, .ref (k9_ga G 76)), (2, .int (x2 - (((M 77 ((386 : Int32) + (x3 / (20 : Int32))).toNatClampNeg) >>> ((x3 - x3 / (20 : Int32) * (20 : Int32)) &&& 31)) &&& (1 : Int32)))), (3, .int x3)]) X dX7_tuneAt_53 rfl (by decide) [1, 0, 2] rfl ?_
    refine k9_iinc (v := x3 + (1 : Int32)) (lv' := [(0, .ref (k9_ga G 76)), (2, .int (x2 - (((M 77 ((386 : Int32) + (x3 / (20 : Int32))).toNatClampNeg) >>> ((x3 - x3 / (20 : Int32) * (20 : Int32)) &&& 31)) &&& (1 : Int32)))), (3, .int (x3 + (1 : Int32)))]) X dX7_tuneAt_54 (k := 2) rfl (by rfl) (by decide) [1, 2, 0] rfl ?_
    refine k9_goto (tgt := 4) X dX7_tuneAt_57 (by decide) ?_
    exact (l1 c1)
  · refine k9_aload_n X dX7_tuneAt_8 rfl 0 rfl ?_
    refine k9_gX7_0 X in_X7_tuneAt_X7 fl_X7_tuneAt_7 dX7_tuneAt_9 ?_
    refine k9_sipush (v := 386) X dX7_tuneAt_12 (by decide) ?_
    refine k9_iload_n X dX7_tuneAt_15 rfl 2 rfl ?_
    refine k9_bipush (v := 20) X dX7_tuneAt_16 (by decide) ?_
    refine k9_idiv X dX7_tuneAt_18 (by decide) ?_
    refine k9_iadd X dX7_tuneAt_19 ?_
    refine k9_iald X (by decide) (o2 c1) (by rfl) dX7_tuneAt_20 ?_
    refine k9_iload_n X dX7_tuneAt_21 rfl 2 rfl ?_
    refine k9_bipush (v := 20) X dX7_tuneAt_22 (by decide) ?_
    refine k9_irem X dX7_tuneAt_24 (by decide) ?_
    refine k9_ishr X dX7_tuneAt_25 ?_
    refine k9_iconst (v := 1) X dX7_tuneAt_26 (by decide) ?_
    refine k9_iand X dX7_tuneAt_27 ?_
    refine k9_if_ne (tgt := 60) X dX7_tuneAt_28 (by decide) (fun c2 => ?_) (fun c2 => ?_)
    · refine k9_iload_n X dX7_tuneAt_60 rfl 2 rfl ?_
      refine k9_sub (lv' := []) [] rfl ?_
      exact (l2 c1 c2)
    · refine k9_iload_n X dX7_tuneAt_31 rfl 1 rfl ?_
      refine k9_aload_n X dX7_tuneAt_32 rfl 0 rfl ?_
      refine k9_gX7_0 X in_X7_tuneAt_X7 fl_X7_tuneAt_7 dX7_tuneAt_33 ?_
      refine k9_sipush (v := 386) X dX7_tuneAt_36 (by decide) ?_
      refine k9_iload_n X dX7_tuneAt_39 rfl 2 rfl ?_
      refine k9_bipush (v := 20) X dX7_tuneAt_40 (by decide) ?_
      refine k9_idiv X dX7_tuneAt_42 (by decide) ?_
      refine k9_iadd X dX7_tuneAt_43 ?_
      refine k9_iald X (by decide) (o2 c1) (by rfl) dX7_tuneAt_44 ?_
      refine k9_iload_n X dX7_tuneAt_45 rfl 2 rfl ?_
      refine k9_bipush (v := 20) X dX7_tuneAt_46 (by decide) ?_
      refine k9_irem X dX7_tuneAt_48 (by decide) ?_
      refine k9_ishr X dX7_tuneAt_49 ?_
      refine k9_iconst (v := 1) X dX7_tuneAt_50 (by decide) ?_
      refine k9_iand X dX7_tuneAt_51 ?_
      refine k9_isub X dX7_tuneAt_52 ?_
      refine k9_istore_n (lv' := [(0, .ref (k9_ga G 76)), (2, .int (x2 - (((M 77 ((386 : Int32) + (x3 / (20 : Int32))).toNatClampNeg) >>> ((x3 - x3 / (20 : Int32) * (20 : Int32)) &&& 31)) &&& (1 : Int32)))), (3, .int x3)]) X dX7_tuneAt_53 rfl (by decide) [1, 0, 2] rfl ?_
      refine k9_iinc (v := x3 + (1 : Int32)) (lv' := [(0, .ref (k9_ga G 76)), (2, .int (x2 - (((M 77 ((386 : Int32) + (x3 / (20 : Int32))).toNatClampNeg) >>> ((x3 - x3 / (20 : Int32) * (20 : Int32)) &&& 31)) &&& (1 : Int32)))), (3, .int (x3 + (1 : Int32)))]) X dX7_tuneAt_54 (k := 2) rfl (by rfl) (by decide) [1, 2, 0] rfl ?_
      refine k9_goto (tgt := 4) X dX7_tuneAt_57 (by decide) ?_
      exact (l3 c1 c2)

theorem in_X7_isMissing_X7 : ∀ w ∈ u_ws RX7 TX7 19, w ∈ wsX7_isMissing := by decide +kernel
theorem fl_X7_isMissing_22 : Cond.fieldLink RX7 22 (TX7 7).1 (TX7 7).2.1 (TX7 7).2.2.1 ∈ wsX7_isMissing := by decide +kernel
theorem fl_X7_isMissing_25 : Cond.fieldLink RX7 25 (TX7 8).1 (TX7 8).2.1 (TX7 8).2.2.1 ∈ wsX7_isMissing := by decide +kernel
set_option maxRecDepth 20000 in
theorem bk_X7_isMissing_0 (X : k9_X p R s m args c A G 4 cX7_isMissing wsX7_isMissing RX7 rm_X7_isMissing) {a0 a1 : Int32} {rv1 : Int32} {rv2 : Int32}
    (o1 : vp_in a1 96)
    (l1 : (¬ (((M 81 a1.toNatClampNeg) >>> (a0 &&& 31)) &&& (1 : Int32)) = (1 : Int32)) → k9_U p l e R s m args below meth c Q A G 4 0 0 M 47 [] [.int (1 : Int32)])
    (k1 : ((((M 81 a1.toNatClampNeg) >>> (a0 &&& 31)) &&& (1 : Int32)) = (1 : Int32)) → k9_Ci l yX7_endFrom wsX7_endFrom rm_X7_endFrom G M [.ref (k9_ga G 82), .int a0, .int a1] rv1 M)
    (k2 : ((((M 81 a1.toNatClampNeg) >>> (a0 &&& 31)) &&& (1 : Int32)) = (1 : Int32)) → k9_Ci l yX7_tuneLast wsX7_tuneLast rm_X7_tuneLast G M [.ref (k9_ga G 76), .int a0, .int a1] rv2 M)
    (l2 : ((((M 81 a1.toNatClampNeg) >>> (a0 &&& 31)) &&& (1 : Int32)) = (1 : Int32)) → (rv1 = rv2) → k9_U p l e R s m args below meth c Q A G 4 0 0 M 47 [] [.int (0 : Int32)])
    (l3 : ((((M 81 a1.toNatClampNeg) >>> (a0 &&& 31)) &&& (1 : Int32)) = (1 : Int32)) → (¬ (rv1 = rv2)) → k9_U p l e R s m args below meth c Q A G 4 0 0 M 47 [] [.int (1 : Int32)]) : k9_U p l e R s m args below meth c Q A G 4 0 0 M 0 [(0, .ref (k9_ga G 76)), (1, .int a0), (2, .int a1)] [] := by
  refine k9_aload_n X dX7_isMissing_0 rfl 0 rfl ?_
  refine k9_gX7_7 X in_X7_isMissing_X7 fl_X7_isMissing_22 dX7_isMissing_1 ?_
  refine k9_iload_n X dX7_isMissing_4 rfl 2 rfl ?_
  refine k9_iald X (by decide) o1 (by rfl) dX7_isMissing_5 ?_
  refine k9_iload_n X dX7_isMissing_6 rfl 1 rfl ?_
  refine k9_ishr X dX7_isMissing_7 ?_
  refine k9_iconst (v := 1) X dX7_isMissing_8 (by decide) ?_
  refine k9_iand X dX7_isMissing_9 ?_
  refine k9_iconst (v := 1) X dX7_isMissing_10 (by decide) ?_
  refine k9_icmp_ne (tgt := 18) X dX7_isMissing_11 (by decide) (fun c1 => ?_) (fun c1 => ?_)
  · refine k9_iconst (v := 0) X dX7_isMissing_18 (by decide) ?_
    refine k9_istore_n (lv' := [(0, .ref (k9_ga G 76)), (1, .int a0), (2, .int a1), (3, .int (0 : Int32))]) X dX7_isMissing_19 rfl (by decide) [1, 2, 3, 0] rfl ?_
    refine k9_iload_n X dX7_isMissing_20 rfl 3 rfl ?_
    refine k9_if_eq (tgt := 42) X dX7_isMissing_21 (by decide) (fun _ => ?_) (fun c => absurd c (by decide))
    refine k9_iconst (v := 1) X dX7_isMissing_42 (by decide) ?_
    refine k9_goto (tgt := 47) X dX7_isMissing_43 (by decide) ?_
    refine k9_sub (lv' := []) [] rfl ?_
    exact (l1 c1)
  · refine k9_iconst (v := 1) X dX7_isMissing_14 (by decide) ?_
    refine k9_goto (tgt := 19) X dX7_isMissing_15 (by decide) ?_
    refine k9_istore_n (lv' := [(0, .ref (k9_ga G 76)), (1, .int a0), (2, .int a1), (3, .int (1 : Int32))]) X dX7_isMissing_19 rfl (by decide) [1, 2, 3, 0] rfl ?_
    refine k9_iload_n X dX7_isMissing_20 rfl 3 rfl ?_
    refine k9_if_eq (tgt := 42) X dX7_isMissing_21 (by decide) (fun c => absurd c (by decide)) (fun _ => ?_)
    refine k9_aload_n X dX7_isMissing_24 rfl 0 rfl ?_
    refine k9_gX7_8 X in_X7_isMissing_X7 fl_X7_isMissing_25 dX7_isMissing_25 ?_
    refine k9_iload_n X dX7_isMissing_28 rfl 1 rfl ?_
    refine k9_iload_n X dX7_isMissing_29 rfl 2 rfl ?_
    refine k9_callSi3 X (k1 c1)  (va_cwS 3 X.2.2.2.2.1 gX7_isMissing_X7_endFrom rfl rfl rfl (by decide +kernel) ⟨Nat.le_of_ble_eq_true rfl, Nat.le_of_ble_eq_true rfl⟩) (Nat.le_of_ble_eq_true rfl) dX7_isMissing_30 ⟨Nat.zero_le _, Nat.zero_le _⟩ ?_
    refine k9_aload_n X dX7_isMissing_33 rfl 0 rfl ?_
    refine k9_iload_n X dX7_isMissing_34 rfl 1 rfl ?_
    refine k9_iload_n X dX7_isMissing_35 rfl 2 rfl ?_
    refine k9_callVi2 X (k2 c1) k9_ob_76 (cwV 2 X.2.2.2.2.1 gX7_isMissing_X7_tuneLast rfl rfl rfl (by decide +kernel) ⟨Nat.le_of_ble_eq_true rfl, Nat.le_of_ble_eq_true rfl⟩) (Nat.le_of_ble_eq_true rfl) dX7_isMissing_36 ⟨Nat.zero_le _, Nat.zero_le _⟩ ?_
    refine k9_icmp_eq (tgt := 46) X dX7_isMissing_39 (by decide) (fun c2 => ?_) (fun c2 => ?_)
    · refine k9_iconst (v := 0) X dX7_isMissing_46 (by decide) ?_
      refine k9_sub (lv' := []) [] rfl ?_
      exact (l2 c1 c2)
    · refine k9_iconst (v := 1) X dX7_isMissing_42 (by decide) ?_
      refine k9_goto (tgt := 47) X dX7_isMissing_43 (by decide) ?_
      refine k9_sub (lv' := []) [] rfl ?_
      exact (l3 c1 c2)

set_option maxRecDepth 20000 in
theorem bk_X7_tuneNow_0 (X : k9_X p R s m args c A G 5 cX7_tuneNow wsX7_tuneNow RX7 rm_X7_tuneNow) {a0 a1 : Int32} {rv1 : Int32} {rv2 : Int32} {rv3 : Int32} {rv4 : Int32}
    (k1 : k9_Ci l yX7_tuneAt wsX7_tuneAt rm_X7_tuneAt G M [.ref (k9_ga G 76), .int a0] rv1 M)
    (k2 : k9_Ci l yX7_tuneAt wsX7_tuneAt rm_X7_tuneAt G M [.ref (k9_ga G 76), .int a0] rv2 M)
    (l1 : (a1 = (0 : Int32)) → k9_U p l e R s m args below meth c Q A G 5 0 0 M 49 [] [.int (rv1 - rv1 / (20 : Int32) * (20 : Int32))])
    (l2 : (a1 = (1 : Int32)) → k9_U p l e R s m args below meth c Q A G 5 0 0 M 52 [] [.int (rv2 / (20 : Int32))])
    (k3 : (a1 = (2 : Int32)) → k9_Ci l yX7_tuneLast wsX7_tuneLast rm_X7_tuneLast G M [.ref (k9_ga G 76), .int (rv1 - rv1 / (20 : Int32) * (20 : Int32)), .int (rv2 / (20 : Int32))] rv3 M)
    (l3 : (a1 = (2 : Int32)) → k9_U p l e R s m args below meth c Q A G 5 0 0 M 60 [] [.int rv3])
    (k4 : (¬ a1 = (0 : Int32)) → (¬ a1 = (1 : Int32)) → (¬ a1 = (2 : Int32)) → k9_Ci l yX7_isMissing wsX7_isMissing rm_X7_isMissing G M [.ref (k9_ga G 76), .int (rv1 - rv1 / (20 : Int32) * (20 : Int32)), .int (rv2 / (20 : Int32))] rv4 M)
    (l4 : (¬ a1 = (0 : Int32)) → (¬ a1 = (1 : Int32)) → (¬ a1 = (2 : Int32)) → (rv4 = 0) → k9_U p l e R s m args below meth c Q A G 5 0 0 M 76 [] [.int (0 : Int32)])
    (l5 : (¬ a1 = (0 : Int32)) → (¬ a1 = (1 : Int32)) → (¬ a1 = (2 : Int32)) → (¬ (rv4 = 0)) → k9_U p l e R s m args below meth c Q A G 5 0 0 M 76 [] [.int (1 : Int32)]) : k9_U p l e R s m args below meth c Q A G 5 0 0 M 0 [(0, .ref (k9_ga G 76)), (1, .int a0), (2, .int a1)] [] := by
  refine k9_aload_n X dX7_tuneNow_0 rfl 0 rfl ?_
  refine k9_iload_n X dX7_tuneNow_1 rfl 1 rfl ?_
  refine k9_callVi1 X k1 k9_ob_76 (cwV 1 X.2.2.2.2.1 gX7_tuneNow_X7_tuneAt rfl rfl rfl (by decide +kernel) ⟨Nat.le_of_ble_eq_true rfl, Nat.le_of_ble_eq_true rfl⟩) (Nat.le_of_ble_eq_true rfl) dX7_tuneNow_2 ⟨Nat.zero_le _, Nat.zero_le _⟩ ?_
  refine k9_bipush (v := 20) X dX7_tuneNow_5 (by decide) ?_
  refine k9_irem X dX7_tuneNow_7 (by decide) ?_
  refine k9_istore_n (lv' := [(0, .ref (k9_ga G 76)), (1, .int a0), (2, .int a1), (3, .int (rv1 - rv1 / (20 : Int32) * (20 : Int32)))]) X dX7_tuneNow_8 rfl (by decide) [1, 2, 3, 0] rfl ?_
  refine k9_aload_n X dX7_tuneNow_9 rfl 0 rfl ?_
  refine k9_iload_n X dX7_tuneNow_10 rfl 1 rfl ?_
  refine k9_callVi1 X k2 k9_ob_76 (cwV 1 X.2.2.2.2.1 gX7_tuneNow_X7_tuneAt rfl rfl rfl (by decide +kernel) ⟨Nat.le_of_ble_eq_true rfl, Nat.le_of_ble_eq_true rfl⟩) (Nat.le_of_ble_eq_true rfl) dX7_tuneNow_11 ⟨Nat.zero_le _, Nat.zero_le _⟩ ?_
  refine k9_bipush (v := 20) X dX7_tuneNow_14 (by decide) ?_
  refine k9_idiv X dX7_tuneNow_16 (by decide) ?_
  refine k9_istore (lv' := [(0, .ref (k9_ga G 76)), (1, .int a0), (2, .int a1), (3, .int (rv1 - rv1 / (20 : Int32) * (20 : Int32))), (4, .int (rv2 / (20 : Int32)))]) X dX7_tuneNow_17 (by decide) [1, 2, 3, 4, 0] rfl ?_
  refine k9_iload_n X dX7_tuneNow_19 rfl 2 rfl ?_
  rcases Classical.em (a1 = (0 : Int32)) with c1 | c1
  · refine k9_tswIn (tgt := 48) X dX7_tuneNow_20 (0 : Int32) c1 (by decide) (by decide) (by rfl) (by decide) ?_
    refine k9_iload_n X dX7_tuneNow_48 rfl 3 rfl ?_
    refine k9_sub (lv' := []) [] rfl ?_
    exact (l1 c1)
  rcases Classical.em (a1 = (1 : Int32)) with c2 | c2
  · refine k9_tswIn (tgt := 50) X dX7_tuneNow_20 (1 : Int32) c2 (by decide) (by decide) (by rfl) (by decide) ?_
    refine k9_iload X dX7_tuneNow_50 4 rfl ?_
    refine k9_sub (lv' := []) [] rfl ?_
    exact (l2 c2)
  rcases Classical.em (a1 = (2 : Int32)) with c3 | c3
  · refine k9_tswIn (tgt := 53) X dX7_tuneNow_20 (2 : Int32) c3 (by decide) (by decide) (by rfl) (by decide) ?_
    refine k9_aload_n X dX7_tuneNow_53 rfl 0 rfl ?_
    refine k9_iload_n X dX7_tuneNow_54 rfl 3 rfl ?_
    refine k9_iload X dX7_tuneNow_55 4 rfl ?_
    refine k9_callVi2 X (k3 c3) k9_ob_76 (cwV 2 X.2.2.2.2.1 gX7_tuneNow_X7_tuneLast rfl rfl rfl (by decide +kernel) ⟨Nat.le_of_ble_eq_true rfl, Nat.le_of_ble_eq_true rfl⟩) (Nat.le_of_ble_eq_true rfl) dX7_tuneNow_57 ⟨Nat.zero_le _, Nat.zero_le _⟩ ?_
    refine k9_sub (lv' := []) [] rfl ?_
    exact (l3 c3)
  refine k9_tswOut (tgt := 61) X dX7_tuneNow_20 (k9_swOut 3 (by decide) (by intro j hj; rcases (show j = 0 ∨ j = 1 ∨ j = 2 by omega) with rfl | rfl | rfl <;> assumption)) (by decide) (by decide) ?_
  refine k9_aload_n X dX7_tuneNow_61 rfl 0 rfl ?_
  refine k9_iload_n X dX7_tuneNow_62 rfl 3 rfl ?_
  refine k9_iload X dX7_tuneNow_63 4 rfl ?_
  refine k9_callVi2 X (k4 c1 c2 c3) k9_ob_76 (cwV 2 X.2.2.2.2.1 gX7_tuneNow_X7_isMissing rfl rfl rfl (by decide +kernel) ⟨Nat.le_of_ble_eq_true rfl, Nat.le_of_ble_eq_true rfl⟩) (Nat.le_of_ble_eq_true rfl) dX7_tuneNow_65 ⟨Nat.zero_le _, Nat.zero_le _⟩ ?_
  refine k9_if_eq (tgt := 75) X dX7_tuneNow_68 (by decide) (fun c4 => ?_) (fun c4 => ?_)
  · refine k9_iconst (v := 0) X dX7_tuneNow_75 (by decide) ?_
    refine k9_sub (lv' := []) [] rfl ?_
    exact (l4 c1 c2 c3 c4)
  · refine k9_iconst (v := 1) X dX7_tuneNow_71 (by decide) ?_
    refine k9_goto (tgt := 76) X dX7_tuneNow_72 (by decide) ?_
    refine k9_sub (lv' := []) [] rfl ?_
    exact (l5 c1 c2 c3 c4)

theorem in_X7_tune_X7 : ∀ w ∈ u_ws RX7 TX7 19, w ∈ wsX7_tune := by decide +kernel
theorem fl_X7_tune_46 : Cond.fieldLink RX7 46 (TX7 5).1 (TX7 5).2.1 (TX7 5).2.2.1 ∈ wsX7_tune := by decide +kernel
set_option maxRecDepth 20000 in
theorem bk_X7_tune_0 (X : k9_X p R s m args c A G 3 cX7_tune wsX7_tune RX7 rm_X7_tune) {a0 a1 : Int32} {rv1 : Int32} {rv2 : Int32} {rv3 : Int32} {mv4 : k9_Mem} {rv5 : Int32}
    (k1 : k9_Ci l yX7_tuneNotes wsX7_tuneNotes rm_X7_tuneNotes G M [.ref (k9_ga G 76)] rv1 M)
    (k2 : k9_Ci l yX7_within wsX7_within rm_X7_within G M [.int a0, .int (0 : Int32), .int (rv1 - (1 : Int32))] rv2 M)
    (k3 : (¬ rv2 = 0) → k9_Ci l yX7_within wsX7_within rm_X7_within G M [.int a1, .int (0 : Int32), .int (3 : Int32)] rv3 M)
    (l1 : (¬ rv2 = 0) → (rv3 = 0) → k9_U p l e R s m args below meth c Q A G 3 0 0 (k9_st M 76 5 (2 : Int32)) 44 [] [.int (0 : Int32)])
    (k4 : (¬ rv2 = 0) → (¬ (rv3 = 0)) → k9_Cv l yX7_lay wsX7_lay rm_X7_lay G (k9_st M 76 5 (0 : Int32)) [.ref (k9_ga G 76)] mv4)
    (k5 : (¬ rv2 = 0) → (¬ (rv3 = 0)) → k9_Ci l yX7_tuneNow wsX7_tuneNow rm_X7_tuneNow G mv4 [.ref (k9_ga G 76), .int a0, .int a1] rv5 mv4)
    (l2 : (¬ rv2 = 0) → (¬ (rv3 = 0)) → k9_U p l e R s m args below meth c Q A G 3 0 0 mv4 55 [] [.int rv5])
    (l3 : (rv2 = 0) → k9_U p l e R s m args below meth c Q A G 3 0 0 (k9_st M 76 5 (1 : Int32)) 44 [] [.int (0 : Int32)]) : k9_U p l e R s m args below meth c Q A G 3 0 0 M 0 [(0, .ref (k9_ga G 76)), (1, .int a0), (2, .int a1)] [] := by
  refine k9_aload_n X dX7_tune_0 rfl 0 rfl ?_
  refine k9_iload_n X dX7_tune_1 rfl 1 rfl ?_
  refine k9_iconst (v := 0) X dX7_tune_2 (by decide) ?_
  refine k9_aload_n X dX7_tune_3 rfl 0 rfl ?_
  refine k9_callVi0 X k1 k9_ob_76 (cwV 0 X.2.2.2.2.1 gX7_tune_X7_tuneNotes rfl rfl rfl (by decide +kernel) ⟨Nat.le_of_ble_eq_true rfl, Nat.le_of_ble_eq_true rfl⟩) (Nat.le_of_ble_eq_true rfl) dX7_tune_4 ⟨Nat.zero_le _, Nat.zero_le _⟩ ?_
  refine k9_iconst (v := 1) X dX7_tune_7 (by decide) ?_
  refine k9_isub X dX7_tune_8 ?_
  refine k9_callSi3 X k2  (va_cwS 3 X.2.2.2.2.1 gX7_tune_X7_within rfl rfl rfl (by decide +kernel) ⟨Nat.le_of_ble_eq_true rfl, Nat.le_of_ble_eq_true rfl⟩) (Nat.le_of_ble_eq_true rfl) dX7_tune_9 ⟨Nat.zero_le _, Nat.zero_le _⟩ ?_
  refine k9_if_ne (tgt := 19) X dX7_tune_12 (by decide) (fun c1 => ?_) (fun c1 => ?_)
  · refine k9_iload_n X dX7_tune_19 rfl 2 rfl ?_
    refine k9_iconst (v := 0) X dX7_tune_20 (by decide) ?_
    refine k9_iconst (v := 3) X dX7_tune_21 (by decide) ?_
    refine k9_callSi3 X (k3 c1)  (va_cwS 3 X.2.2.2.2.1 gX7_tune_X7_within rfl rfl rfl (by decide +kernel) ⟨Nat.le_of_ble_eq_true rfl, Nat.le_of_ble_eq_true rfl⟩) (Nat.le_of_ble_eq_true rfl) dX7_tune_22 ⟨Nat.zero_le _, Nat.zero_le _⟩ ?_
    refine k9_if_eq (tgt := 32) X dX7_tune_25 (by decide) (fun c2 => ?_) (fun c2 => ?_)
    · refine k9_iconst (v := 2) X dX7_tune_32 (by decide) ?_
      refine k9_pX7_5 X in_X7_tune_X7 fl_X7_tune_46 dX7_tune_33 ?_
      refine k9_aload_n X dX7_tune_36 rfl 0 rfl ?_
      refine k9_gX7_5 (v := (2 : Int32)) X (by rfl) in_X7_tune_X7 fl_X7_tune_46 dX7_tune_37 ?_
      refine k9_if_le (tgt := 45) X dX7_tune_40 (by decide) (fun c => absurd c (by decide)) (fun _ => ?_)
      refine k9_iconst (v := 0) X dX7_tune_43 (by decide) ?_
      refine k9_sub (lv' := []) [] rfl ?_
      exact (l1 c1 c2)
    · refine k9_iconst (v := 0) X dX7_tune_28 (by decide) ?_
      refine k9_goto (tgt := 33) X dX7_tune_29 (by decide) ?_
      refine k9_pX7_5 X in_X7_tune_X7 fl_X7_tune_46 dX7_tune_33 ?_
      refine k9_aload_n X dX7_tune_36 rfl 0 rfl ?_
      refine k9_gX7_5 (v := (0 : Int32)) X (by rfl) in_X7_tune_X7 fl_X7_tune_46 dX7_tune_37 ?_
      refine k9_if_le (tgt := 45) X dX7_tune_40 (by decide) (fun _ => ?_) (fun c => absurd c (by decide))
      refine k9_aload_n X dX7_tune_45 rfl 0 rfl ?_
      refine k9_callVv0 X (k4 c1 c2) k9_ob_76 (cwV 0 X.2.2.2.2.1 gX7_tune_X7_lay rfl rfl rfl (by decide +kernel) ⟨Nat.le_of_ble_eq_true rfl, Nat.le_of_ble_eq_true rfl⟩) (Nat.le_of_ble_eq_true rfl) dX7_tune_46 ⟨Nat.zero_le _, Nat.zero_le _⟩ ?_
      refine k9_aload_n X dX7_tune_49 rfl 0 rfl ?_
      refine k9_iload_n X dX7_tune_50 rfl 1 rfl ?_
      refine k9_iload_n X dX7_tune_51 rfl 2 rfl ?_
      refine k9_callVi2 X (k5 c1 c2) k9_ob_76 (cwV 2 X.2.2.2.2.1 gX7_tune_X7_tuneNow rfl rfl rfl (by decide +kernel) ⟨Nat.le_of_ble_eq_true rfl, Nat.le_of_ble_eq_true rfl⟩) (Nat.le_of_ble_eq_true rfl) dX7_tune_52 ⟨Nat.zero_le _, Nat.zero_le _⟩ ?_
      refine k9_sub (lv' := []) [] rfl ?_
      exact (l2 c1 c2)
  · refine k9_iconst (v := 1) X dX7_tune_15 (by decide) ?_
    refine k9_goto (tgt := 33) X dX7_tune_16 (by decide) ?_
    refine k9_pX7_5 X in_X7_tune_X7 fl_X7_tune_46 dX7_tune_33 ?_
    refine k9_aload_n X dX7_tune_36 rfl 0 rfl ?_
    refine k9_gX7_5 (v := (1 : Int32)) X (by rfl) in_X7_tune_X7 fl_X7_tune_46 dX7_tune_37 ?_
    refine k9_if_le (tgt := 45) X dX7_tune_40 (by decide) (fun c => absurd c (by decide)) (fun _ => ?_)
    refine k9_iconst (v := 0) X dX7_tune_43 (by decide) ?_
    refine k9_sub (lv' := []) [] rfl ?_
    exact (l3 c1)

theorem in_X7_onesIn_X7 : ∀ w ∈ u_ws RX7 TX7 19, w ∈ wsX7_onesIn := by decide +kernel
theorem fl_X7_onesIn_7 : Cond.fieldLink RX7 7 (TX7 0).1 (TX7 0).2.1 (TX7 0).2.2.1 ∈ wsX7_onesIn := by decide +kernel
set_option maxRecDepth 20000 in
theorem bk_X7_onesIn_0 (X : k9_X p R s m args c A G 4 cX7_onesIn wsX7_onesIn RX7 rm_X7_onesIn) {a0 : Int32}
    (l1 : k9_U p l e R s m args below meth c Q A G 4 0 0 M 4 [(0, .ref (k9_ga G 76)), (1, .int a0), (2, .int (0 : Int32)), (3, .int (0 : Int32))] []) : k9_U p l e R s m args below meth c Q A G 4 0 0 M 0 [(0, .ref (k9_ga G 76)), (1, .int a0)] [] := by
  refine k9_iconst (v := 0) X dX7_onesIn_0 (by decide) ?_
  refine k9_istore_n (lv' := [(0, .ref (k9_ga G 76)), (1, .int a0), (2, .int (0 : Int32))]) X dX7_onesIn_1 rfl (by decide) [1, 2, 0] rfl ?_
  refine k9_iconst (v := 0) X dX7_onesIn_2 (by decide) ?_
  refine k9_istore_n (lv' := [(0, .ref (k9_ga G 76)), (1, .int a0), (2, .int (0 : Int32)), (3, .int (0 : Int32))]) X dX7_onesIn_3 rfl (by decide) [1, 2, 3, 0] rfl ?_
  exact l1

set_option maxRecDepth 20000 in
theorem bk_X7_onesIn_4 (X : k9_X p R s m args c A G 4 cX7_onesIn wsX7_onesIn RX7 rm_X7_onesIn) {x1 x2 x3 : Int32} {rv1 : Int32}
    (l1 : ((96 : Int32) ≤ x3) → k9_U p l e R s m args below meth c Q A G 4 0 0 M 31 [] [.int x2])
    (o1 : (¬ ((96 : Int32) ≤ x3)) → vp_in (x1 + x3) 578)
    (k1 : (¬ ((96 : Int32) ≤ x3)) → k9_Ci l yX7_ones wsX7_ones rm_X7_ones G M [.int (M 77 (x1 + x3).toNatClampNeg)] rv1 M)
    (l2 : (¬ ((96 : Int32) ≤ x3)) → k9_U p l e R s m args below meth c Q A G 4 0 0 M 4 [(0, .ref (k9_ga G 76)), (1, .int x1), (2, .int (x2 + rv1)), (3, .int (x3 + (1 : Int32)))] []) : k9_U p l e R s m args below meth c Q A G 4 0 0 M 4 [(0, .ref (k9_ga G 76)), (1, .int x1), (2, .int x2), (3, .int x3)] [] := by
  refine k9_iload_n X dX7_onesIn_4 rfl 3 rfl ?_
  refine k9_bipush (v := 96) X dX7_onesIn_5 (by decide) ?_
  refine k9_icmp_ge (tgt := 30) X dX7_onesIn_7 (by decide) (fun c1 => ?_) (fun c1 => ?_)
  · refine k9_iload_n X dX7_onesIn_30 rfl 2 rfl ?_
    refine k9_sub (lv' := []) [] rfl ?_
    exact (l1 c1)
  · refine k9_iload_n X dX7_onesIn_10 rfl 2 rfl ?_
    refine k9_aload_n X dX7_onesIn_11 rfl 0 rfl ?_
    refine k9_gX7_0 X in_X7_onesIn_X7 fl_X7_onesIn_7 dX7_onesIn_12 ?_
    refine k9_iload_n X dX7_onesIn_15 rfl 1 rfl ?_
    refine k9_iload_n X dX7_onesIn_16 rfl 3 rfl ?_
    refine k9_iadd X dX7_onesIn_17 ?_
    refine k9_iald X (by decide) (o1 c1) (by rfl) dX7_onesIn_18 ?_
    refine k9_callSi1 X (k1 c1)  (va_cwS 1 X.2.2.2.2.1 gX7_onesIn_X7_ones rfl rfl rfl (by decide +kernel) ⟨Nat.le_of_ble_eq_true rfl, Nat.le_of_ble_eq_true rfl⟩) (Nat.le_of_ble_eq_true rfl) dX7_onesIn_19 ⟨Nat.zero_le _, Nat.zero_le _⟩ ?_
    refine k9_iadd X dX7_onesIn_22 ?_
    refine k9_istore_n (lv' := [(0, .ref (k9_ga G 76)), (1, .int x1), (2, .int (x2 + rv1)), (3, .int x3)]) X dX7_onesIn_23 rfl (by decide) [1, 2, 0, 3] rfl ?_
    refine k9_iinc (v := x3 + (1 : Int32)) (lv' := [(0, .ref (k9_ga G 76)), (1, .int x1), (2, .int (x2 + rv1)), (3, .int (x3 + (1 : Int32)))]) X dX7_onesIn_24 (k := 3) rfl (by rfl) (by decide) [1, 2, 3, 0] rfl ?_
    refine k9_goto (tgt := 4) X dX7_onesIn_27 (by decide) ?_
    exact (l2 c1)

set_option maxRecDepth 20000 in
theorem bk_X7_openHoles_0 (X : k9_X p R s m args c A G 3 cX7_openHoles wsX7_openHoles RX7 rm_X7_openHoles) 
    (l1 : k9_U p l e R s m args below meth c Q A G 3 0 0 M 4 [(0, .ref (k9_ga G 76)), (1, .int (0 : Int32)), (2, .int (0 : Int32))] []) : k9_U p l e R s m args below meth c Q A G 3 0 0 M 0 [(0, .ref (k9_ga G 76))] [] := by
  refine k9_iconst (v := 0) X dX7_openHoles_0 (by decide) ?_
  refine k9_istore_n (lv' := [(0, .ref (k9_ga G 76)), (1, .int (0 : Int32))]) X dX7_openHoles_1 rfl (by decide) [1, 0] rfl ?_
  refine k9_iconst (v := 0) X dX7_openHoles_2 (by decide) ?_
  refine k9_istore_n (lv' := [(0, .ref (k9_ga G 76)), (1, .int (0 : Int32)), (2, .int (0 : Int32))]) X dX7_openHoles_3 rfl (by decide) [1, 2, 0] rfl ?_
  exact l1

set_option maxRecDepth 20000 in
theorem bk_X7_openHoles_4 (X : k9_X p R s m args c A G 3 cX7_openHoles wsX7_openHoles RX7 rm_X7_openHoles) {x1 x2 : Int32} {rv1 : Int32} {rv2 : Int32}
    (l1 : ((96 : Int32) ≤ x2) → k9_U p l e R s m args below meth c Q A G 3 0 0 M 28 [] [.int x1])
    (k1 : (¬ ((96 : Int32) ≤ x2)) → k9_Ci l yX7_openAt wsX7_openAt rm_X7_openAt G M [.ref (k9_ga G 76), .int x2] rv1 M)
    (k2 : (¬ ((96 : Int32) ≤ x2)) → k9_Ci l yX7_ones wsX7_ones rm_X7_ones G M [.int rv1] rv2 M)
    (l2 : (¬ ((96 : Int32) ≤ x2)) → k9_U p l e R s m args below meth c Q A G 3 0 0 M 4 [(0, .ref (k9_ga G 76)), (1, .int (x1 + rv2)), (2, .int (x2 + (1 : Int32)))] []) : k9_U p l e R s m args below meth c Q A G 3 0 0 M 4 [(0, .ref (k9_ga G 76)), (1, .int x1), (2, .int x2)] [] := by
  refine k9_iload_n X dX7_openHoles_4 rfl 2 rfl ?_
  refine k9_bipush (v := 96) X dX7_openHoles_5 (by decide) ?_
  refine k9_icmp_ge (tgt := 27) X dX7_openHoles_7 (by decide) (fun c1 => ?_) (fun c1 => ?_)
  · refine k9_iload_n X dX7_openHoles_27 rfl 1 rfl ?_
    refine k9_sub (lv' := []) [] rfl ?_
    exact (l1 c1)
  · refine k9_iload_n X dX7_openHoles_10 rfl 1 rfl ?_
    refine k9_aload_n X dX7_openHoles_11 rfl 0 rfl ?_
    refine k9_iload_n X dX7_openHoles_12 rfl 2 rfl ?_
    refine k9_callVi1 X (k1 c1) k9_ob_76 (cwV 1 X.2.2.2.2.1 gX7_openHoles_X7_openAt rfl rfl rfl (by decide +kernel) ⟨Nat.le_of_ble_eq_true rfl, Nat.le_of_ble_eq_true rfl⟩) (Nat.le_of_ble_eq_true rfl) dX7_openHoles_13 ⟨Nat.zero_le _, Nat.zero_le _⟩ ?_
    refine k9_callSi1 X (k2 c1)  (va_cwS 1 X.2.2.2.2.1 gX7_openHoles_X7_ones rfl rfl rfl (by decide +kernel) ⟨Nat.le_of_ble_eq_true rfl, Nat.le_of_ble_eq_true rfl⟩) (Nat.le_of_ble_eq_true rfl) dX7_openHoles_16 ⟨Nat.zero_le _, Nat.zero_le _⟩ ?_
    refine k9_iadd X dX7_openHoles_19 ?_
    refine k9_istore_n (lv' := [(0, .ref (k9_ga G 76)), (1, .int (x1 + rv2)), (2, .int x2)]) X dX7_openHoles_20 rfl (by decide) [1, 0, 2] rfl ?_
    refine k9_iinc (v := x2 + (1 : Int32)) (lv' := [(0, .ref (k9_ga G 76)), (1, .int (x1 + rv2)), (2, .int (x2 + (1 : Int32)))]) X dX7_openHoles_21 (k := 2) rfl (by rfl) (by decide) [1, 2, 0] rfl ?_
    refine k9_goto (tgt := 4) X dX7_openHoles_24 (by decide) ?_
    exact (l2 c1)

theorem in_X7_sumOf_X7 : ∀ w ∈ u_ws RX7 TX7 19, w ∈ wsX7_sumOf := by decide +kernel
theorem fl_X7_sumOf_22 : Cond.fieldLink RX7 22 (TX7 7).1 (TX7 7).2.1 (TX7 7).2.2.1 ∈ wsX7_sumOf := by decide +kernel
theorem fl_X7_sumOf_19 : Cond.fieldLink RX7 19 (TX7 6).1 (TX7 6).2.1 (TX7 6).2.2.1 ∈ wsX7_sumOf := by decide +kernel
theorem fl_X7_sumOf_7 : Cond.fieldLink RX7 7 (TX7 0).1 (TX7 0).2.1 (TX7 0).2.2.1 ∈ wsX7_sumOf := by decide +kernel
set_option maxRecDepth 20000 in
theorem bk_X7_sumOf_0 (X : k9_X p R s m args c A G 4 cX7_sumOf wsX7_sumOf RX7 rm_X7_sumOf) {a0 : Int32}
    (l1 : k9_U p l e R s m args below meth c Q A G 4 0 0 M 4 [(0, .ref (k9_ga G 76)), (1, .int a0), (2, .int (0 : Int32)), (3, .int (0 : Int32))] []) : k9_U p l e R s m args below meth c Q A G 4 0 0 M 0 [(0, .ref (k9_ga G 76)), (1, .int a0)] [] := by
  refine k9_iconst (v := 0) X dX7_sumOf_0 (by decide) ?_
  refine k9_istore_n (lv' := [(0, .ref (k9_ga G 76)), (1, .int a0), (2, .int (0 : Int32))]) X dX7_sumOf_1 rfl (by decide) [1, 2, 0] rfl ?_
  refine k9_iconst (v := 0) X dX7_sumOf_2 (by decide) ?_
  refine k9_istore_n (lv' := [(0, .ref (k9_ga G 76)), (1, .int a0), (2, .int (0 : Int32)), (3, .int (0 : Int32))]) X dX7_sumOf_3 rfl (by decide) [1, 2, 3, 0] rfl ?_
  exact l1

set_option maxRecDepth 20000 in
theorem bk_X7_sumOf_4 (X : k9_X p R s m args c A G 4 cX7_sumOf wsX7_sumOf RX7 rm_X7_sumOf) {x1 x2 x3 : Int32} {rv1 : Int32} {rv2 : Int32} {rv3 : Int32}
    (l1 : ((96 : Int32) ≤ x3) → k9_U p l e R s m args below meth c Q A G 4 0 0 M 138 [] [.int x2])
    (o1 : (¬ ((96 : Int32) ≤ x3)) → (x1 = (0 : Int32)) → vp_in x3 96)
    (l2 : (¬ ((96 : Int32) ≤ x3)) → (x1 = (0 : Int32)) → k9_U p l e R s m args below meth c Q A G 4 0 0 M 4 [(0, .ref (k9_ga G 76)), (1, .int x1), (2, .int (x2 + (((M 81 x3.toNatClampNeg) >>> ((20 : Int32) &&& 31)) &&& (1 : Int32)))), (3, .int (x3 + (1 : Int32)))] [])
    (k1 : (¬ ((96 : Int32) ≤ x3)) → (x1 = (1 : Int32)) → k9_Ci l yX7_isDown wsX7_isDown rm_X7_isDown G M [.ref (k9_ga G 76), .int x3] rv1 M)
    (l3 : (¬ ((96 : Int32) ≤ x3)) → (x1 = (1 : Int32)) → (rv1 = 0) → k9_U p l e R s m args below meth c Q A G 4 0 0 M 4 [(0, .ref (k9_ga G 76)), (1, .int x1), (2, .int (x2 + (0 : Int32))), (3, .int (x3 + (1 : Int32)))] [])
    (l4 : (¬ ((96 : Int32) ≤ x3)) → (x1 = (1 : Int32)) → (¬ (rv1 = 0)) → k9_U p l e R s m args below meth c Q A G 4 0 0 M 4 [(0, .ref (k9_ga G 76)), (1, .int x1), (2, .int (x2 + (1 : Int32))), (3, .int (x3 + (1 : Int32)))] [])
    (k2 : (¬ ((96 : Int32) ≤ x3)) → (x1 = (2 : Int32)) → k9_Ci l yX7_isWished wsX7_isWished rm_X7_isWished G M [.ref (k9_ga G 76), .int x3] rv2 M)
    (l5 : (¬ ((96 : Int32) ≤ x3)) → (x1 = (2 : Int32)) → (rv2 = 0) → k9_U p l e R s m args below meth c Q A G 4 0 0 M 4 [(0, .ref (k9_ga G 76)), (1, .int x1), (2, .int (x2 + (0 : Int32))), (3, .int (x3 + (1 : Int32)))] [])
    (l6 : (¬ ((96 : Int32) ≤ x3)) → (x1 = (2 : Int32)) → (¬ (rv2 = 0)) → k9_U p l e R s m args below meth c Q A G 4 0 0 M 4 [(0, .ref (k9_ga G 76)), (1, .int x1), (2, .int (x2 + (1 : Int32))), (3, .int (x3 + (1 : Int32)))] [])
    (o2 : (¬ ((96 : Int32) ≤ x3)) → (x1 = (3 : Int32)) → vp_in x3 96)
    (k3 : (¬ ((96 : Int32) ≤ x3)) → (x1 = (3 : Int32)) → k9_Ci l yX7_ones wsX7_ones rm_X7_ones G M [.int (M 80 x3.toNatClampNeg)] rv3 M)
    (l7 : (¬ ((96 : Int32) ≤ x3)) → (x1 = (3 : Int32)) → k9_U p l e R s m args below meth c Q A G 4 0 0 M 4 [(0, .ref (k9_ga G 76)), (1, .int x1), (2, .int (x2 + rv3)), (3, .int (x3 + (1 : Int32)))] [])
    (o3 : (¬ ((96 : Int32) ≤ x3)) → (¬ x1 = (0 : Int32)) → (¬ x1 = (1 : Int32)) → (¬ x1 = (2 : Int32)) → (¬ x1 = (3 : Int32)) → vp_in ((192 : Int32) + x3) 578)
    (l8 : (¬ ((96 : Int32) ≤ x3)) → (¬ x1 = (0 : Int32)) → (¬ x1 = (1 : Int32)) → (¬ x1 = (2 : Int32)) → (¬ x1 = (3 : Int32)) → (¬ (M 77 ((192 : Int32) + x3).toNatClampNeg) = 0) → k9_U p l e R s m args below meth c Q A G 4 0 0 M 4 [(0, .ref (k9_ga G 76)), (1, .int x1), (2, .int (x2 + (1 : Int32))), (3, .int (x3 + (1 : Int32)))] [])
    (l9 : (¬ ((96 : Int32) ≤ x3)) → (¬ x1 = (0 : Int32)) → (¬ x1 = (1 : Int32)) → (¬ x1 = (2 : Int32)) → (¬ x1 = (3 : Int32)) → ((M 77 ((192 : Int32) + x3).toNatClampNeg) = 0) → k9_U p l e R s m args below meth c Q A G 4 0 0 M 4 [(0, .ref (k9_ga G 76)), (1, .int x1), (2, .int (x2 + (0 : Int32))), (3, .int (x3 + (1 : Int32)))] []) : k9_U p l e R s m args below meth c Q A G 4 0 0 M 4 [(0, .ref (k9_ga G 76)), (1, .int x1), (2, .int x2), (3, .int x3)] [] := by
  refine k9_iload_n X dX7_sumOf_4 rfl 3 rfl ?_
  refine k9_bipush (v := 96) X dX7_sumOf_5 (by decide) ?_
  refine k9_icmp_ge (tgt := 137) X dX7_sumOf_7 (by decide) (fun c1 => ?_) (fun c1 => ?_)
  · refine k9_iload_n X dX7_sumOf_137 rfl 2 rfl ?_
    refine k9_sub (lv' := []) [] rfl ?_
    exact (l1 c1)
  · refine k9_iload_n X dX7_sumOf_10 rfl 1 rfl ?_
    rcases Classical.em (x1 = (0 : Int32)) with c2 | c2
    · refine k9_tswIn (tgt := 40) X dX7_sumOf_11 (0 : Int32) c2 (by decide) (by decide) (by rfl) (by decide) ?_
      refine k9_iload_n X dX7_sumOf_40 rfl 2 rfl ?_
      refine k9_aload_n X dX7_sumOf_41 rfl 0 rfl ?_
      refine k9_gX7_7 X in_X7_sumOf_X7 fl_X7_sumOf_22 dX7_sumOf_42 ?_
      refine k9_iload_n X dX7_sumOf_45 rfl 3 rfl ?_
      refine k9_iald X (by decide) (o1 c1 c2) (by rfl) dX7_sumOf_46 ?_
      refine k9_bipush (v := 20) X dX7_sumOf_47 (by decide) ?_
      refine k9_ishr X dX7_sumOf_49 ?_
      refine k9_iconst (v := 1) X dX7_sumOf_50 (by decide) ?_
      refine k9_iand X dX7_sumOf_51 ?_
      refine k9_iadd X dX7_sumOf_52 ?_
      refine k9_istore_n (lv' := [(0, .ref (k9_ga G 76)), (1, .int x1), (2, .int (x2 + (((M 81 x3.toNatClampNeg) >>> ((20 : Int32) &&& 31)) &&& (1 : Int32)))), (3, .int x3)]) X dX7_sumOf_53 rfl (by decide) [1, 2, 0, 3] rfl ?_
      refine k9_goto (tgt := 131) X dX7_sumOf_54 (by decide) ?_
      refine k9_iinc (v := x3 + (1 : Int32)) (lv' := [(0, .ref (k9_ga G 76)), (1, .int x1), (2, .int (x2 + (((M 81 x3.toNatClampNeg) >>> ((20 : Int32) &&& 31)) &&& (1 : Int32)))), (3, .int (x3 + (1 : Int32)))]) X dX7_sumOf_131 (k := 3) rfl (by rfl) (by decide) [1, 2, 3, 0] rfl ?_
      refine k9_goto (tgt := 4) X dX7_sumOf_134 (by decide) ?_
      exact (l2 c1 c2)
    rcases Classical.em (x1 = (1 : Int32)) with c3 | c3
    · refine k9_tswIn (tgt := 57) X dX7_sumOf_11 (1 : Int32) c3 (by decide) (by decide) (by rfl) (by decide) ?_
      refine k9_iload_n X dX7_sumOf_57 rfl 2 rfl ?_
      refine k9_aload_n X dX7_sumOf_58 rfl 0 rfl ?_
      refine k9_iload_n X dX7_sumOf_59 rfl 3 rfl ?_
      refine k9_callVi1 X (k1 c1 c3) k9_ob_76 (cwV 1 X.2.2.2.2.1 gX7_sumOf_X7_isDown rfl rfl rfl (by decide +kernel) ⟨Nat.le_of_ble_eq_true rfl, Nat.le_of_ble_eq_true rfl⟩) (Nat.le_of_ble_eq_true rfl) dX7_sumOf_60 ⟨Nat.zero_le _, Nat.zero_le _⟩ ?_
      refine k9_if_eq (tgt := 70) X dX7_sumOf_63 (by decide) (fun c4 => ?_) (fun c4 => ?_)
      · refine k9_iconst (v := 0) X dX7_sumOf_70 (by decide) ?_
        refine k9_iadd X dX7_sumOf_71 ?_
        refine k9_istore_n (lv' := [(0, .ref (k9_ga G 76)), (1, .int x1), (2, .int (x2 + (0 : Int32))), (3, .int x3)]) X dX7_sumOf_72 rfl (by decide) [1, 2, 0, 3] rfl ?_
        refine k9_goto (tgt := 131) X dX7_sumOf_73 (by decide) ?_
        refine k9_iinc (v := x3 + (1 : Int32)) (lv' := [(0, .ref (k9_ga G 76)), (1, .int x1), (2, .int (x2 + (0 : Int32))), (3, .int (x3 + (1 : Int32)))]) X dX7_sumOf_131 (k := 3) rfl (by rfl) (by decide) [1, 2, 3, 0] rfl ?_
        refine k9_goto (tgt := 4) X dX7_sumOf_134 (by decide) ?_
        exact (l3 c1 c3 c4)
      · refine k9_iconst (v := 1) X dX7_sumOf_66 (by decide) ?_
        refine k9_goto (tgt := 71) X dX7_sumOf_67 (by decide) ?_
        refine k9_iadd X dX7_sumOf_71 ?_
        refine k9_istore_n (lv' := [(0, .ref (k9_ga G 76)), (1, .int x1), (2, .int (x2 + (1 : Int32))), (3, .int x3)]) X dX7_sumOf_72 rfl (by decide) [1, 2, 0, 3] rfl ?_
        refine k9_goto (tgt := 131) X dX7_sumOf_73 (by decide) ?_
        refine k9_iinc (v := x3 + (1 : Int32)) (lv' := [(0, .ref (k9_ga G 76)), (1, .int x1), (2, .int (x2 + (1 : Int32))), (3, .int (x3 + (1 : Int32)))]) X dX7_sumOf_131 (k := 3) rfl (by rfl) (by decide) [1, 2, 3, 0] rfl ?_
        refine k9_goto (tgt := 4) X dX7_sumOf_134 (by decide) ?_
        exact (l4 c1 c3 c4)
    rcases Classical.em (x1 = (2 : Int32)) with c5 | c5
    · refine k9_tswIn (tgt := 76) X dX7_sumOf_11 (2 : Int32) c5 (by decide) (by decide) (by rfl) (by decide) ?_
      refine k9_iload_n X dX7_sumOf_76 rfl 2 rfl ?_
      refine k9_aload_n X dX7_sumOf_77 rfl 0 rfl ?_
      refine k9_iload_n X dX7_sumOf_78 rfl 3 rfl ?_
      refine k9_callVi1 X (k2 c1 c5) k9_ob_76 (cwV 1 X.2.2.2.2.1 gX7_sumOf_X7_isWished rfl rfl rfl (by decide +kernel) ⟨Nat.le_of_ble_eq_true rfl, Nat.le_of_ble_eq_true rfl⟩) (Nat.le_of_ble_eq_true rfl) dX7_sumOf_79 ⟨Nat.zero_le _, Nat.zero_le _⟩ ?_
      refine k9_if_eq (tgt := 89) X dX7_sumOf_82 (by decide) (fun c6 => ?_) (fun c6 => ?_)
      · refine k9_iconst (v := 0) X dX7_sumOf_89 (by decide) ?_
        refine k9_iadd X dX7_sumOf_90 ?_
        refine k9_istore_n (lv' := [(0, .ref (k9_ga G 76)), (1, .int x1), (2, .int (x2 + (0 : Int32))), (3, .int x3)]) X dX7_sumOf_91 rfl (by decide) [1, 2, 0, 3] rfl ?_
        refine k9_goto (tgt := 131) X dX7_sumOf_92 (by decide) ?_
        refine k9_iinc (v := x3 + (1 : Int32)) (lv' := [(0, .ref (k9_ga G 76)), (1, .int x1), (2, .int (x2 + (0 : Int32))), (3, .int (x3 + (1 : Int32)))]) X dX7_sumOf_131 (k := 3) rfl (by rfl) (by decide) [1, 2, 3, 0] rfl ?_
        refine k9_goto (tgt := 4) X dX7_sumOf_134 (by decide) ?_
        exact (l5 c1 c5 c6)
      · refine k9_iconst (v := 1) X dX7_sumOf_85 (by decide) ?_
        refine k9_goto (tgt := 90) X dX7_sumOf_86 (by decide) ?_
        refine k9_iadd X dX7_sumOf_90 ?_
        refine k9_istore_n (lv' := [(0, .ref (k9_ga G 76)), (1, .int x1), (2, .int (x2 + (1 : Int32))), (3, .int x3)]) X dX7_sumOf_91 rfl (by decide) [1, 2, 0, 3] rfl ?_
        refine k9_goto (tgt := 131) X dX7_sumOf_92 (by decide) ?_
        refine k9_iinc (v := x3 + (1 : Int32)) (lv' := [(0, .ref (k9_ga G 76)), (1, .int x1), (2, .int (x2 + (1 : Int32))), (3, .int (x3 + (1 : Int32)))]) X dX7_sumOf_131 (k := 3) rfl (by rfl) (by decide) [1, 2, 3, 0] rfl ?_
        refine k9_goto (tgt := 4) X dX7_sumOf_134 (by decide) ?_
        exact (l6 c1 c5 c6)
    rcases Classical.em (x1 = (3 : Int32)) with c7 | c7
    · refine k9_tswIn (tgt := 95) X dX7_sumOf_11 (3 : Int32) c7 (by decide) (by decide) (by rfl) (by decide) ?_
      refine k9_iload_n X dX7_sumOf_95 rfl 2 rfl ?_
      refine k9_aload_n X dX7_sumOf_96 rfl 0 rfl ?_
      refine k9_gX7_6 X in_X7_sumOf_X7 fl_X7_sumOf_19 dX7_sumOf_97 ?_
      refine k9_iload_n X dX7_sumOf_100 rfl 3 rfl ?_
      refine k9_iald X (by decide) (o2 c1 c7) (by rfl) dX7_sumOf_101 ?_
      refine k9_callSi1 X (k3 c1 c7)  (va_cwS 1 X.2.2.2.2.1 gX7_sumOf_X7_ones rfl rfl rfl (by decide +kernel) ⟨Nat.le_of_ble_eq_true rfl, Nat.le_of_ble_eq_true rfl⟩) (Nat.le_of_ble_eq_true rfl) dX7_sumOf_102 ⟨Nat.zero_le _, Nat.zero_le _⟩ ?_
      refine k9_iadd X dX7_sumOf_105 ?_
      refine k9_istore_n (lv' := [(0, .ref (k9_ga G 76)), (1, .int x1), (2, .int (x2 + rv3)), (3, .int x3)]) X dX7_sumOf_106 rfl (by decide) [1, 2, 0, 3] rfl ?_
      refine k9_goto (tgt := 131) X dX7_sumOf_107 (by decide) ?_
      refine k9_iinc (v := x3 + (1 : Int32)) (lv' := [(0, .ref (k9_ga G 76)), (1, .int x1), (2, .int (x2 + rv3)), (3, .int (x3 + (1 : Int32)))]) X dX7_sumOf_131 (k := 3) rfl (by rfl) (by decide) [1, 2, 3, 0] rfl ?_
      refine k9_goto (tgt := 4) X dX7_sumOf_134 (by decide) ?_
      exact (l7 c1 c7)
    refine k9_tswOut (tgt := 110) X dX7_sumOf_11 (k9_swOut 4 (by decide) (by intro j hj; rcases (show j = 0 ∨ j = 1 ∨ j = 2 ∨ j = 3 by omega) with rfl | rfl | rfl | rfl <;> assumption)) (by decide) (by decide) ?_
    refine k9_iload_n X dX7_sumOf_110 rfl 2 rfl ?_
    refine k9_aload_n X dX7_sumOf_111 rfl 0 rfl ?_
    refine k9_gX7_0 X in_X7_sumOf_X7 fl_X7_sumOf_7 dX7_sumOf_112 ?_
    refine k9_sipush (v := 192) X dX7_sumOf_115 (by decide) ?_
    refine k9_iload_n X dX7_sumOf_118 rfl 3 rfl ?_
    refine k9_iadd X dX7_sumOf_119 ?_
    refine k9_iald X (by decide) (o3 c1 c2 c3 c5 c7) (by rfl) dX7_sumOf_120 ?_
    refine k9_if_ne (tgt := 128) X dX7_sumOf_121 (by decide) (fun c8 => ?_) (fun c8 => ?_)
    · refine k9_iconst (v := 1) X dX7_sumOf_128 (by decide) ?_
      refine k9_iadd X dX7_sumOf_129 ?_
      refine k9_istore_n (lv' := [(0, .ref (k9_ga G 76)), (1, .int x1), (2, .int (x2 + (1 : Int32))), (3, .int x3)]) X dX7_sumOf_130 rfl (by decide) [1, 2, 0, 3] rfl ?_
      refine k9_iinc (v := x3 + (1 : Int32)) (lv' := [(0, .ref (k9_ga G 76)), (1, .int x1), (2, .int (x2 + (1 : Int32))), (3, .int (x3 + (1 : Int32)))]) X dX7_sumOf_131 (k := 3) rfl (by rfl) (by decide) [1, 2, 3, 0] rfl ?_
      refine k9_goto (tgt := 4) X dX7_sumOf_134 (by decide) ?_
      exact (l8 c1 c2 c3 c5 c7 c8)
    · refine k9_iconst (v := 0) X dX7_sumOf_124 (by decide) ?_
      refine k9_goto (tgt := 129) X dX7_sumOf_125 (by decide) ?_
      refine k9_iadd X dX7_sumOf_129 ?_
      refine k9_istore_n (lv' := [(0, .ref (k9_ga G 76)), (1, .int x1), (2, .int (x2 + (0 : Int32))), (3, .int x3)]) X dX7_sumOf_130 rfl (by decide) [1, 2, 0, 3] rfl ?_
      refine k9_iinc (v := x3 + (1 : Int32)) (lv' := [(0, .ref (k9_ga G 76)), (1, .int x1), (2, .int (x2 + (0 : Int32))), (3, .int (x3 + (1 : Int32)))]) X dX7_sumOf_131 (k := 3) rfl (by rfl) (by decide) [1, 2, 3, 0] rfl ?_
      refine k9_goto (tgt := 4) X dX7_sumOf_134 (by decide) ?_
      exact (l9 c1 c2 c3 c5 c7 c8)

theorem in_X7_wrongHoles_X7 : ∀ w ∈ u_ws RX7 TX7 19, w ∈ wsX7_wrongHoles := by decide +kernel
theorem fl_X7_wrongHoles_79 : Cond.fieldLink RX7 79 (TX7 13).1 (TX7 13).2.1 (TX7 13).2.2.1 ∈ wsX7_wrongHoles := by decide +kernel
set_option maxRecDepth 20000 in
theorem bk_X7_wrongHoles_0 (X : k9_X p R s m args c A G 3 cX7_wrongHoles wsX7_wrongHoles RX7 rm_X7_wrongHoles) 
    (l1 : k9_U p l e R s m args below meth c Q A G 3 0 0 M 4 [(0, .ref (k9_ga G 76)), (1, .int (0 : Int32)), (2, .int (0 : Int32))] []) : k9_U p l e R s m args below meth c Q A G 3 0 0 M 0 [(0, .ref (k9_ga G 76))] [] := by
  refine k9_iconst (v := 0) X dX7_wrongHoles_0 (by decide) ?_
  refine k9_istore_n (lv' := [(0, .ref (k9_ga G 76)), (1, .int (0 : Int32))]) X dX7_wrongHoles_1 rfl (by decide) [1, 0] rfl ?_
  refine k9_iconst (v := 0) X dX7_wrongHoles_2 (by decide) ?_
  refine k9_istore_n (lv' := [(0, .ref (k9_ga G 76)), (1, .int (0 : Int32)), (2, .int (0 : Int32))]) X dX7_wrongHoles_3 rfl (by decide) [1, 2, 0] rfl ?_
  exact l1

set_option maxRecDepth 20000 in
theorem bk_X7_wrongHoles_4 (X : k9_X p R s m args c A G 3 cX7_wrongHoles wsX7_wrongHoles RX7 rm_X7_wrongHoles) {x1 x2 : Int32} {rv1 : Int32} {rv2 : Int32}
    (l1 : ((M 76 13) ≤ x2) → k9_U p l e R s m args below meth c Q A G 3 0 0 M 39 [] [.int x1])
    (k1 : (¬ ((M 76 13) ≤ x2)) → k9_Ci l yX7_isRight wsX7_isRight rm_X7_isRight G M [.ref (k9_ga G 76), .int x2] rv1 M)
    (k2 : (¬ ((M 76 13) ≤ x2)) → (rv1 = 0) → k9_Ci l yX7_holesOf wsX7_holesOf rm_X7_holesOf G M [.ref (k9_ga G 76), .int x2] rv2 M)
    (l2 : (¬ ((M 76 13) ≤ x2)) → (rv1 = 0) → k9_U p l e R s m args below meth c Q A G 3 0 0 M 4 [(0, .ref (k9_ga G 76)), (1, .int (x1 + rv2)), (2, .int (x2 + (1 : Int32)))] [])
    (l3 : (¬ ((M 76 13) ≤ x2)) → (¬ (rv1 = 0)) → k9_U p l e R s m args below meth c Q A G 3 0 0 M 4 [(0, .ref (k9_ga G 76)), (1, .int (x1 + (0 : Int32))), (2, .int (x2 + (1 : Int32)))] []) : k9_U p l e R s m args below meth c Q A G 3 0 0 M 4 [(0, .ref (k9_ga G 76)), (1, .int x1), (2, .int x2)] [] := by
  refine k9_iload_n X dX7_wrongHoles_4 rfl 2 rfl ?_
  refine k9_aload_n X dX7_wrongHoles_5 rfl 0 rfl ?_
  refine k9_gX7_13 X (by rfl) in_X7_wrongHoles_X7 fl_X7_wrongHoles_79 dX7_wrongHoles_6 ?_
  refine k9_icmp_ge (tgt := 38) X dX7_wrongHoles_9 (by decide) (fun c1 => ?_) (fun c1 => ?_)
  · refine k9_iload_n X dX7_wrongHoles_38 rfl 1 rfl ?_
    refine k9_sub (lv' := []) [] rfl ?_
    exact (l1 c1)
  · refine k9_iload_n X dX7_wrongHoles_12 rfl 1 rfl ?_
    refine k9_aload_n X dX7_wrongHoles_13 rfl 0 rfl ?_
    refine k9_iload_n X dX7_wrongHoles_14 rfl 2 rfl ?_
    refine k9_callVi1 X (k1 c1) k9_ob_76 (cwV 1 X.2.2.2.2.1 gX7_wrongHoles_X7_isRight rfl rfl rfl (by decide +kernel) ⟨Nat.le_of_ble_eq_true rfl, Nat.le_of_ble_eq_true rfl⟩) (Nat.le_of_ble_eq_true rfl) dX7_wrongHoles_15 ⟨Nat.zero_le _, Nat.zero_le _⟩ ?_
    refine k9_if_eq (tgt := 25) X dX7_wrongHoles_18 (by decide) (fun c2 => ?_) (fun c2 => ?_)
    · refine k9_aload_n X dX7_wrongHoles_25 rfl 0 rfl ?_
      refine k9_iload_n X dX7_wrongHoles_26 rfl 2 rfl ?_
      refine k9_callVi1 X (k2 c1 c2) k9_ob_76 (cwV 1 X.2.2.2.2.1 gX7_wrongHoles_X7_holesOf rfl rfl rfl (by decide +kernel) ⟨Nat.le_of_ble_eq_true rfl, Nat.le_of_ble_eq_true rfl⟩) (Nat.le_of_ble_eq_true rfl) dX7_wrongHoles_27 ⟨Nat.zero_le _, Nat.zero_le _⟩ ?_
      refine k9_iadd X dX7_wrongHoles_30 ?_
      refine k9_istore_n (lv' := [(0, .ref (k9_ga G 76)), (1, .int (x1 + rv2)), (2, .int x2)]) X dX7_wrongHoles_31 rfl (by decide) [1, 0, 2] rfl ?_
      refine k9_iinc (v := x2 + (1 : Int32)) (lv' := [(0, .ref (k9_ga G 76)), (1, .int (x1 + rv2)), (2, .int (x2 + (1 : Int32)))]) X dX7_wrongHoles_32 (k := 2) rfl (by rfl) (by decide) [1, 2, 0] rfl ?_
      refine k9_goto (tgt := 4) X dX7_wrongHoles_35 (by decide) ?_
      exact (l2 c1 c2)
    · refine k9_iconst (v := 0) X dX7_wrongHoles_21 (by decide) ?_
      refine k9_goto (tgt := 30) X dX7_wrongHoles_22 (by decide) ?_
      refine k9_iadd X dX7_wrongHoles_30 ?_
      refine k9_istore_n (lv' := [(0, .ref (k9_ga G 76)), (1, .int (x1 + (0 : Int32))), (2, .int x2)]) X dX7_wrongHoles_31 rfl (by decide) [1, 0, 2] rfl ?_
      refine k9_iinc (v := x2 + (1 : Int32)) (lv' := [(0, .ref (k9_ga G 76)), (1, .int (x1 + (0 : Int32))), (2, .int (x2 + (1 : Int32)))]) X dX7_wrongHoles_32 (k := 2) rfl (by rfl) (by decide) [1, 2, 0] rfl ?_
      refine k9_goto (tgt := 4) X dX7_wrongHoles_35 (by decide) ?_
      exact (l3 c1 c2)

theorem in_X7_counted_X7 : ∀ w ∈ u_ws RX7 TX7 19, w ∈ wsX7_counted := by decide +kernel
theorem fl_X7_counted_79 : Cond.fieldLink RX7 79 (TX7 13).1 (TX7 13).2.1 (TX7 13).2.2.1 ∈ wsX7_counted := by decide +kernel
theorem fl_X7_counted_50 : Cond.fieldLink RX7 50 (TX7 1).1 (TX7 1).2.1 (TX7 1).2.2.1 ∈ wsX7_counted := by decide +kernel
set_option maxRecDepth 20000 in
theorem bk_X7_counted_0 (X : k9_X p R s m args c A G 2 cX7_counted wsX7_counted RX7 rm_X7_counted) {a0 : Int32} {rv1 : Int32} {rv2 : Int32} {rv3 : Int32} {rv4 : Int32} {rv5 : Int32} {rv6 : Int32} {rv7 : Int32} {rv8 : Int32} {rv9 : Int32} {rv10 : Int32} {rv11 : Int32} {rv12 : Int32} {rv13 : Int32} {rv14 : Int32} {rv15 : Int32}
    (k1 : (a0 = (0 : Int32)) → k9_Ci l yX7_onesIn wsX7_onesIn rm_X7_onesIn G M [.ref (k9_ga G 76), .int (0 : Int32)] rv1 M)
    (l1 : (a0 = (0 : Int32)) → k9_U p l e R s m args below meth c Q A G 2 0 0 M 77 [] [.int rv1])
    (k2 : (a0 = (1 : Int32)) → k9_Ci l yX7_openHoles wsX7_openHoles rm_X7_openHoles G M [.ref (k9_ga G 76)] rv2 M)
    (l2 : (a0 = (1 : Int32)) → k9_U p l e R s m args below meth c Q A G 2 0 0 M 82 [] [.int rv2])
    (k3 : (a0 = (2 : Int32)) → k9_Ci l yX7_onesIn wsX7_onesIn rm_X7_onesIn G M [.ref (k9_ga G 76), .int (96 : Int32)] rv3 M)
    (l3 : (a0 = (2 : Int32)) → k9_U p l e R s m args below meth c Q A G 2 0 0 M 89 [] [.int rv3])
    (l4 : (a0 = (3 : Int32)) → k9_U p l e R s m args below meth c Q A G 2 0 0 M 94 [] [.int (M 76 13)])
    (k4 : (a0 = (4 : Int32)) → k9_Ci l yX7_tuneNotes wsX7_tuneNotes rm_X7_tuneNotes G M [.ref (k9_ga G 76)] rv4 M)
    (l5 : (a0 = (4 : Int32)) → k9_U p l e R s m args below meth c Q A G 2 0 0 M 99 [] [.int rv4])
    (k5 : (a0 = (5 : Int32)) → k9_Ci l yX7_rights wsX7_rights rm_X7_rights G M [.ref (k9_ga G 76)] rv5 M)
    (l6 : (a0 = (5 : Int32)) → k9_U p l e R s m args below meth c Q A G 2 0 0 M 104 [] [.int rv5])
    (k6 : (a0 = (6 : Int32)) → k9_Ci l yX7_rights wsX7_rights rm_X7_rights G M [.ref (k9_ga G 76)] rv6 M)
    (l7 : (a0 = (6 : Int32)) → k9_U p l e R s m args below meth c Q A G 2 0 0 M 114 [] [.int ((M 76 13) - rv6)])
    (k7 : (a0 = (7 : Int32)) → k9_Ci l yX7_tuneNotes wsX7_tuneNotes rm_X7_tuneNotes G M [.ref (k9_ga G 76)] rv7 M)
    (k8 : (a0 = (7 : Int32)) → k9_Ci l yX7_rights wsX7_rights rm_X7_rights G M [.ref (k9_ga G 76)] rv8 M)
    (l8 : (a0 = (7 : Int32)) → k9_U p l e R s m args below meth c Q A G 2 0 0 M 124 [] [.int (rv7 - rv8)])
    (k9 : (a0 = (8 : Int32)) → k9_Ci l yX7_sumOf wsX7_sumOf rm_X7_sumOf G M [.ref (k9_ga G 76), .int (a0 - (8 : Int32))] rv9 M)
    (l9 : (a0 = (8 : Int32)) → k9_U p l e R s m args below meth c Q A G 2 0 0 M 133 [] [.int rv9])
    (k10 : (a0 = (9 : Int32)) → k9_Ci l yX7_sumOf wsX7_sumOf rm_X7_sumOf G M [.ref (k9_ga G 76), .int (a0 - (8 : Int32))] rv10 M)
    (l10 : (a0 = (9 : Int32)) → k9_U p l e R s m args below meth c Q A G 2 0 0 M 133 [] [.int rv10])
    (k11 : (a0 = (10 : Int32)) → k9_Ci l yX7_sumOf wsX7_sumOf rm_X7_sumOf G M [.ref (k9_ga G 76), .int (a0 - (8 : Int32))] rv11 M)
    (l11 : (a0 = (10 : Int32)) → k9_U p l e R s m args below meth c Q A G 2 0 0 M 133 [] [.int rv11])
    (k12 : (a0 = (11 : Int32)) → k9_Ci l yX7_wrongHoles wsX7_wrongHoles rm_X7_wrongHoles G M [.ref (k9_ga G 76)] rv12 M)
    (l12 : (a0 = (11 : Int32)) → k9_U p l e R s m args below meth c Q A G 2 0 0 M 138 [] [.int rv12])
    (k13 : (a0 = (12 : Int32)) → k9_Ci l yX7_openHoles wsX7_openHoles rm_X7_openHoles G M [.ref (k9_ga G 76)] rv13 M)
    (k14 : (a0 = (12 : Int32)) → k9_Ci l yX7_sumOf wsX7_sumOf rm_X7_sumOf G M [.ref (k9_ga G 76), .int (3 : Int32)] rv14 M)
    (l13 : (a0 = (12 : Int32)) → k9_U p l e R s m args below meth c Q A G 2 0 0 M 149 [] [.int (rv13 - rv14)])
    (k15 : (a0 = (13 : Int32)) → k9_Ci l yX7_sumOf wsX7_sumOf rm_X7_sumOf G M [.ref (k9_ga G 76), .int (4 : Int32)] rv15 M)
    (l14 : (a0 = (13 : Int32)) → k9_U p l e R s m args below meth c Q A G 2 0 0 M 155 [] [.int rv15])
    (l15 : (¬ a0 = (0 : Int32)) → (¬ a0 = (1 : Int32)) → (¬ a0 = (2 : Int32)) → (¬ a0 = (3 : Int32)) → (¬ a0 = (4 : Int32)) → (¬ a0 = (5 : Int32)) → (¬ a0 = (6 : Int32)) → (¬ a0 = (7 : Int32)) → (¬ a0 = (8 : Int32)) → (¬ a0 = (9 : Int32)) → (¬ a0 = (10 : Int32)) → (¬ a0 = (11 : Int32)) → (¬ a0 = (12 : Int32)) → (¬ a0 = (13 : Int32)) → k9_U p l e R s m args below meth c Q A G 2 0 0 M 160 [] [.int (M 76 1)]) : k9_U p l e R s m args below meth c Q A G 2 0 0 M 0 [(0, .ref (k9_ga G 76)), (1, .int a0)] [] := by
  refine k9_iload_n X dX7_counted_0 rfl 1 rfl ?_
  rcases Classical.em (a0 = (0 : Int32)) with c1 | c1
  · refine k9_tswIn (tgt := 72) X dX7_counted_1 (0 : Int32) c1 (by decide) (by decide) (by rfl) (by decide) ?_
    refine k9_aload_n X dX7_counted_72 rfl 0 rfl ?_
    refine k9_iconst (v := 0) X dX7_counted_73 (by decide) ?_
    refine k9_callVi1 X (k1 c1) k9_ob_76 (cwV 1 X.2.2.2.2.1 gX7_counted_X7_onesIn rfl rfl rfl (by decide +kernel) ⟨Nat.le_of_ble_eq_true rfl, Nat.le_of_ble_eq_true rfl⟩) (Nat.le_of_ble_eq_true rfl) dX7_counted_74 ⟨Nat.zero_le _, Nat.zero_le _⟩ ?_
    refine k9_sub (lv' := []) [] rfl ?_
    exact (l1 c1)
  rcases Classical.em (a0 = (1 : Int32)) with c2 | c2
  · refine k9_tswIn (tgt := 78) X dX7_counted_1 (1 : Int32) c2 (by decide) (by decide) (by rfl) (by decide) ?_
    refine k9_aload_n X dX7_counted_78 rfl 0 rfl ?_
    refine k9_callVi0 X (k2 c2) k9_ob_76 (cwV 0 X.2.2.2.2.1 gX7_counted_X7_openHoles rfl rfl rfl (by decide +kernel) ⟨Nat.le_of_ble_eq_true rfl, Nat.le_of_ble_eq_true rfl⟩) (Nat.le_of_ble_eq_true rfl) dX7_counted_79 ⟨Nat.zero_le _, Nat.zero_le _⟩ ?_
    refine k9_sub (lv' := []) [] rfl ?_
    exact (l2 c2)
  rcases Classical.em (a0 = (2 : Int32)) with c3 | c3
  · refine k9_tswIn (tgt := 83) X dX7_counted_1 (2 : Int32) c3 (by decide) (by decide) (by rfl) (by decide) ?_
    refine k9_aload_n X dX7_counted_83 rfl 0 rfl ?_
    refine k9_bipush (v := 96) X dX7_counted_84 (by decide) ?_
    refine k9_callVi1 X (k3 c3) k9_ob_76 (cwV 1 X.2.2.2.2.1 gX7_counted_X7_onesIn rfl rfl rfl (by decide +kernel) ⟨Nat.le_of_ble_eq_true rfl, Nat.le_of_ble_eq_true rfl⟩) (Nat.le_of_ble_eq_true rfl) dX7_counted_86 ⟨Nat.zero_le _, Nat.zero_le _⟩ ?_
    refine k9_sub (lv' := []) [] rfl ?_
    exact (l3 c3)
  rcases Classical.em (a0 = (3 : Int32)) with c4 | c4
  · refine k9_tswIn (tgt := 90) X dX7_counted_1 (3 : Int32) c4 (by decide) (by decide) (by rfl) (by decide) ?_
    refine k9_aload_n X dX7_counted_90 rfl 0 rfl ?_
    refine k9_gX7_13 X (by rfl) in_X7_counted_X7 fl_X7_counted_79 dX7_counted_91 ?_
    refine k9_sub (lv' := []) [] rfl ?_
    exact (l4 c4)
  rcases Classical.em (a0 = (4 : Int32)) with c5 | c5
  · refine k9_tswIn (tgt := 95) X dX7_counted_1 (4 : Int32) c5 (by decide) (by decide) (by rfl) (by decide) ?_
    refine k9_aload_n X dX7_counted_95 rfl 0 rfl ?_
    refine k9_callVi0 X (k4 c5) k9_ob_76 (cwV 0 X.2.2.2.2.1 gX7_counted_X7_tuneNotes rfl rfl rfl (by decide +kernel) ⟨Nat.le_of_ble_eq_true rfl, Nat.le_of_ble_eq_true rfl⟩) (Nat.le_of_ble_eq_true rfl) dX7_counted_96 ⟨Nat.zero_le _, Nat.zero_le _⟩ ?_
    refine k9_sub (lv' := []) [] rfl ?_
    exact (l5 c5)
  rcases Classical.em (a0 = (5 : Int32)) with c6 | c6
  · refine k9_tswIn (tgt := 100) X dX7_counted_1 (5 : Int32) c6 (by decide) (by decide) (by rfl) (by decide) ?_
    refine k9_aload_n X dX7_counted_100 rfl 0 rfl ?_
    refine k9_callVi0 X (k5 c6) k9_ob_76 (cwV 0 X.2.2.2.2.1 gX7_counted_X7_rights rfl rfl rfl (by decide +kernel) ⟨Nat.le_of_ble_eq_true rfl, Nat.le_of_ble_eq_true rfl⟩) (Nat.le_of_ble_eq_true rfl) dX7_counted_101 ⟨Nat.zero_le _, Nat.zero_le _⟩ ?_
    refine k9_sub (lv' := []) [] rfl ?_
    exact (l6 c6)
  rcases Classical.em (a0 = (6 : Int32)) with c7 | c7
  · refine k9_tswIn (tgt := 105) X dX7_counted_1 (6 : Int32) c7 (by decide) (by decide) (by rfl) (by decide) ?_
    refine k9_aload_n X dX7_counted_105 rfl 0 rfl ?_
    refine k9_gX7_13 X (by rfl) in_X7_counted_X7 fl_X7_counted_79 dX7_counted_106 ?_
    refine k9_aload_n X dX7_counted_109 rfl 0 rfl ?_
    refine k9_callVi0 X (k6 c7) k9_ob_76 (cwV 0 X.2.2.2.2.1 gX7_counted_X7_rights rfl rfl rfl (by decide +kernel) ⟨Nat.le_of_ble_eq_true rfl, Nat.le_of_ble_eq_true rfl⟩) (Nat.le_of_ble_eq_true rfl) dX7_counted_110 ⟨Nat.zero_le _, Nat.zero_le _⟩ ?_
    refine k9_isub X dX7_counted_113 ?_
    refine k9_sub (lv' := []) [] rfl ?_
    exact (l7 c7)
  rcases Classical.em (a0 = (7 : Int32)) with c8 | c8
  · refine k9_tswIn (tgt := 115) X dX7_counted_1 (7 : Int32) c8 (by decide) (by decide) (by rfl) (by decide) ?_
    refine k9_aload_n X dX7_counted_115 rfl 0 rfl ?_
    refine k9_callVi0 X (k7 c8) k9_ob_76 (cwV 0 X.2.2.2.2.1 gX7_counted_X7_tuneNotes rfl rfl rfl (by decide +kernel) ⟨Nat.le_of_ble_eq_true rfl, Nat.le_of_ble_eq_true rfl⟩) (Nat.le_of_ble_eq_true rfl) dX7_counted_116 ⟨Nat.zero_le _, Nat.zero_le _⟩ ?_
    refine k9_aload_n X dX7_counted_119 rfl 0 rfl ?_
    refine k9_callVi0 X (k8 c8) k9_ob_76 (cwV 0 X.2.2.2.2.1 gX7_counted_X7_rights rfl rfl rfl (by decide +kernel) ⟨Nat.le_of_ble_eq_true rfl, Nat.le_of_ble_eq_true rfl⟩) (Nat.le_of_ble_eq_true rfl) dX7_counted_120 ⟨Nat.zero_le _, Nat.zero_le _⟩ ?_
    refine k9_isub X dX7_counted_123 ?_
    refine k9_sub (lv' := []) [] rfl ?_
    exact (l8 c8)
  rcases Classical.em (a0 = (8 : Int32)) with c9 | c9
  · refine k9_tswIn (tgt := 125) X dX7_counted_1 (8 : Int32) c9 (by decide) (by decide) (by rfl) (by decide) ?_
    refine k9_aload_n X dX7_counted_125 rfl 0 rfl ?_
    refine k9_iload_n X dX7_counted_126 rfl 1 rfl ?_
    refine k9_bipush (v := 8) X dX7_counted_127 (by decide) ?_
    refine k9_isub X dX7_counted_129 ?_
    refine k9_callVi1 X (k9 c9) k9_ob_76 (cwV 1 X.2.2.2.2.1 gX7_counted_X7_sumOf rfl rfl rfl (by decide +kernel) ⟨Nat.le_of_ble_eq_true rfl, Nat.le_of_ble_eq_true rfl⟩) (Nat.le_of_ble_eq_true rfl) dX7_counted_130 ⟨Nat.zero_le _, Nat.zero_le _⟩ ?_
    refine k9_sub (lv' := []) [] rfl ?_
    exact (l9 c9)
  rcases Classical.em (a0 = (9 : Int32)) with c10 | c10
  · refine k9_tswIn (tgt := 125) X dX7_counted_1 (9 : Int32) c10 (by decide) (by decide) (by rfl) (by decide) ?_
    refine k9_aload_n X dX7_counted_125 rfl 0 rfl ?_
    refine k9_iload_n X dX7_counted_126 rfl 1 rfl ?_
    refine k9_bipush (v := 8) X dX7_counted_127 (by decide) ?_
    refine k9_isub X dX7_counted_129 ?_
    refine k9_callVi1 X (k10 c10) k9_ob_76 (cwV 1 X.2.2.2.2.1 gX7_counted_X7_sumOf rfl rfl rfl (by decide +kernel) ⟨Nat.le_of_ble_eq_true rfl, Nat.le_of_ble_eq_true rfl⟩) (Nat.le_of_ble_eq_true rfl) dX7_counted_130 ⟨Nat.zero_le _, Nat.zero_le _⟩ ?_
    refine k9_sub (lv' := []) [] rfl ?_
    exact (l10 c10)
  rcases Classical.em (a0 = (10 : Int32)) with c11 | c11
  · refine k9_tswIn (tgt := 125) X dX7_counted_1 (10 : Int32) c11 (by decide) (by decide) (by rfl) (by decide) ?_
    refine k9_aload_n X dX7_counted_125 rfl 0 rfl ?_
    refine k9_iload_n X dX7_counted_126 rfl 1 rfl ?_
    refine k9_bipush (v := 8) X dX7_counted_127 (by decide) ?_
    refine k9_isub X dX7_counted_129 ?_
    refine k9_callVi1 X (k11 c11) k9_ob_76 (cwV 1 X.2.2.2.2.1 gX7_counted_X7_sumOf rfl rfl rfl (by decide +kernel) ⟨Nat.le_of_ble_eq_true rfl, Nat.le_of_ble_eq_true rfl⟩) (Nat.le_of_ble_eq_true rfl) dX7_counted_130 ⟨Nat.zero_le _, Nat.zero_le _⟩ ?_
    refine k9_sub (lv' := []) [] rfl ?_
    exact (l11 c11)
  rcases Classical.em (a0 = (11 : Int32)) with c12 | c12
  · refine k9_tswIn (tgt := 134) X dX7_counted_1 (11 : Int32) c12 (by decide) (by decide) (by rfl) (by decide) ?_
    refine k9_aload_n X dX7_counted_134 rfl 0 rfl ?_
    refine k9_callVi0 X (k12 c12) k9_ob_76 (cwV 0 X.2.2.2.2.1 gX7_counted_X7_wrongHoles rfl rfl rfl (by decide +kernel) ⟨Nat.le_of_ble_eq_true rfl, Nat.le_of_ble_eq_true rfl⟩) (Nat.le_of_ble_eq_true rfl) dX7_counted_135 ⟨Nat.zero_le _, Nat.zero_le _⟩ ?_
    refine k9_sub (lv' := []) [] rfl ?_
    exact (l12 c12)
  rcases Classical.em (a0 = (12 : Int32)) with c13 | c13
  · refine k9_tswIn (tgt := 139) X dX7_counted_1 (12 : Int32) c13 (by decide) (by decide) (by rfl) (by decide) ?_
    refine k9_aload_n X dX7_counted_139 rfl 0 rfl ?_
    refine k9_callVi0 X (k13 c13) k9_ob_76 (cwV 0 X.2.2.2.2.1 gX7_counted_X7_openHoles rfl rfl rfl (by decide +kernel) ⟨Nat.le_of_ble_eq_true rfl, Nat.le_of_ble_eq_true rfl⟩) (Nat.le_of_ble_eq_true rfl) dX7_counted_140 ⟨Nat.zero_le _, Nat.zero_le _⟩ ?_
    refine k9_aload_n X dX7_counted_143 rfl 0 rfl ?_
    refine k9_iconst (v := 3) X dX7_counted_144 (by decide) ?_
    refine k9_callVi1 X (k14 c13) k9_ob_76 (cwV 1 X.2.2.2.2.1 gX7_counted_X7_sumOf rfl rfl rfl (by decide +kernel) ⟨Nat.le_of_ble_eq_true rfl, Nat.le_of_ble_eq_true rfl⟩) (Nat.le_of_ble_eq_true rfl) dX7_counted_145 ⟨Nat.zero_le _, Nat.zero_le _⟩ ?_
    refine k9_isub X dX7_counted_148 ?_
    refine k9_sub (lv' := []) [] rfl ?_
    exact (l13 c13)
  rcases Classical.em (a0 = (13 : Int32)) with c14 | c14
  · refine k9_tswIn (tgt := 150) X dX7_counted_1 (13 : Int32) c14 (by decide) (by decide) (by rfl) (by decide) ?_
    refine k9_aload_n X dX7_counted_150 rfl 0 rfl ?_
    refine k9_iconst (v := 4) X dX7_counted_151 (by decide) ?_
    refine k9_callVi1 X (k15 c14) k9_ob_76 (cwV 1 X.2.2.2.2.1 gX7_counted_X7_sumOf rfl rfl rfl (by decide +kernel) ⟨Nat.le_of_ble_eq_true rfl, Nat.le_of_ble_eq_true rfl⟩) (Nat.le_of_ble_eq_true rfl) dX7_counted_152 ⟨Nat.zero_le _, Nat.zero_le _⟩ ?_
    refine k9_sub (lv' := []) [] rfl ?_
    exact (l14 c14)
  refine k9_tswOut (tgt := 156) X dX7_counted_1 (k9_swOut 14 (by decide) (by intro j hj; rcases (show j = 0 ∨ j = 1 ∨ j = 2 ∨ j = 3 ∨ j = 4 ∨ j = 5 ∨ j = 6 ∨ j = 7 ∨ j = 8 ∨ j = 9 ∨ j = 10 ∨ j = 11 ∨ j = 12 ∨ j = 13 by omega) with rfl | rfl | rfl | rfl | rfl | rfl | rfl | rfl | rfl | rfl | rfl | rfl | rfl | rfl <;> assumption)) (by decide) (by decide) ?_
  refine k9_aload_n X dX7_counted_156 rfl 0 rfl ?_
  refine k9_gX7_1 X (by rfl) in_X7_counted_X7 fl_X7_counted_50 dX7_counted_157 ?_
  refine k9_sub (lv' := []) [] rfl ?_
  exact (l15 c1 c2 c3 c4 c5 c6 c7 c8 c9 c10 c11 c12 c13 c14)

theorem in_X7_count_X7 : ∀ w ∈ u_ws RX7 TX7 19, w ∈ wsX7_count := by decide +kernel
theorem fl_X7_count_46 : Cond.fieldLink RX7 46 (TX7 5).1 (TX7 5).2.1 (TX7 5).2.2.1 ∈ wsX7_count := by decide +kernel
set_option maxRecDepth 20000 in
theorem bk_X7_count_0 (X : k9_X p R s m args c A G 2 cX7_count wsX7_count RX7 rm_X7_count) {a0 : Int32} {rv1 : Int32} {mv2 : k9_Mem} {rv3 : Int32}
    (k1 : k9_Ci l yX7_within wsX7_within rm_X7_within G M [.int a0, .int (0 : Int32), .int (14 : Int32)] rv1 M)
    (l1 : (rv1 = 0) → k9_U p l e R s m args below meth c Q A G 2 0 0 (k9_st M 76 5 (1 : Int32)) 27 [] [.int (0 : Int32)])
    (k2 : (¬ (rv1 = 0)) → k9_Cv l yX7_lay wsX7_lay rm_X7_lay G (k9_st M 76 5 (0 : Int32)) [.ref (k9_ga G 76)] mv2)
    (k3 : (¬ (rv1 = 0)) → k9_Ci l yX7_counted wsX7_counted rm_X7_counted G mv2 [.ref (k9_ga G 76), .int a0] rv3 mv2)
    (l2 : (¬ (rv1 = 0)) → k9_U p l e R s m args below meth c Q A G 2 0 0 mv2 37 [] [.int rv3]) : k9_U p l e R s m args below meth c Q A G 2 0 0 M 0 [(0, .ref (k9_ga G 76)), (1, .int a0)] [] := by
  refine k9_aload_n X dX7_count_0 rfl 0 rfl ?_
  refine k9_iload_n X dX7_count_1 rfl 1 rfl ?_
  refine k9_iconst (v := 0) X dX7_count_2 (by decide) ?_
  refine k9_bipush (v := 14) X dX7_count_3 (by decide) ?_
  refine k9_callSi3 X k1  (va_cwS 3 X.2.2.2.2.1 gX7_count_X7_within rfl rfl rfl (by decide +kernel) ⟨Nat.le_of_ble_eq_true rfl, Nat.le_of_ble_eq_true rfl⟩) (Nat.le_of_ble_eq_true rfl) dX7_count_5 ⟨Nat.zero_le _, Nat.zero_le _⟩ ?_
  refine k9_if_eq (tgt := 15) X dX7_count_8 (by decide) (fun c1 => ?_) (fun c1 => ?_)
  · refine k9_iconst (v := 1) X dX7_count_15 (by decide) ?_
    refine k9_pX7_5 X in_X7_count_X7 fl_X7_count_46 dX7_count_16 ?_
    refine k9_aload_n X dX7_count_19 rfl 0 rfl ?_
    refine k9_gX7_5 (v := (1 : Int32)) X (by rfl) in_X7_count_X7 fl_X7_count_46 dX7_count_20 ?_
    refine k9_if_le (tgt := 28) X dX7_count_23 (by decide) (fun c => absurd c (by decide)) (fun _ => ?_)
    refine k9_iconst (v := 0) X dX7_count_26 (by decide) ?_
    refine k9_sub (lv' := []) [] rfl ?_
    exact (l1 c1)
  · refine k9_iconst (v := 0) X dX7_count_11 (by decide) ?_
    refine k9_goto (tgt := 16) X dX7_count_12 (by decide) ?_
    refine k9_pX7_5 X in_X7_count_X7 fl_X7_count_46 dX7_count_16 ?_
    refine k9_aload_n X dX7_count_19 rfl 0 rfl ?_
    refine k9_gX7_5 (v := (0 : Int32)) X (by rfl) in_X7_count_X7 fl_X7_count_46 dX7_count_20 ?_
    refine k9_if_le (tgt := 28) X dX7_count_23 (by decide) (fun _ => ?_) (fun c => absurd c (by decide))
    refine k9_aload_n X dX7_count_28 rfl 0 rfl ?_
    refine k9_callVv0 X (k2 c1) k9_ob_76 (cwV 0 X.2.2.2.2.1 gX7_count_X7_lay rfl rfl rfl (by decide +kernel) ⟨Nat.le_of_ble_eq_true rfl, Nat.le_of_ble_eq_true rfl⟩) (Nat.le_of_ble_eq_true rfl) dX7_count_29 ⟨Nat.zero_le _, Nat.zero_le _⟩ ?_
    refine k9_aload_n X dX7_count_32 rfl 0 rfl ?_
    refine k9_iload_n X dX7_count_33 rfl 1 rfl ?_
    refine k9_callVi1 X (k3 c1) k9_ob_76 (cwV 1 X.2.2.2.2.1 gX7_count_X7_counted rfl rfl rfl (by decide +kernel) ⟨Nat.le_of_ble_eq_true rfl, Nat.le_of_ble_eq_true rfl⟩) (Nat.le_of_ble_eq_true rfl) dX7_count_34 ⟨Nat.zero_le _, Nat.zero_le _⟩ ?_
    refine k9_sub (lv' := []) [] rfl ?_
    exact (l2 c1)

theorem in_X7_setting_X7 : ∀ w ∈ u_ws RX7 TX7 19, w ∈ wsX7_setting := by decide +kernel
theorem fl_X7_setting_46 : Cond.fieldLink RX7 46 (TX7 5).1 (TX7 5).2.1 (TX7 5).2.2.1 ∈ wsX7_setting := by decide +kernel
theorem fl_X7_setting_7 : Cond.fieldLink RX7 7 (TX7 0).1 (TX7 0).2.1 (TX7 0).2.2.1 ∈ wsX7_setting := by decide +kernel
set_option maxRecDepth 20000 in
theorem bk_X7_setting_0 (X : k9_X p R s m args c A G 2 cX7_setting wsX7_setting RX7 rm_X7_setting) {a0 : Int32} {rv1 : Int32}
    (k1 : k9_Ci l yX7_isSetting wsX7_isSetting rm_X7_isSetting G M [.int a0] rv1 M)
    (l1 : (rv1 = 0) → k9_U p l e R s m args below meth c Q A G 2 0 0 (k9_st M 76 5 (1 : Int32)) 37 [] [.int (0 : Int32)])
    (o1 : (¬ (rv1 = 0)) → vp_in ((384 : Int32) + a0) 578)
    (l2 : (¬ (rv1 = 0)) → k9_U p l e R s m args below meth c Q A G 2 0 0 (k9_st M 76 5 (0 : Int32)) 37 [] [.int (M 77 ((384 : Int32) + a0).toNatClampNeg)]) : k9_U p l e R s m args below meth c Q A G 2 0 0 M 0 [(0, .ref (k9_ga G 76)), (1, .int a0)] [] := by
  refine k9_aload_n X dX7_setting_0 rfl 0 rfl ?_
  refine k9_iload_n X dX7_setting_1 rfl 1 rfl ?_
  refine k9_callSi1 X k1  (va_cwS 1 X.2.2.2.2.1 gX7_setting_X7_isSetting rfl rfl rfl (by decide +kernel) ⟨Nat.le_of_ble_eq_true rfl, Nat.le_of_ble_eq_true rfl⟩) (Nat.le_of_ble_eq_true rfl) dX7_setting_2 ⟨Nat.zero_le _, Nat.zero_le _⟩ ?_
  refine k9_if_eq (tgt := 12) X dX7_setting_5 (by decide) (fun c1 => ?_) (fun c1 => ?_)
  · refine k9_iconst (v := 1) X dX7_setting_12 (by decide) ?_
    refine k9_pX7_5 X in_X7_setting_X7 fl_X7_setting_46 dX7_setting_13 ?_
    refine k9_aload_n X dX7_setting_16 rfl 0 rfl ?_
    refine k9_gX7_5 (v := (1 : Int32)) X (by rfl) in_X7_setting_X7 fl_X7_setting_46 dX7_setting_17 ?_
    refine k9_if_le (tgt := 27) X dX7_setting_20 (by decide) (fun c => absurd c (by decide)) (fun _ => ?_)
    refine k9_iconst (v := 0) X dX7_setting_23 (by decide) ?_
    refine k9_goto (tgt := 37) X dX7_setting_24 (by decide) ?_
    refine k9_sub (lv' := []) [] rfl ?_
    exact (l1 c1)
  · refine k9_iconst (v := 0) X dX7_setting_8 (by decide) ?_
    refine k9_goto (tgt := 13) X dX7_setting_9 (by decide) ?_
    refine k9_pX7_5 X in_X7_setting_X7 fl_X7_setting_46 dX7_setting_13 ?_
    refine k9_aload_n X dX7_setting_16 rfl 0 rfl ?_
    refine k9_gX7_5 (v := (0 : Int32)) X (by rfl) in_X7_setting_X7 fl_X7_setting_46 dX7_setting_17 ?_
    refine k9_if_le (tgt := 27) X dX7_setting_20 (by decide) (fun _ => ?_) (fun c => absurd c (by decide))
    refine k9_aload_n X dX7_setting_27 rfl 0 rfl ?_
    refine k9_gX7_0 X in_X7_setting_X7 fl_X7_setting_7 dX7_setting_28 ?_
    refine k9_sipush (v := 384) X dX7_setting_31 (by decide) ?_
    refine k9_iload_n X dX7_setting_34 rfl 1 rfl ?_
    refine k9_iadd X dX7_setting_35 ?_
    refine k9_iald (v := (M 77 ((384 : Int32) + a0).toNatClampNeg)) X (by decide) (o1 c1) (by rfl) dX7_setting_36 ?_
    refine k9_sub (lv' := []) [] rfl ?_
    exact (l2 c1)

theorem in_X7_keepSteering_X7 : ∀ w ∈ u_ws RX7 TX7 19, w ∈ wsX7_keepSteering := by decide +kernel
theorem fl_X7_keepSteering_43 : Cond.fieldLink RX7 43 (TX7 17).1 (TX7 17).2.1 (TX7 17).2.2.1 ∈ wsX7_keepSteering := by decide +kernel
theorem fl_X7_keepSteering_7 : Cond.fieldLink RX7 7 (TX7 0).1 (TX7 0).2.1 (TX7 0).2.2.1 ∈ wsX7_keepSteering := by decide +kernel
set_option maxRecDepth 20000 in
theorem bk_X7_keepSteering_0 (X : k9_X p R s m args c A G 2 cX7_keepSteering wsX7_keepSteering RX7 rm_X7_keepSteering) 
    (l1 : k9_U p l e R s m args below meth c Q A G 2 0 0 M 2 [(0, .ref (k9_ga G 76)), (1, .int (0 : Int32))] []) : k9_U p l e R s m args below meth c Q A G 2 0 0 M 0 [(0, .ref (k9_ga G 76))] [] := by
  refine k9_iconst (v := 0) X dX7_keepSteering_0 (by decide) ?_
  refine k9_istore_n (lv' := [(0, .ref (k9_ga G 76)), (1, .int (0 : Int32))]) X dX7_keepSteering_1 rfl (by decide) [1, 0] rfl ?_
  exact l1

set_option maxRecDepth 20000 in
theorem bk_X7_keepSteering_2 (X : k9_X p R s m args c A G 2 cX7_keepSteering wsX7_keepSteering RX7 rm_X7_keepSteering) {x1 : Int32}
    (l1 : ((96 : Int32) ≤ x1) → k9_U p l e R s m args below meth c Q A G 2 0 0 M 30 [] [])
    (o1 : (¬ ((96 : Int32) ≤ x1)) → vp_in ((288 : Int32) + x1) 578)
    (o2 : (¬ ((96 : Int32) ≤ x1)) → vp_in x1 96)
    (l2 : (¬ ((96 : Int32) ≤ x1)) → k9_U p l e R s m args below meth c Q A G 2 0 0 (k9_st M 88 x1.toNatClampNeg (M 77 ((288 : Int32) + x1).toNatClampNeg)) 2 [(0, .ref (k9_ga G 76)), (1, .int (x1 + (1 : Int32)))] []) : k9_U p l e R s m args below meth c Q A G 2 0 0 M 2 [(0, .ref (k9_ga G 76)), (1, .int x1)] [] := by
  refine k9_iload_n X dX7_keepSteering_2 rfl 1 rfl ?_
  refine k9_bipush (v := 96) X dX7_keepSteering_3 (by decide) ?_
  refine k9_icmp_ge (tgt := 30) X dX7_keepSteering_5 (by decide) (fun c1 => ?_) (fun c1 => ?_)
  · refine k9_sub (lv' := []) [] rfl ?_
    exact (l1 c1)
  · refine k9_aload_n X dX7_keepSteering_8 rfl 0 rfl ?_
    refine k9_gX7_17 X in_X7_keepSteering_X7 fl_X7_keepSteering_43 dX7_keepSteering_9 ?_
    refine k9_iload_n X dX7_keepSteering_12 rfl 1 rfl ?_
    refine k9_aload_n X dX7_keepSteering_13 rfl 0 rfl ?_
    refine k9_gX7_0 X in_X7_keepSteering_X7 fl_X7_keepSteering_7 dX7_keepSteering_14 ?_
    refine k9_sipush (v := 288) X dX7_keepSteering_17 (by decide) ?_
    refine k9_iload_n X dX7_keepSteering_20 rfl 1 rfl ?_
    refine k9_iadd X dX7_keepSteering_21 ?_
    refine k9_iald X (by decide) (o1 c1) (by rfl) dX7_keepSteering_22 ?_
    refine k9_iast X (by decide) (o2 c1) dX7_keepSteering_23 ?_
    refine k9_iinc (v := x1 + (1 : Int32)) (lv' := [(0, .ref (k9_ga G 76)), (1, .int (x1 + (1 : Int32)))]) X dX7_keepSteering_24 (k := 1) rfl (by rfl) (by decide) [1, 0] rfl ?_
    refine k9_goto (tgt := 2) X dX7_keepSteering_27 (by decide) ?_
    exact (l2 c1)

theorem in_X7_layBack_X7 : ∀ w ∈ u_ws RX7 TX7 19, w ∈ wsX7_layBack := by decide +kernel
theorem fl_X7_layBack_7 : Cond.fieldLink RX7 7 (TX7 0).1 (TX7 0).2.1 (TX7 0).2.2.1 ∈ wsX7_layBack := by decide +kernel
theorem fl_X7_layBack_43 : Cond.fieldLink RX7 43 (TX7 17).1 (TX7 17).2.1 (TX7 17).2.2.1 ∈ wsX7_layBack := by decide +kernel
set_option maxRecDepth 20000 in
theorem bk_X7_layBack_0 (X : k9_X p R s m args c A G 2 cX7_layBack wsX7_layBack RX7 rm_X7_layBack) 
    (l1 : k9_U p l e R s m args below meth c Q A G 2 0 0 M 2 [(0, .ref (k9_ga G 76)), (1, .int (0 : Int32))] []) : k9_U p l e R s m args below meth c Q A G 2 0 0 M 0 [(0, .ref (k9_ga G 76))] [] := by
  refine k9_iconst (v := 0) X dX7_layBack_0 (by decide) ?_
  refine k9_istore_n (lv' := [(0, .ref (k9_ga G 76)), (1, .int (0 : Int32))]) X dX7_layBack_1 rfl (by decide) [1, 0] rfl ?_
  exact l1

set_option maxRecDepth 20000 in
theorem bk_X7_layBack_2 (X : k9_X p R s m args c A G 2 cX7_layBack wsX7_layBack RX7 rm_X7_layBack) {x1 : Int32}
    (l1 : ((96 : Int32) ≤ x1) → k9_U p l e R s m args below meth c Q A G 2 0 0 M 30 [] [])
    (o1 : (¬ ((96 : Int32) ≤ x1)) → vp_in x1 96)
    (o2 : (¬ ((96 : Int32) ≤ x1)) → vp_in ((288 : Int32) + x1) 578)
    (l2 : (¬ ((96 : Int32) ≤ x1)) → k9_U p l e R s m args below meth c Q A G 2 0 0 (k9_st M 77 ((288 : Int32) + x1).toNatClampNeg (M 88 x1.toNatClampNeg)) 2 [(0, .ref (k9_ga G 76)), (1, .int (x1 + (1 : Int32)))] []) : k9_U p l e R s m args below meth c Q A G 2 0 0 M 2 [(0, .ref (k9_ga G 76)), (1, .int x1)] [] := by
  refine k9_iload_n X dX7_layBack_2 rfl 1 rfl ?_
  refine k9_bipush (v := 96) X dX7_layBack_3 (by decide) ?_
  refine k9_icmp_ge (tgt := 30) X dX7_layBack_5 (by decide) (fun c1 => ?_) (fun c1 => ?_)
  · refine k9_sub (lv' := []) [] rfl ?_
    exact (l1 c1)
  · refine k9_aload_n X dX7_layBack_8 rfl 0 rfl ?_
    refine k9_gX7_0 X in_X7_layBack_X7 fl_X7_layBack_7 dX7_layBack_9 ?_
    refine k9_sipush (v := 288) X dX7_layBack_12 (by decide) ?_
    refine k9_iload_n X dX7_layBack_15 rfl 1 rfl ?_
    refine k9_iadd X dX7_layBack_16 ?_
    refine k9_aload_n X dX7_layBack_17 rfl 0 rfl ?_
    refine k9_gX7_17 X in_X7_layBack_X7 fl_X7_layBack_43 dX7_layBack_18 ?_
    refine k9_iload_n X dX7_layBack_21 rfl 1 rfl ?_
    refine k9_iald X (by decide) (o1 c1) (by rfl) dX7_layBack_22 ?_
    refine k9_iast X (by decide) (o2 c1) dX7_layBack_23 ?_
    refine k9_iinc (v := x1 + (1 : Int32)) (lv' := [(0, .ref (k9_ga G 76)), (1, .int (x1 + (1 : Int32)))]) X dX7_layBack_24 (k := 1) rfl (by rfl) (by decide) [1, 0] rfl ?_
    refine k9_goto (tgt := 2) X dX7_layBack_27 (by decide) ?_
    exact (l2 c1)

theorem in_X7_steerNow_X7 : ∀ w ∈ u_ws RX7 TX7 19, w ∈ wsX7_steerNow := by decide +kernel
theorem fl_X7_steerNow_7 : Cond.fieldLink RX7 7 (TX7 0).1 (TX7 0).2.1 (TX7 0).2.2.1 ∈ wsX7_steerNow := by decide +kernel
set_option maxRecDepth 20000 in
theorem bk_X7_steerNow_0 (X : k9_X p R s m args c A G 9 cX7_steerNow wsX7_steerNow RX7 rm_X7_steerNow) {a0 a1 a2 : Int32} {mv1 : k9_Mem}
    (k1 : k9_Cv l yX7_keepSteering wsX7_keepSteering rm_X7_keepSteering G M [.ref (k9_ga G 76)] mv1)
    (l1 : k9_U p l e R s m args below meth c Q A G 9 0 0 mv1 13 [(0, .ref (k9_ga G 76)), (1, .int a0), (2, .int a1), (3, .int a2), (4, .int (0 : Int32)), (5, .int (-1 : Int32)), (6, .int (0 : Int32))] []) : k9_U p l e R s m args below meth c Q A G 9 0 0 M 0 [(0, .ref (k9_ga G 76)), (1, .int a0), (2, .int a1), (3, .int a2)] [] := by
  refine k9_aload_n X dX7_steerNow_0 rfl 0 rfl ?_
  refine k9_callVv0 X k1 k9_ob_76 (cwV 0 X.2.2.2.2.1 gX7_steerNow_X7_keepSteering rfl rfl rfl (by decide +kernel) ⟨Nat.le_of_ble_eq_true rfl, Nat.le_of_ble_eq_true rfl⟩) (Nat.le_of_ble_eq_true rfl) dX7_steerNow_1 ⟨Nat.zero_le _, Nat.zero_le _⟩ ?_
  refine k9_iconst (v := 0) X dX7_steerNow_4 (by decide) ?_
  refine k9_istore (lv' := [(0, .ref (k9_ga G 76)), (1, .int a0), (2, .int a1), (3, .int a2), (4, .int (0 : Int32))]) X dX7_steerNow_5 (by decide) [1, 2, 3, 4, 0] rfl ?_
  refine k9_iconst (v := -1) X dX7_steerNow_7 (by decide) ?_
  refine k9_istore (lv' := [(0, .ref (k9_ga G 76)), (1, .int a0), (2, .int a1), (3, .int a2), (4, .int (0 : Int32)), (5, .int (-1 : Int32))]) X dX7_steerNow_8 (by decide) [1, 2, 3, 4, 5, 0] rfl ?_
  refine k9_iconst (v := 0) X dX7_steerNow_10 (by decide) ?_
  refine k9_istore (lv' := [(0, .ref (k9_ga G 76)), (1, .int a0), (2, .int a1), (3, .int a2), (4, .int (0 : Int32)), (5, .int (-1 : Int32)), (6, .int (0 : Int32))]) X dX7_steerNow_11 (by decide) [1, 2, 3, 4, 5, 6, 0] rfl ?_
  exact l1

set_option maxRecDepth 20000 in
theorem bk_X7_steerNow_13 (X : k9_X p R s m args c A G 9 cX7_steerNow wsX7_steerNow RX7 rm_X7_steerNow) {x1 x2 x3 x4 x5 x6 : Int32} {mv1 : k9_Mem}
    (k1 : ((7 : Int32) ≤ x6) → k9_Cv l yX7_layBack wsX7_layBack rm_X7_layBack G M [.ref (k9_ga G 76)] mv1)
    (l1 : ((7 : Int32) ≤ x6) → (¬ x3 = 0) → k9_U p l e R s m args below meth c Q A G 9 0 0 mv1 131 [] [.int x5])
    (l2 : ((7 : Int32) ≤ x6) → (x3 = 0) → k9_U p l e R s m args below meth c Q A G 9 0 0 mv1 131 [] [.int x4])
    (l3 : (¬ ((7 : Int32) ≤ x6)) → (¬ (x6 - x6 / (2 : Int32) * (2 : Int32)) = (1 : Int32)) → k9_U p l e R s m args below meth c Q A G 9 0 0 M 47 [(0, .ref (k9_ga G 76)), (1, .int x1), (2, .int x2), (3, .int x3), (4, .int x4), (5, .int x5), (6, .int x6), (7, .int (x6 / (2 : Int32))), (8, .int x1)] [])
    (l4 : (¬ ((7 : Int32) ≤ x6)) → ((x6 - x6 / (2 : Int32) * (2 : Int32)) = (1 : Int32)) → k9_U p l e R s m args below meth c Q A G 9 0 0 M 47 [(0, .ref (k9_ga G 76)), (1, .int x1), (2, .int x2), (3, .int x3), (4, .int x4), (5, .int x5), (6, .int x6), (7, .int ((-(x6 + (1 : Int32))) / (2 : Int32))), (8, .int x1)] []) : k9_U p l e R s m args below meth c Q A G 9 0 0 M 13 [(0, .ref (k9_ga G 76)), (1, .int x1), (2, .int x2), (3, .int x3), (4, .int x4), (5, .int x5), (6, .int x6)] [] := by
  refine k9_iload X dX7_steerNow_13 6 rfl ?_
  refine k9_bipush (v := 7) X dX7_steerNow_15 (by decide) ?_
  refine k9_icmp_ge (tgt := 116) X dX7_steerNow_17 (by decide) (fun c1 => ?_) (fun c1 => ?_)
  · refine k9_aload_n X dX7_steerNow_116 rfl 0 rfl ?_
    refine k9_callVv0 X (k1 c1) k9_ob_76 (cwV 0 X.2.2.2.2.1 gX7_steerNow_X7_layBack rfl rfl rfl (by decide +kernel) ⟨Nat.le_of_ble_eq_true rfl, Nat.le_of_ble_eq_true rfl⟩) (Nat.le_of_ble_eq_true rfl) dX7_steerNow_117 ⟨Nat.zero_le _, Nat.zero_le _⟩ ?_
    refine k9_iload_n X dX7_steerNow_120 rfl 3 rfl ?_
    refine k9_if_ne (tgt := 129) X dX7_steerNow_121 (by decide) (fun c2 => ?_) (fun c2 => ?_)
    · refine k9_iload X dX7_steerNow_129 5 rfl ?_
      refine k9_sub (lv' := []) [] rfl ?_
      exact (l1 c1 c2)
    · refine k9_iload X dX7_steerNow_124 4 rfl ?_
      refine k9_goto (tgt := 131) X dX7_steerNow_126 (by decide) ?_
      refine k9_sub (lv' := []) [] rfl ?_
      exact (l2 c1 c2)
  · refine k9_iload X dX7_steerNow_20 6 rfl ?_
    refine k9_iconst (v := 2) X dX7_steerNow_22 (by decide) ?_
    refine k9_irem X dX7_steerNow_23 (by decide) ?_
    refine k9_iconst (v := 1) X dX7_steerNow_24 (by decide) ?_
    refine k9_icmp_ne (tgt := 38) X dX7_steerNow_25 (by decide) (fun c3 => ?_) (fun c3 => ?_)
    · refine k9_iload X dX7_steerNow_38 6 rfl ?_
      refine k9_iconst (v := 2) X dX7_steerNow_40 (by decide) ?_
      refine k9_idiv X dX7_steerNow_41 (by decide) ?_
      refine k9_istore (lv' := [(0, .ref (k9_ga G 76)), (1, .int x1), (2, .int x2), (3, .int x3), (4, .int x4), (5, .int x5), (6, .int x6), (7, .int (x6 / (2 : Int32)))]) X dX7_steerNow_42 (by decide) [1, 2, 3, 4, 5, 6, 7, 0] rfl ?_
      refine k9_iload_n X dX7_steerNow_44 rfl 1 rfl ?_
      refine k9_istore (lv' := [(0, .ref (k9_ga G 76)), (1, .int x1), (2, .int x2), (3, .int x3), (4, .int x4), (5, .int x5), (6, .int x6), (7, .int (x6 / (2 : Int32))), (8, .int x1)]) X dX7_steerNow_45 (by decide) [1, 2, 3, 4, 5, 6, 7, 8, 0] rfl ?_
      exact (l3 c1 c3)
    · refine k9_iload X dX7_steerNow_28 6 rfl ?_
      refine k9_iconst (v := 1) X dX7_steerNow_30 (by decide) ?_
      refine k9_iadd X dX7_steerNow_31 ?_
      refine k9_ineg X dX7_steerNow_32 ?_
      refine k9_iconst (v := 2) X dX7_steerNow_33 (by decide) ?_
      refine k9_idiv X dX7_steerNow_34 (by decide) ?_
      refine k9_goto (tgt := 42) X dX7_steerNow_35 (by decide) ?_
      refine k9_istore (lv' := [(0, .ref (k9_ga G 76)), (1, .int x1), (2, .int x2), (3, .int x3), (4, .int x4), (5, .int x5), (6, .int x6), (7, .int ((-(x6 + (1 : Int32))) / (2 : Int32)))]) X dX7_steerNow_42 (by decide) [1, 2, 3, 4, 5, 6, 7, 0] rfl ?_
      refine k9_iload_n X dX7_steerNow_44 rfl 1 rfl ?_
      refine k9_istore (lv' := [(0, .ref (k9_ga G 76)), (1, .int x1), (2, .int x2), (3, .int x3), (4, .int x4), (5, .int x5), (6, .int x6), (7, .int ((-(x6 + (1 : Int32))) / (2 : Int32))), (8, .int x1)]) X dX7_steerNow_45 (by decide) [1, 2, 3, 4, 5, 6, 7, 8, 0] rfl ?_
      exact (l4 c1 c3)

set_option maxRecDepth 20000 in
theorem bk_X7_steerNow_47 (X : k9_X p R s m args c A G 9 cX7_steerNow wsX7_steerNow RX7 rm_X7_steerNow) {x1 x2 x3 x4 x5 x6 x7 x8 : Int32} {rv1 : Int32} {mv1 : k9_Mem}
    (k1 : (x2 < x8) → k9_Ci l yX7_rightsNow wsX7_rightsNow rm_X7_rightsNow G M [.ref (k9_ga G 76)] rv1 mv1)
    (l1 : (x2 < x8) → (rv1 ≤ x5) → k9_U p l e R s m args below meth c Q A G 9 0 0 mv1 13 [(0, .ref (k9_ga G 76)), (1, .int x1), (2, .int x2), (3, .int x3), (4, .int x4), (5, .int x5), (6, .int (x6 + (1 : Int32)))] [])
    (l2 : (x2 < x8) → (¬ (rv1 ≤ x5)) → k9_U p l e R s m args below meth c Q A G 9 0 0 mv1 13 [(0, .ref (k9_ga G 76)), (1, .int x1), (2, .int x2), (3, .int x3), (4, .int x7), (5, .int rv1), (6, .int (x6 + (1 : Int32)))] [])
    (o1 : (¬ (x2 < x8)) → vp_in ((288 : Int32) + x8) 578)
    (l3 : (¬ (x2 < x8)) → k9_U p l e R s m args below meth c Q A G 9 0 0 (k9_st M 77 ((288 : Int32) + x8).toNatClampNeg x7) 47 [(0, .ref (k9_ga G 76)), (1, .int x1), (2, .int x2), (3, .int x3), (4, .int x4), (5, .int x5), (6, .int x6), (7, .int x7), (8, .int (x8 + (1 : Int32)))] []) : k9_U p l e R s m args below meth c Q A G 9 0 0 M 47 [(0, .ref (k9_ga G 76)), (1, .int x1), (2, .int x2), (3, .int x3), (4, .int x4), (5, .int x5), (6, .int x6), (7, .int x7), (8, .int x8)] [] := by
  refine k9_iload X dX7_steerNow_47 8 rfl ?_
  refine k9_iload_n X dX7_steerNow_49 rfl 2 rfl ?_
  refine k9_icmp_gt (tgt := 72) X dX7_steerNow_50 (by decide) (fun c1 => ?_) (fun c1 => ?_)
  · refine k9_aload_n X dX7_steerNow_72 rfl 0 rfl ?_
    refine k9_callVi0 X (k1 c1) k9_ob_76 (cwV 0 X.2.2.2.2.1 gX7_steerNow_X7_rightsNow rfl rfl rfl (by decide +kernel) ⟨Nat.le_of_ble_eq_true rfl, Nat.le_of_ble_eq_true rfl⟩) (Nat.le_of_ble_eq_true rfl) dX7_steerNow_73 ⟨Nat.zero_le _, Nat.zero_le _⟩ ?_
    refine k9_istore (lv' := [(0, .ref (k9_ga G 76)), (1, .int x1), (2, .int x2), (3, .int x3), (4, .int x4), (5, .int x5), (6, .int x6), (7, .int x7), (8, .int rv1)]) X dX7_steerNow_76 (by decide) [1, 2, 3, 4, 5, 6, 7, 8, 0] rfl ?_
    refine k9_iload X dX7_steerNow_78 8 rfl ?_
    refine k9_iload X dX7_steerNow_80 5 rfl ?_
    refine k9_icmp_le (tgt := 90) X dX7_steerNow_82 (by decide) (fun c2 => ?_) (fun c2 => ?_)
    · refine k9_iload X dX7_steerNow_90 4 rfl ?_
      refine k9_istore (lv' := [(0, .ref (k9_ga G 76)), (1, .int x1), (2, .int x2), (3, .int x3), (4, .int x4), (5, .int x5), (6, .int x6), (7, .int x7), (8, .int rv1)]) X dX7_steerNow_92 (by decide) [1, 2, 3, 4, 0, 5, 6, 7, 8] rfl ?_
      refine k9_iload X dX7_steerNow_94 8 rfl ?_
      refine k9_iload X dX7_steerNow_96 5 rfl ?_
      refine k9_icmp_le (tgt := 106) X dX7_steerNow_98 (by decide) (fun _ => ?_) (fun c => absurd c2 c)
      refine k9_iload X dX7_steerNow_106 5 rfl ?_
      refine k9_istore (lv' := [(0, .ref (k9_ga G 76)), (1, .int x1), (2, .int x2), (3, .int x3), (4, .int x4), (5, .int x5), (6, .int x6), (7, .int x7), (8, .int rv1)]) X dX7_steerNow_108 (by decide) [1, 2, 3, 4, 5, 0, 6, 7, 8] rfl ?_
      refine k9_iinc (v := x6 + (1 : Int32)) (lv' := [(0, .ref (k9_ga G 76)), (1, .int x1), (2, .int x2), (3, .int x3), (4, .int x4), (5, .int x5), (6, .int (x6 + (1 : Int32))), (7, .int x7), (8, .int rv1)]) X dX7_steerNow_110 (k := 6) rfl (by rfl) (by decide) [1, 2, 3, 4, 5, 6, 0, 7, 8] rfl ?_
      refine k9_goto (tgt := 13) X dX7_steerNow_113 (by decide) ?_
      refine k9_sub (lv' := [(0, .ref (k9_ga G 76)), (1, .int x1), (2, .int x2), (3, .int x3), (4, .int x4), (5, .int x5), (6, .int (x6 + (1 : Int32)))]) [0, 1, 2, 3, 4, 5, 6] rfl ?_
      exact (l1 c1 c2)
    · refine k9_iload X dX7_steerNow_85 7 rfl ?_
      refine k9_goto (tgt := 92) X dX7_steerNow_87 (by decide) ?_
      refine k9_istore (lv' := [(0, .ref (k9_ga G 76)), (1, .int x1), (2, .int x2), (3, .int x3), (4, .int x7), (5, .int x5), (6, .int x6), (7, .int x7), (8, .int rv1)]) X dX7_steerNow_92 (by decide) [1, 2, 3, 4, 0, 5, 6, 7, 8] rfl ?_
      refine k9_iload X dX7_steerNow_94 8 rfl ?_
      refine k9_iload X dX7_steerNow_96 5 rfl ?_
      refine k9_icmp_le (tgt := 106) X dX7_steerNow_98 (by decide) (fun c => absurd c c2) (fun _ => ?_)
      refine k9_iload X dX7_steerNow_101 8 rfl ?_
      refine k9_goto (tgt := 108) X dX7_steerNow_103 (by decide) ?_
      refine k9_istore (lv' := [(0, .ref (k9_ga G 76)), (1, .int x1), (2, .int x2), (3, .int x3), (4, .int x7), (5, .int rv1), (6, .int x6), (7, .int x7), (8, .int rv1)]) X dX7_steerNow_108 (by decide) [1, 2, 3, 4, 5, 0, 6, 7, 8] rfl ?_
      refine k9_iinc (v := x6 + (1 : Int32)) (lv' := [(0, .ref (k9_ga G 76)), (1, .int x1), (2, .int x2), (3, .int x3), (4, .int x7), (5, .int rv1), (6, .int (x6 + (1 : Int32))), (7, .int x7), (8, .int rv1)]) X dX7_steerNow_110 (k := 6) rfl (by rfl) (by decide) [1, 2, 3, 4, 5, 6, 0, 7, 8] rfl ?_
      refine k9_goto (tgt := 13) X dX7_steerNow_113 (by decide) ?_
      refine k9_sub (lv' := [(0, .ref (k9_ga G 76)), (1, .int x1), (2, .int x2), (3, .int x3), (4, .int x7), (5, .int rv1), (6, .int (x6 + (1 : Int32)))]) [0, 1, 2, 3, 4, 5, 6] rfl ?_
      exact (l2 c1 c2)
  · refine k9_aload_n X dX7_steerNow_53 rfl 0 rfl ?_
    refine k9_gX7_0 X in_X7_steerNow_X7 fl_X7_steerNow_7 dX7_steerNow_54 ?_
    refine k9_sipush (v := 288) X dX7_steerNow_57 (by decide) ?_
    refine k9_iload X dX7_steerNow_60 8 rfl ?_
    refine k9_iadd X dX7_steerNow_62 ?_
    refine k9_iload X dX7_steerNow_63 7 rfl ?_
    refine k9_iast X (by decide) (o1 c1) dX7_steerNow_65 ?_
    refine k9_iinc (v := x8 + (1 : Int32)) (lv' := [(0, .ref (k9_ga G 76)), (1, .int x1), (2, .int x2), (3, .int x3), (4, .int x4), (5, .int x5), (6, .int x6), (7, .int x7), (8, .int (x8 + (1 : Int32)))]) X dX7_steerNow_66 (k := 8) rfl (by rfl) (by decide) [1, 2, 3, 4, 5, 6, 7, 8, 0] rfl ?_
    refine k9_goto (tgt := 47) X dX7_steerNow_69 (by decide) ?_
    exact (l3 c1)

theorem in_X7_bestSteer_X7 : ∀ w ∈ u_ws RX7 TX7 19, w ∈ wsX7_bestSteer := by decide +kernel
theorem fl_X7_bestSteer_46 : Cond.fieldLink RX7 46 (TX7 5).1 (TX7 5).2.1 (TX7 5).2.2.1 ∈ wsX7_bestSteer := by decide +kernel
set_option maxRecDepth 20000 in
theorem bk_X7_bestSteer_0 (X : k9_X p R s m args c A G 4 cX7_bestSteer wsX7_bestSteer RX7 rm_X7_bestSteer) {a0 a1 a2 : Int32} {rv1 : Int32} {rv2 : Int32} {mv2 : k9_Mem} {rv3 : Int32} {rv4 : Int32} {mv4 : k9_Mem}
    (k1 : k9_Ci l yX7_refusedRange wsX7_refusedRange rm_X7_refusedRange G M [.int (1 : Int32), .int a0, .int a1] rv1 M)
    (k2 : (¬ rv1 = 0) → (rv1 ≤ 0) → k9_Ci l yX7_steerNow wsX7_steerNow rm_X7_steerNow G (k9_st M 76 5 rv1) [.ref (k9_ga G 76), .int a0, .int a1, .int a2] rv2 mv2)
    (l1 : (¬ rv1 = 0) → (rv1 ≤ 0) → k9_U p l e R s m args below meth c Q A G 4 0 0 mv2 53 [] [.int rv2])
    (l2 : (¬ rv1 = 0) → (¬ (rv1 ≤ 0)) → k9_U p l e R s m args below meth c Q A G 4 0 0 (k9_st M 76 5 rv1) 53 [] [.int (0 : Int32)])
    (k3 : (rv1 = 0) → k9_Ci l yX7_within wsX7_within rm_X7_within G (k9_st M 76 5 rv1) [.int a2, .int (0 : Int32), .int (1 : Int32)] rv3 (k9_st M 76 5 rv1))
    (l3 : (rv1 = 0) → (rv3 = 0) → k9_U p l e R s m args below meth c Q A G 4 0 0 (k9_st (k9_st M 76 5 rv1) 76 5 (2 : Int32)) 53 [] [.int (0 : Int32)])
    (k4 : (rv1 = 0) → (¬ (rv3 = 0)) → k9_Ci l yX7_steerNow wsX7_steerNow rm_X7_steerNow G (k9_st (k9_st M 76 5 rv1) 76 5 (0 : Int32)) [.ref (k9_ga G 76), .int a0, .int a1, .int a2] rv4 mv4)
    (l4 : (rv1 = 0) → (¬ (rv3 = 0)) → k9_U p l e R s m args below meth c Q A G 4 0 0 mv4 53 [] [.int rv4]) : k9_U p l e R s m args below meth c Q A G 4 0 0 M 0 [(0, .ref (k9_ga G 76)), (1, .int a0), (2, .int a1), (3, .int a2)] [] := by
  refine k9_aload_n X dX7_bestSteer_0 rfl 0 rfl ?_
  refine k9_iconst (v := 1) X dX7_bestSteer_1 (by decide) ?_
  refine k9_iload_n X dX7_bestSteer_2 rfl 1 rfl ?_
  refine k9_iload_n X dX7_bestSteer_3 rfl 2 rfl ?_
  refine k9_callSi3 X k1  (va_cwS 3 X.2.2.2.2.1 gX7_bestSteer_X7_refusedRange rfl rfl rfl (by decide +kernel) ⟨Nat.le_of_ble_eq_true rfl, Nat.le_of_ble_eq_true rfl⟩) (Nat.le_of_ble_eq_true rfl) dX7_bestSteer_4 ⟨Nat.zero_le _, Nat.zero_le _⟩ ?_
  refine k9_pX7_5 X in_X7_bestSteer_X7 fl_X7_bestSteer_46 dX7_bestSteer_7 ?_
  refine k9_aload_n X dX7_bestSteer_10 rfl 0 rfl ?_
  refine k9_gX7_5 (v := rv1) X (by rfl) in_X7_bestSteer_X7 fl_X7_bestSteer_46 dX7_bestSteer_11 ?_
  refine k9_if_ne (tgt := 35) X dX7_bestSteer_14 (by decide) (fun c1 => ?_) (fun c1 => ?_)
  · refine k9_aload_n X dX7_bestSteer_35 rfl 0 rfl ?_
    refine k9_gX7_5 (v := rv1) X (by rfl) in_X7_bestSteer_X7 fl_X7_bestSteer_46 dX7_bestSteer_36 ?_
    refine k9_if_le (tgt := 46) X dX7_bestSteer_39 (by decide) (fun c2 => ?_) (fun c2 => ?_)
    · refine k9_aload_n X dX7_bestSteer_46 rfl 0 rfl ?_
      refine k9_iload_n X dX7_bestSteer_47 rfl 1 rfl ?_
      refine k9_iload_n X dX7_bestSteer_48 rfl 2 rfl ?_
      refine k9_iload_n X dX7_bestSteer_49 rfl 3 rfl ?_
      refine k9_callVi3 X (k2 c1 c2) k9_ob_76 (cwV 3 X.2.2.2.2.1 gX7_bestSteer_X7_steerNow rfl rfl rfl (by decide +kernel) ⟨Nat.le_of_ble_eq_true rfl, Nat.le_of_ble_eq_true rfl⟩) (Nat.le_of_ble_eq_true rfl) dX7_bestSteer_50 ⟨Nat.zero_le _, Nat.zero_le _⟩ ?_
      refine k9_sub (lv' := []) [] rfl ?_
      exact (l1 c1 c2)
    · refine k9_iconst (v := 0) X dX7_bestSteer_42 (by decide) ?_
      refine k9_goto (tgt := 53) X dX7_bestSteer_43 (by decide) ?_
      refine k9_sub (lv' := []) [] rfl ?_
      exact (l2 c1 c2)
  · refine k9_aload_n X dX7_bestSteer_17 rfl 0 rfl ?_
    refine k9_iload_n X dX7_bestSteer_18 rfl 3 rfl ?_
    refine k9_iconst (v := 0) X dX7_bestSteer_19 (by decide) ?_
    refine k9_iconst (v := 1) X dX7_bestSteer_20 (by decide) ?_
    refine k9_callSi3 X (k3 c1)  (va_cwS 3 X.2.2.2.2.1 gX7_bestSteer_X7_within rfl rfl rfl (by decide +kernel) ⟨Nat.le_of_ble_eq_true rfl, Nat.le_of_ble_eq_true rfl⟩) (Nat.le_of_ble_eq_true rfl) dX7_bestSteer_21 ⟨Nat.zero_le _, Nat.zero_le _⟩ ?_
    refine k9_if_eq (tgt := 31) X dX7_bestSteer_24 (by decide) (fun c3 => ?_) (fun c3 => ?_)
    · refine k9_iconst (v := 2) X dX7_bestSteer_31 (by decide) ?_
      refine k9_pX7_5 X in_X7_bestSteer_X7 fl_X7_bestSteer_46 dX7_bestSteer_32 ?_
      refine k9_aload_n X dX7_bestSteer_35 rfl 0 rfl ?_
      refine k9_gX7_5 (v := (2 : Int32)) X (by rfl) in_X7_bestSteer_X7 fl_X7_bestSteer_46 dX7_bestSteer_36 ?_
      refine k9_if_le (tgt := 46) X dX7_bestSteer_39 (by decide) (fun c => absurd c (by decide)) (fun _ => ?_)
      refine k9_iconst (v := 0) X dX7_bestSteer_42 (by decide) ?_
      refine k9_goto (tgt := 53) X dX7_bestSteer_43 (by decide) ?_
      refine k9_sub (lv' := []) [] rfl ?_
      exact (l3 c1 c3)
    · refine k9_iconst (v := 0) X dX7_bestSteer_27 (by decide) ?_
      refine k9_goto (tgt := 32) X dX7_bestSteer_28 (by decide) ?_
      refine k9_pX7_5 X in_X7_bestSteer_X7 fl_X7_bestSteer_46 dX7_bestSteer_32 ?_
      refine k9_aload_n X dX7_bestSteer_35 rfl 0 rfl ?_
      refine k9_gX7_5 (v := (0 : Int32)) X (by rfl) in_X7_bestSteer_X7 fl_X7_bestSteer_46 dX7_bestSteer_36 ?_
      refine k9_if_le (tgt := 46) X dX7_bestSteer_39 (by decide) (fun _ => ?_) (fun c => absurd c (by decide))
      refine k9_aload_n X dX7_bestSteer_46 rfl 0 rfl ?_
      refine k9_iload_n X dX7_bestSteer_47 rfl 1 rfl ?_
      refine k9_iload_n X dX7_bestSteer_48 rfl 2 rfl ?_
      refine k9_iload_n X dX7_bestSteer_49 rfl 3 rfl ?_
      refine k9_callVi3 X (k4 c1 c3) k9_ob_76 (cwV 3 X.2.2.2.2.1 gX7_bestSteer_X7_steerNow rfl rfl rfl (by decide +kernel) ⟨Nat.le_of_ble_eq_true rfl, Nat.le_of_ble_eq_true rfl⟩) (Nat.le_of_ble_eq_true rfl) dX7_bestSteer_50 ⟨Nat.zero_le _, Nat.zero_le _⟩ ?_
      refine k9_sub (lv' := []) [] rfl ?_
      exact (l4 c1 c3)

theorem in_X7_bridgeNow_X7 : ∀ w ∈ u_ws RX7 TX7 19, w ∈ wsX7_bridgeNow := by decide +kernel
theorem fl_X7_bridgeNow_7 : Cond.fieldLink RX7 7 (TX7 0).1 (TX7 0).2.1 (TX7 0).2.2.1 ∈ wsX7_bridgeNow := by decide +kernel
set_option maxRecDepth 20000 in
theorem bk_X7_bridgeNow_0 (X : k9_X p R s m args c A G 6 cX7_bridgeNow wsX7_bridgeNow RX7 rm_X7_bridgeNow) 
    (l1 : k9_U p l e R s m args below meth c Q A G 6 0 0 M 16 [(0, .ref (k9_ga G 76)), (1, .int (M 77 384)), (2, .int (0 : Int32)), (3, .int (-1 : Int32)), (4, .int (0 : Int32))] []) : k9_U p l e R s m args below meth c Q A G 6 0 0 M 0 [(0, .ref (k9_ga G 76))] [] := by
  refine k9_aload_n X dX7_bridgeNow_0 rfl 0 rfl ?_
  refine k9_gX7_0 X in_X7_bridgeNow_X7 fl_X7_bridgeNow_7 dX7_bridgeNow_1 ?_
  refine k9_sipush (v := 384) X dX7_bridgeNow_4 (by decide) ?_
  refine k9_ialdL (n := 578) (j := 384) X (by decide) (by decide) (by decide) (by decide) (by rfl) dX7_bridgeNow_7 ?_
  refine k9_istore_n (lv' := [(0, .ref (k9_ga G 76)), (1, .int (M 77 384))]) X dX7_bridgeNow_8 rfl (by decide) [1, 0] rfl ?_
  refine k9_iconst (v := 0) X dX7_bridgeNow_9 (by decide) ?_
  refine k9_istore_n (lv' := [(0, .ref (k9_ga G 76)), (1, .int (M 77 384)), (2, .int (0 : Int32))]) X dX7_bridgeNow_10 rfl (by decide) [1, 2, 0] rfl ?_
  refine k9_iconst (v := -1) X dX7_bridgeNow_11 (by decide) ?_
  refine k9_istore_n (lv' := [(0, .ref (k9_ga G 76)), (1, .int (M 77 384)), (2, .int (0 : Int32)), (3, .int (-1 : Int32))]) X dX7_bridgeNow_12 rfl (by decide) [1, 2, 3, 0] rfl ?_
  refine k9_iconst (v := 0) X dX7_bridgeNow_13 (by decide) ?_
  refine k9_istore (lv' := [(0, .ref (k9_ga G 76)), (1, .int (M 77 384)), (2, .int (0 : Int32)), (3, .int (-1 : Int32)), (4, .int (0 : Int32))]) X dX7_bridgeNow_14 (by decide) [1, 2, 3, 4, 0] rfl ?_
  exact l1

set_option maxRecDepth 20000 in
theorem bk_X7_bridgeNow_16 (X : k9_X p R s m args c A G 6 cX7_bridgeNow wsX7_bridgeNow RX7 rm_X7_bridgeNow) {x1 x2 x3 x4 : Int32} {rv1 : Int32} {mv1 : k9_Mem}
    (l1 : ((4 : Int32) ≤ x4) → k9_U p l e R s m args below meth c Q A G 6 0 0 (k9_st M 77 384 x1) 80 [] [.int x2])
    (k1 : (¬ ((4 : Int32) ≤ x4)) → k9_Ci l yX7_rightsNow wsX7_rightsNow rm_X7_rightsNow G (k9_st M 77 384 x4) [.ref (k9_ga G 76)] rv1 mv1)
    (l2 : (¬ ((4 : Int32) ≤ x4)) → (rv1 ≤ x3) → k9_U p l e R s m args below meth c Q A G 6 0 0 mv1 16 [(0, .ref (k9_ga G 76)), (1, .int x1), (2, .int x2), (3, .int x3), (4, .int (x4 + (1 : Int32)))] [])
    (l3 : (¬ ((4 : Int32) ≤ x4)) → (¬ (rv1 ≤ x3)) → k9_U p l e R s m args below meth c Q A G 6 0 0 mv1 16 [(0, .ref (k9_ga G 76)), (1, .int x1), (2, .int x4), (3, .int rv1), (4, .int (x4 + (1 : Int32)))] []) : k9_U p l e R s m args below meth c Q A G 6 0 0 M 16 [(0, .ref (k9_ga G 76)), (1, .int x1), (2, .int x2), (3, .int x3), (4, .int x4)] [] := by
  refine k9_iload X dX7_bridgeNow_16 4 rfl ?_
  refine k9_iconst (v := 4) X dX7_bridgeNow_18 (by decide) ?_
  refine k9_icmp_ge (tgt := 70) X dX7_bridgeNow_19 (by decide) (fun c1 => ?_) (fun c1 => ?_)
  · refine k9_aload_n X dX7_bridgeNow_70 rfl 0 rfl ?_
    refine k9_gX7_0 X in_X7_bridgeNow_X7 fl_X7_bridgeNow_7 dX7_bridgeNow_71 ?_
    refine k9_sipush (v := 384) X dX7_bridgeNow_74 (by decide) ?_
    refine k9_iload_n X dX7_bridgeNow_77 rfl 1 rfl ?_
    refine k9_iastL (n := 578) (j := 384) X (by decide) (by decide) (by decide) (by decide) dX7_bridgeNow_78 ?_
    refine k9_iload_n X dX7_bridgeNow_79 rfl 2 rfl ?_
    refine k9_sub (lv' := []) [] rfl ?_
    exact (l1 c1)
  · refine k9_aload_n X dX7_bridgeNow_22 rfl 0 rfl ?_
    refine k9_gX7_0 X in_X7_bridgeNow_X7 fl_X7_bridgeNow_7 dX7_bridgeNow_23 ?_
    refine k9_sipush (v := 384) X dX7_bridgeNow_26 (by decide) ?_
    refine k9_iload X dX7_bridgeNow_29 4 rfl ?_
    refine k9_iastL (n := 578) (j := 384) X (by decide) (by decide) (by decide) (by decide) dX7_bridgeNow_31 ?_
    refine k9_aload_n X dX7_bridgeNow_32 rfl 0 rfl ?_
    refine k9_callVi0 X (k1 c1) k9_ob_76 (cwV 0 X.2.2.2.2.1 gX7_bridgeNow_X7_rightsNow rfl rfl rfl (by decide +kernel) ⟨Nat.le_of_ble_eq_true rfl, Nat.le_of_ble_eq_true rfl⟩) (Nat.le_of_ble_eq_true rfl) dX7_bridgeNow_33 ⟨Nat.zero_le _, Nat.zero_le _⟩ ?_
    refine k9_istore (lv' := [(0, .ref (k9_ga G 76)), (1, .int x1), (2, .int x2), (3, .int x3), (4, .int x4), (5, .int rv1)]) X dX7_bridgeNow_36 (by decide) [1, 2, 3, 4, 5, 0] rfl ?_
    refine k9_iload X dX7_bridgeNow_38 5 rfl ?_
    refine k9_iload_n X dX7_bridgeNow_40 rfl 3 rfl ?_
    refine k9_icmp_le (tgt := 49) X dX7_bridgeNow_41 (by decide) (fun c2 => ?_) (fun c2 => ?_)
    · refine k9_iload_n X dX7_bridgeNow_49 rfl 2 rfl ?_
      refine k9_istore_n (lv' := [(0, .ref (k9_ga G 76)), (1, .int x1), (2, .int x2), (3, .int x3), (4, .int x4), (5, .int rv1)]) X dX7_bridgeNow_50 rfl (by decide) [1, 2, 0, 3, 4, 5] rfl ?_
      refine k9_iload X dX7_bridgeNow_51 5 rfl ?_
      refine k9_iload_n X dX7_bridgeNow_53 rfl 3 rfl ?_
      refine k9_icmp_le (tgt := 62) X dX7_bridgeNow_54 (by decide) (fun _ => ?_) (fun c => absurd c2 c)
      refine k9_iload_n X dX7_bridgeNow_62 rfl 3 rfl ?_
      refine k9_istore_n (lv' := [(0, .ref (k9_ga G 76)), (1, .int x1), (2, .int x2), (3, .int x3), (4, .int x4), (5, .int rv1)]) X dX7_bridgeNow_63 rfl (by decide) [1, 2, 3, 0, 4, 5] rfl ?_
      refine k9_iinc (v := x4 + (1 : Int32)) (lv' := [(0, .ref (k9_ga G 76)), (1, .int x1), (2, .int x2), (3, .int x3), (4, .int (x4 + (1 : Int32))), (5, .int rv1)]) X dX7_bridgeNow_64 (k := 4) rfl (by rfl) (by decide) [1, 2, 3, 4, 0, 5] rfl ?_
      refine k9_goto (tgt := 16) X dX7_bridgeNow_67 (by decide) ?_
      refine k9_sub (lv' := [(0, .ref (k9_ga G 76)), (1, .int x1), (2, .int x2), (3, .int x3), (4, .int (x4 + (1 : Int32)))]) [0, 1, 2, 3, 4] rfl ?_
      exact (l2 c1 c2)
    · refine k9_iload X dX7_bridgeNow_44 4 rfl ?_
      refine k9_goto (tgt := 50) X dX7_bridgeNow_46 (by decide) ?_
      refine k9_istore_n (lv' := [(0, .ref (k9_ga G 76)), (1, .int x1), (2, .int x4), (3, .int x3), (4, .int x4), (5, .int rv1)]) X dX7_bridgeNow_50 rfl (by decide) [1, 2, 0, 3, 4, 5] rfl ?_
      refine k9_iload X dX7_bridgeNow_51 5 rfl ?_
      refine k9_iload_n X dX7_bridgeNow_53 rfl 3 rfl ?_
      refine k9_icmp_le (tgt := 62) X dX7_bridgeNow_54 (by decide) (fun c => absurd c c2) (fun _ => ?_)
      refine k9_iload X dX7_bridgeNow_57 5 rfl ?_
      refine k9_goto (tgt := 63) X dX7_bridgeNow_59 (by decide) ?_
      refine k9_istore_n (lv' := [(0, .ref (k9_ga G 76)), (1, .int x1), (2, .int x4), (3, .int rv1), (4, .int x4), (5, .int rv1)]) X dX7_bridgeNow_63 rfl (by decide) [1, 2, 3, 0, 4, 5] rfl ?_
      refine k9_iinc (v := x4 + (1 : Int32)) (lv' := [(0, .ref (k9_ga G 76)), (1, .int x1), (2, .int x4), (3, .int rv1), (4, .int (x4 + (1 : Int32))), (5, .int rv1)]) X dX7_bridgeNow_64 (k := 4) rfl (by rfl) (by decide) [1, 2, 3, 4, 0, 5] rfl ?_
      refine k9_goto (tgt := 16) X dX7_bridgeNow_67 (by decide) ?_
      refine k9_sub (lv' := [(0, .ref (k9_ga G 76)), (1, .int x1), (2, .int x4), (3, .int rv1), (4, .int (x4 + (1 : Int32)))]) [0, 1, 2, 3, 4] rfl ?_
      exact (l3 c1 c2)

theorem in_X7_bestBridge_X7 : ∀ w ∈ u_ws RX7 TX7 19, w ∈ wsX7_bestBridge := by decide +kernel
theorem fl_X7_bestBridge_46 : Cond.fieldLink RX7 46 (TX7 5).1 (TX7 5).2.1 (TX7 5).2.2.1 ∈ wsX7_bestBridge := by decide +kernel
set_option maxRecDepth 20000 in
theorem bk_X7_bestBridge_0 (X : k9_X p R s m args c A G 1 cX7_bestBridge wsX7_bestBridge RX7 rm_X7_bestBridge) {rv1 : Int32} {mv1 : k9_Mem}
    (k1 : k9_Ci l yX7_bridgeNow wsX7_bridgeNow rm_X7_bridgeNow G (k9_st M 76 5 (0 : Int32)) [.ref (k9_ga G 76)] rv1 mv1)
    (l1 : k9_U p l e R s m args below meth c Q A G 1 0 0 mv1 9 [] [.int rv1]) : k9_U p l e R s m args below meth c Q A G 1 0 0 M 0 [(0, .ref (k9_ga G 76))] [] := by
  refine k9_aload_n X dX7_bestBridge_0 rfl 0 rfl ?_
  refine k9_iconst (v := 0) X dX7_bestBridge_1 (by decide) ?_
  refine k9_pX7_5 X in_X7_bestBridge_X7 fl_X7_bestBridge_46 dX7_bestBridge_2 ?_
  refine k9_aload_n X dX7_bestBridge_5 rfl 0 rfl ?_
  refine k9_callVi0 X k1 k9_ob_76 (cwV 0 X.2.2.2.2.1 gX7_bestBridge_X7_bridgeNow rfl rfl rfl (by decide +kernel) ⟨Nat.le_of_ble_eq_true rfl, Nat.le_of_ble_eq_true rfl⟩) (Nat.le_of_ble_eq_true rfl) dX7_bestBridge_6 ⟨Nat.zero_le _, Nat.zero_le _⟩ ?_
  refine k9_sub (lv' := []) [] rfl ?_
  exact l1

set_option maxRecDepth 20000 in
theorem bk_X7_held_0 (X : k9_X p R s m args c A G 1 cX7_held wsX7_held RX7 rm_X7_held) {a0 : Int32}
    (l1 : (a0 ≤ (3 : Int32)) → ((-3 : Int32) ≤ a0) → k9_U p l e R s m args below meth c Q A G 1 0 0 M 21 [] [.int a0])
    (l2 : (a0 ≤ (3 : Int32)) → (¬ ((-3 : Int32) ≤ a0)) → k9_U p l e R s m args below meth c Q A G 1 0 0 M 21 [] [.int (-3 : Int32)])
    (l3 : (¬ (a0 ≤ (3 : Int32))) → k9_U p l e R s m args below meth c Q A G 1 0 0 M 21 [] [.int (3 : Int32)]) : k9_U p l e R s m args below meth c Q A G 1 0 0 M 0 [(0, .int a0)] [] := by
  refine k9_iload_n X dX7_held_0 rfl 0 rfl ?_
  refine k9_iconst (v := 3) X dX7_held_1 (by decide) ?_
  refine k9_icmp_le (tgt := 9) X dX7_held_2 (by decide) (fun c1 => ?_) (fun c1 => ?_)
  · refine k9_iload_n X dX7_held_9 rfl 0 rfl ?_
    refine k9_bipush (v := -3) X dX7_held_10 (by decide) ?_
    refine k9_icmp_ge (tgt := 20) X dX7_held_12 (by decide) (fun c2 => ?_) (fun c2 => ?_)
    · refine k9_iload_n X dX7_held_20 rfl 0 rfl ?_
      refine k9_sub (lv' := []) [] rfl ?_
      exact (l1 c1 c2)
    · refine k9_bipush (v := -3) X dX7_held_15 (by decide) ?_
      refine k9_goto (tgt := 21) X dX7_held_17 (by decide) ?_
      refine k9_sub (lv' := []) [] rfl ?_
      exact (l2 c1 c2)
  · refine k9_iconst (v := 3) X dX7_held_5 (by decide) ?_
    refine k9_goto (tgt := 21) X dX7_held_6 (by decide) ?_
    refine k9_sub (lv' := []) [] rfl ?_
    exact (l3 c1)

theorem in_X7_breakNow_X7 : ∀ w ∈ u_ws RX7 TX7 19, w ∈ wsX7_breakNow := by decide +kernel
theorem fl_X7_breakNow_7 : Cond.fieldLink RX7 7 (TX7 0).1 (TX7 0).2.1 (TX7 0).2.2.1 ∈ wsX7_breakNow := by decide +kernel
theorem fl_X7_breakNow_43 : Cond.fieldLink RX7 43 (TX7 17).1 (TX7 17).2.1 (TX7 17).2.2.1 ∈ wsX7_breakNow := by decide +kernel
set_option maxRecDepth 20000 in
theorem bk_X7_breakNow_0 (X : k9_X p R s m args c A G 7 cX7_breakNow wsX7_breakNow RX7 rm_X7_breakNow) {a0 a1 : Int32} {mv1 : k9_Mem}
    (k1 : k9_Cv l yX7_keepSteering wsX7_keepSteering rm_X7_keepSteering G M [.ref (k9_ga G 76)] mv1)
    (l1 : k9_U p l e R s m args below meth c Q A G 7 0 0 mv1 12 [(0, .ref (k9_ga G 76)), (1, .int a0), (2, .int a1), (3, .int (0 : Int32)), (4, .int (-1 : Int32)), (5, .int (0 : Int32))] []) : k9_U p l e R s m args below meth c Q A G 7 0 0 M 0 [(0, .ref (k9_ga G 76)), (1, .int a0), (2, .int a1)] [] := by
  refine k9_aload_n X dX7_breakNow_0 rfl 0 rfl ?_
  refine k9_callVv0 X k1 k9_ob_76 (cwV 0 X.2.2.2.2.1 gX7_breakNow_X7_keepSteering rfl rfl rfl (by decide +kernel) ⟨Nat.le_of_ble_eq_true rfl, Nat.le_of_ble_eq_true rfl⟩) (Nat.le_of_ble_eq_true rfl) dX7_breakNow_1 ⟨Nat.zero_le _, Nat.zero_le _⟩ ?_
  refine k9_iconst (v := 0) X dX7_breakNow_4 (by decide) ?_
  refine k9_istore_n (lv' := [(0, .ref (k9_ga G 76)), (1, .int a0), (2, .int a1), (3, .int (0 : Int32))]) X dX7_breakNow_5 rfl (by decide) [1, 2, 3, 0] rfl ?_
  refine k9_iconst (v := -1) X dX7_breakNow_6 (by decide) ?_
  refine k9_istore (lv' := [(0, .ref (k9_ga G 76)), (1, .int a0), (2, .int a1), (3, .int (0 : Int32)), (4, .int (-1 : Int32))]) X dX7_breakNow_7 (by decide) [1, 2, 3, 4, 0] rfl ?_
  refine k9_iconst (v := 0) X dX7_breakNow_9 (by decide) ?_
  refine k9_istore (lv' := [(0, .ref (k9_ga G 76)), (1, .int a0), (2, .int a1), (3, .int (0 : Int32)), (4, .int (-1 : Int32)), (5, .int (0 : Int32))]) X dX7_breakNow_10 (by decide) [1, 2, 3, 4, 5, 0] rfl ?_
  exact l1

set_option maxRecDepth 20000 in
theorem bk_X7_breakNow_12 (X : k9_X p R s m args c A G 7 cX7_breakNow wsX7_breakNow RX7 rm_X7_breakNow) {x1 x2 x3 x4 x5 : Int32} {mv1 : k9_Mem}
    (k1 : ((96 : Int32) ≤ x5) → k9_Cv l yX7_layBack wsX7_layBack rm_X7_layBack G M [.ref (k9_ga G 76)] mv1)
    (l1 : ((96 : Int32) ≤ x5) → (¬ x2 = 0) → k9_U p l e R s m args below meth c Q A G 7 0 0 mv1 131 [] [.int x4])
    (l2 : ((96 : Int32) ≤ x5) → (x2 = 0) → k9_U p l e R s m args below meth c Q A G 7 0 0 mv1 131 [] [.int x3])
    (l3 : (¬ ((96 : Int32) ≤ x5)) → k9_U p l e R s m args below meth c Q A G 7 0 0 M 22 [(0, .ref (k9_ga G 76)), (1, .int x1), (2, .int x2), (3, .int x3), (4, .int x4), (5, .int x5), (6, .int (0 : Int32))] []) : k9_U p l e R s m args below meth c Q A G 7 0 0 M 12 [(0, .ref (k9_ga G 76)), (1, .int x1), (2, .int x2), (3, .int x3), (4, .int x4), (5, .int x5)] [] := by
  refine k9_iload X dX7_breakNow_12 5 rfl ?_
  refine k9_bipush (v := 96) X dX7_breakNow_14 (by decide) ?_
  refine k9_icmp_ge (tgt := 117) X dX7_breakNow_16 (by decide) (fun c1 => ?_) (fun c1 => ?_)
  · refine k9_aload_n X dX7_breakNow_117 rfl 0 rfl ?_
    refine k9_callVv0 X (k1 c1) k9_ob_76 (cwV 0 X.2.2.2.2.1 gX7_breakNow_X7_layBack rfl rfl rfl (by decide +kernel) ⟨Nat.le_of_ble_eq_true rfl, Nat.le_of_ble_eq_true rfl⟩) (Nat.le_of_ble_eq_true rfl) dX7_breakNow_118 ⟨Nat.zero_le _, Nat.zero_le _⟩ ?_
    refine k9_iload_n X dX7_breakNow_121 rfl 2 rfl ?_
    refine k9_if_ne (tgt := 129) X dX7_breakNow_122 (by decide) (fun c2 => ?_) (fun c2 => ?_)
    · refine k9_iload X dX7_breakNow_129 4 rfl ?_
      refine k9_sub (lv' := []) [] rfl ?_
      exact (l1 c1 c2)
    · refine k9_iload_n X dX7_breakNow_125 rfl 3 rfl ?_
      refine k9_goto (tgt := 131) X dX7_breakNow_126 (by decide) ?_
      refine k9_sub (lv' := []) [] rfl ?_
      exact (l2 c1 c2)
  · refine k9_iconst (v := 0) X dX7_breakNow_19 (by decide) ?_
    refine k9_istore (lv' := [(0, .ref (k9_ga G 76)), (1, .int x1), (2, .int x2), (3, .int x3), (4, .int x4), (5, .int x5), (6, .int (0 : Int32))]) X dX7_breakNow_20 (by decide) [1, 2, 3, 4, 5, 6, 0] rfl ?_
    exact (l3 c1)

set_option maxRecDepth 20000 in
theorem bk_X7_breakNow_22 (X : k9_X p R s m args c A G 7 cX7_breakNow wsX7_breakNow RX7 rm_X7_breakNow) {x1 x2 x3 x4 x5 x6 : Int32} {rv1 : Int32} {mv1 : k9_Mem} {rv2 : Int32}
    (k1 : ((96 : Int32) ≤ x6) → k9_Ci l yX7_rightsNow wsX7_rightsNow rm_X7_rightsNow G M [.ref (k9_ga G 76)] rv1 mv1)
    (l1 : ((96 : Int32) ≤ x6) → (rv1 ≤ x4) → k9_U p l e R s m args below meth c Q A G 7 0 0 mv1 12 [(0, .ref (k9_ga G 76)), (1, .int x1), (2, .int x2), (3, .int x3), (4, .int x4), (5, .int (x5 + (1 : Int32)))] [])
    (l2 : ((96 : Int32) ≤ x6) → (¬ (rv1 ≤ x4)) → k9_U p l e R s m args below meth c Q A G 7 0 0 mv1 12 [(0, .ref (k9_ga G 76)), (1, .int x1), (2, .int x2), (3, .int x5), (4, .int rv1), (5, .int (x5 + (1 : Int32)))] [])
    (o1 : (¬ ((96 : Int32) ≤ x6)) → (x5 ≤ x6) → vp_in x6 96)
    (k2 : (¬ ((96 : Int32) ≤ x6)) → (x5 ≤ x6) → k9_Ci l yX7_held wsX7_held rm_X7_held G M [.int ((M 88 x6.toNatClampNeg) + x1)] rv2 M)
    (o2 : (¬ ((96 : Int32) ≤ x6)) → (x5 ≤ x6) → vp_in ((288 : Int32) + x6) 578)
    (l3 : (¬ ((96 : Int32) ≤ x6)) → (x5 ≤ x6) → k9_U p l e R s m args below meth c Q A G 7 0 0 (k9_st M 77 ((288 : Int32) + x6).toNatClampNeg rv2) 22 [(0, .ref (k9_ga G 76)), (1, .int x1), (2, .int x2), (3, .int x3), (4, .int x4), (5, .int x5), (6, .int (x6 + (1 : Int32)))] [])
    (o3 : (¬ ((96 : Int32) ≤ x6)) → (¬ (x5 ≤ x6)) → vp_in x6 96)
    (o4 : (¬ ((96 : Int32) ≤ x6)) → (¬ (x5 ≤ x6)) → vp_in ((288 : Int32) + x6) 578)
    (l4 : (¬ ((96 : Int32) ≤ x6)) → (¬ (x5 ≤ x6)) → k9_U p l e R s m args below meth c Q A G 7 0 0 (k9_st M 77 ((288 : Int32) + x6).toNatClampNeg (M 88 x6.toNatClampNeg)) 22 [(0, .ref (k9_ga G 76)), (1, .int x1), (2, .int x2), (3, .int x3), (4, .int x4), (5, .int x5), (6, .int (x6 + (1 : Int32)))] []) : k9_U p l e R s m args below meth c Q A G 7 0 0 M 22 [(0, .ref (k9_ga G 76)), (1, .int x1), (2, .int x2), (3, .int x3), (4, .int x4), (5, .int x5), (6, .int x6)] [] := by
  refine k9_iload X dX7_breakNow_22 6 rfl ?_
  refine k9_bipush (v := 96) X dX7_breakNow_24 (by decide) ?_
  refine k9_icmp_ge (tgt := 75) X dX7_breakNow_26 (by decide) (fun c1 => ?_) (fun c1 => ?_)
  · refine k9_aload_n X dX7_breakNow_75 rfl 0 rfl ?_
    refine k9_callVi0 X (k1 c1) k9_ob_76 (cwV 0 X.2.2.2.2.1 gX7_breakNow_X7_rightsNow rfl rfl rfl (by decide +kernel) ⟨Nat.le_of_ble_eq_true rfl, Nat.le_of_ble_eq_true rfl⟩) (Nat.le_of_ble_eq_true rfl) dX7_breakNow_76 ⟨Nat.zero_le _, Nat.zero_le _⟩ ?_
    refine k9_istore (lv' := [(0, .ref (k9_ga G 76)), (1, .int x1), (2, .int x2), (3, .int x3), (4, .int x4), (5, .int x5), (6, .int rv1)]) X dX7_breakNow_79 (by decide) [1, 2, 3, 4, 5, 6, 0] rfl ?_
    refine k9_iload X dX7_breakNow_81 6 rfl ?_
    refine k9_iload X dX7_breakNow_83 4 rfl ?_
    refine k9_icmp_le (tgt := 93) X dX7_breakNow_85 (by decide) (fun c2 => ?_) (fun c2 => ?_)
    · refine k9_iload_n X dX7_breakNow_93 rfl 3 rfl ?_
      refine k9_istore_n (lv' := [(0, .ref (k9_ga G 76)), (1, .int x1), (2, .int x2), (3, .int x3), (4, .int x4), (5, .int x5), (6, .int rv1)]) X dX7_breakNow_94 rfl (by decide) [1, 2, 3, 0, 4, 5, 6] rfl ?_
      refine k9_iload X dX7_breakNow_95 6 rfl ?_
      refine k9_iload X dX7_breakNow_97 4 rfl ?_
      refine k9_icmp_le (tgt := 107) X dX7_breakNow_99 (by decide) (fun _ => ?_) (fun c => absurd c2 c)
      refine k9_iload X dX7_breakNow_107 4 rfl ?_
      refine k9_istore (lv' := [(0, .ref (k9_ga G 76)), (1, .int x1), (2, .int x2), (3, .int x3), (4, .int x4), (5, .int x5), (6, .int rv1)]) X dX7_breakNow_109 (by decide) [1, 2, 3, 4, 0, 5, 6] rfl ?_
      refine k9_iinc (v := x5 + (1 : Int32)) (lv' := [(0, .ref (k9_ga G 76)), (1, .int x1), (2, .int x2), (3, .int x3), (4, .int x4), (5, .int (x5 + (1 : Int32))), (6, .int rv1)]) X dX7_breakNow_111 (k := 5) rfl (by rfl) (by decide) [1, 2, 3, 4, 5, 0, 6] rfl ?_
      refine k9_goto (tgt := 12) X dX7_breakNow_114 (by decide) ?_
      refine k9_sub (lv' := [(0, .ref (k9_ga G 76)), (1, .int x1), (2, .int x2), (3, .int x3), (4, .int x4), (5, .int (x5 + (1 : Int32)))]) [0, 1, 2, 3, 4, 5] rfl ?_
      exact (l1 c1 c2)
    · refine k9_iload X dX7_breakNow_88 5 rfl ?_
      refine k9_goto (tgt := 94) X dX7_breakNow_90 (by decide) ?_
      refine k9_istore_n (lv' := [(0, .ref (k9_ga G 76)), (1, .int x1), (2, .int x2), (3, .int x5), (4, .int x4), (5, .int x5), (6, .int rv1)]) X dX7_breakNow_94 rfl (by decide) [1, 2, 3, 0, 4, 5, 6] rfl ?_
      refine k9_iload X dX7_breakNow_95 6 rfl ?_
      refine k9_iload X dX7_breakNow_97 4 rfl ?_
      refine k9_icmp_le (tgt := 107) X dX7_breakNow_99 (by decide) (fun c => absurd c c2) (fun _ => ?_)
      refine k9_iload X dX7_breakNow_102 6 rfl ?_
      refine k9_goto (tgt := 109) X dX7_breakNow_104 (by decide) ?_
      refine k9_istore (lv' := [(0, .ref (k9_ga G 76)), (1, .int x1), (2, .int x2), (3, .int x5), (4, .int rv1), (5, .int x5), (6, .int rv1)]) X dX7_breakNow_109 (by decide) [1, 2, 3, 4, 0, 5, 6] rfl ?_
      refine k9_iinc (v := x5 + (1 : Int32)) (lv' := [(0, .ref (k9_ga G 76)), (1, .int x1), (2, .int x2), (3, .int x5), (4, .int rv1), (5, .int (x5 + (1 : Int32))), (6, .int rv1)]) X dX7_breakNow_111 (k := 5) rfl (by rfl) (by decide) [1, 2, 3, 4, 5, 0, 6] rfl ?_
      refine k9_goto (tgt := 12) X dX7_breakNow_114 (by decide) ?_
      refine k9_sub (lv' := [(0, .ref (k9_ga G 76)), (1, .int x1), (2, .int x2), (3, .int x5), (4, .int rv1), (5, .int (x5 + (1 : Int32)))]) [0, 1, 2, 3, 4, 5] rfl ?_
      exact (l2 c1 c2)
  · refine k9_aload_n X dX7_breakNow_29 rfl 0 rfl ?_
    refine k9_gX7_0 X in_X7_breakNow_X7 fl_X7_breakNow_7 dX7_breakNow_30 ?_
    refine k9_sipush (v := 288) X dX7_breakNow_33 (by decide) ?_
    refine k9_iload X dX7_breakNow_36 6 rfl ?_
    refine k9_iadd X dX7_breakNow_38 ?_
    refine k9_iload X dX7_breakNow_39 6 rfl ?_
    refine k9_iload X dX7_breakNow_41 5 rfl ?_
    refine k9_icmp_ge (tgt := 56) X dX7_breakNow_43 (by decide) (fun c3 => ?_) (fun c3 => ?_)
    · refine k9_aload_n X dX7_breakNow_56 rfl 0 rfl ?_
      refine k9_gX7_17 X in_X7_breakNow_X7 fl_X7_breakNow_43 dX7_breakNow_57 ?_
      refine k9_iload X dX7_breakNow_60 6 rfl ?_
      refine k9_iald X (by decide) (o1 c1 c3) (by rfl) dX7_breakNow_62 ?_
      refine k9_iload_n X dX7_breakNow_63 rfl 1 rfl ?_
      refine k9_iadd X dX7_breakNow_64 ?_
      refine k9_callSi1 X (k2 c1 c3)  (va_cwS 1 X.2.2.2.2.1 gX7_breakNow_X7_held rfl rfl rfl (by decide +kernel) ⟨Nat.le_of_ble_eq_true rfl, Nat.le_of_ble_eq_true rfl⟩) (Nat.le_of_ble_eq_true rfl) dX7_breakNow_65 ⟨Nat.zero_le _, Nat.zero_le _⟩ ?_
      refine k9_iast X (by decide) (o2 c1 c3) dX7_breakNow_68 ?_
      refine k9_iinc (v := x6 + (1 : Int32)) (lv' := [(0, .ref (k9_ga G 76)), (1, .int x1), (2, .int x2), (3, .int x3), (4, .int x4), (5, .int x5), (6, .int (x6 + (1 : Int32)))]) X dX7_breakNow_69 (k := 6) rfl (by rfl) (by decide) [1, 2, 3, 4, 5, 6, 0] rfl ?_
      refine k9_goto (tgt := 22) X dX7_breakNow_72 (by decide) ?_
      exact (l3 c1 c3)
    · refine k9_aload_n X dX7_breakNow_46 rfl 0 rfl ?_
      refine k9_gX7_17 X in_X7_breakNow_X7 fl_X7_breakNow_43 dX7_breakNow_47 ?_
      refine k9_iload X dX7_breakNow_50 6 rfl ?_
      refine k9_iald X (by decide) (o3 c1 c3) (by rfl) dX7_breakNow_52 ?_
      refine k9_goto (tgt := 68) X dX7_breakNow_53 (by decide) ?_
      refine k9_iast X (by decide) (o4 c1 c3) dX7_breakNow_68 ?_
      refine k9_iinc (v := x6 + (1 : Int32)) (lv' := [(0, .ref (k9_ga G 76)), (1, .int x1), (2, .int x2), (3, .int x3), (4, .int x4), (5, .int x5), (6, .int (x6 + (1 : Int32)))]) X dX7_breakNow_69 (k := 6) rfl (by rfl) (by decide) [1, 2, 3, 4, 5, 6, 0] rfl ?_
      refine k9_goto (tgt := 22) X dX7_breakNow_72 (by decide) ?_
      exact (l4 c1 c3)

theorem in_X7_bestBreak_X7 : ∀ w ∈ u_ws RX7 TX7 19, w ∈ wsX7_bestBreak := by decide +kernel
theorem fl_X7_bestBreak_46 : Cond.fieldLink RX7 46 (TX7 5).1 (TX7 5).2.1 (TX7 5).2.2.1 ∈ wsX7_bestBreak := by decide +kernel
set_option maxRecDepth 20000 in
theorem bk_X7_bestBreak_0 (X : k9_X p R s m args c A G 3 cX7_bestBreak wsX7_bestBreak RX7 rm_X7_bestBreak) {a0 a1 : Int32} {rv1 : Int32} {rv2 : Int32} {rv3 : Int32} {mv3 : k9_Mem}
    (k1 : k9_Ci l yX7_isSide wsX7_isSide rm_X7_isSide G M [.int a0] rv1 M)
    (l1 : (rv1 = 0) → k9_U p l e R s m args below meth c Q A G 3 0 0 (k9_st M 76 5 (1 : Int32)) 42 [] [.int (0 : Int32)])
    (k2 : (¬ (rv1 = 0)) → k9_Ci l yX7_within wsX7_within rm_X7_within G M [.int a1, .int (0 : Int32), .int (1 : Int32)] rv2 M)
    (l2 : (¬ (rv1 = 0)) → (rv2 = 0) → k9_U p l e R s m args below meth c Q A G 3 0 0 (k9_st M 76 5 (1 : Int32)) 42 [] [.int (0 : Int32)])
    (k3 : (¬ (rv1 = 0)) → (¬ (rv2 = 0)) → k9_Ci l yX7_breakNow wsX7_breakNow rm_X7_breakNow G (k9_st M 76 5 (0 : Int32)) [.ref (k9_ga G 76), .int a0, .int a1] rv3 mv3)
    (l3 : (¬ (rv1 = 0)) → (¬ (rv2 = 0)) → k9_U p l e R s m args below meth c Q A G 3 0 0 mv3 42 [] [.int rv3]) : k9_U p l e R s m args below meth c Q A G 3 0 0 M 0 [(0, .ref (k9_ga G 76)), (1, .int a0), (2, .int a1)] [] := by
  refine k9_aload_n X dX7_bestBreak_0 rfl 0 rfl ?_
  refine k9_iload_n X dX7_bestBreak_1 rfl 1 rfl ?_
  refine k9_callSi1 X k1  (va_cwS 1 X.2.2.2.2.1 gX7_bestBreak_X7_isSide rfl rfl rfl (by decide +kernel) ⟨Nat.le_of_ble_eq_true rfl, Nat.le_of_ble_eq_true rfl⟩) (Nat.le_of_ble_eq_true rfl) dX7_bestBreak_2 ⟨Nat.zero_le _, Nat.zero_le _⟩ ?_
  refine k9_if_eq (tgt := 21) X dX7_bestBreak_5 (by decide) (fun c1 => ?_) (fun c1 => ?_)
  · refine k9_iconst (v := 1) X dX7_bestBreak_21 (by decide) ?_
    refine k9_pX7_5 X in_X7_bestBreak_X7 fl_X7_bestBreak_46 dX7_bestBreak_22 ?_
    refine k9_aload_n X dX7_bestBreak_25 rfl 0 rfl ?_
    refine k9_gX7_5 (v := (1 : Int32)) X (by rfl) in_X7_bestBreak_X7 fl_X7_bestBreak_46 dX7_bestBreak_26 ?_
    refine k9_if_le (tgt := 36) X dX7_bestBreak_29 (by decide) (fun c => absurd c (by decide)) (fun _ => ?_)
    refine k9_iconst (v := 0) X dX7_bestBreak_32 (by decide) ?_
    refine k9_goto (tgt := 42) X dX7_bestBreak_33 (by decide) ?_
    refine k9_sub (lv' := []) [] rfl ?_
    exact (l1 c1)
  · refine k9_iload_n X dX7_bestBreak_8 rfl 2 rfl ?_
    refine k9_iconst (v := 0) X dX7_bestBreak_9 (by decide) ?_
    refine k9_iconst (v := 1) X dX7_bestBreak_10 (by decide) ?_
    refine k9_callSi3 X (k2 c1)  (va_cwS 3 X.2.2.2.2.1 gX7_bestBreak_X7_within rfl rfl rfl (by decide +kernel) ⟨Nat.le_of_ble_eq_true rfl, Nat.le_of_ble_eq_true rfl⟩) (Nat.le_of_ble_eq_true rfl) dX7_bestBreak_11 ⟨Nat.zero_le _, Nat.zero_le _⟩ ?_
    refine k9_if_eq (tgt := 21) X dX7_bestBreak_14 (by decide) (fun c2 => ?_) (fun c2 => ?_)
    · refine k9_iconst (v := 1) X dX7_bestBreak_21 (by decide) ?_
      refine k9_pX7_5 X in_X7_bestBreak_X7 fl_X7_bestBreak_46 dX7_bestBreak_22 ?_
      refine k9_aload_n X dX7_bestBreak_25 rfl 0 rfl ?_
      refine k9_gX7_5 (v := (1 : Int32)) X (by rfl) in_X7_bestBreak_X7 fl_X7_bestBreak_46 dX7_bestBreak_26 ?_
      refine k9_if_le (tgt := 36) X dX7_bestBreak_29 (by decide) (fun c => absurd c (by decide)) (fun _ => ?_)
      refine k9_iconst (v := 0) X dX7_bestBreak_32 (by decide) ?_
      refine k9_goto (tgt := 42) X dX7_bestBreak_33 (by decide) ?_
      refine k9_sub (lv' := []) [] rfl ?_
      exact (l2 c1 c2)
    · refine k9_iconst (v := 0) X dX7_bestBreak_17 (by decide) ?_
      refine k9_goto (tgt := 22) X dX7_bestBreak_18 (by decide) ?_
      refine k9_pX7_5 X in_X7_bestBreak_X7 fl_X7_bestBreak_46 dX7_bestBreak_22 ?_
      refine k9_aload_n X dX7_bestBreak_25 rfl 0 rfl ?_
      refine k9_gX7_5 (v := (0 : Int32)) X (by rfl) in_X7_bestBreak_X7 fl_X7_bestBreak_46 dX7_bestBreak_26 ?_
      refine k9_if_le (tgt := 36) X dX7_bestBreak_29 (by decide) (fun _ => ?_) (fun c => absurd c (by decide))
      refine k9_aload_n X dX7_bestBreak_36 rfl 0 rfl ?_
      refine k9_iload_n X dX7_bestBreak_37 rfl 1 rfl ?_
      refine k9_iload_n X dX7_bestBreak_38 rfl 2 rfl ?_
      refine k9_callVi2 X (k3 c1 c2) k9_ob_76 (cwV 2 X.2.2.2.2.1 gX7_bestBreak_X7_breakNow rfl rfl rfl (by decide +kernel) ⟨Nat.le_of_ble_eq_true rfl, Nat.le_of_ble_eq_true rfl⟩) (Nat.le_of_ble_eq_true rfl) dX7_bestBreak_39 ⟨Nat.zero_le _, Nat.zero_le _⟩ ?_
      refine k9_sub (lv' := []) [] rfl ?_
      exact (l3 c1 c2)

theorem in_X7_holesFor_X7 : ∀ w ∈ u_ws RX7 TX7 19, w ∈ wsX7_holesFor := by decide +kernel
theorem fl_X7_holesFor_46 : Cond.fieldLink RX7 46 (TX7 5).1 (TX7 5).2.1 (TX7 5).2.2.1 ∈ wsX7_holesFor := by decide +kernel
theorem fl_X7_holesFor_7 : Cond.fieldLink RX7 7 (TX7 0).1 (TX7 0).2.1 (TX7 0).2.2.1 ∈ wsX7_holesFor := by decide +kernel
set_option maxRecDepth 20000 in
theorem bk_X7_holesFor_0 (X : k9_X p R s m args c A G 3 cX7_holesFor wsX7_holesFor RX7 rm_X7_holesFor) {a0 : Int32} {rv1 : Int32}
    (k1 : k9_Ci l yX7_within wsX7_within rm_X7_within G M [.int a0, .int (1 : Int32), .int (96 : Int32)] rv1 M)
    (l1 : (rv1 = 0) → k9_U p l e R s m args below meth c Q A G 3 0 0 (k9_st M 76 5 (1 : Int32)) 27 [] [.int (0 : Int32)])
    (o1 : (¬ (rv1 = 0)) → ¬ ((M 77 384) + (1 : Int32)) = 0)
    (l2 : (¬ (rv1 = 0)) → (¬ ((a0 - (1 : Int32)) - (a0 - (1 : Int32)) / ((M 77 384) + (1 : Int32)) * ((M 77 384) + (1 : Int32))) = 0) → k9_U p l e R s m args below meth c Q A G 3 0 0 (k9_st M 76 5 (0 : Int32)) 60 [] [.int ((((a0 - (1 : Int32)) / ((M 77 384) + (1 : Int32))) + (1 : Int32)) + (1 : Int32))])
    (l3 : (¬ (rv1 = 0)) → (((a0 - (1 : Int32)) - (a0 - (1 : Int32)) / ((M 77 384) + (1 : Int32)) * ((M 77 384) + (1 : Int32))) = 0) → k9_U p l e R s m args below meth c Q A G 3 0 0 (k9_st M 76 5 (0 : Int32)) 60 [] [.int ((((a0 - (1 : Int32)) / ((M 77 384) + (1 : Int32))) + (1 : Int32)) + (0 : Int32))]) : k9_U p l e R s m args below meth c Q A G 3 0 0 M 0 [(0, .ref (k9_ga G 76)), (1, .int a0)] [] := by
  refine k9_aload_n X dX7_holesFor_0 rfl 0 rfl ?_
  refine k9_iload_n X dX7_holesFor_1 rfl 1 rfl ?_
  refine k9_iconst (v := 1) X dX7_holesFor_2 (by decide) ?_
  refine k9_bipush (v := 96) X dX7_holesFor_3 (by decide) ?_
  refine k9_callSi3 X k1  (va_cwS 3 X.2.2.2.2.1 gX7_holesFor_X7_within rfl rfl rfl (by decide +kernel) ⟨Nat.le_of_ble_eq_true rfl, Nat.le_of_ble_eq_true rfl⟩) (Nat.le_of_ble_eq_true rfl) dX7_holesFor_5 ⟨Nat.zero_le _, Nat.zero_le _⟩ ?_
  refine k9_if_eq (tgt := 15) X dX7_holesFor_8 (by decide) (fun c1 => ?_) (fun c1 => ?_)
  · refine k9_iconst (v := 1) X dX7_holesFor_15 (by decide) ?_
    refine k9_pX7_5 X in_X7_holesFor_X7 fl_X7_holesFor_46 dX7_holesFor_16 ?_
    refine k9_aload_n X dX7_holesFor_19 rfl 0 rfl ?_
    refine k9_gX7_5 (v := (1 : Int32)) X (by rfl) in_X7_holesFor_X7 fl_X7_holesFor_46 dX7_holesFor_20 ?_
    refine k9_if_le (tgt := 28) X dX7_holesFor_23 (by decide) (fun c => absurd c (by decide)) (fun _ => ?_)
    refine k9_iconst (v := 0) X dX7_holesFor_26 (by decide) ?_
    refine k9_sub (lv' := []) [] rfl ?_
    exact (l1 c1)
  · refine k9_iconst (v := 0) X dX7_holesFor_11 (by decide) ?_
    refine k9_goto (tgt := 16) X dX7_holesFor_12 (by decide) ?_
    refine k9_pX7_5 X in_X7_holesFor_X7 fl_X7_holesFor_46 dX7_holesFor_16 ?_
    refine k9_aload_n X dX7_holesFor_19 rfl 0 rfl ?_
    refine k9_gX7_5 (v := (0 : Int32)) X (by rfl) in_X7_holesFor_X7 fl_X7_holesFor_46 dX7_holesFor_20 ?_
    refine k9_if_le (tgt := 28) X dX7_holesFor_23 (by decide) (fun _ => ?_) (fun c => absurd c (by decide))
    refine k9_aload_n X dX7_holesFor_28 rfl 0 rfl ?_
    refine k9_gX7_0 X in_X7_holesFor_X7 fl_X7_holesFor_7 dX7_holesFor_29 ?_
    refine k9_sipush (v := 384) X dX7_holesFor_32 (by decide) ?_
    refine k9_ialdL (v := (M 77 384)) (n := 578) (j := 384) X (by decide) (by decide) (by decide) (by decide) (by rfl) dX7_holesFor_35 ?_
    refine k9_iconst (v := 1) X dX7_holesFor_36 (by decide) ?_
    refine k9_iadd X dX7_holesFor_37 ?_
    refine k9_istore_n (lv' := [(0, .ref (k9_ga G 76)), (1, .int a0), (2, .int ((M 77 384) + (1 : Int32)))]) X dX7_holesFor_38 rfl (by decide) [1, 2, 0] rfl ?_
    refine k9_iload_n X dX7_holesFor_39 rfl 1 rfl ?_
    refine k9_iconst (v := 1) X dX7_holesFor_40 (by decide) ?_
    refine k9_isub X dX7_holesFor_41 ?_
    refine k9_iload_n X dX7_holesFor_42 rfl 2 rfl ?_
    refine k9_idiv X dX7_holesFor_43 (o1 c1) ?_
    refine k9_iconst (v := 1) X dX7_holesFor_44 (by decide) ?_
    refine k9_iadd X dX7_holesFor_45 ?_
    refine k9_iload_n X dX7_holesFor_46 rfl 1 rfl ?_
    refine k9_iconst (v := 1) X dX7_holesFor_47 (by decide) ?_
    refine k9_isub X dX7_holesFor_48 ?_
    refine k9_iload_n X dX7_holesFor_49 rfl 2 rfl ?_
    refine k9_irem X dX7_holesFor_50 (o1 c1) ?_
    refine k9_if_ne (tgt := 58) X dX7_holesFor_51 (by decide) (fun c2 => ?_) (fun c2 => ?_)
    · refine k9_iconst (v := 1) X dX7_holesFor_58 (by decide) ?_
      refine k9_iadd X dX7_holesFor_59 ?_
      refine k9_sub (lv' := []) [] rfl ?_
      exact (l2 c1 c2)
    · refine k9_iconst (v := 0) X dX7_holesFor_54 (by decide) ?_
      refine k9_goto (tgt := 59) X dX7_holesFor_55 (by decide) ?_
      refine k9_iadd X dX7_holesFor_59 ?_
      refine k9_sub (lv' := []) [] rfl ?_
      exact (l3 c1 c2)

set_option maxRecDepth 20000 in
theorem bk_X7_share_0 (X : k9_X p R s m args c A G 2 cX7_share wsX7_share RX7 rm_X7_share) {rv1 : Int32} {rv2 : Int32}
    (k1 : k9_Ci l yX7_tuneNotes wsX7_tuneNotes rm_X7_tuneNotes G M [.ref (k9_ga G 76)] rv1 M)
    (k2 : (¬ rv1 = 0) → k9_Ci l yX7_rights wsX7_rights rm_X7_rights G M [.ref (k9_ga G 76)] rv2 M)
    (o1 : (¬ rv1 = 0) → vf_n64 (FP.ddiv (FP.i2d rv2) (FP.i2d rv1)))
    (l1 : (¬ rv1 = 0) → k9_U p l e R s m args below meth c Q A G 2 0 0 M 21 [] [.double (FP.ddiv (FP.i2d rv2) (FP.i2d rv1))])
    (l2 : (rv1 = 0) → k9_U p l e R s m args below meth c Q A G 2 0 0 M 21 [] [.double FP.dconst0]) : k9_U p l e R s m args below meth c Q A G 2 0 0 M 0 [(0, .ref (k9_ga G 76))] [] := by
  refine k9_aload_n X dX7_share_0 rfl 0 rfl ?_
  refine k9_callVi0 X k1 k9_ob_76 (cwV 0 X.2.2.2.2.1 gX7_share_X7_tuneNotes rfl rfl rfl (by decide +kernel) ⟨Nat.le_of_ble_eq_true rfl, Nat.le_of_ble_eq_true rfl⟩) (Nat.le_of_ble_eq_true rfl) dX7_share_1 ⟨Nat.zero_le _, Nat.zero_le _⟩ ?_
  refine k9_istore_n (lv' := [(0, .ref (k9_ga G 76)), (1, .int rv1)]) X dX7_share_4 rfl (by decide) [1, 0] rfl ?_
  refine k9_iload_n X dX7_share_5 rfl 1 rfl ?_
  refine k9_if_ne (tgt := 13) X dX7_share_6 (by decide) (fun c1 => ?_) (fun c1 => ?_)
  · refine k9_aload_n X dX7_share_13 rfl 0 rfl ?_
    refine k9_callVi0 X (k2 c1) k9_ob_76 (cwV 0 X.2.2.2.2.1 gX7_share_X7_rights rfl rfl rfl (by decide +kernel) ⟨Nat.le_of_ble_eq_true rfl, Nat.le_of_ble_eq_true rfl⟩) (Nat.le_of_ble_eq_true rfl) dX7_share_14 ⟨Nat.zero_le _, Nat.zero_le _⟩ ?_
    refine k9_i2d X dX7_share_17 ?_
    refine k9_iload_n X dX7_share_18 rfl 1 rfl ?_
    refine k9_i2d X dX7_share_19 ?_
    refine k9_ddiv X dX7_share_20 (o1 c1) ?_
    refine k9_sub (lv' := []) [] rfl ?_
    exact (l1 c1)
  · refine k9_dconst0 X dX7_share_9 ?_
    refine k9_goto (tgt := 21) X dX7_share_10 (by decide) ?_
    refine k9_sub (lv' := []) [] rfl ?_
    exact (l2 c1)

theorem in_X7_tuneShare_X7 : ∀ w ∈ u_ws RX7 TX7 19, w ∈ wsX7_tuneShare := by decide +kernel
theorem fl_X7_tuneShare_46 : Cond.fieldLink RX7 46 (TX7 5).1 (TX7 5).2.1 (TX7 5).2.2.1 ∈ wsX7_tuneShare := by decide +kernel
set_option maxRecDepth 20000 in
theorem bk_X7_tuneShare_0 (X : k9_X p R s m args c A G 1 cX7_tuneShare wsX7_tuneShare RX7 rm_X7_tuneShare) {mv1 : k9_Mem} {rv2 : UInt64}
    (k1 : k9_Cv l yX7_lay wsX7_lay rm_X7_lay G (k9_st M 76 5 (0 : Int32)) [.ref (k9_ga G 76)] mv1)
    (k2 : k9_Cd l yX7_share wsX7_share rm_X7_share G mv1 [.ref (k9_ga G 76)] rv2 mv1)
    (l1 : k9_U p l e R s m args below meth c Q A G 1 0 0 mv1 13 [] [.double rv2]) : k9_U p l e R s m args below meth c Q A G 1 0 0 M 0 [(0, .ref (k9_ga G 76))] [] := by
  refine k9_aload_n X dX7_tuneShare_0 rfl 0 rfl ?_
  refine k9_iconst (v := 0) X dX7_tuneShare_1 (by decide) ?_
  refine k9_pX7_5 X in_X7_tuneShare_X7 fl_X7_tuneShare_46 dX7_tuneShare_2 ?_
  refine k9_aload_n X dX7_tuneShare_5 rfl 0 rfl ?_
  refine k9_callVv0 X k1 k9_ob_76 (cwV 0 X.2.2.2.2.1 gX7_tuneShare_X7_lay rfl rfl rfl (by decide +kernel) ⟨Nat.le_of_ble_eq_true rfl, Nat.le_of_ble_eq_true rfl⟩) (Nat.le_of_ble_eq_true rfl) dX7_tuneShare_6 ⟨Nat.zero_le _, Nat.zero_le _⟩ ?_
  refine k9_aload_n X dX7_tuneShare_9 rfl 0 rfl ?_
  refine k9_callVd0 X k2 k9_ob_76 (cwV 0 X.2.2.2.2.1 gX7_tuneShare_X7_share rfl rfl rfl (by decide +kernel) ⟨Nat.le_of_ble_eq_true rfl, Nat.le_of_ble_eq_true rfl⟩) (Nat.le_of_ble_eq_true rfl) dX7_tuneShare_10 ⟨Nat.zero_le _, Nat.zero_le _⟩ ?_
  refine k9_sub (lv' := []) [] rfl ?_
  exact l1

theorem co_X7_mix_240 : Cond.constantLong RX7 240 (31) ∈ wsX7_mix := by decide +kernel
theorem in_X7_mix_X7 : ∀ w ∈ u_ws RX7 TX7 19, w ∈ wsX7_mix := by decide +kernel
theorem fl_X7_mix_242 : Cond.fieldLink RX7 242 (TX7 18).1 (TX7 18).2.1 (TX7 18).2.2.1 ∈ wsX7_mix := by decide +kernel
set_option maxRecDepth 20000 in
theorem bk_X7_mix_0 (X : k9_X p R s m args c A G 3 cX7_mix wsX7_mix RX7 rm_X7_mix) {a0 : Int64}
    (l1 : k9_U p l e R s m args below meth c Q A G 3 0 0 (k9_sH M (((31 : Int64) * (k9_lg (fun j => M 76 (18 + j)))) + a0)) 14 [] []) : k9_U p l e R s m args below meth c Q A G 3 0 0 M 0 [(0, .ref (k9_ga G 76)), (1, .long a0)] [] := by
  refine k9_aload_n X dX7_mix_0 rfl 0 rfl ?_
  refine k9_ldc2 X co_X7_mix_240 dX7_mix_1 ?_
  refine k9_aload_n X dX7_mix_4 rfl 0 rfl ?_
  refine k9_gX7_18 X in_X7_mix_X7 fl_X7_mix_242 dX7_mix_5 ?_
  refine k9_lmul X dX7_mix_8 ?_
  refine k9_lload_n X dX7_mix_9 rfl 1 rfl ?_
  refine k9_ladd X dX7_mix_10 ?_
  refine k9_pX7_18 X in_X7_mix_X7 fl_X7_mix_242 dX7_mix_11 ?_
  refine k9_sub (lv' := []) [] rfl ?_
  exact l1

set_option maxRecDepth 20000 in
theorem bk_X7_mixWouldBe_0 (X : k9_X p R s m args c A G 4 cX7_mixWouldBe wsX7_mixWouldBe RX7 rm_X7_mixWouldBe) 
    (l1 : k9_U p l e R s m args below meth c Q A G 4 0 0 M 2 [(0, .ref (k9_ga G 76)), (1, .int (0 : Int32))] []) : k9_U p l e R s m args below meth c Q A G 4 0 0 M 0 [(0, .ref (k9_ga G 76))] [] := by
  refine k9_iconst (v := 0) X dX7_mixWouldBe_0 (by decide) ?_
  refine k9_istore_n (lv' := [(0, .ref (k9_ga G 76)), (1, .int (0 : Int32))]) X dX7_mixWouldBe_1 rfl (by decide) [1, 0] rfl ?_
  exact l1

set_option maxRecDepth 20000 in
theorem bk_X7_mixWouldBe_2 (X : k9_X p R s m args c A G 4 cX7_mixWouldBe wsX7_mixWouldBe RX7 rm_X7_mixWouldBe) {x1 : Int32} {rv1 : Int32} {mv1 : k9_Mem} {mv2 : k9_Mem} {rv3 : Int32} {mv3 : k9_Mem} {mv4 : k9_Mem} {rv5 : Int32} {mv5 : k9_Mem} {mv6 : k9_Mem} {rv7 : Int32} {mv7 : k9_Mem} {mv8 : k9_Mem} {rv9 : Int32} {mv9 : k9_Mem} {mv10 : k9_Mem} {rv11 : Int32} {mv11 : k9_Mem} {mv12 : k9_Mem} {rv13 : Int32} {mv13 : k9_Mem} {mv14 : k9_Mem}
    (k1 : ((6 : Int32) ≤ x1) → k9_Ci l yX7_bridgeNow wsX7_bridgeNow rm_X7_bridgeNow G M [.ref (k9_ga G 76)] rv1 mv1)
    (k2 : ((6 : Int32) ≤ x1) → k9_Cv l yX7_mix wsX7_mix rm_X7_mix G mv1 [.ref (k9_ga G 76), .long rv1.toInt64] mv2)
    (l1 : ((6 : Int32) ≤ x1) → k9_U p l e R s m args below meth c Q A G 4 0 0 mv2 69 [(0, .ref (k9_ga G 76)), (1, .int (0 : Int32))] [])
    (k3 : (¬ ((6 : Int32) ≤ x1)) → (x1 ≤ (3 : Int32)) → (x1 ≤ (1 : Int32)) → k9_Ci l yX7_steerNow wsX7_steerNow rm_X7_steerNow G M [.ref (k9_ga G 76), .int (0 : Int32), .int (95 : Int32), .int (x1 - x1 / (2 : Int32) * (2 : Int32))] rv3 mv3)
    (k4 : (¬ ((6 : Int32) ≤ x1)) → (x1 ≤ (3 : Int32)) → (x1 ≤ (1 : Int32)) → k9_Cv l yX7_mix wsX7_mix rm_X7_mix G mv3 [.ref (k9_ga G 76), .long rv3.toInt64] mv4)
    (l2 : (¬ ((6 : Int32) ≤ x1)) → (x1 ≤ (3 : Int32)) → (x1 ≤ (1 : Int32)) → k9_U p l e R s m args below meth c Q A G 4 0 0 mv4 2 [(0, .ref (k9_ga G 76)), (1, .int (x1 + (1 : Int32)))] [])
    (k5 : (¬ ((6 : Int32) ≤ x1)) → (x1 ≤ (3 : Int32)) → (¬ (x1 ≤ (1 : Int32))) → ((4 : Int32) ≤ x1) → k9_Ci l yX7_steerNow wsX7_steerNow rm_X7_steerNow G M [.ref (k9_ga G 76), .int (0 : Int32), .int (95 : Int32), .int (x1 - x1 / (2 : Int32) * (2 : Int32))] rv5 mv5)
    (k6 : (¬ ((6 : Int32) ≤ x1)) → (x1 ≤ (3 : Int32)) → (¬ (x1 ≤ (1 : Int32))) → ((4 : Int32) ≤ x1) → k9_Cv l yX7_mix wsX7_mix rm_X7_mix G mv5 [.ref (k9_ga G 76), .long rv5.toInt64] mv6)
    (l3 : (¬ ((6 : Int32) ≤ x1)) → (x1 ≤ (3 : Int32)) → (¬ (x1 ≤ (1 : Int32))) → ((4 : Int32) ≤ x1) → k9_U p l e R s m args below meth c Q A G 4 0 0 mv6 2 [(0, .ref (k9_ga G 76)), (1, .int (x1 + (1 : Int32)))] [])
    (k7 : (¬ ((6 : Int32) ≤ x1)) → (x1 ≤ (3 : Int32)) → (¬ (x1 ≤ (1 : Int32))) → (¬ ((4 : Int32) ≤ x1)) → k9_Ci l yX7_steerNow wsX7_steerNow rm_X7_steerNow G M [.ref (k9_ga G 76), .int (0 : Int32), .int (47 : Int32), .int (x1 - x1 / (2 : Int32) * (2 : Int32))] rv7 mv7)
    (k8 : (¬ ((6 : Int32) ≤ x1)) → (x1 ≤ (3 : Int32)) → (¬ (x1 ≤ (1 : Int32))) → (¬ ((4 : Int32) ≤ x1)) → k9_Cv l yX7_mix wsX7_mix rm_X7_mix G mv7 [.ref (k9_ga G 76), .long rv7.toInt64] mv8)
    (l4 : (¬ ((6 : Int32) ≤ x1)) → (x1 ≤ (3 : Int32)) → (¬ (x1 ≤ (1 : Int32))) → (¬ ((4 : Int32) ≤ x1)) → k9_U p l e R s m args below meth c Q A G 4 0 0 mv8 2 [(0, .ref (k9_ga G 76)), (1, .int (x1 + (1 : Int32)))] [])
    (k9 : (¬ ((6 : Int32) ≤ x1)) → (¬ (x1 ≤ (3 : Int32))) → (x1 ≤ (1 : Int32)) → k9_Ci l yX7_steerNow wsX7_steerNow rm_X7_steerNow G M [.ref (k9_ga G 76), .int (48 : Int32), .int (95 : Int32), .int (x1 - x1 / (2 : Int32) * (2 : Int32))] rv9 mv9)
    (k10 : (¬ ((6 : Int32) ≤ x1)) → (¬ (x1 ≤ (3 : Int32))) → (x1 ≤ (1 : Int32)) → k9_Cv l yX7_mix wsX7_mix rm_X7_mix G mv9 [.ref (k9_ga G 76), .long rv9.toInt64] mv10)
    (l5 : (¬ ((6 : Int32) ≤ x1)) → (¬ (x1 ≤ (3 : Int32))) → (x1 ≤ (1 : Int32)) → k9_U p l e R s m args below meth c Q A G 4 0 0 mv10 2 [(0, .ref (k9_ga G 76)), (1, .int (x1 + (1 : Int32)))] [])
    (k11 : (¬ ((6 : Int32) ≤ x1)) → (¬ (x1 ≤ (3 : Int32))) → (¬ (x1 ≤ (1 : Int32))) → ((4 : Int32) ≤ x1) → k9_Ci l yX7_steerNow wsX7_steerNow rm_X7_steerNow G M [.ref (k9_ga G 76), .int (48 : Int32), .int (95 : Int32), .int (x1 - x1 / (2 : Int32) * (2 : Int32))] rv11 mv11)
    (k12 : (¬ ((6 : Int32) ≤ x1)) → (¬ (x1 ≤ (3 : Int32))) → (¬ (x1 ≤ (1 : Int32))) → ((4 : Int32) ≤ x1) → k9_Cv l yX7_mix wsX7_mix rm_X7_mix G mv11 [.ref (k9_ga G 76), .long rv11.toInt64] mv12)
    (l6 : (¬ ((6 : Int32) ≤ x1)) → (¬ (x1 ≤ (3 : Int32))) → (¬ (x1 ≤ (1 : Int32))) → ((4 : Int32) ≤ x1) → k9_U p l e R s m args below meth c Q A G 4 0 0 mv12 2 [(0, .ref (k9_ga G 76)), (1, .int (x1 + (1 : Int32)))] [])
    (k13 : (¬ ((6 : Int32) ≤ x1)) → (¬ (x1 ≤ (3 : Int32))) → (¬ (x1 ≤ (1 : Int32))) → (¬ ((4 : Int32) ≤ x1)) → k9_Ci l yX7_steerNow wsX7_steerNow rm_X7_steerNow G M [.ref (k9_ga G 76), .int (48 : Int32), .int (47 : Int32), .int (x1 - x1 / (2 : Int32) * (2 : Int32))] rv13 mv13)
    (k14 : (¬ ((6 : Int32) ≤ x1)) → (¬ (x1 ≤ (3 : Int32))) → (¬ (x1 ≤ (1 : Int32))) → (¬ ((4 : Int32) ≤ x1)) → k9_Cv l yX7_mix wsX7_mix rm_X7_mix G mv13 [.ref (k9_ga G 76), .long rv13.toInt64] mv14)
    (l7 : (¬ ((6 : Int32) ≤ x1)) → (¬ (x1 ≤ (3 : Int32))) → (¬ (x1 ≤ (1 : Int32))) → (¬ ((4 : Int32) ≤ x1)) → k9_U p l e R s m args below meth c Q A G 4 0 0 mv14 2 [(0, .ref (k9_ga G 76)), (1, .int (x1 + (1 : Int32)))] []) : k9_U p l e R s m args below meth c Q A G 4 0 0 M 2 [(0, .ref (k9_ga G 76)), (1, .int x1)] [] := by
  refine k9_iload_n X dX7_mixWouldBe_2 rfl 1 rfl ?_
  refine k9_bipush (v := 6) X dX7_mixWouldBe_3 (by decide) ?_
  refine k9_icmp_ge (tgt := 58) X dX7_mixWouldBe_5 (by decide) (fun c1 => ?_) (fun c1 => ?_)
  · refine k9_aload_n X dX7_mixWouldBe_58 rfl 0 rfl ?_
    refine k9_aload_n X dX7_mixWouldBe_59 rfl 0 rfl ?_
    refine k9_callVi0 X (k1 c1) k9_ob_76 (cwV 0 X.2.2.2.2.1 gX7_mixWouldBe_X7_bridgeNow rfl rfl rfl (by decide +kernel) ⟨Nat.le_of_ble_eq_true rfl, Nat.le_of_ble_eq_true rfl⟩) (Nat.le_of_ble_eq_true rfl) dX7_mixWouldBe_60 ⟨Nat.zero_le _, Nat.zero_le _⟩ ?_
    refine k9_i2l X dX7_mixWouldBe_63 ?_
    refine k9_callVv1 X (k2 c1) k9_ob_76 (cwV 1 X.2.2.2.2.1 gX7_mixWouldBe_X7_mix rfl rfl rfl (by decide +kernel) ⟨Nat.le_of_ble_eq_true rfl, Nat.le_of_ble_eq_true rfl⟩) (Nat.le_of_ble_eq_true rfl) dX7_mixWouldBe_64 ⟨Nat.zero_le _, Nat.zero_le _⟩ ?_
    refine k9_iconst (v := 0) X dX7_mixWouldBe_67 (by decide) ?_
    refine k9_istore_n (lv' := [(0, .ref (k9_ga G 76)), (1, .int (0 : Int32))]) X dX7_mixWouldBe_68 rfl (by decide) [1, 0] rfl ?_
    exact (l1 c1)
  · refine k9_iload_n X dX7_mixWouldBe_8 rfl 1 rfl ?_
    refine k9_iconst (v := 3) X dX7_mixWouldBe_9 (by decide) ?_
    refine k9_icmp_le (tgt := 18) X dX7_mixWouldBe_10 (by decide) (fun c2 => ?_) (fun c2 => ?_)
    · refine k9_iconst (v := 0) X dX7_mixWouldBe_18 (by decide) ?_
      refine k9_istore_n (lv' := [(0, .ref (k9_ga G 76)), (1, .int x1), (2, .int (0 : Int32))]) X dX7_mixWouldBe_19 rfl (by decide) [1, 2, 0] rfl ?_
      refine k9_iload_n X dX7_mixWouldBe_20 rfl 1 rfl ?_
      refine k9_iconst (v := 1) X dX7_mixWouldBe_21 (by decide) ?_
      refine k9_icmp_le (tgt := 35) X dX7_mixWouldBe_22 (by decide) (fun c3 => ?_) (fun c3 => ?_)
      · refine k9_bipush (v := 95) X dX7_mixWouldBe_35 (by decide) ?_
        refine k9_istore_n (lv' := [(0, .ref (k9_ga G 76)), (1, .int x1), (2, .int (0 : Int32)), (3, .int (95 : Int32))]) X dX7_mixWouldBe_37 rfl (by decide) [1, 2, 3, 0] rfl ?_
        refine k9_aload_n X dX7_mixWouldBe_38 rfl 0 rfl ?_
        refine k9_aload_n X dX7_mixWouldBe_39 rfl 0 rfl ?_
        refine k9_iload_n X dX7_mixWouldBe_40 rfl 2 rfl ?_
        refine k9_iload_n X dX7_mixWouldBe_41 rfl 3 rfl ?_
        refine k9_iload_n X dX7_mixWouldBe_42 rfl 1 rfl ?_
        refine k9_iconst (v := 2) X dX7_mixWouldBe_43 (by decide) ?_
        refine k9_irem X dX7_mixWouldBe_44 (by decide) ?_
        refine k9_callVi3 X (k3 c1 c2 c3) k9_ob_76 (cwV 3 X.2.2.2.2.1 gX7_mixWouldBe_X7_steerNow rfl rfl rfl (by decide +kernel) ⟨Nat.le_of_ble_eq_true rfl, Nat.le_of_ble_eq_true rfl⟩) (Nat.le_of_ble_eq_true rfl) dX7_mixWouldBe_45 ⟨Nat.zero_le _, Nat.zero_le _⟩ ?_
        refine k9_i2l X dX7_mixWouldBe_48 ?_
        refine k9_callVv1 X (k4 c1 c2 c3) k9_ob_76 (cwV 1 X.2.2.2.2.1 gX7_mixWouldBe_X7_mix rfl rfl rfl (by decide +kernel) ⟨Nat.le_of_ble_eq_true rfl, Nat.le_of_ble_eq_true rfl⟩) (Nat.le_of_ble_eq_true rfl) dX7_mixWouldBe_49 ⟨Nat.zero_le _, Nat.zero_le _⟩ ?_
        refine k9_iinc (v := x1 + (1 : Int32)) (lv' := [(0, .ref (k9_ga G 76)), (1, .int (x1 + (1 : Int32))), (2, .int (0 : Int32)), (3, .int (95 : Int32))]) X dX7_mixWouldBe_52 (k := 1) rfl (by rfl) (by decide) [1, 0, 2, 3] rfl ?_
        refine k9_goto (tgt := 2) X dX7_mixWouldBe_55 (by decide) ?_
        refine k9_sub (lv' := [(0, .ref (k9_ga G 76)), (1, .int (x1 + (1 : Int32)))]) [0, 1] rfl ?_
        exact (l2 c1 c2 c3)
      · refine k9_iload_n X dX7_mixWouldBe_25 rfl 1 rfl ?_
        refine k9_iconst (v := 4) X dX7_mixWouldBe_26 (by decide) ?_
        refine k9_icmp_ge (tgt := 35) X dX7_mixWouldBe_27 (by decide) (fun c4 => ?_) (fun c4 => ?_)
        · refine k9_bipush (v := 95) X dX7_mixWouldBe_35 (by decide) ?_
          refine k9_istore_n (lv' := [(0, .ref (k9_ga G 76)), (1, .int x1), (2, .int (0 : Int32)), (3, .int (95 : Int32))]) X dX7_mixWouldBe_37 rfl (by decide) [1, 2, 3, 0] rfl ?_
          refine k9_aload_n X dX7_mixWouldBe_38 rfl 0 rfl ?_
          refine k9_aload_n X dX7_mixWouldBe_39 rfl 0 rfl ?_
          refine k9_iload_n X dX7_mixWouldBe_40 rfl 2 rfl ?_
          refine k9_iload_n X dX7_mixWouldBe_41 rfl 3 rfl ?_
          refine k9_iload_n X dX7_mixWouldBe_42 rfl 1 rfl ?_
          refine k9_iconst (v := 2) X dX7_mixWouldBe_43 (by decide) ?_
          refine k9_irem X dX7_mixWouldBe_44 (by decide) ?_
          refine k9_callVi3 X (k5 c1 c2 c3 c4) k9_ob_76 (cwV 3 X.2.2.2.2.1 gX7_mixWouldBe_X7_steerNow rfl rfl rfl (by decide +kernel) ⟨Nat.le_of_ble_eq_true rfl, Nat.le_of_ble_eq_true rfl⟩) (Nat.le_of_ble_eq_true rfl) dX7_mixWouldBe_45 ⟨Nat.zero_le _, Nat.zero_le _⟩ ?_
          refine k9_i2l X dX7_mixWouldBe_48 ?_
          refine k9_callVv1 X (k6 c1 c2 c3 c4) k9_ob_76 (cwV 1 X.2.2.2.2.1 gX7_mixWouldBe_X7_mix rfl rfl rfl (by decide +kernel) ⟨Nat.le_of_ble_eq_true rfl, Nat.le_of_ble_eq_true rfl⟩) (Nat.le_of_ble_eq_true rfl) dX7_mixWouldBe_49 ⟨Nat.zero_le _, Nat.zero_le _⟩ ?_
          refine k9_iinc (v := x1 + (1 : Int32)) (lv' := [(0, .ref (k9_ga G 76)), (1, .int (x1 + (1 : Int32))), (2, .int (0 : Int32)), (3, .int (95 : Int32))]) X dX7_mixWouldBe_52 (k := 1) rfl (by rfl) (by decide) [1, 0, 2, 3] rfl ?_
          refine k9_goto (tgt := 2) X dX7_mixWouldBe_55 (by decide) ?_
          refine k9_sub (lv' := [(0, .ref (k9_ga G 76)), (1, .int (x1 + (1 : Int32)))]) [0, 1] rfl ?_
          exact (l3 c1 c2 c3 c4)
        · refine k9_bipush (v := 47) X dX7_mixWouldBe_30 (by decide) ?_
          refine k9_goto (tgt := 37) X dX7_mixWouldBe_32 (by decide) ?_
          refine k9_istore_n (lv' := [(0, .ref (k9_ga G 76)), (1, .int x1), (2, .int (0 : Int32)), (3, .int (47 : Int32))]) X dX7_mixWouldBe_37 rfl (by decide) [1, 2, 3, 0] rfl ?_
          refine k9_aload_n X dX7_mixWouldBe_38 rfl 0 rfl ?_
          refine k9_aload_n X dX7_mixWouldBe_39 rfl 0 rfl ?_
          refine k9_iload_n X dX7_mixWouldBe_40 rfl 2 rfl ?_
          refine k9_iload_n X dX7_mixWouldBe_41 rfl 3 rfl ?_
          refine k9_iload_n X dX7_mixWouldBe_42 rfl 1 rfl ?_
          refine k9_iconst (v := 2) X dX7_mixWouldBe_43 (by decide) ?_
          refine k9_irem X dX7_mixWouldBe_44 (by decide) ?_
          refine k9_callVi3 X (k7 c1 c2 c3 c4) k9_ob_76 (cwV 3 X.2.2.2.2.1 gX7_mixWouldBe_X7_steerNow rfl rfl rfl (by decide +kernel) ⟨Nat.le_of_ble_eq_true rfl, Nat.le_of_ble_eq_true rfl⟩) (Nat.le_of_ble_eq_true rfl) dX7_mixWouldBe_45 ⟨Nat.zero_le _, Nat.zero_le _⟩ ?_
          refine k9_i2l X dX7_mixWouldBe_48 ?_
          refine k9_callVv1 X (k8 c1 c2 c3 c4) k9_ob_76 (cwV 1 X.2.2.2.2.1 gX7_mixWouldBe_X7_mix rfl rfl rfl (by decide +kernel) ⟨Nat.le_of_ble_eq_true rfl, Nat.le_of_ble_eq_true rfl⟩) (Nat.le_of_ble_eq_true rfl) dX7_mixWouldBe_49 ⟨Nat.zero_le _, Nat.zero_le _⟩ ?_
          refine k9_iinc (v := x1 + (1 : Int32)) (lv' := [(0, .ref (k9_ga G 76)), (1, .int (x1 + (1 : Int32))), (2, .int (0 : Int32)), (3, .int (47 : Int32))]) X dX7_mixWouldBe_52 (k := 1) rfl (by rfl) (by decide) [1, 0, 2, 3] rfl ?_
          refine k9_goto (tgt := 2) X dX7_mixWouldBe_55 (by decide) ?_
          refine k9_sub (lv' := [(0, .ref (k9_ga G 76)), (1, .int (x1 + (1 : Int32)))]) [0, 1] rfl ?_
          exact (l4 c1 c2 c3 c4)
    · refine k9_bipush (v := 48) X dX7_mixWouldBe_13 (by decide) ?_
      refine k9_goto (tgt := 19) X dX7_mixWouldBe_15 (by decide) ?_
      refine k9_istore_n (lv' := [(0, .ref (k9_ga G 76)), (1, .int x1), (2, .int (48 : Int32))]) X dX7_mixWouldBe_19 rfl (by decide) [1, 2, 0] rfl ?_
      refine k9_iload_n X dX7_mixWouldBe_20 rfl 1 rfl ?_
      refine k9_iconst (v := 1) X dX7_mixWouldBe_21 (by decide) ?_
      refine k9_icmp_le (tgt := 35) X dX7_mixWouldBe_22 (by decide) (fun c5 => ?_) (fun c5 => ?_)
      · refine k9_bipush (v := 95) X dX7_mixWouldBe_35 (by decide) ?_
        refine k9_istore_n (lv' := [(0, .ref (k9_ga G 76)), (1, .int x1), (2, .int (48 : Int32)), (3, .int (95 : Int32))]) X dX7_mixWouldBe_37 rfl (by decide) [1, 2, 3, 0] rfl ?_
        refine k9_aload_n X dX7_mixWouldBe_38 rfl 0 rfl ?_
        refine k9_aload_n X dX7_mixWouldBe_39 rfl 0 rfl ?_
        refine k9_iload_n X dX7_mixWouldBe_40 rfl 2 rfl ?_
        refine k9_iload_n X dX7_mixWouldBe_41 rfl 3 rfl ?_
        refine k9_iload_n X dX7_mixWouldBe_42 rfl 1 rfl ?_
        refine k9_iconst (v := 2) X dX7_mixWouldBe_43 (by decide) ?_
        refine k9_irem X dX7_mixWouldBe_44 (by decide) ?_
        refine k9_callVi3 X (k9 c1 c2 c5) k9_ob_76 (cwV 3 X.2.2.2.2.1 gX7_mixWouldBe_X7_steerNow rfl rfl rfl (by decide +kernel) ⟨Nat.le_of_ble_eq_true rfl, Nat.le_of_ble_eq_true rfl⟩) (Nat.le_of_ble_eq_true rfl) dX7_mixWouldBe_45 ⟨Nat.zero_le _, Nat.zero_le _⟩ ?_
        refine k9_i2l X dX7_mixWouldBe_48 ?_
        refine k9_callVv1 X (k10 c1 c2 c5) k9_ob_76 (cwV 1 X.2.2.2.2.1 gX7_mixWouldBe_X7_mix rfl rfl rfl (by decide +kernel) ⟨Nat.le_of_ble_eq_true rfl, Nat.le_of_ble_eq_true rfl⟩) (Nat.le_of_ble_eq_true rfl) dX7_mixWouldBe_49 ⟨Nat.zero_le _, Nat.zero_le _⟩ ?_
        refine k9_iinc (v := x1 + (1 : Int32)) (lv' := [(0, .ref (k9_ga G 76)), (1, .int (x1 + (1 : Int32))), (2, .int (48 : Int32)), (3, .int (95 : Int32))]) X dX7_mixWouldBe_52 (k := 1) rfl (by rfl) (by decide) [1, 0, 2, 3] rfl ?_
        refine k9_goto (tgt := 2) X dX7_mixWouldBe_55 (by decide) ?_
        refine k9_sub (lv' := [(0, .ref (k9_ga G 76)), (1, .int (x1 + (1 : Int32)))]) [0, 1] rfl ?_
        exact (l5 c1 c2 c5)
      · refine k9_iload_n X dX7_mixWouldBe_25 rfl 1 rfl ?_
        refine k9_iconst (v := 4) X dX7_mixWouldBe_26 (by decide) ?_
        refine k9_icmp_ge (tgt := 35) X dX7_mixWouldBe_27 (by decide) (fun c6 => ?_) (fun c6 => ?_)
        · refine k9_bipush (v := 95) X dX7_mixWouldBe_35 (by decide) ?_
          refine k9_istore_n (lv' := [(0, .ref (k9_ga G 76)), (1, .int x1), (2, .int (48 : Int32)), (3, .int (95 : Int32))]) X dX7_mixWouldBe_37 rfl (by decide) [1, 2, 3, 0] rfl ?_
          refine k9_aload_n X dX7_mixWouldBe_38 rfl 0 rfl ?_
          refine k9_aload_n X dX7_mixWouldBe_39 rfl 0 rfl ?_
          refine k9_iload_n X dX7_mixWouldBe_40 rfl 2 rfl ?_
          refine k9_iload_n X dX7_mixWouldBe_41 rfl 3 rfl ?_
          refine k9_iload_n X dX7_mixWouldBe_42 rfl 1 rfl ?_
          refine k9_iconst (v := 2) X dX7_mixWouldBe_43 (by decide) ?_
          refine k9_irem X dX7_mixWouldBe_44 (by decide) ?_
          refine k9_callVi3 X (k11 c1 c2 c5 c6) k9_ob_76 (cwV 3 X.2.2.2.2.1 gX7_mixWouldBe_X7_steerNow rfl rfl rfl (by decide +kernel) ⟨Nat.le_of_ble_eq_true rfl, Nat.le_of_ble_eq_true rfl⟩) (Nat.le_of_ble_eq_true rfl) dX7_mixWouldBe_45 ⟨Nat.zero_le _, Nat.zero_le _⟩ ?_
          refine k9_i2l X dX7_mixWouldBe_48 ?_
          refine k9_callVv1 X (k12 c1 c2 c5 c6) k9_ob_76 (cwV 1 X.2.2.2.2.1 gX7_mixWouldBe_X7_mix rfl rfl rfl (by decide +kernel) ⟨Nat.le_of_ble_eq_true rfl, Nat.le_of_ble_eq_true rfl⟩) (Nat.le_of_ble_eq_true rfl) dX7_mixWouldBe_49 ⟨Nat.zero_le _, Nat.zero_le _⟩ ?_
          refine k9_iinc (v := x1 + (1 : Int32)) (lv' := [(0, .ref (k9_ga G 76)), (1, .int (x1 + (1 : Int32))), (2, .int (48 : Int32)), (3, .int (95 : Int32))]) X dX7_mixWouldBe_52 (k := 1) rfl (by rfl) (by decide) [1, 0, 2, 3] rfl ?_
          refine k9_goto (tgt := 2) X dX7_mixWouldBe_55 (by decide) ?_
          refine k9_sub (lv' := [(0, .ref (k9_ga G 76)), (1, .int (x1 + (1 : Int32)))]) [0, 1] rfl ?_
          exact (l6 c1 c2 c5 c6)
        · refine k9_bipush (v := 47) X dX7_mixWouldBe_30 (by decide) ?_
          refine k9_goto (tgt := 37) X dX7_mixWouldBe_32 (by decide) ?_
          refine k9_istore_n (lv' := [(0, .ref (k9_ga G 76)), (1, .int x1), (2, .int (48 : Int32)), (3, .int (47 : Int32))]) X dX7_mixWouldBe_37 rfl (by decide) [1, 2, 3, 0] rfl ?_
          refine k9_aload_n X dX7_mixWouldBe_38 rfl 0 rfl ?_
          refine k9_aload_n X dX7_mixWouldBe_39 rfl 0 rfl ?_
          refine k9_iload_n X dX7_mixWouldBe_40 rfl 2 rfl ?_
          refine k9_iload_n X dX7_mixWouldBe_41 rfl 3 rfl ?_
          refine k9_iload_n X dX7_mixWouldBe_42 rfl 1 rfl ?_
          refine k9_iconst (v := 2) X dX7_mixWouldBe_43 (by decide) ?_
          refine k9_irem X dX7_mixWouldBe_44 (by decide) ?_
          refine k9_callVi3 X (k13 c1 c2 c5 c6) k9_ob_76 (cwV 3 X.2.2.2.2.1 gX7_mixWouldBe_X7_steerNow rfl rfl rfl (by decide +kernel) ⟨Nat.le_of_ble_eq_true rfl, Nat.le_of_ble_eq_true rfl⟩) (Nat.le_of_ble_eq_true rfl) dX7_mixWouldBe_45 ⟨Nat.zero_le _, Nat.zero_le _⟩ ?_
          refine k9_i2l X dX7_mixWouldBe_48 ?_
          refine k9_callVv1 X (k14 c1 c2 c5 c6) k9_ob_76 (cwV 1 X.2.2.2.2.1 gX7_mixWouldBe_X7_mix rfl rfl rfl (by decide +kernel) ⟨Nat.le_of_ble_eq_true rfl, Nat.le_of_ble_eq_true rfl⟩) (Nat.le_of_ble_eq_true rfl) dX7_mixWouldBe_49 ⟨Nat.zero_le _, Nat.zero_le _⟩ ?_
          refine k9_iinc (v := x1 + (1 : Int32)) (lv' := [(0, .ref (k9_ga G 76)), (1, .int (x1 + (1 : Int32))), (2, .int (48 : Int32)), (3, .int (47 : Int32))]) X dX7_mixWouldBe_52 (k := 1) rfl (by rfl) (by decide) [1, 0, 2, 3] rfl ?_
          refine k9_goto (tgt := 2) X dX7_mixWouldBe_55 (by decide) ?_
          refine k9_sub (lv' := [(0, .ref (k9_ga G 76)), (1, .int (x1 + (1 : Int32)))]) [0, 1] rfl ?_
          exact (l7 c1 c2 c5 c6)

set_option maxRecDepth 20000 in
theorem bk_X7_mixWouldBe_69 (X : k9_X p R s m args c A G 4 cX7_mixWouldBe wsX7_mixWouldBe RX7 rm_X7_mixWouldBe) {x1 : Int32} {mv1 : k9_Mem} {rv2 : UInt64} {rv3 : Int64} {mv4 : k9_Mem} {rv5 : Int32} {mv5 : k9_Mem} {mv6 : k9_Mem} {rv7 : Int32} {mv7 : k9_Mem} {mv8 : k9_Mem}
    (k1 : ((4 : Int32) ≤ x1) → k9_Cv l yX7_lay wsX7_lay rm_X7_lay G M [.ref (k9_ga G 76)] mv1)
    (k2 : ((4 : Int32) ≤ x1) → k9_Cd l yX7_share wsX7_share rm_X7_share G mv1 [.ref (k9_ga G 76)] rv2 mv1)
    (k3 : ((4 : Int32) ≤ x1) → k9_Cl l yJxe99ae_doubleToLongBits_ccdee wsJxe99ae_doubleToLongBits_ccdee rm_Jxe99ae_doubleToLongBits_ccdee G mv1 [.double rv2] rv3 mv1)
    (k4 : ((4 : Int32) ≤ x1) → k9_Cv l yX7_mix wsX7_mix rm_X7_mix G mv1 [.ref (k9_ga G 76), .long rv3] mv4)
    (l1 : ((4 : Int32) ≤ x1) → k9_U p l e R s m args below meth c Q A G 4 0 0 mv4 117 [] [])
    (k5 : (¬ ((4 : Int32) ≤ x1)) → ((2 : Int32) ≤ x1) → k9_Ci l yX7_breakNow wsX7_breakNow rm_X7_breakNow G M [.ref (k9_ga G 76), .int (-1 : Int32), .int (x1 - x1 / (2 : Int32) * (2 : Int32))] rv5 mv5)
    (k6 : (¬ ((4 : Int32) ≤ x1)) → ((2 : Int32) ≤ x1) → k9_Cv l yX7_mix wsX7_mix rm_X7_mix G mv5 [.ref (k9_ga G 76), .long rv5.toInt64] mv6)
    (l2 : (¬ ((4 : Int32) ≤ x1)) → ((2 : Int32) ≤ x1) → k9_U p l e R s m args below meth c Q A G 4 0 0 mv6 69 [(0, .ref (k9_ga G 76)), (1, .int (x1 + (1 : Int32)))] [])
    (k7 : (¬ ((4 : Int32) ≤ x1)) → (¬ ((2 : Int32) ≤ x1)) → k9_Ci l yX7_breakNow wsX7_breakNow rm_X7_breakNow G M [.ref (k9_ga G 76), .int (1 : Int32), .int (x1 - x1 / (2 : Int32) * (2 : Int32))] rv7 mv7)
    (k8 : (¬ ((4 : Int32) ≤ x1)) → (¬ ((2 : Int32) ≤ x1)) → k9_Cv l yX7_mix wsX7_mix rm_X7_mix G mv7 [.ref (k9_ga G 76), .long rv7.toInt64] mv8)
    (l3 : (¬ ((4 : Int32) ≤ x1)) → (¬ ((2 : Int32) ≤ x1)) → k9_U p l e R s m args below meth c Q A G 4 0 0 mv8 69 [(0, .ref (k9_ga G 76)), (1, .int (x1 + (1 : Int32)))] []) : k9_U p l e R s m args below meth c Q A G 4 0 0 M 69 [(0, .ref (k9_ga G 76)), (1, .int x1)] [] := by
  refine k9_iload_n X dX7_mixWouldBe_69 rfl 1 rfl ?_
  refine k9_iconst (v := 4) X dX7_mixWouldBe_70 (by decide) ?_
  refine k9_icmp_ge (tgt := 102) X dX7_mixWouldBe_71 (by decide) (fun c1 => ?_) (fun c1 => ?_)
  · refine k9_aload_n X dX7_mixWouldBe_102 rfl 0 rfl ?_
    refine k9_callVv0 X (k1 c1) k9_ob_76 (cwV 0 X.2.2.2.2.1 gX7_mixWouldBe_X7_lay rfl rfl rfl (by decide +kernel) ⟨Nat.le_of_ble_eq_true rfl, Nat.le_of_ble_eq_true rfl⟩) (Nat.le_of_ble_eq_true rfl) dX7_mixWouldBe_103 ⟨Nat.zero_le _, Nat.zero_le _⟩ ?_
    refine k9_aload_n X dX7_mixWouldBe_106 rfl 0 rfl ?_
    refine k9_aload_n X dX7_mixWouldBe_107 rfl 0 rfl ?_
    refine k9_callVd0 X (k2 c1) k9_ob_76 (cwV 0 X.2.2.2.2.1 gX7_mixWouldBe_X7_share rfl rfl rfl (by decide +kernel) ⟨Nat.le_of_ble_eq_true rfl, Nat.le_of_ble_eq_true rfl⟩) (Nat.le_of_ble_eq_true rfl) dX7_mixWouldBe_108 ⟨Nat.zero_le _, Nat.zero_le _⟩ ?_
    refine k9_callSl1 X (k3 c1)  (va_cwS 1 X.2.2.2.2.1 gX7_mixWouldBe_Jxe99ae_doubleToLongBits_ccdee rfl rfl rfl (by decide +kernel) ⟨Nat.le_of_ble_eq_true rfl, Nat.le_of_ble_eq_true rfl⟩) (Nat.le_of_ble_eq_true rfl) dX7_mixWouldBe_111 ⟨Nat.zero_le _, Nat.zero_le _⟩ ?_
    refine k9_callVv1 X (k4 c1) k9_ob_76 (cwV 1 X.2.2.2.2.1 gX7_mixWouldBe_X7_mix rfl rfl rfl (by decide +kernel) ⟨Nat.le_of_ble_eq_true rfl, Nat.le_of_ble_eq_true rfl⟩) (Nat.le_of_ble_eq_true rfl) dX7_mixWouldBe_114 ⟨Nat.zero_le _, Nat.zero_le _⟩ ?_
    refine k9_sub (lv' := []) [] rfl ?_
    exact (l1 c1)
  · refine k9_aload_n X dX7_mixWouldBe_74 rfl 0 rfl ?_
    refine k9_aload_n X dX7_mixWouldBe_75 rfl 0 rfl ?_
    refine k9_iload_n X dX7_mixWouldBe_76 rfl 1 rfl ?_
    refine k9_iconst (v := 2) X dX7_mixWouldBe_77 (by decide) ?_
    refine k9_icmp_ge (tgt := 85) X dX7_mixWouldBe_78 (by decide) (fun c2 => ?_) (fun c2 => ?_)
    · refine k9_iconst (v := -1) X dX7_mixWouldBe_85 (by decide) ?_
      refine k9_iload_n X dX7_mixWouldBe_86 rfl 1 rfl ?_
      refine k9_iconst (v := 2) X dX7_mixWouldBe_87 (by decide) ?_
      refine k9_irem X dX7_mixWouldBe_88 (by decide) ?_
      refine k9_callVi2 X (k5 c1 c2) k9_ob_76 (cwV 2 X.2.2.2.2.1 gX7_mixWouldBe_X7_breakNow rfl rfl rfl (by decide +kernel) ⟨Nat.le_of_ble_eq_true rfl, Nat.le_of_ble_eq_true rfl⟩) (Nat.le_of_ble_eq_true rfl) dX7_mixWouldBe_89 ⟨Nat.zero_le _, Nat.zero_le _⟩ ?_
      refine k9_i2l X dX7_mixWouldBe_92 ?_
      refine k9_callVv1 X (k6 c1 c2) k9_ob_76 (cwV 1 X.2.2.2.2.1 gX7_mixWouldBe_X7_mix rfl rfl rfl (by decide +kernel) ⟨Nat.le_of_ble_eq_true rfl, Nat.le_of_ble_eq_true rfl⟩) (Nat.le_of_ble_eq_true rfl) dX7_mixWouldBe_93 ⟨Nat.zero_le _, Nat.zero_le _⟩ ?_
      refine k9_iinc (v := x1 + (1 : Int32)) (lv' := [(0, .ref (k9_ga G 76)), (1, .int (x1 + (1 : Int32)))]) X dX7_mixWouldBe_96 (k := 1) rfl (by rfl) (by decide) [1, 0] rfl ?_
      refine k9_goto (tgt := 69) X dX7_mixWouldBe_99 (by decide) ?_
      exact (l2 c1 c2)
    · refine k9_iconst (v := 1) X dX7_mixWouldBe_81 (by decide) ?_
      refine k9_goto (tgt := 86) X dX7_mixWouldBe_82 (by decide) ?_
      refine k9_iload_n X dX7_mixWouldBe_86 rfl 1 rfl ?_
      refine k9_iconst (v := 2) X dX7_mixWouldBe_87 (by decide) ?_
      refine k9_irem X dX7_mixWouldBe_88 (by decide) ?_
      refine k9_callVi2 X (k7 c1 c2) k9_ob_76 (cwV 2 X.2.2.2.2.1 gX7_mixWouldBe_X7_breakNow rfl rfl rfl (by decide +kernel) ⟨Nat.le_of_ble_eq_true rfl, Nat.le_of_ble_eq_true rfl⟩) (Nat.le_of_ble_eq_true rfl) dX7_mixWouldBe_89 ⟨Nat.zero_le _, Nat.zero_le _⟩ ?_
      refine k9_i2l X dX7_mixWouldBe_92 ?_
      refine k9_callVv1 X (k8 c1 c2) k9_ob_76 (cwV 1 X.2.2.2.2.1 gX7_mixWouldBe_X7_mix rfl rfl rfl (by decide +kernel) ⟨Nat.le_of_ble_eq_true rfl, Nat.le_of_ble_eq_true rfl⟩) (Nat.le_of_ble_eq_true rfl) dX7_mixWouldBe_93 ⟨Nat.zero_le _, Nat.zero_le _⟩ ?_
      refine k9_iinc (v := x1 + (1 : Int32)) (lv' := [(0, .ref (k9_ga G 76)), (1, .int (x1 + (1 : Int32)))]) X dX7_mixWouldBe_96 (k := 1) rfl (by rfl) (by decide) [1, 0] rfl ?_
      refine k9_goto (tgt := 69) X dX7_mixWouldBe_99 (by decide) ?_
      exact (l3 c1 c2)

theorem in_X7_digest_X7 : ∀ w ∈ u_ws RX7 TX7 19, w ∈ wsX7_digest := by decide +kernel
theorem fl_X7_digest_46 : Cond.fieldLink RX7 46 (TX7 5).1 (TX7 5).2.1 (TX7 5).2.2.1 ∈ wsX7_digest := by decide +kernel
theorem co_X7_digest_256 : Cond.constantLong RX7 256 (2371) ∈ wsX7_digest := by decide +kernel
theorem fl_X7_digest_242 : Cond.fieldLink RX7 242 (TX7 18).1 (TX7 18).2.1 (TX7 18).2.2.1 ∈ wsX7_digest := by decide +kernel
theorem fl_X7_digest_7 : Cond.fieldLink RX7 7 (TX7 0).1 (TX7 0).2.1 (TX7 0).2.2.1 ∈ wsX7_digest := by decide +kernel
theorem fl_X7_digest_79 : Cond.fieldLink RX7 79 (TX7 13).1 (TX7 13).2.1 (TX7 13).2.2.1 ∈ wsX7_digest := by decide +kernel
theorem fl_X7_digest_139 : Cond.fieldLink RX7 139 (TX7 3).1 (TX7 3).2.1 (TX7 3).2.2.1 ∈ wsX7_digest := by decide +kernel
theorem fl_X7_digest_16 : Cond.fieldLink RX7 16 (TX7 4).1 (TX7 4).2.1 (TX7 4).2.2.1 ∈ wsX7_digest := by decide +kernel
set_option maxRecDepth 20000 in
theorem bk_X7_digest_0 (X : k9_X p R s m args c A G 3 cX7_digest wsX7_digest RX7 rm_X7_digest) {mv1 : k9_Mem}
    (k1 : k9_Cv l yX7_lay wsX7_lay rm_X7_lay G (k9_st M 76 5 (0 : Int32)) [.ref (k9_ga G 76)] mv1)
    (l1 : k9_U p l e R s m args below meth c Q A G 3 0 0 (k9_sH mv1 (2371 : Int64)) 18 [(0, .ref (k9_ga G 76)), (1, .int (0 : Int32))] []) : k9_U p l e R s m args below meth c Q A G 3 0 0 M 0 [(0, .ref (k9_ga G 76))] [] := by
  refine k9_aload_n X dX7_digest_0 rfl 0 rfl ?_
  refine k9_iconst (v := 0) X dX7_digest_1 (by decide) ?_
  refine k9_pX7_5 X in_X7_digest_X7 fl_X7_digest_46 dX7_digest_2 ?_
  refine k9_aload_n X dX7_digest_5 rfl 0 rfl ?_
  refine k9_callVv0 X k1 k9_ob_76 (cwV 0 X.2.2.2.2.1 gX7_digest_X7_lay rfl rfl rfl (by decide +kernel) ⟨Nat.le_of_ble_eq_true rfl, Nat.le_of_ble_eq_true rfl⟩) (Nat.le_of_ble_eq_true rfl) dX7_digest_6 ⟨Nat.zero_le _, Nat.zero_le _⟩ ?_
  refine k9_aload_n X dX7_digest_9 rfl 0 rfl ?_
  refine k9_ldc2 X co_X7_digest_256 dX7_digest_10 ?_
  refine k9_pX7_18 X in_X7_digest_X7 fl_X7_digest_242 dX7_digest_13 ?_
  refine k9_iconst (v := 0) X dX7_digest_16 (by decide) ?_
  refine k9_istore_n (lv' := [(0, .ref (k9_ga G 76)), (1, .int (0 : Int32))]) X dX7_digest_17 rfl (by decide) [1, 0] rfl ?_
  exact l1

set_option maxRecDepth 20000 in
theorem bk_X7_digest_18 (X : k9_X p R s m args c A G 3 cX7_digest wsX7_digest RX7 rm_X7_digest) {x1 : Int32} {mv1 : k9_Mem} {mv2 : k9_Mem} {rv3 : Int32} {mv4 : k9_Mem}
    (k1 : ((15 : Int32) ≤ x1) → k9_Cv l yX7_mix wsX7_mix rm_X7_mix G M [.ref (k9_ga G 76), .long ((M 77 384).toInt64)] mv1)
    (k2 : ((15 : Int32) ≤ x1) → k9_Cv l yX7_mix wsX7_mix rm_X7_mix G mv1 [.ref (k9_ga G 76), .long ((mv1 77 385).toInt64)] mv2)
    (l1 : ((15 : Int32) ≤ x1) → k9_U p l e R s m args below meth c Q A G 3 0 0 mv2 68 [(0, .ref (k9_ga G 76)), (1, .int (0 : Int32))] [])
    (k3 : (¬ ((15 : Int32) ≤ x1)) → k9_Ci l yX7_counted wsX7_counted rm_X7_counted G M [.ref (k9_ga G 76), .int x1] rv3 M)
    (k4 : (¬ ((15 : Int32) ≤ x1)) → k9_Cv l yX7_mix wsX7_mix rm_X7_mix G M [.ref (k9_ga G 76), .long rv3.toInt64] mv4)
    (l2 : (¬ ((15 : Int32) ≤ x1)) → k9_U p l e R s m args below meth c Q A G 3 0 0 mv4 18 [(0, .ref (k9_ga G 76)), (1, .int (x1 + (1 : Int32)))] []) : k9_U p l e R s m args below meth c Q A G 3 0 0 M 18 [(0, .ref (k9_ga G 76)), (1, .int x1)] [] := by
  refine k9_iload_n X dX7_digest_18 rfl 1 rfl ?_
  refine k9_bipush (v := 15) X dX7_digest_19 (by decide) ?_
  refine k9_icmp_ge (tgt := 40) X dX7_digest_21 (by decide) (fun c1 => ?_) (fun c1 => ?_)
  · refine k9_aload_n X dX7_digest_40 rfl 0 rfl ?_
    refine k9_aload_n X dX7_digest_41 rfl 0 rfl ?_
    refine k9_gX7_0 X in_X7_digest_X7 fl_X7_digest_7 dX7_digest_42 ?_
    refine k9_sipush (v := 384) X dX7_digest_45 (by decide) ?_
    refine k9_ialdL (n := 578) (j := 384) X (by decide) (by decide) (by decide) (by decide) (by rfl) dX7_digest_48 ?_
    refine k9_i2l X dX7_digest_49 ?_
    refine k9_callVv1 X (k1 c1) k9_ob_76 (cwV 1 X.2.2.2.2.1 gX7_digest_X7_mix rfl rfl rfl (by decide +kernel) ⟨Nat.le_of_ble_eq_true rfl, Nat.le_of_ble_eq_true rfl⟩) (Nat.le_of_ble_eq_true rfl) dX7_digest_50 ⟨Nat.zero_le _, Nat.zero_le _⟩ ?_
    refine k9_aload_n X dX7_digest_53 rfl 0 rfl ?_
    refine k9_aload_n X dX7_digest_54 rfl 0 rfl ?_
    refine k9_gX7_0 X in_X7_digest_X7 fl_X7_digest_7 dX7_digest_55 ?_
    refine k9_sipush (v := 385) X dX7_digest_58 (by decide) ?_
    refine k9_ialdL (n := 578) (j := 385) X (by decide) (by decide) (by decide) (by decide) (by rfl) dX7_digest_61 ?_
    refine k9_i2l X dX7_digest_62 ?_
    refine k9_callVv1 X (k2 c1) k9_ob_76 (cwV 1 X.2.2.2.2.1 gX7_digest_X7_mix rfl rfl rfl (by decide +kernel) ⟨Nat.le_of_ble_eq_true rfl, Nat.le_of_ble_eq_true rfl⟩) (Nat.le_of_ble_eq_true rfl) dX7_digest_63 ⟨Nat.zero_le _, Nat.zero_le _⟩ ?_
    refine k9_iconst (v := 0) X dX7_digest_66 (by decide) ?_
    refine k9_istore_n (lv' := [(0, .ref (k9_ga G 76)), (1, .int (0 : Int32))]) X dX7_digest_67 rfl (by decide) [1, 0] rfl ?_
    exact (l1 c1)
  · refine k9_aload_n X dX7_digest_24 rfl 0 rfl ?_
    refine k9_aload_n X dX7_digest_25 rfl 0 rfl ?_
    refine k9_iload_n X dX7_digest_26 rfl 1 rfl ?_
    refine k9_callVi1 X (k3 c1) k9_ob_76 (cwV 1 X.2.2.2.2.1 gX7_digest_X7_counted rfl rfl rfl (by decide +kernel) ⟨Nat.le_of_ble_eq_true rfl, Nat.le_of_ble_eq_true rfl⟩) (Nat.le_of_ble_eq_true rfl) dX7_digest_27 ⟨Nat.zero_le _, Nat.zero_le _⟩ ?_
    refine k9_i2l X dX7_digest_30 ?_
    refine k9_callVv1 X (k4 c1) k9_ob_76 (cwV 1 X.2.2.2.2.1 gX7_digest_X7_mix rfl rfl rfl (by decide +kernel) ⟨Nat.le_of_ble_eq_true rfl, Nat.le_of_ble_eq_true rfl⟩) (Nat.le_of_ble_eq_true rfl) dX7_digest_31 ⟨Nat.zero_le _, Nat.zero_le _⟩ ?_
    refine k9_iinc (v := x1 + (1 : Int32)) (lv' := [(0, .ref (k9_ga G 76)), (1, .int (x1 + (1 : Int32)))]) X dX7_digest_34 (k := 1) rfl (by rfl) (by decide) [1, 0] rfl ?_
    refine k9_goto (tgt := 18) X dX7_digest_37 (by decide) ?_
    exact (l2 c1)

set_option maxRecDepth 20000 in
theorem bk_X7_digest_68 (X : k9_X p R s m args c A G 3 cX7_digest wsX7_digest RX7 rm_X7_digest) {x1 : Int32} {rv1 : Int32} {mv2 : k9_Mem}
    (l1 : ((672 : Int32) ≤ x1) → k9_U p l e R s m args below meth c Q A G 3 0 0 M 100 [(0, .ref (k9_ga G 76)), (1, .int (0 : Int32))] [])
    (k1 : (¬ ((672 : Int32) ≤ x1)) → k9_Ci l yX7_stepNow wsX7_stepNow rm_X7_stepNow G M [.ref (k9_ga G 76), .int (x1 / (7 : Int32)), .int (x1 - x1 / (7 : Int32) * (7 : Int32))] rv1 M)
    (k2 : (¬ ((672 : Int32) ≤ x1)) → k9_Cv l yX7_mix wsX7_mix rm_X7_mix G M [.ref (k9_ga G 76), .long rv1.toInt64] mv2)
    (l2 : (¬ ((672 : Int32) ≤ x1)) → k9_U p l e R s m args below meth c Q A G 3 0 0 mv2 68 [(0, .ref (k9_ga G 76)), (1, .int (x1 + (1 : Int32)))] []) : k9_U p l e R s m args below meth c Q A G 3 0 0 M 68 [(0, .ref (k9_ga G 76)), (1, .int x1)] [] := by
  refine k9_iload_n X dX7_digest_68 rfl 1 rfl ?_
  refine k9_sipush (v := 672) X dX7_digest_69 (by decide) ?_
  refine k9_icmp_ge (tgt := 98) X dX7_digest_72 (by decide) (fun c1 => ?_) (fun c1 => ?_)
  · refine k9_iconst (v := 0) X dX7_digest_98 (by decide) ?_
    refine k9_istore_n (lv' := [(0, .ref (k9_ga G 76)), (1, .int (0 : Int32))]) X dX7_digest_99 rfl (by decide) [1, 0] rfl ?_
    exact (l1 c1)
  · refine k9_aload_n X dX7_digest_75 rfl 0 rfl ?_
    refine k9_aload_n X dX7_digest_76 rfl 0 rfl ?_
    refine k9_iload_n X dX7_digest_77 rfl 1 rfl ?_
    refine k9_bipush (v := 7) X dX7_digest_78 (by decide) ?_
    refine k9_idiv X dX7_digest_80 (by decide) ?_
    refine k9_iload_n X dX7_digest_81 rfl 1 rfl ?_
    refine k9_bipush (v := 7) X dX7_digest_82 (by decide) ?_
    refine k9_irem X dX7_digest_84 (by decide) ?_
    refine k9_callVi2 X (k1 c1) k9_ob_76 (cwV 2 X.2.2.2.2.1 gX7_digest_X7_stepNow rfl rfl rfl (by decide +kernel) ⟨Nat.le_of_ble_eq_true rfl, Nat.le_of_ble_eq_true rfl⟩) (Nat.le_of_ble_eq_true rfl) dX7_digest_85 ⟨Nat.zero_le _, Nat.zero_le _⟩ ?_
    refine k9_i2l X dX7_digest_88 ?_
    refine k9_callVv1 X (k2 c1) k9_ob_76 (cwV 1 X.2.2.2.2.1 gX7_digest_X7_mix rfl rfl rfl (by decide +kernel) ⟨Nat.le_of_ble_eq_true rfl, Nat.le_of_ble_eq_true rfl⟩) (Nat.le_of_ble_eq_true rfl) dX7_digest_89 ⟨Nat.zero_le _, Nat.zero_le _⟩ ?_
    refine k9_iinc (v := x1 + (1 : Int32)) (lv' := [(0, .ref (k9_ga G 76)), (1, .int (x1 + (1 : Int32)))]) X dX7_digest_92 (k := 1) rfl (by rfl) (by decide) [1, 0] rfl ?_
    refine k9_goto (tgt := 68) X dX7_digest_95 (by decide) ?_
    exact (l2 c1)

set_option maxRecDepth 20000 in
theorem bk_X7_digest_100 (X : k9_X p R s m args c A G 3 cX7_digest wsX7_digest RX7 rm_X7_digest) {x1 : Int32} {rv1 : Int32} {rv2 : Int32} {mv3 : k9_Mem}
    (k1 : (((6 : Int32) * (M 76 13)) ≤ x1) → k9_Ci l yX7_tuneNotes wsX7_tuneNotes rm_X7_tuneNotes G M [.ref (k9_ga G 76)] rv1 M)
    (l1 : (((6 : Int32) * (M 76 13)) ≤ x1) → k9_U p l e R s m args below meth c Q A G 3 0 0 M 141 [(0, .ref (k9_ga G 76)), (1, .int rv1), (2, .int (0 : Int32))] [])
    (k2 : (¬ (((6 : Int32) * (M 76 13)) ≤ x1)) → k9_Ci l yX7_playedNow wsX7_playedNow rm_X7_playedNow G M [.ref (k9_ga G 76), .int (x1 / (6 : Int32)), .int (x1 - x1 / (6 : Int32) * (6 : Int32))] rv2 M)
    (k3 : (¬ (((6 : Int32) * (M 76 13)) ≤ x1)) → k9_Cv l yX7_mix wsX7_mix rm_X7_mix G M [.ref (k9_ga G 76), .long rv2.toInt64] mv3)
    (l2 : (¬ (((6 : Int32) * (M 76 13)) ≤ x1)) → k9_U p l e R s m args below meth c Q A G 3 0 0 mv3 100 [(0, .ref (k9_ga G 76)), (1, .int (x1 + (1 : Int32)))] []) : k9_U p l e R s m args below meth c Q A G 3 0 0 M 100 [(0, .ref (k9_ga G 76)), (1, .int x1)] [] := by
  refine k9_iload_n X dX7_digest_100 rfl 1 rfl ?_
  refine k9_bipush (v := 6) X dX7_digest_101 (by decide) ?_
  refine k9_aload_n X dX7_digest_103 rfl 0 rfl ?_
  refine k9_gX7_13 X (by rfl) in_X7_digest_X7 fl_X7_digest_79 dX7_digest_104 ?_
  refine k9_imul X dX7_digest_107 ?_
  refine k9_icmp_ge (tgt := 134) X dX7_digest_108 (by decide) (fun c1 => ?_) (fun c1 => ?_)
  · refine k9_aload_n X dX7_digest_134 rfl 0 rfl ?_
    refine k9_callVi0 X (k1 c1) k9_ob_76 (cwV 0 X.2.2.2.2.1 gX7_digest_X7_tuneNotes rfl rfl rfl (by decide +kernel) ⟨Nat.le_of_ble_eq_true rfl, Nat.le_of_ble_eq_true rfl⟩) (Nat.le_of_ble_eq_true rfl) dX7_digest_135 ⟨Nat.zero_le _, Nat.zero_le _⟩ ?_
    refine k9_istore_n (lv' := [(0, .ref (k9_ga G 76)), (1, .int rv1)]) X dX7_digest_138 rfl (by decide) [1, 0] rfl ?_
    refine k9_iconst (v := 0) X dX7_digest_139 (by decide) ?_
    refine k9_istore_n (lv' := [(0, .ref (k9_ga G 76)), (1, .int rv1), (2, .int (0 : Int32))]) X dX7_digest_140 rfl (by decide) [1, 2, 0] rfl ?_
    exact (l1 c1)
  · refine k9_aload_n X dX7_digest_111 rfl 0 rfl ?_
    refine k9_aload_n X dX7_digest_112 rfl 0 rfl ?_
    refine k9_iload_n X dX7_digest_113 rfl 1 rfl ?_
    refine k9_bipush (v := 6) X dX7_digest_114 (by decide) ?_
    refine k9_idiv X dX7_digest_116 (by decide) ?_
    refine k9_iload_n X dX7_digest_117 rfl 1 rfl ?_
    refine k9_bipush (v := 6) X dX7_digest_118 (by decide) ?_
    refine k9_irem X dX7_digest_120 (by decide) ?_
    refine k9_callVi2 X (k2 c1) k9_ob_76 (cwV 2 X.2.2.2.2.1 gX7_digest_X7_playedNow rfl rfl rfl (by decide +kernel) ⟨Nat.le_of_ble_eq_true rfl, Nat.le_of_ble_eq_true rfl⟩) (Nat.le_of_ble_eq_true rfl) dX7_digest_121 ⟨Nat.zero_le _, Nat.zero_le _⟩ ?_
    refine k9_i2l X dX7_digest_124 ?_
    refine k9_callVv1 X (k3 c1) k9_ob_76 (cwV 1 X.2.2.2.2.1 gX7_digest_X7_mix rfl rfl rfl (by decide +kernel) ⟨Nat.le_of_ble_eq_true rfl, Nat.le_of_ble_eq_true rfl⟩) (Nat.le_of_ble_eq_true rfl) dX7_digest_125 ⟨Nat.zero_le _, Nat.zero_le _⟩ ?_
    refine k9_iinc (v := x1 + (1 : Int32)) (lv' := [(0, .ref (k9_ga G 76)), (1, .int (x1 + (1 : Int32)))]) X dX7_digest_128 (k := 1) rfl (by rfl) (by decide) [1, 0] rfl ?_
    refine k9_goto (tgt := 100) X dX7_digest_131 (by decide) ?_
    exact (l2 c1)

set_option maxRecDepth 20000 in
theorem bk_X7_digest_141 (X : k9_X p R s m args c A G 3 cX7_digest wsX7_digest RX7 rm_X7_digest) {x1 x2 : Int32} {mv1 : k9_Mem} {mv2 : k9_Mem} {rv3 : Int32} {mv4 : k9_Mem}
    (k1 : (((4 : Int32) * x1) ≤ x2) → k9_Cv l yX7_mixWouldBe wsX7_mixWouldBe rm_X7_mixWouldBe G M [.ref (k9_ga G 76)] mv1)
    (k2 : (((4 : Int32) * x1) ≤ x2) → k9_Cv l yX7_mix wsX7_mix rm_X7_mix G mv1 [.ref (k9_ga G 76), .long ((mv1 76 3).toInt64)] mv2)
    (l1 : (((4 : Int32) * x1) ≤ x2) → k9_U p l e R s m args below meth c Q A G 3 0 0 mv2 184 [(0, .ref (k9_ga G 76)), (2, .int (0 : Int32))] [])
    (k3 : (¬ (((4 : Int32) * x1) ≤ x2)) → k9_Ci l yX7_tuneNow wsX7_tuneNow rm_X7_tuneNow G M [.ref (k9_ga G 76), .int (x2 / (4 : Int32)), .int (x2 - x2 / (4 : Int32) * (4 : Int32))] rv3 M)
    (k4 : (¬ (((4 : Int32) * x1) ≤ x2)) → k9_Cv l yX7_mix wsX7_mix rm_X7_mix G M [.ref (k9_ga G 76), .long rv3.toInt64] mv4)
    (l2 : (¬ (((4 : Int32) * x1) ≤ x2)) → k9_U p l e R s m args below meth c Q A G 3 0 0 mv4 141 [(0, .ref (k9_ga G 76)), (1, .int x1), (2, .int (x2 + (1 : Int32)))] []) : k9_U p l e R s m args below meth c Q A G 3 0 0 M 141 [(0, .ref (k9_ga G 76)), (1, .int x1), (2, .int x2)] [] := by
  refine k9_iload_n X dX7_digest_141 rfl 2 rfl ?_
  refine k9_iconst (v := 4) X dX7_digest_142 (by decide) ?_
  refine k9_iload_n X dX7_digest_143 rfl 1 rfl ?_
  refine k9_imul X dX7_digest_144 ?_
  refine k9_icmp_ge (tgt := 169) X dX7_digest_145 (by decide) (fun c1 => ?_) (fun c1 => ?_)
  · refine k9_aload_n X dX7_digest_169 rfl 0 rfl ?_
    refine k9_callVv0 X (k1 c1) k9_ob_76 (cwV 0 X.2.2.2.2.1 gX7_digest_X7_mixWouldBe rfl rfl rfl (by decide +kernel) ⟨Nat.le_of_ble_eq_true rfl, Nat.le_of_ble_eq_true rfl⟩) (Nat.le_of_ble_eq_true rfl) dX7_digest_170 ⟨Nat.zero_le _, Nat.zero_le _⟩ ?_
    refine k9_aload_n X dX7_digest_173 rfl 0 rfl ?_
    refine k9_aload_n X dX7_digest_174 rfl 0 rfl ?_
    refine k9_gX7_3 X (by rfl) in_X7_digest_X7 fl_X7_digest_139 dX7_digest_175 ?_
    refine k9_i2l X dX7_digest_178 ?_
    refine k9_callVv1 X (k2 c1) k9_ob_76 (cwV 1 X.2.2.2.2.1 gX7_digest_X7_mix rfl rfl rfl (by decide +kernel) ⟨Nat.le_of_ble_eq_true rfl, Nat.le_of_ble_eq_true rfl⟩) (Nat.le_of_ble_eq_true rfl) dX7_digest_179 ⟨Nat.zero_le _, Nat.zero_le _⟩ ?_
    refine k9_iconst (v := 0) X dX7_digest_182 (by decide) ?_
    refine k9_istore_n (lv' := [(0, .ref (k9_ga G 76)), (1, .int x1), (2, .int (0 : Int32))]) X dX7_digest_183 rfl (by decide) [1, 2, 0] rfl ?_
    refine k9_sub (lv' := [(0, .ref (k9_ga G 76)), (2, .int (0 : Int32))]) [0, 2] rfl ?_
    exact (l1 c1)
  · refine k9_aload_n X dX7_digest_148 rfl 0 rfl ?_
    refine k9_aload_n X dX7_digest_149 rfl 0 rfl ?_
    refine k9_iload_n X dX7_digest_150 rfl 2 rfl ?_
    refine k9_iconst (v := 4) X dX7_digest_151 (by decide) ?_
    refine k9_idiv X dX7_digest_152 (by decide) ?_
    refine k9_iload_n X dX7_digest_153 rfl 2 rfl ?_
    refine k9_iconst (v := 4) X dX7_digest_154 (by decide) ?_
    refine k9_irem X dX7_digest_155 (by decide) ?_
    refine k9_callVi2 X (k3 c1) k9_ob_76 (cwV 2 X.2.2.2.2.1 gX7_digest_X7_tuneNow rfl rfl rfl (by decide +kernel) ⟨Nat.le_of_ble_eq_true rfl, Nat.le_of_ble_eq_true rfl⟩) (Nat.le_of_ble_eq_true rfl) dX7_digest_156 ⟨Nat.zero_le _, Nat.zero_le _⟩ ?_
    refine k9_i2l X dX7_digest_159 ?_
    refine k9_callVv1 X (k4 c1) k9_ob_76 (cwV 1 X.2.2.2.2.1 gX7_digest_X7_mix rfl rfl rfl (by decide +kernel) ⟨Nat.le_of_ble_eq_true rfl, Nat.le_of_ble_eq_true rfl⟩) (Nat.le_of_ble_eq_true rfl) dX7_digest_160 ⟨Nat.zero_le _, Nat.zero_le _⟩ ?_
    refine k9_iinc (v := x2 + (1 : Int32)) (lv' := [(0, .ref (k9_ga G 76)), (1, .int x1), (2, .int (x2 + (1 : Int32)))]) X dX7_digest_163 (k := 2) rfl (by rfl) (by decide) [1, 2, 0] rfl ?_
    refine k9_goto (tgt := 141) X dX7_digest_166 (by decide) ?_
    exact (l2 c1)

set_option maxRecDepth 20000 in
theorem bk_X7_digest_184 (X : k9_X p R s m args c A G 3 cX7_digest wsX7_digest RX7 rm_X7_digest) {x2 : Int32} {mv1 : k9_Mem}
    (l1 : ((M 76 3) ≤ x2) → k9_U p l e R s m args below meth c Q A G 3 0 0 M 213 [] [.long (k9_lg (fun j => M 76 (18 + j)))])
    (o1 : (¬ ((M 76 3) ≤ x2)) → vp_in x2 60)
    (k1 : (¬ ((M 76 3) ≤ x2)) → k9_Cv l yX7_mix wsX7_mix rm_X7_mix G M [.ref (k9_ga G 76), .long ((M 79 x2.toNatClampNeg).toInt64)] mv1)
    (l2 : (¬ ((M 76 3) ≤ x2)) → k9_U p l e R s m args below meth c Q A G 3 0 0 mv1 184 [(0, .ref (k9_ga G 76)), (2, .int (x2 + (1 : Int32)))] []) : k9_U p l e R s m args below meth c Q A G 3 0 0 M 184 [(0, .ref (k9_ga G 76)), (2, .int x2)] [] := by
  refine k9_iload_n X dX7_digest_184 rfl 1 rfl ?_
  refine k9_aload_n X dX7_digest_185 rfl 0 rfl ?_
  refine k9_gX7_3 X (by rfl) in_X7_digest_X7 fl_X7_digest_139 dX7_digest_186 ?_
  refine k9_icmp_ge (tgt := 209) X dX7_digest_189 (by decide) (fun c1 => ?_) (fun c1 => ?_)
  · refine k9_aload_n X dX7_digest_209 rfl 0 rfl ?_
    refine k9_gX7_18 X in_X7_digest_X7 fl_X7_digest_242 dX7_digest_210 ?_
    refine k9_sub (lv' := []) [] rfl ?_
    exact (l1 c1)
  · refine k9_aload_n X dX7_digest_192 rfl 0 rfl ?_
    refine k9_aload_n X dX7_digest_193 rfl 0 rfl ?_
    refine k9_gX7_4 X in_X7_digest_X7 fl_X7_digest_16 dX7_digest_194 ?_
    refine k9_iload_n X dX7_digest_197 rfl 1 rfl ?_
    refine k9_iald X (by decide) (o1 c1) (by rfl) dX7_digest_198 ?_
    refine k9_i2l X dX7_digest_199 ?_
    refine k9_callVv1 X (k1 c1) k9_ob_76 (cwV 1 X.2.2.2.2.1 gX7_digest_X7_mix rfl rfl rfl (by decide +kernel) ⟨Nat.le_of_ble_eq_true rfl, Nat.le_of_ble_eq_true rfl⟩) (Nat.le_of_ble_eq_true rfl) dX7_digest_200 ⟨Nat.zero_le _, Nat.zero_le _⟩ ?_
    refine k9_iinc (v := x2 + (1 : Int32)) (lv' := [(0, .ref (k9_ga G 76)), (2, .int (x2 + (1 : Int32)))]) X dX7_digest_203 (k := 1) rfl (by rfl) (by decide) [1, 0] rfl ?_
    refine k9_goto (tgt := 184) X dX7_digest_206 (by decide) ?_
    exact (l2 c1)

end BK
