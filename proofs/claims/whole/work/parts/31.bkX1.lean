section BK
variable {p : Program} {l : Launch} {e : Env} {R : Room} {s : State} {m : MethodId} {args : Array Value} {below : List Frame} {meth : Method} {c : Code} {Q : State → Prop} {A : Nat → Prop} {G : k9_G} {M : k9_Mem}
theorem in_X1_listenTo_X1 : ∀ w ∈ u_ws RX1 TX1 4, w ∈ wsX1_listenTo := by decide +kernel
theorem fl_X1_listenTo_18 : Cond.fieldLink RX1 18 (TX1 1).1 (TX1 1).2.1 (TX1 1).2.2.1 ∈ wsX1_listenTo := by decide +kernel
theorem fl_X1_listenTo_9 : Cond.fieldLink RX1 9 (TX1 0).1 (TX1 0).2.1 (TX1 0).2.2.1 ∈ wsX1_listenTo := by decide +kernel
theorem in_X1_listenTo_X3 : ∀ w ∈ u_ws RX3 TX3 7, w ∈ wsX1_listenTo := by decide +kernel
theorem fl_X1_listenTo_37 : Cond.fieldLink RX1 37 (TX3 5).1 (TX3 5).2.1 (TX3 5).2.2.1 ∈ wsX1_listenTo := by decide +kernel
theorem fl_X1_listenTo_28 : Cond.fieldLink RX1 28 (TX3 3).1 (TX3 3).2.1 (TX3 3).2.2.1 ∈ wsX1_listenTo := by decide +kernel
set_option maxRecDepth 20000 in
theorem bk_X1_listenTo_0 (X : k9_X p R s m args c A G 3 cX1_listenTo wsX1_listenTo RX1 rm_X1_listenTo) 
    (l1 : k9_U p l e R s m args below meth c Q A G 3 0 0 M 2 [(0, .ref (k9_ga G 57)), (1, .ref (k9_ga G 1)), (2, .int (0 : Int32))] []) : k9_U p l e R s m args below meth c Q A G 3 0 0 M 0 [(0, .ref (k9_ga G 57)), (1, .ref (k9_ga G 1))] [] := by
  refine k9_iconst (v := 0) X dX1_listenTo_0 (by decide) ?_
  refine k9_istore_n (lv' := [(0, .ref (k9_ga G 57)), (1, .ref (k9_ga G 1)), (2, .int (0 : Int32))]) X dX1_listenTo_1 rfl (by decide) [1, 2, 0] rfl ?_
  exact l1

set_option maxRecDepth 20000 in
theorem bk_X1_listenTo_2 (X : k9_X p R s m args c A G 3 cX1_listenTo wsX1_listenTo RX1 rm_X1_listenTo) {x2 : Int32} {mv1 : k9_Mem} {mv2 : k9_Mem} {mv3 : k9_Mem} {rv4 : Int32}
    (k1 : ((96 : Int32) ≤ x2) → k9_Cv l yX0_link wsX0_link rm_X0_link G M [.ref (k9_ga G 59), .ref (k9_ga G 58), .int (M 1 5)] mv1)
    (k2 : ((96 : Int32) ≤ x2) → k9_Cv l yX1_fillPlaying wsX1_fillPlaying rm_X1_fillPlaying G mv1 [.ref (k9_ga G 57)] mv2)
    (k3 : ((96 : Int32) ≤ x2) → k9_Cv l yX1_fillSounding wsX1_fillSounding rm_X1_fillSounding G mv2 [.ref (k9_ga G 57)] mv3)
    (l1 : ((96 : Int32) ≤ x2) → k9_U p l e R s m args below meth c Q A G 3 0 0 mv3 54 [] [])
    (o1 : (¬ ((96 : Int32) ≤ x2)) → vp_in x2 96)
    (k4 : (¬ ((96 : Int32) ≤ x2)) → k9_Ci l yX3_voicesAt wsX3_voicesAt rm_X3_voicesAt G M [.ref (k9_ga G 1), .int x2, .int (M 5 x2.toNatClampNeg)] rv4 M)
    (l2 : (¬ ((96 : Int32) ≤ x2)) → k9_U p l e R s m args below meth c Q A G 3 0 0 (k9_st M 58 x2.toNatClampNeg rv4) 2 [(0, .ref (k9_ga G 57)), (1, .ref (k9_ga G 1)), (2, .int (x2 + (1 : Int32)))] []) : k9_U p l e R s m args below meth c Q A G 3 0 0 M 2 [(0, .ref (k9_ga G 57)), (1, .ref (k9_ga G 1)), (2, .int x2)] [] := by
  refine k9_iload_n X dX1_listenTo_2 rfl 2 rfl ?_
  refine k9_bipush (v := 96) X dX1_listenTo_3 (by decide) ?_
  refine k9_icmp_ge (tgt := 31) X dX1_listenTo_5 (by decide) (fun c1 => ?_) (fun c1 => ?_)
  · refine k9_aload_n X dX1_listenTo_31 rfl 0 rfl ?_
    refine k9_gX1_1 X in_X1_listenTo_X1 fl_X1_listenTo_18 dX1_listenTo_32 ?_
    refine k9_aload_n X dX1_listenTo_35 rfl 0 rfl ?_
    refine k9_gX1_0 X in_X1_listenTo_X1 fl_X1_listenTo_9 dX1_listenTo_36 ?_
    refine k9_aload_n X dX1_listenTo_39 rfl 1 rfl ?_
    refine k9_gX3_5 (q := 1) X (by decide) (by rfl) in_X1_listenTo_X3 fl_X1_listenTo_37 dX1_listenTo_40 ?_
    refine k9_callVv2 X (k1 c1) (k9_ob_C (by decide)) (cwV 2 X.2.2.2.2.1 gX1_listenTo_X0_link rfl rfl rfl (by decide +kernel) ⟨Nat.le_of_ble_eq_true rfl, Nat.le_of_ble_eq_true rfl⟩) (Nat.le_of_ble_eq_true rfl) dX1_listenTo_43 ⟨Nat.zero_le _, Nat.zero_le _⟩ ?_
    refine k9_aload_n X dX1_listenTo_46 rfl 0 rfl ?_
    refine k9_callVv0 X (k2 c1) k9_ob_57 (cwV 0 X.2.2.2.2.1 gX1_listenTo_X1_fillPlaying rfl rfl rfl (by decide +kernel) ⟨Nat.le_of_ble_eq_true rfl, Nat.le_of_ble_eq_true rfl⟩) (Nat.le_of_ble_eq_true rfl) dX1_listenTo_47 ⟨Nat.zero_le _, Nat.zero_le _⟩ ?_
    refine k9_aload_n X dX1_listenTo_50 rfl 0 rfl ?_
    refine k9_callVv0 X (k3 c1) k9_ob_57 (cwV 0 X.2.2.2.2.1 gX1_listenTo_X1_fillSounding rfl rfl rfl (by decide +kernel) ⟨Nat.le_of_ble_eq_true rfl, Nat.le_of_ble_eq_true rfl⟩) (Nat.le_of_ble_eq_true rfl) dX1_listenTo_51 ⟨Nat.zero_le _, Nat.zero_le _⟩ ?_
    refine k9_sub (lv' := []) [] rfl ?_
    exact (l1 c1)
  · refine k9_aload_n X dX1_listenTo_8 rfl 0 rfl ?_
    refine k9_gX1_0 X in_X1_listenTo_X1 fl_X1_listenTo_9 dX1_listenTo_9 ?_
    refine k9_iload_n X dX1_listenTo_12 rfl 2 rfl ?_
    refine k9_aload_n X dX1_listenTo_13 rfl 1 rfl ?_
    refine k9_iload_n X dX1_listenTo_14 rfl 2 rfl ?_
    refine k9_aload_n X dX1_listenTo_15 rfl 1 rfl ?_
    refine k9_gX3_3 (q := 1) (q1 := 5) X (by decide) (by rfl) in_X1_listenTo_X3 fl_X1_listenTo_28 dX1_listenTo_16 ?_
    refine k9_iload_n X dX1_listenTo_19 rfl 2 rfl ?_
    refine k9_iald X (by decide) (o1 c1) (by rfl) dX1_listenTo_20 ?_
    refine k9_callVi2 X (k4 c1) (k9_ob_P (by decide)) (cwV 2 X.2.2.2.2.1 gX1_listenTo_X3_voicesAt rfl rfl rfl (by decide +kernel) ⟨Nat.le_of_ble_eq_true rfl, Nat.le_of_ble_eq_true rfl⟩) (Nat.le_of_ble_eq_true rfl) dX1_listenTo_21 ⟨Nat.zero_le _, Nat.zero_le _⟩ ?_
    refine k9_iast X (by decide) (o1 c1) dX1_listenTo_24 ?_
    refine k9_iinc (v := x2 + (1 : Int32)) (lv' := [(0, .ref (k9_ga G 57)), (1, .ref (k9_ga G 1)), (2, .int (x2 + (1 : Int32)))]) X dX1_listenTo_25 (k := 2) rfl (by rfl) (by decide) [1, 2, 0] rfl ?_
    refine k9_goto (tgt := 2) X dX1_listenTo_28 (by decide) ?_
    exact (l2 c1)

theorem in_X1_fillPlaying_X1 : ∀ w ∈ u_ws RX1 TX1 4, w ∈ wsX1_fillPlaying := by decide +kernel
theorem fl_X1_fillPlaying_18 : Cond.fieldLink RX1 18 (TX1 1).1 (TX1 1).2.1 (TX1 1).2.2.1 ∈ wsX1_fillPlaying := by decide +kernel
theorem in_X1_fillPlaying_X0 : ∀ w ∈ u_ws RX0 TX0 2, w ∈ wsX1_fillPlaying := by decide +kernel
theorem fl_X1_fillPlaying_51 : Cond.fieldLink RX1 51 (TX0 0).1 (TX0 0).2.1 (TX0 0).2.2.1 ∈ wsX1_fillPlaying := by decide +kernel
theorem fl_X1_fillPlaying_22 : Cond.fieldLink RX1 22 (TX1 2).1 (TX1 2).2.1 (TX1 2).2.2.1 ∈ wsX1_fillPlaying := by decide +kernel
theorem fl_X1_fillPlaying_54 : Cond.fieldLink RX1 54 (TX0 1).1 (TX0 1).2.1 (TX0 1).2.2.1 ∈ wsX1_fillPlaying := by decide +kernel
set_option maxRecDepth 20000 in
theorem bk_X1_fillPlaying_0 (X : k9_X p R s m args c A G 3 cX1_fillPlaying wsX1_fillPlaying RX1 rm_X1_fillPlaying) 
    (l1 : k9_U p l e R s m args below meth c Q A G 3 0 0 M 4 [(0, .ref (k9_ga G 57)), (1, .int (0 : Int32)), (2, .int (0 : Int32))] []) : k9_U p l e R s m args below meth c Q A G 3 0 0 M 0 [(0, .ref (k9_ga G 57))] [] := by
  refine k9_iconst (v := 0) X dX1_fillPlaying_0 (by decide) ?_
  refine k9_istore_n (lv' := [(0, .ref (k9_ga G 57)), (1, .int (0 : Int32))]) X dX1_fillPlaying_1 rfl (by decide) [1, 0] rfl ?_
  refine k9_iconst (v := 0) X dX1_fillPlaying_2 (by decide) ?_
  refine k9_istore_n (lv' := [(0, .ref (k9_ga G 57)), (1, .int (0 : Int32)), (2, .int (0 : Int32))]) X dX1_fillPlaying_3 rfl (by decide) [1, 2, 0] rfl ?_
  exact l1

set_option maxRecDepth 20000 in
theorem bk_X1_fillPlaying_4 (X : k9_X p R s m args c A G 3 cX1_fillPlaying wsX1_fillPlaying RX1 rm_X1_fillPlaying) {x1 x2 : Int32}
    (l1 : ((96 : Int32) ≤ x2) → k9_U p l e R s m args below meth c Q A G 3 0 0 M 49 [] [])
    (o1 : (¬ ((96 : Int32) ≤ x2)) → vp_in x2 96)
    (l2 : (¬ ((96 : Int32) ≤ x2)) → k9_U p l e R s m args below meth c Q A G 3 0 0 (k9_st M 62 x2.toNatClampNeg (x1 ||| (M 60 x2.toNatClampNeg))) 4 [(0, .ref (k9_ga G 57)), (1, .int ((x1 ||| (M 60 x2.toNatClampNeg)) &&& ((M 61 x2.toNatClampNeg) ^^^ (-1 : Int32)))), (2, .int (x2 + (1 : Int32)))] []) : k9_U p l e R s m args below meth c Q A G 3 0 0 M 4 [(0, .ref (k9_ga G 57)), (1, .int x1), (2, .int x2)] [] := by
  refine k9_iload_n X dX1_fillPlaying_4 rfl 2 rfl ?_
  refine k9_bipush (v := 96) X dX1_fillPlaying_5 (by decide) ?_
  refine k9_icmp_ge (tgt := 49) X dX1_fillPlaying_7 (by decide) (fun c1 => ?_) (fun c1 => ?_)
  · refine k9_sub (lv' := []) [] rfl ?_
    exact (l1 c1)
  · refine k9_iload_n X dX1_fillPlaying_10 rfl 1 rfl ?_
    refine k9_aload_n X dX1_fillPlaying_11 rfl 0 rfl ?_
    refine k9_gX1_1 X in_X1_fillPlaying_X1 fl_X1_fillPlaying_18 dX1_fillPlaying_12 ?_
    refine k9_gX0_0 (q := 59) (q1 := 60) X (by decide) (by rfl) in_X1_fillPlaying_X0 fl_X1_fillPlaying_51 dX1_fillPlaying_15 ?_
    refine k9_iload_n X dX1_fillPlaying_18 rfl 2 rfl ?_
    refine k9_iald X (by decide) (o1 c1) (by rfl) dX1_fillPlaying_19 ?_
    refine k9_ior X dX1_fillPlaying_20 ?_
    refine k9_istore_n (lv' := [(0, .ref (k9_ga G 57)), (1, .int (x1 ||| (M 60 x2.toNatClampNeg))), (2, .int x2)]) X dX1_fillPlaying_21 rfl (by decide) [1, 0, 2] rfl ?_
    refine k9_aload_n X dX1_fillPlaying_22 rfl 0 rfl ?_
    refine k9_gX1_2 X in_X1_fillPlaying_X1 fl_X1_fillPlaying_22 dX1_fillPlaying_23 ?_
    refine k9_iload_n X dX1_fillPlaying_26 rfl 2 rfl ?_
    refine k9_iload_n X dX1_fillPlaying_27 rfl 1 rfl ?_
    refine k9_iast X (by decide) (o1 c1) dX1_fillPlaying_28 ?_
    refine k9_iload_n X dX1_fillPlaying_29 rfl 1 rfl ?_
    refine k9_aload_n X dX1_fillPlaying_30 rfl 0 rfl ?_
    refine k9_gX1_1 X in_X1_fillPlaying_X1 fl_X1_fillPlaying_18 dX1_fillPlaying_31 ?_
    refine k9_gX0_1 (q := 59) (q1 := 61) X (by decide) (by rfl) in_X1_fillPlaying_X0 fl_X1_fillPlaying_54 dX1_fillPlaying_34 ?_
    refine k9_iload_n X dX1_fillPlaying_37 rfl 2 rfl ?_
    refine k9_iald (v := (M 61 x2.toNatClampNeg)) X (by decide) (o1 c1) (by rfl) dX1_fillPlaying_38 ?_
    refine k9_iconst (v := -1) X dX1_fillPlaying_39 (by decide) ?_
    refine k9_ixor X dX1_fillPlaying_40 ?_
    refine k9_iand X dX1_fillPlaying_41 ?_
    refine k9_istore_n (lv' := [(0, .ref (k9_ga G 57)), (1, .int ((x1 ||| (M 60 x2.toNatClampNeg)) &&& ((M 61 x2.toNatClampNeg) ^^^ (-1 : Int32)))), (2, .int x2)]) X dX1_fillPlaying_42 rfl (by decide) [1, 0, 2] rfl ?_
    refine k9_iinc (v := x2 + (1 : Int32)) (lv' := [(0, .ref (k9_ga G 57)), (1, .int ((x1 ||| (M 60 x2.toNatClampNeg)) &&& ((M 61 x2.toNatClampNeg) ^^^ (-1 : Int32)))), (2, .int (x2 + (1 : Int32)))]) X dX1_fillPlaying_43 (k := 2) rfl (by rfl) (by decide) [1, 2, 0] rfl ?_
    refine k9_goto (tgt := 4) X dX1_fillPlaying_46 (by decide) ?_
    exact (l2 c1)

theorem in_X1_fillSounding_X1 : ∀ w ∈ u_ws RX1 TX1 4, w ∈ wsX1_fillSounding := by decide +kernel
theorem fl_X1_fillSounding_25 : Cond.fieldLink RX1 25 (TX1 3).1 (TX1 3).2.1 (TX1 3).2.2.1 ∈ wsX1_fillSounding := by decide +kernel
theorem fl_X1_fillSounding_22 : Cond.fieldLink RX1 22 (TX1 2).1 (TX1 2).2.1 (TX1 2).2.2.1 ∈ wsX1_fillSounding := by decide +kernel
theorem fl_X1_fillSounding_18 : Cond.fieldLink RX1 18 (TX1 1).1 (TX1 1).2.1 (TX1 1).2.2.1 ∈ wsX1_fillSounding := by decide +kernel
theorem in_X1_fillSounding_X0 : ∀ w ∈ u_ws RX0 TX0 2, w ∈ wsX1_fillSounding := by decide +kernel
theorem fl_X1_fillSounding_54 : Cond.fieldLink RX1 54 (TX0 1).1 (TX0 1).2.1 (TX0 1).2.2.1 ∈ wsX1_fillSounding := by decide +kernel
set_option maxRecDepth 20000 in
theorem bk_X1_fillSounding_0 (X : k9_X p R s m args c A G 4 cX1_fillSounding wsX1_fillSounding RX1 rm_X1_fillSounding) 
    (l1 : k9_U p l e R s m args below meth c Q A G 4 0 0 M 4 [(0, .ref (k9_ga G 57)), (1, .int (0 : Int32)), (2, .int (0 : Int32))] []) : k9_U p l e R s m args below meth c Q A G 4 0 0 M 0 [(0, .ref (k9_ga G 57))] [] := by
  refine k9_iconst (v := 0) X dX1_fillSounding_0 (by decide) ?_
  refine k9_istore_n (lv' := [(0, .ref (k9_ga G 57)), (1, .int (0 : Int32))]) X dX1_fillSounding_1 rfl (by decide) [1, 0] rfl ?_
  refine k9_iconst (v := 0) X dX1_fillSounding_2 (by decide) ?_
  refine k9_istore_n (lv' := [(0, .ref (k9_ga G 57)), (1, .int (0 : Int32)), (2, .int (0 : Int32))]) X dX1_fillSounding_3 rfl (by decide) [1, 2, 0] rfl ?_
  exact l1

set_option maxRecDepth 20000 in
theorem bk_X1_fillSounding_4 (X : k9_X p R s m args c A G 4 cX1_fillSounding wsX1_fillSounding RX1 rm_X1_fillSounding) {x1 x2 : Int32}
    (l1 : ((96 : Int32) ≤ x2) → k9_U p l e R s m args below meth c Q A G 4 0 0 M 71 [] [])
    (o1 : (¬ ((96 : Int32) ≤ x2)) → vp_in x2 96)
    (l2 : (¬ ((96 : Int32) ≤ x2)) → ((((M 62 x2.toNatClampNeg) &&& ((M 61 x2.toNatClampNeg) ^^^ (-1 : Int32))) &&& (1 : Int32)) = 0) → k9_U p l e R s m args below meth c Q A G 4 0 0 (k9_st M 63 x2.toNatClampNeg ((M 62 x2.toNatClampNeg) ||| x1)) 4 [(0, .ref (k9_ga G 57)), (1, .int (0 : Int32)), (2, .int (x2 + (1 : Int32)))] [])
    (l3 : (¬ ((96 : Int32) ≤ x2)) → (¬ ((((M 62 x2.toNatClampNeg) &&& ((M 61 x2.toNatClampNeg) ^^^ (-1 : Int32))) &&& (1 : Int32)) = 0)) → k9_U p l e R s m args below meth c Q A G 4 0 0 (k9_st M 63 x2.toNatClampNeg ((M 62 x2.toNatClampNeg) ||| x1)) 4 [(0, .ref (k9_ga G 57)), (1, .int (x1 ||| (M 61 x2.toNatClampNeg))), (2, .int (x2 + (1 : Int32)))] []) : k9_U p l e R s m args below meth c Q A G 4 0 0 M 4 [(0, .ref (k9_ga G 57)), (1, .int x1), (2, .int x2)] [] := by
  refine k9_iload_n X dX1_fillSounding_4 rfl 2 rfl ?_
  refine k9_bipush (v := 96) X dX1_fillSounding_5 (by decide) ?_
  refine k9_icmp_ge (tgt := 71) X dX1_fillSounding_7 (by decide) (fun c1 => ?_) (fun c1 => ?_)
  · refine k9_sub (lv' := []) [] rfl ?_
    exact (l1 c1)
  · refine k9_aload_n X dX1_fillSounding_10 rfl 0 rfl ?_
    refine k9_gX1_3 X in_X1_fillSounding_X1 fl_X1_fillSounding_25 dX1_fillSounding_11 ?_
    refine k9_iload_n X dX1_fillSounding_14 rfl 2 rfl ?_
    refine k9_aload_n X dX1_fillSounding_15 rfl 0 rfl ?_
    refine k9_gX1_2 X in_X1_fillSounding_X1 fl_X1_fillSounding_22 dX1_fillSounding_16 ?_
    refine k9_iload_n X dX1_fillSounding_19 rfl 2 rfl ?_
    refine k9_iald X (by decide) (o1 c1) (by rfl) dX1_fillSounding_20 ?_
    refine k9_iload_n X dX1_fillSounding_21 rfl 1 rfl ?_
    refine k9_ior X dX1_fillSounding_22 ?_
    refine k9_iast X (by decide) (o1 c1) dX1_fillSounding_23 ?_
    refine k9_aload_n X dX1_fillSounding_24 rfl 0 rfl ?_
    refine k9_gX1_2 X in_X1_fillSounding_X1 fl_X1_fillSounding_22 dX1_fillSounding_25 ?_
    refine k9_iload_n X dX1_fillSounding_28 rfl 2 rfl ?_
    refine k9_iald (v := (M 62 x2.toNatClampNeg)) X (by decide) (o1 c1) (by rfl) dX1_fillSounding_29 ?_
    refine k9_aload_n X dX1_fillSounding_30 rfl 0 rfl ?_
    refine k9_gX1_1 X in_X1_fillSounding_X1 fl_X1_fillSounding_18 dX1_fillSounding_31 ?_
    refine k9_gX0_1 (q := 59) (q1 := 61) X (by decide) (by rfl) in_X1_fillSounding_X0 fl_X1_fillSounding_54 dX1_fillSounding_34 ?_
    refine k9_iload_n X dX1_fillSounding_37 rfl 2 rfl ?_
    refine k9_iald (v := (M 61 x2.toNatClampNeg)) X (by decide) (o1 c1) (by rfl) dX1_fillSounding_38 ?_
    refine k9_iconst (v := -1) X dX1_fillSounding_39 (by decide) ?_
    refine k9_ixor X dX1_fillSounding_40 ?_
    refine k9_iand X dX1_fillSounding_41 ?_
    refine k9_iconst (v := 1) X dX1_fillSounding_42 (by decide) ?_
    refine k9_iand X dX1_fillSounding_43 ?_
    refine k9_istore_n (lv' := [(0, .ref (k9_ga G 57)), (1, .int x1), (2, .int x2), (3, .int (((M 62 x2.toNatClampNeg) &&& ((M 61 x2.toNatClampNeg) ^^^ (-1 : Int32))) &&& (1 : Int32)))]) X dX1_fillSounding_44 rfl (by decide) [1, 2, 3, 0] rfl ?_
    refine k9_iload_n X dX1_fillSounding_45 rfl 3 rfl ?_
    refine k9_if_eq (tgt := 63) X dX1_fillSounding_46 (by decide) (fun c2 => ?_) (fun c2 => ?_)
    · refine k9_iconst (v := 0) X dX1_fillSounding_63 (by decide) ?_
      refine k9_istore_n (lv' := [(0, .ref (k9_ga G 57)), (1, .int (0 : Int32)), (2, .int x2), (3, .int (((M 62 x2.toNatClampNeg) &&& ((M 61 x2.toNatClampNeg) ^^^ (-1 : Int32))) &&& (1 : Int32)))]) X dX1_fillSounding_64 rfl (by decide) [1, 0, 2, 3] rfl ?_
      refine k9_iinc (v := x2 + (1 : Int32)) (lv' := [(0, .ref (k9_ga G 57)), (1, .int (0 : Int32)), (2, .int (x2 + (1 : Int32))), (3, .int (((M 62 x2.toNatClampNeg) &&& ((M 61 x2.toNatClampNeg) ^^^ (-1 : Int32))) &&& (1 : Int32)))]) X dX1_fillSounding_65 (k := 2) rfl (by rfl) (by decide) [1, 2, 0, 3] rfl ?_
      refine k9_goto (tgt := 4) X dX1_fillSounding_68 (by decide) ?_
      refine k9_sub (lv' := [(0, .ref (k9_ga G 57)), (1, .int (0 : Int32)), (2, .int (x2 + (1 : Int32)))]) [0, 1, 2] rfl ?_
      exact (l2 c1 c2)
    · refine k9_iload_n X dX1_fillSounding_49 rfl 1 rfl ?_
      refine k9_aload_n X dX1_fillSounding_50 rfl 0 rfl ?_
      refine k9_gX1_1 X in_X1_fillSounding_X1 fl_X1_fillSounding_18 dX1_fillSounding_51 ?_
      refine k9_gX0_1 (q := 59) (q1 := 61) X (by decide) (by rfl) in_X1_fillSounding_X0 fl_X1_fillSounding_54 dX1_fillSounding_54 ?_
      refine k9_iload_n X dX1_fillSounding_57 rfl 2 rfl ?_
      refine k9_iald (v := (M 61 x2.toNatClampNeg)) X (by decide) (o1 c1) (by rfl) dX1_fillSounding_58 ?_
      refine k9_ior X dX1_fillSounding_59 ?_
      refine k9_goto (tgt := 64) X dX1_fillSounding_60 (by decide) ?_
      refine k9_istore_n (lv' := [(0, .ref (k9_ga G 57)), (1, .int (x1 ||| (M 61 x2.toNatClampNeg))), (2, .int x2), (3, .int (((M 62 x2.toNatClampNeg) &&& ((M 61 x2.toNatClampNeg) ^^^ (-1 : Int32))) &&& (1 : Int32)))]) X dX1_fillSounding_64 rfl (by decide) [1, 0, 2, 3] rfl ?_
      refine k9_iinc (v := x2 + (1 : Int32)) (lv' := [(0, .ref (k9_ga G 57)), (1, .int (x1 ||| (M 61 x2.toNatClampNeg))), (2, .int (x2 + (1 : Int32))), (3, .int (((M 62 x2.toNatClampNeg) &&& ((M 61 x2.toNatClampNeg) ^^^ (-1 : Int32))) &&& (1 : Int32)))]) X dX1_fillSounding_65 (k := 2) rfl (by rfl) (by decide) [1, 2, 0, 3] rfl ?_
      refine k9_goto (tgt := 4) X dX1_fillSounding_68 (by decide) ?_
      refine k9_sub (lv' := [(0, .ref (k9_ga G 57)), (1, .int (x1 ||| (M 61 x2.toNatClampNeg))), (2, .int (x2 + (1 : Int32)))]) [0, 1, 2] rfl ?_
      exact (l3 c1 c2)

theorem in_X1_lastSoundAfter_X1 : ∀ w ∈ u_ws RX1 TX1 4, w ∈ wsX1_lastSoundAfter := by decide +kernel
theorem fl_X1_lastSoundAfter_25 : Cond.fieldLink RX1 25 (TX1 3).1 (TX1 3).2.1 (TX1 3).2.2.1 ∈ wsX1_lastSoundAfter := by decide +kernel
theorem fl_X1_lastSoundAfter_18 : Cond.fieldLink RX1 18 (TX1 1).1 (TX1 1).2.1 (TX1 1).2.2.1 ∈ wsX1_lastSoundAfter := by decide +kernel
set_option maxRecDepth 20000 in
theorem bk_X1_lastSoundAfter_0 (X : k9_X p R s m args c A G 6 cX1_lastSoundAfter wsX1_lastSoundAfter RX1 rm_X1_lastSoundAfter) {a0 a1 : Int32}
    (l1 : k9_U p l e R s m args below meth c Q A G 6 0 0 M 5 [(0, .ref (k9_ga G 57)), (1, .int a0), (3, .int a1), (4, .int (0 : Int32))] []) : k9_U p l e R s m args below meth c Q A G 6 0 0 M 0 [(0, .ref (k9_ga G 57)), (1, .int a0), (2, .int a1)] [] := by
  refine k9_iload_n X dX1_lastSoundAfter_0 rfl 2 rfl ?_
  refine k9_istore_n (lv' := [(0, .ref (k9_ga G 57)), (1, .int a0), (2, .int a1), (3, .int a1)]) X dX1_lastSoundAfter_1 rfl (by decide) [1, 2, 3, 0] rfl ?_
  refine k9_iconst (v := 0) X dX1_lastSoundAfter_2 (by decide) ?_
  refine k9_istore (lv' := [(0, .ref (k9_ga G 57)), (1, .int a0), (2, .int a1), (3, .int a1), (4, .int (0 : Int32))]) X dX1_lastSoundAfter_3 (by decide) [1, 2, 3, 4, 0] rfl ?_
  refine k9_sub (lv' := [(0, .ref (k9_ga G 57)), (1, .int a0), (3, .int a1), (4, .int (0 : Int32))]) [0, 1, 3, 4] rfl ?_
  exact l1

set_option maxRecDepth 20000 in
theorem bk_X1_lastSoundAfter_5 (X : k9_X p R s m args c A G 6 cX1_lastSoundAfter wsX1_lastSoundAfter RX1 rm_X1_lastSoundAfter) {x1 x3 x4 : Int32} {rv1 : Int32}
    (l1 : ((96 : Int32) ≤ x4) → k9_U p l e R s m args below meth c Q A G 6 0 0 M 69 [] [.int x3])
    (o1 : (¬ ((96 : Int32) ≤ x4)) → vp_in x4 96)
    (l2 : (¬ ((96 : Int32) ≤ x4)) → ((((M 63 x4.toNatClampNeg) >>> (x1 &&& 31)) &&& (1 : Int32)) = 0) → (¬ x4 = (x3 + (1 : Int32))) → k9_U p l e R s m args below meth c Q A G 6 0 0 M 5 [(0, .ref (k9_ga G 57)), (1, .int x1), (3, .int x3), (4, .int (x4 + (1 : Int32)))] [])
    (l3 : (¬ ((96 : Int32) ≤ x4)) → ((((M 63 x4.toNatClampNeg) >>> (x1 &&& 31)) &&& (1 : Int32)) = 0) → (x4 = (x3 + (1 : Int32))) → k9_U p l e R s m args below meth c Q A G 6 0 0 M 5 [(0, .ref (k9_ga G 57)), (1, .int x1), (3, .int x3), (4, .int (x4 + (1 : Int32)))] [])
    (k1 : (¬ ((96 : Int32) ≤ x4)) → (¬ ((((M 63 x4.toNatClampNeg) >>> (x1 &&& 31)) &&& (1 : Int32)) = 0)) → k9_Ci l yX0_beginsAt wsX0_beginsAt rm_X0_beginsAt G M [.ref (k9_ga G 59), .int x1, .int x4] rv1 M)
    (l4 : (¬ ((96 : Int32) ≤ x4)) → (¬ ((((M 63 x4.toNatClampNeg) >>> (x1 &&& 31)) &&& (1 : Int32)) = 0)) → (¬ rv1 = 0) → (¬ x4 = (x3 + (1 : Int32))) → k9_U p l e R s m args below meth c Q A G 6 0 0 M 5 [(0, .ref (k9_ga G 57)), (1, .int x1), (3, .int x3), (4, .int (x4 + (1 : Int32)))] [])
    (l5 : (¬ ((96 : Int32) ≤ x4)) → (¬ ((((M 63 x4.toNatClampNeg) >>> (x1 &&& 31)) &&& (1 : Int32)) = 0)) → (¬ rv1 = 0) → (x4 = (x3 + (1 : Int32))) → k9_U p l e R s m args below meth c Q A G 6 0 0 M 5 [(0, .ref (k9_ga G 57)), (1, .int x1), (3, .int x3), (4, .int (x4 + (1 : Int32)))] [])
    (l6 : (¬ ((96 : Int32) ≤ x4)) → (¬ ((((M 63 x4.toNatClampNeg) >>> (x1 &&& 31)) &&& (1 : Int32)) = 0)) → (rv1 = 0) → (¬ x4 = (x3 + (1 : Int32))) → k9_U p l e R s m args below meth c Q A G 6 0 0 M 5 [(0, .ref (k9_ga G 57)), (1, .int x1), (3, .int x3), (4, .int (x4 + (1 : Int32)))] [])
    (l7 : (¬ ((96 : Int32) ≤ x4)) → (¬ ((((M 63 x4.toNatClampNeg) >>> (x1 &&& 31)) &&& (1 : Int32)) = 0)) → (rv1 = 0) → (x4 = (x3 + (1 : Int32))) → k9_U p l e R s m args below meth c Q A G 6 0 0 M 5 [(0, .ref (k9_ga G 57)), (1, .int x1), (3, .int x4), (4, .int (x4 + (1 : Int32)))] []) : k9_U p l e R s m args below meth c Q A G 6 0 0 M 5 [(0, .ref (k9_ga G 57)), (1, .int x1), (3, .int x3), (4, .int x4)] [] := by
  refine k9_iload X dX1_lastSoundAfter_5 3 rfl ?_
  refine k9_bipush (v := 96) X dX1_lastSoundAfter_7 (by decide) ?_
  refine k9_icmp_ge (tgt := 68) X dX1_lastSoundAfter_9 (by decide) (fun c1 => ?_) (fun c1 => ?_)
  · refine k9_iload_n X dX1_lastSoundAfter_68 rfl 2 rfl ?_
    refine k9_sub (lv' := []) [] rfl ?_
    exact (l1 c1)
  · refine k9_aload_n X dX1_lastSoundAfter_12 rfl 0 rfl ?_
    refine k9_gX1_3 X in_X1_lastSoundAfter_X1 fl_X1_lastSoundAfter_25 dX1_lastSoundAfter_13 ?_
    refine k9_iload X dX1_lastSoundAfter_16 3 rfl ?_
    refine k9_iald X (by decide) (o1 c1) (by rfl) dX1_lastSoundAfter_18 ?_
    refine k9_iload_n X dX1_lastSoundAfter_19 rfl 1 rfl ?_
    refine k9_ishr X dX1_lastSoundAfter_20 ?_
    refine k9_iconst (v := 1) X dX1_lastSoundAfter_21 (by decide) ?_
    refine k9_iand X dX1_lastSoundAfter_22 ?_
    refine k9_if_eq (tgt := 43) X dX1_lastSoundAfter_23 (by decide) (fun c2 => ?_) (fun c2 => ?_)
    · refine k9_iconst (v := 0) X dX1_lastSoundAfter_43 (by decide) ?_
      refine k9_istore (lv' := [(0, .ref (k9_ga G 57)), (1, .int x1), (3, .int x3), (4, .int x4), (5, .int (0 : Int32))]) X dX1_lastSoundAfter_44 (by decide) [1, 2, 3, 4, 0] rfl ?_
      refine k9_iload X dX1_lastSoundAfter_46 3 rfl ?_
      refine k9_iload_n X dX1_lastSoundAfter_48 rfl 2 rfl ?_
      refine k9_iconst (v := 1) X dX1_lastSoundAfter_49 (by decide) ?_
      refine k9_iadd X dX1_lastSoundAfter_50 ?_
      refine k9_icmp_ne (tgt := 62) X dX1_lastSoundAfter_51 (by decide) (fun c3 => ?_) (fun c3 => ?_)
      · refine k9_iinc (v := x4 + (1 : Int32)) (lv' := [(0, .ref (k9_ga G 57)), (1, .int x1), (3, .int x3), (4, .int (x4 + (1 : Int32))), (5, .int (0 : Int32))]) X dX1_lastSoundAfter_62 (k := 3) rfl (by rfl) (by decide) [1, 2, 3, 0, 4] rfl ?_
        refine k9_goto (tgt := 5) X dX1_lastSoundAfter_65 (by decide) ?_
        refine k9_sub (lv' := [(0, .ref (k9_ga G 57)), (1, .int x1), (3, .int x3), (4, .int (x4 + (1 : Int32)))]) [0, 1, 2, 3] rfl ?_
        exact (l2 c1 c2 c3)
      · refine k9_iload X dX1_lastSoundAfter_54 4 rfl ?_
        refine k9_if_eq (tgt := 62) X dX1_lastSoundAfter_56 (by decide) (fun _ => ?_) (fun c => absurd c (by decide))
        refine k9_iinc (v := x4 + (1 : Int32)) (lv' := [(0, .ref (k9_ga G 57)), (1, .int x1), (3, .int x3), (4, .int (x4 + (1 : Int32))), (5, .int (0 : Int32))]) X dX1_lastSoundAfter_62 (k := 3) rfl (by rfl) (by decide) [1, 2, 3, 0, 4] rfl ?_
        refine k9_goto (tgt := 5) X dX1_lastSoundAfter_65 (by decide) ?_
        refine k9_sub (lv' := [(0, .ref (k9_ga G 57)), (1, .int x1), (3, .int x3), (4, .int (x4 + (1 : Int32)))]) [0, 1, 2, 3] rfl ?_
        exact (l3 c1 c2 c3)
    · refine k9_aload_n X dX1_lastSoundAfter_26 rfl 0 rfl ?_
      refine k9_gX1_1 X in_X1_lastSoundAfter_X1 fl_X1_lastSoundAfter_18 dX1_lastSoundAfter_27 ?_
      refine k9_iload_n X dX1_lastSoundAfter_30 rfl 1 rfl ?_
      refine k9_iload X dX1_lastSoundAfter_31 3 rfl ?_
      refine k9_callVi2 X (k1 c1 c2) (k9_ob_C (by decide)) (cwV 2 X.2.2.2.2.1 gX1_lastSoundAfter_X0_beginsAt rfl rfl rfl (by decide +kernel) ⟨Nat.le_of_ble_eq_true rfl, Nat.le_of_ble_eq_true rfl⟩) (Nat.le_of_ble_eq_true rfl) dX1_lastSoundAfter_33 ⟨Nat.zero_le _, Nat.zero_le _⟩ ?_
      refine k9_if_ne (tgt := 43) X dX1_lastSoundAfter_36 (by decide) (fun c4 => ?_) (fun c4 => ?_)
      · refine k9_iconst (v := 0) X dX1_lastSoundAfter_43 (by decide) ?_
        refine k9_istore (lv' := [(0, .ref (k9_ga G 57)), (1, .int x1), (3, .int x3), (4, .int x4), (5, .int (0 : Int32))]) X dX1_lastSoundAfter_44 (by decide) [1, 2, 3, 4, 0] rfl ?_
        refine k9_iload X dX1_lastSoundAfter_46 3 rfl ?_
        refine k9_iload_n X dX1_lastSoundAfter_48 rfl 2 rfl ?_
        refine k9_iconst (v := 1) X dX1_lastSoundAfter_49 (by decide) ?_
        refine k9_iadd X dX1_lastSoundAfter_50 ?_
        refine k9_icmp_ne (tgt := 62) X dX1_lastSoundAfter_51 (by decide) (fun c5 => ?_) (fun c5 => ?_)
        · refine k9_iinc (v := x4 + (1 : Int32)) (lv' := [(0, .ref (k9_ga G 57)), (1, .int x1), (3, .int x3), (4, .int (x4 + (1 : Int32))), (5, .int (0 : Int32))]) X dX1_lastSoundAfter_62 (k := 3) rfl (by rfl) (by decide) [1, 2, 3, 0, 4] rfl ?_
          refine k9_goto (tgt := 5) X dX1_lastSoundAfter_65 (by decide) ?_
          refine k9_sub (lv' := [(0, .ref (k9_ga G 57)), (1, .int x1), (3, .int x3), (4, .int (x4 + (1 : Int32)))]) [0, 1, 2, 3] rfl ?_
          exact (l4 c1 c2 c4 c5)
        · refine k9_iload X dX1_lastSoundAfter_54 4 rfl ?_
          refine k9_if_eq (tgt := 62) X dX1_lastSoundAfter_56 (by decide) (fun _ => ?_) (fun c => absurd c (by decide))
          refine k9_iinc (v := x4 + (1 : Int32)) (lv' := [(0, .ref (k9_ga G 57)), (1, .int x1), (3, .int x3), (4, .int (x4 + (1 : Int32))), (5, .int (0 : Int32))]) X dX1_lastSoundAfter_62 (k := 3) rfl (by rfl) (by decide) [1, 2, 3, 0, 4] rfl ?_
          refine k9_goto (tgt := 5) X dX1_lastSoundAfter_65 (by decide) ?_
          refine k9_sub (lv' := [(0, .ref (k9_ga G 57)), (1, .int x1), (3, .int x3), (4, .int (x4 + (1 : Int32)))]) [0, 1, 2, 3] rfl ?_
          exact (l5 c1 c2 c4 c5)
      · refine k9_iconst (v := 1) X dX1_lastSoundAfter_39 (by decide) ?_
        refine k9_goto (tgt := 44) X dX1_lastSoundAfter_40 (by decide) ?_
        refine k9_istore (lv' := [(0, .ref (k9_ga G 57)), (1, .int x1), (3, .int x3), (4, .int x4), (5, .int (1 : Int32))]) X dX1_lastSoundAfter_44 (by decide) [1, 2, 3, 4, 0] rfl ?_
        refine k9_iload X dX1_lastSoundAfter_46 3 rfl ?_
        refine k9_iload_n X dX1_lastSoundAfter_48 rfl 2 rfl ?_
        refine k9_iconst (v := 1) X dX1_lastSoundAfter_49 (by decide) ?_
        refine k9_iadd X dX1_lastSoundAfter_50 ?_
        refine k9_icmp_ne (tgt := 62) X dX1_lastSoundAfter_51 (by decide) (fun c6 => ?_) (fun c6 => ?_)
        · refine k9_iinc (v := x4 + (1 : Int32)) (lv' := [(0, .ref (k9_ga G 57)), (1, .int x1), (3, .int x3), (4, .int (x4 + (1 : Int32))), (5, .int (1 : Int32))]) X dX1_lastSoundAfter_62 (k := 3) rfl (by rfl) (by decide) [1, 2, 3, 0, 4] rfl ?_
          refine k9_goto (tgt := 5) X dX1_lastSoundAfter_65 (by decide) ?_
          refine k9_sub (lv' := [(0, .ref (k9_ga G 57)), (1, .int x1), (3, .int x3), (4, .int (x4 + (1 : Int32)))]) [0, 1, 2, 3] rfl ?_
          exact (l6 c1 c2 c4 c6)
        · refine k9_iload X dX1_lastSoundAfter_54 4 rfl ?_
          refine k9_if_eq (tgt := 62) X dX1_lastSoundAfter_56 (by decide) (fun c => absurd c (by decide)) (fun _ => ?_)
          refine k9_iload X dX1_lastSoundAfter_59 3 rfl ?_
          refine k9_istore_n (lv' := [(0, .ref (k9_ga G 57)), (1, .int x1), (3, .int x4), (4, .int x4), (5, .int (1 : Int32))]) X dX1_lastSoundAfter_61 rfl (by decide) [1, 2, 0, 3, 4] rfl ?_
          refine k9_iinc (v := x4 + (1 : Int32)) (lv' := [(0, .ref (k9_ga G 57)), (1, .int x1), (3, .int x4), (4, .int (x4 + (1 : Int32))), (5, .int (1 : Int32))]) X dX1_lastSoundAfter_62 (k := 3) rfl (by rfl) (by decide) [1, 2, 3, 0, 4] rfl ?_
          refine k9_goto (tgt := 5) X dX1_lastSoundAfter_65 (by decide) ?_
          refine k9_sub (lv' := [(0, .ref (k9_ga G 57)), (1, .int x1), (3, .int x4), (4, .int (x4 + (1 : Int32)))]) [0, 1, 2, 3] rfl ?_
          exact (l7 c1 c2 c4 c6)

theorem in_X1_holesRead_X1 : ∀ w ∈ u_ws RX1 TX1 4, w ∈ wsX1_holesRead := by decide +kernel
theorem fl_X1_holesRead_9 : Cond.fieldLink RX1 9 (TX1 0).1 (TX1 0).2.1 (TX1 0).2.2.1 ∈ wsX1_holesRead := by decide +kernel
set_option maxRecDepth 20000 in
theorem bk_X1_holesRead_0 (X : k9_X p R s m args c A G 6 cX1_holesRead wsX1_holesRead RX1 rm_X1_holesRead) {a0 a1 a2 : Int32}
    (l1 : k9_U p l e R s m args below meth c Q A G 6 0 0 M 6 [(0, .ref (k9_ga G 57)), (1, .int a0), (2, .int a1), (3, .int a2), (4, .int (0 : Int32)), (5, .int (0 : Int32))] []) : k9_U p l e R s m args below meth c Q A G 6 0 0 M 0 [(0, .ref (k9_ga G 57)), (1, .int a0), (2, .int a1), (3, .int a2)] [] := by
  refine k9_iconst (v := 0) X dX1_holesRead_0 (by decide) ?_
  refine k9_istore (lv' := [(0, .ref (k9_ga G 57)), (1, .int a0), (2, .int a1), (3, .int a2), (4, .int (0 : Int32))]) X dX1_holesRead_1 (by decide) [1, 2, 3, 4, 0] rfl ?_
  refine k9_iconst (v := 0) X dX1_holesRead_3 (by decide) ?_
  refine k9_istore (lv' := [(0, .ref (k9_ga G 57)), (1, .int a0), (2, .int a1), (3, .int a2), (4, .int (0 : Int32)), (5, .int (0 : Int32))]) X dX1_holesRead_4 (by decide) [1, 2, 3, 4, 5, 0] rfl ?_
  exact l1

set_option maxRecDepth 20000 in
theorem bk_X1_holesRead_6 (X : k9_X p R s m args c A G 6 cX1_holesRead wsX1_holesRead RX1 rm_X1_holesRead) {x1 x2 x3 x4 x5 : Int32}
    (l1 : ((96 : Int32) ≤ x5) → k9_U p l e R s m args below meth c Q A G 6 0 0 M 49 [] [.int x4])
    (l2 : (¬ ((96 : Int32) ≤ x5)) → (x5 < x2) → k9_U p l e R s m args below meth c Q A G 6 0 0 M 6 [(0, .ref (k9_ga G 57)), (1, .int x1), (2, .int x2), (3, .int x3), (4, .int x4), (5, .int (x5 + (1 : Int32)))] [])
    (l3 : (¬ ((96 : Int32) ≤ x5)) → (¬ (x5 < x2)) → (x3 < x5) → k9_U p l e R s m args below meth c Q A G 6 0 0 M 6 [(0, .ref (k9_ga G 57)), (1, .int x1), (2, .int x2), (3, .int x3), (4, .int x4), (5, .int (x5 + (1 : Int32)))] [])
    (o1 : (¬ ((96 : Int32) ≤ x5)) → (¬ (x5 < x2)) → (¬ (x3 < x5)) → vp_in x5 96)
    (l4 : (¬ ((96 : Int32) ≤ x5)) → (¬ (x5 < x2)) → (¬ (x3 < x5)) → k9_U p l e R s m args below meth c Q A G 6 0 0 M 6 [(0, .ref (k9_ga G 57)), (1, .int x1), (2, .int x2), (3, .int x3), (4, .int (x4 + (((M 58 x5.toNatClampNeg) >>> (x1 &&& 31)) &&& (1 : Int32)))), (5, .int (x5 + (1 : Int32)))] []) : k9_U p l e R s m args below meth c Q A G 6 0 0 M 6 [(0, .ref (k9_ga G 57)), (1, .int x1), (2, .int x2), (3, .int x3), (4, .int x4), (5, .int x5)] [] := by
  refine k9_iload X dX1_holesRead_6 5 rfl ?_
  refine k9_bipush (v := 96) X dX1_holesRead_8 (by decide) ?_
  refine k9_icmp_ge (tgt := 47) X dX1_holesRead_10 (by decide) (fun c1 => ?_) (fun c1 => ?_)
  · refine k9_iload X dX1_holesRead_47 4 rfl ?_
    refine k9_sub (lv' := []) [] rfl ?_
    exact (l1 c1)
  · refine k9_iload X dX1_holesRead_13 5 rfl ?_
    refine k9_iload_n X dX1_holesRead_15 rfl 2 rfl ?_
    refine k9_icmp_lt (tgt := 41) X dX1_holesRead_16 (by decide) (fun c2 => ?_) (fun c2 => ?_)
    · refine k9_iinc (v := x5 + (1 : Int32)) (lv' := [(0, .ref (k9_ga G 57)), (1, .int x1), (2, .int x2), (3, .int x3), (4, .int x4), (5, .int (x5 + (1 : Int32)))]) X dX1_holesRead_41 (k := 5) rfl (by rfl) (by decide) [1, 2, 3, 4, 5, 0] rfl ?_
      refine k9_goto (tgt := 6) X dX1_holesRead_44 (by decide) ?_
      exact (l2 c1 c2)
    · refine k9_iload X dX1_holesRead_19 5 rfl ?_
      refine k9_iload_n X dX1_holesRead_21 rfl 3 rfl ?_
      refine k9_icmp_gt (tgt := 41) X dX1_holesRead_22 (by decide) (fun c3 => ?_) (fun c3 => ?_)
      · refine k9_iinc (v := x5 + (1 : Int32)) (lv' := [(0, .ref (k9_ga G 57)), (1, .int x1), (2, .int x2), (3, .int x3), (4, .int x4), (5, .int (x5 + (1 : Int32)))]) X dX1_holesRead_41 (k := 5) rfl (by rfl) (by decide) [1, 2, 3, 4, 5, 0] rfl ?_
        refine k9_goto (tgt := 6) X dX1_holesRead_44 (by decide) ?_
        exact (l3 c1 c2 c3)
      · refine k9_iload X dX1_holesRead_25 4 rfl ?_
        refine k9_aload_n X dX1_holesRead_27 rfl 0 rfl ?_
        refine k9_gX1_0 X in_X1_holesRead_X1 fl_X1_holesRead_9 dX1_holesRead_28 ?_
        refine k9_iload X dX1_holesRead_31 5 rfl ?_
        refine k9_iald X (by decide) (o1 c1 c2 c3) (by rfl) dX1_holesRead_33 ?_
        refine k9_iload_n X dX1_holesRead_34 rfl 1 rfl ?_
        refine k9_ishr X dX1_holesRead_35 ?_
        refine k9_iconst (v := 1) X dX1_holesRead_36 (by decide) ?_
        refine k9_iand X dX1_holesRead_37 ?_
        refine k9_iadd X dX1_holesRead_38 ?_
        refine k9_istore (lv' := [(0, .ref (k9_ga G 57)), (1, .int x1), (2, .int x2), (3, .int x3), (4, .int (x4 + (((M 58 x5.toNatClampNeg) >>> (x1 &&& 31)) &&& (1 : Int32)))), (5, .int x5)]) X dX1_holesRead_39 (by decide) [1, 2, 3, 4, 0, 5] rfl ?_
        refine k9_iinc (v := x5 + (1 : Int32)) (lv' := [(0, .ref (k9_ga G 57)), (1, .int x1), (2, .int x2), (3, .int x3), (4, .int (x4 + (((M 58 x5.toNatClampNeg) >>> (x1 &&& 31)) &&& (1 : Int32)))), (5, .int (x5 + (1 : Int32)))]) X dX1_holesRead_41 (k := 5) rfl (by rfl) (by decide) [1, 2, 3, 4, 5, 0] rfl ?_
        refine k9_goto (tgt := 6) X dX1_holesRead_44 (by decide) ?_
        exact (l4 c1 c2 c3)

theorem in_X1_holesOfWrong_X1 : ∀ w ∈ u_ws RX1 TX1 4, w ∈ wsX1_holesOfWrong := by decide +kernel
theorem fl_X1_holesOfWrong_18 : Cond.fieldLink RX1 18 (TX1 1).1 (TX1 1).2.1 (TX1 1).2.2.1 ∈ wsX1_holesOfWrong := by decide +kernel
theorem in_X1_holesOfWrong_X0 : ∀ w ∈ u_ws RX0 TX0 2, w ∈ wsX1_holesOfWrong := by decide +kernel
theorem fl_X1_holesOfWrong_51 : Cond.fieldLink RX1 51 (TX0 0).1 (TX0 0).2.1 (TX0 0).2.2.1 ∈ wsX1_holesOfWrong := by decide +kernel
set_option maxRecDepth 20000 in
theorem bk_X1_holesOfWrong_0 (X : k9_X p R s m args c A G 6 cX1_holesOfWrong wsX1_holesOfWrong RX1 rm_X1_holesOfWrong) 
    (l1 : k9_U p l e R s m args below meth c Q A G 6 0 0 M 4 [(0, .ref (k9_ga G 57)), (1, .ref (k9_ga G 6)), (2, .int (0 : Int32)), (3, .int (0 : Int32))] []) : k9_U p l e R s m args below meth c Q A G 6 0 0 M 0 [(0, .ref (k9_ga G 57)), (1, .ref (k9_ga G 6))] [] := by
  refine k9_iconst (v := 0) X dX1_holesOfWrong_0 (by decide) ?_
  refine k9_istore_n (lv' := [(0, .ref (k9_ga G 57)), (1, .ref (k9_ga G 6)), (2, .int (0 : Int32))]) X dX1_holesOfWrong_1 rfl (by decide) [1, 2, 0] rfl ?_
  refine k9_iconst (v := 0) X dX1_holesOfWrong_2 (by decide) ?_
  refine k9_istore_n (lv' := [(0, .ref (k9_ga G 57)), (1, .ref (k9_ga G 6)), (2, .int (0 : Int32)), (3, .int (0 : Int32))]) X dX1_holesOfWrong_3 rfl (by decide) [1, 2, 3, 0] rfl ?_
  exact l1

set_option maxRecDepth 20000 in
theorem bk_X1_holesOfWrong_4 (X : k9_X p R s m args c A G 6 cX1_holesOfWrong wsX1_holesOfWrong RX1 rm_X1_holesOfWrong) {x2 x3 : Int32}
    (l1 : ((96 : Int32) ≤ x3) → k9_U p l e R s m args below meth c Q A G 6 0 0 M 98 [] [.int x2])
    (l2 : (¬ ((96 : Int32) ≤ x3)) → k9_U p l e R s m args below meth c Q A G 6 0 0 M 13 [(0, .ref (k9_ga G 57)), (1, .ref (k9_ga G 6)), (2, .int x2), (3, .int x3), (4, .int (1 : Int32))] []) : k9_U p l e R s m args below meth c Q A G 6 0 0 M 4 [(0, .ref (k9_ga G 57)), (1, .ref (k9_ga G 6)), (2, .int x2), (3, .int x3)] [] := by
  refine k9_iload_n X dX1_holesOfWrong_4 rfl 3 rfl ?_
  refine k9_bipush (v := 96) X dX1_holesOfWrong_5 (by decide) ?_
  refine k9_icmp_ge (tgt := 97) X dX1_holesOfWrong_7 (by decide) (fun c1 => ?_) (fun c1 => ?_)
  · refine k9_iload_n X dX1_holesOfWrong_97 rfl 2 rfl ?_
    refine k9_sub (lv' := []) [] rfl ?_
    exact (l1 c1)
  · refine k9_iconst (v := 1) X dX1_holesOfWrong_10 (by decide) ?_
    refine k9_istore (lv' := [(0, .ref (k9_ga G 57)), (1, .ref (k9_ga G 6)), (2, .int x2), (3, .int x3), (4, .int (1 : Int32))]) X dX1_holesOfWrong_11 (by decide) [1, 2, 3, 4, 0] rfl ?_
    exact (l2 c1)

set_option maxRecDepth 20000 in
theorem bk_X1_holesOfWrong_13 (X : k9_X p R s m args c A G 6 cX1_holesOfWrong wsX1_holesOfWrong RX1 rm_X1_holesOfWrong) {x2 x3 x4 : Int32} {rv1 : Int32} {rv2 : Int32} {rv3 : Int32} {rv4 : Int32}
    (l1 : ((21 : Int32) ≤ x4) → k9_U p l e R s m args below meth c Q A G 6 0 0 M 4 [(0, .ref (k9_ga G 57)), (1, .ref (k9_ga G 6)), (2, .int x2), (3, .int (x3 + (1 : Int32)))] [])
    (o1 : (¬ ((21 : Int32) ≤ x4)) → vp_in x3 96)
    (l2 : (¬ ((21 : Int32) ≤ x4)) → ((M 60 x3.toNatClampNeg) = 0) → k9_U p l e R s m args below meth c Q A G 6 0 0 M 4 [(0, .ref (k9_ga G 57)), (1, .ref (k9_ga G 6)), (2, .int x2), (3, .int (x3 + (1 : Int32)))] [])
    (k1 : (¬ ((21 : Int32) ≤ x4)) → (¬ ((M 60 x3.toNatClampNeg) = 0)) → k9_Ci l yX0_beginsAt wsX0_beginsAt rm_X0_beginsAt G M [.ref (k9_ga G 59), .int x4, .int x3] rv1 M)
    (l3 : (¬ ((21 : Int32) ≤ x4)) → (¬ ((M 60 x3.toNatClampNeg) = 0)) → (rv1 = 0) → k9_U p l e R s m args below meth c Q A G 6 0 0 M 13 [(0, .ref (k9_ga G 57)), (1, .ref (k9_ga G 6)), (2, .int x2), (3, .int x3), (4, .int (x4 + (1 : Int32)))] [])
    (k2 : (¬ ((21 : Int32) ≤ x4)) → (¬ ((M 60 x3.toNatClampNeg) = 0)) → (¬ (rv1 = 0)) → k9_Ci l yX0_lastStepFrom wsX0_lastStepFrom rm_X0_lastStepFrom G M [.ref (k9_ga G 59), .int x4, .int x3] rv2 M)
    (k3 : (¬ ((21 : Int32) ≤ x4)) → (¬ ((M 60 x3.toNatClampNeg) = 0)) → (¬ (rv1 = 0)) → k9_Ci l yX0_hasChain wsX0_hasChain rm_X0_hasChain G M [.ref (k9_ga G 6), .int x4, .int x3, .int rv2] rv3 M)
    (k4 : (¬ ((21 : Int32) ≤ x4)) → (¬ ((M 60 x3.toNatClampNeg) = 0)) → (¬ (rv1 = 0)) → (rv3 = 0) → k9_Ci l yX1_holesRead wsX1_holesRead rm_X1_holesRead G M [.ref (k9_ga G 57), .int x4, .int x3, .int rv2] rv4 M)
    (l4 : (¬ ((21 : Int32) ≤ x4)) → (¬ ((M 60 x3.toNatClampNeg) = 0)) → (¬ (rv1 = 0)) → (rv3 = 0) → k9_U p l e R s m args below meth c Q A G 6 0 0 M 13 [(0, .ref (k9_ga G 57)), (1, .ref (k9_ga G 6)), (2, .int (x2 + rv4)), (3, .int x3), (4, .int (x4 + (1 : Int32)))] [])
    (l5 : (¬ ((21 : Int32) ≤ x4)) → (¬ ((M 60 x3.toNatClampNeg) = 0)) → (¬ (rv1 = 0)) → (¬ (rv3 = 0)) → k9_U p l e R s m args below meth c Q A G 6 0 0 M 13 [(0, .ref (k9_ga G 57)), (1, .ref (k9_ga G 6)), (2, .int (x2 + (0 : Int32))), (3, .int x3), (4, .int (x4 + (1 : Int32)))] []) : k9_U p l e R s m args below meth c Q A G 6 0 0 M 13 [(0, .ref (k9_ga G 57)), (1, .ref (k9_ga G 6)), (2, .int x2), (3, .int x3), (4, .int x4)] [] := by
  refine k9_iload X dX1_holesOfWrong_13 4 rfl ?_
  refine k9_bipush (v := 21) X dX1_holesOfWrong_15 (by decide) ?_
  refine k9_icmp_ge (tgt := 91) X dX1_holesOfWrong_17 (by decide) (fun c1 => ?_) (fun c1 => ?_)
  · refine k9_iinc (v := x3 + (1 : Int32)) (lv' := [(0, .ref (k9_ga G 57)), (1, .ref (k9_ga G 6)), (2, .int x2), (3, .int (x3 + (1 : Int32))), (4, .int x4)]) X dX1_holesOfWrong_91 (k := 3) rfl (by rfl) (by decide) [1, 2, 3, 0, 4] rfl ?_
    refine k9_goto (tgt := 4) X dX1_holesOfWrong_94 (by decide) ?_
    refine k9_sub (lv' := [(0, .ref (k9_ga G 57)), (1, .ref (k9_ga G 6)), (2, .int x2), (3, .int (x3 + (1 : Int32)))]) [0, 1, 2, 3] rfl ?_
    exact (l1 c1)
  · refine k9_aload_n X dX1_holesOfWrong_20 rfl 0 rfl ?_
    refine k9_gX1_1 X in_X1_holesOfWrong_X1 fl_X1_holesOfWrong_18 dX1_holesOfWrong_21 ?_
    refine k9_gX0_0 (q := 59) (q1 := 60) X (by decide) (by rfl) in_X1_holesOfWrong_X0 fl_X1_holesOfWrong_51 dX1_holesOfWrong_24 ?_
    refine k9_iload_n X dX1_holesOfWrong_27 rfl 3 rfl ?_
    refine k9_iald X (by decide) (o1 c1) (by rfl) dX1_holesOfWrong_28 ?_
    refine k9_if_eq (tgt := 91) X dX1_holesOfWrong_29 (by decide) (fun c2 => ?_) (fun c2 => ?_)
    · refine k9_iinc (v := x3 + (1 : Int32)) (lv' := [(0, .ref (k9_ga G 57)), (1, .ref (k9_ga G 6)), (2, .int x2), (3, .int (x3 + (1 : Int32))), (4, .int x4)]) X dX1_holesOfWrong_91 (k := 3) rfl (by rfl) (by decide) [1, 2, 3, 0, 4] rfl ?_
      refine k9_goto (tgt := 4) X dX1_holesOfWrong_94 (by decide) ?_
      refine k9_sub (lv' := [(0, .ref (k9_ga G 57)), (1, .ref (k9_ga G 6)), (2, .int x2), (3, .int (x3 + (1 : Int32)))]) [0, 1, 2, 3] rfl ?_
      exact (l2 c1 c2)
    · refine k9_aload_n X dX1_holesOfWrong_32 rfl 0 rfl ?_
      refine k9_gX1_1 X in_X1_holesOfWrong_X1 fl_X1_holesOfWrong_18 dX1_holesOfWrong_33 ?_
      refine k9_iload X dX1_holesOfWrong_36 4 rfl ?_
      refine k9_iload_n X dX1_holesOfWrong_38 rfl 3 rfl ?_
      refine k9_callVi2 X (k1 c1 c2) (k9_ob_C (by decide)) (cwV 2 X.2.2.2.2.1 gX1_holesOfWrong_X0_beginsAt rfl rfl rfl (by decide +kernel) ⟨Nat.le_of_ble_eq_true rfl, Nat.le_of_ble_eq_true rfl⟩) (Nat.le_of_ble_eq_true rfl) dX1_holesOfWrong_39 ⟨Nat.zero_le _, Nat.zero_le _⟩ ?_
      refine k9_if_eq (tgt := 85) X dX1_holesOfWrong_42 (by decide) (fun c3 => ?_) (fun c3 => ?_)
      · refine k9_iinc (v := x4 + (1 : Int32)) (lv' := [(0, .ref (k9_ga G 57)), (1, .ref (k9_ga G 6)), (2, .int x2), (3, .int x3), (4, .int (x4 + (1 : Int32)))]) X dX1_holesOfWrong_85 (k := 4) rfl (by rfl) (by decide) [1, 2, 3, 4, 0] rfl ?_
        refine k9_goto (tgt := 13) X dX1_holesOfWrong_88 (by decide) ?_
        exact (l3 c1 c2 c3)
      · refine k9_aload_n X dX1_holesOfWrong_45 rfl 0 rfl ?_
        refine k9_gX1_1 X in_X1_holesOfWrong_X1 fl_X1_holesOfWrong_18 dX1_holesOfWrong_46 ?_
        refine k9_iload X dX1_holesOfWrong_49 4 rfl ?_
        refine k9_iload_n X dX1_holesOfWrong_51 rfl 3 rfl ?_
        refine k9_callVi2 X (k2 c1 c2 c3) (k9_ob_C (by decide)) (cwV 2 X.2.2.2.2.1 gX1_holesOfWrong_X0_lastStepFrom rfl rfl rfl (by decide +kernel) ⟨Nat.le_of_ble_eq_true rfl, Nat.le_of_ble_eq_true rfl⟩) (Nat.le_of_ble_eq_true rfl) dX1_holesOfWrong_52 ⟨Nat.zero_le _, Nat.zero_le _⟩ ?_
        refine k9_istore (lv' := [(0, .ref (k9_ga G 57)), (1, .ref (k9_ga G 6)), (2, .int x2), (3, .int x3), (4, .int x4), (5, .int rv2)]) X dX1_holesOfWrong_55 (by decide) [1, 2, 3, 4, 5, 0] rfl ?_
        refine k9_iload_n X dX1_holesOfWrong_57 rfl 2 rfl ?_
        refine k9_aload_n X dX1_holesOfWrong_58 rfl 1 rfl ?_
        refine k9_iload X dX1_holesOfWrong_59 4 rfl ?_
        refine k9_iload_n X dX1_holesOfWrong_61 rfl 3 rfl ?_
        refine k9_iload X dX1_holesOfWrong_62 5 rfl ?_
        refine k9_callVi3 X (k3 c1 c2 c3) (k9_ob_C (by decide)) (cwV 3 X.2.2.2.2.1 gX1_holesOfWrong_X0_hasChain rfl rfl rfl (by decide +kernel) ⟨Nat.le_of_ble_eq_true rfl, Nat.le_of_ble_eq_true rfl⟩) (Nat.le_of_ble_eq_true rfl) dX1_holesOfWrong_64 ⟨Nat.zero_le _, Nat.zero_le _⟩ ?_
        refine k9_if_eq (tgt := 74) X dX1_holesOfWrong_67 (by decide) (fun c4 => ?_) (fun c4 => ?_)
        · refine k9_aload_n X dX1_holesOfWrong_74 rfl 0 rfl ?_
          refine k9_iload X dX1_holesOfWrong_75 4 rfl ?_
          refine k9_iload_n X dX1_holesOfWrong_77 rfl 3 rfl ?_
          refine k9_iload X dX1_holesOfWrong_78 5 rfl ?_
          refine k9_callVi3 X (k4 c1 c2 c3 c4) k9_ob_57 (cwV 3 X.2.2.2.2.1 gX1_holesOfWrong_X1_holesRead rfl rfl rfl (by decide +kernel) ⟨Nat.le_of_ble_eq_true rfl, Nat.le_of_ble_eq_true rfl⟩) (Nat.le_of_ble_eq_true rfl) dX1_holesOfWrong_80 ⟨Nat.zero_le _, Nat.zero_le _⟩ ?_
          refine k9_iadd X dX1_holesOfWrong_83 ?_
          refine k9_istore_n (lv' := [(0, .ref (k9_ga G 57)), (1, .ref (k9_ga G 6)), (2, .int (x2 + rv4)), (3, .int x3), (4, .int x4), (5, .int rv2)]) X dX1_holesOfWrong_84 rfl (by decide) [1, 2, 0, 3, 4, 5] rfl ?_
          refine k9_iinc (v := x4 + (1 : Int32)) (lv' := [(0, .ref (k9_ga G 57)), (1, .ref (k9_ga G 6)), (2, .int (x2 + rv4)), (3, .int x3), (4, .int (x4 + (1 : Int32))), (5, .int rv2)]) X dX1_holesOfWrong_85 (k := 4) rfl (by rfl) (by decide) [1, 2, 3, 4, 0, 5] rfl ?_
          refine k9_goto (tgt := 13) X dX1_holesOfWrong_88 (by decide) ?_
          refine k9_sub (lv' := [(0, .ref (k9_ga G 57)), (1, .ref (k9_ga G 6)), (2, .int (x2 + rv4)), (3, .int x3), (4, .int (x4 + (1 : Int32)))]) [0, 1, 2, 3, 4] rfl ?_
          exact (l4 c1 c2 c3 c4)
        · refine k9_iconst (v := 0) X dX1_holesOfWrong_70 (by decide) ?_
          refine k9_goto (tgt := 83) X dX1_holesOfWrong_71 (by decide) ?_
          refine k9_iadd X dX1_holesOfWrong_83 ?_
          refine k9_istore_n (lv' := [(0, .ref (k9_ga G 57)), (1, .ref (k9_ga G 6)), (2, .int (x2 + (0 : Int32))), (3, .int x3), (4, .int x4), (5, .int rv2)]) X dX1_holesOfWrong_84 rfl (by decide) [1, 2, 0, 3, 4, 5] rfl ?_
          refine k9_iinc (v := x4 + (1 : Int32)) (lv' := [(0, .ref (k9_ga G 57)), (1, .ref (k9_ga G 6)), (2, .int (x2 + (0 : Int32))), (3, .int x3), (4, .int (x4 + (1 : Int32))), (5, .int rv2)]) X dX1_holesOfWrong_85 (k := 4) rfl (by rfl) (by decide) [1, 2, 3, 4, 0, 5] rfl ?_
          refine k9_goto (tgt := 13) X dX1_holesOfWrong_88 (by decide) ?_
          refine k9_sub (lv' := [(0, .ref (k9_ga G 57)), (1, .ref (k9_ga G 6)), (2, .int (x2 + (0 : Int32))), (3, .int x3), (4, .int (x4 + (1 : Int32)))]) [0, 1, 2, 3, 4] rfl ?_
          exact (l5 c1 c2 c3 c4)

theorem in_X1_isPedalWished_X1 : ∀ w ∈ u_ws RX1 TX1 4, w ∈ wsX1_isPedalWished := by decide +kernel
theorem fl_X1_isPedalWished_22 : Cond.fieldLink RX1 22 (TX1 2).1 (TX1 2).2.1 (TX1 2).2.2.1 ∈ wsX1_isPedalWished := by decide +kernel
theorem co_X1_isPedalWished_76 : Cond.constant RX1 76 (2097150) ∈ wsX1_isPedalWished := by decide +kernel
theorem fl_X1_isPedalWished_18 : Cond.fieldLink RX1 18 (TX1 1).1 (TX1 1).2.1 (TX1 1).2.2.1 ∈ wsX1_isPedalWished := by decide +kernel
theorem in_X1_isPedalWished_X0 : ∀ w ∈ u_ws RX0 TX0 2, w ∈ wsX1_isPedalWished := by decide +kernel
theorem fl_X1_isPedalWished_51 : Cond.fieldLink RX1 51 (TX0 0).1 (TX0 0).2.1 (TX0 0).2.2.1 ∈ wsX1_isPedalWished := by decide +kernel
set_option maxRecDepth 20000 in
theorem bk_X1_isPedalWished_0 (X : k9_X p R s m args c A G 6 cX1_isPedalWished wsX1_isPedalWished RX1 rm_X1_isPedalWished) {a0 a1 : Int32} {rv1 : Int32}
    (k1 : k9_Ci l yX6_isStep wsX6_isStep rm_X6_isStep G M [.int a0] rv1 M)
    (l1 : (rv1 = 0) → k9_U p l e R s m args below meth c Q A G 6 0 0 M 20 [] [.int (0 : Int32)])
    (o1 : (¬ (rv1 = 0)) → vp_in a0 96)
    (l2 : (¬ (rv1 = 0)) → (((M 62 a0.toNatClampNeg) &&& (2097150 : Int32)) = 0) → k9_U p l e R s m args below meth c Q A G 6 0 0 M 29 [(0, .ref (k9_ga G 57)), (1, .int a0), (2, .int a1), (3, .int (0 : Int32)), (4, .int (0 : Int32)), (5, .int (1 : Int32))] [])
    (l3 : (¬ (rv1 = 0)) → (¬ (((M 62 a0.toNatClampNeg) &&& (2097150 : Int32)) = 0)) → k9_U p l e R s m args below meth c Q A G 6 0 0 M 20 [] [.int (0 : Int32)]) : k9_U p l e R s m args below meth c Q A G 6 0 0 M 0 [(0, .ref (k9_ga G 57)), (1, .int a0), (2, .int a1)] [] := by
  refine k9_iload_n X dX1_isPedalWished_0 rfl 1 rfl ?_
  refine k9_callNi1 X k1  (k9_cwN (host := "RollPunch") 1 gX1_isPedalWished_X6_isStep_n72 rfl rfl rfl (by decide +kernel) (by decide +kernel) (by decide +kernel) (by decide +kernel) ⟨Nat.le_of_ble_eq_true rfl, Nat.le_of_ble_eq_true rfl⟩) (Nat.le_of_ble_eq_true rfl) dX1_isPedalWished_1 ⟨Nat.zero_le _, Nat.zero_le _⟩ ?_
  refine k9_if_eq (tgt := 19) X dX1_isPedalWished_4 (by decide) (fun c1 => ?_) (fun c1 => ?_)
  · refine k9_iconst (v := 0) X dX1_isPedalWished_19 (by decide) ?_
    refine k9_sub (lv' := []) [] rfl ?_
    exact (l1 c1)
  · refine k9_aload_n X dX1_isPedalWished_7 rfl 0 rfl ?_
    refine k9_gX1_2 X in_X1_isPedalWished_X1 fl_X1_isPedalWished_22 dX1_isPedalWished_8 ?_
    refine k9_iload_n X dX1_isPedalWished_11 rfl 1 rfl ?_
    refine k9_iald X (by decide) (o1 c1) (by rfl) dX1_isPedalWished_12 ?_
    refine k9_ldc X co_X1_isPedalWished_76 dX1_isPedalWished_13 ?_
    refine k9_iand X dX1_isPedalWished_15 ?_
    refine k9_if_eq (tgt := 21) X dX1_isPedalWished_16 (by decide) (fun c2 => ?_) (fun c2 => ?_)
    · refine k9_iconst (v := 0) X dX1_isPedalWished_21 (by decide) ?_
      refine k9_istore_n (lv' := [(0, .ref (k9_ga G 57)), (1, .int a0), (2, .int a1), (3, .int (0 : Int32))]) X dX1_isPedalWished_22 rfl (by decide) [1, 2, 3, 0] rfl ?_
      refine k9_iconst (v := 0) X dX1_isPedalWished_23 (by decide) ?_
      refine k9_istore (lv' := [(0, .ref (k9_ga G 57)), (1, .int a0), (2, .int a1), (3, .int (0 : Int32)), (4, .int (0 : Int32))]) X dX1_isPedalWished_24 (by decide) [1, 2, 3, 4, 0] rfl ?_
      refine k9_iconst (v := 1) X dX1_isPedalWished_26 (by decide) ?_
      refine k9_istore (lv' := [(0, .ref (k9_ga G 57)), (1, .int a0), (2, .int a1), (3, .int (0 : Int32)), (4, .int (0 : Int32)), (5, .int (1 : Int32))]) X dX1_isPedalWished_27 (by decide) [1, 2, 3, 4, 5, 0] rfl ?_
      exact (l2 c1 c2)
    · refine k9_iconst (v := 0) X dX1_isPedalWished_19 (by decide) ?_
      refine k9_sub (lv' := []) [] rfl ?_
      exact (l3 c1 c2)

set_option maxRecDepth 20000 in
theorem bk_X1_isPedalWished_29 (X : k9_X p R s m args c A G 6 cX1_isPedalWished wsX1_isPedalWished RX1 rm_X1_isPedalWished) {x1 x2 x3 x4 x5 : Int32}
    (l1 : (x2 < x5) → ((x3 &&& (2097150 : Int32)) = 0) → k9_U p l e R s m args below meth c Q A G 6 0 0 M 113 [] [.int (0 : Int32)])
    (l2 : (x2 < x5) → (¬ ((x3 &&& (2097150 : Int32)) = 0)) → ((x4 &&& (2097150 : Int32)) = 0) → k9_U p l e R s m args below meth c Q A G 6 0 0 M 113 [] [.int (0 : Int32)])
    (l3 : (x2 < x5) → (¬ ((x3 &&& (2097150 : Int32)) = 0)) → (¬ ((x4 &&& (2097150 : Int32)) = 0)) → k9_U p l e R s m args below meth c Q A G 6 0 0 M 113 [] [.int (1 : Int32)])
    (l4 : (¬ (x2 < x5)) → (x1 < x5) → ((96 : Int32) ≤ (x1 + x5)) → k9_U p l e R s m args below meth c Q A G 6 0 0 M 29 [(0, .ref (k9_ga G 57)), (1, .int x1), (2, .int x2), (3, .int (x3 ||| (0 : Int32))), (4, .int (x4 ||| (0 : Int32))), (5, .int (x5 + (1 : Int32)))] [])
    (o1 : (¬ (x2 < x5)) → (x1 < x5) → (¬ ((96 : Int32) ≤ (x1 + x5))) → vp_in (x1 + x5) 96)
    (l5 : (¬ (x2 < x5)) → (x1 < x5) → (¬ ((96 : Int32) ≤ (x1 + x5))) → k9_U p l e R s m args below meth c Q A G 6 0 0 M 29 [(0, .ref (k9_ga G 57)), (1, .int x1), (2, .int x2), (3, .int (x3 ||| (0 : Int32))), (4, .int (x4 ||| (M 60 (x1 + x5).toNatClampNeg))), (5, .int (x5 + (1 : Int32)))] [])
    (o2 : (¬ (x2 < x5)) → (¬ (x1 < x5)) → vp_in (x1 - x5) 96)
    (l6 : (¬ (x2 < x5)) → (¬ (x1 < x5)) → ((96 : Int32) ≤ (x1 + x5)) → k9_U p l e R s m args below meth c Q A G 6 0 0 M 29 [(0, .ref (k9_ga G 57)), (1, .int x1), (2, .int x2), (3, .int (x3 ||| (M 62 (x1 - x5).toNatClampNeg))), (4, .int (x4 ||| (0 : Int32))), (5, .int (x5 + (1 : Int32)))] [])
    (o3 : (¬ (x2 < x5)) → (¬ (x1 < x5)) → (¬ ((96 : Int32) ≤ (x1 + x5))) → vp_in (x1 + x5) 96)
    (l7 : (¬ (x2 < x5)) → (¬ (x1 < x5)) → (¬ ((96 : Int32) ≤ (x1 + x5))) → k9_U p l e R s m args below meth c Q A G 6 0 0 M 29 [(0, .ref (k9_ga G 57)), (1, .int x1), (2, .int x2), (3, .int (x3 ||| (M 62 (x1 - x5).toNatClampNeg))), (4, .int (x4 ||| (M 60 (x1 + x5).toNatClampNeg))), (5, .int (x5 + (1 : Int32)))] []) : k9_U p l e R s m args below meth c Q A G 6 0 0 M 29 [(0, .ref (k9_ga G 57)), (1, .int x1), (2, .int x2), (3, .int x3), (4, .int x4), (5, .int x5)] [] := by
  refine k9_iload X dX1_isPedalWished_29 5 rfl ?_
  refine k9_iload_n X dX1_isPedalWished_31 rfl 2 rfl ?_
  refine k9_icmp_gt (tgt := 93) X dX1_isPedalWished_32 (by decide) (fun c1 => ?_) (fun c1 => ?_)
  · refine k9_iload_n X dX1_isPedalWished_93 rfl 3 rfl ?_
    refine k9_ldc X co_X1_isPedalWished_76 dX1_isPedalWished_94 ?_
    refine k9_iand X dX1_isPedalWished_96 ?_
    refine k9_if_eq (tgt := 112) X dX1_isPedalWished_97 (by decide) (fun c2 => ?_) (fun c2 => ?_)
    · refine k9_iconst (v := 0) X dX1_isPedalWished_112 (by decide) ?_
      refine k9_sub (lv' := []) [] rfl ?_
      exact (l1 c1 c2)
    · refine k9_iload X dX1_isPedalWished_100 4 rfl ?_
      refine k9_ldc X co_X1_isPedalWished_76 dX1_isPedalWished_102 ?_
      refine k9_iand X dX1_isPedalWished_104 ?_
      refine k9_if_eq (tgt := 112) X dX1_isPedalWished_105 (by decide) (fun c3 => ?_) (fun c3 => ?_)
      · refine k9_iconst (v := 0) X dX1_isPedalWished_112 (by decide) ?_
        refine k9_sub (lv' := []) [] rfl ?_
        exact (l2 c1 c2 c3)
      · refine k9_iconst (v := 1) X dX1_isPedalWished_108 (by decide) ?_
        refine k9_goto (tgt := 113) X dX1_isPedalWished_109 (by decide) ?_
        refine k9_sub (lv' := []) [] rfl ?_
        exact (l3 c1 c2 c3)
  · refine k9_iload_n X dX1_isPedalWished_35 rfl 3 rfl ?_
    refine k9_iload_n X dX1_isPedalWished_36 rfl 1 rfl ?_
    refine k9_iload X dX1_isPedalWished_37 5 rfl ?_
    refine k9_icmp_lt (tgt := 54) X dX1_isPedalWished_39 (by decide) (fun c4 => ?_) (fun c4 => ?_)
    · refine k9_iconst (v := 0) X dX1_isPedalWished_54 (by decide) ?_
      refine k9_ior X dX1_isPedalWished_55 ?_
      refine k9_istore_n (lv' := [(0, .ref (k9_ga G 57)), (1, .int x1), (2, .int x2), (3, .int (x3 ||| (0 : Int32))), (4, .int x4), (5, .int x5)]) X dX1_isPedalWished_56 rfl (by decide) [1, 2, 3, 0, 4, 5] rfl ?_
      refine k9_iload X dX1_isPedalWished_57 4 rfl ?_
      refine k9_iload_n X dX1_isPedalWished_59 rfl 1 rfl ?_
      refine k9_iload X dX1_isPedalWished_60 5 rfl ?_
      refine k9_iadd X dX1_isPedalWished_62 ?_
      refine k9_bipush (v := 96) X dX1_isPedalWished_63 (by decide) ?_
      refine k9_icmp_ge (tgt := 83) X dX1_isPedalWished_65 (by decide) (fun c5 => ?_) (fun c5 => ?_)
      · refine k9_iconst (v := 0) X dX1_isPedalWished_83 (by decide) ?_
        refine k9_ior X dX1_isPedalWished_84 ?_
        refine k9_istore (lv' := [(0, .ref (k9_ga G 57)), (1, .int x1), (2, .int x2), (3, .int (x3 ||| (0 : Int32))), (4, .int (x4 ||| (0 : Int32))), (5, .int x5)]) X dX1_isPedalWished_85 (by decide) [1, 2, 3, 4, 0, 5] rfl ?_
        refine k9_iinc (v := x5 + (1 : Int32)) (lv' := [(0, .ref (k9_ga G 57)), (1, .int x1), (2, .int x2), (3, .int (x3 ||| (0 : Int32))), (4, .int (x4 ||| (0 : Int32))), (5, .int (x5 + (1 : Int32)))]) X dX1_isPedalWished_87 (k := 5) rfl (by rfl) (by decide) [1, 2, 3, 4, 5, 0] rfl ?_
        refine k9_goto (tgt := 29) X dX1_isPedalWished_90 (by decide) ?_
        exact (l4 c1 c4 c5)
      · refine k9_aload_n X dX1_isPedalWished_68 rfl 0 rfl ?_
        refine k9_gX1_1 X in_X1_isPedalWished_X1 fl_X1_isPedalWished_18 dX1_isPedalWished_69 ?_
        refine k9_gX0_0 (q := 59) (q1 := 60) X (by decide) (by rfl) in_X1_isPedalWished_X0 fl_X1_isPedalWished_51 dX1_isPedalWished_72 ?_
        refine k9_iload_n X dX1_isPedalWished_75 rfl 1 rfl ?_
        refine k9_iload X dX1_isPedalWished_76 5 rfl ?_
        refine k9_iadd X dX1_isPedalWished_78 ?_
        refine k9_iald X (by decide) (o1 c1 c4 c5) (by rfl) dX1_isPedalWished_79 ?_
        refine k9_goto (tgt := 84) X dX1_isPedalWished_80 (by decide) ?_
        refine k9_ior X dX1_isPedalWished_84 ?_
        refine k9_istore (lv' := [(0, .ref (k9_ga G 57)), (1, .int x1), (2, .int x2), (3, .int (x3 ||| (0 : Int32))), (4, .int (x4 ||| (M 60 (x1 + x5).toNatClampNeg))), (5, .int x5)]) X dX1_isPedalWished_85 (by decide) [1, 2, 3, 4, 0, 5] rfl ?_
        refine k9_iinc (v := x5 + (1 : Int32)) (lv' := [(0, .ref (k9_ga G 57)), (1, .int x1), (2, .int x2), (3, .int (x3 ||| (0 : Int32))), (4, .int (x4 ||| (M 60 (x1 + x5).toNatClampNeg))), (5, .int (x5 + (1 : Int32)))]) X dX1_isPedalWished_87 (k := 5) rfl (by rfl) (by decide) [1, 2, 3, 4, 5, 0] rfl ?_
        refine k9_goto (tgt := 29) X dX1_isPedalWished_90 (by decide) ?_
        exact (l5 c1 c4 c5)
    · refine k9_aload_n X dX1_isPedalWished_42 rfl 0 rfl ?_
      refine k9_gX1_2 X in_X1_isPedalWished_X1 fl_X1_isPedalWished_22 dX1_isPedalWished_43 ?_
      refine k9_iload_n X dX1_isPedalWished_46 rfl 1 rfl ?_
      refine k9_iload X dX1_isPedalWished_47 5 rfl ?_
      refine k9_isub X dX1_isPedalWished_49 ?_
      refine k9_iald X (by decide) (o2 c1 c4) (by rfl) dX1_isPedalWished_50 ?_
      refine k9_goto (tgt := 55) X dX1_isPedalWished_51 (by decide) ?_
      refine k9_ior X dX1_isPedalWished_55 ?_
      refine k9_istore_n (lv' := [(0, .ref (k9_ga G 57)), (1, .int x1), (2, .int x2), (3, .int (x3 ||| (M 62 (x1 - x5).toNatClampNeg))), (4, .int x4), (5, .int x5)]) X dX1_isPedalWished_56 rfl (by decide) [1, 2, 3, 0, 4, 5] rfl ?_
      refine k9_iload X dX1_isPedalWished_57 4 rfl ?_
      refine k9_iload_n X dX1_isPedalWished_59 rfl 1 rfl ?_
      refine k9_iload X dX1_isPedalWished_60 5 rfl ?_
      refine k9_iadd X dX1_isPedalWished_62 ?_
      refine k9_bipush (v := 96) X dX1_isPedalWished_63 (by decide) ?_
      refine k9_icmp_ge (tgt := 83) X dX1_isPedalWished_65 (by decide) (fun c6 => ?_) (fun c6 => ?_)
      · refine k9_iconst (v := 0) X dX1_isPedalWished_83 (by decide) ?_
        refine k9_ior X dX1_isPedalWished_84 ?_
        refine k9_istore (lv' := [(0, .ref (k9_ga G 57)), (1, .int x1), (2, .int x2), (3, .int (x3 ||| (M 62 (x1 - x5).toNatClampNeg))), (4, .int (x4 ||| (0 : Int32))), (5, .int x5)]) X dX1_isPedalWished_85 (by decide) [1, 2, 3, 4, 0, 5] rfl ?_
        refine k9_iinc (v := x5 + (1 : Int32)) (lv' := [(0, .ref (k9_ga G 57)), (1, .int x1), (2, .int x2), (3, .int (x3 ||| (M 62 (x1 - x5).toNatClampNeg))), (4, .int (x4 ||| (0 : Int32))), (5, .int (x5 + (1 : Int32)))]) X dX1_isPedalWished_87 (k := 5) rfl (by rfl) (by decide) [1, 2, 3, 4, 5, 0] rfl ?_
        refine k9_goto (tgt := 29) X dX1_isPedalWished_90 (by decide) ?_
        exact (l6 c1 c4 c6)
      · refine k9_aload_n X dX1_isPedalWished_68 rfl 0 rfl ?_
        refine k9_gX1_1 X in_X1_isPedalWished_X1 fl_X1_isPedalWished_18 dX1_isPedalWished_69 ?_
        refine k9_gX0_0 (q := 59) (q1 := 60) X (by decide) (by rfl) in_X1_isPedalWished_X0 fl_X1_isPedalWished_51 dX1_isPedalWished_72 ?_
        refine k9_iload_n X dX1_isPedalWished_75 rfl 1 rfl ?_
        refine k9_iload X dX1_isPedalWished_76 5 rfl ?_
        refine k9_iadd X dX1_isPedalWished_78 ?_
        refine k9_iald X (by decide) (o3 c1 c4 c6) (by rfl) dX1_isPedalWished_79 ?_
        refine k9_goto (tgt := 84) X dX1_isPedalWished_80 (by decide) ?_
        refine k9_ior X dX1_isPedalWished_84 ?_
        refine k9_istore (lv' := [(0, .ref (k9_ga G 57)), (1, .int x1), (2, .int x2), (3, .int (x3 ||| (M 62 (x1 - x5).toNatClampNeg))), (4, .int (x4 ||| (M 60 (x1 + x5).toNatClampNeg))), (5, .int x5)]) X dX1_isPedalWished_85 (by decide) [1, 2, 3, 4, 0, 5] rfl ?_
        refine k9_iinc (v := x5 + (1 : Int32)) (lv' := [(0, .ref (k9_ga G 57)), (1, .int x1), (2, .int x2), (3, .int (x3 ||| (M 62 (x1 - x5).toNatClampNeg))), (4, .int (x4 ||| (M 60 (x1 + x5).toNatClampNeg))), (5, .int (x5 + (1 : Int32)))]) X dX1_isPedalWished_87 (k := 5) rfl (by rfl) (by decide) [1, 2, 3, 4, 5, 0] rfl ?_
        refine k9_goto (tgt := 29) X dX1_isPedalWished_90 (by decide) ?_
        exact (l7 c1 c4 c6)

set_option maxRecDepth 20000 in
theorem bk_X1_stepsWished_0 (X : k9_X p R s m args c A G 4 cX1_stepsWished wsX1_stepsWished RX1 rm_X1_stepsWished) {a0 : Int32}
    (l1 : k9_U p l e R s m args below meth c Q A G 4 0 0 M 4 [(0, .ref (k9_ga G 57)), (1, .int a0), (2, .int (0 : Int32)), (3, .int (0 : Int32))] []) : k9_U p l e R s m args below meth c Q A G 4 0 0 M 0 [(0, .ref (k9_ga G 57)), (1, .int a0)] [] := by
  refine k9_iconst (v := 0) X dX1_stepsWished_0 (by decide) ?_
  refine k9_istore_n (lv' := [(0, .ref (k9_ga G 57)), (1, .int a0), (2, .int (0 : Int32))]) X dX1_stepsWished_1 rfl (by decide) [1, 2, 0] rfl ?_
  refine k9_iconst (v := 0) X dX1_stepsWished_2 (by decide) ?_
  refine k9_istore_n (lv' := [(0, .ref (k9_ga G 57)), (1, .int a0), (2, .int (0 : Int32)), (3, .int (0 : Int32))]) X dX1_stepsWished_3 rfl (by decide) [1, 2, 3, 0] rfl ?_
  exact l1

set_option maxRecDepth 20000 in
theorem bk_X1_stepsWished_4 (X : k9_X p R s m args c A G 4 cX1_stepsWished wsX1_stepsWished RX1 rm_X1_stepsWished) {x1 x2 x3 : Int32} {rv1 : Int32}
    (l1 : ((96 : Int32) ≤ x3) → k9_U p l e R s m args below meth c Q A G 4 0 0 M 34 [] [.int x2])
    (k1 : (¬ ((96 : Int32) ≤ x3)) → k9_Ci l yX1_isPedalWished wsX1_isPedalWished rm_X1_isPedalWished G M [.ref (k9_ga G 57), .int x3, .int x1] rv1 M)
    (l2 : (¬ ((96 : Int32) ≤ x3)) → (rv1 = 0) → k9_U p l e R s m args below meth c Q A G 4 0 0 M 4 [(0, .ref (k9_ga G 57)), (1, .int x1), (2, .int (x2 + (0 : Int32))), (3, .int (x3 + (1 : Int32)))] [])
    (l3 : (¬ ((96 : Int32) ≤ x3)) → (¬ (rv1 = 0)) → k9_U p l e R s m args below meth c Q A G 4 0 0 M 4 [(0, .ref (k9_ga G 57)), (1, .int x1), (2, .int (x2 + (1 : Int32))), (3, .int (x3 + (1 : Int32)))] []) : k9_U p l e R s m args below meth c Q A G 4 0 0 M 4 [(0, .ref (k9_ga G 57)), (1, .int x1), (2, .int x2), (3, .int x3)] [] := by
  refine k9_iload_n X dX1_stepsWished_4 rfl 3 rfl ?_
  refine k9_bipush (v := 96) X dX1_stepsWished_5 (by decide) ?_
  refine k9_icmp_ge (tgt := 33) X dX1_stepsWished_7 (by decide) (fun c1 => ?_) (fun c1 => ?_)
  · refine k9_iload_n X dX1_stepsWished_33 rfl 2 rfl ?_
    refine k9_sub (lv' := []) [] rfl ?_
    exact (l1 c1)
  · refine k9_iload_n X dX1_stepsWished_10 rfl 2 rfl ?_
    refine k9_aload_n X dX1_stepsWished_11 rfl 0 rfl ?_
    refine k9_iload_n X dX1_stepsWished_12 rfl 3 rfl ?_
    refine k9_iload_n X dX1_stepsWished_13 rfl 1 rfl ?_
    refine k9_callVi2 X (k1 c1) k9_ob_57 (cwV 2 X.2.2.2.2.1 gX1_stepsWished_X1_isPedalWished rfl rfl rfl (by decide +kernel) ⟨Nat.le_of_ble_eq_true rfl, Nat.le_of_ble_eq_true rfl⟩) (Nat.le_of_ble_eq_true rfl) dX1_stepsWished_14 ⟨Nat.zero_le _, Nat.zero_le _⟩ ?_
    refine k9_if_eq (tgt := 24) X dX1_stepsWished_17 (by decide) (fun c2 => ?_) (fun c2 => ?_)
    · refine k9_iconst (v := 0) X dX1_stepsWished_24 (by decide) ?_
      refine k9_iadd X dX1_stepsWished_25 ?_
      refine k9_istore_n (lv' := [(0, .ref (k9_ga G 57)), (1, .int x1), (2, .int (x2 + (0 : Int32))), (3, .int x3)]) X dX1_stepsWished_26 rfl (by decide) [1, 2, 0, 3] rfl ?_
      refine k9_iinc (v := x3 + (1 : Int32)) (lv' := [(0, .ref (k9_ga G 57)), (1, .int x1), (2, .int (x2 + (0 : Int32))), (3, .int (x3 + (1 : Int32)))]) X dX1_stepsWished_27 (k := 3) rfl (by rfl) (by decide) [1, 2, 3, 0] rfl ?_
      refine k9_goto (tgt := 4) X dX1_stepsWished_30 (by decide) ?_
      exact (l2 c1 c2)
    · refine k9_iconst (v := 1) X dX1_stepsWished_20 (by decide) ?_
      refine k9_goto (tgt := 25) X dX1_stepsWished_21 (by decide) ?_
      refine k9_iadd X dX1_stepsWished_25 ?_
      refine k9_istore_n (lv' := [(0, .ref (k9_ga G 57)), (1, .int x1), (2, .int (x2 + (1 : Int32))), (3, .int x3)]) X dX1_stepsWished_26 rfl (by decide) [1, 2, 0, 3] rfl ?_
      refine k9_iinc (v := x3 + (1 : Int32)) (lv' := [(0, .ref (k9_ga G 57)), (1, .int x1), (2, .int (x2 + (1 : Int32))), (3, .int (x3 + (1 : Int32)))]) X dX1_stepsWished_27 (k := 3) rfl (by rfl) (by decide) [1, 2, 3, 0] rfl ?_
      refine k9_goto (tgt := 4) X dX1_stepsWished_30 (by decide) ?_
      exact (l3 c1 c2)

end BK
