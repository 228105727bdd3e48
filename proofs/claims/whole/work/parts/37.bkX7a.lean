section BK
variable {p : Program} {l : Launch} {e : Env} {R : Room} {s : State} {m : MethodId} {args : Array Value} {below : List Frame} {meth : Method} {c : Code} {Q : State → Prop} {A : Nat → Prop} {G : k9_G} {M : k9_Mem}
theorem in_X7_thrown_X7 : ∀ w ∈ u_ws RX7 TX7 19, w ∈ wsX7_thrown := by decide +kernel
theorem fl_X7_thrown_46 : Cond.fieldLink RX7 46 (TX7 5).1 (TX7 5).2.1 (TX7 5).2.2.1 ∈ wsX7_thrown := by decide +kernel
set_option maxRecDepth 20000 in
theorem bk_X7_thrown_0 (X : k9_X p R s m args c A G 1 cX7_thrown wsX7_thrown RX7 rm_X7_thrown) 
    (l1 : k9_U p l e R s m args below meth c Q A G 1 0 0 M 4 [] [.int (M 76 5)]) : k9_U p l e R s m args below meth c Q A G 1 0 0 M 0 [(0, .ref (k9_ga G 76))] [] := by
  refine k9_aload_n X dX7_thrown_0 rfl 0 rfl ?_
  refine k9_gX7_5 X (by rfl) in_X7_thrown_X7 fl_X7_thrown_46 dX7_thrown_1 ?_
  refine k9_sub (lv' := []) [] rfl ?_
  exact l1

set_option maxRecDepth 20000 in
theorem bk_X7_within_0 (X : k9_X p R s m args c A G 3 cX7_within wsX7_within RX7 rm_X7_within) {a0 a1 a2 : Int32}
    (l1 : (a0 < a1) → k9_U p l e R s m args below meth c Q A G 3 0 0 M 15 [] [.int (0 : Int32)])
    (l2 : (¬ (a0 < a1)) → (a2 < a0) → k9_U p l e R s m args below meth c Q A G 3 0 0 M 15 [] [.int (0 : Int32)])
    (l3 : (¬ (a0 < a1)) → (¬ (a2 < a0)) → k9_U p l e R s m args below meth c Q A G 3 0 0 M 15 [] [.int (1 : Int32)]) : k9_U p l e R s m args below meth c Q A G 3 0 0 M 0 [(0, .int a0), (1, .int a1), (2, .int a2)] [] := by
  refine k9_iload_n X dX7_within_0 rfl 0 rfl ?_
  refine k9_iload_n X dX7_within_1 rfl 1 rfl ?_
  refine k9_icmp_lt (tgt := 14) X dX7_within_2 (by decide) (fun c1 => ?_) (fun c1 => ?_)
  · refine k9_iconst (v := 0) X dX7_within_14 (by decide) ?_
    refine k9_sub (lv' := []) [] rfl ?_
    exact (l1 c1)
  · refine k9_iload_n X dX7_within_5 rfl 0 rfl ?_
    refine k9_iload_n X dX7_within_6 rfl 2 rfl ?_
    refine k9_icmp_gt (tgt := 14) X dX7_within_7 (by decide) (fun c2 => ?_) (fun c2 => ?_)
    · refine k9_iconst (v := 0) X dX7_within_14 (by decide) ?_
      refine k9_sub (lv' := []) [] rfl ?_
      exact (l2 c1 c2)
    · refine k9_iconst (v := 1) X dX7_within_10 (by decide) ?_
      refine k9_goto (tgt := 15) X dX7_within_11 (by decide) ?_
      refine k9_sub (lv' := []) [] rfl ?_
      exact (l3 c1 c2)

set_option maxRecDepth 20000 in
theorem bk_X7_ones_0 (X : k9_X p R s m args c A G 3 cX7_ones wsX7_ones RX7 rm_X7_ones) {a0 : Int32}
    (l1 : k9_U p l e R s m args below meth c Q A G 3 0 0 M 4 [(0, .int a0), (1, .int (0 : Int32)), (2, .int (0 : Int32))] []) : k9_U p l e R s m args below meth c Q A G 3 0 0 M 0 [(0, .int a0)] [] := by
  refine k9_iconst (v := 0) X dX7_ones_0 (by decide) ?_
  refine k9_istore_n (lv' := [(0, .int a0), (1, .int (0 : Int32))]) X dX7_ones_1 rfl (by decide) [1, 0] rfl ?_
  refine k9_iconst (v := 0) X dX7_ones_2 (by decide) ?_
  refine k9_istore_n (lv' := [(0, .int a0), (1, .int (0 : Int32)), (2, .int (0 : Int32))]) X dX7_ones_3 rfl (by decide) [1, 2, 0] rfl ?_
  exact l1

set_option maxRecDepth 20000 in
theorem bk_X7_ones_4 (X : k9_X p R s m args c A G 3 cX7_ones wsX7_ones RX7 rm_X7_ones) {x0 x1 x2 : Int32}
    (l1 : ((26 : Int32) ≤ x2) → k9_U p l e R s m args below meth c Q A G 3 0 0 M 25 [] [.int x1])
    (l2 : (¬ ((26 : Int32) ≤ x2)) → k9_U p l e R s m args below meth c Q A G 3 0 0 M 4 [(0, .int x0), (1, .int (x1 + ((x0 >>> (x2 &&& 31)) &&& (1 : Int32)))), (2, .int (x2 + (1 : Int32)))] []) : k9_U p l e R s m args below meth c Q A G 3 0 0 M 4 [(0, .int x0), (1, .int x1), (2, .int x2)] [] := by
  refine k9_iload_n X dX7_ones_4 rfl 2 rfl ?_
  refine k9_bipush (v := 26) X dX7_ones_5 (by decide) ?_
  refine k9_icmp_ge (tgt := 24) X dX7_ones_7 (by decide) (fun c1 => ?_) (fun c1 => ?_)
  · refine k9_iload_n X dX7_ones_24 rfl 1 rfl ?_
    refine k9_sub (lv' := []) [] rfl ?_
    exact (l1 c1)
  · refine k9_iload_n X dX7_ones_10 rfl 1 rfl ?_
    refine k9_iload_n X dX7_ones_11 rfl 0 rfl ?_
    refine k9_iload_n X dX7_ones_12 rfl 2 rfl ?_
    refine k9_ishr X dX7_ones_13 ?_
    refine k9_iconst (v := 1) X dX7_ones_14 (by decide) ?_
    refine k9_iand X dX7_ones_15 ?_
    refine k9_iadd X dX7_ones_16 ?_
    refine k9_istore_n (lv' := [(0, .int x0), (1, .int (x1 + ((x0 >>> (x2 &&& 31)) &&& (1 : Int32)))), (2, .int x2)]) X dX7_ones_17 rfl (by decide) [1, 0, 2] rfl ?_
    refine k9_iinc (v := x2 + (1 : Int32)) (lv' := [(0, .int x0), (1, .int (x1 + ((x0 >>> (x2 &&& 31)) &&& (1 : Int32)))), (2, .int (x2 + (1 : Int32)))]) X dX7_ones_18 (k := 2) rfl (by rfl) (by decide) [1, 2, 0] rfl ?_
    refine k9_goto (tgt := 4) X dX7_ones_21 (by decide) ?_
    exact (l2 c1)

theorem in_X7_save_X7 : ∀ w ∈ u_ws RX7 TX7 19, w ∈ wsX7_save := by decide +kernel
theorem fl_X7_save_50 : Cond.fieldLink RX7 50 (TX7 1).1 (TX7 1).2.1 (TX7 1).2.2.1 ∈ wsX7_save := by decide +kernel
theorem fl_X7_save_13 : Cond.fieldLink RX7 13 (TX7 2).1 (TX7 2).2.1 (TX7 2).2.2.1 ∈ wsX7_save := by decide +kernel
theorem fl_X7_save_7 : Cond.fieldLink RX7 7 (TX7 0).1 (TX7 0).2.1 (TX7 0).2.2.1 ∈ wsX7_save := by decide +kernel
set_option maxRecDepth 20000 in
theorem bk_X7_save_0 (X : k9_X p R s m args c A G 2 cX7_save wsX7_save RX7 rm_X7_save) 
    (l1 : (¬ (M 76 1) = (6 : Int32)) → k9_U p l e R s m args below meth c Q A G 2 0 0 M 54 [(0, .ref (k9_ga G 76)), (1, .int (0 : Int32))] [])
    (l2 : ((M 76 1) = (6 : Int32)) → k9_U p l e R s m args below meth c Q A G 2 0 0 M 13 [(0, .ref (k9_ga G 76)), (1, .int (578 : Int32))] []) : k9_U p l e R s m args below meth c Q A G 2 0 0 M 0 [(0, .ref (k9_ga G 76))] [] := by
  refine k9_aload_n X dX7_save_0 rfl 0 rfl ?_
  refine k9_gX7_1 X (by rfl) in_X7_save_X7 fl_X7_save_50 dX7_save_1 ?_
  refine k9_bipush (v := 6) X dX7_save_4 (by decide) ?_
  refine k9_icmp_ne (tgt := 52) X dX7_save_6 (by decide) (fun c1 => ?_) (fun c1 => ?_)
  · refine k9_iconst (v := 0) X dX7_save_52 (by decide) ?_
    refine k9_istore_n (lv' := [(0, .ref (k9_ga G 76)), (1, .int (0 : Int32))]) X dX7_save_53 rfl (by decide) [1, 0] rfl ?_
    exact (l1 c1)
  · refine k9_sipush (v := 578) X dX7_save_9 (by decide) ?_
    refine k9_istore_n (lv' := [(0, .ref (k9_ga G 76)), (1, .int (578 : Int32))]) X dX7_save_12 rfl (by decide) [1, 0] rfl ?_
    exact (l2 c1)

set_option maxRecDepth 20000 in
theorem bk_X7_save_54 (X : k9_X p R s m args c A G 2 cX7_save wsX7_save RX7 rm_X7_save) {x1 : Int32}
    (l1 : ((578 : Int32) ≤ x1) → k9_U p l e R s m args below meth c Q A G 2 0 0 (k9_st M 76 1 ((M 76 1) + (1 : Int32))) 98 [] [])
    (o1 : (¬ ((578 : Int32) ≤ x1)) → vp_in x1 578)
    (o2 : (¬ ((578 : Int32) ≤ x1)) → vp_in (((578 : Int32) * (M 76 1)) + x1) 3468)
    (l2 : (¬ ((578 : Int32) ≤ x1)) → k9_U p l e R s m args below meth c Q A G 2 0 0 (k9_st M 78 (((578 : Int32) * (M 76 1)) + x1).toNatClampNeg (M 77 x1.toNatClampNeg)) 54 [(0, .ref (k9_ga G 76)), (1, .int (x1 + (1 : Int32)))] []) : k9_U p l e R s m args below meth c Q A G 2 0 0 M 54 [(0, .ref (k9_ga G 76)), (1, .int x1)] [] := by
  refine k9_iload_n X dX7_save_54 rfl 1 rfl ?_
  refine k9_sipush (v := 578) X dX7_save_55 (by decide) ?_
  refine k9_icmp_ge (tgt := 88) X dX7_save_58 (by decide) (fun c1 => ?_) (fun c1 => ?_)
  · refine k9_aload_n X dX7_save_88 rfl 0 rfl ?_
    refine k9_dup X dX7_save_89 rfl ?_
    refine k9_gX7_1 X (by rfl) in_X7_save_X7 fl_X7_save_50 dX7_save_90 ?_
    refine k9_iconst (v := 1) X dX7_save_93 (by decide) ?_
    refine k9_iadd X dX7_save_94 ?_
    refine k9_pX7_1 X in_X7_save_X7 fl_X7_save_50 dX7_save_95 ?_
    refine k9_sub (lv' := []) [] rfl ?_
    exact (l1 c1)
  · refine k9_aload_n X dX7_save_61 rfl 0 rfl ?_
    refine k9_gX7_2 X in_X7_save_X7 fl_X7_save_13 dX7_save_62 ?_
    refine k9_sipush (v := 578) X dX7_save_65 (by decide) ?_
    refine k9_aload_n X dX7_save_68 rfl 0 rfl ?_
    refine k9_gX7_1 X (by rfl) in_X7_save_X7 fl_X7_save_50 dX7_save_69 ?_
    refine k9_imul X dX7_save_72 ?_
    refine k9_iload_n X dX7_save_73 rfl 1 rfl ?_
    refine k9_iadd X dX7_save_74 ?_
    refine k9_aload_n X dX7_save_75 rfl 0 rfl ?_
    refine k9_gX7_0 X in_X7_save_X7 fl_X7_save_7 dX7_save_76 ?_
    refine k9_iload_n X dX7_save_79 rfl 1 rfl ?_
    refine k9_iald X (by decide) (o1 c1) (by rfl) dX7_save_80 ?_
    refine k9_iast X (by decide) (o2 c1) dX7_save_81 ?_
    refine k9_iinc (v := x1 + (1 : Int32)) (lv' := [(0, .ref (k9_ga G 76)), (1, .int (x1 + (1 : Int32)))]) X dX7_save_82 (k := 1) rfl (by rfl) (by decide) [1, 0] rfl ?_
    refine k9_goto (tgt := 54) X dX7_save_85 (by decide) ?_
    exact (l2 c1)

set_option maxRecDepth 20000 in
theorem bk_X7_save_13 (X : k9_X p R s m args c A G 2 cX7_save wsX7_save RX7 rm_X7_save) {x1 : Int32}
    (l1 : ((3468 : Int32) ≤ x1) → k9_U p l e R s m args below meth c Q A G 2 0 0 (k9_st M 76 1 ((M 76 1) - (1 : Int32))) 54 [(0, .ref (k9_ga G 76)), (1, .int (0 : Int32))] [])
    (o1 : (¬ ((3468 : Int32) ≤ x1)) → vp_in x1 3468)
    (o2 : (¬ ((3468 : Int32) ≤ x1)) → vp_in (x1 - (578 : Int32)) 3468)
    (l2 : (¬ ((3468 : Int32) ≤ x1)) → k9_U p l e R s m args below meth c Q A G 2 0 0 (k9_st M 78 (x1 - (578 : Int32)).toNatClampNeg (M 78 x1.toNatClampNeg)) 13 [(0, .ref (k9_ga G 76)), (1, .int (x1 + (1 : Int32)))] []) : k9_U p l e R s m args below meth c Q A G 2 0 0 M 13 [(0, .ref (k9_ga G 76)), (1, .int x1)] [] := by
  refine k9_iload_n X dX7_save_13 rfl 1 rfl ?_
  refine k9_sipush (v := 3468) X dX7_save_14 (by decide) ?_
  refine k9_icmp_ge (tgt := 42) X dX7_save_17 (by decide) (fun c1 => ?_) (fun c1 => ?_)
  · refine k9_aload_n X dX7_save_42 rfl 0 rfl ?_
    refine k9_dup X dX7_save_43 rfl ?_
    refine k9_gX7_1 X (by rfl) in_X7_save_X7 fl_X7_save_50 dX7_save_44 ?_
    refine k9_iconst (v := 1) X dX7_save_47 (by decide) ?_
    refine k9_isub X dX7_save_48 ?_
    refine k9_pX7_1 X in_X7_save_X7 fl_X7_save_50 dX7_save_49 ?_
    refine k9_iconst (v := 0) X dX7_save_52 (by decide) ?_
    refine k9_istore_n (lv' := [(0, .ref (k9_ga G 76)), (1, .int (0 : Int32))]) X dX7_save_53 rfl (by decide) [1, 0] rfl ?_
    exact (l1 c1)
  · refine k9_aload_n X dX7_save_20 rfl 0 rfl ?_
    refine k9_gX7_2 X in_X7_save_X7 fl_X7_save_13 dX7_save_21 ?_
    refine k9_iload_n X dX7_save_24 rfl 1 rfl ?_
    refine k9_sipush (v := 578) X dX7_save_25 (by decide) ?_
    refine k9_isub X dX7_save_28 ?_
    refine k9_aload_n X dX7_save_29 rfl 0 rfl ?_
    refine k9_gX7_2 X in_X7_save_X7 fl_X7_save_13 dX7_save_30 ?_
    refine k9_iload_n X dX7_save_33 rfl 1 rfl ?_
    refine k9_iald X (by decide) (o1 c1) (by rfl) dX7_save_34 ?_
    refine k9_iast X (by decide) (o2 c1) dX7_save_35 ?_
    refine k9_iinc (v := x1 + (1 : Int32)) (lv' := [(0, .ref (k9_ga G 76)), (1, .int (x1 + (1 : Int32)))]) X dX7_save_36 (k := 1) rfl (by rfl) (by decide) [1, 0] rfl ?_
    refine k9_goto (tgt := 13) X dX7_save_39 (by decide) ?_
    exact (l2 c1)

set_option maxRecDepth 20000 in
theorem bk_X7_isStep_0 (X : k9_X p R s m args c A G 1 cX7_isStep wsX7_isStep RX7 rm_X7_isStep) {a0 : Int32} {rv1 : Int32}
    (k1 : k9_Ci l yX7_within wsX7_within rm_X7_within G M [.int a0, .int (0 : Int32), .int (95 : Int32)] rv1 M)
    (l1 : k9_U p l e R s m args below meth c Q A G 1 0 0 M 7 [] [.int rv1]) : k9_U p l e R s m args below meth c Q A G 1 0 0 M 0 [(0, .int a0)] [] := by
  refine k9_iload_n X dX7_isStep_0 rfl 0 rfl ?_
  refine k9_iconst (v := 0) X dX7_isStep_1 (by decide) ?_
  refine k9_bipush (v := 95) X dX7_isStep_2 (by decide) ?_
  refine k9_callSi3 X k1  (va_cwS 3 X.2.2.2.2.1 gX7_isStep_X7_within rfl rfl rfl (by decide +kernel) ⟨Nat.le_of_ble_eq_true rfl, Nat.le_of_ble_eq_true rfl⟩) (Nat.le_of_ble_eq_true rfl) dX7_isStep_4 ⟨Nat.zero_le _, Nat.zero_le _⟩ ?_
  refine k9_sub (lv' := []) [] rfl ?_
  exact l1

set_option maxRecDepth 20000 in
theorem bk_X7_isTrack_0 (X : k9_X p R s m args c A G 1 cX7_isTrack wsX7_isTrack RX7 rm_X7_isTrack) {a0 : Int32} {rv1 : Int32}
    (k1 : k9_Ci l yX7_within wsX7_within rm_X7_within G M [.int a0, .int (0 : Int32), .int (25 : Int32)] rv1 M)
    (l1 : k9_U p l e R s m args below meth c Q A G 1 0 0 M 7 [] [.int rv1]) : k9_U p l e R s m args below meth c Q A G 1 0 0 M 0 [(0, .int a0)] [] := by
  refine k9_iload_n X dX7_isTrack_0 rfl 0 rfl ?_
  refine k9_iconst (v := 0) X dX7_isTrack_1 (by decide) ?_
  refine k9_bipush (v := 25) X dX7_isTrack_2 (by decide) ?_
  refine k9_callSi3 X k1  (va_cwS 3 X.2.2.2.2.1 gX7_isTrack_X7_within rfl rfl rfl (by decide +kernel) ⟨Nat.le_of_ble_eq_true rfl, Nat.le_of_ble_eq_true rfl⟩) (Nat.le_of_ble_eq_true rfl) dX7_isTrack_4 ⟨Nat.zero_le _, Nat.zero_le _⟩ ?_
  refine k9_sub (lv' := []) [] rfl ?_
  exact l1

set_option maxRecDepth 20000 in
theorem bk_X7_isSide_0 (X : k9_X p R s m args c A G 1 cX7_isSide wsX7_isSide RX7 rm_X7_isSide) {a0 : Int32} {rv1 : Int32}
    (k1 : k9_Ci l yX7_within wsX7_within rm_X7_within G M [.int a0, .int (-3 : Int32), .int (3 : Int32)] rv1 M)
    (l1 : k9_U p l e R s m args below meth c Q A G 1 0 0 M 7 [] [.int rv1]) : k9_U p l e R s m args below meth c Q A G 1 0 0 M 0 [(0, .int a0)] [] := by
  refine k9_iload_n X dX7_isSide_0 rfl 0 rfl ?_
  refine k9_bipush (v := -3) X dX7_isSide_1 (by decide) ?_
  refine k9_iconst (v := 3) X dX7_isSide_3 (by decide) ?_
  refine k9_callSi3 X k1  (va_cwS 3 X.2.2.2.2.1 gX7_isSide_X7_within rfl rfl rfl (by decide +kernel) ⟨Nat.le_of_ble_eq_true rfl, Nat.le_of_ble_eq_true rfl⟩) (Nat.le_of_ble_eq_true rfl) dX7_isSide_4 ⟨Nat.zero_le _, Nat.zero_le _⟩ ?_
  refine k9_sub (lv' := []) [] rfl ?_
  exact l1

theorem in_X7_openAt_X7 : ∀ w ∈ u_ws RX7 TX7 19, w ∈ wsX7_openAt := by decide +kernel
theorem fl_X7_openAt_7 : Cond.fieldLink RX7 7 (TX7 0).1 (TX7 0).2.1 (TX7 0).2.2.1 ∈ wsX7_openAt := by decide +kernel
set_option maxRecDepth 20000 in
theorem bk_X7_openAt_0 (X : k9_X p R s m args c A G 2 cX7_openAt wsX7_openAt RX7 rm_X7_openAt) {a0 : Int32}
    (o1 : vp_in ((0 : Int32) + a0) 578)
    (o2 : vp_in ((96 : Int32) + a0) 578)
    (l1 : k9_U p l e R s m args below meth c Q A G 2 0 0 M 20 [] [.int ((M 77 ((0 : Int32) + a0).toNatClampNeg) &&& ((M 77 ((96 : Int32) + a0).toNatClampNeg) ^^^ (-1 : Int32)))]) : k9_U p l e R s m args below meth c Q A G 2 0 0 M 0 [(0, .ref (k9_ga G 76)), (1, .int a0)] [] := by
  refine k9_aload_n X dX7_openAt_0 rfl 0 rfl ?_
  refine k9_gX7_0 X in_X7_openAt_X7 fl_X7_openAt_7 dX7_openAt_1 ?_
  refine k9_iconst (v := 0) X dX7_openAt_4 (by decide) ?_
  refine k9_iload_n X dX7_openAt_5 rfl 1 rfl ?_
  refine k9_iadd X dX7_openAt_6 ?_
  refine k9_iald X (by decide) o1 (by rfl) dX7_openAt_7 ?_
  refine k9_aload_n X dX7_openAt_8 rfl 0 rfl ?_
  refine k9_gX7_0 X in_X7_openAt_X7 fl_X7_openAt_7 dX7_openAt_9 ?_
  refine k9_bipush (v := 96) X dX7_openAt_12 (by decide) ?_
  refine k9_iload_n X dX7_openAt_14 rfl 1 rfl ?_
  refine k9_iadd X dX7_openAt_15 ?_
  refine k9_iald X (by decide) o2 (by rfl) dX7_openAt_16 ?_
  refine k9_iconst (v := -1) X dX7_openAt_17 (by decide) ?_
  refine k9_ixor X dX7_openAt_18 ?_
  refine k9_iand X dX7_openAt_19 ?_
  refine k9_sub (lv' := []) [] rfl ?_
  exact l1

theorem in_X7_aside_X7 : ∀ w ∈ u_ws RX7 TX7 19, w ∈ wsX7_aside := by decide +kernel
theorem fl_X7_aside_7 : Cond.fieldLink RX7 7 (TX7 0).1 (TX7 0).2.1 (TX7 0).2.2.1 ∈ wsX7_aside := by decide +kernel
set_option maxRecDepth 20000 in
theorem bk_X7_aside_0 (X : k9_X p R s m args c A G 2 cX7_aside wsX7_aside RX7 rm_X7_aside) {a0 : Int32}
    (o1 : vp_in ((192 : Int32) + a0) 578)
    (o2 : vp_in ((288 : Int32) + a0) 578)
    (l1 : k9_U p l e R s m args below meth c Q A G 2 0 0 M 21 [] [.int ((M 77 ((192 : Int32) + a0).toNatClampNeg) + (M 77 ((288 : Int32) + a0).toNatClampNeg))]) : k9_U p l e R s m args below meth c Q A G 2 0 0 M 0 [(0, .ref (k9_ga G 76)), (1, .int a0)] [] := by
  refine k9_aload_n X dX7_aside_0 rfl 0 rfl ?_
  refine k9_gX7_0 X in_X7_aside_X7 fl_X7_aside_7 dX7_aside_1 ?_
  refine k9_sipush (v := 192) X dX7_aside_4 (by decide) ?_
  refine k9_iload_n X dX7_aside_7 rfl 1 rfl ?_
  refine k9_iadd X dX7_aside_8 ?_
  refine k9_iald X (by decide) o1 (by rfl) dX7_aside_9 ?_
  refine k9_aload_n X dX7_aside_10 rfl 0 rfl ?_
  refine k9_gX7_0 X in_X7_aside_X7 fl_X7_aside_7 dX7_aside_11 ?_
  refine k9_sipush (v := 288) X dX7_aside_14 (by decide) ?_
  refine k9_iload_n X dX7_aside_17 rfl 1 rfl ?_
  refine k9_iadd X dX7_aside_18 ?_
  refine k9_iald X (by decide) o2 (by rfl) dX7_aside_19 ?_
  refine k9_iadd X dX7_aside_20 ?_
  refine k9_sub (lv' := []) [] rfl ?_
  exact l1

theorem in_X7_layReads_X7 : ∀ w ∈ u_ws RX7 TX7 19, w ∈ wsX7_layReads := by decide +kernel
theorem fl_X7_layReads_19 : Cond.fieldLink RX7 19 (TX7 6).1 (TX7 6).2.1 (TX7 6).2.2.1 ∈ wsX7_layReads := by decide +kernel
theorem fl_X7_layReads_22 : Cond.fieldLink RX7 22 (TX7 7).1 (TX7 7).2.1 (TX7 7).2.2.1 ∈ wsX7_layReads := by decide +kernel
theorem fl_X7_layReads_25 : Cond.fieldLink RX7 25 (TX7 8).1 (TX7 8).2.1 (TX7 8).2.2.1 ∈ wsX7_layReads := by decide +kernel
theorem fl_X7_layReads_28 : Cond.fieldLink RX7 28 (TX7 9).1 (TX7 9).2.1 (TX7 9).2.2.1 ∈ wsX7_layReads := by decide +kernel
set_option maxRecDepth 20000 in
theorem bk_X7_layReads_0 (X : k9_X p R s m args c A G 5 cX7_layReads wsX7_layReads RX7 rm_X7_layReads) {a0 : Int32} {rv1 : Int32}
    (o1 : vp_in a0 96)
    (k1 : k9_Ci l yX7_openAt wsX7_openAt rm_X7_openAt G (k9_st (k9_st (k9_st (k9_st M 80 a0.toNatClampNeg (0 : Int32)) 81 a0.toNatClampNeg (0 : Int32)) 82 a0.toNatClampNeg (0 : Int32)) 83 a0.toNatClampNeg (0 : Int32)) [.ref (k9_ga G 76), .int a0] rv1 (k9_st (k9_st (k9_st (k9_st M 80 a0.toNatClampNeg (0 : Int32)) 81 a0.toNatClampNeg (0 : Int32)) 82 a0.toNatClampNeg (0 : Int32)) 83 a0.toNatClampNeg (0 : Int32)))
    (l1 : k9_U p l e R s m args below meth c Q A G 5 0 0 (k9_st (k9_st (k9_st (k9_st M 80 a0.toNatClampNeg (0 : Int32)) 81 a0.toNatClampNeg (0 : Int32)) 82 a0.toNatClampNeg (0 : Int32)) 83 a0.toNatClampNeg (0 : Int32)) 36 [(0, .ref (k9_ga G 76)), (1, .int a0), (2, .int rv1), (3, .int (0 : Int32))] []) : k9_U p l e R s m args below meth c Q A G 5 0 0 M 0 [(0, .ref (k9_ga G 76)), (1, .int a0)] [] := by
  refine k9_aload_n X dX7_layReads_0 rfl 0 rfl ?_
  refine k9_gX7_6 X in_X7_layReads_X7 fl_X7_layReads_19 dX7_layReads_1 ?_
  refine k9_iload_n X dX7_layReads_4 rfl 1 rfl ?_
  refine k9_iconst (v := 0) X dX7_layReads_5 (by decide) ?_
  refine k9_iast X (by decide) o1 dX7_layReads_6 ?_
  refine k9_aload_n X dX7_layReads_7 rfl 0 rfl ?_
  refine k9_gX7_7 X in_X7_layReads_X7 fl_X7_layReads_22 dX7_layReads_8 ?_
  refine k9_iload_n X dX7_layReads_11 rfl 1 rfl ?_
  refine k9_iconst (v := 0) X dX7_layReads_12 (by decide) ?_
  refine k9_iast X (by decide) o1 dX7_layReads_13 ?_
  refine k9_aload_n X dX7_layReads_14 rfl 0 rfl ?_
  refine k9_gX7_8 X in_X7_layReads_X7 fl_X7_layReads_25 dX7_layReads_15 ?_
  refine k9_iload_n X dX7_layReads_18 rfl 1 rfl ?_
  refine k9_iconst (v := 0) X dX7_layReads_19 (by decide) ?_
  refine k9_iast X (by decide) o1 dX7_layReads_20 ?_
  refine k9_aload_n X dX7_layReads_21 rfl 0 rfl ?_
  refine k9_gX7_9 X in_X7_layReads_X7 fl_X7_layReads_28 dX7_layReads_22 ?_
  refine k9_iload_n X dX7_layReads_25 rfl 1 rfl ?_
  refine k9_iconst (v := 0) X dX7_layReads_26 (by decide) ?_
  refine k9_iast X (by decide) o1 dX7_layReads_27 ?_
  refine k9_aload_n X dX7_layReads_28 rfl 0 rfl ?_
  refine k9_iload_n X dX7_layReads_29 rfl 1 rfl ?_
  refine k9_callVi1 X k1 k9_ob_76 (cwV 1 X.2.2.2.2.1 gX7_layReads_X7_openAt rfl rfl rfl (by decide +kernel) ⟨Nat.le_of_ble_eq_true rfl, Nat.le_of_ble_eq_true rfl⟩) (Nat.le_of_ble_eq_true rfl) dX7_layReads_30 ⟨Nat.zero_le _, Nat.zero_le _⟩ ?_
  refine k9_istore_n (lv' := [(0, .ref (k9_ga G 76)), (1, .int a0), (2, .int rv1)]) X dX7_layReads_33 rfl (by decide) [1, 2, 0] rfl ?_
  refine k9_iconst (v := 0) X dX7_layReads_34 (by decide) ?_
  refine k9_istore_n (lv' := [(0, .ref (k9_ga G 76)), (1, .int a0), (2, .int rv1), (3, .int (0 : Int32))]) X dX7_layReads_35 rfl (by decide) [1, 2, 3, 0] rfl ?_
  exact l1

set_option maxRecDepth 20000 in
theorem bk_X7_layReads_36 (X : k9_X p R s m args c A G 5 cX7_layReads wsX7_layReads RX7 rm_X7_layReads) {x1 x2 x3 : Int32} {rv1 : Int32} {rv2 : Int32} {rv3 : Int32} {rv4 : Int32}
    (l1 : ((20 : Int32) < x3) → k9_U p l e R s m args below meth c Q A G 5 0 0 M 98 [] [])
    (k1 : (¬ ((20 : Int32) < x3)) → (¬ x3 = (20 : Int32)) → k9_Ci l yX7_aside wsX7_aside rm_X7_aside G M [.ref (k9_ga G 76), .int x1] rv1 M)
    (o1 : (¬ ((20 : Int32) < x3)) → (¬ x3 = (20 : Int32)) → vp_in x1 96)
    (k2 : (¬ ((20 : Int32) < x3)) → (¬ x3 = (20 : Int32)) → k9_Ci l yX7_isTrack wsX7_isTrack rm_X7_isTrack G M [.int ((x3 + (3 : Int32)) + rv1)] rv2 M)
    (l2 : (¬ ((20 : Int32) < x3)) → (¬ x3 = (20 : Int32)) → (rv2 = 0) → k9_U p l e R s m args below meth c Q A G 5 0 0 (k9_st M 80 x1.toNatClampNeg ((M 80 x1.toNatClampNeg) ||| (0 : Int32))) 36 [(0, .ref (k9_ga G 76)), (1, .int x1), (2, .int x2), (3, .int (x3 + (1 : Int32)))] [])
    (l3 : (¬ ((20 : Int32) < x3)) → (¬ x3 = (20 : Int32)) → (¬ (rv2 = 0)) → k9_U p l e R s m args below meth c Q A G 5 0 0 (k9_st M 80 x1.toNatClampNeg ((M 80 x1.toNatClampNeg) ||| (((x2 >>> (((x3 + (3 : Int32)) + rv1) &&& 31)) &&& (1 : Int32)) <<< (x3 &&& 31)))) 36 [(0, .ref (k9_ga G 76)), (1, .int x1), (2, .int x2), (3, .int (x3 + (1 : Int32)))] [])
    (k3 : (¬ ((20 : Int32) < x3)) → (x3 = (20 : Int32)) → k9_Ci l yX7_aside wsX7_aside rm_X7_aside G M [.ref (k9_ga G 76), .int x1] rv3 M)
    (o2 : (¬ ((20 : Int32) < x3)) → (x3 = (20 : Int32)) → vp_in x1 96)
    (k4 : (¬ ((20 : Int32) < x3)) → (x3 = (20 : Int32)) → k9_Ci l yX7_isTrack wsX7_isTrack rm_X7_isTrack G M [.int ((2 : Int32) + rv3)] rv4 M)
    (l4 : (¬ ((20 : Int32) < x3)) → (x3 = (20 : Int32)) → (rv4 = 0) → k9_U p l e R s m args below meth c Q A G 5 0 0 (k9_st M 80 x1.toNatClampNeg ((M 80 x1.toNatClampNeg) ||| (0 : Int32))) 36 [(0, .ref (k9_ga G 76)), (1, .int x1), (2, .int x2), (3, .int (x3 + (1 : Int32)))] [])
    (l5 : (¬ ((20 : Int32) < x3)) → (x3 = (20 : Int32)) → (¬ (rv4 = 0)) → k9_U p l e R s m args below meth c Q A G 5 0 0 (k9_st M 80 x1.toNatClampNeg ((M 80 x1.toNatClampNeg) ||| (((x2 >>> (((2 : Int32) + rv3) &&& 31)) &&& (1 : Int32)) <<< (x3 &&& 31)))) 36 [(0, .ref (k9_ga G 76)), (1, .int x1), (2, .int x2), (3, .int (x3 + (1 : Int32)))] []) : k9_U p l e R s m args below meth c Q A G 5 0 0 M 36 [(0, .ref (k9_ga G 76)), (1, .int x1), (2, .int x2), (3, .int x3)] [] := by
  refine k9_iload_n X dX7_layReads_36 rfl 3 rfl ?_
  refine k9_bipush (v := 20) X dX7_layReads_37 (by decide) ?_
  refine k9_icmp_gt (tgt := 98) X dX7_layReads_39 (by decide) (fun c1 => ?_) (fun c1 => ?_)
  · refine k9_sub (lv' := []) [] rfl ?_
    exact (l1 c1)
  · refine k9_iload_n X dX7_layReads_42 rfl 3 rfl ?_
    refine k9_bipush (v := 20) X dX7_layReads_43 (by decide) ?_
    refine k9_icmp_ne (tgt := 52) X dX7_layReads_45 (by decide) (fun c2 => ?_) (fun c2 => ?_)
    · refine k9_iload_n X dX7_layReads_52 rfl 3 rfl ?_
      refine k9_iconst (v := 3) X dX7_layReads_53 (by decide) ?_
      refine k9_iadd X dX7_layReads_54 ?_
      refine k9_aload_n X dX7_layReads_55 rfl 0 rfl ?_
      refine k9_iload_n X dX7_layReads_56 rfl 1 rfl ?_
      refine k9_callVi1 X (k1 c1 c2) k9_ob_76 (cwV 1 X.2.2.2.2.1 gX7_layReads_X7_aside rfl rfl rfl (by decide +kernel) ⟨Nat.le_of_ble_eq_true rfl, Nat.le_of_ble_eq_true rfl⟩) (Nat.le_of_ble_eq_true rfl) dX7_layReads_57 ⟨Nat.zero_le _, Nat.zero_le _⟩ ?_
      refine k9_iadd X dX7_layReads_60 ?_
      refine k9_istore (lv' := [(0, .ref (k9_ga G 76)), (1, .int x1), (2, .int x2), (3, .int x3), (4, .int ((x3 + (3 : Int32)) + rv1))]) X dX7_layReads_61 (by decide) [1, 2, 3, 4, 0] rfl ?_
      refine k9_aload_n X dX7_layReads_63 rfl 0 rfl ?_
      refine k9_gX7_6 X in_X7_layReads_X7 fl_X7_layReads_19 dX7_layReads_64 ?_
      refine k9_iload_n X dX7_layReads_67 rfl 1 rfl ?_
      refine k9_dup2 X dX7_layReads_68 rfl rfl ?_
      refine k9_iald X (by decide) (o1 c1 c2) (by rfl) dX7_layReads_69 ?_
      refine k9_iload X dX7_layReads_70 4 rfl ?_
      refine k9_callSi1 X (k2 c1 c2)  (va_cwS 1 X.2.2.2.2.1 gX7_layReads_X7_isTrack rfl rfl rfl (by decide +kernel) ⟨Nat.le_of_ble_eq_true rfl, Nat.le_of_ble_eq_true rfl⟩) (Nat.le_of_ble_eq_true rfl) dX7_layReads_72 ⟨Nat.zero_le _, Nat.zero_le _⟩ ?_
      refine k9_if_eq (tgt := 89) X dX7_layReads_75 (by decide) (fun c3 => ?_) (fun c3 => ?_)
      · refine k9_iconst (v := 0) X dX7_layReads_89 (by decide) ?_
        refine k9_ior X dX7_layReads_90 ?_
        refine k9_iast X (by decide) (o1 c1 c2) dX7_layReads_91 ?_
        refine k9_iinc (v := x3 + (1 : Int32)) (lv' := [(0, .ref (k9_ga G 76)), (1, .int x1), (2, .int x2), (3, .int (x3 + (1 : Int32))), (4, .int ((x3 + (3 : Int32)) + rv1))]) X dX7_layReads_92 (k := 3) rfl (by rfl) (by decide) [1, 2, 3, 0, 4] rfl ?_
        refine k9_goto (tgt := 36) X dX7_layReads_95 (by decide) ?_
        refine k9_sub (lv' := [(0, .ref (k9_ga G 76)), (1, .int x1), (2, .int x2), (3, .int (x3 + (1 : Int32)))]) [0, 1, 2, 3] rfl ?_
        exact (l2 c1 c2 c3)
      · refine k9_iload_n X dX7_layReads_78 rfl 2 rfl ?_
        refine k9_iload X dX7_layReads_79 4 rfl ?_
        refine k9_ishr X dX7_layReads_81 ?_
        refine k9_iconst (v := 1) X dX7_layReads_82 (by decide) ?_
        refine k9_iand X dX7_layReads_83 ?_
        refine k9_iload_n X dX7_layReads_84 rfl 3 rfl ?_
        refine k9_ishl X dX7_layReads_85 ?_
        refine k9_goto (tgt := 90) X dX7_layReads_86 (by decide) ?_
        refine k9_ior X dX7_layReads_90 ?_
        refine k9_iast X (by decide) (o1 c1 c2) dX7_layReads_91 ?_
        refine k9_iinc (v := x3 + (1 : Int32)) (lv' := [(0, .ref (k9_ga G 76)), (1, .int x1), (2, .int x2), (3, .int (x3 + (1 : Int32))), (4, .int ((x3 + (3 : Int32)) + rv1))]) X dX7_layReads_92 (k := 3) rfl (by rfl) (by decide) [1, 2, 3, 0, 4] rfl ?_
        refine k9_goto (tgt := 36) X dX7_layReads_95 (by decide) ?_
        refine k9_sub (lv' := [(0, .ref (k9_ga G 76)), (1, .int x1), (2, .int x2), (3, .int (x3 + (1 : Int32)))]) [0, 1, 2, 3] rfl ?_
        exact (l3 c1 c2 c3)
    · refine k9_iconst (v := 2) X dX7_layReads_48 (by decide) ?_
      refine k9_goto (tgt := 55) X dX7_layReads_49 (by decide) ?_
      refine k9_aload_n X dX7_layReads_55 rfl 0 rfl ?_
      refine k9_iload_n X dX7_layReads_56 rfl 1 rfl ?_
      refine k9_callVi1 X (k3 c1 c2) k9_ob_76 (cwV 1 X.2.2.2.2.1 gX7_layReads_X7_aside rfl rfl rfl (by decide +kernel) ⟨Nat.le_of_ble_eq_true rfl, Nat.le_of_ble_eq_true rfl⟩) (Nat.le_of_ble_eq_true rfl) dX7_layReads_57 ⟨Nat.zero_le _, Nat.zero_le _⟩ ?_
      refine k9_iadd X dX7_layReads_60 ?_
      refine k9_istore (lv' := [(0, .ref (k9_ga G 76)), (1, .int x1), (2, .int x2), (3, .int x3), (4, .int ((2 : Int32) + rv3))]) X dX7_layReads_61 (by decide) [1, 2, 3, 4, 0] rfl ?_
      refine k9_aload_n X dX7_layReads_63 rfl 0 rfl ?_
      refine k9_gX7_6 X in_X7_layReads_X7 fl_X7_layReads_19 dX7_layReads_64 ?_
      refine k9_iload_n X dX7_layReads_67 rfl 1 rfl ?_
      refine k9_dup2 X dX7_layReads_68 rfl rfl ?_
      refine k9_iald X (by decide) (o2 c1 c2) (by rfl) dX7_layReads_69 ?_
      refine k9_iload X dX7_layReads_70 4 rfl ?_
      refine k9_callSi1 X (k4 c1 c2)  (va_cwS 1 X.2.2.2.2.1 gX7_layReads_X7_isTrack rfl rfl rfl (by decide +kernel) ⟨Nat.le_of_ble_eq_true rfl, Nat.le_of_ble_eq_true rfl⟩) (Nat.le_of_ble_eq_true rfl) dX7_layReads_72 ⟨Nat.zero_le _, Nat.zero_le _⟩ ?_
      refine k9_if_eq (tgt := 89) X dX7_layReads_75 (by decide) (fun c4 => ?_) (fun c4 => ?_)
      · refine k9_iconst (v := 0) X dX7_layReads_89 (by decide) ?_
        refine k9_ior X dX7_layReads_90 ?_
        refine k9_iast X (by decide) (o2 c1 c2) dX7_layReads_91 ?_
        refine k9_iinc (v := x3 + (1 : Int32)) (lv' := [(0, .ref (k9_ga G 76)), (1, .int x1), (2, .int x2), (3, .int (x3 + (1 : Int32))), (4, .int ((2 : Int32) + rv3))]) X dX7_layReads_92 (k := 3) rfl (by rfl) (by decide) [1, 2, 3, 0, 4] rfl ?_
        refine k9_goto (tgt := 36) X dX7_layReads_95 (by decide) ?_
        refine k9_sub (lv' := [(0, .ref (k9_ga G 76)), (1, .int x1), (2, .int x2), (3, .int (x3 + (1 : Int32)))]) [0, 1, 2, 3] rfl ?_
        exact (l4 c1 c2 c4)
      · refine k9_iload_n X dX7_layReads_78 rfl 2 rfl ?_
        refine k9_iload X dX7_layReads_79 4 rfl ?_
        refine k9_ishr X dX7_layReads_81 ?_
        refine k9_iconst (v := 1) X dX7_layReads_82 (by decide) ?_
        refine k9_iand X dX7_layReads_83 ?_
        refine k9_iload_n X dX7_layReads_84 rfl 3 rfl ?_
        refine k9_ishl X dX7_layReads_85 ?_
        refine k9_goto (tgt := 90) X dX7_layReads_86 (by decide) ?_
        refine k9_ior X dX7_layReads_90 ?_
        refine k9_iast X (by decide) (o2 c1 c2) dX7_layReads_91 ?_
        refine k9_iinc (v := x3 + (1 : Int32)) (lv' := [(0, .ref (k9_ga G 76)), (1, .int x1), (2, .int x2), (3, .int (x3 + (1 : Int32))), (4, .int ((2 : Int32) + rv3))]) X dX7_layReads_92 (k := 3) rfl (by rfl) (by decide) [1, 2, 3, 0, 4] rfl ?_
        refine k9_goto (tgt := 36) X dX7_layReads_95 (by decide) ?_
        refine k9_sub (lv' := [(0, .ref (k9_ga G 76)), (1, .int x1), (2, .int x2), (3, .int (x3 + (1 : Int32)))]) [0, 1, 2, 3] rfl ?_
        exact (l5 c1 c2 c4)

theorem in_X7_layChain_X7 : ∀ w ∈ u_ws RX7 TX7 19, w ∈ wsX7_layChain := by decide +kernel
theorem fl_X7_layChain_22 : Cond.fieldLink RX7 22 (TX7 7).1 (TX7 7).2.1 (TX7 7).2.2.1 ∈ wsX7_layChain := by decide +kernel
theorem fl_X7_layChain_25 : Cond.fieldLink RX7 25 (TX7 8).1 (TX7 8).2.1 (TX7 8).2.2.1 ∈ wsX7_layChain := by decide +kernel
theorem fl_X7_layChain_28 : Cond.fieldLink RX7 28 (TX7 9).1 (TX7 9).2.1 (TX7 9).2.2.1 ∈ wsX7_layChain := by decide +kernel
set_option maxRecDepth 20000 in
theorem bk_X7_layChain_0 (X : k9_X p R s m args c A G 5 cX7_layChain wsX7_layChain RX7 rm_X7_layChain) {a0 a1 a2 : Int32}
    (o1 : vp_in a1 96)
    (o2 : vp_in a2 96)
    (l1 : k9_U p l e R s m args below meth c Q A G 5 0 0 (k9_st (k9_st M 81 a1.toNatClampNeg ((M 81 a1.toNatClampNeg) ||| ((1 : Int32) <<< (a0 &&& 31)))) 82 a2.toNatClampNeg ((M 82 a2.toNatClampNeg) ||| ((1 : Int32) <<< (a0 &&& 31)))) 27 [(0, .ref (k9_ga G 76)), (1, .int a0), (3, .int a2), (4, .int a1)] []) : k9_U p l e R s m args below meth c Q A G 5 0 0 M 0 [(0, .ref (k9_ga G 76)), (1, .int a0), (2, .int a1), (3, .int a2)] [] := by
  refine k9_aload_n X dX7_layChain_0 rfl 0 rfl ?_
  refine k9_gX7_7 X in_X7_layChain_X7 fl_X7_layChain_22 dX7_layChain_1 ?_
  refine k9_iload_n X dX7_layChain_4 rfl 2 rfl ?_
  refine k9_dup2 X dX7_layChain_5 rfl rfl ?_
  refine k9_iald X (by decide) o1 (by rfl) dX7_layChain_6 ?_
  refine k9_iconst (v := 1) X dX7_layChain_7 (by decide) ?_
  refine k9_iload_n X dX7_layChain_8 rfl 1 rfl ?_
  refine k9_ishl X dX7_layChain_9 ?_
  refine k9_ior X dX7_layChain_10 ?_
  refine k9_iast X (by decide) o1 dX7_layChain_11 ?_
  refine k9_aload_n X dX7_layChain_12 rfl 0 rfl ?_
  refine k9_gX7_8 X in_X7_layChain_X7 fl_X7_layChain_25 dX7_layChain_13 ?_
  refine k9_iload_n X dX7_layChain_16 rfl 3 rfl ?_
  refine k9_dup2 X dX7_layChain_17 rfl rfl ?_
  refine k9_iald (v := (M 82 a2.toNatClampNeg)) X (by decide) o2 (by rfl) dX7_layChain_18 ?_
  refine k9_iconst (v := 1) X dX7_layChain_19 (by decide) ?_
  refine k9_iload_n X dX7_layChain_20 rfl 1 rfl ?_
  refine k9_ishl X dX7_layChain_21 ?_
  refine k9_ior X dX7_layChain_22 ?_
  refine k9_iast X (by decide) o2 dX7_layChain_23 ?_
  refine k9_iload_n X dX7_layChain_24 rfl 2 rfl ?_
  refine k9_istore (lv' := [(0, .ref (k9_ga G 76)), (1, .int a0), (2, .int a1), (3, .int a2), (4, .int a1)]) X dX7_layChain_25 (by decide) [1, 2, 3, 4, 0] rfl ?_
  refine k9_sub (lv' := [(0, .ref (k9_ga G 76)), (1, .int a0), (3, .int a2), (4, .int a1)]) [0, 1, 3, 4] rfl ?_
  exact l1

set_option maxRecDepth 20000 in
theorem bk_X7_layChain_27 (X : k9_X p R s m args c A G 5 cX7_layChain wsX7_layChain RX7 rm_X7_layChain) {x1 x3 x4 : Int32}
    (l1 : (x3 < x4) → k9_U p l e R s m args below meth c Q A G 5 0 0 M 52 [] [])
    (o1 : (¬ (x3 < x4)) → vp_in x4 96)
    (l2 : (¬ (x3 < x4)) → k9_U p l e R s m args below meth c Q A G 5 0 0 (k9_st M 83 x4.toNatClampNeg ((M 83 x4.toNatClampNeg) ||| ((1 : Int32) <<< (x1 &&& 31)))) 27 [(0, .ref (k9_ga G 76)), (1, .int x1), (3, .int x3), (4, .int (x4 + (1 : Int32)))] []) : k9_U p l e R s m args below meth c Q A G 5 0 0 M 27 [(0, .ref (k9_ga G 76)), (1, .int x1), (3, .int x3), (4, .int x4)] [] := by
  refine k9_iload X dX7_layChain_27 3 rfl ?_
  refine k9_iload_n X dX7_layChain_29 rfl 2 rfl ?_
  refine k9_icmp_gt (tgt := 52) X dX7_layChain_30 (by decide) (fun c1 => ?_) (fun c1 => ?_)
  · refine k9_sub (lv' := []) [] rfl ?_
    exact (l1 c1)
  · refine k9_aload_n X dX7_layChain_33 rfl 0 rfl ?_
    refine k9_gX7_9 X in_X7_layChain_X7 fl_X7_layChain_28 dX7_layChain_34 ?_
    refine k9_iload X dX7_layChain_37 3 rfl ?_
    refine k9_dup2 X dX7_layChain_39 rfl rfl ?_
    refine k9_iald X (by decide) (o1 c1) (by rfl) dX7_layChain_40 ?_
    refine k9_iconst (v := 1) X dX7_layChain_41 (by decide) ?_
    refine k9_iload_n X dX7_layChain_42 rfl 1 rfl ?_
    refine k9_ishl X dX7_layChain_43 ?_
    refine k9_ior X dX7_layChain_44 ?_
    refine k9_iast X (by decide) (o1 c1) dX7_layChain_45 ?_
    refine k9_iinc (v := x4 + (1 : Int32)) (lv' := [(0, .ref (k9_ga G 76)), (1, .int x1), (3, .int x3), (4, .int (x4 + (1 : Int32)))]) X dX7_layChain_46 (k := 3) rfl (by rfl) (by decide) [1, 2, 3, 0] rfl ?_
    refine k9_goto (tgt := 27) X dX7_layChain_49 (by decide) ?_
    exact (l2 c1)

theorem in_X7_layChains_X7 : ∀ w ∈ u_ws RX7 TX7 19, w ∈ wsX7_layChains := by decide +kernel
theorem fl_X7_layChains_19 : Cond.fieldLink RX7 19 (TX7 6).1 (TX7 6).2.1 (TX7 6).2.2.1 ∈ wsX7_layChains := by decide +kernel
theorem fl_X7_layChains_7 : Cond.fieldLink RX7 7 (TX7 0).1 (TX7 0).2.1 (TX7 0).2.2.1 ∈ wsX7_layChains := by decide +kernel
set_option maxRecDepth 20000 in
theorem bk_X7_layChains_0 (X : k9_X p R s m args c A G 5 cX7_layChains wsX7_layChains RX7 rm_X7_layChains) {a0 : Int32}
    (l1 : k9_U p l e R s m args below meth c Q A G 5 0 0 M 7 [(0, .ref (k9_ga G 76)), (1, .int a0), (2, .int (-1 : Int32)), (3, .int (-1 : Int32)), (4, .int (0 : Int32))] []) : k9_U p l e R s m args below meth c Q A G 5 0 0 M 0 [(0, .ref (k9_ga G 76)), (1, .int a0)] [] := by
  refine k9_iconst (v := -1) X dX7_layChains_0 (by decide) ?_
  refine k9_istore_n (lv' := [(0, .ref (k9_ga G 76)), (1, .int a0), (2, .int (-1 : Int32))]) X dX7_layChains_1 rfl (by decide) [1, 2, 0] rfl ?_
  refine k9_iconst (v := -1) X dX7_layChains_2 (by decide) ?_
  refine k9_istore_n (lv' := [(0, .ref (k9_ga G 76)), (1, .int a0), (2, .int (-1 : Int32)), (3, .int (-1 : Int32))]) X dX7_layChains_3 rfl (by decide) [1, 2, 3, 0] rfl ?_
  refine k9_iconst (v := 0) X dX7_layChains_4 (by decide) ?_
  refine k9_istore (lv' := [(0, .ref (k9_ga G 76)), (1, .int a0), (2, .int (-1 : Int32)), (3, .int (-1 : Int32)), (4, .int (0 : Int32))]) X dX7_layChains_5 (by decide) [1, 2, 3, 4, 0] rfl ?_
  exact l1

set_option maxRecDepth 20000 in
theorem bk_X7_layChains_7 (X : k9_X p R s m args c A G 5 cX7_layChains wsX7_layChains RX7 rm_X7_layChains) {x1 x2 x3 x4 : Int32} {mv1 : k9_Mem} {mv2 : k9_Mem}
    (l1 : ((96 : Int32) ≤ x4) → (x2 = (-1 : Int32)) → k9_U p l e R s m args below meth c Q A G 5 0 0 M 94 [] [])
    (k1 : ((96 : Int32) ≤ x4) → (¬ (x2 = (-1 : Int32))) → k9_Cv l yX7_layChain wsX7_layChain rm_X7_layChain G M [.ref (k9_ga G 76), .int x1, .int x2, .int x3] mv1)
    (l2 : ((96 : Int32) ≤ x4) → (¬ (x2 = (-1 : Int32))) → k9_U p l e R s m args below meth c Q A G 5 0 0 mv1 94 [] [])
    (o1 : (¬ ((96 : Int32) ≤ x4)) → vp_in x4 96)
    (l3 : (¬ ((96 : Int32) ≤ x4)) → (¬ (((M 80 x4.toNatClampNeg) >>> (x1 &&& 31)) &&& (1 : Int32)) = (1 : Int32)) → k9_U p l e R s m args below meth c Q A G 5 0 0 M 7 [(0, .ref (k9_ga G 76)), (1, .int x1), (2, .int x2), (3, .int x3), (4, .int (x4 + (1 : Int32)))] [])
    (l4 : (¬ ((96 : Int32) ≤ x4)) → ((((M 80 x4.toNatClampNeg) >>> (x1 &&& 31)) &&& (1 : Int32)) = (1 : Int32)) → (x2 = (-1 : Int32)) → k9_U p l e R s m args below meth c Q A G 5 0 0 M 7 [(0, .ref (k9_ga G 76)), (1, .int x1), (2, .int x4), (3, .int x4), (4, .int (x4 + (1 : Int32)))] [])
    (l5 : (¬ ((96 : Int32) ≤ x4)) → ((((M 80 x4.toNatClampNeg) >>> (x1 &&& 31)) &&& (1 : Int32)) = (1 : Int32)) → (¬ (x2 = (-1 : Int32))) → ((x4 - x3) ≤ ((M 77 384) + (1 : Int32))) → (¬ x2 = (-1 : Int32)) → k9_U p l e R s m args below meth c Q A G 5 0 0 M 7 [(0, .ref (k9_ga G 76)), (1, .int x1), (2, .int x2), (3, .int x4), (4, .int (x4 + (1 : Int32)))] [])
    (l6 : (¬ ((96 : Int32) ≤ x4)) → ((((M 80 x4.toNatClampNeg) >>> (x1 &&& 31)) &&& (1 : Int32)) = (1 : Int32)) → (¬ (x2 = (-1 : Int32))) → ((x4 - x3) ≤ ((M 77 384) + (1 : Int32))) → (x2 = (-1 : Int32)) → k9_U p l e R s m args below meth c Q A G 5 0 0 M 7 [(0, .ref (k9_ga G 76)), (1, .int x1), (2, .int x4), (3, .int x4), (4, .int (x4 + (1 : Int32)))] [])
    (k2 : (¬ ((96 : Int32) ≤ x4)) → ((((M 80 x4.toNatClampNeg) >>> (x1 &&& 31)) &&& (1 : Int32)) = (1 : Int32)) → (¬ (x2 = (-1 : Int32))) → (¬ ((x4 - x3) ≤ ((M 77 384) + (1 : Int32)))) → k9_Cv l yX7_layChain wsX7_layChain rm_X7_layChain G M [.ref (k9_ga G 76), .int x1, .int x2, .int x3] mv2)
    (l7 : (¬ ((96 : Int32) ≤ x4)) → ((((M 80 x4.toNatClampNeg) >>> (x1 &&& 31)) &&& (1 : Int32)) = (1 : Int32)) → (¬ (x2 = (-1 : Int32))) → (¬ ((x4 - x3) ≤ ((M 77 384) + (1 : Int32)))) → (¬ x4 = (-1 : Int32)) → k9_U p l e R s m args below meth c Q A G 5 0 0 mv2 7 [(0, .ref (k9_ga G 76)), (1, .int x1), (2, .int x4), (3, .int x4), (4, .int (x4 + (1 : Int32)))] [])
    (l8 : (¬ ((96 : Int32) ≤ x4)) → ((((M 80 x4.toNatClampNeg) >>> (x1 &&& 31)) &&& (1 : Int32)) = (1 : Int32)) → (¬ (x2 = (-1 : Int32))) → (¬ ((x4 - x3) ≤ ((M 77 384) + (1 : Int32)))) → (x4 = (-1 : Int32)) → k9_U p l e R s m args below meth c Q A G 5 0 0 mv2 7 [(0, .ref (k9_ga G 76)), (1, .int x1), (2, .int x4), (3, .int x4), (4, .int (x4 + (1 : Int32)))] []) : k9_U p l e R s m args below meth c Q A G 5 0 0 M 7 [(0, .ref (k9_ga G 76)), (1, .int x1), (2, .int x2), (3, .int x3), (4, .int x4)] [] := by
  refine k9_iload X dX7_layChains_7 4 rfl ?_
  refine k9_bipush (v := 96) X dX7_layChains_9 (by decide) ?_
  refine k9_icmp_ge (tgt := 82) X dX7_layChains_11 (by decide) (fun c1 => ?_) (fun c1 => ?_)
  · refine k9_iload_n X dX7_layChains_82 rfl 2 rfl ?_
    refine k9_iconst (v := -1) X dX7_layChains_83 (by decide) ?_
    refine k9_icmp_eq (tgt := 94) X dX7_layChains_84 (by decide) (fun c2 => ?_) (fun c2 => ?_)
    · refine k9_sub (lv' := []) [] rfl ?_
      exact (l1 c1 c2)
    · refine k9_aload_n X dX7_layChains_87 rfl 0 rfl ?_
      refine k9_iload_n X dX7_layChains_88 rfl 1 rfl ?_
      refine k9_iload_n X dX7_layChains_89 rfl 2 rfl ?_
      refine k9_iload_n X dX7_layChains_90 rfl 3 rfl ?_
      refine k9_callVv3 X (k1 c1 c2) k9_ob_76 (cwV 3 X.2.2.2.2.1 gX7_layChains_X7_layChain rfl rfl rfl (by decide +kernel) ⟨Nat.le_of_ble_eq_true rfl, Nat.le_of_ble_eq_true rfl⟩) (Nat.le_of_ble_eq_true rfl) dX7_layChains_91 ⟨Nat.zero_le _, Nat.zero_le _⟩ ?_
      refine k9_sub (lv' := []) [] rfl ?_
      exact (l2 c1 c2)
  · refine k9_aload_n X dX7_layChains_14 rfl 0 rfl ?_
    refine k9_gX7_6 X in_X7_layChains_X7 fl_X7_layChains_19 dX7_layChains_15 ?_
    refine k9_iload X dX7_layChains_18 4 rfl ?_
    refine k9_iald X (by decide) (o1 c1) (by rfl) dX7_layChains_20 ?_
    refine k9_iload_n X dX7_layChains_21 rfl 1 rfl ?_
    refine k9_ishr X dX7_layChains_22 ?_
    refine k9_iconst (v := 1) X dX7_layChains_23 (by decide) ?_
    refine k9_iand X dX7_layChains_24 ?_
    refine k9_iconst (v := 1) X dX7_layChains_25 (by decide) ?_
    refine k9_icmp_ne (tgt := 76) X dX7_layChains_26 (by decide) (fun c3 => ?_) (fun c3 => ?_)
    · refine k9_iinc (v := x4 + (1 : Int32)) (lv' := [(0, .ref (k9_ga G 76)), (1, .int x1), (2, .int x2), (3, .int x3), (4, .int (x4 + (1 : Int32)))]) X dX7_layChains_76 (k := 4) rfl (by rfl) (by decide) [1, 2, 3, 4, 0] rfl ?_
      refine k9_goto (tgt := 7) X dX7_layChains_79 (by decide) ?_
      exact (l3 c1 c3)
    · refine k9_iload_n X dX7_layChains_29 rfl 2 rfl ?_
      refine k9_iconst (v := -1) X dX7_layChains_30 (by decide) ?_
      refine k9_icmp_eq (tgt := 61) X dX7_layChains_31 (by decide) (fun c4 => ?_) (fun c4 => ?_)
      · refine k9_iload_n X dX7_layChains_61 rfl 2 rfl ?_
        refine k9_iconst (v := -1) X dX7_layChains_62 (by decide) ?_
        refine k9_icmp_ne (tgt := 71) X dX7_layChains_63 (by decide) (fun c => absurd c4 c) (fun _ => ?_)
        refine k9_iload X dX7_layChains_66 4 rfl ?_
        refine k9_goto (tgt := 72) X dX7_layChains_68 (by decide) ?_
        refine k9_istore_n (lv' := [(0, .ref (k9_ga G 76)), (1, .int x1), (2, .int x4), (3, .int x3), (4, .int x4)]) X dX7_layChains_72 rfl (by decide) [1, 2, 0, 3, 4] rfl ?_
        refine k9_iload X dX7_layChains_73 4 rfl ?_
        refine k9_istore_n (lv' := [(0, .ref (k9_ga G 76)), (1, .int x1), (2, .int x4), (3, .int x4), (4, .int x4)]) X dX7_layChains_75 rfl (by decide) [1, 2, 3, 0, 4] rfl ?_
        refine k9_iinc (v := x4 + (1 : Int32)) (lv' := [(0, .ref (k9_ga G 76)), (1, .int x1), (2, .int x4), (3, .int x4), (4, .int (x4 + (1 : Int32)))]) X dX7_layChains_76 (k := 4) rfl (by rfl) (by decide) [1, 2, 3, 4, 0] rfl ?_
        refine k9_goto (tgt := 7) X dX7_layChains_79 (by decide) ?_
        exact (l4 c1 c3 c4)
      · refine k9_iload X dX7_layChains_34 4 rfl ?_
        refine k9_iload_n X dX7_layChains_36 rfl 3 rfl ?_
        refine k9_isub X dX7_layChains_37 ?_
        refine k9_aload_n X dX7_layChains_38 rfl 0 rfl ?_
        refine k9_gX7_0 X in_X7_layChains_X7 fl_X7_layChains_7 dX7_layChains_39 ?_
        refine k9_sipush (v := 384) X dX7_layChains_42 (by decide) ?_
        refine k9_ialdL (n := 578) (j := 384) X (by decide) (by decide) (by decide) (by decide) (by rfl) dX7_layChains_45 ?_
        refine k9_iconst (v := 1) X dX7_layChains_46 (by decide) ?_
        refine k9_iadd X dX7_layChains_47 ?_
        refine k9_icmp_le (tgt := 61) X dX7_layChains_48 (by decide) (fun c5 => ?_) (fun c5 => ?_)
        · refine k9_iload_n X dX7_layChains_61 rfl 2 rfl ?_
          refine k9_iconst (v := -1) X dX7_layChains_62 (by decide) ?_
          refine k9_icmp_ne (tgt := 71) X dX7_layChains_63 (by decide) (fun c6 => ?_) (fun c6 => ?_)
          · refine k9_iload_n X dX7_layChains_71 rfl 2 rfl ?_
            refine k9_istore_n (lv' := [(0, .ref (k9_ga G 76)), (1, .int x1), (2, .int x2), (3, .int x3), (4, .int x4)]) X dX7_layChains_72 rfl (by decide) [1, 2, 0, 3, 4] rfl ?_
            refine k9_iload X dX7_layChains_73 4 rfl ?_
            refine k9_istore_n (lv' := [(0, .ref (k9_ga G 76)), (1, .int x1), (2, .int x2), (3, .int x4), (4, .int x4)]) X dX7_layChains_75 rfl (by decide) [1, 2, 3, 0, 4] rfl ?_
            refine k9_iinc (v := x4 + (1 : Int32)) (lv' := [(0, .ref (k9_ga G 76)), (1, .int x1), (2, .int x2), (3, .int x4), (4, .int (x4 + (1 : Int32)))]) X dX7_layChains_76 (k := 4) rfl (by rfl) (by decide) [1, 2, 3, 4, 0] rfl ?_
            refine k9_goto (tgt := 7) X dX7_layChains_79 (by decide) ?_
            exact (l5 c1 c3 c4 c5 c6)
          · refine k9_iload X dX7_layChains_66 4 rfl ?_
            refine k9_goto (tgt := 72) X dX7_layChains_68 (by decide) ?_
            refine k9_istore_n (lv' := [(0, .ref (k9_ga G 76)), (1, .int x1), (2, .int x4), (3, .int x3), (4, .int x4)]) X dX7_layChains_72 rfl (by decide) [1, 2, 0, 3, 4] rfl ?_
            refine k9_iload X dX7_layChains_73 4 rfl ?_
            refine k9_istore_n (lv' := [(0, .ref (k9_ga G 76)), (1, .int x1), (2, .int x4), (3, .int x4), (4, .int x4)]) X dX7_layChains_75 rfl (by decide) [1, 2, 3, 0, 4] rfl ?_
            refine k9_iinc (v := x4 + (1 : Int32)) (lv' := [(0, .ref (k9_ga G 76)), (1, .int x1), (2, .int x4), (3, .int x4), (4, .int (x4 + (1 : Int32)))]) X dX7_layChains_76 (k := 4) rfl (by rfl) (by decide) [1, 2, 3, 4, 0] rfl ?_
            refine k9_goto (tgt := 7) X dX7_layChains_79 (by decide) ?_
            exact (l6 c1 c3 c4 c5 c6)
        · refine k9_aload_n X dX7_layChains_51 rfl 0 rfl ?_
          refine k9_iload_n X dX7_layChains_52 rfl 1 rfl ?_
          refine k9_iload_n X dX7_layChains_53 rfl 2 rfl ?_
          refine k9_iload_n X dX7_layChains_54 rfl 3 rfl ?_
          refine k9_callVv3 X (k2 c1 c3 c4 c5) k9_ob_76 (cwV 3 X.2.2.2.2.1 gX7_layChains_X7_layChain rfl rfl rfl (by decide +kernel) ⟨Nat.le_of_ble_eq_true rfl, Nat.le_of_ble_eq_true rfl⟩) (Nat.le_of_ble_eq_true rfl) dX7_layChains_55 ⟨Nat.zero_le _, Nat.zero_le _⟩ ?_
          refine k9_iload X dX7_layChains_58 4 rfl ?_
          refine k9_istore_n (lv' := [(0, .ref (k9_ga G 76)), (1, .int x1), (2, .int x4), (3, .int x3), (4, .int x4)]) X dX7_layChains_60 rfl (by decide) [1, 2, 0, 3, 4] rfl ?_
          refine k9_iload_n X dX7_layChains_61 rfl 2 rfl ?_
          refine k9_iconst (v := -1) X dX7_layChains_62 (by decide) ?_
          refine k9_icmp_ne (tgt := 71) X dX7_layChains_63 (by decide) (fun c7 => ?_) (fun c7 => ?_)
          · refine k9_iload_n X dX7_layChains_71 rfl 2 rfl ?_
            refine k9_istore_n (lv' := [(0, .ref (k9_ga G 76)), (1, .int x1), (2, .int x4), (3, .int x3), (4, .int x4)]) X dX7_layChains_72 rfl (by decide) [1, 2, 0, 3, 4] rfl ?_
            refine k9_iload X dX7_layChains_73 4 rfl ?_
            refine k9_istore_n (lv' := [(0, .ref (k9_ga G 76)), (1, .int x1), (2, .int x4), (3, .int x4), (4, .int x4)]) X dX7_layChains_75 rfl (by decide) [1, 2, 3, 0, 4] rfl ?_
            refine k9_iinc (v := x4 + (1 : Int32)) (lv' := [(0, .ref (k9_ga G 76)), (1, .int x1), (2, .int x4), (3, .int x4), (4, .int (x4 + (1 : Int32)))]) X dX7_layChains_76 (k := 4) rfl (by rfl) (by decide) [1, 2, 3, 4, 0] rfl ?_
            refine k9_goto (tgt := 7) X dX7_layChains_79 (by decide) ?_
            exact (l7 c1 c3 c4 c5 c7)
          · refine k9_iload X dX7_layChains_66 4 rfl ?_
            refine k9_goto (tgt := 72) X dX7_layChains_68 (by decide) ?_
            refine k9_istore_n (lv' := [(0, .ref (k9_ga G 76)), (1, .int x1), (2, .int x4), (3, .int x3), (4, .int x4)]) X dX7_layChains_72 rfl (by decide) [1, 2, 0, 3, 4] rfl ?_
            refine k9_iload X dX7_layChains_73 4 rfl ?_
            refine k9_istore_n (lv' := [(0, .ref (k9_ga G 76)), (1, .int x1), (2, .int x4), (3, .int x4), (4, .int x4)]) X dX7_layChains_75 rfl (by decide) [1, 2, 3, 0, 4] rfl ?_
            refine k9_iinc (v := x4 + (1 : Int32)) (lv' := [(0, .ref (k9_ga G 76)), (1, .int x1), (2, .int x4), (3, .int x4), (4, .int (x4 + (1 : Int32)))]) X dX7_layChains_76 (k := 4) rfl (by rfl) (by decide) [1, 2, 3, 4, 0] rfl ?_
            refine k9_goto (tgt := 7) X dX7_layChains_79 (by decide) ?_
            exact (l8 c1 c3 c4 c5 c7)

set_option maxRecDepth 20000 in
theorem bk_X7_endFrom_0 (X : k9_X p R s m args c A G 4 cX7_endFrom wsX7_endFrom RX7 rm_X7_endFrom) {a1 a2 : Int32}
    (l1 : k9_U p l e R s m args below meth c Q A G 4 0 0 M 2 [(0, .ref (k9_ga G 82)), (1, .int a1), (3, .int a2)] []) : k9_U p l e R s m args below meth c Q A G 4 0 0 M 0 [(0, .ref (k9_ga G 82)), (1, .int a1), (2, .int a2)] [] := by
  refine k9_iload_n X dX7_endFrom_0 rfl 2 rfl ?_
  refine k9_istore_n (lv' := [(0, .ref (k9_ga G 82)), (1, .int a1), (2, .int a2), (3, .int a2)]) X dX7_endFrom_1 rfl (by decide) [1, 2, 3, 0] rfl ?_
  refine k9_sub (lv' := [(0, .ref (k9_ga G 82)), (1, .int a1), (3, .int a2)]) [0, 1, 3] rfl ?_
  exact l1

set_option maxRecDepth 20000 in
theorem bk_X7_endFrom_2 (X : k9_X p R s m args c A G 4 cX7_endFrom wsX7_endFrom RX7 rm_X7_endFrom) {x1 x3 : Int32}
    (o1 : vp_in x3 96)
    (l1 : (¬ (((M 82 x3.toNatClampNeg) >>> (x1 &&& 31)) &&& (1 : Int32)) = 0) → k9_U p l e R s m args below meth c Q A G 4 0 0 M 19 [] [.int x3])
    (l2 : ((((M 82 x3.toNatClampNeg) >>> (x1 &&& 31)) &&& (1 : Int32)) = 0) → k9_U p l e R s m args below meth c Q A G 4 0 0 M 2 [(0, .ref (k9_ga G 82)), (1, .int x1), (3, .int (x3 + (1 : Int32)))] []) : k9_U p l e R s m args below meth c Q A G 4 0 0 M 2 [(0, .ref (k9_ga G 82)), (1, .int x1), (3, .int x3)] [] := by
  refine k9_aload_n X dX7_endFrom_2 rfl 0 rfl ?_
  refine k9_iload_n X dX7_endFrom_3 rfl 2 rfl ?_
  refine k9_iald X (by decide) o1 (by rfl) dX7_endFrom_4 ?_
  refine k9_iload_n X dX7_endFrom_5 rfl 1 rfl ?_
  refine k9_ishr X dX7_endFrom_6 ?_
  refine k9_iconst (v := 1) X dX7_endFrom_7 (by decide) ?_
  refine k9_iand X dX7_endFrom_8 ?_
  refine k9_if_ne (tgt := 18) X dX7_endFrom_9 (by decide) (fun c1 => ?_) (fun c1 => ?_)
  · refine k9_iload_n X dX7_endFrom_18 rfl 2 rfl ?_
    refine k9_sub (lv' := []) [] rfl ?_
    exact (l1 c1)
  · refine k9_iinc (v := x3 + (1 : Int32)) (lv' := [(0, .ref (k9_ga G 82)), (1, .int x1), (3, .int (x3 + (1 : Int32)))]) X dX7_endFrom_12 (k := 2) rfl (by rfl) (by decide) [1, 2, 0] rfl ?_
    refine k9_goto (tgt := 2) X dX7_endFrom_15 (by decide) ?_
    exact (l2 c1)

theorem in_X7_lay_X7 : ∀ w ∈ u_ws RX7 TX7 19, w ∈ wsX7_lay := by decide +kernel
theorem fl_X7_lay_79 : Cond.fieldLink RX7 79 (TX7 13).1 (TX7 13).2.1 (TX7 13).2.2.1 ∈ wsX7_lay := by decide +kernel
theorem fl_X7_lay_22 : Cond.fieldLink RX7 22 (TX7 7).1 (TX7 7).2.1 (TX7 7).2.2.1 ∈ wsX7_lay := by decide +kernel
theorem fl_X7_lay_31 : Cond.fieldLink RX7 31 (TX7 10).1 (TX7 10).2.1 (TX7 10).2.2.1 ∈ wsX7_lay := by decide +kernel
theorem fl_X7_lay_34 : Cond.fieldLink RX7 34 (TX7 11).1 (TX7 11).2.1 (TX7 11).2.2.1 ∈ wsX7_lay := by decide +kernel
theorem fl_X7_lay_37 : Cond.fieldLink RX7 37 (TX7 12).1 (TX7 12).2.1 (TX7 12).2.2.1 ∈ wsX7_lay := by decide +kernel
theorem fl_X7_lay_25 : Cond.fieldLink RX7 25 (TX7 8).1 (TX7 8).2.1 (TX7 8).2.2.1 ∈ wsX7_lay := by decide +kernel
set_option maxRecDepth 20000 in
theorem bk_X7_lay_0 (X : k9_X p R s m args c A G 4 cX7_lay wsX7_lay RX7 rm_X7_lay) 
    (l1 : k9_U p l e R s m args below meth c Q A G 4 0 0 M 2 [(0, .ref (k9_ga G 76)), (1, .int (0 : Int32))] []) : k9_U p l e R s m args below meth c Q A G 4 0 0 M 0 [(0, .ref (k9_ga G 76))] [] := by
  refine k9_iconst (v := 0) X dX7_lay_0 (by decide) ?_
  refine k9_istore_n (lv' := [(0, .ref (k9_ga G 76)), (1, .int (0 : Int32))]) X dX7_lay_1 rfl (by decide) [1, 0] rfl ?_
  exact l1

set_option maxRecDepth 20000 in
theorem bk_X7_lay_2 (X : k9_X p R s m args c A G 4 cX7_lay wsX7_lay RX7 rm_X7_lay) {x1 : Int32} {mv1 : k9_Mem}
    (l1 : ((96 : Int32) ≤ x1) → k9_U p l e R s m args below meth c Q A G 4 0 0 M 21 [(0, .ref (k9_ga G 76)), (1, .int (0 : Int32))] [])
    (k1 : (¬ ((96 : Int32) ≤ x1)) → k9_Cv l yX7_layReads wsX7_layReads rm_X7_layReads G M [.ref (k9_ga G 76), .int x1] mv1)
    (l2 : (¬ ((96 : Int32) ≤ x1)) → k9_U p l e R s m args below meth c Q A G 4 0 0 mv1 2 [(0, .ref (k9_ga G 76)), (1, .int (x1 + (1 : Int32)))] []) : k9_U p l e R s m args below meth c Q A G 4 0 0 M 2 [(0, .ref (k9_ga G 76)), (1, .int x1)] [] := by
  refine k9_iload_n X dX7_lay_2 rfl 1 rfl ?_
  refine k9_bipush (v := 96) X dX7_lay_3 (by decide) ?_
  refine k9_icmp_ge (tgt := 19) X dX7_lay_5 (by decide) (fun c1 => ?_) (fun c1 => ?_)
  · refine k9_iconst (v := 0) X dX7_lay_19 (by decide) ?_
    refine k9_istore_n (lv' := [(0, .ref (k9_ga G 76)), (1, .int (0 : Int32))]) X dX7_lay_20 rfl (by decide) [1, 0] rfl ?_
    exact (l1 c1)
  · refine k9_aload_n X dX7_lay_8 rfl 0 rfl ?_
    refine k9_iload_n X dX7_lay_9 rfl 1 rfl ?_
    refine k9_callVv1 X (k1 c1) k9_ob_76 (cwV 1 X.2.2.2.2.1 gX7_lay_X7_layReads rfl rfl rfl (by decide +kernel) ⟨Nat.le_of_ble_eq_true rfl, Nat.le_of_ble_eq_true rfl⟩) (Nat.le_of_ble_eq_true rfl) dX7_lay_10 ⟨Nat.zero_le _, Nat.zero_le _⟩ ?_
    refine k9_iinc (v := x1 + (1 : Int32)) (lv' := [(0, .ref (k9_ga G 76)), (1, .int (x1 + (1 : Int32)))]) X dX7_lay_13 (k := 1) rfl (by rfl) (by decide) [1, 0] rfl ?_
    refine k9_goto (tgt := 2) X dX7_lay_16 (by decide) ?_
    exact (l2 c1)

set_option maxRecDepth 20000 in
theorem bk_X7_lay_21 (X : k9_X p R s m args c A G 4 cX7_lay wsX7_lay RX7 rm_X7_lay) {x1 : Int32} {mv1 : k9_Mem}
    (l1 : ((20 : Int32) < x1) → k9_U p l e R s m args below meth c Q A G 4 0 0 (k9_st M 76 13 (0 : Int32)) 45 [(0, .ref (k9_ga G 76)), (1, .int (0 : Int32))] [])
    (k1 : (¬ ((20 : Int32) < x1)) → k9_Cv l yX7_layChains wsX7_layChains rm_X7_layChains G M [.ref (k9_ga G 76), .int x1] mv1)
    (l2 : (¬ ((20 : Int32) < x1)) → k9_U p l e R s m args below meth c Q A G 4 0 0 mv1 21 [(0, .ref (k9_ga G 76)), (1, .int (x1 + (1 : Int32)))] []) : k9_U p l e R s m args below meth c Q A G 4 0 0 M 21 [(0, .ref (k9_ga G 76)), (1, .int x1)] [] := by
  refine k9_iload_n X dX7_lay_21 rfl 1 rfl ?_
  refine k9_bipush (v := 20) X dX7_lay_22 (by decide) ?_
  refine k9_icmp_gt (tgt := 38) X dX7_lay_24 (by decide) (fun c1 => ?_) (fun c1 => ?_)
  · refine k9_aload_n X dX7_lay_38 rfl 0 rfl ?_
    refine k9_iconst (v := 0) X dX7_lay_39 (by decide) ?_
    refine k9_pX7_13 X in_X7_lay_X7 fl_X7_lay_79 dX7_lay_40 ?_
    refine k9_iconst (v := 0) X dX7_lay_43 (by decide) ?_
    refine k9_istore_n (lv' := [(0, .ref (k9_ga G 76)), (1, .int (0 : Int32))]) X dX7_lay_44 rfl (by decide) [1, 0] rfl ?_
    exact (l1 c1)
  · refine k9_aload_n X dX7_lay_27 rfl 0 rfl ?_
    refine k9_iload_n X dX7_lay_28 rfl 1 rfl ?_
    refine k9_callVv1 X (k1 c1) k9_ob_76 (cwV 1 X.2.2.2.2.1 gX7_lay_X7_layChains rfl rfl rfl (by decide +kernel) ⟨Nat.le_of_ble_eq_true rfl, Nat.le_of_ble_eq_true rfl⟩) (Nat.le_of_ble_eq_true rfl) dX7_lay_29 ⟨Nat.zero_le _, Nat.zero_le _⟩ ?_
    refine k9_iinc (v := x1 + (1 : Int32)) (lv' := [(0, .ref (k9_ga G 76)), (1, .int (x1 + (1 : Int32)))]) X dX7_lay_32 (k := 1) rfl (by rfl) (by decide) [1, 0] rfl ?_
    refine k9_goto (tgt := 21) X dX7_lay_35 (by decide) ?_
    exact (l2 c1)

set_option maxRecDepth 20000 in
theorem bk_X7_lay_45 (X : k9_X p R s m args c A G 4 cX7_lay wsX7_lay RX7 rm_X7_lay) {x1 : Int32} {rv1 : Int32}
    (l1 : ((1920 : Int32) ≤ x1) → k9_U p l e R s m args below meth c Q A G 4 0 0 M 130 [] [])
    (o1 : (¬ ((1920 : Int32) ≤ x1)) → vp_in (x1 / (20 : Int32)) 96)
    (l2 : (¬ ((1920 : Int32) ≤ x1)) → (¬ (((M 81 (x1 / (20 : Int32)).toNatClampNeg) >>> ((x1 - x1 / (20 : Int32) * (20 : Int32)) &&& 31)) &&& (1 : Int32)) = (1 : Int32)) → k9_U p l e R s m args below meth c Q A G 4 0 0 M 45 [(0, .ref (k9_ga G 76)), (1, .int (x1 + (1 : Int32)))] [])
    (o2 : (¬ ((1920 : Int32) ≤ x1)) → ((((M 81 (x1 / (20 : Int32)).toNatClampNeg) >>> ((x1 - x1 / (20 : Int32) * (20 : Int32)) &&& 31)) &&& (1 : Int32)) = (1 : Int32)) → vp_in (M 76 13) 960)
    (k1 : (¬ ((1920 : Int32) ≤ x1)) → ((((M 81 (x1 / (20 : Int32)).toNatClampNeg) >>> ((x1 - x1 / (20 : Int32) * (20 : Int32)) &&& 31)) &&& (1 : Int32)) = (1 : Int32)) → k9_Ci l yX7_endFrom wsX7_endFrom rm_X7_endFrom G (k9_st (k9_st M 84 (M 76 13).toNatClampNeg (x1 - x1 / (20 : Int32) * (20 : Int32))) 85 (M 76 13).toNatClampNeg (x1 / (20 : Int32))) [.ref (k9_ga G 82), .int (x1 - x1 / (20 : Int32) * (20 : Int32)), .int (x1 / (20 : Int32))] rv1 (k9_st (k9_st M 84 (M 76 13).toNatClampNeg (x1 - x1 / (20 : Int32) * (20 : Int32))) 85 (M 76 13).toNatClampNeg (x1 / (20 : Int32))))
    (l3 : (¬ ((1920 : Int32) ≤ x1)) → ((((M 81 (x1 / (20 : Int32)).toNatClampNeg) >>> ((x1 - x1 / (20 : Int32) * (20 : Int32)) &&& 31)) &&& (1 : Int32)) = (1 : Int32)) → k9_U p l e R s m args below meth c Q A G 4 0 0 (k9_st (k9_st (k9_st (k9_st M 84 (M 76 13).toNatClampNeg (x1 - x1 / (20 : Int32) * (20 : Int32))) 85 (M 76 13).toNatClampNeg (x1 / (20 : Int32))) 86 (M 76 13).toNatClampNeg rv1) 76 13 ((M 76 13) + (1 : Int32))) 45 [(0, .ref (k9_ga G 76)), (1, .int (x1 + (1 : Int32)))] []) : k9_U p l e R s m args below meth c Q A G 4 0 0 M 45 [(0, .ref (k9_ga G 76)), (1, .int x1)] [] := by
  refine k9_iload_n X dX7_lay_45 rfl 1 rfl ?_
  refine k9_sipush (v := 1920) X dX7_lay_46 (by decide) ?_
  refine k9_icmp_ge (tgt := 130) X dX7_lay_49 (by decide) (fun c1 => ?_) (fun c1 => ?_)
  · refine k9_sub (lv' := []) [] rfl ?_
    exact (l1 c1)
  · refine k9_iload_n X dX7_lay_52 rfl 1 rfl ?_
    refine k9_bipush (v := 20) X dX7_lay_53 (by decide) ?_
    refine k9_idiv X dX7_lay_55 (by decide) ?_
    refine k9_istore_n (lv' := [(0, .ref (k9_ga G 76)), (1, .int x1), (2, .int (x1 / (20 : Int32)))]) X dX7_lay_56 rfl (by decide) [1, 2, 0] rfl ?_
    refine k9_iload_n X dX7_lay_57 rfl 1 rfl ?_
    refine k9_bipush (v := 20) X dX7_lay_58 (by decide) ?_
    refine k9_irem X dX7_lay_60 (by decide) ?_
    refine k9_istore_n (lv' := [(0, .ref (k9_ga G 76)), (1, .int x1), (2, .int (x1 / (20 : Int32))), (3, .int (x1 - x1 / (20 : Int32) * (20 : Int32)))]) X dX7_lay_61 rfl (by decide) [1, 2, 3, 0] rfl ?_
    refine k9_aload_n X dX7_lay_62 rfl 0 rfl ?_
    refine k9_gX7_7 X in_X7_lay_X7 fl_X7_lay_22 dX7_lay_63 ?_
    refine k9_iload_n X dX7_lay_66 rfl 2 rfl ?_
    refine k9_iald X (by decide) (o1 c1) (by rfl) dX7_lay_67 ?_
    refine k9_iload_n X dX7_lay_68 rfl 3 rfl ?_
    refine k9_ishr X dX7_lay_69 ?_
    refine k9_iconst (v := 1) X dX7_lay_70 (by decide) ?_
    refine k9_iand X dX7_lay_71 ?_
    refine k9_iconst (v := 1) X dX7_lay_72 (by decide) ?_
    refine k9_icmp_ne (tgt := 124) X dX7_lay_73 (by decide) (fun c2 => ?_) (fun c2 => ?_)
    · refine k9_iinc (v := x1 + (1 : Int32)) (lv' := [(0, .ref (k9_ga G 76)), (1, .int (x1 + (1 : Int32))), (2, .int (x1 / (20 : Int32))), (3, .int (x1 - x1 / (20 : Int32) * (20 : Int32)))]) X dX7_lay_124 (k := 1) rfl (by rfl) (by decide) [1, 0, 2, 3] rfl ?_
      refine k9_goto (tgt := 45) X dX7_lay_127 (by decide) ?_
      refine k9_sub (lv' := [(0, .ref (k9_ga G 76)), (1, .int (x1 + (1 : Int32)))]) [0, 1] rfl ?_
      exact (l2 c1 c2)
    · refine k9_aload_n X dX7_lay_76 rfl 0 rfl ?_
      refine k9_gX7_10 X in_X7_lay_X7 fl_X7_lay_31 dX7_lay_77 ?_
      refine k9_aload_n X dX7_lay_80 rfl 0 rfl ?_
      refine k9_gX7_13 X (by rfl) in_X7_lay_X7 fl_X7_lay_79 dX7_lay_81 ?_
      refine k9_iload_n X dX7_lay_84 rfl 3 rfl ?_
      refine k9_iast X (by decide) (o2 c1 c2) dX7_lay_85 ?_
      refine k9_aload_n X dX7_lay_86 rfl 0 rfl ?_
      refine k9_gX7_11 X in_X7_lay_X7 fl_X7_lay_34 dX7_lay_87 ?_
      refine k9_aload_n X dX7_lay_90 rfl 0 rfl ?_
      refine k9_gX7_13 (v := (M 76 13)) X (by rfl) in_X7_lay_X7 fl_X7_lay_79 dX7_lay_91 ?_
      refine k9_iload_n X dX7_lay_94 rfl 2 rfl ?_
      refine k9_iast X (by decide) (o2 c1 c2) dX7_lay_95 ?_
      refine k9_aload_n X dX7_lay_96 rfl 0 rfl ?_
      refine k9_gX7_12 X in_X7_lay_X7 fl_X7_lay_37 dX7_lay_97 ?_
      refine k9_aload_n X dX7_lay_100 rfl 0 rfl ?_
      refine k9_gX7_13 (v := (M 76 13)) X (by rfl) in_X7_lay_X7 fl_X7_lay_79 dX7_lay_101 ?_
      refine k9_aload_n X dX7_lay_104 rfl 0 rfl ?_
      refine k9_gX7_8 X in_X7_lay_X7 fl_X7_lay_25 dX7_lay_105 ?_
      refine k9_iload_n X dX7_lay_108 rfl 3 rfl ?_
      refine k9_iload_n X dX7_lay_109 rfl 2 rfl ?_
      refine k9_callSi3 X (k1 c1 c2)  (va_cwS 3 X.2.2.2.2.1 gX7_lay_X7_endFrom rfl rfl rfl (by decide +kernel) ⟨Nat.le_of_ble_eq_true rfl, Nat.le_of_ble_eq_true rfl⟩) (Nat.le_of_ble_eq_true rfl) dX7_lay_110 ⟨Nat.zero_le _, Nat.zero_le _⟩ ?_
      refine k9_iast X (by decide) (o2 c1 c2) dX7_lay_113 ?_
      refine k9_aload_n X dX7_lay_114 rfl 0 rfl ?_
      refine k9_dup X dX7_lay_115 rfl ?_
      refine k9_gX7_13 (v := (M 76 13)) X (by rfl) in_X7_lay_X7 fl_X7_lay_79 dX7_lay_116 ?_
      refine k9_iconst (v := 1) X dX7_lay_119 (by decide) ?_
      refine k9_iadd X dX7_lay_120 ?_
      refine k9_pX7_13 X in_X7_lay_X7 fl_X7_lay_79 dX7_lay_121 ?_
      refine k9_iinc (v := x1 + (1 : Int32)) (lv' := [(0, .ref (k9_ga G 76)), (1, .int (x1 + (1 : Int32))), (2, .int (x1 / (20 : Int32))), (3, .int (x1 - x1 / (20 : Int32) * (20 : Int32)))]) X dX7_lay_124 (k := 1) rfl (by rfl) (by decide) [1, 0, 2, 3] rfl ?_
      refine k9_goto (tgt := 45) X dX7_lay_127 (by decide) ?_
      refine k9_sub (lv' := [(0, .ref (k9_ga G 76)), (1, .int (x1 + (1 : Int32)))]) [0, 1] rfl ?_
      exact (l3 c1 c2)

theorem in_X7_tuneLast_X7 : ∀ w ∈ u_ws RX7 TX7 19, w ∈ wsX7_tuneLast := by decide +kernel
theorem fl_X7_tuneLast_7 : Cond.fieldLink RX7 7 (TX7 0).1 (TX7 0).2.1 (TX7 0).2.2.1 ∈ wsX7_tuneLast := by decide +kernel
set_option maxRecDepth 20000 in
theorem bk_X7_tuneLast_0 (X : k9_X p R s m args c A G 4 cX7_tuneLast wsX7_tuneLast RX7 rm_X7_tuneLast) {a0 a1 : Int32}
    (o1 : vp_in ((386 : Int32) + a1) 578)
    (l1 : (¬ (((M 77 ((386 : Int32) + a1).toNatClampNeg) >>> (a0 &&& 31)) &&& (1 : Int32)) = 0) → k9_U p l e R s m args below meth c Q A G 4 0 0 M 21 [(0, .ref (k9_ga G 76)), (1, .int a0), (3, .int a1)] [])
    (l2 : ((((M 77 ((386 : Int32) + a1).toNatClampNeg) >>> (a0 &&& 31)) &&& (1 : Int32)) = 0) → k9_U p l e R s m args below meth c Q A G 4 0 0 M 18 [] [.int (-1 : Int32)]) : k9_U p l e R s m args below meth c Q A G 4 0 0 M 0 [(0, .ref (k9_ga G 76)), (1, .int a0), (2, .int a1)] [] := by
  refine k9_aload_n X dX7_tuneLast_0 rfl 0 rfl ?_
  refine k9_gX7_0 X in_X7_tuneLast_X7 fl_X7_tuneLast_7 dX7_tuneLast_1 ?_
  refine k9_sipush (v := 386) X dX7_tuneLast_4 (by decide) ?_
  refine k9_iload_n X dX7_tuneLast_7 rfl 2 rfl ?_
  refine k9_iadd X dX7_tuneLast_8 ?_
  refine k9_iald X (by decide) o1 (by rfl) dX7_tuneLast_9 ?_
  refine k9_iload_n X dX7_tuneLast_10 rfl 1 rfl ?_
  refine k9_ishr X dX7_tuneLast_11 ?_
  refine k9_iconst (v := 1) X dX7_tuneLast_12 (by decide) ?_
  refine k9_iand X dX7_tuneLast_13 ?_
  refine k9_if_ne (tgt := 19) X dX7_tuneLast_14 (by decide) (fun c1 => ?_) (fun c1 => ?_)
  · refine k9_iload_n X dX7_tuneLast_19 rfl 2 rfl ?_
    refine k9_istore_n (lv' := [(0, .ref (k9_ga G 76)), (1, .int a0), (2, .int a1), (3, .int a1)]) X dX7_tuneLast_20 rfl (by decide) [1, 2, 3, 0] rfl ?_
    refine k9_sub (lv' := [(0, .ref (k9_ga G 76)), (1, .int a0), (3, .int a1)]) [0, 1, 3] rfl ?_
    exact (l1 c1)
  · refine k9_iconst (v := -1) X dX7_tuneLast_17 (by decide) ?_
    refine k9_sub (lv' := []) [] rfl ?_
    exact (l2 c1)

set_option maxRecDepth 20000 in
theorem bk_X7_tuneLast_21 (X : k9_X p R s m args c A G 4 cX7_tuneLast wsX7_tuneLast RX7 rm_X7_tuneLast) {x1 x3 : Int32}
    (o1 : vp_in ((482 : Int32) + x3) 578)
    (l1 : (¬ (((M 77 ((482 : Int32) + x3).toNatClampNeg) >>> (x1 &&& 31)) &&& (1 : Int32)) = 0) → k9_U p l e R s m args below meth c Q A G 4 0 0 M 45 [] [.int x3])
    (l2 : ((((M 77 ((482 : Int32) + x3).toNatClampNeg) >>> (x1 &&& 31)) &&& (1 : Int32)) = 0) → k9_U p l e R s m args below meth c Q A G 4 0 0 M 21 [(0, .ref (k9_ga G 76)), (1, .int x1), (3, .int (x3 + (1 : Int32)))] []) : k9_U p l e R s m args below meth c Q A G 4 0 0 M 21 [(0, .ref (k9_ga G 76)), (1, .int x1), (3, .int x3)] [] := by
  refine k9_aload_n X dX7_tuneLast_21 rfl 0 rfl ?_
  refine k9_gX7_0 X in_X7_tuneLast_X7 fl_X7_tuneLast_7 dX7_tuneLast_22 ?_
  refine k9_sipush (v := 482) X dX7_tuneLast_25 (by decide) ?_
  refine k9_iload_n X dX7_tuneLast_28 rfl 2 rfl ?_
  refine k9_iadd X dX7_tuneLast_29 ?_
  refine k9_iald X (by decide) o1 (by rfl) dX7_tuneLast_30 ?_
  refine k9_iload_n X dX7_tuneLast_31 rfl 1 rfl ?_
  refine k9_ishr X dX7_tuneLast_32 ?_
  refine k9_iconst (v := 1) X dX7_tuneLast_33 (by decide) ?_
  refine k9_iand X dX7_tuneLast_34 ?_
  refine k9_if_ne (tgt := 44) X dX7_tuneLast_35 (by decide) (fun c1 => ?_) (fun c1 => ?_)
  · refine k9_iload_n X dX7_tuneLast_44 rfl 2 rfl ?_
    refine k9_sub (lv' := []) [] rfl ?_
    exact (l1 c1)
  · refine k9_iinc (v := x3 + (1 : Int32)) (lv' := [(0, .ref (k9_ga G 76)), (1, .int x1), (3, .int (x3 + (1 : Int32)))]) X dX7_tuneLast_38 (k := 2) rfl (by rfl) (by decide) [1, 2, 0] rfl ?_
    refine k9_goto (tgt := 21) X dX7_tuneLast_41 (by decide) ?_
    exact (l2 c1)

theorem in_X7_isRight_X7 : ∀ w ∈ u_ws RX7 TX7 19, w ∈ wsX7_isRight := by decide +kernel
theorem fl_X7_isRight_31 : Cond.fieldLink RX7 31 (TX7 10).1 (TX7 10).2.1 (TX7 10).2.2.1 ∈ wsX7_isRight := by decide +kernel
theorem fl_X7_isRight_34 : Cond.fieldLink RX7 34 (TX7 11).1 (TX7 11).2.1 (TX7 11).2.2.1 ∈ wsX7_isRight := by decide +kernel
theorem fl_X7_isRight_37 : Cond.fieldLink RX7 37 (TX7 12).1 (TX7 12).2.1 (TX7 12).2.2.1 ∈ wsX7_isRight := by decide +kernel
set_option maxRecDepth 20000 in
theorem bk_X7_isRight_0 (X : k9_X p R s m args c A G 2 cX7_isRight wsX7_isRight RX7 rm_X7_isRight) {a0 : Int32} {rv1 : Int32}
    (o1 : vp_in a0 960)
    (k1 : k9_Ci l yX7_tuneLast wsX7_tuneLast rm_X7_tuneLast G M [.ref (k9_ga G 76), .int (M 84 a0.toNatClampNeg), .int (M 85 a0.toNatClampNeg)] rv1 M)
    (l1 : (¬ rv1 = (M 86 a0.toNatClampNeg)) → k9_U p l e R s m args below meth c Q A G 2 0 0 M 30 [] [.int (0 : Int32)])
    (l2 : (rv1 = (M 86 a0.toNatClampNeg)) → k9_U p l e R s m args below meth c Q A G 2 0 0 M 30 [] [.int (1 : Int32)]) : k9_U p l e R s m args below meth c Q A G 2 0 0 M 0 [(0, .ref (k9_ga G 76)), (1, .int a0)] [] := by
  refine k9_aload_n X dX7_isRight_0 rfl 0 rfl ?_
  refine k9_aload_n X dX7_isRight_1 rfl 0 rfl ?_
  refine k9_gX7_10 X in_X7_isRight_X7 fl_X7_isRight_31 dX7_isRight_2 ?_
  refine k9_iload_n X dX7_isRight_5 rfl 1 rfl ?_
  refine k9_iald X (by decide) o1 (by rfl) dX7_isRight_6 ?_
  refine k9_aload_n X dX7_isRight_7 rfl 0 rfl ?_
  refine k9_gX7_11 X in_X7_isRight_X7 fl_X7_isRight_34 dX7_isRight_8 ?_
  refine k9_iload_n X dX7_isRight_11 rfl 1 rfl ?_
  refine k9_iald X (by decide) o1 (by rfl) dX7_isRight_12 ?_
  refine k9_callVi2 X k1 k9_ob_76 (cwV 2 X.2.2.2.2.1 gX7_isRight_X7_tuneLast rfl rfl rfl (by decide +kernel) ⟨Nat.le_of_ble_eq_true rfl, Nat.le_of_ble_eq_true rfl⟩) (Nat.le_of_ble_eq_true rfl) dX7_isRight_13 ⟨Nat.zero_le _, Nat.zero_le _⟩ ?_
  refine k9_aload_n X dX7_isRight_16 rfl 0 rfl ?_
  refine k9_gX7_12 X in_X7_isRight_X7 fl_X7_isRight_37 dX7_isRight_17 ?_
  refine k9_iload_n X dX7_isRight_20 rfl 1 rfl ?_
  refine k9_iald X (by decide) o1 (by rfl) dX7_isRight_21 ?_
  refine k9_icmp_ne (tgt := 29) X dX7_isRight_22 (by decide) (fun c1 => ?_) (fun c1 => ?_)
  · refine k9_iconst (v := 0) X dX7_isRight_29 (by decide) ?_
    refine k9_sub (lv' := []) [] rfl ?_
    exact (l1 c1)
  · refine k9_iconst (v := 1) X dX7_isRight_25 (by decide) ?_
    refine k9_goto (tgt := 30) X dX7_isRight_26 (by decide) ?_
    refine k9_sub (lv' := []) [] rfl ?_
    exact (l2 c1)

theorem in_X7_rights_X7 : ∀ w ∈ u_ws RX7 TX7 19, w ∈ wsX7_rights := by decide +kernel
theorem fl_X7_rights_79 : Cond.fieldLink RX7 79 (TX7 13).1 (TX7 13).2.1 (TX7 13).2.2.1 ∈ wsX7_rights := by decide +kernel
set_option maxRecDepth 20000 in
theorem bk_X7_rights_0 (X : k9_X p R s m args c A G 3 cX7_rights wsX7_rights RX7 rm_X7_rights) 
    (l1 : k9_U p l e R s m args below meth c Q A G 3 0 0 M 4 [(0, .ref (k9_ga G 76)), (1, .int (0 : Int32)), (2, .int (0 : Int32))] []) : k9_U p l e R s m args below meth c Q A G 3 0 0 M 0 [(0, .ref (k9_ga G 76))] [] := by
  refine k9_iconst (v := 0) X dX7_rights_0 (by decide) ?_
  refine k9_istore_n (lv' := [(0, .ref (k9_ga G 76)), (1, .int (0 : Int32))]) X dX7_rights_1 rfl (by decide) [1, 0] rfl ?_
  refine k9_iconst (v := 0) X dX7_rights_2 (by decide) ?_
  refine k9_istore_n (lv' := [(0, .ref (k9_ga G 76)), (1, .int (0 : Int32)), (2, .int (0 : Int32))]) X dX7_rights_3 rfl (by decide) [1, 2, 0] rfl ?_
  exact l1

set_option maxRecDepth 20000 in
theorem bk_X7_rights_4 (X : k9_X p R s m args c A G 3 cX7_rights wsX7_rights RX7 rm_X7_rights) {x1 x2 : Int32} {rv1 : Int32}
    (l1 : ((M 76 13) ≤ x2) → k9_U p l e R s m args below meth c Q A G 3 0 0 M 35 [] [.int x1])
    (k1 : (¬ ((M 76 13) ≤ x2)) → k9_Ci l yX7_isRight wsX7_isRight rm_X7_isRight G M [.ref (k9_ga G 76), .int x2] rv1 M)
    (l2 : (¬ ((M 76 13) ≤ x2)) → (rv1 = 0) → k9_U p l e R s m args below meth c Q A G 3 0 0 M 4 [(0, .ref (k9_ga G 76)), (1, .int (x1 + (0 : Int32))), (2, .int (x2 + (1 : Int32)))] [])
    (l3 : (¬ ((M 76 13) ≤ x2)) → (¬ (rv1 = 0)) → k9_U p l e R s m args below meth c Q A G 3 0 0 M 4 [(0, .ref (k9_ga G 76)), (1, .int (x1 + (1 : Int32))), (2, .int (x2 + (1 : Int32)))] []) : k9_U p l e R s m args below meth c Q A G 3 0 0 M 4 [(0, .ref (k9_ga G 76)), (1, .int x1), (2, .int x2)] [] := by
  refine k9_iload_n X dX7_rights_4 rfl 2 rfl ?_
  refine k9_aload_n X dX7_rights_5 rfl 0 rfl ?_
  refine k9_gX7_13 X (by rfl) in_X7_rights_X7 fl_X7_rights_79 dX7_rights_6 ?_
  refine k9_icmp_ge (tgt := 34) X dX7_rights_9 (by decide) (fun c1 => ?_) (fun c1 => ?_)
  · refine k9_iload_n X dX7_rights_34 rfl 1 rfl ?_
    refine k9_sub (lv' := []) [] rfl ?_
    exact (l1 c1)
  · refine k9_iload_n X dX7_rights_12 rfl 1 rfl ?_
    refine k9_aload_n X dX7_rights_13 rfl 0 rfl ?_
    refine k9_iload_n X dX7_rights_14 rfl 2 rfl ?_
    refine k9_callVi1 X (k1 c1) k9_ob_76 (cwV 1 X.2.2.2.2.1 gX7_rights_X7_isRight rfl rfl rfl (by decide +kernel) ⟨Nat.le_of_ble_eq_true rfl, Nat.le_of_ble_eq_true rfl⟩) (Nat.le_of_ble_eq_true rfl) dX7_rights_15 ⟨Nat.zero_le _, Nat.zero_le _⟩ ?_
    refine k9_if_eq (tgt := 25) X dX7_rights_18 (by decide) (fun c2 => ?_) (fun c2 => ?_)
    · refine k9_iconst (v := 0) X dX7_rights_25 (by decide) ?_
      refine k9_iadd X dX7_rights_26 ?_
      refine k9_istore_n (lv' := [(0, .ref (k9_ga G 76)), (1, .int (x1 + (0 : Int32))), (2, .int x2)]) X dX7_rights_27 rfl (by decide) [1, 0, 2] rfl ?_
      refine k9_iinc (v := x2 + (1 : Int32)) (lv' := [(0, .ref (k9_ga G 76)), (1, .int (x1 + (0 : Int32))), (2, .int (x2 + (1 : Int32)))]) X dX7_rights_28 (k := 2) rfl (by rfl) (by decide) [1, 2, 0] rfl ?_
      refine k9_goto (tgt := 4) X dX7_rights_31 (by decide) ?_
      exact (l2 c1 c2)
    · refine k9_iconst (v := 1) X dX7_rights_21 (by decide) ?_
      refine k9_goto (tgt := 26) X dX7_rights_22 (by decide) ?_
      refine k9_iadd X dX7_rights_26 ?_
      refine k9_istore_n (lv' := [(0, .ref (k9_ga G 76)), (1, .int (x1 + (1 : Int32))), (2, .int x2)]) X dX7_rights_27 rfl (by decide) [1, 0, 2] rfl ?_
      refine k9_iinc (v := x2 + (1 : Int32)) (lv' := [(0, .ref (k9_ga G 76)), (1, .int (x1 + (1 : Int32))), (2, .int (x2 + (1 : Int32)))]) X dX7_rights_28 (k := 2) rfl (by rfl) (by decide) [1, 2, 0] rfl ?_
      refine k9_goto (tgt := 4) X dX7_rights_31 (by decide) ?_
      exact (l3 c1 c2)

set_option maxRecDepth 20000 in
theorem bk_X7_rightsNow_0 (X : k9_X p R s m args c A G 1 cX7_rightsNow wsX7_rightsNow RX7 rm_X7_rightsNow) {mv1 : k9_Mem} {rv2 : Int32}
    (k1 : k9_Cv l yX7_lay wsX7_lay rm_X7_lay G M [.ref (k9_ga G 76)] mv1)
    (k2 : k9_Ci l yX7_rights wsX7_rights rm_X7_rights G mv1 [.ref (k9_ga G 76)] rv2 mv1)
    (l1 : k9_U p l e R s m args below meth c Q A G 1 0 0 mv1 8 [] [.int rv2]) : k9_U p l e R s m args below meth c Q A G 1 0 0 M 0 [(0, .ref (k9_ga G 76))] [] := by
  refine k9_aload_n X dX7_rightsNow_0 rfl 0 rfl ?_
  refine k9_callVv0 X k1 k9_ob_76 (cwV 0 X.2.2.2.2.1 gX7_rightsNow_X7_lay rfl rfl rfl (by decide +kernel) ⟨Nat.le_of_ble_eq_true rfl, Nat.le_of_ble_eq_true rfl⟩) (Nat.le_of_ble_eq_true rfl) dX7_rightsNow_1 ⟨Nat.zero_le _, Nat.zero_le _⟩ ?_
  refine k9_aload_n X dX7_rightsNow_4 rfl 0 rfl ?_
  refine k9_callVi0 X k2 k9_ob_76 (cwV 0 X.2.2.2.2.1 gX7_rightsNow_X7_rights rfl rfl rfl (by decide +kernel) ⟨Nat.le_of_ble_eq_true rfl, Nat.le_of_ble_eq_true rfl⟩) (Nat.le_of_ble_eq_true rfl) dX7_rightsNow_5 ⟨Nat.zero_le _, Nat.zero_le _⟩ ?_
  refine k9_sub (lv' := []) [] rfl ?_
  exact l1

theorem in_X7_tuneNotes_X7 : ∀ w ∈ u_ws RX7 TX7 19, w ∈ wsX7_tuneNotes := by decide +kernel
theorem fl_X7_tuneNotes_7 : Cond.fieldLink RX7 7 (TX7 0).1 (TX7 0).2.1 (TX7 0).2.2.1 ∈ wsX7_tuneNotes := by decide +kernel
set_option maxRecDepth 20000 in
theorem bk_X7_tuneNotes_0 (X : k9_X p R s m args c A G 3 cX7_tuneNotes wsX7_tuneNotes RX7 rm_X7_tuneNotes) 
    (l1 : k9_U p l e R s m args below meth c Q A G 3 0 0 M 4 [(0, .ref (k9_ga G 76)), (1, .int (0 : Int32)), (2, .int (0 : Int32))] []) : k9_U p l e R s m args below meth c Q A G 3 0 0 M 0 [(0, .ref (k9_ga G 76))] [] := by
  refine k9_iconst (v := 0) X dX7_tuneNotes_0 (by decide) ?_
  refine k9_istore_n (lv' := [(0, .ref (k9_ga G 76)), (1, .int (0 : Int32))]) X dX7_tuneNotes_1 rfl (by decide) [1, 0] rfl ?_
  refine k9_iconst (v := 0) X dX7_tuneNotes_2 (by decide) ?_
  refine k9_istore_n (lv' := [(0, .ref (k9_ga G 76)), (1, .int (0 : Int32)), (2, .int (0 : Int32))]) X dX7_tuneNotes_3 rfl (by decide) [1, 2, 0] rfl ?_
  exact l1

set_option maxRecDepth 20000 in
theorem bk_X7_tuneNotes_4 (X : k9_X p R s m args c A G 3 cX7_tuneNotes wsX7_tuneNotes RX7 rm_X7_tuneNotes) {x1 x2 : Int32} {rv1 : Int32}
    (l1 : ((96 : Int32) ≤ x2) → k9_U p l e R s m args below meth c Q A G 3 0 0 M 33 [] [.int x1])
    (o1 : (¬ ((96 : Int32) ≤ x2)) → vp_in ((386 : Int32) + x2) 578)
    (k1 : (¬ ((96 : Int32) ≤ x2)) → k9_Ci l yX7_ones wsX7_ones rm_X7_ones G M [.int (M 77 ((386 : Int32) + x2).toNatClampNeg)] rv1 M)
    (l2 : (¬ ((96 : Int32) ≤ x2)) → k9_U p l e R s m args below meth c Q A G 3 0 0 M 4 [(0, .ref (k9_ga G 76)), (1, .int (x1 + rv1)), (2, .int (x2 + (1 : Int32)))] []) : k9_U p l e R s m args below meth c Q A G 3 0 0 M 4 [(0, .ref (k9_ga G 76)), (1, .int x1), (2, .int x2)] [] := by
  refine k9_iload_n X dX7_tuneNotes_4 rfl 2 rfl ?_
  refine k9_bipush (v := 96) X dX7_tuneNotes_5 (by decide) ?_
  refine k9_icmp_ge (tgt := 32) X dX7_tuneNotes_7 (by decide) (fun c1 => ?_) (fun c1 => ?_)
  · refine k9_iload_n X dX7_tuneNotes_32 rfl 1 rfl ?_
    refine k9_sub (lv' := []) [] rfl ?_
    exact (l1 c1)
  · refine k9_iload_n X dX7_tuneNotes_10 rfl 1 rfl ?_
    refine k9_aload_n X dX7_tuneNotes_11 rfl 0 rfl ?_
    refine k9_gX7_0 X in_X7_tuneNotes_X7 fl_X7_tuneNotes_7 dX7_tuneNotes_12 ?_
    refine k9_sipush (v := 386) X dX7_tuneNotes_15 (by decide) ?_
    refine k9_iload_n X dX7_tuneNotes_18 rfl 2 rfl ?_
    refine k9_iadd X dX7_tuneNotes_19 ?_
    refine k9_iald X (by decide) (o1 c1) (by rfl) dX7_tuneNotes_20 ?_
    refine k9_callSi1 X (k1 c1)  (va_cwS 1 X.2.2.2.2.1 gX7_tuneNotes_X7_ones rfl rfl rfl (by decide +kernel) ⟨Nat.le_of_ble_eq_true rfl, Nat.le_of_ble_eq_true rfl⟩) (Nat.le_of_ble_eq_true rfl) dX7_tuneNotes_21 ⟨Nat.zero_le _, Nat.zero_le _⟩ ?_
    refine k9_iadd X dX7_tuneNotes_24 ?_
    refine k9_istore_n (lv' := [(0, .ref (k9_ga G 76)), (1, .int (x1 + rv1)), (2, .int x2)]) X dX7_tuneNotes_25 rfl (by decide) [1, 0, 2] rfl ?_
    refine k9_iinc (v := x2 + (1 : Int32)) (lv' := [(0, .ref (k9_ga G 76)), (1, .int (x1 + rv1)), (2, .int (x2 + (1 : Int32)))]) X dX7_tuneNotes_26 (k := 2) rfl (by rfl) (by decide) [1, 2, 0] rfl ?_
    refine k9_goto (tgt := 4) X dX7_tuneNotes_29 (by decide) ?_
    exact (l2 c1)

theorem in_X7_punchAt_X7 : ∀ w ∈ u_ws RX7 TX7 19, w ∈ wsX7_punchAt := by decide +kernel
theorem fl_X7_punchAt_7 : Cond.fieldLink RX7 7 (TX7 0).1 (TX7 0).2.1 (TX7 0).2.2.1 ∈ wsX7_punchAt := by decide +kernel
set_option maxRecDepth 20000 in
theorem bk_X7_punchAt_0 (X : k9_X p R s m args c A G 5 cX7_punchAt wsX7_punchAt RX7 rm_X7_punchAt) {a0 a1 : Int32}
    (o1 : vp_in ((0 : Int32) + a0) 578)
    (o2 : (¬ ((M 77 ((0 : Int32) + a0).toNatClampNeg) &&& ((1 : Int32) <<< (a1 &&& 31))) = 0) → vp_in ((96 : Int32) + a0) 578)
    (l1 : (¬ ((M 77 ((0 : Int32) + a0).toNatClampNeg) &&& ((1 : Int32) <<< (a1 &&& 31))) = 0) → k9_U p l e R s m args below meth c Q A G 5 0 0 (k9_st (k9_st M 77 ((0 : Int32) + a0).toNatClampNeg ((M 77 ((0 : Int32) + a0).toNatClampNeg) ||| ((1 : Int32) <<< (a1 &&& 31)))) 77 ((96 : Int32) + a0).toNatClampNeg (((k9_st M 77 ((0 : Int32) + a0).toNatClampNeg ((M 77 ((0 : Int32) + a0).toNatClampNeg) ||| ((1 : Int32) <<< (a1 &&& 31)))) 77 ((96 : Int32) + a0).toNatClampNeg) &&& (((1 : Int32) <<< (a1 &&& 31)) ^^^ (-1 : Int32)))) 53 [] [.int (0 : Int32)])
    (o3 : (((M 77 ((0 : Int32) + a0).toNatClampNeg) &&& ((1 : Int32) <<< (a1 &&& 31))) = 0) → vp_in ((96 : Int32) + a0) 578)
    (l2 : (((M 77 ((0 : Int32) + a0).toNatClampNeg) &&& ((1 : Int32) <<< (a1 &&& 31))) = 0) → k9_U p l e R s m args below meth c Q A G 5 0 0 (k9_st (k9_st M 77 ((0 : Int32) + a0).toNatClampNeg ((M 77 ((0 : Int32) + a0).toNatClampNeg) ||| ((1 : Int32) <<< (a1 &&& 31)))) 77 ((96 : Int32) + a0).toNatClampNeg (((k9_st M 77 ((0 : Int32) + a0).toNatClampNeg ((M 77 ((0 : Int32) + a0).toNatClampNeg) ||| ((1 : Int32) <<< (a1 &&& 31)))) 77 ((96 : Int32) + a0).toNatClampNeg) &&& (((1 : Int32) <<< (a1 &&& 31)) ^^^ (-1 : Int32)))) 53 [] [.int (1 : Int32)]) : k9_U p l e R s m args below meth c Q A G 5 0 0 M 0 [(0, .ref (k9_ga G 76)), (1, .int a0), (2, .int a1)] [] := by
  refine k9_iconst (v := 1) X dX7_punchAt_0 (by decide) ?_
  refine k9_iload_n X dX7_punchAt_1 rfl 2 rfl ?_
  refine k9_ishl X dX7_punchAt_2 ?_
  refine k9_istore_n (lv' := [(0, .ref (k9_ga G 76)), (1, .int a0), (2, .int a1), (3, .int ((1 : Int32) <<< (a1 &&& 31)))]) X dX7_punchAt_3 rfl (by decide) [1, 2, 3, 0] rfl ?_
  refine k9_aload_n X dX7_punchAt_4 rfl 0 rfl ?_
  refine k9_gX7_0 X in_X7_punchAt_X7 fl_X7_punchAt_7 dX7_punchAt_5 ?_
  refine k9_iconst (v := 0) X dX7_punchAt_8 (by decide) ?_
  refine k9_iload_n X dX7_punchAt_9 rfl 1 rfl ?_
  refine k9_iadd X dX7_punchAt_10 ?_
  refine k9_iald X (by decide) o1 (by rfl) dX7_punchAt_11 ?_
  refine k9_iload_n X dX7_punchAt_12 rfl 3 rfl ?_
  refine k9_iand X dX7_punchAt_13 ?_
  refine k9_if_ne (tgt := 21) X dX7_punchAt_14 (by decide) (fun c1 => ?_) (fun c1 => ?_)
  · refine k9_iconst (v := 0) X dX7_punchAt_21 (by decide) ?_
    refine k9_istore (lv' := [(0, .ref (k9_ga G 76)), (1, .int a0), (2, .int a1), (3, .int ((1 : Int32) <<< (a1 &&& 31))), (4, .int (0 : Int32))]) X dX7_punchAt_22 (by decide) [1, 2, 3, 4, 0] rfl ?_
    refine k9_aload_n X dX7_punchAt_24 rfl 0 rfl ?_
    refine k9_gX7_0 X in_X7_punchAt_X7 fl_X7_punchAt_7 dX7_punchAt_25 ?_
    refine k9_iconst (v := 0) X dX7_punchAt_28 (by decide) ?_
    refine k9_iload_n X dX7_punchAt_29 rfl 1 rfl ?_
    refine k9_iadd X dX7_punchAt_30 ?_
    refine k9_dup2 X dX7_punchAt_31 rfl rfl ?_
    refine k9_iald X (by decide) o1 (by rfl) dX7_punchAt_32 ?_
    refine k9_iload_n X dX7_punchAt_33 rfl 3 rfl ?_
    refine k9_ior X dX7_punchAt_34 ?_
    refine k9_iast X (by decide) o1 dX7_punchAt_35 ?_
    refine k9_aload_n X dX7_punchAt_36 rfl 0 rfl ?_
    refine k9_gX7_0 X in_X7_punchAt_X7 fl_X7_punchAt_7 dX7_punchAt_37 ?_
    refine k9_bipush (v := 96) X dX7_punchAt_40 (by decide) ?_
    refine k9_iload_n X dX7_punchAt_42 rfl 1 rfl ?_
    refine k9_iadd X dX7_punchAt_43 ?_
    refine k9_dup2 X dX7_punchAt_44 rfl rfl ?_
    refine k9_iald X (by decide) (o2 c1) (by rfl) dX7_punchAt_45 ?_
    refine k9_iload_n X dX7_punchAt_46 rfl 3 rfl ?_
    refine k9_iconst (v := -1) X dX7_punchAt_47 (by decide) ?_
    refine k9_ixor X dX7_punchAt_48 ?_
    refine k9_iand X dX7_punchAt_49 ?_
    refine k9_iast X (by decide) (o2 c1) dX7_punchAt_50 ?_
    refine k9_iload X dX7_punchAt_51 4 rfl ?_
    refine k9_sub (lv' := []) [] rfl ?_
    exact (l1 c1)
  · refine k9_iconst (v := 1) X dX7_punchAt_17 (by decide) ?_
    refine k9_goto (tgt := 22) X dX7_punchAt_18 (by decide) ?_
    refine k9_istore (lv' := [(0, .ref (k9_ga G 76)), (1, .int a0), (2, .int a1), (3, .int ((1 : Int32) <<< (a1 &&& 31))), (4, .int (1 : Int32))]) X dX7_punchAt_22 (by decide) [1, 2, 3, 4, 0] rfl ?_
    refine k9_aload_n X dX7_punchAt_24 rfl 0 rfl ?_
    refine k9_gX7_0 X in_X7_punchAt_X7 fl_X7_punchAt_7 dX7_punchAt_25 ?_
    refine k9_iconst (v := 0) X dX7_punchAt_28 (by decide) ?_
    refine k9_iload_n X dX7_punchAt_29 rfl 1 rfl ?_
    refine k9_iadd X dX7_punchAt_30 ?_
    refine k9_dup2 X dX7_punchAt_31 rfl rfl ?_
    refine k9_iald X (by decide) o1 (by rfl) dX7_punchAt_32 ?_
    refine k9_iload_n X dX7_punchAt_33 rfl 3 rfl ?_
    refine k9_ior X dX7_punchAt_34 ?_
    refine k9_iast X (by decide) o1 dX7_punchAt_35 ?_
    refine k9_aload_n X dX7_punchAt_36 rfl 0 rfl ?_
    refine k9_gX7_0 X in_X7_punchAt_X7 fl_X7_punchAt_7 dX7_punchAt_37 ?_
    refine k9_bipush (v := 96) X dX7_punchAt_40 (by decide) ?_
    refine k9_iload_n X dX7_punchAt_42 rfl 1 rfl ?_
    refine k9_iadd X dX7_punchAt_43 ?_
    refine k9_dup2 X dX7_punchAt_44 rfl rfl ?_
    refine k9_iald X (by decide) (o3 c1) (by rfl) dX7_punchAt_45 ?_
    refine k9_iload_n X dX7_punchAt_46 rfl 3 rfl ?_
    refine k9_iconst (v := -1) X dX7_punchAt_47 (by decide) ?_
    refine k9_ixor X dX7_punchAt_48 ?_
    refine k9_iand X dX7_punchAt_49 ?_
    refine k9_iast X (by decide) (o3 c1) dX7_punchAt_50 ?_
    refine k9_iload X dX7_punchAt_51 4 rfl ?_
    refine k9_sub (lv' := []) [] rfl ?_
    exact (l2 c1)

theorem in_X7_punchChain_X7 : ∀ w ∈ u_ws RX7 TX7 19, w ∈ wsX7_punchChain := by decide +kernel
theorem fl_X7_punchChain_7 : Cond.fieldLink RX7 7 (TX7 0).1 (TX7 0).2.1 (TX7 0).2.2.1 ∈ wsX7_punchChain := by decide +kernel
set_option maxRecDepth 20000 in
theorem bk_X7_punchChain_0 (X : k9_X p R s m args c A G 7 cX7_punchChain wsX7_punchChain RX7 rm_X7_punchChain) {a0 a1 a2 : Int32}
    (l1 : (¬ a0 = (-1 : Int32)) → k9_U p l e R s m args below meth c Q A G 7 0 0 M 20 [(0, .ref (k9_ga G 76)), (2, .int a1), (3, .int a2), (4, .int (a0 + (3 : Int32))), (5, .int (0 : Int32)), (6, .int (0 : Int32))] [])
    (l2 : (a0 = (-1 : Int32)) → k9_U p l e R s m args below meth c Q A G 7 0 0 M 20 [(0, .ref (k9_ga G 76)), (2, .int a1), (3, .int a2), (4, .int (2 : Int32)), (5, .int (0 : Int32)), (6, .int (0 : Int32))] []) : k9_U p l e R s m args below meth c Q A G 7 0 0 M 0 [(0, .ref (k9_ga G 76)), (1, .int a0), (2, .int a1), (3, .int a2)] [] := by
  refine k9_iload_n X dX7_punchChain_0 rfl 1 rfl ?_
  refine k9_iconst (v := -1) X dX7_punchChain_1 (by decide) ?_
  refine k9_icmp_ne (tgt := 9) X dX7_punchChain_2 (by decide) (fun c1 => ?_) (fun c1 => ?_)
  · refine k9_iload_n X dX7_punchChain_9 rfl 1 rfl ?_
    refine k9_iconst (v := 3) X dX7_punchChain_10 (by decide) ?_
    refine k9_iadd X dX7_punchChain_11 ?_
    refine k9_istore (lv' := [(0, .ref (k9_ga G 76)), (1, .int a0), (2, .int a1), (3, .int a2), (4, .int (a0 + (3 : Int32)))]) X dX7_punchChain_12 (by decide) [1, 2, 3, 4, 0] rfl ?_
    refine k9_iconst (v := 0) X dX7_punchChain_14 (by decide) ?_
    refine k9_istore (lv' := [(0, .ref (k9_ga G 76)), (1, .int a0), (2, .int a1), (3, .int a2), (4, .int (a0 + (3 : Int32))), (5, .int (0 : Int32))]) X dX7_punchChain_15 (by decide) [1, 2, 3, 4, 5, 0] rfl ?_
    refine k9_iconst (v := 0) X dX7_punchChain_17 (by decide) ?_
    refine k9_istore (lv' := [(0, .ref (k9_ga G 76)), (1, .int a0), (2, .int a1), (3, .int a2), (4, .int (a0 + (3 : Int32))), (5, .int (0 : Int32)), (6, .int (0 : Int32))]) X dX7_punchChain_18 (by decide) [1, 2, 3, 4, 5, 6, 0] rfl ?_
    refine k9_sub (lv' := [(0, .ref (k9_ga G 76)), (2, .int a1), (3, .int a2), (4, .int (a0 + (3 : Int32))), (5, .int (0 : Int32)), (6, .int (0 : Int32))]) [0, 2, 3, 4, 5, 6] rfl ?_
    exact (l1 c1)
  · refine k9_iconst (v := 2) X dX7_punchChain_5 (by decide) ?_
    refine k9_goto (tgt := 12) X dX7_punchChain_6 (by decide) ?_
    refine k9_istore (lv' := [(0, .ref (k9_ga G 76)), (1, .int a0), (2, .int a1), (3, .int a2), (4, .int (2 : Int32))]) X dX7_punchChain_12 (by decide) [1, 2, 3, 4, 0] rfl ?_
    refine k9_iconst (v := 0) X dX7_punchChain_14 (by decide) ?_
    refine k9_istore (lv' := [(0, .ref (k9_ga G 76)), (1, .int a0), (2, .int a1), (3, .int a2), (4, .int (2 : Int32)), (5, .int (0 : Int32))]) X dX7_punchChain_15 (by decide) [1, 2, 3, 4, 5, 0] rfl ?_
    refine k9_iconst (v := 0) X dX7_punchChain_17 (by decide) ?_
    refine k9_istore (lv' := [(0, .ref (k9_ga G 76)), (1, .int a0), (2, .int a1), (3, .int a2), (4, .int (2 : Int32)), (5, .int (0 : Int32)), (6, .int (0 : Int32))]) X dX7_punchChain_18 (by decide) [1, 2, 3, 4, 5, 6, 0] rfl ?_
    refine k9_sub (lv' := [(0, .ref (k9_ga G 76)), (2, .int a1), (3, .int a2), (4, .int (2 : Int32)), (5, .int (0 : Int32)), (6, .int (0 : Int32))]) [0, 2, 3, 4, 5, 6] rfl ?_
    exact (l2 c1)

set_option maxRecDepth 20000 in
theorem bk_X7_punchChain_20 (X : k9_X p R s m args c A G 7 cX7_punchChain wsX7_punchChain RX7 rm_X7_punchChain) {x2 x3 x4 x5 x6 : Int32} {rv1 : Int32} {mv1 : k9_Mem} {rv2 : Int32} {mv2 : k9_Mem}
    (k1 : (x3 ≤ x6) → k9_Ci l yX7_punchAt wsX7_punchAt rm_X7_punchAt G M [.ref (k9_ga G 76), .int ((x2 + x3) - (1 : Int32)), .int x4] rv1 mv1)
    (l1 : (x3 ≤ x6) → k9_U p l e R s m args below meth c Q A G 7 0 0 mv1 73 [] [.int (x5 + rv1)])
    (k2 : (¬ (x3 ≤ x6)) → k9_Ci l yX7_punchAt wsX7_punchAt rm_X7_punchAt G M [.ref (k9_ga G 76), .int (x2 + x6), .int x4] rv2 mv2)
    (l2 : (¬ (x3 ≤ x6)) → k9_U p l e R s m args below meth c Q A G 7 0 0 mv2 20 [(0, .ref (k9_ga G 76)), (2, .int x2), (3, .int x3), (4, .int x4), (5, .int (x5 + rv2)), (6, .int (x6 + ((mv2 77 384) + (1 : Int32))))] []) : k9_U p l e R s m args below meth c Q A G 7 0 0 M 20 [(0, .ref (k9_ga G 76)), (2, .int x2), (3, .int x3), (4, .int x4), (5, .int x5), (6, .int x6)] [] := by
  refine k9_iload X dX7_punchChain_20 5 rfl ?_
  refine k9_iload_n X dX7_punchChain_22 rfl 2 rfl ?_
  refine k9_icmp_ge (tgt := 59) X dX7_punchChain_23 (by decide) (fun c1 => ?_) (fun c1 => ?_)
  · refine k9_iload X dX7_punchChain_59 4 rfl ?_
    refine k9_aload_n X dX7_punchChain_61 rfl 0 rfl ?_
    refine k9_iload_n X dX7_punchChain_62 rfl 1 rfl ?_
    refine k9_iload_n X dX7_punchChain_63 rfl 2 rfl ?_
    refine k9_iadd X dX7_punchChain_64 ?_
    refine k9_iconst (v := 1) X dX7_punchChain_65 (by decide) ?_
    refine k9_isub X dX7_punchChain_66 ?_
    refine k9_iload X dX7_punchChain_67 3 rfl ?_
    refine k9_callVi2 X (k1 c1) k9_ob_76 (cwV 2 X.2.2.2.2.1 gX7_punchChain_X7_punchAt rfl rfl rfl (by decide +kernel) ⟨Nat.le_of_ble_eq_true rfl, Nat.le_of_ble_eq_true rfl⟩) (Nat.le_of_ble_eq_true rfl) dX7_punchChain_69 ⟨Nat.zero_le _, Nat.zero_le _⟩ ?_
    refine k9_iadd X dX7_punchChain_72 ?_
    refine k9_sub (lv' := []) [] rfl ?_
    exact (l1 c1)
  · refine k9_iload X dX7_punchChain_26 4 rfl ?_
    refine k9_aload_n X dX7_punchChain_28 rfl 0 rfl ?_
    refine k9_iload_n X dX7_punchChain_29 rfl 1 rfl ?_
    refine k9_iload X dX7_punchChain_30 5 rfl ?_
    refine k9_iadd X dX7_punchChain_32 ?_
    refine k9_iload X dX7_punchChain_33 3 rfl ?_
    refine k9_callVi2 X (k2 c1) k9_ob_76 (cwV 2 X.2.2.2.2.1 gX7_punchChain_X7_punchAt rfl rfl rfl (by decide +kernel) ⟨Nat.le_of_ble_eq_true rfl, Nat.le_of_ble_eq_true rfl⟩) (Nat.le_of_ble_eq_true rfl) dX7_punchChain_35 ⟨Nat.zero_le _, Nat.zero_le _⟩ ?_
    refine k9_iadd X dX7_punchChain_38 ?_
    refine k9_istore (lv' := [(0, .ref (k9_ga G 76)), (2, .int x2), (3, .int x3), (4, .int x4), (5, .int (x5 + rv2)), (6, .int x6)]) X dX7_punchChain_39 (by decide) [1, 2, 3, 4, 0, 5] rfl ?_
    refine k9_iload X dX7_punchChain_41 5 rfl ?_
    refine k9_aload_n X dX7_punchChain_43 rfl 0 rfl ?_
    refine k9_gX7_0 X in_X7_punchChain_X7 fl_X7_punchChain_7 dX7_punchChain_44 ?_
    refine k9_sipush (v := 384) X dX7_punchChain_47 (by decide) ?_
    refine k9_ialdL (n := 578) (j := 384) X (by decide) (by decide) (by decide) (by decide) (by rfl) dX7_punchChain_50 ?_
    refine k9_iconst (v := 1) X dX7_punchChain_51 (by decide) ?_
    refine k9_iadd X dX7_punchChain_52 ?_
    refine k9_iadd X dX7_punchChain_53 ?_
    refine k9_istore (lv' := [(0, .ref (k9_ga G 76)), (2, .int x2), (3, .int x3), (4, .int x4), (5, .int (x5 + rv2)), (6, .int (x6 + ((mv2 77 384) + (1 : Int32))))]) X dX7_punchChain_54 (by decide) [1, 2, 3, 4, 5, 0] rfl ?_
    refine k9_goto (tgt := 20) X dX7_punchChain_56 (by decide) ?_
    exact (l2 c1)

theorem in_X7_punch_X7 : ∀ w ∈ u_ws RX7 TX7 19, w ∈ wsX7_punch := by decide +kernel
theorem fl_X7_punch_46 : Cond.fieldLink RX7 46 (TX7 5).1 (TX7 5).2.1 (TX7 5).2.2.1 ∈ wsX7_punch := by decide +kernel
set_option maxRecDepth 20000 in
theorem bk_X7_punch_0 (X : k9_X p R s m args c A G 4 cX7_punch wsX7_punch RX7 rm_X7_punch) {a0 a1 a2 : Int32} {rv1 : Int32} {rv2 : Int32} {rv3 : Int32} {mv4 : k9_Mem} {rv5 : Int32} {mv5 : k9_Mem}
    (k1 : k9_Ci l yX7_within wsX7_within rm_X7_within G M [.int a0, .int (-1 : Int32), .int (19 : Int32)] rv1 M)
    (l1 : (rv1 = 0) → k9_U p l e R s m args below meth c Q A G 4 0 0 (k9_st M 76 5 (1 : Int32)) 60 [] [.int (0 : Int32)])
    (k2 : (¬ (rv1 = 0)) → k9_Ci l yX7_isStep wsX7_isStep rm_X7_isStep G M [.int a1] rv2 M)
    (k3 : (¬ (rv1 = 0)) → (¬ rv2 = 0) → k9_Ci l yX7_within wsX7_within rm_X7_within G M [.int a2, .int (1 : Int32), .int (96 : Int32)] rv3 M)
    (k4 : (¬ (rv1 = 0)) → (¬ rv2 = 0) → (¬ rv3 = 0) → ((a1 + a2) ≤ (96 : Int32)) → k9_Cv l yX7_save wsX7_save rm_X7_save G (k9_st M 76 5 (0 : Int32)) [.ref (k9_ga G 76)] mv4)
    (k5 : (¬ (rv1 = 0)) → (¬ rv2 = 0) → (¬ rv3 = 0) → ((a1 + a2) ≤ (96 : Int32)) → k9_Ci l yX7_punchChain wsX7_punchChain rm_X7_punchChain G mv4 [.ref (k9_ga G 76), .int a0, .int a1, .int a2] rv5 mv5)
    (l2 : (¬ (rv1 = 0)) → (¬ rv2 = 0) → (¬ rv3 = 0) → ((a1 + a2) ≤ (96 : Int32)) → k9_U p l e R s m args below meth c Q A G 4 0 0 mv5 72 [] [.int rv5])
    (l3 : (¬ (rv1 = 0)) → (¬ rv2 = 0) → (¬ rv3 = 0) → (¬ ((a1 + a2) ≤ (96 : Int32))) → k9_U p l e R s m args below meth c Q A G 4 0 0 (k9_st M 76 5 (3 : Int32)) 60 [] [.int (0 : Int32)])
    (l4 : (¬ (rv1 = 0)) → (¬ rv2 = 0) → (rv3 = 0) → k9_U p l e R s m args below meth c Q A G 4 0 0 (k9_st M 76 5 (2 : Int32)) 60 [] [.int (0 : Int32)])
    (l5 : (¬ (rv1 = 0)) → (rv2 = 0) → k9_U p l e R s m args below meth c Q A G 4 0 0 (k9_st M 76 5 (1 : Int32)) 60 [] [.int (0 : Int32)]) : k9_U p l e R s m args below meth c Q A G 4 0 0 M 0 [(0, .ref (k9_ga G 76)), (1, .int a0), (2, .int a1), (3, .int a2)] [] := by
  refine k9_aload_n X dX7_punch_0 rfl 0 rfl ?_
  refine k9_iload_n X dX7_punch_1 rfl 1 rfl ?_
  refine k9_iconst (v := -1) X dX7_punch_2 (by decide) ?_
  refine k9_bipush (v := 19) X dX7_punch_3 (by decide) ?_
  refine k9_callSi3 X k1  (va_cwS 3 X.2.2.2.2.1 gX7_punch_X7_within rfl rfl rfl (by decide +kernel) ⟨Nat.le_of_ble_eq_true rfl, Nat.le_of_ble_eq_true rfl⟩) (Nat.le_of_ble_eq_true rfl) dX7_punch_5 ⟨Nat.zero_le _, Nat.zero_le _⟩ ?_
  refine k9_if_eq (tgt := 18) X dX7_punch_8 (by decide) (fun c1 => ?_) (fun c1 => ?_)
  · refine k9_iconst (v := 1) X dX7_punch_18 (by decide) ?_
    refine k9_goto (tgt := 49) X dX7_punch_19 (by decide) ?_
    refine k9_pX7_5 X in_X7_punch_X7 fl_X7_punch_46 dX7_punch_49 ?_
    refine k9_aload_n X dX7_punch_52 rfl 0 rfl ?_
    refine k9_gX7_5 (v := (1 : Int32)) X (by rfl) in_X7_punch_X7 fl_X7_punch_46 dX7_punch_53 ?_
    refine k9_if_le (tgt := 61) X dX7_punch_56 (by decide) (fun c => absurd c (by decide)) (fun _ => ?_)
    refine k9_iconst (v := 0) X dX7_punch_59 (by decide) ?_
    refine k9_sub (lv' := []) [] rfl ?_
    exact (l1 c1)
  · refine k9_iload_n X dX7_punch_11 rfl 2 rfl ?_
    refine k9_callSi1 X (k2 c1)  (va_cwS 1 X.2.2.2.2.1 gX7_punch_X7_isStep rfl rfl rfl (by decide +kernel) ⟨Nat.le_of_ble_eq_true rfl, Nat.le_of_ble_eq_true rfl⟩) (Nat.le_of_ble_eq_true rfl) dX7_punch_12 ⟨Nat.zero_le _, Nat.zero_le _⟩ ?_
    refine k9_if_ne (tgt := 22) X dX7_punch_15 (by decide) (fun c2 => ?_) (fun c2 => ?_)
    · refine k9_iload_n X dX7_punch_22 rfl 3 rfl ?_
      refine k9_iconst (v := 1) X dX7_punch_23 (by decide) ?_
      refine k9_bipush (v := 96) X dX7_punch_24 (by decide) ?_
      refine k9_callSi3 X (k3 c1 c2)  (va_cwS 3 X.2.2.2.2.1 gX7_punch_X7_within rfl rfl rfl (by decide +kernel) ⟨Nat.le_of_ble_eq_true rfl, Nat.le_of_ble_eq_true rfl⟩) (Nat.le_of_ble_eq_true rfl) dX7_punch_26 ⟨Nat.zero_le _, Nat.zero_le _⟩ ?_
      refine k9_if_ne (tgt := 36) X dX7_punch_29 (by decide) (fun c3 => ?_) (fun c3 => ?_)
      · refine k9_iload_n X dX7_punch_36 rfl 2 rfl ?_
        refine k9_iload_n X dX7_punch_37 rfl 3 rfl ?_
        refine k9_iadd X dX7_punch_38 ?_
        refine k9_bipush (v := 96) X dX7_punch_39 (by decide) ?_
        refine k9_icmp_le (tgt := 48) X dX7_punch_41 (by decide) (fun c4 => ?_) (fun c4 => ?_)
        · refine k9_iconst (v := 0) X dX7_punch_48 (by decide) ?_
          refine k9_pX7_5 X in_X7_punch_X7 fl_X7_punch_46 dX7_punch_49 ?_
          refine k9_aload_n X dX7_punch_52 rfl 0 rfl ?_
          refine k9_gX7_5 (v := (0 : Int32)) X (by rfl) in_X7_punch_X7 fl_X7_punch_46 dX7_punch_53 ?_
          refine k9_if_le (tgt := 61) X dX7_punch_56 (by decide) (fun _ => ?_) (fun c => absurd c (by decide))
          refine k9_aload_n X dX7_punch_61 rfl 0 rfl ?_
          refine k9_callVv0 X (k4 c1 c2 c3 c4) k9_ob_76 (cwV 0 X.2.2.2.2.1 gX7_punch_X7_save rfl rfl rfl (by decide +kernel) ⟨Nat.le_of_ble_eq_true rfl, Nat.le_of_ble_eq_true rfl⟩) (Nat.le_of_ble_eq_true rfl) dX7_punch_62 ⟨Nat.zero_le _, Nat.zero_le _⟩ ?_
          refine k9_aload_n X dX7_punch_65 rfl 0 rfl ?_
          refine k9_iload_n X dX7_punch_66 rfl 1 rfl ?_
          refine k9_iload_n X dX7_punch_67 rfl 2 rfl ?_
          refine k9_iload_n X dX7_punch_68 rfl 3 rfl ?_
          refine k9_callVi3 X (k5 c1 c2 c3 c4) k9_ob_76 (cwV 3 X.2.2.2.2.1 gX7_punch_X7_punchChain rfl rfl rfl (by decide +kernel) ⟨Nat.le_of_ble_eq_true rfl, Nat.le_of_ble_eq_true rfl⟩) (Nat.le_of_ble_eq_true rfl) dX7_punch_69 ⟨Nat.zero_le _, Nat.zero_le _⟩ ?_
          refine k9_sub (lv' := []) [] rfl ?_
          exact (l2 c1 c2 c3 c4)
        · refine k9_iconst (v := 3) X dX7_punch_44 (by decide) ?_
          refine k9_goto (tgt := 49) X dX7_punch_45 (by decide) ?_
          refine k9_pX7_5 X in_X7_punch_X7 fl_X7_punch_46 dX7_punch_49 ?_
          refine k9_aload_n X dX7_punch_52 rfl 0 rfl ?_
          refine k9_gX7_5 (v := (3 : Int32)) X (by rfl) in_X7_punch_X7 fl_X7_punch_46 dX7_punch_53 ?_
          refine k9_if_le (tgt := 61) X dX7_punch_56 (by decide) (fun c => absurd c (by decide)) (fun _ => ?_)
          refine k9_iconst (v := 0) X dX7_punch_59 (by decide) ?_
          refine k9_sub (lv' := []) [] rfl ?_
          exact (l3 c1 c2 c3 c4)
      · refine k9_iconst (v := 2) X dX7_punch_32 (by decide) ?_
        refine k9_goto (tgt := 49) X dX7_punch_33 (by decide) ?_
        refine k9_pX7_5 X in_X7_punch_X7 fl_X7_punch_46 dX7_punch_49 ?_
        refine k9_aload_n X dX7_punch_52 rfl 0 rfl ?_
        refine k9_gX7_5 (v := (2 : Int32)) X (by rfl) in_X7_punch_X7 fl_X7_punch_46 dX7_punch_53 ?_
        refine k9_if_le (tgt := 61) X dX7_punch_56 (by decide) (fun c => absurd c (by decide)) (fun _ => ?_)
        refine k9_iconst (v := 0) X dX7_punch_59 (by decide) ?_
        refine k9_sub (lv' := []) [] rfl ?_
        exact (l4 c1 c2 c3)
    · refine k9_iconst (v := 1) X dX7_punch_18 (by decide) ?_
      refine k9_goto (tgt := 49) X dX7_punch_19 (by decide) ?_
      refine k9_pX7_5 X in_X7_punch_X7 fl_X7_punch_46 dX7_punch_49 ?_
      refine k9_aload_n X dX7_punch_52 rfl 0 rfl ?_
      refine k9_gX7_5 (v := (1 : Int32)) X (by rfl) in_X7_punch_X7 fl_X7_punch_46 dX7_punch_53 ?_
      refine k9_if_le (tgt := 61) X dX7_punch_56 (by decide) (fun c => absurd c (by decide)) (fun _ => ?_)
      refine k9_iconst (v := 0) X dX7_punch_59 (by decide) ?_
      refine k9_sub (lv' := []) [] rfl ?_
      exact (l5 c1 c2)

set_option maxRecDepth 20000 in
theorem bk_X7_refusedRange_0 (X : k9_X p R s m args c A G 3 cX7_refusedRange wsX7_refusedRange RX7 rm_X7_refusedRange) {a0 a1 a2 : Int32} {rv1 : Int32} {rv2 : Int32}
    (l1 : (a0 = 0) → k9_U p l e R s m args below meth c Q A G 3 0 0 M 32 [] [.int (1 : Int32)])
    (k1 : (¬ (a0 = 0)) → k9_Ci l yX7_isStep wsX7_isStep rm_X7_isStep G M [.int a1] rv1 M)
    (l2 : (¬ (a0 = 0)) → (rv1 = 0) → k9_U p l e R s m args below meth c Q A G 3 0 0 M 32 [] [.int (1 : Int32)])
    (k2 : (¬ (a0 = 0)) → (¬ (rv1 = 0)) → k9_Ci l yX7_isStep wsX7_isStep rm_X7_isStep G M [.int a2] rv2 M)
    (l3 : (¬ (a0 = 0)) → (¬ (rv1 = 0)) → (¬ rv2 = 0) → (a1 ≤ a2) → k9_U p l e R s m args below meth c Q A G 3 0 0 M 32 [] [.int (0 : Int32)])
    (l4 : (¬ (a0 = 0)) → (¬ (rv1 = 0)) → (¬ rv2 = 0) → (¬ (a1 ≤ a2)) → k9_U p l e R s m args below meth c Q A G 3 0 0 M 32 [] [.int (2 : Int32)])
    (l5 : (¬ (a0 = 0)) → (¬ (rv1 = 0)) → (rv2 = 0) → k9_U p l e R s m args below meth c Q A G 3 0 0 M 32 [] [.int (1 : Int32)]) : k9_U p l e R s m args below meth c Q A G 3 0 0 M 0 [(0, .int a0), (1, .int a1), (2, .int a2)] [] := by
  refine k9_iload_n X dX7_refusedRange_0 rfl 0 rfl ?_
  refine k9_if_eq (tgt := 18) X dX7_refusedRange_1 (by decide) (fun c1 => ?_) (fun c1 => ?_)
  · refine k9_iconst (v := 1) X dX7_refusedRange_18 (by decide) ?_
    refine k9_goto (tgt := 32) X dX7_refusedRange_19 (by decide) ?_
    refine k9_sub (lv' := []) [] rfl ?_
    exact (l1 c1)
  · refine k9_iload_n X dX7_refusedRange_4 rfl 1 rfl ?_
    refine k9_callSi1 X (k1 c1)  (va_cwS 1 X.2.2.2.2.1 gX7_refusedRange_X7_isStep rfl rfl rfl (by decide +kernel) ⟨Nat.le_of_ble_eq_true rfl, Nat.le_of_ble_eq_true rfl⟩) (Nat.le_of_ble_eq_true rfl) dX7_refusedRange_5 ⟨Nat.zero_le _, Nat.zero_le _⟩ ?_
    refine k9_if_eq (tgt := 18) X dX7_refusedRange_8 (by decide) (fun c2 => ?_) (fun c2 => ?_)
    · refine k9_iconst (v := 1) X dX7_refusedRange_18 (by decide) ?_
      refine k9_goto (tgt := 32) X dX7_refusedRange_19 (by decide) ?_
      refine k9_sub (lv' := []) [] rfl ?_
      exact (l2 c1 c2)
    · refine k9_iload_n X dX7_refusedRange_11 rfl 2 rfl ?_
      refine k9_callSi1 X (k2 c1 c2)  (va_cwS 1 X.2.2.2.2.1 gX7_refusedRange_X7_isStep rfl rfl rfl (by decide +kernel) ⟨Nat.le_of_ble_eq_true rfl, Nat.le_of_ble_eq_true rfl⟩) (Nat.le_of_ble_eq_true rfl) dX7_refusedRange_12 ⟨Nat.zero_le _, Nat.zero_le _⟩ ?_
      refine k9_if_ne (tgt := 22) X dX7_refusedRange_15 (by decide) (fun c3 => ?_) (fun c3 => ?_)
      · refine k9_iload_n X dX7_refusedRange_22 rfl 2 rfl ?_
        refine k9_iload_n X dX7_refusedRange_23 rfl 1 rfl ?_
        refine k9_icmp_ge (tgt := 31) X dX7_refusedRange_24 (by decide) (fun c4 => ?_) (fun c4 => ?_)
        · refine k9_iconst (v := 0) X dX7_refusedRange_31 (by decide) ?_
          refine k9_sub (lv' := []) [] rfl ?_
          exact (l3 c1 c2 c3 c4)
        · refine k9_iconst (v := 2) X dX7_refusedRange_27 (by decide) ?_
          refine k9_goto (tgt := 32) X dX7_refusedRange_28 (by decide) ?_
          refine k9_sub (lv' := []) [] rfl ?_
          exact (l4 c1 c2 c3 c4)
      · refine k9_iconst (v := 1) X dX7_refusedRange_18 (by decide) ?_
        refine k9_goto (tgt := 32) X dX7_refusedRange_19 (by decide) ?_
        refine k9_sub (lv' := []) [] rfl ?_
        exact (l5 c1 c2 c3)

theorem in_X7_patch_X7 : ∀ w ∈ u_ws RX7 TX7 19, w ∈ wsX7_patch := by decide +kernel
theorem fl_X7_patch_46 : Cond.fieldLink RX7 46 (TX7 5).1 (TX7 5).2.1 (TX7 5).2.2.1 ∈ wsX7_patch := by decide +kernel
theorem fl_X7_patch_7 : Cond.fieldLink RX7 7 (TX7 0).1 (TX7 0).2.1 (TX7 0).2.2.1 ∈ wsX7_patch := by decide +kernel
set_option maxRecDepth 20000 in
theorem bk_X7_patch_0 (X : k9_X p R s m args c A G 6 cX7_patch wsX7_patch RX7 rm_X7_patch) {a0 a1 a2 : Int32} {rv1 : Int32} {rv2 : Int32} {mv3 : k9_Mem}
    (k1 : k9_Ci l yX7_isTrack wsX7_isTrack rm_X7_isTrack G M [.int a0] rv1 M)
    (k2 : k9_Ci l yX7_refusedRange wsX7_refusedRange rm_X7_refusedRange G M [.int rv1, .int a1, .int a2] rv2 M)
    (k3 : (rv2 ≤ 0) → k9_Cv l yX7_save wsX7_save rm_X7_save G (k9_st M 76 5 rv2) [.ref (k9_ga G 76)] mv3)
    (l1 : (rv2 ≤ 0) → k9_U p l e R s m args below meth c Q A G 6 0 0 mv3 32 [(0, .ref (k9_ga G 76)), (1, .int a0), (3, .int a2), (4, .int (0 : Int32)), (5, .int a1)] [])
    (l2 : (¬ (rv2 ≤ 0)) → k9_U p l e R s m args below meth c Q A G 6 0 0 (k9_st M 76 5 rv2) 21 [] [.int (0 : Int32)]) : k9_U p l e R s m args below meth c Q A G 6 0 0 M 0 [(0, .ref (k9_ga G 76)), (1, .int a0), (2, .int a1), (3, .int a2)] [] := by
  refine k9_aload_n X dX7_patch_0 rfl 0 rfl ?_
  refine k9_iload_n X dX7_patch_1 rfl 1 rfl ?_
  refine k9_callSi1 X k1  (va_cwS 1 X.2.2.2.2.1 gX7_patch_X7_isTrack rfl rfl rfl (by decide +kernel) ⟨Nat.le_of_ble_eq_true rfl, Nat.le_of_ble_eq_true rfl⟩) (Nat.le_of_ble_eq_true rfl) dX7_patch_2 ⟨Nat.zero_le _, Nat.zero_le _⟩ ?_
  refine k9_iload_n X dX7_patch_5 rfl 2 rfl ?_
  refine k9_iload_n X dX7_patch_6 rfl 3 rfl ?_
  refine k9_callSi3 X k2  (va_cwS 3 X.2.2.2.2.1 gX7_patch_X7_refusedRange rfl rfl rfl (by decide +kernel) ⟨Nat.le_of_ble_eq_true rfl, Nat.le_of_ble_eq_true rfl⟩) (Nat.le_of_ble_eq_true rfl) dX7_patch_7 ⟨Nat.zero_le _, Nat.zero_le _⟩ ?_
  refine k9_pX7_5 X in_X7_patch_X7 fl_X7_patch_46 dX7_patch_10 ?_
  refine k9_aload_n X dX7_patch_13 rfl 0 rfl ?_
  refine k9_gX7_5 (v := rv2) X (by rfl) in_X7_patch_X7 fl_X7_patch_46 dX7_patch_14 ?_
  refine k9_if_le (tgt := 22) X dX7_patch_17 (by decide) (fun c1 => ?_) (fun c1 => ?_)
  · refine k9_aload_n X dX7_patch_22 rfl 0 rfl ?_
    refine k9_callVv0 X (k3 c1) k9_ob_76 (cwV 0 X.2.2.2.2.1 gX7_patch_X7_save rfl rfl rfl (by decide +kernel) ⟨Nat.le_of_ble_eq_true rfl, Nat.le_of_ble_eq_true rfl⟩) (Nat.le_of_ble_eq_true rfl) dX7_patch_23 ⟨Nat.zero_le _, Nat.zero_le _⟩ ?_
    refine k9_iconst (v := 0) X dX7_patch_26 (by decide) ?_
    refine k9_istore (lv' := [(0, .ref (k9_ga G 76)), (1, .int a0), (2, .int a1), (3, .int a2), (4, .int (0 : Int32))]) X dX7_patch_27 (by decide) [1, 2, 3, 4, 0] rfl ?_
    refine k9_iload_n X dX7_patch_29 rfl 2 rfl ?_
    refine k9_istore (lv' := [(0, .ref (k9_ga G 76)), (1, .int a0), (2, .int a1), (3, .int a2), (4, .int (0 : Int32)), (5, .int a1)]) X dX7_patch_30 (by decide) [1, 2, 3, 4, 5, 0] rfl ?_
    refine k9_sub (lv' := [(0, .ref (k9_ga G 76)), (1, .int a0), (3, .int a2), (4, .int (0 : Int32)), (5, .int a1)]) [0, 1, 3, 4, 5] rfl ?_
    exact (l1 c1)
  · refine k9_iconst (v := 0) X dX7_patch_20 (by decide) ?_
    refine k9_sub (lv' := []) [] rfl ?_
    exact (l2 c1)

set_option maxRecDepth 20000 in
theorem bk_X7_patch_32 (X : k9_X p R s m args c A G 6 cX7_patch wsX7_patch RX7 rm_X7_patch) {x1 x3 x4 x5 : Int32} {rv1 : Int32}
    (l1 : (x3 < x5) → k9_U p l e R s m args below meth c Q A G 6 0 0 M 77 [] [.int x4])
    (k1 : (¬ (x3 < x5)) → k9_Ci l yX7_openAt wsX7_openAt rm_X7_openAt G M [.ref (k9_ga G 76), .int x5] rv1 M)
    (o1 : (¬ (x3 < x5)) → vp_in ((96 : Int32) + x5) 578)
    (l2 : (¬ (x3 < x5)) → k9_U p l e R s m args below meth c Q A G 6 0 0 (k9_st M 77 ((96 : Int32) + x5).toNatClampNeg ((M 77 ((96 : Int32) + x5).toNatClampNeg) ||| ((1 : Int32) <<< (x1 &&& 31)))) 32 [(0, .ref (k9_ga G 76)), (1, .int x1), (3, .int x3), (4, .int (x4 + ((rv1 >>> (x1 &&& 31)) &&& (1 : Int32)))), (5, .int (x5 + (1 : Int32)))] []) : k9_U p l e R s m args below meth c Q A G 6 0 0 M 32 [(0, .ref (k9_ga G 76)), (1, .int x1), (3, .int x3), (4, .int x4), (5, .int x5)] [] := by
  refine k9_iload X dX7_patch_32 4 rfl ?_
  refine k9_iload_n X dX7_patch_34 rfl 2 rfl ?_
  refine k9_icmp_gt (tgt := 75) X dX7_patch_35 (by decide) (fun c1 => ?_) (fun c1 => ?_)
  · refine k9_iload X dX7_patch_75 3 rfl ?_
    refine k9_sub (lv' := []) [] rfl ?_
    exact (l1 c1)
  · refine k9_iload X dX7_patch_38 3 rfl ?_
    refine k9_aload_n X dX7_patch_40 rfl 0 rfl ?_
    refine k9_iload X dX7_patch_41 4 rfl ?_
    refine k9_callVi1 X (k1 c1) k9_ob_76 (cwV 1 X.2.2.2.2.1 gX7_patch_X7_openAt rfl rfl rfl (by decide +kernel) ⟨Nat.le_of_ble_eq_true rfl, Nat.le_of_ble_eq_true rfl⟩) (Nat.le_of_ble_eq_true rfl) dX7_patch_43 ⟨Nat.zero_le _, Nat.zero_le _⟩ ?_
    refine k9_iload_n X dX7_patch_46 rfl 1 rfl ?_
    refine k9_ishr X dX7_patch_47 ?_
    refine k9_iconst (v := 1) X dX7_patch_48 (by decide) ?_
    refine k9_iand X dX7_patch_49 ?_
    refine k9_iadd X dX7_patch_50 ?_
    refine k9_istore (lv' := [(0, .ref (k9_ga G 76)), (1, .int x1), (3, .int x3), (4, .int (x4 + ((rv1 >>> (x1 &&& 31)) &&& (1 : Int32)))), (5, .int x5)]) X dX7_patch_51 (by decide) [1, 2, 3, 0, 4] rfl ?_
    refine k9_aload_n X dX7_patch_53 rfl 0 rfl ?_
    refine k9_gX7_0 X in_X7_patch_X7 fl_X7_patch_7 dX7_patch_54 ?_
    refine k9_bipush (v := 96) X dX7_patch_57 (by decide) ?_
    refine k9_iload X dX7_patch_59 4 rfl ?_
    refine k9_iadd X dX7_patch_61 ?_
    refine k9_dup2 X dX7_patch_62 rfl rfl ?_
    refine k9_iald X (by decide) (o1 c1) (by rfl) dX7_patch_63 ?_
    refine k9_iconst (v := 1) X dX7_patch_64 (by decide) ?_
    refine k9_iload_n X dX7_patch_65 rfl 1 rfl ?_
    refine k9_ishl X dX7_patch_66 ?_
    refine k9_ior X dX7_patch_67 ?_
    refine k9_iast X (by decide) (o1 c1) dX7_patch_68 ?_
    refine k9_iinc (v := x5 + (1 : Int32)) (lv' := [(0, .ref (k9_ga G 76)), (1, .int x1), (3, .int x3), (4, .int (x4 + ((rv1 >>> (x1 &&& 31)) &&& (1 : Int32)))), (5, .int (x5 + (1 : Int32)))]) X dX7_patch_69 (k := 4) rfl (by rfl) (by decide) [1, 2, 3, 4, 0] rfl ?_
    refine k9_goto (tgt := 32) X dX7_patch_72 (by decide) ?_
    exact (l2 c1)

theorem in_X7_peel_X7 : ∀ w ∈ u_ws RX7 TX7 19, w ∈ wsX7_peel := by decide +kernel
theorem fl_X7_peel_46 : Cond.fieldLink RX7 46 (TX7 5).1 (TX7 5).2.1 (TX7 5).2.2.1 ∈ wsX7_peel := by decide +kernel
theorem fl_X7_peel_7 : Cond.fieldLink RX7 7 (TX7 0).1 (TX7 0).2.1 (TX7 0).2.2.1 ∈ wsX7_peel := by decide +kernel
set_option maxRecDepth 20000 in
theorem bk_X7_peel_0 (X : k9_X p R s m args c A G 6 cX7_peel wsX7_peel RX7 rm_X7_peel) {a0 a1 a2 : Int32} {rv1 : Int32} {rv2 : Int32} {mv3 : k9_Mem}
    (k1 : k9_Ci l yX7_isTrack wsX7_isTrack rm_X7_isTrack G M [.int a0] rv1 M)
    (k2 : k9_Ci l yX7_refusedRange wsX7_refusedRange rm_X7_refusedRange G M [.int rv1, .int a1, .int a2] rv2 M)
    (k3 : (rv2 ≤ 0) → k9_Cv l yX7_save wsX7_save rm_X7_save G (k9_st M 76 5 rv2) [.ref (k9_ga G 76)] mv3)
    (l1 : (rv2 ≤ 0) → k9_U p l e R s m args below meth c Q A G 6 0 0 mv3 32 [(0, .ref (k9_ga G 76)), (1, .int a0), (3, .int a2), (4, .int (0 : Int32)), (5, .int a1)] [])
    (l2 : (¬ (rv2 ≤ 0)) → k9_U p l e R s m args below meth c Q A G 6 0 0 (k9_st M 76 5 rv2) 21 [] [.int (0 : Int32)]) : k9_U p l e R s m args below meth c Q A G 6 0 0 M 0 [(0, .ref (k9_ga G 76)), (1, .int a0), (2, .int a1), (3, .int a2)] [] := by
  refine k9_aload_n X dX7_peel_0 rfl 0 rfl ?_
  refine k9_iload_n X dX7_peel_1 rfl 1 rfl ?_
  refine k9_callSi1 X k1  (va_cwS 1 X.2.2.2.2.1 gX7_peel_X7_isTrack rfl rfl rfl (by decide +kernel) ⟨Nat.le_of_ble_eq_true rfl, Nat.le_of_ble_eq_true rfl⟩) (Nat.le_of_ble_eq_true rfl) dX7_peel_2 ⟨Nat.zero_le _, Nat.zero_le _⟩ ?_
  refine k9_iload_n X dX7_peel_5 rfl 2 rfl ?_
  refine k9_iload_n X dX7_peel_6 rfl 3 rfl ?_
  refine k9_callSi3 X k2  (va_cwS 3 X.2.2.2.2.1 gX7_peel_X7_refusedRange rfl rfl rfl (by decide +kernel) ⟨Nat.le_of_ble_eq_true rfl, Nat.le_of_ble_eq_true rfl⟩) (Nat.le_of_ble_eq_true rfl) dX7_peel_7 ⟨Nat.zero_le _, Nat.zero_le _⟩ ?_
  refine k9_pX7_5 X in_X7_peel_X7 fl_X7_peel_46 dX7_peel_10 ?_
  refine k9_aload_n X dX7_peel_13 rfl 0 rfl ?_
  refine k9_gX7_5 (v := rv2) X (by rfl) in_X7_peel_X7 fl_X7_peel_46 dX7_peel_14 ?_
  refine k9_if_le (tgt := 22) X dX7_peel_17 (by decide) (fun c1 => ?_) (fun c1 => ?_)
  · refine k9_aload_n X dX7_peel_22 rfl 0 rfl ?_
    refine k9_callVv0 X (k3 c1) k9_ob_76 (cwV 0 X.2.2.2.2.1 gX7_peel_X7_save rfl rfl rfl (by decide +kernel) ⟨Nat.le_of_ble_eq_true rfl, Nat.le_of_ble_eq_true rfl⟩) (Nat.le_of_ble_eq_true rfl) dX7_peel_23 ⟨Nat.zero_le _, Nat.zero_le _⟩ ?_
    refine k9_iconst (v := 0) X dX7_peel_26 (by decide) ?_
    refine k9_istore (lv' := [(0, .ref (k9_ga G 76)), (1, .int a0), (2, .int a1), (3, .int a2), (4, .int (0 : Int32))]) X dX7_peel_27 (by decide) [1, 2, 3, 4, 0] rfl ?_
    refine k9_iload_n X dX7_peel_29 rfl 2 rfl ?_
    refine k9_istore (lv' := [(0, .ref (k9_ga G 76)), (1, .int a0), (2, .int a1), (3, .int a2), (4, .int (0 : Int32)), (5, .int a1)]) X dX7_peel_30 (by decide) [1, 2, 3, 4, 5, 0] rfl ?_
    refine k9_sub (lv' := [(0, .ref (k9_ga G 76)), (1, .int a0), (3, .int a2), (4, .int (0 : Int32)), (5, .int a1)]) [0, 1, 3, 4, 5] rfl ?_
    exact (l1 c1)
  · refine k9_iconst (v := 0) X dX7_peel_20 (by decide) ?_
    refine k9_sub (lv' := []) [] rfl ?_
    exact (l2 c1)

set_option maxRecDepth 20000 in
theorem bk_X7_peel_32 (X : k9_X p R s m args c A G 6 cX7_peel wsX7_peel RX7 rm_X7_peel) {x1 x3 x4 x5 : Int32}
    (l1 : (x3 < x5) → k9_U p l e R s m args below meth c Q A G 6 0 0 M 83 [] [.int x4])
    (o1 : (¬ (x3 < x5)) → vp_in ((96 : Int32) + x5) 578)
    (l2 : (¬ (x3 < x5)) → k9_U p l e R s m args below meth c Q A G 6 0 0 (k9_st M 77 ((96 : Int32) + x5).toNatClampNeg ((M 77 ((96 : Int32) + x5).toNatClampNeg) &&& (((1 : Int32) <<< (x1 &&& 31)) ^^^ (-1 : Int32)))) 32 [(0, .ref (k9_ga G 76)), (1, .int x1), (3, .int x3), (4, .int (x4 + (((M 77 ((96 : Int32) + x5).toNatClampNeg) >>> (x1 &&& 31)) &&& (1 : Int32)))), (5, .int (x5 + (1 : Int32)))] []) : k9_U p l e R s m args below meth c Q A G 6 0 0 M 32 [(0, .ref (k9_ga G 76)), (1, .int x1), (3, .int x3), (4, .int x4), (5, .int x5)] [] := by
  refine k9_iload X dX7_peel_32 4 rfl ?_
  refine k9_iload_n X dX7_peel_34 rfl 2 rfl ?_
  refine k9_icmp_gt (tgt := 81) X dX7_peel_35 (by decide) (fun c1 => ?_) (fun c1 => ?_)
  · refine k9_iload X dX7_peel_81 3 rfl ?_
    refine k9_sub (lv' := []) [] rfl ?_
    exact (l1 c1)
  · refine k9_iload X dX7_peel_38 3 rfl ?_
    refine k9_aload_n X dX7_peel_40 rfl 0 rfl ?_
    refine k9_gX7_0 X in_X7_peel_X7 fl_X7_peel_7 dX7_peel_41 ?_
    refine k9_bipush (v := 96) X dX7_peel_44 (by decide) ?_
    refine k9_iload X dX7_peel_46 4 rfl ?_
    refine k9_iadd X dX7_peel_48 ?_
    refine k9_iald X (by decide) (o1 c1) (by rfl) dX7_peel_49 ?_
    refine k9_iload_n X dX7_peel_50 rfl 1 rfl ?_
    refine k9_ishr X dX7_peel_51 ?_
    refine k9_iconst (v := 1) X dX7_peel_52 (by decide) ?_
    refine k9_iand X dX7_peel_53 ?_
    refine k9_iadd X dX7_peel_54 ?_
    refine k9_istore (lv' := [(0, .ref (k9_ga G 76)), (1, .int x1), (3, .int x3), (4, .int (x4 + (((M 77 ((96 : Int32) + x5).toNatClampNeg) >>> (x1 &&& 31)) &&& (1 : Int32)))), (5, .int x5)]) X dX7_peel_55 (by decide) [1, 2, 3, 0, 4] rfl ?_
    refine k9_aload_n X dX7_peel_57 rfl 0 rfl ?_
    refine k9_gX7_0 X in_X7_peel_X7 fl_X7_peel_7 dX7_peel_58 ?_
    refine k9_bipush (v := 96) X dX7_peel_61 (by decide) ?_
    refine k9_iload X dX7_peel_63 4 rfl ?_
    refine k9_iadd X dX7_peel_65 ?_
    refine k9_dup2 X dX7_peel_66 rfl rfl ?_
    refine k9_iald X (by decide) (o1 c1) (by rfl) dX7_peel_67 ?_
    refine k9_iconst (v := 1) X dX7_peel_68 (by decide) ?_
    refine k9_iload_n X dX7_peel_69 rfl 1 rfl ?_
    refine k9_ishl X dX7_peel_70 ?_
    refine k9_iconst (v := -1) X dX7_peel_71 (by decide) ?_
    refine k9_ixor X dX7_peel_72 ?_
    refine k9_iand X dX7_peel_73 ?_
    refine k9_iast X (by decide) (o1 c1) dX7_peel_74 ?_
    refine k9_iinc (v := x5 + (1 : Int32)) (lv' := [(0, .ref (k9_ga G 76)), (1, .int x1), (3, .int x3), (4, .int (x4 + (((M 77 ((96 : Int32) + x5).toNatClampNeg) >>> (x1 &&& 31)) &&& (1 : Int32)))), (5, .int (x5 + (1 : Int32)))]) X dX7_peel_75 (k := 4) rfl (by rfl) (by decide) [1, 2, 3, 4, 0] rfl ?_
    refine k9_goto (tgt := 32) X dX7_peel_78 (by decide) ?_
    exact (l2 c1)

set_option maxRecDepth 20000 in
theorem bk_X7_shifted_0 (X : k9_X p R s m args c A G 2 cX7_shifted wsX7_shifted RX7 rm_X7_shifted) {a0 a1 : Int32}
    (l1 : (0 ≤ a1) → k9_U p l e R s m args below meth c Q A G 2 0 0 M 14 [] [.int (a0 <<< (a1 &&& 31))])
    (l2 : (¬ (0 ≤ a1)) → k9_U p l e R s m args below meth c Q A G 2 0 0 M 14 [] [.int (a0 >>> ((-a1) &&& 31))]) : k9_U p l e R s m args below meth c Q A G 2 0 0 M 0 [(0, .int a0), (1, .int a1)] [] := by
  refine k9_iload_n X dX7_shifted_0 rfl 1 rfl ?_
  refine k9_if_ge (tgt := 11) X dX7_shifted_1 (by decide) (fun c1 => ?_) (fun c1 => ?_)
  · refine k9_iload_n X dX7_shifted_11 rfl 0 rfl ?_
    refine k9_iload_n X dX7_shifted_12 rfl 1 rfl ?_
    refine k9_ishl X dX7_shifted_13 ?_
    refine k9_sub (lv' := []) [] rfl ?_
    exact (l1 c1)
  · refine k9_iload_n X dX7_shifted_4 rfl 0 rfl ?_
    refine k9_iload_n X dX7_shifted_5 rfl 1 rfl ?_
    refine k9_ineg X dX7_shifted_6 ?_
    refine k9_ishr X dX7_shifted_7 ?_
    refine k9_goto (tgt := 14) X dX7_shifted_8 (by decide) ?_
    refine k9_sub (lv' := []) [] rfl ?_
    exact (l2 c1)

theorem in_X7_canShift_X7 : ∀ w ∈ u_ws RX7 TX7 19, w ∈ wsX7_canShift := by decide +kernel
theorem fl_X7_canShift_7 : Cond.fieldLink RX7 7 (TX7 0).1 (TX7 0).2.1 (TX7 0).2.2.1 ∈ wsX7_canShift := by decide +kernel
set_option maxRecDepth 20000 in
theorem bk_X7_canShift_0 (X : k9_X p R s m args c A G 6 cX7_canShift wsX7_canShift RX7 rm_X7_canShift) {a0 : Int32}
    (l1 : k9_U p l e R s m args below meth c Q A G 6 0 0 M 4 [(0, .ref (k9_ga G 76)), (1, .int a0), (2, .int (1 : Int32)), (3, .int (0 : Int32))] []) : k9_U p l e R s m args below meth c Q A G 6 0 0 M 0 [(0, .ref (k9_ga G 76)), (1, .int a0)] [] := by
  refine k9_iconst (v := 1) X dX7_canShift_0 (by decide) ?_
  refine k9_istore_n (lv' := [(0, .ref (k9_ga G 76)), (1, .int a0), (2, .int (1 : Int32))]) X dX7_canShift_1 rfl (by decide) [1, 2, 0] rfl ?_
  refine k9_iconst (v := 0) X dX7_canShift_2 (by decide) ?_
  refine k9_istore_n (lv' := [(0, .ref (k9_ga G 76)), (1, .int a0), (2, .int (1 : Int32)), (3, .int (0 : Int32))]) X dX7_canShift_3 rfl (by decide) [1, 2, 3, 0] rfl ?_
  exact l1

set_option maxRecDepth 20000 in
theorem bk_X7_canShift_4 (X : k9_X p R s m args c A G 6 cX7_canShift wsX7_canShift RX7 rm_X7_canShift) {x1 x2 x3 : Int32}
    (l1 : ((96 : Int32) ≤ x3) → k9_U p l e R s m args below meth c Q A G 6 0 0 M 83 [] [.int x2])
    (o1 : (¬ ((96 : Int32) ≤ x3)) → vp_in ((0 : Int32) + x3) 578)
    (o2 : (¬ ((96 : Int32) ≤ x3)) → vp_in ((96 : Int32) + x3) 578)
    (l2 : (¬ ((96 : Int32) ≤ x3)) → k9_U p l e R s m args below meth c Q A G 6 0 0 M 33 [(0, .ref (k9_ga G 76)), (1, .int x1), (2, .int x2), (3, .int x3), (4, .int ((M 77 ((0 : Int32) + x3).toNatClampNeg) ||| (M 77 ((96 : Int32) + x3).toNatClampNeg))), (5, .int (0 : Int32))] []) : k9_U p l e R s m args below meth c Q A G 6 0 0 M 4 [(0, .ref (k9_ga G 76)), (1, .int x1), (2, .int x2), (3, .int x3)] [] := by
  refine k9_iload_n X dX7_canShift_4 rfl 3 rfl ?_
  refine k9_bipush (v := 96) X dX7_canShift_5 (by decide) ?_
  refine k9_icmp_ge (tgt := 82) X dX7_canShift_7 (by decide) (fun c1 => ?_) (fun c1 => ?_)
  · refine k9_iload_n X dX7_canShift_82 rfl 2 rfl ?_
    refine k9_sub (lv' := []) [] rfl ?_
    exact (l1 c1)
  · refine k9_aload_n X dX7_canShift_10 rfl 0 rfl ?_
    refine k9_gX7_0 X in_X7_canShift_X7 fl_X7_canShift_7 dX7_canShift_11 ?_
    refine k9_iconst (v := 0) X dX7_canShift_14 (by decide) ?_
    refine k9_iload_n X dX7_canShift_15 rfl 3 rfl ?_
    refine k9_iadd X dX7_canShift_16 ?_
    refine k9_iald X (by decide) (o1 c1) (by rfl) dX7_canShift_17 ?_
    refine k9_aload_n X dX7_canShift_18 rfl 0 rfl ?_
    refine k9_gX7_0 X in_X7_canShift_X7 fl_X7_canShift_7 dX7_canShift_19 ?_
    refine k9_bipush (v := 96) X dX7_canShift_22 (by decide) ?_
    refine k9_iload_n X dX7_canShift_24 rfl 3 rfl ?_
    refine k9_iadd X dX7_canShift_25 ?_
    refine k9_iald X (by decide) (o2 c1) (by rfl) dX7_canShift_26 ?_
    refine k9_ior X dX7_canShift_27 ?_
    refine k9_istore (lv' := [(0, .ref (k9_ga G 76)), (1, .int x1), (2, .int x2), (3, .int x3), (4, .int ((M 77 ((0 : Int32) + x3).toNatClampNeg) ||| (M 77 ((96 : Int32) + x3).toNatClampNeg)))]) X dX7_canShift_28 (by decide) [1, 2, 3, 4, 0] rfl ?_
    refine k9_iconst (v := 0) X dX7_canShift_30 (by decide) ?_
    refine k9_istore (lv' := [(0, .ref (k9_ga G 76)), (1, .int x1), (2, .int x2), (3, .int x3), (4, .int ((M 77 ((0 : Int32) + x3).toNatClampNeg) ||| (M 77 ((96 : Int32) + x3).toNatClampNeg))), (5, .int (0 : Int32))]) X dX7_canShift_31 (by decide) [1, 2, 3, 4, 5, 0] rfl ?_
    exact (l2 c1)

set_option maxRecDepth 20000 in
theorem bk_X7_canShift_33 (X : k9_X p R s m args c A G 6 cX7_canShift wsX7_canShift RX7 rm_X7_canShift) {x1 x2 x3 x4 x5 : Int32} {rv1 : Int32}
    (l1 : ((26 : Int32) ≤ x5) → k9_U p l e R s m args below meth c Q A G 6 0 0 M 4 [(0, .ref (k9_ga G 76)), (1, .int x1), (2, .int x2), (3, .int (x3 + (1 : Int32)))] [])
    (l2 : (¬ ((26 : Int32) ≤ x5)) → (x2 = 0) → k9_U p l e R s m args below meth c Q A G 6 0 0 M 33 [(0, .ref (k9_ga G 76)), (1, .int x1), (2, .int (0 : Int32)), (3, .int x3), (4, .int x4), (5, .int (x5 + (1 : Int32)))] [])
    (l3 : (¬ ((26 : Int32) ≤ x5)) → (¬ (x2 = 0)) → (((x4 >>> (x5 &&& 31)) &&& (1 : Int32)) = 0) → k9_U p l e R s m args below meth c Q A G 6 0 0 M 33 [(0, .ref (k9_ga G 76)), (1, .int x1), (2, .int (1 : Int32)), (3, .int x3), (4, .int x4), (5, .int (x5 + (1 : Int32)))] [])
    (k1 : (¬ ((26 : Int32) ≤ x5)) → (¬ (x2 = 0)) → (¬ (((x4 >>> (x5 &&& 31)) &&& (1 : Int32)) = 0)) → k9_Ci l yX7_isTrack wsX7_isTrack rm_X7_isTrack G M [.int (x5 + x1)] rv1 M)
    (l4 : (¬ ((26 : Int32) ≤ x5)) → (¬ (x2 = 0)) → (¬ (((x4 >>> (x5 &&& 31)) &&& (1 : Int32)) = 0)) → (rv1 = 0) → k9_U p l e R s m args below meth c Q A G 6 0 0 M 33 [(0, .ref (k9_ga G 76)), (1, .int x1), (2, .int (0 : Int32)), (3, .int x3), (4, .int x4), (5, .int (x5 + (1 : Int32)))] [])
    (l5 : (¬ ((26 : Int32) ≤ x5)) → (¬ (x2 = 0)) → (¬ (((x4 >>> (x5 &&& 31)) &&& (1 : Int32)) = 0)) → (¬ (rv1 = 0)) → k9_U p l e R s m args below meth c Q A G 6 0 0 M 33 [(0, .ref (k9_ga G 76)), (1, .int x1), (2, .int (1 : Int32)), (3, .int x3), (4, .int x4), (5, .int (x5 + (1 : Int32)))] []) : k9_U p l e R s m args below meth c Q A G 6 0 0 M 33 [(0, .ref (k9_ga G 76)), (1, .int x1), (2, .int x2), (3, .int x3), (4, .int x4), (5, .int x5)] [] := by
  refine k9_iload X dX7_canShift_33 5 rfl ?_
  refine k9_bipush (v := 26) X dX7_canShift_35 (by decide) ?_
  refine k9_icmp_ge (tgt := 76) X dX7_canShift_37 (by decide) (fun c1 => ?_) (fun c1 => ?_)
  · refine k9_iinc (v := x3 + (1 : Int32)) (lv' := [(0, .ref (k9_ga G 76)), (1, .int x1), (2, .int x2), (3, .int (x3 + (1 : Int32))), (4, .int x4), (5, .int x5)]) X dX7_canShift_76 (k := 3) rfl (by rfl) (by decide) [1, 2, 3, 0, 4, 5] rfl ?_
    refine k9_goto (tgt := 4) X dX7_canShift_79 (by decide) ?_
    refine k9_sub (lv' := [(0, .ref (k9_ga G 76)), (1, .int x1), (2, .int x2), (3, .int (x3 + (1 : Int32)))]) [0, 1, 2, 3] rfl ?_
    exact (l1 c1)
  · refine k9_iload_n X dX7_canShift_40 rfl 2 rfl ?_
    refine k9_if_eq (tgt := 68) X dX7_canShift_41 (by decide) (fun c2 => ?_) (fun c2 => ?_)
    · refine k9_iconst (v := 0) X dX7_canShift_68 (by decide) ?_
      refine k9_istore_n (lv' := [(0, .ref (k9_ga G 76)), (1, .int x1), (2, .int (0 : Int32)), (3, .int x3), (4, .int x4), (5, .int x5)]) X dX7_canShift_69 rfl (by decide) [1, 2, 0, 3, 4, 5] rfl ?_
      refine k9_iinc (v := x5 + (1 : Int32)) (lv' := [(0, .ref (k9_ga G 76)), (1, .int x1), (2, .int (0 : Int32)), (3, .int x3), (4, .int x4), (5, .int (x5 + (1 : Int32)))]) X dX7_canShift_70 (k := 5) rfl (by rfl) (by decide) [1, 2, 3, 4, 5, 0] rfl ?_
      refine k9_goto (tgt := 33) X dX7_canShift_73 (by decide) ?_
      exact (l2 c1 c2)
    · refine k9_iload X dX7_canShift_44 4 rfl ?_
      refine k9_iload X dX7_canShift_46 5 rfl ?_
      refine k9_ishr X dX7_canShift_48 ?_
      refine k9_iconst (v := 1) X dX7_canShift_49 (by decide) ?_
      refine k9_iand X dX7_canShift_50 ?_
      refine k9_if_eq (tgt := 64) X dX7_canShift_51 (by decide) (fun c3 => ?_) (fun c3 => ?_)
      · refine k9_iconst (v := 1) X dX7_canShift_64 (by decide) ?_
        refine k9_goto (tgt := 69) X dX7_canShift_65 (by decide) ?_
        refine k9_istore_n (lv' := [(0, .ref (k9_ga G 76)), (1, .int x1), (2, .int (1 : Int32)), (3, .int x3), (4, .int x4), (5, .int x5)]) X dX7_canShift_69 rfl (by decide) [1, 2, 0, 3, 4, 5] rfl ?_
        refine k9_iinc (v := x5 + (1 : Int32)) (lv' := [(0, .ref (k9_ga G 76)), (1, .int x1), (2, .int (1 : Int32)), (3, .int x3), (4, .int x4), (5, .int (x5 + (1 : Int32)))]) X dX7_canShift_70 (k := 5) rfl (by rfl) (by decide) [1, 2, 3, 4, 5, 0] rfl ?_
        refine k9_goto (tgt := 33) X dX7_canShift_73 (by decide) ?_
        exact (l3 c1 c2 c3)
      · refine k9_iload X dX7_canShift_54 5 rfl ?_
        refine k9_iload_n X dX7_canShift_56 rfl 1 rfl ?_
        refine k9_iadd X dX7_canShift_57 ?_
        refine k9_callSi1 X (k1 c1 c2 c3)  (va_cwS 1 X.2.2.2.2.1 gX7_canShift_X7_isTrack rfl rfl rfl (by decide +kernel) ⟨Nat.le_of_ble_eq_true rfl, Nat.le_of_ble_eq_true rfl⟩) (Nat.le_of_ble_eq_true rfl) dX7_canShift_58 ⟨Nat.zero_le _, Nat.zero_le _⟩ ?_
        refine k9_if_eq (tgt := 68) X dX7_canShift_61 (by decide) (fun c4 => ?_) (fun c4 => ?_)
        · refine k9_iconst (v := 0) X dX7_canShift_68 (by decide) ?_
          refine k9_istore_n (lv' := [(0, .ref (k9_ga G 76)), (1, .int x1), (2, .int (0 : Int32)), (3, .int x3), (4, .int x4), (5, .int x5)]) X dX7_canShift_69 rfl (by decide) [1, 2, 0, 3, 4, 5] rfl ?_
          refine k9_iinc (v := x5 + (1 : Int32)) (lv' := [(0, .ref (k9_ga G 76)), (1, .int x1), (2, .int (0 : Int32)), (3, .int x3), (4, .int x4), (5, .int (x5 + (1 : Int32)))]) X dX7_canShift_70 (k := 5) rfl (by rfl) (by decide) [1, 2, 3, 4, 5, 0] rfl ?_
          refine k9_goto (tgt := 33) X dX7_canShift_73 (by decide) ?_
          exact (l4 c1 c2 c3 c4)
        · refine k9_iconst (v := 1) X dX7_canShift_64 (by decide) ?_
          refine k9_goto (tgt := 69) X dX7_canShift_65 (by decide) ?_
          refine k9_istore_n (lv' := [(0, .ref (k9_ga G 76)), (1, .int x1), (2, .int (1 : Int32)), (3, .int x3), (4, .int x4), (5, .int x5)]) X dX7_canShift_69 rfl (by decide) [1, 2, 0, 3, 4, 5] rfl ?_
          refine k9_iinc (v := x5 + (1 : Int32)) (lv' := [(0, .ref (k9_ga G 76)), (1, .int x1), (2, .int (1 : Int32)), (3, .int x3), (4, .int x4), (5, .int (x5 + (1 : Int32)))]) X dX7_canShift_70 (k := 5) rfl (by rfl) (by decide) [1, 2, 3, 4, 5, 0] rfl ?_
          refine k9_goto (tgt := 33) X dX7_canShift_73 (by decide) ?_
          exact (l5 c1 c2 c3 c4)

end BK
