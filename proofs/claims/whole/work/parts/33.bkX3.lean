section BK
variable {p : Program} {l : Launch} {e : Env} {R : Room} {s : State} {m : MethodId} {args : Array Value} {below : List Frame} {meth : Method} {c : Code} {Q : State → Prop} {A : Nat → Prop} {G : k9_G} {M : k9_Mem}
theorem in_X3_copyFrom_X3 : ∀ w ∈ u_ws RX3 TX3 7, w ∈ wsX3_copyFrom := by decide +kernel
theorem fl_X3_copyFrom_9 : Cond.fieldLink RX3 9 (TX3 0).1 (TX3 0).2.1 (TX3 0).2.2.1 ∈ wsX3_copyFrom := by decide +kernel
theorem ac_X3_copyFrom_38 : ∀ w ∈ [Cond.methodLink RX3 38 arraycopyName, .native arraycopyName, .static arraycopyName, .initialized "java/lang/System"], w ∈ wsX3_copyFrom := by decide +kernel
theorem fl_X3_copyFrom_15 : Cond.fieldLink RX3 15 (TX3 1).1 (TX3 1).2.1 (TX3 1).2.2.1 ∈ wsX3_copyFrom := by decide +kernel
theorem fl_X3_copyFrom_18 : Cond.fieldLink RX3 18 (TX3 2).1 (TX3 2).2.1 (TX3 2).2.2.1 ∈ wsX3_copyFrom := by decide +kernel
theorem fl_X3_copyFrom_21 : Cond.fieldLink RX3 21 (TX3 3).1 (TX3 3).2.1 (TX3 3).2.2.1 ∈ wsX3_copyFrom := by decide +kernel
theorem fl_X3_copyFrom_27 : Cond.fieldLink RX3 27 (TX3 4).1 (TX3 4).2.1 (TX3 4).2.2.1 ∈ wsX3_copyFrom := by decide +kernel
theorem fl_X3_copyFrom_31 : Cond.fieldLink RX3 31 (TX3 5).1 (TX3 5).2.1 (TX3 5).2.2.1 ∈ wsX3_copyFrom := by decide +kernel
theorem fl_X3_copyFrom_35 : Cond.fieldLink RX3 35 (TX3 6).1 (TX3 6).2.1 (TX3 6).2.2.1 ∈ wsX3_copyFrom := by decide +kernel
set_option maxRecDepth 20000 in
theorem bk_X3_copyFrom_0 (X : k9_X p R s m args c A G 2 cX3_copyFrom wsX3_copyFrom RX3 rm_X3_copyFrom) {q : Nat} (hq : k9_isP q) {o : Nat} (ho : k9_isP o) {mv1 : k9_Mem}
    (k1 : k9_Cv l yX0_copyNotes wsX0_copyNotes rm_X0_copyNotes G (k9_sc (k9_sc (k9_sc (k9_sc M (q + 1) (va_cpy (M (o + 1)) (M (q + 1)) 0 0 96)) (q + 2) (va_cpy ((k9_sc M (q + 1) (va_cpy (M (o + 1)) (M (q + 1)) 0 0 96)) (o + 2)) ((k9_sc M (q + 1) (va_cpy (M (o + 1)) (M (q + 1)) 0 0 96)) (q + 2)) 0 0 96)) (q + 3) (va_cpy ((k9_sc (k9_sc M (q + 1) (va_cpy (M (o + 1)) (M (q + 1)) 0 0 96)) (q + 2) (va_cpy ((k9_sc M (q + 1) (va_cpy (M (o + 1)) (M (q + 1)) 0 0 96)) (o + 2)) ((k9_sc M (q + 1) (va_cpy (M (o + 1)) (M (q + 1)) 0 0 96)) (q + 2)) 0 0 96)) (o + 3)) ((k9_sc (k9_sc M (q + 1) (va_cpy (M (o + 1)) (M (q + 1)) 0 0 96)) (q + 2) (va_cpy ((k9_sc M (q + 1) (va_cpy (M (o + 1)) (M (q + 1)) 0 0 96)) (o + 2)) ((k9_sc M (q + 1) (va_cpy (M (o + 1)) (M (q + 1)) 0 0 96)) (q + 2)) 0 0 96)) (q + 3)) 0 0 96)) (q + 4) (va_cpy ((k9_sc (k9_sc (k9_sc M (q + 1) (va_cpy (M (o + 1)) (M (q + 1)) 0 0 96)) (q + 2) (va_cpy ((k9_sc M (q + 1) (va_cpy (M (o + 1)) (M (q + 1)) 0 0 96)) (o + 2)) ((k9_sc M (q + 1) (va_cpy (M (o + 1)) (M (q + 1)) 0 0 96)) (q + 2)) 0 0 96)) (q + 3) (va_cpy ((k9_sc (k9_sc M (q + 1) (va_cpy (M (o + 1)) (M (q + 1)) 0 0 96)) (q + 2) (va_cpy ((k9_sc M (q + 1) (va_cpy (M (o + 1)) (M (q + 1)) 0 0 96)) (o + 2)) ((k9_sc M (q + 1) (va_cpy (M (o + 1)) (M (q + 1)) 0 0 96)) (q + 2)) 0 0 96)) (o + 3)) ((k9_sc (k9_sc M (q + 1) (va_cpy (M (o + 1)) (M (q + 1)) 0 0 96)) (q + 2) (va_cpy ((k9_sc M (q + 1) (va_cpy (M (o + 1)) (M (q + 1)) 0 0 96)) (o + 2)) ((k9_sc M (q + 1) (va_cpy (M (o + 1)) (M (q + 1)) 0 0 96)) (q + 2)) 0 0 96)) (q + 3)) 0 0 96)) (o + 4)) ((k9_sc (k9_sc (k9_sc M (q + 1) (va_cpy (M (o + 1)) (M (q + 1)) 0 0 96)) (q + 2) (va_cpy ((k9_sc M (q + 1) (va_cpy (M (o + 1)) (M (q + 1)) 0 0 96)) (o + 2)) ((k9_sc M (q + 1) (va_cpy (M (o + 1)) (M (q + 1)) 0 0 96)) (q + 2)) 0 0 96)) (q + 3) (va_cpy ((k9_sc (k9_sc M (q + 1) (va_cpy (M (o + 1)) (M (q + 1)) 0 0 96)) (q + 2) (va_cpy ((k9_sc M (q + 1) (va_cpy (M (o + 1)) (M (q + 1)) 0 0 96)) (o + 2)) ((k9_sc M (q + 1) (va_cpy (M (o + 1)) (M (q + 1)) 0 0 96)) (q + 2)) 0 0 96)) (o + 3)) ((k9_sc (k9_sc M (q + 1) (va_cpy (M (o + 1)) (M (q + 1)) 0 0 96)) (q + 2) (va_cpy ((k9_sc M (q + 1) (va_cpy (M (o + 1)) (M (q + 1)) 0 0 96)) (o + 2)) ((k9_sc M (q + 1) (va_cpy (M (o + 1)) (M (q + 1)) 0 0 96)) (q + 2)) 0 0 96)) (q + 3)) 0 0 96)) (q + 4)) 0 0 96)) [.ref (k9_ga G (q + 5)), .ref (k9_ga G (o + 5))] mv1)
    (l1 : k9_U p l e R s m args below meth c Q A G 2 0 0 (k9_st (k9_st mv1 q 5 (mv1 o 5)) q 6 ((k9_st mv1 q 5 (mv1 o 5)) o 6)) 87 [] []) : k9_U p l e R s m args below meth c Q A G 2 0 0 M 0 [(0, .ref (k9_ga G q)), (1, .ref (k9_ga G o))] [] := by
  refine k9_aload_n X dX3_copyFrom_0 rfl 1 rfl ?_
  refine k9_gX3_0 (q := o) (q1 := (o + 1)) X ho (by rfl) in_X3_copyFrom_X3 fl_X3_copyFrom_9 dX3_copyFrom_1 ?_
  refine k9_iconst (v := 0) X dX3_copyFrom_4 (by decide) ?_
  refine k9_aload_n X dX3_copyFrom_5 rfl 0 rfl ?_
  refine k9_gX3_0 (q := q) (q1 := (q + 1)) X hq (by rfl) in_X3_copyFrom_X3 fl_X3_copyFrom_9 dX3_copyFrom_6 ?_
  refine k9_iconst (v := 0) X dX3_copyFrom_9 (by decide) ?_
  refine k9_bipush (v := 96) X dX3_copyFrom_10 (by decide) ?_
  refine k9_acopy X (k9_ce_P ho G (fun _ => 0)).2.2.1 (k9_ce_P hq G (fun _ => 0)).2.2.1 ac_X3_copyFrom_38 dX3_copyFrom_12 rfl ⟨by decide, by decide +kernel⟩ ?_
  refine k9_aload_n X dX3_copyFrom_15 rfl 1 rfl ?_
  refine k9_gX3_1 (q := o) (q1 := (o + 2)) X ho (by rfl) in_X3_copyFrom_X3 fl_X3_copyFrom_15 dX3_copyFrom_16 ?_
  refine k9_iconst (v := 0) X dX3_copyFrom_19 (by decide) ?_
  refine k9_aload_n X dX3_copyFrom_20 rfl 0 rfl ?_
  refine k9_gX3_1 (q := q) (q1 := (q + 2)) X hq (by rfl) in_X3_copyFrom_X3 fl_X3_copyFrom_15 dX3_copyFrom_21 ?_
  refine k9_iconst (v := 0) X dX3_copyFrom_24 (by decide) ?_
  refine k9_bipush (v := 96) X dX3_copyFrom_25 (by decide) ?_
  refine k9_acopy X (k9_ce_P ho G (fun _ => 0)).2.2.2.1 (k9_ce_P hq G (fun _ => 0)).2.2.2.1 ac_X3_copyFrom_38 dX3_copyFrom_27 rfl ⟨by decide, by decide +kernel⟩ ?_
  refine k9_aload_n X dX3_copyFrom_30 rfl 1 rfl ?_
  refine k9_gX3_2 (q := o) (q1 := (o + 3)) X ho (by rfl) in_X3_copyFrom_X3 fl_X3_copyFrom_18 dX3_copyFrom_31 ?_
  refine k9_iconst (v := 0) X dX3_copyFrom_34 (by decide) ?_
  refine k9_aload_n X dX3_copyFrom_35 rfl 0 rfl ?_
  refine k9_gX3_2 (q := q) (q1 := (q + 3)) X hq (by rfl) in_X3_copyFrom_X3 fl_X3_copyFrom_18 dX3_copyFrom_36 ?_
  refine k9_iconst (v := 0) X dX3_copyFrom_39 (by decide) ?_
  refine k9_bipush (v := 96) X dX3_copyFrom_40 (by decide) ?_
  refine k9_acopy X (k9_ce_P ho G (fun _ => 0)).2.2.2.2.1 (k9_ce_P hq G (fun _ => 0)).2.2.2.2.1 ac_X3_copyFrom_38 dX3_copyFrom_42 rfl ⟨by decide, by decide +kernel⟩ ?_
  refine k9_aload_n X dX3_copyFrom_45 rfl 1 rfl ?_
  refine k9_gX3_3 (q := o) (q1 := (o + 4)) X ho (by rfl) in_X3_copyFrom_X3 fl_X3_copyFrom_21 dX3_copyFrom_46 ?_
  refine k9_iconst (v := 0) X dX3_copyFrom_49 (by decide) ?_
  refine k9_aload_n X dX3_copyFrom_50 rfl 0 rfl ?_
  refine k9_gX3_3 (q := q) (q1 := (q + 4)) X hq (by rfl) in_X3_copyFrom_X3 fl_X3_copyFrom_21 dX3_copyFrom_51 ?_
  refine k9_iconst (v := 0) X dX3_copyFrom_54 (by decide) ?_
  refine k9_bipush (v := 96) X dX3_copyFrom_55 (by decide) ?_
  refine k9_acopy X (k9_ce_P ho G (fun _ => 0)).2.2.2.2.2.1 (k9_ce_P hq G (fun _ => 0)).2.2.2.2.2.1 ac_X3_copyFrom_38 dX3_copyFrom_57 rfl ⟨by decide, by decide +kernel⟩ ?_
  refine k9_aload_n X dX3_copyFrom_60 rfl 0 rfl ?_
  refine k9_gX3_4 (q := q) (q1 := (q + 5)) X hq (by rfl) in_X3_copyFrom_X3 fl_X3_copyFrom_27 dX3_copyFrom_61 ?_
  refine k9_aload_n X dX3_copyFrom_64 rfl 1 rfl ?_
  refine k9_gX3_4 (q := o) (q1 := (o + 5)) X ho (by rfl) in_X3_copyFrom_X3 fl_X3_copyFrom_27 dX3_copyFrom_65 ?_
  refine k9_callVv1 X k1 (k9_ob_C (k9_ce_P hq G (fun _ => 0)).2.2.2.2.2.2) (cwV 1 X.2.2.2.2.1 gX3_copyFrom_X0_copyNotes rfl rfl rfl (by decide +kernel) ⟨Nat.le_of_ble_eq_true rfl, Nat.le_of_ble_eq_true rfl⟩) (Nat.le_of_ble_eq_true rfl) dX3_copyFrom_68 ⟨Nat.zero_le _, Nat.zero_le _⟩ ?_
  refine k9_aload_n X dX3_copyFrom_71 rfl 0 rfl ?_
  refine k9_aload_n X dX3_copyFrom_72 rfl 1 rfl ?_
  refine k9_gX3_5 (q := o) X ho (by rfl) in_X3_copyFrom_X3 fl_X3_copyFrom_31 dX3_copyFrom_73 ?_
  refine k9_pX3_5 (q := q) X hq in_X3_copyFrom_X3 fl_X3_copyFrom_31 dX3_copyFrom_76 ?_
  refine k9_aload_n X dX3_copyFrom_79 rfl 0 rfl ?_
  refine k9_aload_n X dX3_copyFrom_80 rfl 1 rfl ?_
  refine k9_gX3_6 (q := o) X ho (by rfl) in_X3_copyFrom_X3 fl_X3_copyFrom_35 dX3_copyFrom_81 ?_
  refine k9_pX3_6 (q := q) X hq in_X3_copyFrom_X3 fl_X3_copyFrom_35 dX3_copyFrom_84 ?_
  refine k9_sub (lv' := []) [] rfl ?_
  exact l1

theorem in_X3_cutChain_X3 : ∀ w ∈ u_ws RX3 TX3 7, w ∈ wsX3_cutChain := by decide +kernel
theorem fl_X3_cutChain_31 : Cond.fieldLink RX3 31 (TX3 5).1 (TX3 5).2.1 (TX3 5).2.2.1 ∈ wsX3_cutChain := by decide +kernel
set_option maxRecDepth 20000 in
theorem bk_X3_cutChain_0 (X : k9_X p R s m args c A G 9 cX3_cutChain wsX3_cutChain RX3 rm_X3_cutChain) {a0 a1 a2 : Int32}
    (l1 : k9_U p l e R s m args below meth c Q A G 9 0 0 M 23 [(0, .ref (k9_ga G 1)), (4, .int ((1 : Int32) <<< ((a0 + (2 : Int32)) &&& 31))), (5, .int ((a1 + a2) - (1 : Int32))), (6, .int (0 : Int32)), (7, .int a1), (8, .int a1)] []) : k9_U p l e R s m args below meth c Q A G 9 0 0 M 0 [(0, .ref (k9_ga G 1)), (1, .int a0), (2, .int a1), (3, .int a2)] [] := by
  refine k9_iconst (v := 1) X dX3_cutChain_0 (by decide) ?_
  refine k9_iload_n X dX3_cutChain_1 rfl 1 rfl ?_
  refine k9_iconst (v := 2) X dX3_cutChain_2 (by decide) ?_
  refine k9_iadd X dX3_cutChain_3 ?_
  refine k9_ishl X dX3_cutChain_4 ?_
  refine k9_istore (lv' := [(0, .ref (k9_ga G 1)), (1, .int a0), (2, .int a1), (3, .int a2), (4, .int ((1 : Int32) <<< ((a0 + (2 : Int32)) &&& 31)))]) X dX3_cutChain_5 (by decide) [1, 2, 3, 4, 0] rfl ?_
  refine k9_iload_n X dX3_cutChain_7 rfl 2 rfl ?_
  refine k9_iload_n X dX3_cutChain_8 rfl 3 rfl ?_
  refine k9_iadd X dX3_cutChain_9 ?_
  refine k9_iconst (v := 1) X dX3_cutChain_10 (by decide) ?_
  refine k9_isub X dX3_cutChain_11 ?_
  refine k9_istore (lv' := [(0, .ref (k9_ga G 1)), (1, .int a0), (2, .int a1), (3, .int a2), (4, .int ((1 : Int32) <<< ((a0 + (2 : Int32)) &&& 31))), (5, .int ((a1 + a2) - (1 : Int32)))]) X dX3_cutChain_12 (by decide) [1, 2, 3, 4, 5, 0] rfl ?_
  refine k9_iconst (v := 0) X dX3_cutChain_14 (by decide) ?_
  refine k9_istore (lv' := [(0, .ref (k9_ga G 1)), (1, .int a0), (2, .int a1), (3, .int a2), (4, .int ((1 : Int32) <<< ((a0 + (2 : Int32)) &&& 31))), (5, .int ((a1 + a2) - (1 : Int32))), (6, .int (0 : Int32))]) X dX3_cutChain_15 (by decide) [1, 2, 3, 4, 5, 6, 0] rfl ?_
  refine k9_iload_n X dX3_cutChain_17 rfl 2 rfl ?_
  refine k9_istore (lv' := [(0, .ref (k9_ga G 1)), (1, .int a0), (2, .int a1), (3, .int a2), (4, .int ((1 : Int32) <<< ((a0 + (2 : Int32)) &&& 31))), (5, .int ((a1 + a2) - (1 : Int32))), (6, .int (0 : Int32)), (7, .int a1)]) X dX3_cutChain_18 (by decide) [1, 2, 3, 4, 5, 6, 7, 0] rfl ?_
  refine k9_iload_n X dX3_cutChain_20 rfl 2 rfl ?_
  refine k9_istore (lv' := [(0, .ref (k9_ga G 1)), (1, .int a0), (2, .int a1), (3, .int a2), (4, .int ((1 : Int32) <<< ((a0 + (2 : Int32)) &&& 31))), (5, .int ((a1 + a2) - (1 : Int32))), (6, .int (0 : Int32)), (7, .int a1), (8, .int a1)]) X dX3_cutChain_21 (by decide) [1, 2, 3, 4, 5, 6, 7, 8, 0] rfl ?_
  refine k9_sub (lv' := [(0, .ref (k9_ga G 1)), (4, .int ((1 : Int32) <<< ((a0 + (2 : Int32)) &&& 31))), (5, .int ((a1 + a2) - (1 : Int32))), (6, .int (0 : Int32)), (7, .int a1), (8, .int a1)]) [0, 4, 5, 6, 7, 8] rfl ?_
  exact l1

set_option maxRecDepth 20000 in
theorem bk_X3_cutChain_23 (X : k9_X p R s m args c A G 9 cX3_cutChain wsX3_cutChain RX3 rm_X3_cutChain) {x4 x5 x6 x7 x8 : Int32} {rv1 : Int32} {mv1 : k9_Mem} {rv2 : Int32} {mv2 : k9_Mem}
    (l1 : (x5 < x8) → k9_U p l e R s m args below meth c Q A G 9 0 0 M 76 [] [.int x6])
    (k1 : (¬ (x5 < x8)) → (x8 = x7) → k9_Ci l yX3_cut wsX3_cut rm_X3_cut G M [.ref (k9_ga G 1), .int x8, .int x4] rv1 mv1)
    (l2 : (¬ (x5 < x8)) → (x8 = x7) → k9_U p l e R s m args below meth c Q A G 9 0 0 mv1 23 [(0, .ref (k9_ga G 1)), (4, .int x4), (5, .int x5), (6, .int (x6 + rv1)), (7, .int ((x8 + (mv1 1 5)) + (1 : Int32))), (8, .int (x8 + (1 : Int32)))] [])
    (l3 : (¬ (x5 < x8)) → (¬ (x8 = x7)) → (¬ x8 = x5) → k9_U p l e R s m args below meth c Q A G 9 0 0 M 23 [(0, .ref (k9_ga G 1)), (4, .int x4), (5, .int x5), (6, .int x6), (7, .int x7), (8, .int (x8 + (1 : Int32)))] [])
    (k2 : (¬ (x5 < x8)) → (¬ (x8 = x7)) → (x8 = x5) → k9_Ci l yX3_cut wsX3_cut rm_X3_cut G M [.ref (k9_ga G 1), .int x8, .int x4] rv2 mv2)
    (l4 : (¬ (x5 < x8)) → (¬ (x8 = x7)) → (x8 = x5) → k9_U p l e R s m args below meth c Q A G 9 0 0 mv2 23 [(0, .ref (k9_ga G 1)), (4, .int x4), (5, .int x5), (6, .int (x6 + rv2)), (7, .int ((x8 + (mv2 1 5)) + (1 : Int32))), (8, .int (x8 + (1 : Int32)))] []) : k9_U p l e R s m args below meth c Q A G 9 0 0 M 23 [(0, .ref (k9_ga G 1)), (4, .int x4), (5, .int x5), (6, .int x6), (7, .int x7), (8, .int x8)] [] := by
  refine k9_iload X dX3_cutChain_23 5 rfl ?_
  refine k9_iload X dX3_cutChain_25 2 rfl ?_
  refine k9_icmp_gt (tgt := 74) X dX3_cutChain_27 (by decide) (fun c1 => ?_) (fun c1 => ?_)
  · refine k9_iload X dX3_cutChain_74 3 rfl ?_
    refine k9_sub (lv' := []) [] rfl ?_
    exact (l1 c1)
  · refine k9_iload X dX3_cutChain_30 5 rfl ?_
    refine k9_iload X dX3_cutChain_32 4 rfl ?_
    refine k9_icmp_eq (tgt := 44) X dX3_cutChain_34 (by decide) (fun c2 => ?_) (fun c2 => ?_)
    · refine k9_iload X dX3_cutChain_44 3 rfl ?_
      refine k9_aload_n X dX3_cutChain_46 rfl 0 rfl ?_
      refine k9_iload X dX3_cutChain_47 5 rfl ?_
      refine k9_iload X dX3_cutChain_49 1 rfl ?_
      refine k9_callVi2 X (k1 c1 c2) (k9_ob_P (by decide)) (cwV 2 X.2.2.2.2.1 gX3_cutChain_X3_cut rfl rfl rfl (by decide +kernel) ⟨Nat.le_of_ble_eq_true rfl, Nat.le_of_ble_eq_true rfl⟩) (Nat.le_of_ble_eq_true rfl) dX3_cutChain_51 ⟨Nat.zero_le _, Nat.zero_le _⟩ ?_
      refine k9_iadd X dX3_cutChain_54 ?_
      refine k9_istore (lv' := [(0, .ref (k9_ga G 1)), (4, .int x4), (5, .int x5), (6, .int (x6 + rv1)), (7, .int x7), (8, .int x8)]) X dX3_cutChain_55 (by decide) [1, 2, 3, 0, 4, 5] rfl ?_
      refine k9_iload X dX3_cutChain_57 5 rfl ?_
      refine k9_aload_n X dX3_cutChain_59 rfl 0 rfl ?_
      refine k9_gX3_5 (q := 1) X (by decide) (by rfl) in_X3_cutChain_X3 fl_X3_cutChain_31 dX3_cutChain_60 ?_
      refine k9_iadd X dX3_cutChain_63 ?_
      refine k9_iconst (v := 1) X dX3_cutChain_64 (by decide) ?_
      refine k9_iadd X dX3_cutChain_65 ?_
      refine k9_istore (lv' := [(0, .ref (k9_ga G 1)), (4, .int x4), (5, .int x5), (6, .int (x6 + rv1)), (7, .int ((x8 + (mv1 1 5)) + (1 : Int32))), (8, .int x8)]) X dX3_cutChain_66 (by decide) [1, 2, 3, 4, 0, 5] rfl ?_
      refine k9_iinc (v := x8 + (1 : Int32)) (lv' := [(0, .ref (k9_ga G 1)), (4, .int x4), (5, .int x5), (6, .int (x6 + rv1)), (7, .int ((x8 + (mv1 1 5)) + (1 : Int32))), (8, .int (x8 + (1 : Int32)))]) X dX3_cutChain_68 (k := 5) rfl (by rfl) (by decide) [1, 2, 3, 4, 5, 0] rfl ?_
      refine k9_goto (tgt := 23) X dX3_cutChain_71 (by decide) ?_
      exact (l2 c1 c2)
    · refine k9_iload X dX3_cutChain_37 5 rfl ?_
      refine k9_iload X dX3_cutChain_39 2 rfl ?_
      refine k9_icmp_ne (tgt := 68) X dX3_cutChain_41 (by decide) (fun c3 => ?_) (fun c3 => ?_)
      · refine k9_iinc (v := x8 + (1 : Int32)) (lv' := [(0, .ref (k9_ga G 1)), (4, .int x4), (5, .int x5), (6, .int x6), (7, .int x7), (8, .int (x8 + (1 : Int32)))]) X dX3_cutChain_68 (k := 5) rfl (by rfl) (by decide) [1, 2, 3, 4, 5, 0] rfl ?_
        refine k9_goto (tgt := 23) X dX3_cutChain_71 (by decide) ?_
        exact (l3 c1 c2 c3)
      · refine k9_iload X dX3_cutChain_44 3 rfl ?_
        refine k9_aload_n X dX3_cutChain_46 rfl 0 rfl ?_
        refine k9_iload X dX3_cutChain_47 5 rfl ?_
        refine k9_iload X dX3_cutChain_49 1 rfl ?_
        refine k9_callVi2 X (k2 c1 c2 c3) (k9_ob_P (by decide)) (cwV 2 X.2.2.2.2.1 gX3_cutChain_X3_cut rfl rfl rfl (by decide +kernel) ⟨Nat.le_of_ble_eq_true rfl, Nat.le_of_ble_eq_true rfl⟩) (Nat.le_of_ble_eq_true rfl) dX3_cutChain_51 ⟨Nat.zero_le _, Nat.zero_le _⟩ ?_
        refine k9_iadd X dX3_cutChain_54 ?_
        refine k9_istore (lv' := [(0, .ref (k9_ga G 1)), (4, .int x4), (5, .int x5), (6, .int (x6 + rv2)), (7, .int x7), (8, .int x8)]) X dX3_cutChain_55 (by decide) [1, 2, 3, 0, 4, 5] rfl ?_
        refine k9_iload X dX3_cutChain_57 5 rfl ?_
        refine k9_aload_n X dX3_cutChain_59 rfl 0 rfl ?_
        refine k9_gX3_5 (q := 1) X (by decide) (by rfl) in_X3_cutChain_X3 fl_X3_cutChain_31 dX3_cutChain_60 ?_
        refine k9_iadd X dX3_cutChain_63 ?_
        refine k9_iconst (v := 1) X dX3_cutChain_64 (by decide) ?_
        refine k9_iadd X dX3_cutChain_65 ?_
        refine k9_istore (lv' := [(0, .ref (k9_ga G 1)), (4, .int x4), (5, .int x5), (6, .int (x6 + rv2)), (7, .int ((x8 + (mv2 1 5)) + (1 : Int32))), (8, .int x8)]) X dX3_cutChain_66 (by decide) [1, 2, 3, 4, 0, 5] rfl ?_
        refine k9_iinc (v := x8 + (1 : Int32)) (lv' := [(0, .ref (k9_ga G 1)), (4, .int x4), (5, .int x5), (6, .int (x6 + rv2)), (7, .int ((x8 + (mv2 1 5)) + (1 : Int32))), (8, .int (x8 + (1 : Int32)))]) X dX3_cutChain_68 (k := 5) rfl (by rfl) (by decide) [1, 2, 3, 4, 5, 0] rfl ?_
        refine k9_goto (tgt := 23) X dX3_cutChain_71 (by decide) ?_
        exact (l4 c1 c2 c3)

theorem in_X3_cut_X3 : ∀ w ∈ u_ws RX3 TX3 7, w ∈ wsX3_cut := by decide +kernel
theorem fl_X3_cut_9 : Cond.fieldLink RX3 9 (TX3 0).1 (TX3 0).2.1 (TX3 0).2.2.1 ∈ wsX3_cut := by decide +kernel
theorem fl_X3_cut_15 : Cond.fieldLink RX3 15 (TX3 1).1 (TX3 1).2.1 (TX3 1).2.2.1 ∈ wsX3_cut := by decide +kernel
set_option maxRecDepth 20000 in
theorem bk_X3_cut_0 (X : k9_X p R s m args c A G 4 cX3_cut wsX3_cut RX3 rm_X3_cut) {a0 a1 : Int32} {rv1 : Int32}
    (k1 : k9_Ci l yX6_isStep wsX6_isStep rm_X6_isStep G M [.int a0] rv1 M)
    (o1 : (¬ rv1 = 0) → vp_in a0 96)
    (l1 : (¬ rv1 = 0) → (¬ ((M 2 a0.toNatClampNeg) &&& a1) = 0) → k9_U p l e R s m args below meth c Q A G 4 0 0 (k9_st (k9_st M 2 a0.toNatClampNeg ((M 2 a0.toNatClampNeg) ||| a1)) 3 a0.toNatClampNeg ((M 3 a0.toNatClampNeg) &&& (a1 ^^^ (-1 : Int32)))) 49 [] [.int (0 : Int32)])
    (l2 : (¬ rv1 = 0) → (((M 2 a0.toNatClampNeg) &&& a1) = 0) → k9_U p l e R s m args below meth c Q A G 4 0 0 (k9_st (k9_st M 2 a0.toNatClampNeg ((M 2 a0.toNatClampNeg) ||| a1)) 3 a0.toNatClampNeg ((M 3 a0.toNatClampNeg) &&& (a1 ^^^ (-1 : Int32)))) 49 [] [.int (1 : Int32)])
    (l3 : (rv1 = 0) → k9_U p l e R s m args below meth c Q A G 4 0 0 M 8 [] [.int (0 : Int32)]) : k9_U p l e R s m args below meth c Q A G 4 0 0 M 0 [(0, .ref (k9_ga G 1)), (1, .int a0), (2, .int a1)] [] := by
  refine k9_iload_n X dX3_cut_0 rfl 1 rfl ?_
  refine k9_callNi1 X k1  (k9_cwN (host := "RollPunch") 1 gX3_cut_X6_isStep_n52 rfl rfl rfl (by decide +kernel) (by decide +kernel) (by decide +kernel) (by decide +kernel) ⟨Nat.le_of_ble_eq_true rfl, Nat.le_of_ble_eq_true rfl⟩) (Nat.le_of_ble_eq_true rfl) dX3_cut_1 ⟨Nat.zero_le _, Nat.zero_le _⟩ ?_
  refine k9_if_ne (tgt := 9) X dX3_cut_4 (by decide) (fun c1 => ?_) (fun c1 => ?_)
  · refine k9_aload_n X dX3_cut_9 rfl 0 rfl ?_
    refine k9_gX3_0 (q := 1) (q1 := 2) X (by decide) (by rfl) in_X3_cut_X3 fl_X3_cut_9 dX3_cut_10 ?_
    refine k9_iload_n X dX3_cut_13 rfl 1 rfl ?_
    refine k9_iald X (by decide) (o1 c1) (by rfl) dX3_cut_14 ?_
    refine k9_iload_n X dX3_cut_15 rfl 2 rfl ?_
    refine k9_iand X dX3_cut_16 ?_
    refine k9_if_ne (tgt := 24) X dX3_cut_17 (by decide) (fun c2 => ?_) (fun c2 => ?_)
    · refine k9_iconst (v := 0) X dX3_cut_24 (by decide) ?_
      refine k9_istore_n (lv' := [(0, .ref (k9_ga G 1)), (1, .int a0), (2, .int a1), (3, .int (0 : Int32))]) X dX3_cut_25 rfl (by decide) [1, 2, 3, 0] rfl ?_
      refine k9_aload_n X dX3_cut_26 rfl 0 rfl ?_
      refine k9_gX3_0 (q := 1) (q1 := 2) X (by decide) (by rfl) in_X3_cut_X3 fl_X3_cut_9 dX3_cut_27 ?_
      refine k9_iload_n X dX3_cut_30 rfl 1 rfl ?_
      refine k9_dup2 X dX3_cut_31 rfl rfl ?_
      refine k9_iald X (by decide) (o1 c1) (by rfl) dX3_cut_32 ?_
      refine k9_iload_n X dX3_cut_33 rfl 2 rfl ?_
      refine k9_ior X dX3_cut_34 ?_
      refine k9_iast X (by decide) (o1 c1) dX3_cut_35 ?_
      refine k9_aload_n X dX3_cut_36 rfl 0 rfl ?_
      refine k9_gX3_1 (q := 1) (q1 := 3) X (by decide) (by rfl) in_X3_cut_X3 fl_X3_cut_15 dX3_cut_37 ?_
      refine k9_iload_n X dX3_cut_40 rfl 1 rfl ?_
      refine k9_dup2 X dX3_cut_41 rfl rfl ?_
      refine k9_iald (v := (M 3 a0.toNatClampNeg)) X (by decide) (o1 c1) (by rfl) dX3_cut_42 ?_
      refine k9_iload_n X dX3_cut_43 rfl 2 rfl ?_
      refine k9_iconst (v := -1) X dX3_cut_44 (by decide) ?_
      refine k9_ixor X dX3_cut_45 ?_
      refine k9_iand X dX3_cut_46 ?_
      refine k9_iast X (by decide) (o1 c1) dX3_cut_47 ?_
      refine k9_iload_n X dX3_cut_48 rfl 3 rfl ?_
      refine k9_sub (lv' := []) [] rfl ?_
      exact (l1 c1 c2)
    · refine k9_iconst (v := 1) X dX3_cut_20 (by decide) ?_
      refine k9_goto (tgt := 25) X dX3_cut_21 (by decide) ?_
      refine k9_istore_n (lv' := [(0, .ref (k9_ga G 1)), (1, .int a0), (2, .int a1), (3, .int (1 : Int32))]) X dX3_cut_25 rfl (by decide) [1, 2, 3, 0] rfl ?_
      refine k9_aload_n X dX3_cut_26 rfl 0 rfl ?_
      refine k9_gX3_0 (q := 1) (q1 := 2) X (by decide) (by rfl) in_X3_cut_X3 fl_X3_cut_9 dX3_cut_27 ?_
      refine k9_iload_n X dX3_cut_30 rfl 1 rfl ?_
      refine k9_dup2 X dX3_cut_31 rfl rfl ?_
      refine k9_iald X (by decide) (o1 c1) (by rfl) dX3_cut_32 ?_
      refine k9_iload_n X dX3_cut_33 rfl 2 rfl ?_
      refine k9_ior X dX3_cut_34 ?_
      refine k9_iast X (by decide) (o1 c1) dX3_cut_35 ?_
      refine k9_aload_n X dX3_cut_36 rfl 0 rfl ?_
      refine k9_gX3_1 (q := 1) (q1 := 3) X (by decide) (by rfl) in_X3_cut_X3 fl_X3_cut_15 dX3_cut_37 ?_
      refine k9_iload_n X dX3_cut_40 rfl 1 rfl ?_
      refine k9_dup2 X dX3_cut_41 rfl rfl ?_
      refine k9_iald (v := (M 3 a0.toNatClampNeg)) X (by decide) (o1 c1) (by rfl) dX3_cut_42 ?_
      refine k9_iload_n X dX3_cut_43 rfl 2 rfl ?_
      refine k9_iconst (v := -1) X dX3_cut_44 (by decide) ?_
      refine k9_ixor X dX3_cut_45 ?_
      refine k9_iand X dX3_cut_46 ?_
      refine k9_iast X (by decide) (o1 c1) dX3_cut_47 ?_
      refine k9_iload_n X dX3_cut_48 rfl 3 rfl ?_
      refine k9_sub (lv' := []) [] rfl ?_
      exact (l2 c1 c2)
  · refine k9_iconst (v := 0) X dX3_cut_7 (by decide) ?_
    refine k9_sub (lv' := []) [] rfl ?_
    exact (l3 c1)

theorem in_X3_holesIn_X3 : ∀ w ∈ u_ws RX3 TX3 7, w ∈ wsX3_holesIn := by decide +kernel
theorem fl_X3_holesIn_31 : Cond.fieldLink RX3 31 (TX3 5).1 (TX3 5).2.1 (TX3 5).2.2.1 ∈ wsX3_holesIn := by decide +kernel
set_option maxRecDepth 20000 in
theorem bk_X3_holesIn_0 (X : k9_X p R s m args c A G 5 cX3_holesIn wsX3_holesIn RX3 rm_X3_holesIn) {a0 : Int32}
    (l1 : k9_U p l e R s m args below meth c Q A G 5 0 0 M 7 [(0, .ref (k9_ga G 1)), (1, .int a0), (2, .int (0 : Int32)), (3, .int (0 : Int32)), (4, .int (0 : Int32))] []) : k9_U p l e R s m args below meth c Q A G 5 0 0 M 0 [(0, .ref (k9_ga G 1)), (1, .int a0)] [] := by
  refine k9_iconst (v := 0) X dX3_holesIn_0 (by decide) ?_
  refine k9_istore_n (lv' := [(0, .ref (k9_ga G 1)), (1, .int a0), (2, .int (0 : Int32))]) X dX3_holesIn_1 rfl (by decide) [1, 2, 0] rfl ?_
  refine k9_iconst (v := 0) X dX3_holesIn_2 (by decide) ?_
  refine k9_istore_n (lv' := [(0, .ref (k9_ga G 1)), (1, .int a0), (2, .int (0 : Int32)), (3, .int (0 : Int32))]) X dX3_holesIn_3 rfl (by decide) [1, 2, 3, 0] rfl ?_
  refine k9_iconst (v := 0) X dX3_holesIn_4 (by decide) ?_
  refine k9_istore (lv' := [(0, .ref (k9_ga G 1)), (1, .int a0), (2, .int (0 : Int32)), (3, .int (0 : Int32)), (4, .int (0 : Int32))]) X dX3_holesIn_5 (by decide) [1, 2, 3, 4, 0] rfl ?_
  exact l1

set_option maxRecDepth 20000 in
theorem bk_X3_holesIn_7 (X : k9_X p R s m args c A G 5 cX3_holesIn wsX3_holesIn RX3 rm_X3_holesIn) {x1 x2 x3 x4 : Int32}
    (l1 : (x1 ≤ x4) → k9_U p l e R s m args below meth c Q A G 5 0 0 M 47 [] [.int x2])
    (l2 : (¬ (x1 ≤ x4)) → (x4 = x3) → k9_U p l e R s m args below meth c Q A G 5 0 0 M 7 [(0, .ref (k9_ga G 1)), (1, .int x1), (2, .int (x2 + (1 : Int32))), (3, .int ((x4 + (M 1 5)) + (1 : Int32))), (4, .int (x4 + (1 : Int32)))] [])
    (l3 : (¬ (x1 ≤ x4)) → (¬ (x4 = x3)) → (¬ x4 = (x1 - (1 : Int32))) → k9_U p l e R s m args below meth c Q A G 5 0 0 M 7 [(0, .ref (k9_ga G 1)), (1, .int x1), (2, .int x2), (3, .int x3), (4, .int (x4 + (1 : Int32)))] [])
    (l4 : (¬ (x1 ≤ x4)) → (¬ (x4 = x3)) → (x4 = (x1 - (1 : Int32))) → k9_U p l e R s m args below meth c Q A G 5 0 0 M 7 [(0, .ref (k9_ga G 1)), (1, .int x1), (2, .int (x2 + (1 : Int32))), (3, .int ((x4 + (M 1 5)) + (1 : Int32))), (4, .int (x4 + (1 : Int32)))] []) : k9_U p l e R s m args below meth c Q A G 5 0 0 M 7 [(0, .ref (k9_ga G 1)), (1, .int x1), (2, .int x2), (3, .int x3), (4, .int x4)] [] := by
  refine k9_iload X dX3_holesIn_7 4 rfl ?_
  refine k9_iload_n X dX3_holesIn_9 rfl 1 rfl ?_
  refine k9_icmp_ge (tgt := 46) X dX3_holesIn_10 (by decide) (fun c1 => ?_) (fun c1 => ?_)
  · refine k9_iload_n X dX3_holesIn_46 rfl 2 rfl ?_
    refine k9_sub (lv' := []) [] rfl ?_
    exact (l1 c1)
  · refine k9_iload X dX3_holesIn_13 4 rfl ?_
    refine k9_iload_n X dX3_holesIn_15 rfl 3 rfl ?_
    refine k9_icmp_eq (tgt := 27) X dX3_holesIn_16 (by decide) (fun c2 => ?_) (fun c2 => ?_)
    · refine k9_iinc (v := x2 + (1 : Int32)) (lv' := [(0, .ref (k9_ga G 1)), (1, .int x1), (2, .int (x2 + (1 : Int32))), (3, .int x3), (4, .int x4)]) X dX3_holesIn_27 (k := 2) rfl (by rfl) (by decide) [1, 2, 0, 3, 4] rfl ?_
      refine k9_iload X dX3_holesIn_30 4 rfl ?_
      refine k9_aload_n X dX3_holesIn_32 rfl 0 rfl ?_
      refine k9_gX3_5 (q := 1) X (by decide) (by rfl) in_X3_holesIn_X3 fl_X3_holesIn_31 dX3_holesIn_33 ?_
      refine k9_iadd X dX3_holesIn_36 ?_
      refine k9_iconst (v := 1) X dX3_holesIn_37 (by decide) ?_
      refine k9_iadd X dX3_holesIn_38 ?_
      refine k9_istore_n (lv' := [(0, .ref (k9_ga G 1)), (1, .int x1), (2, .int (x2 + (1 : Int32))), (3, .int ((x4 + (M 1 5)) + (1 : Int32))), (4, .int x4)]) X dX3_holesIn_39 rfl (by decide) [1, 2, 3, 0, 4] rfl ?_
      refine k9_iinc (v := x4 + (1 : Int32)) (lv' := [(0, .ref (k9_ga G 1)), (1, .int x1), (2, .int (x2 + (1 : Int32))), (3, .int ((x4 + (M 1 5)) + (1 : Int32))), (4, .int (x4 + (1 : Int32)))]) X dX3_holesIn_40 (k := 4) rfl (by rfl) (by decide) [1, 2, 3, 4, 0] rfl ?_
      refine k9_goto (tgt := 7) X dX3_holesIn_43 (by decide) ?_
      exact (l2 c1 c2)
    · refine k9_iload X dX3_holesIn_19 4 rfl ?_
      refine k9_iload_n X dX3_holesIn_21 rfl 1 rfl ?_
      refine k9_iconst (v := 1) X dX3_holesIn_22 (by decide) ?_
      refine k9_isub X dX3_holesIn_23 ?_
      refine k9_icmp_ne (tgt := 40) X dX3_holesIn_24 (by decide) (fun c3 => ?_) (fun c3 => ?_)
      · refine k9_iinc (v := x4 + (1 : Int32)) (lv' := [(0, .ref (k9_ga G 1)), (1, .int x1), (2, .int x2), (3, .int x3), (4, .int (x4 + (1 : Int32)))]) X dX3_holesIn_40 (k := 4) rfl (by rfl) (by decide) [1, 2, 3, 4, 0] rfl ?_
        refine k9_goto (tgt := 7) X dX3_holesIn_43 (by decide) ?_
        exact (l3 c1 c2 c3)
      · refine k9_iinc (v := x2 + (1 : Int32)) (lv' := [(0, .ref (k9_ga G 1)), (1, .int x1), (2, .int (x2 + (1 : Int32))), (3, .int x3), (4, .int x4)]) X dX3_holesIn_27 (k := 2) rfl (by rfl) (by decide) [1, 2, 0, 3, 4] rfl ?_
        refine k9_iload X dX3_holesIn_30 4 rfl ?_
        refine k9_aload_n X dX3_holesIn_32 rfl 0 rfl ?_
        refine k9_gX3_5 (q := 1) X (by decide) (by rfl) in_X3_holesIn_X3 fl_X3_holesIn_31 dX3_holesIn_33 ?_
        refine k9_iadd X dX3_holesIn_36 ?_
        refine k9_iconst (v := 1) X dX3_holesIn_37 (by decide) ?_
        refine k9_iadd X dX3_holesIn_38 ?_
        refine k9_istore_n (lv' := [(0, .ref (k9_ga G 1)), (1, .int x1), (2, .int (x2 + (1 : Int32))), (3, .int ((x4 + (M 1 5)) + (1 : Int32))), (4, .int x4)]) X dX3_holesIn_39 rfl (by decide) [1, 2, 3, 0, 4] rfl ?_
        refine k9_iinc (v := x4 + (1 : Int32)) (lv' := [(0, .ref (k9_ga G 1)), (1, .int x1), (2, .int (x2 + (1 : Int32))), (3, .int ((x4 + (M 1 5)) + (1 : Int32))), (4, .int (x4 + (1 : Int32)))]) X dX3_holesIn_40 (k := 4) rfl (by rfl) (by decide) [1, 2, 3, 4, 0] rfl ?_
        refine k9_goto (tgt := 7) X dX3_holesIn_43 (by decide) ?_
        exact (l4 c1 c2 c3)

theorem in_X3_cover_X3 : ∀ w ∈ u_ws RX3 TX3 7, w ∈ wsX3_cover := by decide +kernel
theorem fl_X3_cover_15 : Cond.fieldLink RX3 15 (TX3 1).1 (TX3 1).2.1 (TX3 1).2.2.1 ∈ wsX3_cover := by decide +kernel
set_option maxRecDepth 20000 in
theorem bk_X3_cover_0 (X : k9_X p R s m args c A G 7 cX3_cover wsX3_cover RX3 rm_X3_cover) {a0 a1 a2 : Int32}
    (l1 : k9_U p l e R s m args below meth c Q A G 7 0 0 M 11 [(0, .ref (k9_ga G 1)), (2, .int a1), (3, .int a2), (4, .int ((1 : Int32) <<< (a0 &&& 31))), (5, .int (0 : Int32)), (6, .int (0 : Int32))] []) : k9_U p l e R s m args below meth c Q A G 7 0 0 M 0 [(0, .ref (k9_ga G 1)), (1, .int a0), (2, .int a1), (3, .int a2)] [] := by
  refine k9_iconst (v := 1) X dX3_cover_0 (by decide) ?_
  refine k9_iload_n X dX3_cover_1 rfl 1 rfl ?_
  refine k9_ishl X dX3_cover_2 ?_
  refine k9_istore (lv' := [(0, .ref (k9_ga G 1)), (1, .int a0), (2, .int a1), (3, .int a2), (4, .int ((1 : Int32) <<< (a0 &&& 31)))]) X dX3_cover_3 (by decide) [1, 2, 3, 4, 0] rfl ?_
  refine k9_iconst (v := 0) X dX3_cover_5 (by decide) ?_
  refine k9_istore (lv' := [(0, .ref (k9_ga G 1)), (1, .int a0), (2, .int a1), (3, .int a2), (4, .int ((1 : Int32) <<< (a0 &&& 31))), (5, .int (0 : Int32))]) X dX3_cover_6 (by decide) [1, 2, 3, 4, 5, 0] rfl ?_
  refine k9_iconst (v := 0) X dX3_cover_8 (by decide) ?_
  refine k9_istore (lv' := [(0, .ref (k9_ga G 1)), (1, .int a0), (2, .int a1), (3, .int a2), (4, .int ((1 : Int32) <<< (a0 &&& 31))), (5, .int (0 : Int32)), (6, .int (0 : Int32))]) X dX3_cover_9 (by decide) [1, 2, 3, 4, 5, 6, 0] rfl ?_
  refine k9_sub (lv' := [(0, .ref (k9_ga G 1)), (2, .int a1), (3, .int a2), (4, .int ((1 : Int32) <<< (a0 &&& 31))), (5, .int (0 : Int32)), (6, .int (0 : Int32))]) [0, 2, 3, 4, 5, 6] rfl ?_
  exact l1

set_option maxRecDepth 20000 in
theorem bk_X3_cover_11 (X : k9_X p R s m args c A G 7 cX3_cover wsX3_cover RX3 rm_X3_cover) {x2 x3 x4 x5 x6 : Int32} {rv1 : Int32}
    (l1 : ((96 : Int32) ≤ x6) → k9_U p l e R s m args below meth c Q A G 7 0 0 M 72 [] [.int x5])
    (l2 : (¬ ((96 : Int32) ≤ x6)) → (x6 < x2) → k9_U p l e R s m args below meth c Q A G 7 0 0 M 11 [(0, .ref (k9_ga G 1)), (2, .int x2), (3, .int x3), (4, .int x4), (5, .int x5), (6, .int (x6 + (1 : Int32)))] [])
    (l3 : (¬ ((96 : Int32) ≤ x6)) → (¬ (x6 < x2)) → (x3 < x6) → k9_U p l e R s m args below meth c Q A G 7 0 0 M 11 [(0, .ref (k9_ga G 1)), (2, .int x2), (3, .int x3), (4, .int x4), (5, .int x5), (6, .int (x6 + (1 : Int32)))] [])
    (k1 : (¬ ((96 : Int32) ≤ x6)) → (¬ (x6 < x2)) → (¬ (x3 < x6)) → k9_Ci l yX3_openAt wsX3_openAt rm_X3_openAt G M [.ref (k9_ga G 1), .int x6] rv1 M)
    (o1 : (¬ ((96 : Int32) ≤ x6)) → (¬ (x6 < x2)) → (¬ (x3 < x6)) → ((rv1 &&& x4) = 0) → vp_in x6 96)
    (l4 : (¬ ((96 : Int32) ≤ x6)) → (¬ (x6 < x2)) → (¬ (x3 < x6)) → ((rv1 &&& x4) = 0) → k9_U p l e R s m args below meth c Q A G 7 0 0 (k9_st M 3 x6.toNatClampNeg ((M 3 x6.toNatClampNeg) ||| x4)) 11 [(0, .ref (k9_ga G 1)), (2, .int x2), (3, .int x3), (4, .int x4), (5, .int (x5 + (0 : Int32))), (6, .int (x6 + (1 : Int32)))] [])
    (o2 : (¬ ((96 : Int32) ≤ x6)) → (¬ (x6 < x2)) → (¬ (x3 < x6)) → (¬ ((rv1 &&& x4) = 0)) → vp_in x6 96)
    (l5 : (¬ ((96 : Int32) ≤ x6)) → (¬ (x6 < x2)) → (¬ (x3 < x6)) → (¬ ((rv1 &&& x4) = 0)) → k9_U p l e R s m args below meth c Q A G 7 0 0 (k9_st M 3 x6.toNatClampNeg ((M 3 x6.toNatClampNeg) ||| x4)) 11 [(0, .ref (k9_ga G 1)), (2, .int x2), (3, .int x3), (4, .int x4), (5, .int (x5 + (1 : Int32))), (6, .int (x6 + (1 : Int32)))] []) : k9_U p l e R s m args below meth c Q A G 7 0 0 M 11 [(0, .ref (k9_ga G 1)), (2, .int x2), (3, .int x3), (4, .int x4), (5, .int x5), (6, .int x6)] [] := by
  refine k9_iload X dX3_cover_11 5 rfl ?_
  refine k9_bipush (v := 96) X dX3_cover_13 (by decide) ?_
  refine k9_icmp_ge (tgt := 70) X dX3_cover_15 (by decide) (fun c1 => ?_) (fun c1 => ?_)
  · refine k9_iload X dX3_cover_70 4 rfl ?_
    refine k9_sub (lv' := []) [] rfl ?_
    exact (l1 c1)
  · refine k9_iload X dX3_cover_18 5 rfl ?_
    refine k9_iload_n X dX3_cover_20 rfl 1 rfl ?_
    refine k9_icmp_lt (tgt := 64) X dX3_cover_21 (by decide) (fun c2 => ?_) (fun c2 => ?_)
    · refine k9_iinc (v := x6 + (1 : Int32)) (lv' := [(0, .ref (k9_ga G 1)), (2, .int x2), (3, .int x3), (4, .int x4), (5, .int x5), (6, .int (x6 + (1 : Int32)))]) X dX3_cover_64 (k := 5) rfl (by rfl) (by decide) [1, 2, 3, 4, 5, 0] rfl ?_
      refine k9_goto (tgt := 11) X dX3_cover_67 (by decide) ?_
      exact (l2 c1 c2)
    · refine k9_iload X dX3_cover_24 5 rfl ?_
      refine k9_iload_n X dX3_cover_26 rfl 2 rfl ?_
      refine k9_icmp_gt (tgt := 64) X dX3_cover_27 (by decide) (fun c3 => ?_) (fun c3 => ?_)
      · refine k9_iinc (v := x6 + (1 : Int32)) (lv' := [(0, .ref (k9_ga G 1)), (2, .int x2), (3, .int x3), (4, .int x4), (5, .int x5), (6, .int (x6 + (1 : Int32)))]) X dX3_cover_64 (k := 5) rfl (by rfl) (by decide) [1, 2, 3, 4, 5, 0] rfl ?_
        refine k9_goto (tgt := 11) X dX3_cover_67 (by decide) ?_
        exact (l3 c1 c2 c3)
      · refine k9_iload X dX3_cover_30 4 rfl ?_
        refine k9_aload_n X dX3_cover_32 rfl 0 rfl ?_
        refine k9_iload X dX3_cover_33 5 rfl ?_
        refine k9_callVi1 X (k1 c1 c2 c3) (k9_ob_P (by decide)) (cwV 1 X.2.2.2.2.1 gX3_cover_X3_openAt rfl rfl rfl (by decide +kernel) ⟨Nat.le_of_ble_eq_true rfl, Nat.le_of_ble_eq_true rfl⟩) (Nat.le_of_ble_eq_true rfl) dX3_cover_35 ⟨Nat.zero_le _, Nat.zero_le _⟩ ?_
        refine k9_iload X dX3_cover_38 3 rfl ?_
        refine k9_iand X dX3_cover_40 ?_
        refine k9_if_eq (tgt := 48) X dX3_cover_41 (by decide) (fun c4 => ?_) (fun c4 => ?_)
        · refine k9_iconst (v := 0) X dX3_cover_48 (by decide) ?_
          refine k9_iadd X dX3_cover_49 ?_
          refine k9_istore (lv' := [(0, .ref (k9_ga G 1)), (2, .int x2), (3, .int x3), (4, .int x4), (5, .int (x5 + (0 : Int32))), (6, .int x6)]) X dX3_cover_50 (by decide) [1, 2, 3, 4, 0, 5] rfl ?_
          refine k9_aload_n X dX3_cover_52 rfl 0 rfl ?_
          refine k9_gX3_1 (q := 1) (q1 := 3) X (by decide) (by rfl) in_X3_cover_X3 fl_X3_cover_15 dX3_cover_53 ?_
          refine k9_iload X dX3_cover_56 5 rfl ?_
          refine k9_dup2 X dX3_cover_58 rfl rfl ?_
          refine k9_iald X (by decide) (o1 c1 c2 c3 c4) (by rfl) dX3_cover_59 ?_
          refine k9_iload X dX3_cover_60 3 rfl ?_
          refine k9_ior X dX3_cover_62 ?_
          refine k9_iast X (by decide) (o1 c1 c2 c3 c4) dX3_cover_63 ?_
          refine k9_iinc (v := x6 + (1 : Int32)) (lv' := [(0, .ref (k9_ga G 1)), (2, .int x2), (3, .int x3), (4, .int x4), (5, .int (x5 + (0 : Int32))), (6, .int (x6 + (1 : Int32)))]) X dX3_cover_64 (k := 5) rfl (by rfl) (by decide) [1, 2, 3, 4, 5, 0] rfl ?_
          refine k9_goto (tgt := 11) X dX3_cover_67 (by decide) ?_
          exact (l4 c1 c2 c3 c4)
        · refine k9_iconst (v := 1) X dX3_cover_44 (by decide) ?_
          refine k9_goto (tgt := 49) X dX3_cover_45 (by decide) ?_
          refine k9_iadd X dX3_cover_49 ?_
          refine k9_istore (lv' := [(0, .ref (k9_ga G 1)), (2, .int x2), (3, .int x3), (4, .int x4), (5, .int (x5 + (1 : Int32))), (6, .int x6)]) X dX3_cover_50 (by decide) [1, 2, 3, 4, 0, 5] rfl ?_
          refine k9_aload_n X dX3_cover_52 rfl 0 rfl ?_
          refine k9_gX3_1 (q := 1) (q1 := 3) X (by decide) (by rfl) in_X3_cover_X3 fl_X3_cover_15 dX3_cover_53 ?_
          refine k9_iload X dX3_cover_56 5 rfl ?_
          refine k9_dup2 X dX3_cover_58 rfl rfl ?_
          refine k9_iald X (by decide) (o2 c1 c2 c3 c4) (by rfl) dX3_cover_59 ?_
          refine k9_iload X dX3_cover_60 3 rfl ?_
          refine k9_ior X dX3_cover_62 ?_
          refine k9_iast X (by decide) (o2 c1 c2 c3 c4) dX3_cover_63 ?_
          refine k9_iinc (v := x6 + (1 : Int32)) (lv' := [(0, .ref (k9_ga G 1)), (2, .int x2), (3, .int x3), (4, .int x4), (5, .int (x5 + (1 : Int32))), (6, .int (x6 + (1 : Int32)))]) X dX3_cover_64 (k := 5) rfl (by rfl) (by decide) [1, 2, 3, 4, 5, 0] rfl ?_
          refine k9_goto (tgt := 11) X dX3_cover_67 (by decide) ?_
          exact (l5 c1 c2 c3 c4)

theorem in_X3_uncover_X3 : ∀ w ∈ u_ws RX3 TX3 7, w ∈ wsX3_uncover := by decide +kernel
theorem fl_X3_uncover_15 : Cond.fieldLink RX3 15 (TX3 1).1 (TX3 1).2.1 (TX3 1).2.2.1 ∈ wsX3_uncover := by decide +kernel
set_option maxRecDepth 20000 in
theorem bk_X3_uncover_0 (X : k9_X p R s m args c A G 7 cX3_uncover wsX3_uncover RX3 rm_X3_uncover) {a0 a1 a2 : Int32}
    (l1 : k9_U p l e R s m args below meth c Q A G 7 0 0 M 11 [(0, .ref (k9_ga G 1)), (2, .int a1), (3, .int a2), (4, .int ((1 : Int32) <<< (a0 &&& 31))), (5, .int (0 : Int32)), (6, .int (0 : Int32))] []) : k9_U p l e R s m args below meth c Q A G 7 0 0 M 0 [(0, .ref (k9_ga G 1)), (1, .int a0), (2, .int a1), (3, .int a2)] [] := by
  refine k9_iconst (v := 1) X dX3_uncover_0 (by decide) ?_
  refine k9_iload_n X dX3_uncover_1 rfl 1 rfl ?_
  refine k9_ishl X dX3_uncover_2 ?_
  refine k9_istore (lv' := [(0, .ref (k9_ga G 1)), (1, .int a0), (2, .int a1), (3, .int a2), (4, .int ((1 : Int32) <<< (a0 &&& 31)))]) X dX3_uncover_3 (by decide) [1, 2, 3, 4, 0] rfl ?_
  refine k9_iconst (v := 0) X dX3_uncover_5 (by decide) ?_
  refine k9_istore (lv' := [(0, .ref (k9_ga G 1)), (1, .int a0), (2, .int a1), (3, .int a2), (4, .int ((1 : Int32) <<< (a0 &&& 31))), (5, .int (0 : Int32))]) X dX3_uncover_6 (by decide) [1, 2, 3, 4, 5, 0] rfl ?_
  refine k9_iconst (v := 0) X dX3_uncover_8 (by decide) ?_
  refine k9_istore (lv' := [(0, .ref (k9_ga G 1)), (1, .int a0), (2, .int a1), (3, .int a2), (4, .int ((1 : Int32) <<< (a0 &&& 31))), (5, .int (0 : Int32)), (6, .int (0 : Int32))]) X dX3_uncover_9 (by decide) [1, 2, 3, 4, 5, 6, 0] rfl ?_
  refine k9_sub (lv' := [(0, .ref (k9_ga G 1)), (2, .int a1), (3, .int a2), (4, .int ((1 : Int32) <<< (a0 &&& 31))), (5, .int (0 : Int32)), (6, .int (0 : Int32))]) [0, 2, 3, 4, 5, 6] rfl ?_
  exact l1

set_option maxRecDepth 20000 in
theorem bk_X3_uncover_11 (X : k9_X p R s m args c A G 7 cX3_uncover wsX3_uncover RX3 rm_X3_uncover) {x2 x3 x4 x5 x6 : Int32}
    (l1 : ((96 : Int32) ≤ x6) → k9_U p l e R s m args below meth c Q A G 7 0 0 M 75 [] [.int x5])
    (l2 : (¬ ((96 : Int32) ≤ x6)) → (x6 < x2) → k9_U p l e R s m args below meth c Q A G 7 0 0 M 11 [(0, .ref (k9_ga G 1)), (2, .int x2), (3, .int x3), (4, .int x4), (5, .int x5), (6, .int (x6 + (1 : Int32)))] [])
    (l3 : (¬ ((96 : Int32) ≤ x6)) → (¬ (x6 < x2)) → (x3 < x6) → k9_U p l e R s m args below meth c Q A G 7 0 0 M 11 [(0, .ref (k9_ga G 1)), (2, .int x2), (3, .int x3), (4, .int x4), (5, .int x5), (6, .int (x6 + (1 : Int32)))] [])
    (o1 : (¬ ((96 : Int32) ≤ x6)) → (¬ (x6 < x2)) → (¬ (x3 < x6)) → vp_in x6 96)
    (l4 : (¬ ((96 : Int32) ≤ x6)) → (¬ (x6 < x2)) → (¬ (x3 < x6)) → (((M 3 x6.toNatClampNeg) &&& x4) = 0) → k9_U p l e R s m args below meth c Q A G 7 0 0 (k9_st M 3 x6.toNatClampNeg ((M 3 x6.toNatClampNeg) &&& (x4 ^^^ (-1 : Int32)))) 11 [(0, .ref (k9_ga G 1)), (2, .int x2), (3, .int x3), (4, .int x4), (5, .int (x5 + (0 : Int32))), (6, .int (x6 + (1 : Int32)))] [])
    (l5 : (¬ ((96 : Int32) ≤ x6)) → (¬ (x6 < x2)) → (¬ (x3 < x6)) → (¬ (((M 3 x6.toNatClampNeg) &&& x4) = 0)) → k9_U p l e R s m args below meth c Q A G 7 0 0 (k9_st M 3 x6.toNatClampNeg ((M 3 x6.toNatClampNeg) &&& (x4 ^^^ (-1 : Int32)))) 11 [(0, .ref (k9_ga G 1)), (2, .int x2), (3, .int x3), (4, .int x4), (5, .int (x5 + (1 : Int32))), (6, .int (x6 + (1 : Int32)))] []) : k9_U p l e R s m args below meth c Q A G 7 0 0 M 11 [(0, .ref (k9_ga G 1)), (2, .int x2), (3, .int x3), (4, .int x4), (5, .int x5), (6, .int x6)] [] := by
  refine k9_iload X dX3_uncover_11 5 rfl ?_
  refine k9_bipush (v := 96) X dX3_uncover_13 (by decide) ?_
  refine k9_icmp_ge (tgt := 73) X dX3_uncover_15 (by decide) (fun c1 => ?_) (fun c1 => ?_)
  · refine k9_iload X dX3_uncover_73 4 rfl ?_
    refine k9_sub (lv' := []) [] rfl ?_
    exact (l1 c1)
  · refine k9_iload X dX3_uncover_18 5 rfl ?_
    refine k9_iload_n X dX3_uncover_20 rfl 1 rfl ?_
    refine k9_icmp_lt (tgt := 67) X dX3_uncover_21 (by decide) (fun c2 => ?_) (fun c2 => ?_)
    · refine k9_iinc (v := x6 + (1 : Int32)) (lv' := [(0, .ref (k9_ga G 1)), (2, .int x2), (3, .int x3), (4, .int x4), (5, .int x5), (6, .int (x6 + (1 : Int32)))]) X dX3_uncover_67 (k := 5) rfl (by rfl) (by decide) [1, 2, 3, 4, 5, 0] rfl ?_
      refine k9_goto (tgt := 11) X dX3_uncover_70 (by decide) ?_
      exact (l2 c1 c2)
    · refine k9_iload X dX3_uncover_24 5 rfl ?_
      refine k9_iload_n X dX3_uncover_26 rfl 2 rfl ?_
      refine k9_icmp_gt (tgt := 67) X dX3_uncover_27 (by decide) (fun c3 => ?_) (fun c3 => ?_)
      · refine k9_iinc (v := x6 + (1 : Int32)) (lv' := [(0, .ref (k9_ga G 1)), (2, .int x2), (3, .int x3), (4, .int x4), (5, .int x5), (6, .int (x6 + (1 : Int32)))]) X dX3_uncover_67 (k := 5) rfl (by rfl) (by decide) [1, 2, 3, 4, 5, 0] rfl ?_
        refine k9_goto (tgt := 11) X dX3_uncover_70 (by decide) ?_
        exact (l3 c1 c2 c3)
      · refine k9_iload X dX3_uncover_30 4 rfl ?_
        refine k9_aload_n X dX3_uncover_32 rfl 0 rfl ?_
        refine k9_gX3_1 (q := 1) (q1 := 3) X (by decide) (by rfl) in_X3_uncover_X3 fl_X3_uncover_15 dX3_uncover_33 ?_
        refine k9_iload X dX3_uncover_36 5 rfl ?_
        refine k9_iald X (by decide) (o1 c1 c2 c3) (by rfl) dX3_uncover_38 ?_
        refine k9_iload X dX3_uncover_39 3 rfl ?_
        refine k9_iand X dX3_uncover_41 ?_
        refine k9_if_eq (tgt := 49) X dX3_uncover_42 (by decide) (fun c4 => ?_) (fun c4 => ?_)
        · refine k9_iconst (v := 0) X dX3_uncover_49 (by decide) ?_
          refine k9_iadd X dX3_uncover_50 ?_
          refine k9_istore (lv' := [(0, .ref (k9_ga G 1)), (2, .int x2), (3, .int x3), (4, .int x4), (5, .int (x5 + (0 : Int32))), (6, .int x6)]) X dX3_uncover_51 (by decide) [1, 2, 3, 4, 0, 5] rfl ?_
          refine k9_aload_n X dX3_uncover_53 rfl 0 rfl ?_
          refine k9_gX3_1 (q := 1) (q1 := 3) X (by decide) (by rfl) in_X3_uncover_X3 fl_X3_uncover_15 dX3_uncover_54 ?_
          refine k9_iload X dX3_uncover_57 5 rfl ?_
          refine k9_dup2 X dX3_uncover_59 rfl rfl ?_
          refine k9_iald X (by decide) (o1 c1 c2 c3) (by rfl) dX3_uncover_60 ?_
          refine k9_iload X dX3_uncover_61 3 rfl ?_
          refine k9_iconst (v := -1) X dX3_uncover_63 (by decide) ?_
          refine k9_ixor X dX3_uncover_64 ?_
          refine k9_iand X dX3_uncover_65 ?_
          refine k9_iast X (by decide) (o1 c1 c2 c3) dX3_uncover_66 ?_
          refine k9_iinc (v := x6 + (1 : Int32)) (lv' := [(0, .ref (k9_ga G 1)), (2, .int x2), (3, .int x3), (4, .int x4), (5, .int (x5 + (0 : Int32))), (6, .int (x6 + (1 : Int32)))]) X dX3_uncover_67 (k := 5) rfl (by rfl) (by decide) [1, 2, 3, 4, 5, 0] rfl ?_
          refine k9_goto (tgt := 11) X dX3_uncover_70 (by decide) ?_
          exact (l4 c1 c2 c3 c4)
        · refine k9_iconst (v := 1) X dX3_uncover_45 (by decide) ?_
          refine k9_goto (tgt := 50) X dX3_uncover_46 (by decide) ?_
          refine k9_iadd X dX3_uncover_50 ?_
          refine k9_istore (lv' := [(0, .ref (k9_ga G 1)), (2, .int x2), (3, .int x3), (4, .int x4), (5, .int (x5 + (1 : Int32))), (6, .int x6)]) X dX3_uncover_51 (by decide) [1, 2, 3, 4, 0, 5] rfl ?_
          refine k9_aload_n X dX3_uncover_53 rfl 0 rfl ?_
          refine k9_gX3_1 (q := 1) (q1 := 3) X (by decide) (by rfl) in_X3_uncover_X3 fl_X3_uncover_15 dX3_uncover_54 ?_
          refine k9_iload X dX3_uncover_57 5 rfl ?_
          refine k9_dup2 X dX3_uncover_59 rfl rfl ?_
          refine k9_iald X (by decide) (o1 c1 c2 c3) (by rfl) dX3_uncover_60 ?_
          refine k9_iload X dX3_uncover_61 3 rfl ?_
          refine k9_iconst (v := -1) X dX3_uncover_63 (by decide) ?_
          refine k9_ixor X dX3_uncover_64 ?_
          refine k9_iand X dX3_uncover_65 ?_
          refine k9_iast X (by decide) (o1 c1 c2 c3) dX3_uncover_66 ?_
          refine k9_iinc (v := x6 + (1 : Int32)) (lv' := [(0, .ref (k9_ga G 1)), (2, .int x2), (3, .int x3), (4, .int x4), (5, .int (x5 + (1 : Int32))), (6, .int (x6 + (1 : Int32)))]) X dX3_uncover_67 (k := 5) rfl (by rfl) (by decide) [1, 2, 3, 4, 5, 0] rfl ?_
          refine k9_goto (tgt := 11) X dX3_uncover_70 (by decide) ?_
          exact (l5 c1 c2 c3 c4)

theorem in_X3_canMove_X3 : ∀ w ∈ u_ws RX3 TX3 7, w ∈ wsX3_canMove := by decide +kernel
theorem fl_X3_canMove_9 : Cond.fieldLink RX3 9 (TX3 0).1 (TX3 0).2.1 (TX3 0).2.2.1 ∈ wsX3_canMove := by decide +kernel
theorem fl_X3_canMove_15 : Cond.fieldLink RX3 15 (TX3 1).1 (TX3 1).2.1 (TX3 1).2.2.1 ∈ wsX3_canMove := by decide +kernel
theorem co_X3_canMove_63 : Cond.constant RX3 63 (67108863) ∈ wsX3_canMove := by decide +kernel
set_option maxRecDepth 20000 in
theorem bk_X3_canMove_0 (X : k9_X p R s m args c A G 4 cX3_canMove wsX3_canMove RX3 rm_X3_canMove) {a0 : Int32}
    (l1 : k9_U p l e R s m args below meth c Q A G 4 0 0 M 2 [(0, .ref (k9_ga G 1)), (1, .int a0), (2, .int (0 : Int32))] []) : k9_U p l e R s m args below meth c Q A G 4 0 0 M 0 [(0, .ref (k9_ga G 1)), (1, .int a0)] [] := by
  refine k9_iconst (v := 0) X dX3_canMove_0 (by decide) ?_
  refine k9_istore_n (lv' := [(0, .ref (k9_ga G 1)), (1, .int a0), (2, .int (0 : Int32))]) X dX3_canMove_1 rfl (by decide) [1, 2, 0] rfl ?_
  exact l1

set_option maxRecDepth 20000 in
theorem bk_X3_canMove_2 (X : k9_X p R s m args c A G 4 cX3_canMove wsX3_canMove RX3 rm_X3_canMove) {x1 x2 : Int32} {rv1 : Int32} {rv2 : Int32}
    (l1 : ((96 : Int32) ≤ x2) → k9_U p l e R s m args below meth c Q A G 4 0 0 M 48 [] [.int (1 : Int32)])
    (o1 : (¬ ((96 : Int32) ≤ x2)) → vp_in x2 96)
    (k1 : (¬ ((96 : Int32) ≤ x2)) → k9_Ci l yX3_moved wsX3_moved rm_X3_moved G M [.int ((M 2 x2.toNatClampNeg) ||| (M 3 x2.toNatClampNeg)), .int x1] rv1 M)
    (k2 : (¬ ((96 : Int32) ≤ x2)) → k9_Ci l yX3_moved wsX3_moved rm_X3_moved G M [.int (rv1 &&& (67108863 : Int32)), .int (-x1)] rv2 M)
    (l2 : (¬ ((96 : Int32) ≤ x2)) → (rv2 = ((M 2 x2.toNatClampNeg) ||| (M 3 x2.toNatClampNeg))) → k9_U p l e R s m args below meth c Q A G 4 0 0 M 2 [(0, .ref (k9_ga G 1)), (1, .int x1), (2, .int (x2 + (1 : Int32)))] [])
    (l3 : (¬ ((96 : Int32) ≤ x2)) → (¬ (rv2 = ((M 2 x2.toNatClampNeg) ||| (M 3 x2.toNatClampNeg)))) → k9_U p l e R s m args below meth c Q A G 4 0 0 M 40 [] [.int (0 : Int32)]) : k9_U p l e R s m args below meth c Q A G 4 0 0 M 2 [(0, .ref (k9_ga G 1)), (1, .int x1), (2, .int x2)] [] := by
  refine k9_iload_n X dX3_canMove_2 rfl 2 rfl ?_
  refine k9_bipush (v := 96) X dX3_canMove_3 (by decide) ?_
  refine k9_icmp_ge (tgt := 47) X dX3_canMove_5 (by decide) (fun c1 => ?_) (fun c1 => ?_)
  · refine k9_iconst (v := 1) X dX3_canMove_47 (by decide) ?_
    refine k9_sub (lv' := []) [] rfl ?_
    exact (l1 c1)
  · refine k9_aload_n X dX3_canMove_8 rfl 0 rfl ?_
    refine k9_gX3_0 (q := 1) (q1 := 2) X (by decide) (by rfl) in_X3_canMove_X3 fl_X3_canMove_9 dX3_canMove_9 ?_
    refine k9_iload_n X dX3_canMove_12 rfl 2 rfl ?_
    refine k9_iald X (by decide) (o1 c1) (by rfl) dX3_canMove_13 ?_
    refine k9_aload_n X dX3_canMove_14 rfl 0 rfl ?_
    refine k9_gX3_1 (q := 1) (q1 := 3) X (by decide) (by rfl) in_X3_canMove_X3 fl_X3_canMove_15 dX3_canMove_15 ?_
    refine k9_iload_n X dX3_canMove_18 rfl 2 rfl ?_
    refine k9_iald X (by decide) (o1 c1) (by rfl) dX3_canMove_19 ?_
    refine k9_ior X dX3_canMove_20 ?_
    refine k9_istore_n (lv' := [(0, .ref (k9_ga G 1)), (1, .int x1), (2, .int x2), (3, .int ((M 2 x2.toNatClampNeg) ||| (M 3 x2.toNatClampNeg)))]) X dX3_canMove_21 rfl (by decide) [1, 2, 3, 0] rfl ?_
    refine k9_iload_n X dX3_canMove_22 rfl 3 rfl ?_
    refine k9_iload_n X dX3_canMove_23 rfl 1 rfl ?_
    refine k9_callSi2 X (k1 c1)  (va_cwS 2 X.2.2.2.2.1 gX3_canMove_X3_moved rfl rfl rfl (by decide +kernel) ⟨Nat.le_of_ble_eq_true rfl, Nat.le_of_ble_eq_true rfl⟩) (Nat.le_of_ble_eq_true rfl) dX3_canMove_24 ⟨Nat.zero_le _, Nat.zero_le _⟩ ?_
    refine k9_ldc X co_X3_canMove_63 dX3_canMove_27 ?_
    refine k9_iand X dX3_canMove_29 ?_
    refine k9_iload_n X dX3_canMove_30 rfl 1 rfl ?_
    refine k9_ineg X dX3_canMove_31 ?_
    refine k9_callSi2 X (k2 c1)  (va_cwS 2 X.2.2.2.2.1 gX3_canMove_X3_moved rfl rfl rfl (by decide +kernel) ⟨Nat.le_of_ble_eq_true rfl, Nat.le_of_ble_eq_true rfl⟩) (Nat.le_of_ble_eq_true rfl) dX3_canMove_32 ⟨Nat.zero_le _, Nat.zero_le _⟩ ?_
    refine k9_iload_n X dX3_canMove_35 rfl 3 rfl ?_
    refine k9_icmp_eq (tgt := 41) X dX3_canMove_36 (by decide) (fun c2 => ?_) (fun c2 => ?_)
    · refine k9_iinc (v := x2 + (1 : Int32)) (lv' := [(0, .ref (k9_ga G 1)), (1, .int x1), (2, .int (x2 + (1 : Int32))), (3, .int ((M 2 x2.toNatClampNeg) ||| (M 3 x2.toNatClampNeg)))]) X dX3_canMove_41 (k := 2) rfl (by rfl) (by decide) [1, 2, 0, 3] rfl ?_
      refine k9_goto (tgt := 2) X dX3_canMove_44 (by decide) ?_
      refine k9_sub (lv' := [(0, .ref (k9_ga G 1)), (1, .int x1), (2, .int (x2 + (1 : Int32)))]) [0, 1, 2] rfl ?_
      exact (l2 c1 c2)
    · refine k9_iconst (v := 0) X dX3_canMove_39 (by decide) ?_
      refine k9_sub (lv' := []) [] rfl ?_
      exact (l3 c1 c2)

theorem in_X3_move_X3 : ∀ w ∈ u_ws RX3 TX3 7, w ∈ wsX3_move := by decide +kernel
theorem fl_X3_move_9 : Cond.fieldLink RX3 9 (TX3 0).1 (TX3 0).2.1 (TX3 0).2.2.1 ∈ wsX3_move := by decide +kernel
theorem fl_X3_move_15 : Cond.fieldLink RX3 15 (TX3 1).1 (TX3 1).2.1 (TX3 1).2.2.1 ∈ wsX3_move := by decide +kernel
set_option maxRecDepth 20000 in
theorem bk_X3_move_0 (X : k9_X p R s m args c A G 3 cX3_move wsX3_move RX3 rm_X3_move) {a0 : Int32}
    (l1 : k9_U p l e R s m args below meth c Q A G 3 0 0 M 2 [(0, .ref (k9_ga G 1)), (1, .int a0), (2, .int (0 : Int32))] []) : k9_U p l e R s m args below meth c Q A G 3 0 0 M 0 [(0, .ref (k9_ga G 1)), (1, .int a0)] [] := by
  refine k9_iconst (v := 0) X dX3_move_0 (by decide) ?_
  refine k9_istore_n (lv' := [(0, .ref (k9_ga G 1)), (1, .int a0), (2, .int (0 : Int32))]) X dX3_move_1 rfl (by decide) [1, 2, 0] rfl ?_
  exact l1

set_option maxRecDepth 20000 in
theorem bk_X3_move_2 (X : k9_X p R s m args c A G 3 cX3_move wsX3_move RX3 rm_X3_move) {x1 x2 : Int32} {rv1 : Int32} {rv2 : Int32}
    (l1 : ((96 : Int32) ≤ x2) → k9_U p l e R s m args below meth c Q A G 3 0 0 M 46 [] [])
    (o1 : (¬ ((96 : Int32) ≤ x2)) → vp_in x2 96)
    (k1 : (¬ ((96 : Int32) ≤ x2)) → k9_Ci l yX3_moved wsX3_moved rm_X3_moved G M [.int (M 2 x2.toNatClampNeg), .int x1] rv1 M)
    (k2 : (¬ ((96 : Int32) ≤ x2)) → k9_Ci l yX3_moved wsX3_moved rm_X3_moved G (k9_st M 2 x2.toNatClampNeg rv1) [.int (M 3 x2.toNatClampNeg), .int x1] rv2 (k9_st M 2 x2.toNatClampNeg rv1))
    (l2 : (¬ ((96 : Int32) ≤ x2)) → k9_U p l e R s m args below meth c Q A G 3 0 0 (k9_st (k9_st M 2 x2.toNatClampNeg rv1) 3 x2.toNatClampNeg rv2) 2 [(0, .ref (k9_ga G 1)), (1, .int x1), (2, .int (x2 + (1 : Int32)))] []) : k9_U p l e R s m args below meth c Q A G 3 0 0 M 2 [(0, .ref (k9_ga G 1)), (1, .int x1), (2, .int x2)] [] := by
  refine k9_iload_n X dX3_move_2 rfl 2 rfl ?_
  refine k9_bipush (v := 96) X dX3_move_3 (by decide) ?_
  refine k9_icmp_ge (tgt := 46) X dX3_move_5 (by decide) (fun c1 => ?_) (fun c1 => ?_)
  · refine k9_sub (lv' := []) [] rfl ?_
    exact (l1 c1)
  · refine k9_aload_n X dX3_move_8 rfl 0 rfl ?_
    refine k9_gX3_0 (q := 1) (q1 := 2) X (by decide) (by rfl) in_X3_move_X3 fl_X3_move_9 dX3_move_9 ?_
    refine k9_iload_n X dX3_move_12 rfl 2 rfl ?_
    refine k9_aload_n X dX3_move_13 rfl 0 rfl ?_
    refine k9_gX3_0 (q := 1) (q1 := 2) X (by decide) (by rfl) in_X3_move_X3 fl_X3_move_9 dX3_move_14 ?_
    refine k9_iload_n X dX3_move_17 rfl 2 rfl ?_
    refine k9_iald X (by decide) (o1 c1) (by rfl) dX3_move_18 ?_
    refine k9_iload_n X dX3_move_19 rfl 1 rfl ?_
    refine k9_callSi2 X (k1 c1)  (va_cwS 2 X.2.2.2.2.1 gX3_move_X3_moved rfl rfl rfl (by decide +kernel) ⟨Nat.le_of_ble_eq_true rfl, Nat.le_of_ble_eq_true rfl⟩) (Nat.le_of_ble_eq_true rfl) dX3_move_20 ⟨Nat.zero_le _, Nat.zero_le _⟩ ?_
    refine k9_iast X (by decide) (o1 c1) dX3_move_23 ?_
    refine k9_aload_n X dX3_move_24 rfl 0 rfl ?_
    refine k9_gX3_1 (q := 1) (q1 := 3) X (by decide) (by rfl) in_X3_move_X3 fl_X3_move_15 dX3_move_25 ?_
    refine k9_iload_n X dX3_move_28 rfl 2 rfl ?_
    refine k9_aload_n X dX3_move_29 rfl 0 rfl ?_
    refine k9_gX3_1 (q := 1) (q1 := 3) X (by decide) (by rfl) in_X3_move_X3 fl_X3_move_15 dX3_move_30 ?_
    refine k9_iload_n X dX3_move_33 rfl 2 rfl ?_
    refine k9_iald (v := (M 3 x2.toNatClampNeg)) X (by decide) (o1 c1) (by rfl) dX3_move_34 ?_
    refine k9_iload_n X dX3_move_35 rfl 1 rfl ?_
    refine k9_callSi2 X (k2 c1)  (va_cwS 2 X.2.2.2.2.1 gX3_move_X3_moved rfl rfl rfl (by decide +kernel) ⟨Nat.le_of_ble_eq_true rfl, Nat.le_of_ble_eq_true rfl⟩) (Nat.le_of_ble_eq_true rfl) dX3_move_36 ⟨Nat.zero_le _, Nat.zero_le _⟩ ?_
    refine k9_iast X (by decide) (o1 c1) dX3_move_39 ?_
    refine k9_iinc (v := x2 + (1 : Int32)) (lv' := [(0, .ref (k9_ga G 1)), (1, .int x1), (2, .int (x2 + (1 : Int32)))]) X dX3_move_40 (k := 2) rfl (by rfl) (by decide) [1, 2, 0] rfl ?_
    refine k9_goto (tgt := 2) X dX3_move_43 (by decide) ?_
    exact (l2 c1)

theorem in_X3_canTear_X3 : ∀ w ∈ u_ws RX3 TX3 7, w ∈ wsX3_canTear := by decide +kernel
theorem fl_X3_canTear_18 : Cond.fieldLink RX3 18 (TX3 2).1 (TX3 2).2.1 (TX3 2).2.2.1 ∈ wsX3_canTear := by decide +kernel
set_option maxRecDepth 20000 in
theorem bk_X3_canTear_0 (X : k9_X p R s m args c A G 5 cX3_canTear wsX3_canTear RX3 rm_X3_canTear) {a0 a1 a2 : Int32}
    (l1 : k9_U p l e R s m args below meth c Q A G 5 0 0 M 3 [(0, .ref (k9_ga G 1)), (1, .int a0), (2, .int a1), (3, .int a2), (4, .int (0 : Int32))] []) : k9_U p l e R s m args below meth c Q A G 5 0 0 M 0 [(0, .ref (k9_ga G 1)), (1, .int a0), (2, .int a1), (3, .int a2)] [] := by
  refine k9_iconst (v := 0) X dX3_canTear_0 (by decide) ?_
  refine k9_istore (lv' := [(0, .ref (k9_ga G 1)), (1, .int a0), (2, .int a1), (3, .int a2), (4, .int (0 : Int32))]) X dX3_canTear_1 (by decide) [1, 2, 3, 4, 0] rfl ?_
  exact l1

set_option maxRecDepth 20000 in
theorem bk_X3_canTear_3 (X : k9_X p R s m args c A G 5 cX3_canTear wsX3_canTear RX3 rm_X3_canTear) {x1 x2 x3 x4 : Int32} {rv1 : Int32}
    (l1 : ((96 : Int32) ≤ x4) → k9_U p l e R s m args below meth c Q A G 5 0 0 M 55 [] [.int (1 : Int32)])
    (l2 : (¬ ((96 : Int32) ≤ x4)) → (x4 < x1) → k9_U p l e R s m args below meth c Q A G 5 0 0 M 3 [(0, .ref (k9_ga G 1)), (1, .int x1), (2, .int x2), (3, .int x3), (4, .int (x4 + (1 : Int32)))] [])
    (l3 : (¬ ((96 : Int32) ≤ x4)) → (¬ (x4 < x1)) → (x2 < x4) → k9_U p l e R s m args below meth c Q A G 5 0 0 M 3 [(0, .ref (k9_ga G 1)), (1, .int x1), (2, .int x2), (3, .int x3), (4, .int (x4 + (1 : Int32)))] [])
    (o1 : (¬ ((96 : Int32) ≤ x4)) → (¬ (x4 < x1)) → (¬ (x2 < x4)) → vp_in x4 96)
    (k1 : (¬ ((96 : Int32) ≤ x4)) → (¬ (x4 < x1)) → (¬ (x2 < x4)) → k9_Ci l yX3_kept wsX3_kept rm_X3_kept G M [.int ((M 4 x4.toNatClampNeg) + x3)] rv1 M)
    (l4 : (¬ ((96 : Int32) ≤ x4)) → (¬ (x4 < x1)) → (¬ (x2 < x4)) → (rv1 = ((M 4 x4.toNatClampNeg) + x3)) → k9_U p l e R s m args below meth c Q A G 5 0 0 M 3 [(0, .ref (k9_ga G 1)), (1, .int x1), (2, .int x2), (3, .int x3), (4, .int (x4 + (1 : Int32)))] [])
    (l5 : (¬ ((96 : Int32) ≤ x4)) → (¬ (x4 < x1)) → (¬ (x2 < x4)) → (¬ (rv1 = ((M 4 x4.toNatClampNeg) + x3))) → k9_U p l e R s m args below meth c Q A G 5 0 0 M 47 [] [.int (0 : Int32)]) : k9_U p l e R s m args below meth c Q A G 5 0 0 M 3 [(0, .ref (k9_ga G 1)), (1, .int x1), (2, .int x2), (3, .int x3), (4, .int x4)] [] := by
  refine k9_iload X dX3_canTear_3 4 rfl ?_
  refine k9_bipush (v := 96) X dX3_canTear_5 (by decide) ?_
  refine k9_icmp_ge (tgt := 54) X dX3_canTear_7 (by decide) (fun c1 => ?_) (fun c1 => ?_)
  · refine k9_iconst (v := 1) X dX3_canTear_54 (by decide) ?_
    refine k9_sub (lv' := []) [] rfl ?_
    exact (l1 c1)
  · refine k9_iload X dX3_canTear_10 4 rfl ?_
    refine k9_iload_n X dX3_canTear_12 rfl 1 rfl ?_
    refine k9_icmp_lt (tgt := 48) X dX3_canTear_13 (by decide) (fun c2 => ?_) (fun c2 => ?_)
    · refine k9_iinc (v := x4 + (1 : Int32)) (lv' := [(0, .ref (k9_ga G 1)), (1, .int x1), (2, .int x2), (3, .int x3), (4, .int (x4 + (1 : Int32)))]) X dX3_canTear_48 (k := 4) rfl (by rfl) (by decide) [1, 2, 3, 4, 0] rfl ?_
      refine k9_goto (tgt := 3) X dX3_canTear_51 (by decide) ?_
      exact (l2 c1 c2)
    · refine k9_iload X dX3_canTear_16 4 rfl ?_
      refine k9_iload_n X dX3_canTear_18 rfl 2 rfl ?_
      refine k9_icmp_gt (tgt := 48) X dX3_canTear_19 (by decide) (fun c3 => ?_) (fun c3 => ?_)
      · refine k9_iinc (v := x4 + (1 : Int32)) (lv' := [(0, .ref (k9_ga G 1)), (1, .int x1), (2, .int x2), (3, .int x3), (4, .int (x4 + (1 : Int32)))]) X dX3_canTear_48 (k := 4) rfl (by rfl) (by decide) [1, 2, 3, 4, 0] rfl ?_
        refine k9_goto (tgt := 3) X dX3_canTear_51 (by decide) ?_
        exact (l3 c1 c2 c3)
      · refine k9_aload_n X dX3_canTear_22 rfl 0 rfl ?_
        refine k9_gX3_2 (q := 1) (q1 := 4) X (by decide) (by rfl) in_X3_canTear_X3 fl_X3_canTear_18 dX3_canTear_23 ?_
        refine k9_iload X dX3_canTear_26 4 rfl ?_
        refine k9_iald X (by decide) (o1 c1 c2 c3) (by rfl) dX3_canTear_28 ?_
        refine k9_iload_n X dX3_canTear_29 rfl 3 rfl ?_
        refine k9_iadd X dX3_canTear_30 ?_
        refine k9_callSi1 X (k1 c1 c2 c3)  (va_cwS 1 X.2.2.2.2.1 gX3_canTear_X3_kept rfl rfl rfl (by decide +kernel) ⟨Nat.le_of_ble_eq_true rfl, Nat.le_of_ble_eq_true rfl⟩) (Nat.le_of_ble_eq_true rfl) dX3_canTear_31 ⟨Nat.zero_le _, Nat.zero_le _⟩ ?_
        refine k9_aload_n X dX3_canTear_34 rfl 0 rfl ?_
        refine k9_gX3_2 (q := 1) (q1 := 4) X (by decide) (by rfl) in_X3_canTear_X3 fl_X3_canTear_18 dX3_canTear_35 ?_
        refine k9_iload X dX3_canTear_38 4 rfl ?_
        refine k9_iald X (by decide) (o1 c1 c2 c3) (by rfl) dX3_canTear_40 ?_
        refine k9_iload_n X dX3_canTear_41 rfl 3 rfl ?_
        refine k9_iadd X dX3_canTear_42 ?_
        refine k9_icmp_eq (tgt := 48) X dX3_canTear_43 (by decide) (fun c4 => ?_) (fun c4 => ?_)
        · refine k9_iinc (v := x4 + (1 : Int32)) (lv' := [(0, .ref (k9_ga G 1)), (1, .int x1), (2, .int x2), (3, .int x3), (4, .int (x4 + (1 : Int32)))]) X dX3_canTear_48 (k := 4) rfl (by rfl) (by decide) [1, 2, 3, 4, 0] rfl ?_
          refine k9_goto (tgt := 3) X dX3_canTear_51 (by decide) ?_
          exact (l4 c1 c2 c3 c4)
        · refine k9_iconst (v := 0) X dX3_canTear_46 (by decide) ?_
          refine k9_sub (lv' := []) [] rfl ?_
          exact (l5 c1 c2 c3 c4)

theorem in_X3_addToEdges_X3 : ∀ w ∈ u_ws RX3 TX3 7, w ∈ wsX3_addToEdges := by decide +kernel
theorem fl_X3_addToEdges_18 : Cond.fieldLink RX3 18 (TX3 2).1 (TX3 2).2.1 (TX3 2).2.2.1 ∈ wsX3_addToEdges := by decide +kernel
set_option maxRecDepth 20000 in
theorem bk_X3_addToEdges_0 (X : k9_X p R s m args c A G 5 cX3_addToEdges wsX3_addToEdges RX3 rm_X3_addToEdges) {a0 a1 a2 : Int32}
    (l1 : k9_U p l e R s m args below meth c Q A G 5 0 0 M 3 [(0, .ref (k9_ga G 1)), (1, .int a0), (2, .int a1), (3, .int a2), (4, .int (0 : Int32))] []) : k9_U p l e R s m args below meth c Q A G 5 0 0 M 0 [(0, .ref (k9_ga G 1)), (1, .int a0), (2, .int a1), (3, .int a2)] [] := by
  refine k9_iconst (v := 0) X dX3_addToEdges_0 (by decide) ?_
  refine k9_istore (lv' := [(0, .ref (k9_ga G 1)), (1, .int a0), (2, .int a1), (3, .int a2), (4, .int (0 : Int32))]) X dX3_addToEdges_1 (by decide) [1, 2, 3, 4, 0] rfl ?_
  exact l1

set_option maxRecDepth 20000 in
theorem bk_X3_addToEdges_3 (X : k9_X p R s m args c A G 5 cX3_addToEdges wsX3_addToEdges RX3 rm_X3_addToEdges) {x1 x2 x3 x4 : Int32}
    (l1 : ((96 : Int32) ≤ x4) → k9_U p l e R s m args below meth c Q A G 5 0 0 M 39 [] [])
    (l2 : (¬ ((96 : Int32) ≤ x4)) → (x4 < x1) → k9_U p l e R s m args below meth c Q A G 5 0 0 M 3 [(0, .ref (k9_ga G 1)), (1, .int x1), (2, .int x2), (3, .int x3), (4, .int (x4 + (1 : Int32)))] [])
    (l3 : (¬ ((96 : Int32) ≤ x4)) → (¬ (x4 < x1)) → (x2 < x4) → k9_U p l e R s m args below meth c Q A G 5 0 0 M 3 [(0, .ref (k9_ga G 1)), (1, .int x1), (2, .int x2), (3, .int x3), (4, .int (x4 + (1 : Int32)))] [])
    (o1 : (¬ ((96 : Int32) ≤ x4)) → (¬ (x4 < x1)) → (¬ (x2 < x4)) → vp_in x4 96)
    (l4 : (¬ ((96 : Int32) ≤ x4)) → (¬ (x4 < x1)) → (¬ (x2 < x4)) → k9_U p l e R s m args below meth c Q A G 5 0 0 (k9_st M 4 x4.toNatClampNeg ((M 4 x4.toNatClampNeg) + x3)) 3 [(0, .ref (k9_ga G 1)), (1, .int x1), (2, .int x2), (3, .int x3), (4, .int (x4 + (1 : Int32)))] []) : k9_U p l e R s m args below meth c Q A G 5 0 0 M 3 [(0, .ref (k9_ga G 1)), (1, .int x1), (2, .int x2), (3, .int x3), (4, .int x4)] [] := by
  refine k9_iload X dX3_addToEdges_3 4 rfl ?_
  refine k9_bipush (v := 96) X dX3_addToEdges_5 (by decide) ?_
  refine k9_icmp_ge (tgt := 39) X dX3_addToEdges_7 (by decide) (fun c1 => ?_) (fun c1 => ?_)
  · refine k9_sub (lv' := []) [] rfl ?_
    exact (l1 c1)
  · refine k9_iload X dX3_addToEdges_10 4 rfl ?_
    refine k9_iload_n X dX3_addToEdges_12 rfl 1 rfl ?_
    refine k9_icmp_lt (tgt := 33) X dX3_addToEdges_13 (by decide) (fun c2 => ?_) (fun c2 => ?_)
    · refine k9_iinc (v := x4 + (1 : Int32)) (lv' := [(0, .ref (k9_ga G 1)), (1, .int x1), (2, .int x2), (3, .int x3), (4, .int (x4 + (1 : Int32)))]) X dX3_addToEdges_33 (k := 4) rfl (by rfl) (by decide) [1, 2, 3, 4, 0] rfl ?_
      refine k9_goto (tgt := 3) X dX3_addToEdges_36 (by decide) ?_
      exact (l2 c1 c2)
    · refine k9_iload X dX3_addToEdges_16 4 rfl ?_
      refine k9_iload_n X dX3_addToEdges_18 rfl 2 rfl ?_
      refine k9_icmp_gt (tgt := 33) X dX3_addToEdges_19 (by decide) (fun c3 => ?_) (fun c3 => ?_)
      · refine k9_iinc (v := x4 + (1 : Int32)) (lv' := [(0, .ref (k9_ga G 1)), (1, .int x1), (2, .int x2), (3, .int x3), (4, .int (x4 + (1 : Int32)))]) X dX3_addToEdges_33 (k := 4) rfl (by rfl) (by decide) [1, 2, 3, 4, 0] rfl ?_
        refine k9_goto (tgt := 3) X dX3_addToEdges_36 (by decide) ?_
        exact (l3 c1 c2 c3)
      · refine k9_aload_n X dX3_addToEdges_22 rfl 0 rfl ?_
        refine k9_gX3_2 (q := 1) (q1 := 4) X (by decide) (by rfl) in_X3_addToEdges_X3 fl_X3_addToEdges_18 dX3_addToEdges_23 ?_
        refine k9_iload X dX3_addToEdges_26 4 rfl ?_
        refine k9_dup2 X dX3_addToEdges_28 rfl rfl ?_
        refine k9_iald X (by decide) (o1 c1 c2 c3) (by rfl) dX3_addToEdges_29 ?_
        refine k9_iload_n X dX3_addToEdges_30 rfl 3 rfl ?_
        refine k9_iadd X dX3_addToEdges_31 ?_
        refine k9_iast X (by decide) (o1 c1 c2 c3) dX3_addToEdges_32 ?_
        refine k9_iinc (v := x4 + (1 : Int32)) (lv' := [(0, .ref (k9_ga G 1)), (1, .int x1), (2, .int x2), (3, .int x3), (4, .int (x4 + (1 : Int32)))]) X dX3_addToEdges_33 (k := 4) rfl (by rfl) (by decide) [1, 2, 3, 4, 0] rfl ?_
        refine k9_goto (tgt := 3) X dX3_addToEdges_36 (by decide) ?_
        exact (l4 c1 c2 c3)

theorem in_X3_putSteers_X3 : ∀ w ∈ u_ws RX3 TX3 7, w ∈ wsX3_putSteers := by decide +kernel
theorem fl_X3_putSteers_21 : Cond.fieldLink RX3 21 (TX3 3).1 (TX3 3).2.1 (TX3 3).2.2.1 ∈ wsX3_putSteers := by decide +kernel
set_option maxRecDepth 20000 in
theorem bk_X3_putSteers_0 (X : k9_X p R s m args c A G 5 cX3_putSteers wsX3_putSteers RX3 rm_X3_putSteers) {a0 a1 a2 : Int32}
    (l1 : k9_U p l e R s m args below meth c Q A G 5 0 0 M 3 [(0, .ref (k9_ga G 1)), (1, .int a0), (2, .int a1), (3, .int a2), (4, .int (0 : Int32))] []) : k9_U p l e R s m args below meth c Q A G 5 0 0 M 0 [(0, .ref (k9_ga G 1)), (1, .int a0), (2, .int a1), (3, .int a2)] [] := by
  refine k9_iconst (v := 0) X dX3_putSteers_0 (by decide) ?_
  refine k9_istore (lv' := [(0, .ref (k9_ga G 1)), (1, .int a0), (2, .int a1), (3, .int a2), (4, .int (0 : Int32))]) X dX3_putSteers_1 (by decide) [1, 2, 3, 4, 0] rfl ?_
  exact l1

set_option maxRecDepth 20000 in
theorem bk_X3_putSteers_3 (X : k9_X p R s m args c A G 5 cX3_putSteers wsX3_putSteers RX3 rm_X3_putSteers) {x1 x2 x3 x4 : Int32}
    (l1 : ((96 : Int32) ≤ x4) → k9_U p l e R s m args below meth c Q A G 5 0 0 M 36 [] [])
    (l2 : (¬ ((96 : Int32) ≤ x4)) → (x4 < x1) → k9_U p l e R s m args below meth c Q A G 5 0 0 M 3 [(0, .ref (k9_ga G 1)), (1, .int x1), (2, .int x2), (3, .int x3), (4, .int (x4 + (1 : Int32)))] [])
    (l3 : (¬ ((96 : Int32) ≤ x4)) → (¬ (x4 < x1)) → (x2 < x4) → k9_U p l e R s m args below meth c Q A G 5 0 0 M 3 [(0, .ref (k9_ga G 1)), (1, .int x1), (2, .int x2), (3, .int x3), (4, .int (x4 + (1 : Int32)))] [])
    (o1 : (¬ ((96 : Int32) ≤ x4)) → (¬ (x4 < x1)) → (¬ (x2 < x4)) → vp_in x4 96)
    (l4 : (¬ ((96 : Int32) ≤ x4)) → (¬ (x4 < x1)) → (¬ (x2 < x4)) → k9_U p l e R s m args below meth c Q A G 5 0 0 (k9_st M 5 x4.toNatClampNeg x3) 3 [(0, .ref (k9_ga G 1)), (1, .int x1), (2, .int x2), (3, .int x3), (4, .int (x4 + (1 : Int32)))] []) : k9_U p l e R s m args below meth c Q A G 5 0 0 M 3 [(0, .ref (k9_ga G 1)), (1, .int x1), (2, .int x2), (3, .int x3), (4, .int x4)] [] := by
  refine k9_iload X dX3_putSteers_3 4 rfl ?_
  refine k9_bipush (v := 96) X dX3_putSteers_5 (by decide) ?_
  refine k9_icmp_ge (tgt := 36) X dX3_putSteers_7 (by decide) (fun c1 => ?_) (fun c1 => ?_)
  · refine k9_sub (lv' := []) [] rfl ?_
    exact (l1 c1)
  · refine k9_iload X dX3_putSteers_10 4 rfl ?_
    refine k9_iload_n X dX3_putSteers_12 rfl 1 rfl ?_
    refine k9_icmp_lt (tgt := 30) X dX3_putSteers_13 (by decide) (fun c2 => ?_) (fun c2 => ?_)
    · refine k9_iinc (v := x4 + (1 : Int32)) (lv' := [(0, .ref (k9_ga G 1)), (1, .int x1), (2, .int x2), (3, .int x3), (4, .int (x4 + (1 : Int32)))]) X dX3_putSteers_30 (k := 4) rfl (by rfl) (by decide) [1, 2, 3, 4, 0] rfl ?_
      refine k9_goto (tgt := 3) X dX3_putSteers_33 (by decide) ?_
      exact (l2 c1 c2)
    · refine k9_iload X dX3_putSteers_16 4 rfl ?_
      refine k9_iload_n X dX3_putSteers_18 rfl 2 rfl ?_
      refine k9_icmp_gt (tgt := 30) X dX3_putSteers_19 (by decide) (fun c3 => ?_) (fun c3 => ?_)
      · refine k9_iinc (v := x4 + (1 : Int32)) (lv' := [(0, .ref (k9_ga G 1)), (1, .int x1), (2, .int x2), (3, .int x3), (4, .int (x4 + (1 : Int32)))]) X dX3_putSteers_30 (k := 4) rfl (by rfl) (by decide) [1, 2, 3, 4, 0] rfl ?_
        refine k9_goto (tgt := 3) X dX3_putSteers_33 (by decide) ?_
        exact (l3 c1 c2 c3)
      · refine k9_aload_n X dX3_putSteers_22 rfl 0 rfl ?_
        refine k9_gX3_3 (q := 1) (q1 := 5) X (by decide) (by rfl) in_X3_putSteers_X3 fl_X3_putSteers_21 dX3_putSteers_23 ?_
        refine k9_iload X dX3_putSteers_26 4 rfl ?_
        refine k9_iload_n X dX3_putSteers_28 rfl 3 rfl ?_
        refine k9_iast X (by decide) (o1 c1 c2 c3) dX3_putSteers_29 ?_
        refine k9_iinc (v := x4 + (1 : Int32)) (lv' := [(0, .ref (k9_ga G 1)), (1, .int x1), (2, .int x2), (3, .int x3), (4, .int (x4 + (1 : Int32)))]) X dX3_putSteers_30 (k := 4) rfl (by rfl) (by decide) [1, 2, 3, 4, 0] rfl ?_
        refine k9_goto (tgt := 3) X dX3_putSteers_33 (by decide) ?_
        exact (l4 c1 c2 c3)

theorem in_X3_openAt_X3 : ∀ w ∈ u_ws RX3 TX3 7, w ∈ wsX3_openAt := by decide +kernel
theorem fl_X3_openAt_9 : Cond.fieldLink RX3 9 (TX3 0).1 (TX3 0).2.1 (TX3 0).2.2.1 ∈ wsX3_openAt := by decide +kernel
theorem fl_X3_openAt_15 : Cond.fieldLink RX3 15 (TX3 1).1 (TX3 1).2.1 (TX3 1).2.2.1 ∈ wsX3_openAt := by decide +kernel
set_option maxRecDepth 20000 in
theorem bk_X3_openAt_0 (X : k9_X p R s m args c A G 2 cX3_openAt wsX3_openAt RX3 rm_X3_openAt) {a0 : Int32} {rv1 : Int32}
    (k1 : k9_Ci l yX6_isStep wsX6_isStep rm_X6_isStep G M [.int a0] rv1 M)
    (l1 : (rv1 = 0) → k9_U p l e R s m args below meth c Q A G 2 0 0 M 26 [] [.int (0 : Int32)])
    (o1 : (¬ (rv1 = 0)) → vp_in a0 96)
    (l2 : (¬ (rv1 = 0)) → k9_U p l e R s m args below meth c Q A G 2 0 0 M 26 [] [.int ((M 2 a0.toNatClampNeg) &&& ((M 3 a0.toNatClampNeg) ^^^ (-1 : Int32)))]) : k9_U p l e R s m args below meth c Q A G 2 0 0 M 0 [(0, .ref (k9_ga G 1)), (1, .int a0)] [] := by
  refine k9_iload_n X dX3_openAt_0 rfl 1 rfl ?_
  refine k9_callNi1 X k1  (k9_cwN (host := "RollPunch") 1 gX3_openAt_X6_isStep_n52 rfl rfl rfl (by decide +kernel) (by decide +kernel) (by decide +kernel) (by decide +kernel) ⟨Nat.le_of_ble_eq_true rfl, Nat.le_of_ble_eq_true rfl⟩) (Nat.le_of_ble_eq_true rfl) dX3_openAt_1 ⟨Nat.zero_le _, Nat.zero_le _⟩ ?_
  refine k9_if_eq (tgt := 25) X dX3_openAt_4 (by decide) (fun c1 => ?_) (fun c1 => ?_)
  · refine k9_iconst (v := 0) X dX3_openAt_25 (by decide) ?_
    refine k9_sub (lv' := []) [] rfl ?_
    exact (l1 c1)
  · refine k9_aload_n X dX3_openAt_7 rfl 0 rfl ?_
    refine k9_gX3_0 (q := 1) (q1 := 2) X (by decide) (by rfl) in_X3_openAt_X3 fl_X3_openAt_9 dX3_openAt_8 ?_
    refine k9_iload_n X dX3_openAt_11 rfl 1 rfl ?_
    refine k9_iald X (by decide) (o1 c1) (by rfl) dX3_openAt_12 ?_
    refine k9_aload_n X dX3_openAt_13 rfl 0 rfl ?_
    refine k9_gX3_1 (q := 1) (q1 := 3) X (by decide) (by rfl) in_X3_openAt_X3 fl_X3_openAt_15 dX3_openAt_14 ?_
    refine k9_iload_n X dX3_openAt_17 rfl 1 rfl ?_
    refine k9_iald X (by decide) (o1 c1) (by rfl) dX3_openAt_18 ?_
    refine k9_iconst (v := -1) X dX3_openAt_19 (by decide) ?_
    refine k9_ixor X dX3_openAt_20 ?_
    refine k9_iand X dX3_openAt_21 ?_
    refine k9_goto (tgt := 26) X dX3_openAt_22 (by decide) ?_
    refine k9_sub (lv' := []) [] rfl ?_
    exact (l2 c1)

set_option maxRecDepth 20000 in
theorem bk_X3_openHoles_0 (X : k9_X p R s m args c A G 3 cX3_openHoles wsX3_openHoles RX3 rm_X3_openHoles) 
    (l1 : k9_U p l e R s m args below meth c Q A G 3 0 0 M 4 [(0, .ref (k9_ga G 1)), (1, .int (0 : Int32)), (2, .int (0 : Int32))] []) : k9_U p l e R s m args below meth c Q A G 3 0 0 M 0 [(0, .ref (k9_ga G 1))] [] := by
  refine k9_iconst (v := 0) X dX3_openHoles_0 (by decide) ?_
  refine k9_istore_n (lv' := [(0, .ref (k9_ga G 1)), (1, .int (0 : Int32))]) X dX3_openHoles_1 rfl (by decide) [1, 0] rfl ?_
  refine k9_iconst (v := 0) X dX3_openHoles_2 (by decide) ?_
  refine k9_istore_n (lv' := [(0, .ref (k9_ga G 1)), (1, .int (0 : Int32)), (2, .int (0 : Int32))]) X dX3_openHoles_3 rfl (by decide) [1, 2, 0] rfl ?_
  exact l1

set_option maxRecDepth 20000 in
theorem bk_X3_openHoles_4 (X : k9_X p R s m args c A G 3 cX3_openHoles wsX3_openHoles RX3 rm_X3_openHoles) {x1 x2 : Int32} {rv1 : Int32} {rv2 : Int32}
    (l1 : ((96 : Int32) ≤ x2) → k9_U p l e R s m args below meth c Q A G 3 0 0 M 28 [] [.int x1])
    (k1 : (¬ ((96 : Int32) ≤ x2)) → k9_Ci l yX3_openAt wsX3_openAt rm_X3_openAt G M [.ref (k9_ga G 1), .int x2] rv1 M)
    (k2 : (¬ ((96 : Int32) ≤ x2)) → k9_Ci l yJ6_bitCount_0f7a4 wsJ6_bitCount_0f7a4 rm_J6_bitCount_0f7a4 G M [.int rv1] rv2 M)
    (l2 : (¬ ((96 : Int32) ≤ x2)) → k9_U p l e R s m args below meth c Q A G 3 0 0 M 4 [(0, .ref (k9_ga G 1)), (1, .int (x1 + rv2)), (2, .int (x2 + (1 : Int32)))] []) : k9_U p l e R s m args below meth c Q A G 3 0 0 M 4 [(0, .ref (k9_ga G 1)), (1, .int x1), (2, .int x2)] [] := by
  refine k9_iload_n X dX3_openHoles_4 rfl 2 rfl ?_
  refine k9_bipush (v := 96) X dX3_openHoles_5 (by decide) ?_
  refine k9_icmp_ge (tgt := 27) X dX3_openHoles_7 (by decide) (fun c1 => ?_) (fun c1 => ?_)
  · refine k9_iload_n X dX3_openHoles_27 rfl 1 rfl ?_
    refine k9_sub (lv' := []) [] rfl ?_
    exact (l1 c1)
  · refine k9_iload_n X dX3_openHoles_10 rfl 1 rfl ?_
    refine k9_aload_n X dX3_openHoles_11 rfl 0 rfl ?_
    refine k9_iload_n X dX3_openHoles_12 rfl 2 rfl ?_
    refine k9_callVi1 X (k1 c1) (k9_ob_P (by decide)) (cwV 1 X.2.2.2.2.1 gX3_openHoles_X3_openAt rfl rfl rfl (by decide +kernel) ⟨Nat.le_of_ble_eq_true rfl, Nat.le_of_ble_eq_true rfl⟩) (Nat.le_of_ble_eq_true rfl) dX3_openHoles_13 ⟨Nat.zero_le _, Nat.zero_le _⟩ ?_
    refine k9_callSi1 X (k2 c1)  (va_cwS 1 X.2.2.2.2.1 gX3_openHoles_J6_bitCount_0f7a4 rfl rfl rfl (by decide +kernel) ⟨Nat.le_of_ble_eq_true rfl, Nat.le_of_ble_eq_true rfl⟩) (Nat.le_of_ble_eq_true rfl) dX3_openHoles_16 ⟨Nat.zero_le _, Nat.zero_le _⟩ ?_
    refine k9_iadd X dX3_openHoles_19 ?_
    refine k9_istore_n (lv' := [(0, .ref (k9_ga G 1)), (1, .int (x1 + rv2)), (2, .int x2)]) X dX3_openHoles_20 rfl (by decide) [1, 0, 2] rfl ?_
    refine k9_iinc (v := x2 + (1 : Int32)) (lv' := [(0, .ref (k9_ga G 1)), (1, .int (x1 + rv2)), (2, .int (x2 + (1 : Int32)))]) X dX3_openHoles_21 (k := 2) rfl (by rfl) (by decide) [1, 2, 0] rfl ?_
    refine k9_goto (tgt := 4) X dX3_openHoles_24 (by decide) ?_
    exact (l2 c1)

theorem in_X3_tornSteps_X3 : ∀ w ∈ u_ws RX3 TX3 7, w ∈ wsX3_tornSteps := by decide +kernel
theorem fl_X3_tornSteps_18 : Cond.fieldLink RX3 18 (TX3 2).1 (TX3 2).2.1 (TX3 2).2.2.1 ∈ wsX3_tornSteps := by decide +kernel
set_option maxRecDepth 20000 in
theorem bk_X3_tornSteps_0 (X : k9_X p R s m args c A G 3 cX3_tornSteps wsX3_tornSteps RX3 rm_X3_tornSteps) 
    (l1 : k9_U p l e R s m args below meth c Q A G 3 0 0 M 4 [(0, .ref (k9_ga G 1)), (1, .int (0 : Int32)), (2, .int (0 : Int32))] []) : k9_U p l e R s m args below meth c Q A G 3 0 0 M 0 [(0, .ref (k9_ga G 1))] [] := by
  refine k9_iconst (v := 0) X dX3_tornSteps_0 (by decide) ?_
  refine k9_istore_n (lv' := [(0, .ref (k9_ga G 1)), (1, .int (0 : Int32))]) X dX3_tornSteps_1 rfl (by decide) [1, 0] rfl ?_
  refine k9_iconst (v := 0) X dX3_tornSteps_2 (by decide) ?_
  refine k9_istore_n (lv' := [(0, .ref (k9_ga G 1)), (1, .int (0 : Int32)), (2, .int (0 : Int32))]) X dX3_tornSteps_3 rfl (by decide) [1, 2, 0] rfl ?_
  exact l1

set_option maxRecDepth 20000 in
theorem bk_X3_tornSteps_4 (X : k9_X p R s m args c A G 3 cX3_tornSteps wsX3_tornSteps RX3 rm_X3_tornSteps) {x1 x2 : Int32}
    (l1 : ((96 : Int32) ≤ x2) → k9_U p l e R s m args below meth c Q A G 3 0 0 M 34 [] [.int x1])
    (o1 : (¬ ((96 : Int32) ≤ x2)) → vp_in x2 96)
    (l2 : (¬ ((96 : Int32) ≤ x2)) → ((M 4 x2.toNatClampNeg) = 0) → k9_U p l e R s m args below meth c Q A G 3 0 0 M 4 [(0, .ref (k9_ga G 1)), (1, .int (x1 + (0 : Int32))), (2, .int (x2 + (1 : Int32)))] [])
    (l3 : (¬ ((96 : Int32) ≤ x2)) → (¬ ((M 4 x2.toNatClampNeg) = 0)) → k9_U p l e R s m args below meth c Q A G 3 0 0 M 4 [(0, .ref (k9_ga G 1)), (1, .int (x1 + (1 : Int32))), (2, .int (x2 + (1 : Int32)))] []) : k9_U p l e R s m args below meth c Q A G 3 0 0 M 4 [(0, .ref (k9_ga G 1)), (1, .int x1), (2, .int x2)] [] := by
  refine k9_iload_n X dX3_tornSteps_4 rfl 2 rfl ?_
  refine k9_bipush (v := 96) X dX3_tornSteps_5 (by decide) ?_
  refine k9_icmp_ge (tgt := 33) X dX3_tornSteps_7 (by decide) (fun c1 => ?_) (fun c1 => ?_)
  · refine k9_iload_n X dX3_tornSteps_33 rfl 1 rfl ?_
    refine k9_sub (lv' := []) [] rfl ?_
    exact (l1 c1)
  · refine k9_iload_n X dX3_tornSteps_10 rfl 1 rfl ?_
    refine k9_aload_n X dX3_tornSteps_11 rfl 0 rfl ?_
    refine k9_gX3_2 (q := 1) (q1 := 4) X (by decide) (by rfl) in_X3_tornSteps_X3 fl_X3_tornSteps_18 dX3_tornSteps_12 ?_
    refine k9_iload_n X dX3_tornSteps_15 rfl 2 rfl ?_
    refine k9_iald X (by decide) (o1 c1) (by rfl) dX3_tornSteps_16 ?_
    refine k9_if_eq (tgt := 24) X dX3_tornSteps_17 (by decide) (fun c2 => ?_) (fun c2 => ?_)
    · refine k9_iconst (v := 0) X dX3_tornSteps_24 (by decide) ?_
      refine k9_iadd X dX3_tornSteps_25 ?_
      refine k9_istore_n (lv' := [(0, .ref (k9_ga G 1)), (1, .int (x1 + (0 : Int32))), (2, .int x2)]) X dX3_tornSteps_26 rfl (by decide) [1, 0, 2] rfl ?_
      refine k9_iinc (v := x2 + (1 : Int32)) (lv' := [(0, .ref (k9_ga G 1)), (1, .int (x1 + (0 : Int32))), (2, .int (x2 + (1 : Int32)))]) X dX3_tornSteps_27 (k := 2) rfl (by rfl) (by decide) [1, 2, 0] rfl ?_
      refine k9_goto (tgt := 4) X dX3_tornSteps_30 (by decide) ?_
      exact (l2 c1 c2)
    · refine k9_iconst (v := 1) X dX3_tornSteps_20 (by decide) ?_
      refine k9_goto (tgt := 25) X dX3_tornSteps_21 (by decide) ?_
      refine k9_iadd X dX3_tornSteps_25 ?_
      refine k9_istore_n (lv' := [(0, .ref (k9_ga G 1)), (1, .int (x1 + (1 : Int32))), (2, .int x2)]) X dX3_tornSteps_26 rfl (by decide) [1, 0, 2] rfl ?_
      refine k9_iinc (v := x2 + (1 : Int32)) (lv' := [(0, .ref (k9_ga G 1)), (1, .int (x1 + (1 : Int32))), (2, .int (x2 + (1 : Int32)))]) X dX3_tornSteps_27 (k := 2) rfl (by rfl) (by decide) [1, 2, 0] rfl ?_
      refine k9_goto (tgt := 4) X dX3_tornSteps_30 (by decide) ?_
      exact (l3 c1 c2)

theorem in_X3_voicesAt_X3 : ∀ w ∈ u_ws RX3 TX3 7, w ∈ wsX3_voicesAt := by decide +kernel
theorem fl_X3_voicesAt_18 : Cond.fieldLink RX3 18 (TX3 2).1 (TX3 2).2.1 (TX3 2).2.2.1 ∈ wsX3_voicesAt := by decide +kernel
set_option maxRecDepth 20000 in
theorem bk_X3_voicesAt_0 (X : k9_X p R s m args c A G 3 cX3_voicesAt wsX3_voicesAt RX3 rm_X3_voicesAt) {a0 a1 : Int32} {rv1 : Int32} {rv2 : Int32} {rv3 : Int32}
    (k1 : k9_Ci l yX6_isStep wsX6_isStep rm_X6_isStep G M [.int a0] rv1 M)
    (l1 : (rv1 = 0) → k9_U p l e R s m args below meth c Q A G 3 0 0 M 27 [] [.int (0 : Int32)])
    (k2 : (¬ (rv1 = 0)) → k9_Ci l yX3_openAt wsX3_openAt rm_X3_openAt G M [.ref (k9_ga G 1), .int a0] rv2 M)
    (o1 : (¬ (rv1 = 0)) → vp_in a0 96)
    (k3 : (¬ (rv1 = 0)) → k9_Ci l yX3_voicesOf wsX3_voicesOf rm_X3_voicesOf G M [.int rv2, .int ((M 4 a0.toNatClampNeg) + a1)] rv3 M)
    (l2 : (¬ (rv1 = 0)) → k9_U p l e R s m args below meth c Q A G 3 0 0 M 27 [] [.int rv3]) : k9_U p l e R s m args below meth c Q A G 3 0 0 M 0 [(0, .ref (k9_ga G 1)), (1, .int a0), (2, .int a1)] [] := by
  refine k9_iload_n X dX3_voicesAt_0 rfl 1 rfl ?_
  refine k9_callNi1 X k1  (k9_cwN (host := "RollPunch") 1 gX3_voicesAt_X6_isStep_n52 rfl rfl rfl (by decide +kernel) (by decide +kernel) (by decide +kernel) (by decide +kernel) ⟨Nat.le_of_ble_eq_true rfl, Nat.le_of_ble_eq_true rfl⟩) (Nat.le_of_ble_eq_true rfl) dX3_voicesAt_1 ⟨Nat.zero_le _, Nat.zero_le _⟩ ?_
  refine k9_if_eq (tgt := 26) X dX3_voicesAt_4 (by decide) (fun c1 => ?_) (fun c1 => ?_)
  · refine k9_iconst (v := 0) X dX3_voicesAt_26 (by decide) ?_
    refine k9_sub (lv' := []) [] rfl ?_
    exact (l1 c1)
  · refine k9_aload_n X dX3_voicesAt_7 rfl 0 rfl ?_
    refine k9_iload_n X dX3_voicesAt_8 rfl 1 rfl ?_
    refine k9_callVi1 X (k2 c1) (k9_ob_P (by decide)) (cwV 1 X.2.2.2.2.1 gX3_voicesAt_X3_openAt rfl rfl rfl (by decide +kernel) ⟨Nat.le_of_ble_eq_true rfl, Nat.le_of_ble_eq_true rfl⟩) (Nat.le_of_ble_eq_true rfl) dX3_voicesAt_9 ⟨Nat.zero_le _, Nat.zero_le _⟩ ?_
    refine k9_aload_n X dX3_voicesAt_12 rfl 0 rfl ?_
    refine k9_gX3_2 (q := 1) (q1 := 4) X (by decide) (by rfl) in_X3_voicesAt_X3 fl_X3_voicesAt_18 dX3_voicesAt_13 ?_
    refine k9_iload_n X dX3_voicesAt_16 rfl 1 rfl ?_
    refine k9_iald X (by decide) (o1 c1) (by rfl) dX3_voicesAt_17 ?_
    refine k9_iload_n X dX3_voicesAt_18 rfl 2 rfl ?_
    refine k9_iadd X dX3_voicesAt_19 ?_
    refine k9_callSi2 X (k3 c1)  (va_cwS 2 X.2.2.2.2.1 gX3_voicesAt_X3_voicesOf rfl rfl rfl (by decide +kernel) ⟨Nat.le_of_ble_eq_true rfl, Nat.le_of_ble_eq_true rfl⟩) (Nat.le_of_ble_eq_true rfl) dX3_voicesAt_20 ⟨Nat.zero_le _, Nat.zero_le _⟩ ?_
    refine k9_goto (tgt := 27) X dX3_voicesAt_23 (by decide) ?_
    refine k9_sub (lv' := []) [] rfl ?_
    exact (l2 c1)

theorem co_X3_voicesOf_75 : Cond.constant RX3 75 (2097151) ∈ wsX3_voicesOf := by decide +kernel
set_option maxRecDepth 20000 in
theorem bk_X3_voicesOf_0 (X : k9_X p R s m args c A G 2 cX3_voicesOf wsX3_voicesOf RX3 rm_X3_voicesOf) {a0 a1 : Int32} {rv1 : Int32}
    (k1 : k9_Ci l yX3_moved wsX3_moved rm_X3_moved G M [.int a0, .int ((-2 : Int32) - a1)] rv1 M)
    (l1 : k9_U p l e R s m args below meth c Q A G 2 0 0 M 11 [] [.int (rv1 &&& (2097151 : Int32))]) : k9_U p l e R s m args below meth c Q A G 2 0 0 M 0 [(0, .int a0), (1, .int a1)] [] := by
  refine k9_iload_n X dX3_voicesOf_0 rfl 0 rfl ?_
  refine k9_bipush (v := -2) X dX3_voicesOf_1 (by decide) ?_
  refine k9_iload_n X dX3_voicesOf_3 rfl 1 rfl ?_
  refine k9_isub X dX3_voicesOf_4 ?_
  refine k9_callSi2 X k1  (va_cwS 2 X.2.2.2.2.1 gX3_voicesOf_X3_moved rfl rfl rfl (by decide +kernel) ⟨Nat.le_of_ble_eq_true rfl, Nat.le_of_ble_eq_true rfl⟩) (Nat.le_of_ble_eq_true rfl) dX3_voicesOf_5 ⟨Nat.zero_le _, Nat.zero_le _⟩ ?_
  refine k9_ldc X co_X3_voicesOf_75 dX3_voicesOf_8 ?_
  refine k9_iand X dX3_voicesOf_10 ?_
  refine k9_sub (lv' := []) [] rfl ?_
  exact l1

set_option maxRecDepth 20000 in
theorem bk_X3_moved_0 (X : k9_X p R s m args c A G 2 cX3_moved wsX3_moved RX3 rm_X3_moved) {a0 a1 : Int32}
    (l1 : (a1 < 0) → k9_U p l e R s m args below meth c Q A G 2 0 0 M 14 [] [.int (a0 >>> ((-a1) &&& 31))])
    (l2 : (¬ (a1 < 0)) → k9_U p l e R s m args below meth c Q A G 2 0 0 M 14 [] [.int (a0 <<< (a1 &&& 31))]) : k9_U p l e R s m args below meth c Q A G 2 0 0 M 0 [(0, .int a0), (1, .int a1)] [] := by
  refine k9_iload_n X dX3_moved_0 rfl 1 rfl ?_
  refine k9_if_lt (tgt := 10) X dX3_moved_1 (by decide) (fun c1 => ?_) (fun c1 => ?_)
  · refine k9_iload_n X dX3_moved_10 rfl 0 rfl ?_
    refine k9_iload_n X dX3_moved_11 rfl 1 rfl ?_
    refine k9_ineg X dX3_moved_12 ?_
    refine k9_ishr X dX3_moved_13 ?_
    refine k9_sub (lv' := []) [] rfl ?_
    exact (l1 c1)
  · refine k9_iload_n X dX3_moved_4 rfl 0 rfl ?_
    refine k9_iload_n X dX3_moved_5 rfl 1 rfl ?_
    refine k9_ishl X dX3_moved_6 ?_
    refine k9_goto (tgt := 14) X dX3_moved_7 (by decide) ?_
    refine k9_sub (lv' := []) [] rfl ?_
    exact (l2 c1)

theorem mm_X3_kept_76 : ∀ w ∈ [Cond.methodLink RX3 76 Lib.Math.min.name, .static Lib.Math.min.name, .initialized "java/lang/Math", .code Lib.Math.min.name Lib.Math.min.code 2 (some .int)], w ∈ wsX3_kept := by decide +kernel
theorem mm_X3_kept_81 : ∀ w ∈ [Cond.methodLink RX3 81 Lib.Math.max.name, .static Lib.Math.max.name, .initialized "java/lang/Math", .code Lib.Math.max.name Lib.Math.max.code 2 (some .int)], w ∈ wsX3_kept := by decide +kernel
set_option maxRecDepth 20000 in
theorem bk_X3_kept_0 (X : k9_X p R s m args c A G 1 cX3_kept wsX3_kept RX3 rm_X3_kept) {a0 : Int32}
    (l1 : k9_U p l e R s m args below meth c Q A G 1 0 0 M 10 [] [.int (if (-3 : Int32) < (if a0 < (3 : Int32) then a0 else (3 : Int32)) then (if a0 < (3 : Int32) then a0 else (3 : Int32)) else (-3 : Int32))]) : k9_U p l e R s m args below meth c Q A G 1 0 0 M 0 [(0, .int a0)] [] := by
  refine k9_bipush (v := -3) X dX3_kept_0 (by decide) ?_
  refine k9_iconst (v := 3) X dX3_kept_2 (by decide) ?_
  refine k9_iload_n X dX3_kept_3 rfl 0 rfl ?_
  refine k9_mmin X ⟨by decide, by decide⟩ (Nat.le_of_ble_eq_true rfl) mm_X3_kept_76 dX3_kept_4 ⟨Nat.zero_le _, Nat.zero_le _⟩ ?_
  refine k9_mmax X ⟨by decide, by decide⟩ (Nat.le_of_ble_eq_true rfl) mm_X3_kept_81 dX3_kept_7 ⟨Nat.zero_le _, Nat.zero_le _⟩ ?_
  refine k9_sub (lv' := []) [] rfl ?_
  exact l1

end BK
