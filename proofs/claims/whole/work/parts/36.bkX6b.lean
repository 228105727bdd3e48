section BK
variable {p : Program} {l : Launch} {e : Env} {R : Room} {s : State} {m : MethodId} {args : Array Value} {below : List Frame} {meth : Method} {c : Code} {Q : State → Prop} {A : Nat → Prop} {G : k9_G} {M : k9_Mem}
theorem co_X6_digest_260 : Cond.constantLong RX6 260 (2371) ∈ wsX6_digest := by decide +kernel
theorem in_X6_digest_X6 : ∀ w ∈ u_ws RX6 TX6 5, w ∈ wsX6_digest := by decide +kernel
theorem fl_X6_digest_12 : Cond.fieldLink RX6 12 (TX6 0).1 (TX6 0).2.1 (TX6 0).2.2.1 ∈ wsX6_digest := by decide +kernel
theorem in_X6_digest_X3 : ∀ w ∈ u_ws RX3 TX3 7, w ∈ wsX6_digest := by decide +kernel
theorem fl_X6_digest_132 : Cond.fieldLink RX6 132 (TX3 5).1 (TX3 5).2.1 (TX3 5).2.2.1 ∈ wsX6_digest := by decide +kernel
theorem fl_X6_digest_136 : Cond.fieldLink RX6 136 (TX3 6).1 (TX3 6).2.1 (TX3 6).2.2.1 ∈ wsX6_digest := by decide +kernel
theorem fl_X6_digest_33 : Cond.fieldLink RX6 33 (TX6 3).1 (TX6 3).2.1 (TX6 3).2.2.1 ∈ wsX6_digest := by decide +kernel
set_option maxRecDepth 20000 in
theorem bk_X6_digest_0 (X : k9_X p R s m args c A G 4 cX6_digest wsX6_digest RX6 rm_X6_digest) 
    (l1 : k9_U p l e R s m args below meth c Q A G 4 0 0 M 6 [(0, .ref (k9_ga G 0)), (1, .long (2371 : Int64)), (3, .int (0 : Int32))] []) : k9_U p l e R s m args below meth c Q A G 4 0 0 M 0 [(0, .ref (k9_ga G 0))] [] := by
  refine k9_ldc2 X co_X6_digest_260 dX6_digest_0 ?_
  refine k9_lstore_n (lv' := [(0, .ref (k9_ga G 0)), (1, .long (2371 : Int64))]) X dX6_digest_3 rfl (by decide) [1, 0] rfl ?_
  refine k9_iconst (v := 0) X dX6_digest_4 (by decide) ?_
  refine k9_istore_n (lv' := [(0, .ref (k9_ga G 0)), (1, .long (2371 : Int64)), (3, .int (0 : Int32))]) X dX6_digest_5 rfl (by decide) [1, 2, 0] rfl ?_
  exact l1

set_option maxRecDepth 20000 in
theorem bk_X6_digest_6 (X : k9_X p R s m args c A G 4 cX6_digest wsX6_digest RX6 rm_X6_digest) {x3 : Int32} {x1 : Int64} {rv1 : Int64} {rv2 : Int64} {rv3 : Int64} {rv4 : Int64} {rv5 : Int64} {rv6 : Int64} {mv6 : k9_Mem} {rv7 : UInt64} {rv8 : Int64} {rv9 : Int64} {rv10 : Int64} {rv11 : Int32} {rv12 : Int64}
    (k1 : ((14 : Int32) < x3) → k9_Cl l yX6_mixed wsX6_mixed rm_X6_mixed G M [.long x1, .long ((M 1 5).toInt64)] rv1 M)
    (k2 : ((14 : Int32) < x3) → k9_Cl l yX6_mixed wsX6_mixed rm_X6_mixed G M [.long rv1, .long ((M 1 6).toInt64)] rv2 M)
    (k3 : ((14 : Int32) < x3) → k9_Cl l yX6_mixedSteps wsX6_mixedSteps rm_X6_mixedSteps G M [.ref (k9_ga G 0), .long rv2] rv3 M)
    (k4 : ((14 : Int32) < x3) → k9_Cl l yX6_mixedNotes wsX6_mixedNotes rm_X6_mixedNotes G M [.ref (k9_ga G 0), .long rv3, .int (0 : Int32)] rv4 M)
    (k5 : ((14 : Int32) < x3) → k9_Cl l yX6_mixedNotes wsX6_mixedNotes rm_X6_mixedNotes G M [.ref (k9_ga G 0), .long rv4, .int (1 : Int32)] rv5 M)
    (k6 : ((14 : Int32) < x3) → k9_Cl l yX6_mixedBest wsX6_mixedBest rm_X6_mixedBest G M [.ref (k9_ga G 0), .long rv5] rv6 mv6)
    (k7 : ((14 : Int32) < x3) → k9_Cd l yX6_rightShare wsX6_rightShare rm_X6_rightShare G mv6 [.ref (k9_ga G 0)] rv7 mv6)
    (k8 : ((14 : Int32) < x3) → k9_Cl l yX6_bitsOfShare wsX6_bitsOfShare rm_X6_bitsOfShare G mv6 [.double rv7] rv8 mv6)
    (k9 : ((14 : Int32) < x3) → k9_Cl l yX6_mixed wsX6_mixed rm_X6_mixed G mv6 [.long rv6, .long rv8] rv9 mv6)
    (k10 : ((14 : Int32) < x3) → k9_Cl l yX2_mixedInto wsX2_mixedInto rm_X2_mixedInto G mv6 [.ref (k9_ga G 66), .long rv9] rv10 mv6)
    (l1 : ((14 : Int32) < x3) → k9_U p l e R s m args below meth c Q A G 4 0 0 mv6 101 [] [.long rv10])
    (k11 : (¬ ((14 : Int32) < x3)) → k9_Ci l yX6_counted wsX6_counted rm_X6_counted G M [.ref (k9_ga G 0), .int x3] rv11 M)
    (k12 : (¬ ((14 : Int32) < x3)) → k9_Cl l yX6_mixed wsX6_mixed rm_X6_mixed G M [.long x1, .long rv11.toInt64] rv12 M)
    (l2 : (¬ ((14 : Int32) < x3)) → k9_U p l e R s m args below meth c Q A G 4 0 0 M 6 [(0, .ref (k9_ga G 0)), (1, .long rv12), (3, .int (x3 + (1 : Int32)))] []) : k9_U p l e R s m args below meth c Q A G 4 0 0 M 6 [(0, .ref (k9_ga G 0)), (1, .long x1), (3, .int x3)] [] := by
  refine k9_iload_n X dX6_digest_6 rfl 2 rfl ?_
  refine k9_bipush (v := 14) X dX6_digest_7 (by decide) ?_
  refine k9_icmp_gt (tgt := 29) X dX6_digest_9 (by decide) (fun c1 => ?_) (fun c1 => ?_)
  · refine k9_lload_n X dX6_digest_29 rfl 1 rfl ?_
    refine k9_aload_n X dX6_digest_30 rfl 0 rfl ?_
    refine k9_gX6_0 X in_X6_digest_X6 fl_X6_digest_12 dX6_digest_31 ?_
    refine k9_gX3_5 (q := 1) X (by decide) (by rfl) in_X6_digest_X3 fl_X6_digest_132 dX6_digest_34 ?_
    refine k9_i2l X dX6_digest_37 ?_
    refine k9_callSl2 X (k1 c1)  (va_cwS 2 X.2.2.2.2.1 gX6_digest_X6_mixed rfl rfl rfl (by decide +kernel) ⟨Nat.le_of_ble_eq_true rfl, Nat.le_of_ble_eq_true rfl⟩) (Nat.le_of_ble_eq_true rfl) dX6_digest_38 ⟨Nat.zero_le _, Nat.zero_le _⟩ ?_
    refine k9_lstore_n (lv' := [(0, .ref (k9_ga G 0)), (1, .long rv1), (3, .int x3)]) X dX6_digest_41 rfl (by decide) [1, 0, 2] rfl ?_
    refine k9_lload_n X dX6_digest_42 rfl 1 rfl ?_
    refine k9_aload_n X dX6_digest_43 rfl 0 rfl ?_
    refine k9_gX6_0 X in_X6_digest_X6 fl_X6_digest_12 dX6_digest_44 ?_
    refine k9_gX3_6 (q := 1) X (by decide) (by rfl) in_X6_digest_X3 fl_X6_digest_136 dX6_digest_47 ?_
    refine k9_i2l X dX6_digest_50 ?_
    refine k9_callSl2 X (k2 c1)  (va_cwS 2 X.2.2.2.2.1 gX6_digest_X6_mixed rfl rfl rfl (by decide +kernel) ⟨Nat.le_of_ble_eq_true rfl, Nat.le_of_ble_eq_true rfl⟩) (Nat.le_of_ble_eq_true rfl) dX6_digest_51 ⟨Nat.zero_le _, Nat.zero_le _⟩ ?_
    refine k9_lstore_n (lv' := [(0, .ref (k9_ga G 0)), (1, .long rv2), (3, .int x3)]) X dX6_digest_54 rfl (by decide) [1, 0, 2] rfl ?_
    refine k9_aload_n X dX6_digest_55 rfl 0 rfl ?_
    refine k9_lload_n X dX6_digest_56 rfl 1 rfl ?_
    refine k9_callVl1 X (k3 c1) k9_ob_0 (cwV 1 X.2.2.2.2.1 gX6_digest_X6_mixedSteps rfl rfl rfl (by decide +kernel) ⟨Nat.le_of_ble_eq_true rfl, Nat.le_of_ble_eq_true rfl⟩) (Nat.le_of_ble_eq_true rfl) dX6_digest_57 ⟨Nat.zero_le _, Nat.zero_le _⟩ ?_
    refine k9_lstore_n (lv' := [(0, .ref (k9_ga G 0)), (1, .long rv3), (3, .int x3)]) X dX6_digest_60 rfl (by decide) [1, 0, 2] rfl ?_
    refine k9_aload_n X dX6_digest_61 rfl 0 rfl ?_
    refine k9_lload_n X dX6_digest_62 rfl 1 rfl ?_
    refine k9_iconst (v := 0) X dX6_digest_63 (by decide) ?_
    refine k9_callVl2 X (k4 c1) k9_ob_0 (cwV 2 X.2.2.2.2.1 gX6_digest_X6_mixedNotes rfl rfl rfl (by decide +kernel) ⟨Nat.le_of_ble_eq_true rfl, Nat.le_of_ble_eq_true rfl⟩) (Nat.le_of_ble_eq_true rfl) dX6_digest_64 ⟨Nat.zero_le _, Nat.zero_le _⟩ ?_
    refine k9_lstore_n (lv' := [(0, .ref (k9_ga G 0)), (1, .long rv4), (3, .int x3)]) X dX6_digest_67 rfl (by decide) [1, 0, 2] rfl ?_
    refine k9_aload_n X dX6_digest_68 rfl 0 rfl ?_
    refine k9_lload_n X dX6_digest_69 rfl 1 rfl ?_
    refine k9_iconst (v := 1) X dX6_digest_70 (by decide) ?_
    refine k9_callVl2 X (k5 c1) k9_ob_0 (cwV 2 X.2.2.2.2.1 gX6_digest_X6_mixedNotes rfl rfl rfl (by decide +kernel) ⟨Nat.le_of_ble_eq_true rfl, Nat.le_of_ble_eq_true rfl⟩) (Nat.le_of_ble_eq_true rfl) dX6_digest_71 ⟨Nat.zero_le _, Nat.zero_le _⟩ ?_
    refine k9_lstore_n (lv' := [(0, .ref (k9_ga G 0)), (1, .long rv5), (3, .int x3)]) X dX6_digest_74 rfl (by decide) [1, 0, 2] rfl ?_
    refine k9_aload_n X dX6_digest_75 rfl 0 rfl ?_
    refine k9_lload_n X dX6_digest_76 rfl 1 rfl ?_
    refine k9_callVl1 X (k6 c1) k9_ob_0 (cwV 1 X.2.2.2.2.1 gX6_digest_X6_mixedBest rfl rfl rfl (by decide +kernel) ⟨Nat.le_of_ble_eq_true rfl, Nat.le_of_ble_eq_true rfl⟩) (Nat.le_of_ble_eq_true rfl) dX6_digest_77 ⟨Nat.zero_le _, Nat.zero_le _⟩ ?_
    refine k9_lstore_n (lv' := [(0, .ref (k9_ga G 0)), (1, .long rv6), (3, .int x3)]) X dX6_digest_80 rfl (by decide) [1, 0, 2] rfl ?_
    refine k9_lload_n X dX6_digest_81 rfl 1 rfl ?_
    refine k9_aload_n X dX6_digest_82 rfl 0 rfl ?_
    refine k9_callVd0 X (k7 c1) k9_ob_0 (cwV 0 X.2.2.2.2.1 gX6_digest_X6_rightShare rfl rfl rfl (by decide +kernel) ⟨Nat.le_of_ble_eq_true rfl, Nat.le_of_ble_eq_true rfl⟩) (Nat.le_of_ble_eq_true rfl) dX6_digest_83 ⟨Nat.zero_le _, Nat.zero_le _⟩ ?_
    refine k9_callSl1 X (k8 c1)  (va_cwS 1 X.2.2.2.2.1 gX6_digest_X6_bitsOfShare rfl rfl rfl (by decide +kernel) ⟨Nat.le_of_ble_eq_true rfl, Nat.le_of_ble_eq_true rfl⟩) (Nat.le_of_ble_eq_true rfl) dX6_digest_86 ⟨Nat.zero_le _, Nat.zero_le _⟩ ?_
    refine k9_callSl2 X (k9 c1)  (va_cwS 2 X.2.2.2.2.1 gX6_digest_X6_mixed rfl rfl rfl (by decide +kernel) ⟨Nat.le_of_ble_eq_true rfl, Nat.le_of_ble_eq_true rfl⟩) (Nat.le_of_ble_eq_true rfl) dX6_digest_89 ⟨Nat.zero_le _, Nat.zero_le _⟩ ?_
    refine k9_lstore_n (lv' := [(0, .ref (k9_ga G 0)), (1, .long rv9), (3, .int x3)]) X dX6_digest_92 rfl (by decide) [1, 0, 2] rfl ?_
    refine k9_aload_n X dX6_digest_93 rfl 0 rfl ?_
    refine k9_gX6_3 X in_X6_digest_X6 fl_X6_digest_33 dX6_digest_94 ?_
    refine k9_lload_n X dX6_digest_97 rfl 1 rfl ?_
    refine k9_callVl1 X (k10 c1) k9_ob_66 (cwV 1 X.2.2.2.2.1 gX6_digest_X2_mixedInto rfl rfl rfl (by decide +kernel) ⟨Nat.le_of_ble_eq_true rfl, Nat.le_of_ble_eq_true rfl⟩) (Nat.le_of_ble_eq_true rfl) dX6_digest_98 ⟨Nat.zero_le _, Nat.zero_le _⟩ ?_
    refine k9_sub (lv' := []) [] rfl ?_
    exact (l1 c1)
  · refine k9_lload_n X dX6_digest_12 rfl 1 rfl ?_
    refine k9_aload_n X dX6_digest_13 rfl 0 rfl ?_
    refine k9_iload_n X dX6_digest_14 rfl 2 rfl ?_
    refine k9_callVi1 X (k11 c1) k9_ob_0 (cwV 1 X.2.2.2.2.1 gX6_digest_X6_counted rfl rfl rfl (by decide +kernel) ⟨Nat.le_of_ble_eq_true rfl, Nat.le_of_ble_eq_true rfl⟩) (Nat.le_of_ble_eq_true rfl) dX6_digest_15 ⟨Nat.zero_le _, Nat.zero_le _⟩ ?_
    refine k9_i2l X dX6_digest_18 ?_
    refine k9_callSl2 X (k12 c1)  (va_cwS 2 X.2.2.2.2.1 gX6_digest_X6_mixed rfl rfl rfl (by decide +kernel) ⟨Nat.le_of_ble_eq_true rfl, Nat.le_of_ble_eq_true rfl⟩) (Nat.le_of_ble_eq_true rfl) dX6_digest_19 ⟨Nat.zero_le _, Nat.zero_le _⟩ ?_
    refine k9_lstore_n (lv' := [(0, .ref (k9_ga G 0)), (1, .long rv12), (3, .int x3)]) X dX6_digest_22 rfl (by decide) [1, 0, 2] rfl ?_
    refine k9_iinc (v := x3 + (1 : Int32)) (lv' := [(0, .ref (k9_ga G 0)), (1, .long rv12), (3, .int (x3 + (1 : Int32)))]) X dX6_digest_23 (k := 2) rfl (by rfl) (by decide) [1, 2, 0] rfl ?_
    refine k9_goto (tgt := 6) X dX6_digest_26 (by decide) ?_
    exact (l2 c1)

theorem co_X6_mixed_284 : Cond.constantLong RX6 284 (31) ∈ wsX6_mixed := by decide +kernel
set_option maxRecDepth 20000 in
theorem bk_X6_mixed_0 (X : k9_X p R s m args c A G 4 cX6_mixed wsX6_mixed RX6 rm_X6_mixed) {a0 a1 : Int64}
    (l1 : k9_U p l e R s m args below meth c Q A G 4 0 0 M 7 [] [.long (((31 : Int64) * a0) + a1)]) : k9_U p l e R s m args below meth c Q A G 4 0 0 M 0 [(0, .long a0), (2, .long a1)] [] := by
  refine k9_ldc2 X co_X6_mixed_284 dX6_mixed_0 ?_
  refine k9_lload_n X dX6_mixed_3 rfl 0 rfl ?_
  refine k9_lmul X dX6_mixed_4 ?_
  refine k9_lload_n X dX6_mixed_5 rfl 1 rfl ?_
  refine k9_ladd X dX6_mixed_6 ?_
  refine k9_sub (lv' := []) [] rfl ?_
  exact l1

set_option maxRecDepth 20000 in
theorem bk_X6_mixedSteps_0 (X : k9_X p R s m args c A G 7 cX6_mixedSteps wsX6_mixedSteps RX6 rm_X6_mixedSteps) {a0 : Int64}
    (l1 : k9_U p l e R s m args below meth c Q A G 7 0 0 M 5 [(0, .ref (k9_ga G 0)), (3, .long a0), (5, .int (0 : Int32))] []) : k9_U p l e R s m args below meth c Q A G 7 0 0 M 0 [(0, .ref (k9_ga G 0)), (1, .long a0)] [] := by
  refine k9_lload_n X dX6_mixedSteps_0 rfl 1 rfl ?_
  refine k9_lstore_n (lv' := [(0, .ref (k9_ga G 0)), (1, .long a0), (3, .long a0)]) X dX6_mixedSteps_1 rfl (by decide) [1, 2, 0] rfl ?_
  refine k9_iconst (v := 0) X dX6_mixedSteps_2 (by decide) ?_
  refine k9_istore (lv' := [(0, .ref (k9_ga G 0)), (1, .long a0), (3, .long a0), (5, .int (0 : Int32))]) X dX6_mixedSteps_3 (by decide) [1, 2, 3, 0] rfl ?_
  refine k9_sub (lv' := [(0, .ref (k9_ga G 0)), (3, .long a0), (5, .int (0 : Int32))]) [0, 2, 3] rfl ?_
  exact l1

set_option maxRecDepth 20000 in
theorem bk_X6_mixedSteps_5 (X : k9_X p R s m args c A G 7 cX6_mixedSteps wsX6_mixedSteps RX6 rm_X6_mixedSteps) {x5 : Int32} {x3 : Int64}
    (l1 : ((96 : Int32) ≤ x5) → k9_U p l e R s m args below meth c Q A G 7 0 0 M 49 [] [.long x3])
    (l2 : (¬ ((96 : Int32) ≤ x5)) → k9_U p l e R s m args below meth c Q A G 7 0 0 M 15 [(0, .ref (k9_ga G 0)), (3, .long x3), (5, .int x5), (6, .int (0 : Int32))] []) : k9_U p l e R s m args below meth c Q A G 7 0 0 M 5 [(0, .ref (k9_ga G 0)), (3, .long x3), (5, .int x5)] [] := by
  refine k9_iload X dX6_mixedSteps_5 2 rfl ?_
  refine k9_bipush (v := 96) X dX6_mixedSteps_7 (by decide) ?_
  refine k9_icmp_ge (tgt := 48) X dX6_mixedSteps_9 (by decide) (fun c1 => ?_) (fun c1 => ?_)
  · refine k9_lload_n X dX6_mixedSteps_48 rfl 1 rfl ?_
    refine k9_sub (lv' := []) [] rfl ?_
    exact (l1 c1)
  · refine k9_iconst (v := 0) X dX6_mixedSteps_12 (by decide) ?_
    refine k9_istore (lv' := [(0, .ref (k9_ga G 0)), (3, .long x3), (5, .int x5), (6, .int (0 : Int32))]) X dX6_mixedSteps_13 (by decide) [1, 2, 3, 0] rfl ?_
    exact (l2 c1)

set_option maxRecDepth 20000 in
theorem bk_X6_mixedSteps_15 (X : k9_X p R s m args c A G 7 cX6_mixedSteps wsX6_mixedSteps RX6 rm_X6_mixedSteps) {x5 x6 : Int32} {x3 : Int64} {rv1 : Int32} {rv2 : Int64}
    (l1 : ((6 : Int32) < x6) → k9_U p l e R s m args below meth c Q A G 7 0 0 M 5 [(0, .ref (k9_ga G 0)), (3, .long x3), (5, .int (x5 + (1 : Int32)))] [])
    (k1 : (¬ ((6 : Int32) < x6)) → k9_Ci l yX6_ofStep wsX6_ofStep rm_X6_ofStep G M [.ref (k9_ga G 0), .int x5, .int x6] rv1 M)
    (k2 : (¬ ((6 : Int32) < x6)) → k9_Cl l yX6_mixed wsX6_mixed rm_X6_mixed G M [.long x3, .long rv1.toInt64] rv2 M)
    (l2 : (¬ ((6 : Int32) < x6)) → k9_U p l e R s m args below meth c Q A G 7 0 0 M 15 [(0, .ref (k9_ga G 0)), (3, .long rv2), (5, .int x5), (6, .int (x6 + (1 : Int32)))] []) : k9_U p l e R s m args below meth c Q A G 7 0 0 M 15 [(0, .ref (k9_ga G 0)), (3, .long x3), (5, .int x5), (6, .int x6)] [] := by
  refine k9_iload X dX6_mixedSteps_15 3 rfl ?_
  refine k9_bipush (v := 6) X dX6_mixedSteps_17 (by decide) ?_
  refine k9_icmp_gt (tgt := 42) X dX6_mixedSteps_19 (by decide) (fun c1 => ?_) (fun c1 => ?_)
  · refine k9_iinc (v := x5 + (1 : Int32)) (lv' := [(0, .ref (k9_ga G 0)), (3, .long x3), (5, .int (x5 + (1 : Int32))), (6, .int x6)]) X dX6_mixedSteps_42 (k := 2) rfl (by rfl) (by decide) [1, 2, 0, 3] rfl ?_
    refine k9_goto (tgt := 5) X dX6_mixedSteps_45 (by decide) ?_
    refine k9_sub (lv' := [(0, .ref (k9_ga G 0)), (3, .long x3), (5, .int (x5 + (1 : Int32)))]) [0, 1, 2] rfl ?_
    exact (l1 c1)
  · refine k9_lload_n X dX6_mixedSteps_22 rfl 1 rfl ?_
    refine k9_aload_n X dX6_mixedSteps_23 rfl 0 rfl ?_
    refine k9_iload X dX6_mixedSteps_24 2 rfl ?_
    refine k9_iload X dX6_mixedSteps_26 3 rfl ?_
    refine k9_callVi2 X (k1 c1) k9_ob_0 (cwV 2 X.2.2.2.2.1 gX6_mixedSteps_X6_ofStep rfl rfl rfl (by decide +kernel) ⟨Nat.le_of_ble_eq_true rfl, Nat.le_of_ble_eq_true rfl⟩) (Nat.le_of_ble_eq_true rfl) dX6_mixedSteps_28 ⟨Nat.zero_le _, Nat.zero_le _⟩ ?_
    refine k9_i2l X dX6_mixedSteps_31 ?_
    refine k9_callSl2 X (k2 c1)  (va_cwS 2 X.2.2.2.2.1 gX6_mixedSteps_X6_mixed rfl rfl rfl (by decide +kernel) ⟨Nat.le_of_ble_eq_true rfl, Nat.le_of_ble_eq_true rfl⟩) (Nat.le_of_ble_eq_true rfl) dX6_mixedSteps_32 ⟨Nat.zero_le _, Nat.zero_le _⟩ ?_
    refine k9_lstore_n (lv' := [(0, .ref (k9_ga G 0)), (3, .long rv2), (5, .int x5), (6, .int x6)]) X dX6_mixedSteps_35 rfl (by decide) [1, 0, 2, 3] rfl ?_
    refine k9_iinc (v := x6 + (1 : Int32)) (lv' := [(0, .ref (k9_ga G 0)), (3, .long rv2), (5, .int x5), (6, .int (x6 + (1 : Int32)))]) X dX6_mixedSteps_36 (k := 3) rfl (by rfl) (by decide) [1, 2, 3, 0] rfl ?_
    refine k9_goto (tgt := 15) X dX6_mixedSteps_39 (by decide) ?_
    exact (l2 c1)

theorem in_X6_mixedNotes_X6 : ∀ w ∈ u_ws RX6 TX6 5, w ∈ wsX6_mixedNotes := by decide +kernel
theorem fl_X6_mixedNotes_19 : Cond.fieldLink RX6 19 (TX6 1).1 (TX6 1).2.1 (TX6 1).2.2.1 ∈ wsX6_mixedNotes := by decide +kernel
theorem in_X6_mixedNotes_X1 : ∀ w ∈ u_ws RX1 TX1 4, w ∈ wsX6_mixedNotes := by decide +kernel
theorem fl_X6_mixedNotes_143 : Cond.fieldLink RX6 143 (TX1 1).1 (TX1 1).2.1 (TX1 1).2.2.1 ∈ wsX6_mixedNotes := by decide +kernel
theorem fl_X6_mixedNotes_12 : Cond.fieldLink RX6 12 (TX6 0).1 (TX6 0).2.1 (TX6 0).2.2.1 ∈ wsX6_mixedNotes := by decide +kernel
theorem in_X6_mixedNotes_X3 : ∀ w ∈ u_ws RX3 TX3 7, w ∈ wsX6_mixedNotes := by decide +kernel
theorem fl_X6_mixedNotes_139 : Cond.fieldLink RX6 139 (TX3 4).1 (TX3 4).2.1 (TX3 4).2.2.1 ∈ wsX6_mixedNotes := by decide +kernel
set_option maxRecDepth 20000 in
theorem bk_X6_mixedNotes_0 (X : k9_X p R s m args c A G 12 cX6_mixedNotes wsX6_mixedNotes RX6 rm_X6_mixedNotes) {a1 : Int32} {a0 : Int64}
    (l1 : (a1 = 0) → k9_U p l e R s m args below meth c Q A G 12 0 0 M 40 [(0, .ref (k9_ga G 0)), (3, .int a1), (4, .ref (k9_ga G 59)), (5, .int (5 : Int32)), (6, .long a0), (8, .int (0 : Int32))] [])
    (l2 : (¬ (a1 = 0)) → k9_U p l e R s m args below meth c Q A G 12 0 0 M 40 [(0, .ref (k9_ga G 0)), (3, .int a1), (4, .ref (k9_ga G 6)), (5, .int (3 : Int32)), (6, .long a0), (8, .int (0 : Int32))] []) : k9_U p l e R s m args below meth c Q A G 12 0 0 M 0 [(0, .ref (k9_ga G 0)), (1, .long a0), (3, .int a1)] [] := by
  refine k9_iload_n X dX6_mixedNotes_0 rfl 2 rfl ?_
  refine k9_if_eq (tgt := 14) X dX6_mixedNotes_1 (by decide) (fun c1 => ?_) (fun c1 => ?_)
  · refine k9_aload_n X dX6_mixedNotes_14 rfl 0 rfl ?_
    refine k9_gX6_1 X in_X6_mixedNotes_X6 fl_X6_mixedNotes_19 dX6_mixedNotes_15 ?_
    refine k9_gX1_1 X in_X6_mixedNotes_X1 fl_X6_mixedNotes_143 dX6_mixedNotes_18 ?_
    refine k9_astore (lv' := [(0, .ref (k9_ga G 0)), (1, .long a0), (3, .int a1), (4, .ref (k9_ga G 59))]) X dX6_mixedNotes_21 (by decide) [1, 2, 3, 0] rfl ?_
    refine k9_iload_n X dX6_mixedNotes_23 rfl 2 rfl ?_
    refine k9_if_eq (tgt := 31) X dX6_mixedNotes_24 (by decide) (fun _ => ?_) (fun c => absurd c1 c)
    refine k9_iconst (v := 5) X dX6_mixedNotes_31 (by decide) ?_
    refine k9_istore (lv' := [(0, .ref (k9_ga G 0)), (1, .long a0), (3, .int a1), (4, .ref (k9_ga G 59)), (5, .int (5 : Int32))]) X dX6_mixedNotes_32 (by decide) [1, 2, 3, 4, 0] rfl ?_
    refine k9_lload_n X dX6_mixedNotes_34 rfl 1 rfl ?_
    refine k9_lstore (lv' := [(0, .ref (k9_ga G 0)), (1, .long a0), (3, .int a1), (4, .ref (k9_ga G 59)), (5, .int (5 : Int32)), (6, .long a0)]) X dX6_mixedNotes_35 (by decide) [1, 2, 3, 4, 5, 0] rfl ?_
    refine k9_iconst (v := 0) X dX6_mixedNotes_37 (by decide) ?_
    refine k9_istore (lv' := [(0, .ref (k9_ga G 0)), (1, .long a0), (3, .int a1), (4, .ref (k9_ga G 59)), (5, .int (5 : Int32)), (6, .long a0), (8, .int (0 : Int32))]) X dX6_mixedNotes_38 (by decide) [1, 2, 3, 4, 5, 6, 0] rfl ?_
    refine k9_sub (lv' := [(0, .ref (k9_ga G 0)), (3, .int a1), (4, .ref (k9_ga G 59)), (5, .int (5 : Int32)), (6, .long a0), (8, .int (0 : Int32))]) [0, 2, 3, 4, 5, 6] rfl ?_
    exact (l1 c1)
  · refine k9_aload_n X dX6_mixedNotes_4 rfl 0 rfl ?_
    refine k9_gX6_0 X in_X6_mixedNotes_X6 fl_X6_mixedNotes_12 dX6_mixedNotes_5 ?_
    refine k9_gX3_4 (q := 1) (q1 := 6) X (by decide) (by rfl) in_X6_mixedNotes_X3 fl_X6_mixedNotes_139 dX6_mixedNotes_8 ?_
    refine k9_goto (tgt := 21) X dX6_mixedNotes_11 (by decide) ?_
    refine k9_astore (lv' := [(0, .ref (k9_ga G 0)), (1, .long a0), (3, .int a1), (4, .ref (k9_ga G 6))]) X dX6_mixedNotes_21 (by decide) [1, 2, 3, 0] rfl ?_
    refine k9_iload_n X dX6_mixedNotes_23 rfl 2 rfl ?_
    refine k9_if_eq (tgt := 31) X dX6_mixedNotes_24 (by decide) (fun c => absurd c c1) (fun _ => ?_)
    refine k9_iconst (v := 3) X dX6_mixedNotes_27 (by decide) ?_
    refine k9_goto (tgt := 32) X dX6_mixedNotes_28 (by decide) ?_
    refine k9_istore (lv' := [(0, .ref (k9_ga G 0)), (1, .long a0), (3, .int a1), (4, .ref (k9_ga G 6)), (5, .int (3 : Int32))]) X dX6_mixedNotes_32 (by decide) [1, 2, 3, 4, 0] rfl ?_
    refine k9_lload_n X dX6_mixedNotes_34 rfl 1 rfl ?_
    refine k9_lstore (lv' := [(0, .ref (k9_ga G 0)), (1, .long a0), (3, .int a1), (4, .ref (k9_ga G 6)), (5, .int (3 : Int32)), (6, .long a0)]) X dX6_mixedNotes_35 (by decide) [1, 2, 3, 4, 5, 0] rfl ?_
    refine k9_iconst (v := 0) X dX6_mixedNotes_37 (by decide) ?_
    refine k9_istore (lv' := [(0, .ref (k9_ga G 0)), (1, .long a0), (3, .int a1), (4, .ref (k9_ga G 6)), (5, .int (3 : Int32)), (6, .long a0), (8, .int (0 : Int32))]) X dX6_mixedNotes_38 (by decide) [1, 2, 3, 4, 5, 6, 0] rfl ?_
    refine k9_sub (lv' := [(0, .ref (k9_ga G 0)), (3, .int a1), (4, .ref (k9_ga G 6)), (5, .int (3 : Int32)), (6, .long a0), (8, .int (0 : Int32))]) [0, 2, 3, 4, 5, 6] rfl ?_
    exact (l2 c1)

set_option maxRecDepth 20000 in
theorem bk_X6_mixedNotes_40 (X : k9_X p R s m args c A G 12 cX6_mixedNotes wsX6_mixedNotes RX6 rm_X6_mixedNotes) {q4 : Nat} (hq4 : k9_isC q4) {x3 x5 x8 : Int32} {x6 : Int64}
    (l1 : ((96 : Int32) ≤ x8) → k9_U p l e R s m args below meth c Q A G 12 0 0 M 138 [] [.long x6])
    (l2 : (¬ ((96 : Int32) ≤ x8)) → k9_U p l e R s m args below meth c Q A G 12 0 0 M 50 [(0, .ref (k9_ga G 0)), (3, .int x3), (4, .ref (k9_ga G q4)), (5, .int x5), (6, .long x6), (8, .int x8), (9, .int (1 : Int32))] []) : k9_U p l e R s m args below meth c Q A G 12 0 0 M 40 [(0, .ref (k9_ga G 0)), (3, .int x3), (4, .ref (k9_ga G q4)), (5, .int x5), (6, .long x6), (8, .int x8)] [] := by
  refine k9_iload X dX6_mixedNotes_40 5 rfl ?_
  refine k9_bipush (v := 96) X dX6_mixedNotes_42 (by decide) ?_
  refine k9_icmp_ge (tgt := 136) X dX6_mixedNotes_44 (by decide) (fun c1 => ?_) (fun c1 => ?_)
  · refine k9_lload X dX6_mixedNotes_136 4 rfl ?_
    refine k9_sub (lv' := []) [] rfl ?_
    exact (l1 c1)
  · refine k9_iconst (v := 1) X dX6_mixedNotes_47 (by decide) ?_
    refine k9_istore (lv' := [(0, .ref (k9_ga G 0)), (3, .int x3), (4, .ref (k9_ga G q4)), (5, .int x5), (6, .long x6), (8, .int x8), (9, .int (1 : Int32))]) X dX6_mixedNotes_48 (by decide) [1, 2, 3, 4, 5, 6, 0] rfl ?_
    exact (l2 c1)

set_option maxRecDepth 20000 in
theorem bk_X6_mixedNotes_50 (X : k9_X p R s m args c A G 12 cX6_mixedNotes wsX6_mixedNotes RX6 rm_X6_mixedNotes) {q4 : Nat} (hq4 : k9_isC q4) {x3 x5 x8 x9 : Int32} {x6 : Int64}
    (l1 : ((21 : Int32) ≤ x9) → k9_U p l e R s m args below meth c Q A G 12 0 0 M 40 [(0, .ref (k9_ga G 0)), (3, .int x3), (4, .ref (k9_ga G q4)), (5, .int x5), (6, .long x6), (8, .int (x8 + (1 : Int32)))] [])
    (l2 : (¬ ((21 : Int32) ≤ x9)) → k9_U p l e R s m args below meth c Q A G 12 0 0 M 60 [(0, .ref (k9_ga G 0)), (3, .int x3), (4, .ref (k9_ga G q4)), (5, .int x5), (6, .long x6), (8, .int x8), (9, .int x9), (10, .int (0 : Int32))] []) : k9_U p l e R s m args below meth c Q A G 12 0 0 M 50 [(0, .ref (k9_ga G 0)), (3, .int x3), (4, .ref (k9_ga G q4)), (5, .int x5), (6, .long x6), (8, .int x8), (9, .int x9)] [] := by
  refine k9_iload X dX6_mixedNotes_50 6 rfl ?_
  refine k9_bipush (v := 21) X dX6_mixedNotes_52 (by decide) ?_
  refine k9_icmp_ge (tgt := 130) X dX6_mixedNotes_54 (by decide) (fun c1 => ?_) (fun c1 => ?_)
  · refine k9_iinc (v := x8 + (1 : Int32)) (lv' := [(0, .ref (k9_ga G 0)), (3, .int x3), (4, .ref (k9_ga G q4)), (5, .int x5), (6, .long x6), (8, .int (x8 + (1 : Int32))), (9, .int x9)]) X dX6_mixedNotes_130 (k := 5) rfl (by rfl) (by decide) [1, 2, 3, 4, 5, 0, 6] rfl ?_
    refine k9_goto (tgt := 40) X dX6_mixedNotes_133 (by decide) ?_
    refine k9_sub (lv' := [(0, .ref (k9_ga G 0)), (3, .int x3), (4, .ref (k9_ga G q4)), (5, .int x5), (6, .long x6), (8, .int (x8 + (1 : Int32)))]) [0, 1, 2, 3, 4, 5] rfl ?_
    exact (l1 c1)
  · refine k9_iconst (v := 0) X dX6_mixedNotes_57 (by decide) ?_
    refine k9_istore (lv' := [(0, .ref (k9_ga G 0)), (3, .int x3), (4, .ref (k9_ga G q4)), (5, .int x5), (6, .long x6), (8, .int x8), (9, .int x9), (10, .int (0 : Int32))]) X dX6_mixedNotes_58 (by decide) [1, 2, 3, 4, 5, 6, 7, 0] rfl ?_
    exact (l2 c1)

set_option maxRecDepth 20000 in
theorem bk_X6_mixedNotes_60 (X : k9_X p R s m args c A G 12 cX6_mixedNotes wsX6_mixedNotes RX6 rm_X6_mixedNotes) {q4 : Nat} (hq4 : k9_isC q4) {x3 x5 x8 x9 x10 : Int32} {x6 : Int64} {rv1 : Int32} {rv2 : Int32} {rv3 : Int64} {rv4 : Int32} {rv5 : Int64}
    (l1 : (x5 < x10) → k9_U p l e R s m args below meth c Q A G 12 0 0 M 50 [(0, .ref (k9_ga G 0)), (3, .int x3), (4, .ref (k9_ga G q4)), (5, .int x5), (6, .long x6), (8, .int x8), (9, .int (x9 + (1 : Int32)))] [])
    (k1 : (¬ (x5 < x10)) → k9_Ci l yX0_beginsAt wsX0_beginsAt rm_X0_beginsAt G M [.ref (k9_ga G q4), .int x9, .int x8] rv1 M)
    (l2 : (¬ (x5 < x10)) → (rv1 = 0) → k9_U p l e R s m args below meth c Q A G 12 0 0 M 50 [(0, .ref (k9_ga G 0)), (3, .int x3), (4, .ref (k9_ga G q4)), (5, .int x5), (6, .long x6), (8, .int x8), (9, .int (x9 + (1 : Int32)))] [])
    (k2 : (¬ (x5 < x10)) → (¬ (rv1 = 0)) → (x3 = 0) → k9_Ci l yX6_ofPlayed wsX6_ofPlayed rm_X6_ofPlayed G M [.ref (k9_ga G 0), .int x9, .int x8, .int x10] rv2 M)
    (k3 : (¬ (x5 < x10)) → (¬ (rv1 = 0)) → (x3 = 0) → k9_Cl l yX6_mixed wsX6_mixed rm_X6_mixed G M [.long x6, .long rv2.toInt64] rv3 M)
    (l3 : (¬ (x5 < x10)) → (¬ (rv1 = 0)) → (x3 = 0) → k9_U p l e R s m args below meth c Q A G 12 0 0 M 60 [(0, .ref (k9_ga G 0)), (3, .int x3), (4, .ref (k9_ga G q4)), (5, .int x5), (6, .long rv3), (8, .int x8), (9, .int x9), (10, .int (x10 + (1 : Int32)))] [])
    (k4 : (¬ (x5 < x10)) → (¬ (rv1 = 0)) → (¬ (x3 = 0)) → k9_Ci l yX6_ofTune wsX6_ofTune rm_X6_ofTune G M [.ref (k9_ga G 0), .int x9, .int x8, .int x10] rv4 M)
    (k5 : (¬ (x5 < x10)) → (¬ (rv1 = 0)) → (¬ (x3 = 0)) → k9_Cl l yX6_mixed wsX6_mixed rm_X6_mixed G M [.long x6, .long rv4.toInt64] rv5 M)
    (l4 : (¬ (x5 < x10)) → (¬ (rv1 = 0)) → (¬ (x3 = 0)) → k9_U p l e R s m args below meth c Q A G 12 0 0 M 60 [(0, .ref (k9_ga G 0)), (3, .int x3), (4, .ref (k9_ga G q4)), (5, .int x5), (6, .long rv5), (8, .int x8), (9, .int x9), (10, .int (x10 + (1 : Int32)))] []) : k9_U p l e R s m args below meth c Q A G 12 0 0 M 60 [(0, .ref (k9_ga G 0)), (3, .int x3), (4, .ref (k9_ga G q4)), (5, .int x5), (6, .long x6), (8, .int x8), (9, .int x9), (10, .int x10)] [] := by
  refine k9_iload X dX6_mixedNotes_60 7 rfl ?_
  refine k9_iload X dX6_mixedNotes_62 3 rfl ?_
  refine k9_icmp_gt (tgt := 124) X dX6_mixedNotes_64 (by decide) (fun c1 => ?_) (fun c1 => ?_)
  · refine k9_iinc (v := x9 + (1 : Int32)) (lv' := [(0, .ref (k9_ga G 0)), (3, .int x3), (4, .ref (k9_ga G q4)), (5, .int x5), (6, .long x6), (8, .int x8), (9, .int (x9 + (1 : Int32))), (10, .int x10)]) X dX6_mixedNotes_124 (k := 6) rfl (by rfl) (by decide) [1, 2, 3, 4, 5, 6, 0, 7] rfl ?_
    refine k9_goto (tgt := 50) X dX6_mixedNotes_127 (by decide) ?_
    refine k9_sub (lv' := [(0, .ref (k9_ga G 0)), (3, .int x3), (4, .ref (k9_ga G q4)), (5, .int x5), (6, .long x6), (8, .int x8), (9, .int (x9 + (1 : Int32)))]) [0, 1, 2, 3, 4, 5, 6] rfl ?_
    exact (l1 c1)
  · refine k9_aload X dX6_mixedNotes_67 2 rfl ?_
    refine k9_iload X dX6_mixedNotes_69 6 rfl ?_
    refine k9_iload X dX6_mixedNotes_71 5 rfl ?_
    refine k9_callVi2 X (k1 c1) (k9_ob_C hq4) (cwV 2 X.2.2.2.2.1 gX6_mixedNotes_X0_beginsAt rfl rfl rfl (by decide +kernel) ⟨Nat.le_of_ble_eq_true rfl, Nat.le_of_ble_eq_true rfl⟩) (Nat.le_of_ble_eq_true rfl) dX6_mixedNotes_73 ⟨Nat.zero_le _, Nat.zero_le _⟩ ?_
    refine k9_if_eq (tgt := 124) X dX6_mixedNotes_76 (by decide) (fun c2 => ?_) (fun c2 => ?_)
    · refine k9_iinc (v := x9 + (1 : Int32)) (lv' := [(0, .ref (k9_ga G 0)), (3, .int x3), (4, .ref (k9_ga G q4)), (5, .int x5), (6, .long x6), (8, .int x8), (9, .int (x9 + (1 : Int32))), (10, .int x10)]) X dX6_mixedNotes_124 (k := 6) rfl (by rfl) (by decide) [1, 2, 3, 4, 5, 6, 0, 7] rfl ?_
      refine k9_goto (tgt := 50) X dX6_mixedNotes_127 (by decide) ?_
      refine k9_sub (lv' := [(0, .ref (k9_ga G 0)), (3, .int x3), (4, .ref (k9_ga G q4)), (5, .int x5), (6, .long x6), (8, .int x8), (9, .int (x9 + (1 : Int32)))]) [0, 1, 2, 3, 4, 5, 6] rfl ?_
      exact (l2 c1 c2)
    · refine k9_iload_n X dX6_mixedNotes_79 rfl 1 rfl ?_
      refine k9_if_eq (tgt := 96) X dX6_mixedNotes_80 (by decide) (fun c3 => ?_) (fun c3 => ?_)
      · refine k9_aload_n X dX6_mixedNotes_96 rfl 0 rfl ?_
        refine k9_iload X dX6_mixedNotes_97 6 rfl ?_
        refine k9_iload X dX6_mixedNotes_99 5 rfl ?_
        refine k9_iload X dX6_mixedNotes_101 7 rfl ?_
        refine k9_callVi3 X (k2 c1 c2 c3) k9_ob_0 (cwV 3 X.2.2.2.2.1 gX6_mixedNotes_X6_ofPlayed rfl rfl rfl (by decide +kernel) ⟨Nat.le_of_ble_eq_true rfl, Nat.le_of_ble_eq_true rfl⟩) (Nat.le_of_ble_eq_true rfl) dX6_mixedNotes_103 ⟨Nat.zero_le _, Nat.zero_le _⟩ ?_
        refine k9_istore (lv' := [(0, .ref (k9_ga G 0)), (3, .int x3), (4, .ref (k9_ga G q4)), (5, .int x5), (6, .long x6), (8, .int x8), (9, .int x9), (10, .int x10), (11, .int rv2)]) X dX6_mixedNotes_106 (by decide) [1, 2, 3, 4, 5, 6, 7, 8, 0] rfl ?_
        refine k9_lload X dX6_mixedNotes_108 4 rfl ?_
        refine k9_iload X dX6_mixedNotes_110 8 rfl ?_
        refine k9_i2l X dX6_mixedNotes_112 ?_
        refine k9_callSl2 X (k3 c1 c2 c3)  (va_cwS 2 X.2.2.2.2.1 gX6_mixedNotes_X6_mixed rfl rfl rfl (by decide +kernel) ⟨Nat.le_of_ble_eq_true rfl, Nat.le_of_ble_eq_true rfl⟩) (Nat.le_of_ble_eq_true rfl) dX6_mixedNotes_113 ⟨Nat.zero_le _, Nat.zero_le _⟩ ?_
        refine k9_lstore (lv' := [(0, .ref (k9_ga G 0)), (3, .int x3), (4, .ref (k9_ga G q4)), (5, .int x5), (6, .long rv3), (8, .int x8), (9, .int x9), (10, .int x10), (11, .int rv2)]) X dX6_mixedNotes_116 (by decide) [1, 2, 3, 4, 0, 5, 6, 7, 8] rfl ?_
        refine k9_iinc (v := x10 + (1 : Int32)) (lv' := [(0, .ref (k9_ga G 0)), (3, .int x3), (4, .ref (k9_ga G q4)), (5, .int x5), (6, .long rv3), (8, .int x8), (9, .int x9), (10, .int (x10 + (1 : Int32))), (11, .int rv2)]) X dX6_mixedNotes_118 (k := 7) rfl (by rfl) (by decide) [1, 2, 3, 4, 5, 6, 7, 0, 8] rfl ?_
        refine k9_goto (tgt := 60) X dX6_mixedNotes_121 (by decide) ?_
        refine k9_sub (lv' := [(0, .ref (k9_ga G 0)), (3, .int x3), (4, .ref (k9_ga G q4)), (5, .int x5), (6, .long rv3), (8, .int x8), (9, .int x9), (10, .int (x10 + (1 : Int32)))]) [0, 1, 2, 3, 4, 5, 6, 7] rfl ?_
        exact (l3 c1 c2 c3)
      · refine k9_aload_n X dX6_mixedNotes_83 rfl 0 rfl ?_
        refine k9_iload X dX6_mixedNotes_84 6 rfl ?_
        refine k9_iload X dX6_mixedNotes_86 5 rfl ?_
        refine k9_iload X dX6_mixedNotes_88 7 rfl ?_
        refine k9_callVi3 X (k4 c1 c2 c3) k9_ob_0 (cwV 3 X.2.2.2.2.1 gX6_mixedNotes_X6_ofTune rfl rfl rfl (by decide +kernel) ⟨Nat.le_of_ble_eq_true rfl, Nat.le_of_ble_eq_true rfl⟩) (Nat.le_of_ble_eq_true rfl) dX6_mixedNotes_90 ⟨Nat.zero_le _, Nat.zero_le _⟩ ?_
        refine k9_goto (tgt := 106) X dX6_mixedNotes_93 (by decide) ?_
        refine k9_istore (lv' := [(0, .ref (k9_ga G 0)), (3, .int x3), (4, .ref (k9_ga G q4)), (5, .int x5), (6, .long x6), (8, .int x8), (9, .int x9), (10, .int x10), (11, .int rv4)]) X dX6_mixedNotes_106 (by decide) [1, 2, 3, 4, 5, 6, 7, 8, 0] rfl ?_
        refine k9_lload X dX6_mixedNotes_108 4 rfl ?_
        refine k9_iload X dX6_mixedNotes_110 8 rfl ?_
        refine k9_i2l X dX6_mixedNotes_112 ?_
        refine k9_callSl2 X (k5 c1 c2 c3)  (va_cwS 2 X.2.2.2.2.1 gX6_mixedNotes_X6_mixed rfl rfl rfl (by decide +kernel) ⟨Nat.le_of_ble_eq_true rfl, Nat.le_of_ble_eq_true rfl⟩) (Nat.le_of_ble_eq_true rfl) dX6_mixedNotes_113 ⟨Nat.zero_le _, Nat.zero_le _⟩ ?_
        refine k9_lstore (lv' := [(0, .ref (k9_ga G 0)), (3, .int x3), (4, .ref (k9_ga G q4)), (5, .int x5), (6, .long rv5), (8, .int x8), (9, .int x9), (10, .int x10), (11, .int rv4)]) X dX6_mixedNotes_116 (by decide) [1, 2, 3, 4, 0, 5, 6, 7, 8] rfl ?_
        refine k9_iinc (v := x10 + (1 : Int32)) (lv' := [(0, .ref (k9_ga G 0)), (3, .int x3), (4, .ref (k9_ga G q4)), (5, .int x5), (6, .long rv5), (8, .int x8), (9, .int x9), (10, .int (x10 + (1 : Int32))), (11, .int rv4)]) X dX6_mixedNotes_118 (k := 7) rfl (by rfl) (by decide) [1, 2, 3, 4, 5, 6, 7, 0, 8] rfl ?_
        refine k9_goto (tgt := 60) X dX6_mixedNotes_121 (by decide) ?_
        refine k9_sub (lv' := [(0, .ref (k9_ga G 0)), (3, .int x3), (4, .ref (k9_ga G q4)), (5, .int x5), (6, .long rv5), (8, .int x8), (9, .int x9), (10, .int (x10 + (1 : Int32)))]) [0, 1, 2, 3, 4, 5, 6, 7] rfl ?_
        exact (l4 c1 c2 c3)

theorem in_X6_mixedBest_X6 : ∀ w ∈ u_ws RX6 TX6 5, w ∈ wsX6_mixedBest := by decide +kernel
theorem fl_X6_mixedBest_40 : Cond.fieldLink RX6 40 (TX6 4).1 (TX6 4).2.1 (TX6 4).2.2.1 ∈ wsX6_mixedBest := by decide +kernel
theorem fl_X6_mixedBest_12 : Cond.fieldLink RX6 12 (TX6 0).1 (TX6 0).2.1 (TX6 0).2.2.1 ∈ wsX6_mixedBest := by decide +kernel
theorem fl_X6_mixedBest_19 : Cond.fieldLink RX6 19 (TX6 1).1 (TX6 1).2.1 (TX6 1).2.2.1 ∈ wsX6_mixedBest := by decide +kernel
theorem in_X6_mixedBest_X5 : ∀ w ∈ u_ws RX5 TX5 4, w ∈ wsX6_mixedBest := by decide +kernel
theorem fl_X6_mixedBest_239 : Cond.fieldLink RX6 239 (TX5 2).1 (TX5 2).2.1 (TX5 2).2.2.1 ∈ wsX6_mixedBest := by decide +kernel
set_option maxRecDepth 20000 in
theorem bk_X6_mixedBest_0 (X : k9_X p R s m args c A G 6 cX6_mixedBest wsX6_mixedBest RX6 rm_X6_mixedBest) {a0 : Int64} {rv1 : Int64} {mv1 : k9_Mem} {rv2 : Int64} {mv2 : k9_Mem} {rv3 : Int64} {mv3 : k9_Mem} {mv4 : k9_Mem} {rv5 : Int64} {rv6 : Int64} {mv6 : k9_Mem} {rv7 : Int64} {mv7 : k9_Mem}
    (k1 : k9_Cl l yX6_mixedBestSteer wsX6_mixedBestSteer rm_X6_mixedBestSteer G M [.ref (k9_ga G 0), .long a0, .int (0 : Int32), .int (95 : Int32)] rv1 mv1)
    (k2 : k9_Cl l yX6_mixedBestSteer wsX6_mixedBestSteer rm_X6_mixedBestSteer G mv1 [.ref (k9_ga G 0), .long rv1, .int (0 : Int32), .int ((48 : Int32) - (1 : Int32))] rv2 mv2)
    (k3 : k9_Cl l yX6_mixedBestSteer wsX6_mixedBestSteer rm_X6_mixedBestSteer G mv2 [.ref (k9_ga G 0), .long rv2, .int (48 : Int32), .int (95 : Int32)] rv3 mv3)
    (k4 : k9_Cv l yX5_findBridge wsX5_findBridge rm_X5_findBridge G mv3 [.ref (k9_ga G 71), .ref (k9_ga G 1), .ref (k9_ga G 57)] mv4)
    (k5 : k9_Cl l yX6_mixed wsX6_mixed rm_X6_mixed G mv4 [.long rv3, .long ((mv4 71 2).toInt64)] rv5 mv4)
    (k6 : k9_Cl l yX6_mixedBestBreak wsX6_mixedBestBreak rm_X6_mixedBestBreak G mv4 [.ref (k9_ga G 0), .long rv5, .int (1 : Int32)] rv6 mv6)
    (k7 : k9_Cl l yX6_mixedBestBreak wsX6_mixedBestBreak rm_X6_mixedBestBreak G mv6 [.ref (k9_ga G 0), .long rv6, .int (-1 : Int32)] rv7 mv7)
    (l1 : k9_U p l e R s m args below meth c Q A G 6 0 0 mv7 82 [] [.long rv7]) : k9_U p l e R s m args below meth c Q A G 6 0 0 M 0 [(0, .ref (k9_ga G 0)), (1, .long a0)] [] := by
  refine k9_bipush (v := 48) X dX6_mixedBest_0 (by decide) ?_
  refine k9_istore_n (lv' := [(0, .ref (k9_ga G 0)), (1, .long a0), (3, .int (48 : Int32))]) X dX6_mixedBest_2 rfl (by decide) [1, 2, 0] rfl ?_
  refine k9_aload_n X dX6_mixedBest_3 rfl 0 rfl ?_
  refine k9_lload_n X dX6_mixedBest_4 rfl 1 rfl ?_
  refine k9_iconst (v := 0) X dX6_mixedBest_5 (by decide) ?_
  refine k9_bipush (v := 95) X dX6_mixedBest_6 (by decide) ?_
  refine k9_callVl3 X k1 k9_ob_0 (cwV 3 X.2.2.2.2.1 gX6_mixedBest_X6_mixedBestSteer rfl rfl rfl (by decide +kernel) ⟨Nat.le_of_ble_eq_true rfl, Nat.le_of_ble_eq_true rfl⟩) (Nat.le_of_ble_eq_true rfl) dX6_mixedBest_8 ⟨Nat.zero_le _, Nat.zero_le _⟩ ?_
  refine k9_lstore (lv' := [(0, .ref (k9_ga G 0)), (1, .long a0), (3, .int (48 : Int32)), (4, .long rv1)]) X dX6_mixedBest_11 (by decide) [1, 2, 3, 0] rfl ?_
  refine k9_aload_n X dX6_mixedBest_13 rfl 0 rfl ?_
  refine k9_lload X dX6_mixedBest_14 3 rfl ?_
  refine k9_iconst (v := 0) X dX6_mixedBest_16 (by decide) ?_
  refine k9_iload_n X dX6_mixedBest_17 rfl 2 rfl ?_
  refine k9_iconst (v := 1) X dX6_mixedBest_18 (by decide) ?_
  refine k9_isub X dX6_mixedBest_19 ?_
  refine k9_callVl3 X k2 k9_ob_0 (cwV 3 X.2.2.2.2.1 gX6_mixedBest_X6_mixedBestSteer rfl rfl rfl (by decide +kernel) ⟨Nat.le_of_ble_eq_true rfl, Nat.le_of_ble_eq_true rfl⟩) (Nat.le_of_ble_eq_true rfl) dX6_mixedBest_20 ⟨Nat.zero_le _, Nat.zero_le _⟩ ?_
  refine k9_lstore (lv' := [(0, .ref (k9_ga G 0)), (1, .long a0), (3, .int (48 : Int32)), (4, .long rv2)]) X dX6_mixedBest_23 (by decide) [1, 2, 3, 0] rfl ?_
  refine k9_aload_n X dX6_mixedBest_25 rfl 0 rfl ?_
  refine k9_lload X dX6_mixedBest_26 3 rfl ?_
  refine k9_iload_n X dX6_mixedBest_28 rfl 2 rfl ?_
  refine k9_bipush (v := 95) X dX6_mixedBest_29 (by decide) ?_
  refine k9_callVl3 X k3 k9_ob_0 (cwV 3 X.2.2.2.2.1 gX6_mixedBest_X6_mixedBestSteer rfl rfl rfl (by decide +kernel) ⟨Nat.le_of_ble_eq_true rfl, Nat.le_of_ble_eq_true rfl⟩) (Nat.le_of_ble_eq_true rfl) dX6_mixedBest_31 ⟨Nat.zero_le _, Nat.zero_le _⟩ ?_
  refine k9_lstore (lv' := [(0, .ref (k9_ga G 0)), (1, .long a0), (3, .int (48 : Int32)), (4, .long rv3)]) X dX6_mixedBest_34 (by decide) [1, 2, 3, 0] rfl ?_
  refine k9_aload_n X dX6_mixedBest_36 rfl 0 rfl ?_
  refine k9_gX6_4 X in_X6_mixedBest_X6 fl_X6_mixedBest_40 dX6_mixedBest_37 ?_
  refine k9_aload_n X dX6_mixedBest_40 rfl 0 rfl ?_
  refine k9_gX6_0 X in_X6_mixedBest_X6 fl_X6_mixedBest_12 dX6_mixedBest_41 ?_
  refine k9_aload_n X dX6_mixedBest_44 rfl 0 rfl ?_
  refine k9_gX6_1 X in_X6_mixedBest_X6 fl_X6_mixedBest_19 dX6_mixedBest_45 ?_
  refine k9_callVv2 X k4 k9_ob_71 (cwV 2 X.2.2.2.2.1 gX6_mixedBest_X5_findBridge rfl rfl rfl (by decide +kernel) ⟨Nat.le_of_ble_eq_true rfl, Nat.le_of_ble_eq_true rfl⟩) (Nat.le_of_ble_eq_true rfl) dX6_mixedBest_48 ⟨Nat.zero_le _, Nat.zero_le _⟩ ?_
  refine k9_lload X dX6_mixedBest_51 3 rfl ?_
  refine k9_aload_n X dX6_mixedBest_53 rfl 0 rfl ?_
  refine k9_gX6_4 X in_X6_mixedBest_X6 fl_X6_mixedBest_40 dX6_mixedBest_54 ?_
  refine k9_gX5_2 X (by rfl) in_X6_mixedBest_X5 fl_X6_mixedBest_239 dX6_mixedBest_57 ?_
  refine k9_i2l X dX6_mixedBest_60 ?_
  refine k9_callSl2 X k5  (va_cwS 2 X.2.2.2.2.1 gX6_mixedBest_X6_mixed rfl rfl rfl (by decide +kernel) ⟨Nat.le_of_ble_eq_true rfl, Nat.le_of_ble_eq_true rfl⟩) (Nat.le_of_ble_eq_true rfl) dX6_mixedBest_61 ⟨Nat.zero_le _, Nat.zero_le _⟩ ?_
  refine k9_lstore (lv' := [(0, .ref (k9_ga G 0)), (1, .long a0), (3, .int (48 : Int32)), (4, .long rv5)]) X dX6_mixedBest_64 (by decide) [1, 2, 3, 0] rfl ?_
  refine k9_aload_n X dX6_mixedBest_66 rfl 0 rfl ?_
  refine k9_lload X dX6_mixedBest_67 3 rfl ?_
  refine k9_iconst (v := 1) X dX6_mixedBest_69 (by decide) ?_
  refine k9_callVl2 X k6 k9_ob_0 (cwV 2 X.2.2.2.2.1 gX6_mixedBest_X6_mixedBestBreak rfl rfl rfl (by decide +kernel) ⟨Nat.le_of_ble_eq_true rfl, Nat.le_of_ble_eq_true rfl⟩) (Nat.le_of_ble_eq_true rfl) dX6_mixedBest_70 ⟨Nat.zero_le _, Nat.zero_le _⟩ ?_
  refine k9_lstore (lv' := [(0, .ref (k9_ga G 0)), (1, .long a0), (3, .int (48 : Int32)), (4, .long rv6)]) X dX6_mixedBest_73 (by decide) [1, 2, 3, 0] rfl ?_
  refine k9_aload_n X dX6_mixedBest_75 rfl 0 rfl ?_
  refine k9_lload X dX6_mixedBest_76 3 rfl ?_
  refine k9_iconst (v := -1) X dX6_mixedBest_78 (by decide) ?_
  refine k9_callVl2 X k7 k9_ob_0 (cwV 2 X.2.2.2.2.1 gX6_mixedBest_X6_mixedBestBreak rfl rfl rfl (by decide +kernel) ⟨Nat.le_of_ble_eq_true rfl, Nat.le_of_ble_eq_true rfl⟩) (Nat.le_of_ble_eq_true rfl) dX6_mixedBest_79 ⟨Nat.zero_le _, Nat.zero_le _⟩ ?_
  refine k9_sub (lv' := []) [] rfl ?_
  exact l1

theorem in_X6_mixedBestSteer_X6 : ∀ w ∈ u_ws RX6 TX6 5, w ∈ wsX6_mixedBestSteer := by decide +kernel
theorem fl_X6_mixedBestSteer_40 : Cond.fieldLink RX6 40 (TX6 4).1 (TX6 4).2.1 (TX6 4).2.2.1 ∈ wsX6_mixedBestSteer := by decide +kernel
theorem fl_X6_mixedBestSteer_12 : Cond.fieldLink RX6 12 (TX6 0).1 (TX6 0).2.1 (TX6 0).2.2.1 ∈ wsX6_mixedBestSteer := by decide +kernel
theorem fl_X6_mixedBestSteer_19 : Cond.fieldLink RX6 19 (TX6 1).1 (TX6 1).2.1 (TX6 1).2.2.1 ∈ wsX6_mixedBestSteer := by decide +kernel
theorem in_X6_mixedBestSteer_X5 : ∀ w ∈ u_ws RX5 TX5 4, w ∈ wsX6_mixedBestSteer := by decide +kernel
theorem fl_X6_mixedBestSteer_239 : Cond.fieldLink RX6 239 (TX5 2).1 (TX5 2).2.1 (TX5 2).2.2.1 ∈ wsX6_mixedBestSteer := by decide +kernel
theorem fl_X6_mixedBestSteer_242 : Cond.fieldLink RX6 242 (TX5 3).1 (TX5 3).2.1 (TX5 3).2.2.1 ∈ wsX6_mixedBestSteer := by decide +kernel
set_option maxRecDepth 20000 in
theorem bk_X6_mixedBestSteer_0 (X : k9_X p R s m args c A G 5 cX6_mixedBestSteer wsX6_mixedBestSteer RX6 rm_X6_mixedBestSteer) {a1 a2 : Int32} {a0 : Int64} {mv1 : k9_Mem} {rv2 : Int64} {rv3 : Int64}
    (k1 : k9_Cv l yX5_findSteer wsX5_findSteer rm_X5_findSteer G M [.ref (k9_ga G 71), .ref (k9_ga G 1), .ref (k9_ga G 57), .int a1, .int a2] mv1)
    (k2 : k9_Cl l yX6_mixed wsX6_mixed rm_X6_mixed G mv1 [.long a0, .long ((mv1 71 2).toInt64)] rv2 mv1)
    (k3 : k9_Cl l yX6_mixed wsX6_mixed rm_X6_mixed G mv1 [.long rv2, .long ((mv1 71 3).toInt64)] rv3 mv1)
    (l1 : k9_U p l e R s m args below meth c Q A G 5 0 0 mv1 41 [] [.long rv3]) : k9_U p l e R s m args below meth c Q A G 5 0 0 M 0 [(0, .ref (k9_ga G 0)), (1, .long a0), (3, .int a1), (4, .int a2)] [] := by
  refine k9_aload_n X dX6_mixedBestSteer_0 rfl 0 rfl ?_
  refine k9_gX6_4 X in_X6_mixedBestSteer_X6 fl_X6_mixedBestSteer_40 dX6_mixedBestSteer_1 ?_
  refine k9_aload_n X dX6_mixedBestSteer_4 rfl 0 rfl ?_
  refine k9_gX6_0 X in_X6_mixedBestSteer_X6 fl_X6_mixedBestSteer_12 dX6_mixedBestSteer_5 ?_
  refine k9_aload_n X dX6_mixedBestSteer_8 rfl 0 rfl ?_
  refine k9_gX6_1 X in_X6_mixedBestSteer_X6 fl_X6_mixedBestSteer_19 dX6_mixedBestSteer_9 ?_
  refine k9_iload_n X dX6_mixedBestSteer_12 rfl 2 rfl ?_
  refine k9_iload X dX6_mixedBestSteer_13 3 rfl ?_
  refine k9_callVv4 X k1 k9_ob_71 (cwV 4 X.2.2.2.2.1 gX6_mixedBestSteer_X5_findSteer rfl rfl rfl (by decide +kernel) ⟨Nat.le_of_ble_eq_true rfl, Nat.le_of_ble_eq_true rfl⟩) (Nat.le_of_ble_eq_true rfl) dX6_mixedBestSteer_15 ⟨Nat.zero_le _, Nat.zero_le _⟩ ?_
  refine k9_lload_n X dX6_mixedBestSteer_18 rfl 1 rfl ?_
  refine k9_aload_n X dX6_mixedBestSteer_19 rfl 0 rfl ?_
  refine k9_gX6_4 X in_X6_mixedBestSteer_X6 fl_X6_mixedBestSteer_40 dX6_mixedBestSteer_20 ?_
  refine k9_gX5_2 X (by rfl) in_X6_mixedBestSteer_X5 fl_X6_mixedBestSteer_239 dX6_mixedBestSteer_23 ?_
  refine k9_i2l X dX6_mixedBestSteer_26 ?_
  refine k9_callSl2 X k2  (va_cwS 2 X.2.2.2.2.1 gX6_mixedBestSteer_X6_mixed rfl rfl rfl (by decide +kernel) ⟨Nat.le_of_ble_eq_true rfl, Nat.le_of_ble_eq_true rfl⟩) (Nat.le_of_ble_eq_true rfl) dX6_mixedBestSteer_27 ⟨Nat.zero_le _, Nat.zero_le _⟩ ?_
  refine k9_aload_n X dX6_mixedBestSteer_30 rfl 0 rfl ?_
  refine k9_gX6_4 X in_X6_mixedBestSteer_X6 fl_X6_mixedBestSteer_40 dX6_mixedBestSteer_31 ?_
  refine k9_gX5_3 X (by rfl) in_X6_mixedBestSteer_X5 fl_X6_mixedBestSteer_242 dX6_mixedBestSteer_34 ?_
  refine k9_i2l X dX6_mixedBestSteer_37 ?_
  refine k9_callSl2 X k3  (va_cwS 2 X.2.2.2.2.1 gX6_mixedBestSteer_X6_mixed rfl rfl rfl (by decide +kernel) ⟨Nat.le_of_ble_eq_true rfl, Nat.le_of_ble_eq_true rfl⟩) (Nat.le_of_ble_eq_true rfl) dX6_mixedBestSteer_38 ⟨Nat.zero_le _, Nat.zero_le _⟩ ?_
  refine k9_sub (lv' := []) [] rfl ?_
  exact l1

theorem in_X6_mixedBestBreak_X6 : ∀ w ∈ u_ws RX6 TX6 5, w ∈ wsX6_mixedBestBreak := by decide +kernel
theorem fl_X6_mixedBestBreak_40 : Cond.fieldLink RX6 40 (TX6 4).1 (TX6 4).2.1 (TX6 4).2.2.1 ∈ wsX6_mixedBestBreak := by decide +kernel
theorem fl_X6_mixedBestBreak_12 : Cond.fieldLink RX6 12 (TX6 0).1 (TX6 0).2.1 (TX6 0).2.2.1 ∈ wsX6_mixedBestBreak := by decide +kernel
theorem fl_X6_mixedBestBreak_19 : Cond.fieldLink RX6 19 (TX6 1).1 (TX6 1).2.1 (TX6 1).2.2.1 ∈ wsX6_mixedBestBreak := by decide +kernel
theorem in_X6_mixedBestBreak_X5 : ∀ w ∈ u_ws RX5 TX5 4, w ∈ wsX6_mixedBestBreak := by decide +kernel
theorem fl_X6_mixedBestBreak_239 : Cond.fieldLink RX6 239 (TX5 2).1 (TX5 2).2.1 (TX5 2).2.2.1 ∈ wsX6_mixedBestBreak := by decide +kernel
theorem fl_X6_mixedBestBreak_242 : Cond.fieldLink RX6 242 (TX5 3).1 (TX5 3).2.1 (TX5 3).2.2.1 ∈ wsX6_mixedBestBreak := by decide +kernel
set_option maxRecDepth 20000 in
theorem bk_X6_mixedBestBreak_0 (X : k9_X p R s m args c A G 4 cX6_mixedBestBreak wsX6_mixedBestBreak RX6 rm_X6_mixedBestBreak) {a1 : Int32} {a0 : Int64} {mv1 : k9_Mem} {rv2 : Int64} {rv3 : Int64}
    (k1 : k9_Cv l yX5_findBreak wsX5_findBreak rm_X5_findBreak G M [.ref (k9_ga G 71), .ref (k9_ga G 1), .ref (k9_ga G 57), .int a1] mv1)
    (k2 : k9_Cl l yX6_mixed wsX6_mixed rm_X6_mixed G mv1 [.long a0, .long ((mv1 71 2).toInt64)] rv2 mv1)
    (k3 : k9_Cl l yX6_mixed wsX6_mixed rm_X6_mixed G mv1 [.long rv2, .long ((mv1 71 3).toInt64)] rv3 mv1)
    (l1 : k9_U p l e R s m args below meth c Q A G 4 0 0 mv1 39 [] [.long rv3]) : k9_U p l e R s m args below meth c Q A G 4 0 0 M 0 [(0, .ref (k9_ga G 0)), (1, .long a0), (3, .int a1)] [] := by
  refine k9_aload_n X dX6_mixedBestBreak_0 rfl 0 rfl ?_
  refine k9_gX6_4 X in_X6_mixedBestBreak_X6 fl_X6_mixedBestBreak_40 dX6_mixedBestBreak_1 ?_
  refine k9_aload_n X dX6_mixedBestBreak_4 rfl 0 rfl ?_
  refine k9_gX6_0 X in_X6_mixedBestBreak_X6 fl_X6_mixedBestBreak_12 dX6_mixedBestBreak_5 ?_
  refine k9_aload_n X dX6_mixedBestBreak_8 rfl 0 rfl ?_
  refine k9_gX6_1 X in_X6_mixedBestBreak_X6 fl_X6_mixedBestBreak_19 dX6_mixedBestBreak_9 ?_
  refine k9_iload_n X dX6_mixedBestBreak_12 rfl 2 rfl ?_
  refine k9_callVv3 X k1 k9_ob_71 (cwV 3 X.2.2.2.2.1 gX6_mixedBestBreak_X5_findBreak rfl rfl rfl (by decide +kernel) ⟨Nat.le_of_ble_eq_true rfl, Nat.le_of_ble_eq_true rfl⟩) (Nat.le_of_ble_eq_true rfl) dX6_mixedBestBreak_13 ⟨Nat.zero_le _, Nat.zero_le _⟩ ?_
  refine k9_lload_n X dX6_mixedBestBreak_16 rfl 1 rfl ?_
  refine k9_aload_n X dX6_mixedBestBreak_17 rfl 0 rfl ?_
  refine k9_gX6_4 X in_X6_mixedBestBreak_X6 fl_X6_mixedBestBreak_40 dX6_mixedBestBreak_18 ?_
  refine k9_gX5_2 X (by rfl) in_X6_mixedBestBreak_X5 fl_X6_mixedBestBreak_239 dX6_mixedBestBreak_21 ?_
  refine k9_i2l X dX6_mixedBestBreak_24 ?_
  refine k9_callSl2 X k2  (va_cwS 2 X.2.2.2.2.1 gX6_mixedBestBreak_X6_mixed rfl rfl rfl (by decide +kernel) ⟨Nat.le_of_ble_eq_true rfl, Nat.le_of_ble_eq_true rfl⟩) (Nat.le_of_ble_eq_true rfl) dX6_mixedBestBreak_25 ⟨Nat.zero_le _, Nat.zero_le _⟩ ?_
  refine k9_aload_n X dX6_mixedBestBreak_28 rfl 0 rfl ?_
  refine k9_gX6_4 X in_X6_mixedBestBreak_X6 fl_X6_mixedBestBreak_40 dX6_mixedBestBreak_29 ?_
  refine k9_gX5_3 X (by rfl) in_X6_mixedBestBreak_X5 fl_X6_mixedBestBreak_242 dX6_mixedBestBreak_32 ?_
  refine k9_i2l X dX6_mixedBestBreak_35 ?_
  refine k9_callSl2 X k3  (va_cwS 2 X.2.2.2.2.1 gX6_mixedBestBreak_X6_mixed rfl rfl rfl (by decide +kernel) ⟨Nat.le_of_ble_eq_true rfl, Nat.le_of_ble_eq_true rfl⟩) (Nat.le_of_ble_eq_true rfl) dX6_mixedBestBreak_36 ⟨Nat.zero_le _, Nat.zero_le _⟩ ?_
  refine k9_sub (lv' := []) [] rfl ?_
  exact l1

theorem co_X6_bitsOfShare_297 : Cond.constantLong RX6 297 (1023) ∈ wsX6_bitsOfShare := by decide +kernel
theorem co_X6_bitsOfShare_301 : Cond.constantDouble RX6 301 (4841369599423283200) ∈ wsX6_bitsOfShare := by decide +kernel
theorem co_X6_bitsOfShare_299 : Cond.constantDouble RX6 299 (4611686018427387904) ∈ wsX6_bitsOfShare := by decide +kernel
set_option maxRecDepth 20000 in
theorem bk_X6_bitsOfShare_0 (X : k9_X p R s m args c A G 7 cX6_bitsOfShare wsX6_bitsOfShare RX6 rm_X6_bitsOfShare) {a0 : UInt64}
    (l1 : (0 < (Op.cmpValue (FP.dcmp a0 FP.dconst0) .l)) → k9_U p l e R s m args below meth c Q A G 7 0 0 M 18 [(2, .double a0), (4, .long (1023 : Int64)), (6, .int (0 : Int32))] [])
    (l2 : (¬ (0 < (Op.cmpValue (FP.dcmp a0 FP.dconst0) .l))) → k9_U p l e R s m args below meth c Q A G 7 0 0 M 7 [] [.long (0 : Int64)]) : k9_U p l e R s m args below meth c Q A G 7 0 0 M 0 [(0, .double a0)] [] := by
  refine k9_dload_n X dX6_bitsOfShare_0 rfl 0 rfl ?_
  refine k9_dconst0 X dX6_bitsOfShare_1 ?_
  refine k9_dcmp X dX6_bitsOfShare_2 ?_
  refine k9_if_gt (tgt := 8) X dX6_bitsOfShare_3 (by decide) (fun c1 => ?_) (fun c1 => ?_)
  · refine k9_dload_n X dX6_bitsOfShare_8 rfl 0 rfl ?_
    refine k9_dstore_n (lv' := [(0, .double a0), (2, .double a0)]) X dX6_bitsOfShare_9 rfl (by decide) [1, 0] rfl ?_
    refine k9_ldc2 X co_X6_bitsOfShare_297 dX6_bitsOfShare_10 ?_
    refine k9_lstore (lv' := [(0, .double a0), (2, .double a0), (4, .long (1023 : Int64))]) X dX6_bitsOfShare_13 (by decide) [1, 2, 0] rfl ?_
    refine k9_iconst (v := 0) X dX6_bitsOfShare_15 (by decide) ?_
    refine k9_istore (lv' := [(0, .double a0), (2, .double a0), (4, .long (1023 : Int64)), (6, .int (0 : Int32))]) X dX6_bitsOfShare_16 (by decide) [1, 2, 3, 0] rfl ?_
    refine k9_sub (lv' := [(2, .double a0), (4, .long (1023 : Int64)), (6, .int (0 : Int32))]) [1, 2, 3] rfl ?_
    exact (l1 c1)
  · refine k9_lconst (v := 0) X dX6_bitsOfShare_6 (by decide) ?_
    refine k9_sub (lv' := []) [] rfl ?_
    exact (l2 c1)

set_option maxRecDepth 20000 in
theorem bk_X6_bitsOfShare_18 (X : k9_X p R s m args c A G 7 cX6_bitsOfShare wsX6_bitsOfShare RX6 rm_X6_bitsOfShare) {x6 : Int32} {x4 : Int64} {x2 : UInt64}
    (o1 : ((1022 : Int32) ≤ x6) → vf_n64 (FP.dsub x2 FP.dconst1))
    (o2 : ((1022 : Int32) ≤ x6) → vf_n64 (FP.dmul (FP.dsub x2 FP.dconst1) (4841369599423283200 : UInt64)))
    (l1 : ((1022 : Int32) ≤ x6) → k9_U p l e R s m args below meth c Q A G 7 0 0 M 64 [] [.long ((x4 <<< ((52 : Int32).toInt64 &&& 63)) + (FP.d2l (FP.dmul (FP.dsub x2 FP.dconst1) (4841369599423283200 : UInt64))))])
    (o3 : (¬ ((1022 : Int32) ≤ x6)) → (0 ≤ (Op.cmpValue (FP.dcmp x2 FP.dconst1) .g)) → vf_n64 (FP.dsub x2 FP.dconst1))
    (o4 : (¬ ((1022 : Int32) ≤ x6)) → (0 ≤ (Op.cmpValue (FP.dcmp x2 FP.dconst1) .g)) → vf_n64 (FP.dmul (FP.dsub x2 FP.dconst1) (4841369599423283200 : UInt64)))
    (l2 : (¬ ((1022 : Int32) ≤ x6)) → (0 ≤ (Op.cmpValue (FP.dcmp x2 FP.dconst1) .g)) → k9_U p l e R s m args below meth c Q A G 7 0 0 M 64 [] [.long ((x4 <<< ((52 : Int32).toInt64 &&& 63)) + (FP.d2l (FP.dmul (FP.dsub x2 FP.dconst1) (4841369599423283200 : UInt64))))])
    (o5 : (¬ ((1022 : Int32) ≤ x6)) → (¬ (0 ≤ (Op.cmpValue (FP.dcmp x2 FP.dconst1) .g))) → vf_n64 (FP.dmul x2 (4611686018427387904 : UInt64)))
    (l3 : (¬ ((1022 : Int32) ≤ x6)) → (¬ (0 ≤ (Op.cmpValue (FP.dcmp x2 FP.dconst1) .g))) → k9_U p l e R s m args below meth c Q A G 7 0 0 M 18 [(2, .double (FP.dmul x2 (4611686018427387904 : UInt64))), (4, .long (x4 - (1 : Int64))), (6, .int (x6 + (1 : Int32)))] []) : k9_U p l e R s m args below meth c Q A G 7 0 0 M 18 [(2, .double x2), (4, .long x4), (6, .int x6)] [] := by
  refine k9_iload X dX6_bitsOfShare_18 2 rfl ?_
  refine k9_sipush (v := 1022) X dX6_bitsOfShare_20 (by decide) ?_
  refine k9_icmp_ge (tgt := 50) X dX6_bitsOfShare_23 (by decide) (fun c1 => ?_) (fun c1 => ?_)
  · refine k9_lload X dX6_bitsOfShare_50 1 rfl ?_
    refine k9_bipush (v := 52) X dX6_bitsOfShare_52 (by decide) ?_
    refine k9_lshl X dX6_bitsOfShare_54 ?_
    refine k9_dload_n X dX6_bitsOfShare_55 rfl 0 rfl ?_
    refine k9_dconst1 X dX6_bitsOfShare_56 ?_
    refine k9_dsub X dX6_bitsOfShare_57 (o1 c1) ?_
    refine k9_ldc2d X co_X6_bitsOfShare_301 dX6_bitsOfShare_58 ?_
    refine k9_dmul X dX6_bitsOfShare_61 (o2 c1) ?_
    refine k9_d2l X dX6_bitsOfShare_62 ?_
    refine k9_ladd X dX6_bitsOfShare_63 ?_
    refine k9_sub (lv' := []) [] rfl ?_
    exact (l1 c1)
  · refine k9_dload_n X dX6_bitsOfShare_26 rfl 0 rfl ?_
    refine k9_dconst1 X dX6_bitsOfShare_27 ?_
    refine k9_dcmp X dX6_bitsOfShare_28 ?_
    refine k9_if_ge (tgt := 50) X dX6_bitsOfShare_29 (by decide) (fun c2 => ?_) (fun c2 => ?_)
    · refine k9_lload X dX6_bitsOfShare_50 1 rfl ?_
      refine k9_bipush (v := 52) X dX6_bitsOfShare_52 (by decide) ?_
      refine k9_lshl X dX6_bitsOfShare_54 ?_
      refine k9_dload_n X dX6_bitsOfShare_55 rfl 0 rfl ?_
      refine k9_dconst1 X dX6_bitsOfShare_56 ?_
      refine k9_dsub X dX6_bitsOfShare_57 (o3 c1 c2) ?_
      refine k9_ldc2d X co_X6_bitsOfShare_301 dX6_bitsOfShare_58 ?_
      refine k9_dmul X dX6_bitsOfShare_61 (o4 c1 c2) ?_
      refine k9_d2l X dX6_bitsOfShare_62 ?_
      refine k9_ladd X dX6_bitsOfShare_63 ?_
      refine k9_sub (lv' := []) [] rfl ?_
      exact (l2 c1 c2)
    · refine k9_dload_n X dX6_bitsOfShare_32 rfl 0 rfl ?_
      refine k9_ldc2d X co_X6_bitsOfShare_299 dX6_bitsOfShare_33 ?_
      refine k9_dmul X dX6_bitsOfShare_36 (o5 c1 c2) ?_
      refine k9_dstore_n (lv' := [(2, .double (FP.dmul x2 (4611686018427387904 : UInt64))), (4, .long x4), (6, .int x6)]) X dX6_bitsOfShare_37 rfl (by decide) [0, 1, 2] rfl ?_
      refine k9_lload X dX6_bitsOfShare_38 1 rfl ?_
      refine k9_lconst (v := 1) X dX6_bitsOfShare_40 (by decide) ?_
      refine k9_lsub X dX6_bitsOfShare_41 ?_
      refine k9_lstore (lv' := [(2, .double (FP.dmul x2 (4611686018427387904 : UInt64))), (4, .long (x4 - (1 : Int64))), (6, .int x6)]) X dX6_bitsOfShare_42 (by decide) [1, 0, 2] rfl ?_
      refine k9_iinc (v := x6 + (1 : Int32)) (lv' := [(2, .double (FP.dmul x2 (4611686018427387904 : UInt64))), (4, .long (x4 - (1 : Int64))), (6, .int (x6 + (1 : Int32)))]) X dX6_bitsOfShare_44 (k := 2) rfl (by rfl) (by decide) [1, 2, 0] rfl ?_
      refine k9_goto (tgt := 18) X dX6_bitsOfShare_47 (by decide) ?_
      exact (l3 c1 c2)

theorem in_X6_settingOf_X6 : ∀ w ∈ u_ws RX6 TX6 5, w ∈ wsX6_settingOf := by decide +kernel
theorem fl_X6_settingOf_12 : Cond.fieldLink RX6 12 (TX6 0).1 (TX6 0).2.1 (TX6 0).2.2.1 ∈ wsX6_settingOf := by decide +kernel
theorem in_X6_settingOf_X3 : ∀ w ∈ u_ws RX3 TX3 7, w ∈ wsX6_settingOf := by decide +kernel
theorem fl_X6_settingOf_136 : Cond.fieldLink RX6 136 (TX3 6).1 (TX3 6).2.1 (TX3 6).2.2.1 ∈ wsX6_settingOf := by decide +kernel
theorem fl_X6_settingOf_132 : Cond.fieldLink RX6 132 (TX3 5).1 (TX3 5).2.1 (TX3 5).2.2.1 ∈ wsX6_settingOf := by decide +kernel
set_option maxRecDepth 20000 in
theorem bk_X6_settingOf_0 (X : k9_X p R s m args c A G 2 cX6_settingOf wsX6_settingOf RX6 rm_X6_settingOf) {a0 : Int32}
    (l1 : (¬ a0 = 0) → k9_U p l e R s m args below meth c Q A G 2 0 0 M 21 [] [.int (M 1 6)])
    (l2 : (a0 = 0) → k9_U p l e R s m args below meth c Q A G 2 0 0 M 21 [] [.int (M 1 5)]) : k9_U p l e R s m args below meth c Q A G 2 0 0 M 0 [(0, .ref (k9_ga G 0)), (1, .int a0)] [] := by
  refine k9_iload_n X dX6_settingOf_0 rfl 1 rfl ?_
  refine k9_if_ne (tgt := 14) X dX6_settingOf_1 (by decide) (fun c1 => ?_) (fun c1 => ?_)
  · refine k9_aload_n X dX6_settingOf_14 rfl 0 rfl ?_
    refine k9_gX6_0 X in_X6_settingOf_X6 fl_X6_settingOf_12 dX6_settingOf_15 ?_
    refine k9_gX3_6 (q := 1) X (by decide) (by rfl) in_X6_settingOf_X3 fl_X6_settingOf_136 dX6_settingOf_18 ?_
    refine k9_sub (lv' := []) [] rfl ?_
    exact (l1 c1)
  · refine k9_aload_n X dX6_settingOf_4 rfl 0 rfl ?_
    refine k9_gX6_0 X in_X6_settingOf_X6 fl_X6_settingOf_12 dX6_settingOf_5 ?_
    refine k9_gX3_5 (q := 1) X (by decide) (by rfl) in_X6_settingOf_X3 fl_X6_settingOf_132 dX6_settingOf_8 ?_
    refine k9_goto (tgt := 21) X dX6_settingOf_11 (by decide) ?_
    refine k9_sub (lv' := []) [] rfl ?_
    exact (l2 c1)

theorem in_X6_rightNotes_X6 : ∀ w ∈ u_ws RX6 TX6 5, w ∈ wsX6_rightNotes := by decide +kernel
theorem fl_X6_rightNotes_19 : Cond.fieldLink RX6 19 (TX6 1).1 (TX6 1).2.1 (TX6 1).2.2.1 ∈ wsX6_rightNotes := by decide +kernel
theorem in_X6_rightNotes_X1 : ∀ w ∈ u_ws RX1 TX1 4, w ∈ wsX6_rightNotes := by decide +kernel
theorem fl_X6_rightNotes_143 : Cond.fieldLink RX6 143 (TX1 1).1 (TX1 1).2.1 (TX1 1).2.2.1 ∈ wsX6_rightNotes := by decide +kernel
theorem fl_X6_rightNotes_12 : Cond.fieldLink RX6 12 (TX6 0).1 (TX6 0).2.1 (TX6 0).2.2.1 ∈ wsX6_rightNotes := by decide +kernel
theorem in_X6_rightNotes_X3 : ∀ w ∈ u_ws RX3 TX3 7, w ∈ wsX6_rightNotes := by decide +kernel
theorem fl_X6_rightNotes_139 : Cond.fieldLink RX6 139 (TX3 4).1 (TX3 4).2.1 (TX3 4).2.2.1 ∈ wsX6_rightNotes := by decide +kernel
set_option maxRecDepth 20000 in
theorem bk_X6_rightNotes_0 (X : k9_X p R s m args c A G 1 cX6_rightNotes wsX6_rightNotes RX6 rm_X6_rightNotes) {rv1 : Int32}
    (k1 : k9_Ci l yX0_sameNotes wsX0_sameNotes rm_X0_sameNotes G M [.ref (k9_ga G 59), .ref (k9_ga G 6)] rv1 M)
    (l1 : k9_U p l e R s m args below meth c Q A G 1 0 0 M 17 [] [.int rv1]) : k9_U p l e R s m args below meth c Q A G 1 0 0 M 0 [(0, .ref (k9_ga G 0))] [] := by
  refine k9_aload_n X dX6_rightNotes_0 rfl 0 rfl ?_
  refine k9_gX6_1 X in_X6_rightNotes_X6 fl_X6_rightNotes_19 dX6_rightNotes_1 ?_
  refine k9_gX1_1 X in_X6_rightNotes_X1 fl_X6_rightNotes_143 dX6_rightNotes_4 ?_
  refine k9_aload_n X dX6_rightNotes_7 rfl 0 rfl ?_
  refine k9_gX6_0 X in_X6_rightNotes_X6 fl_X6_rightNotes_12 dX6_rightNotes_8 ?_
  refine k9_gX3_4 (q := 1) (q1 := 6) X (by decide) (by rfl) in_X6_rightNotes_X3 fl_X6_rightNotes_139 dX6_rightNotes_11 ?_
  refine k9_callVi1 X k1 (k9_ob_C (by decide)) (cwV 1 X.2.2.2.2.1 gX6_rightNotes_X0_sameNotes rfl rfl rfl (by decide +kernel) ⟨Nat.le_of_ble_eq_true rfl, Nat.le_of_ble_eq_true rfl⟩) (Nat.le_of_ble_eq_true rfl) dX6_rightNotes_14 ⟨Nat.zero_le _, Nat.zero_le _⟩ ?_
  refine k9_sub (lv' := []) [] rfl ?_
  exact l1

theorem in_X6_rightShare_X6 : ∀ w ∈ u_ws RX6 TX6 5, w ∈ wsX6_rightShare := by decide +kernel
theorem fl_X6_rightShare_12 : Cond.fieldLink RX6 12 (TX6 0).1 (TX6 0).2.1 (TX6 0).2.2.1 ∈ wsX6_rightShare := by decide +kernel
theorem in_X6_rightShare_X3 : ∀ w ∈ u_ws RX3 TX3 7, w ∈ wsX6_rightShare := by decide +kernel
theorem fl_X6_rightShare_139 : Cond.fieldLink RX6 139 (TX3 4).1 (TX3 4).2.1 (TX3 4).2.2.1 ∈ wsX6_rightShare := by decide +kernel
set_option maxRecDepth 20000 in
theorem bk_X6_rightShare_0 (X : k9_X p R s m args c A G 2 cX6_rightShare wsX6_rightShare RX6 rm_X6_rightShare) {rv1 : Int32} {rv2 : Int32}
    (k1 : k9_Ci l yX0_noteCount wsX0_noteCount rm_X0_noteCount G M [.ref (k9_ga G 6)] rv1 M)
    (k2 : (¬ rv1 = 0) → k9_Ci l yX6_rightNotes wsX6_rightNotes rm_X6_rightNotes G M [.ref (k9_ga G 0)] rv2 M)
    (o1 : (¬ rv1 = 0) → vf_n64 (FP.ddiv (FP.i2d rv2) (FP.i2d rv1)))
    (l1 : (¬ rv1 = 0) → k9_U p l e R s m args below meth c Q A G 2 0 0 M 27 [] [.double (FP.ddiv (FP.i2d rv2) (FP.i2d rv1))])
    (l2 : (rv1 = 0) → k9_U p l e R s m args below meth c Q A G 2 0 0 M 27 [] [.double FP.dconst0]) : k9_U p l e R s m args below meth c Q A G 2 0 0 M 0 [(0, .ref (k9_ga G 0))] [] := by
  refine k9_aload_n X dX6_rightShare_0 rfl 0 rfl ?_
  refine k9_gX6_0 X in_X6_rightShare_X6 fl_X6_rightShare_12 dX6_rightShare_1 ?_
  refine k9_gX3_4 (q := 1) (q1 := 6) X (by decide) (by rfl) in_X6_rightShare_X3 fl_X6_rightShare_139 dX6_rightShare_4 ?_
  refine k9_callVi0 X k1 (k9_ob_C (by decide)) (cwV 0 X.2.2.2.2.1 gX6_rightShare_X0_noteCount rfl rfl rfl (by decide +kernel) ⟨Nat.le_of_ble_eq_true rfl, Nat.le_of_ble_eq_true rfl⟩) (Nat.le_of_ble_eq_true rfl) dX6_rightShare_7 ⟨Nat.zero_le _, Nat.zero_le _⟩ ?_
  refine k9_istore_n (lv' := [(0, .ref (k9_ga G 0)), (1, .int rv1)]) X dX6_rightShare_10 rfl (by decide) [1, 0] rfl ?_
  refine k9_iload_n X dX6_rightShare_11 rfl 1 rfl ?_
  refine k9_if_ne (tgt := 19) X dX6_rightShare_12 (by decide) (fun c1 => ?_) (fun c1 => ?_)
  · refine k9_aload_n X dX6_rightShare_19 rfl 0 rfl ?_
    refine k9_callVi0 X (k2 c1) k9_ob_0 (cwV 0 X.2.2.2.2.1 gX6_rightShare_X6_rightNotes rfl rfl rfl (by decide +kernel) ⟨Nat.le_of_ble_eq_true rfl, Nat.le_of_ble_eq_true rfl⟩) (Nat.le_of_ble_eq_true rfl) dX6_rightShare_20 ⟨Nat.zero_le _, Nat.zero_le _⟩ ?_
    refine k9_i2d X dX6_rightShare_23 ?_
    refine k9_iload_n X dX6_rightShare_24 rfl 1 rfl ?_
    refine k9_i2d X dX6_rightShare_25 ?_
    refine k9_ddiv X dX6_rightShare_26 (o1 c1) ?_
    refine k9_sub (lv' := []) [] rfl ?_
    exact (l1 c1)
  · refine k9_dconst0 X dX6_rightShare_15 ?_
    refine k9_goto (tgt := 27) X dX6_rightShare_16 (by decide) ?_
    refine k9_sub (lv' := []) [] rfl ?_
    exact (l2 c1)

theorem in_X6_ofStep_X6 : ∀ w ∈ u_ws RX6 TX6 5, w ∈ wsX6_ofStep := by decide +kernel
theorem fl_X6_ofStep_12 : Cond.fieldLink RX6 12 (TX6 0).1 (TX6 0).2.1 (TX6 0).2.2.1 ∈ wsX6_ofStep := by decide +kernel
theorem in_X6_ofStep_X3 : ∀ w ∈ u_ws RX3 TX3 7, w ∈ wsX6_ofStep := by decide +kernel
theorem fl_X6_ofStep_206 : Cond.fieldLink RX6 206 (TX3 2).1 (TX3 2).2.1 (TX3 2).2.2.1 ∈ wsX6_ofStep := by decide +kernel
theorem fl_X6_ofStep_209 : Cond.fieldLink RX6 209 (TX3 3).1 (TX3 3).2.1 (TX3 3).2.2.1 ∈ wsX6_ofStep := by decide +kernel
theorem fl_X6_ofStep_19 : Cond.fieldLink RX6 19 (TX6 1).1 (TX6 1).2.1 (TX6 1).2.2.1 ∈ wsX6_ofStep := by decide +kernel
theorem in_X6_ofStep_X1 : ∀ w ∈ u_ws RX1 TX1 4, w ∈ wsX6_ofStep := by decide +kernel
theorem fl_X6_ofStep_307 : Cond.fieldLink RX6 307 (TX1 2).1 (TX1 2).2.1 (TX1 2).2.2.1 ∈ wsX6_ofStep := by decide +kernel
theorem co_X6_ofStep_310 : Cond.constant RX6 310 (2097150) ∈ wsX6_ofStep := by decide +kernel
theorem fl_X6_ofStep_311 : Cond.fieldLink RX6 311 (TX1 3).1 (TX1 3).2.1 (TX1 3).2.2.1 ∈ wsX6_ofStep := by decide +kernel
theorem fl_X6_ofStep_136 : Cond.fieldLink RX6 136 (TX3 6).1 (TX3 6).2.1 (TX3 6).2.2.1 ∈ wsX6_ofStep := by decide +kernel
set_option maxRecDepth 20000 in
theorem bk_X6_ofStep_0 (X : k9_X p R s m args c A G 3 cX6_ofStep wsX6_ofStep RX6 rm_X6_ofStep) {a0 a1 : Int32} {rv1 : Int32} {rv2 : Int32} {rv3 : Int32}
    (k1 : k9_Ci l yX6_isStep wsX6_isStep rm_X6_isStep G M [.int a0] rv1 M)
    (o1 : (¬ rv1 = 0) → (a1 = (0 : Int32)) → vp_in a0 96)
    (l1 : (¬ rv1 = 0) → (a1 = (0 : Int32)) → k9_U p l e R s m args below meth c Q A G 3 0 0 M 57 [] [.int (M 4 a0.toNatClampNeg)])
    (o2 : (¬ rv1 = 0) → (a1 = (1 : Int32)) → vp_in a0 96)
    (l2 : (¬ rv1 = 0) → (a1 = (1 : Int32)) → k9_U p l e R s m args below meth c Q A G 3 0 0 M 67 [] [.int (M 5 a0.toNatClampNeg)])
    (o3 : (¬ rv1 = 0) → (a1 = (2 : Int32)) → vp_in a0 96)
    (l3 : (¬ rv1 = 0) → (a1 = (2 : Int32)) → k9_U p l e R s m args below meth c Q A G 3 0 0 M 83 [] [.int (((M 62 a0.toNatClampNeg) &&& (2097150 : Int32)) >>> ((1 : Int32) &&& 31))])
    (o4 : (¬ rv1 = 0) → (a1 = (3 : Int32)) → vp_in a0 96)
    (l4 : (¬ rv1 = 0) → (a1 = (3 : Int32)) → k9_U p l e R s m args below meth c Q A G 3 0 0 M 99 [] [.int (((M 63 a0.toNatClampNeg) &&& (2097150 : Int32)) >>> ((1 : Int32) &&& 31))])
    (o5 : (¬ rv1 = 0) → (a1 = (4 : Int32)) → vp_in a0 96)
    (l5 : (¬ rv1 = 0) → (a1 = (4 : Int32)) → k9_U p l e R s m args below meth c Q A G 3 0 0 M 111 [] [.int ((M 62 a0.toNatClampNeg) &&& (1 : Int32))])
    (k2 : (¬ rv1 = 0) → (a1 = (5 : Int32)) → k9_Ci l yX1_isPedalWished wsX1_isPedalWished rm_X1_isPedalWished G M [.ref (k9_ga G 57), .int a0, .int (M 1 6)] rv2 M)
    (l6 : (¬ rv1 = 0) → (a1 = (5 : Int32)) → (rv2 = 0) → k9_U p l e R s m args below meth c Q A G 3 0 0 M 135 [] [.int (0 : Int32)])
    (l7 : (¬ rv1 = 0) → (a1 = (5 : Int32)) → (¬ (rv2 = 0)) → k9_U p l e R s m args below meth c Q A G 3 0 0 M 135 [] [.int (1 : Int32)])
    (k3 : (¬ rv1 = 0) → (¬ a1 = (0 : Int32)) → (¬ a1 = (1 : Int32)) → (¬ a1 = (2 : Int32)) → (¬ a1 = (3 : Int32)) → (¬ a1 = (4 : Int32)) → (¬ a1 = (5 : Int32)) → k9_Ci l yX3_openAt wsX3_openAt rm_X3_openAt G M [.ref (k9_ga G 1), .int a0] rv3 M)
    (l8 : (¬ rv1 = 0) → (¬ a1 = (0 : Int32)) → (¬ a1 = (1 : Int32)) → (¬ a1 = (2 : Int32)) → (¬ a1 = (3 : Int32)) → (¬ a1 = (4 : Int32)) → (¬ a1 = (5 : Int32)) → k9_U p l e R s m args below meth c Q A G 3 0 0 M 144 [] [.int rv3])
    (l9 : (rv1 = 0) → k9_U p l e R s m args below meth c Q A G 3 0 0 M 8 [] [.int (-1 : Int32)]) : k9_U p l e R s m args below meth c Q A G 3 0 0 M 0 [(0, .ref (k9_ga G 0)), (1, .int a0), (2, .int a1)] [] := by
  refine k9_iload_n X dX6_ofStep_0 rfl 1 rfl ?_
  refine k9_callSi1 X k1  (va_cwS 1 X.2.2.2.2.1 gX6_ofStep_X6_isStep rfl rfl rfl (by decide +kernel) ⟨Nat.le_of_ble_eq_true rfl, Nat.le_of_ble_eq_true rfl⟩) (Nat.le_of_ble_eq_true rfl) dX6_ofStep_1 ⟨Nat.zero_le _, Nat.zero_le _⟩ ?_
  refine k9_if_ne (tgt := 9) X dX6_ofStep_4 (by decide) (fun c1 => ?_) (fun c1 => ?_)
  · refine k9_iload_n X dX6_ofStep_9 rfl 2 rfl ?_
    rcases Classical.em (a1 = (0 : Int32)) with c2 | c2
    · refine k9_tswIn (tgt := 48) X dX6_ofStep_10 (0 : Int32) c2 (by decide) (by decide) (by rfl) (by decide) ?_
      refine k9_aload_n X dX6_ofStep_48 rfl 0 rfl ?_
      refine k9_gX6_0 X in_X6_ofStep_X6 fl_X6_ofStep_12 dX6_ofStep_49 ?_
      refine k9_gX3_2 (q := 1) (q1 := 4) X (by decide) (by rfl) in_X6_ofStep_X3 fl_X6_ofStep_206 dX6_ofStep_52 ?_
      refine k9_iload_n X dX6_ofStep_55 rfl 1 rfl ?_
      refine k9_iald X (by decide) (o1 c1 c2) (by rfl) dX6_ofStep_56 ?_
      refine k9_sub (lv' := []) [] rfl ?_
      exact (l1 c1 c2)
    rcases Classical.em (a1 = (1 : Int32)) with c3 | c3
    · refine k9_tswIn (tgt := 58) X dX6_ofStep_10 (1 : Int32) c3 (by decide) (by decide) (by rfl) (by decide) ?_
      refine k9_aload_n X dX6_ofStep_58 rfl 0 rfl ?_
      refine k9_gX6_0 X in_X6_ofStep_X6 fl_X6_ofStep_12 dX6_ofStep_59 ?_
      refine k9_gX3_3 (q := 1) (q1 := 5) X (by decide) (by rfl) in_X6_ofStep_X3 fl_X6_ofStep_209 dX6_ofStep_62 ?_
      refine k9_iload_n X dX6_ofStep_65 rfl 1 rfl ?_
      refine k9_iald X (by decide) (o2 c1 c3) (by rfl) dX6_ofStep_66 ?_
      refine k9_sub (lv' := []) [] rfl ?_
      exact (l2 c1 c3)
    rcases Classical.em (a1 = (2 : Int32)) with c4 | c4
    · refine k9_tswIn (tgt := 68) X dX6_ofStep_10 (2 : Int32) c4 (by decide) (by decide) (by rfl) (by decide) ?_
      refine k9_aload_n X dX6_ofStep_68 rfl 0 rfl ?_
      refine k9_gX6_1 X in_X6_ofStep_X6 fl_X6_ofStep_19 dX6_ofStep_69 ?_
      refine k9_gX1_2 X in_X6_ofStep_X1 fl_X6_ofStep_307 dX6_ofStep_72 ?_
      refine k9_iload_n X dX6_ofStep_75 rfl 1 rfl ?_
      refine k9_iald X (by decide) (o3 c1 c4) (by rfl) dX6_ofStep_76 ?_
      refine k9_ldc_w X co_X6_ofStep_310 dX6_ofStep_77 ?_
      refine k9_iand X dX6_ofStep_80 ?_
      refine k9_iconst (v := 1) X dX6_ofStep_81 (by decide) ?_
      refine k9_ishr X dX6_ofStep_82 ?_
      refine k9_sub (lv' := []) [] rfl ?_
      exact (l3 c1 c4)
    rcases Classical.em (a1 = (3 : Int32)) with c5 | c5
    · refine k9_tswIn (tgt := 84) X dX6_ofStep_10 (3 : Int32) c5 (by decide) (by decide) (by rfl) (by decide) ?_
      refine k9_aload_n X dX6_ofStep_84 rfl 0 rfl ?_
      refine k9_gX6_1 X in_X6_ofStep_X6 fl_X6_ofStep_19 dX6_ofStep_85 ?_
      refine k9_gX1_3 X in_X6_ofStep_X1 fl_X6_ofStep_311 dX6_ofStep_88 ?_
      refine k9_iload_n X dX6_ofStep_91 rfl 1 rfl ?_
      refine k9_iald X (by decide) (o4 c1 c5) (by rfl) dX6_ofStep_92 ?_
      refine k9_ldc_w X co_X6_ofStep_310 dX6_ofStep_93 ?_
      refine k9_iand X dX6_ofStep_96 ?_
      refine k9_iconst (v := 1) X dX6_ofStep_97 (by decide) ?_
      refine k9_ishr X dX6_ofStep_98 ?_
      refine k9_sub (lv' := []) [] rfl ?_
      exact (l4 c1 c5)
    rcases Classical.em (a1 = (4 : Int32)) with c6 | c6
    · refine k9_tswIn (tgt := 100) X dX6_ofStep_10 (4 : Int32) c6 (by decide) (by decide) (by rfl) (by decide) ?_
      refine k9_aload_n X dX6_ofStep_100 rfl 0 rfl ?_
      refine k9_gX6_1 X in_X6_ofStep_X6 fl_X6_ofStep_19 dX6_ofStep_101 ?_
      refine k9_gX1_2 X in_X6_ofStep_X1 fl_X6_ofStep_307 dX6_ofStep_104 ?_
      refine k9_iload_n X dX6_ofStep_107 rfl 1 rfl ?_
      refine k9_iald X (by decide) (o5 c1 c6) (by rfl) dX6_ofStep_108 ?_
      refine k9_iconst (v := 1) X dX6_ofStep_109 (by decide) ?_
      refine k9_iand X dX6_ofStep_110 ?_
      refine k9_sub (lv' := []) [] rfl ?_
      exact (l5 c1 c6)
    rcases Classical.em (a1 = (5 : Int32)) with c7 | c7
    · refine k9_tswIn (tgt := 112) X dX6_ofStep_10 (5 : Int32) c7 (by decide) (by decide) (by rfl) (by decide) ?_
      refine k9_aload_n X dX6_ofStep_112 rfl 0 rfl ?_
      refine k9_gX6_1 X in_X6_ofStep_X6 fl_X6_ofStep_19 dX6_ofStep_113 ?_
      refine k9_iload_n X dX6_ofStep_116 rfl 1 rfl ?_
      refine k9_aload_n X dX6_ofStep_117 rfl 0 rfl ?_
      refine k9_gX6_0 X in_X6_ofStep_X6 fl_X6_ofStep_12 dX6_ofStep_118 ?_
      refine k9_gX3_6 (q := 1) X (by decide) (by rfl) in_X6_ofStep_X3 fl_X6_ofStep_136 dX6_ofStep_121 ?_
      refine k9_callVi2 X (k2 c1 c7) k9_ob_57 (cwV 2 X.2.2.2.2.1 gX6_ofStep_X1_isPedalWished rfl rfl rfl (by decide +kernel) ⟨Nat.le_of_ble_eq_true rfl, Nat.le_of_ble_eq_true rfl⟩) (Nat.le_of_ble_eq_true rfl) dX6_ofStep_124 ⟨Nat.zero_le _, Nat.zero_le _⟩ ?_
      refine k9_if_eq (tgt := 134) X dX6_ofStep_127 (by decide) (fun c8 => ?_) (fun c8 => ?_)
      · refine k9_iconst (v := 0) X dX6_ofStep_134 (by decide) ?_
        refine k9_sub (lv' := []) [] rfl ?_
        exact (l6 c1 c7 c8)
      · refine k9_iconst (v := 1) X dX6_ofStep_130 (by decide) ?_
        refine k9_goto (tgt := 135) X dX6_ofStep_131 (by decide) ?_
        refine k9_sub (lv' := []) [] rfl ?_
        exact (l7 c1 c7 c8)
    refine k9_tswOut (tgt := 136) X dX6_ofStep_10 (k9_swOut 6 (by decide) (by intro j hj; rcases (show j = 0 ∨ j = 1 ∨ j = 2 ∨ j = 3 ∨ j = 4 ∨ j = 5 by omega) with rfl | rfl | rfl | rfl | rfl | rfl <;> assumption)) (by decide) (by decide) ?_
    refine k9_aload_n X dX6_ofStep_136 rfl 0 rfl ?_
    refine k9_gX6_0 X in_X6_ofStep_X6 fl_X6_ofStep_12 dX6_ofStep_137 ?_
    refine k9_iload_n X dX6_ofStep_140 rfl 1 rfl ?_
    refine k9_callVi1 X (k3 c1 c2 c3 c4 c5 c6 c7) (k9_ob_P (by decide)) (cwV 1 X.2.2.2.2.1 gX6_ofStep_X3_openAt rfl rfl rfl (by decide +kernel) ⟨Nat.le_of_ble_eq_true rfl, Nat.le_of_ble_eq_true rfl⟩) (Nat.le_of_ble_eq_true rfl) dX6_ofStep_141 ⟨Nat.zero_le _, Nat.zero_le _⟩ ?_
    refine k9_sub (lv' := []) [] rfl ?_
    exact (l8 c1 c2 c3 c4 c5 c6 c7)
  · refine k9_iconst (v := -1) X dX6_ofStep_7 (by decide) ?_
    refine k9_sub (lv' := []) [] rfl ?_
    exact (l9 c1)

theorem in_X6_ofPlayed_X6 : ∀ w ∈ u_ws RX6 TX6 5, w ∈ wsX6_ofPlayed := by decide +kernel
theorem fl_X6_ofPlayed_19 : Cond.fieldLink RX6 19 (TX6 1).1 (TX6 1).2.1 (TX6 1).2.2.1 ∈ wsX6_ofPlayed := by decide +kernel
theorem in_X6_ofPlayed_X1 : ∀ w ∈ u_ws RX1 TX1 4, w ∈ wsX6_ofPlayed := by decide +kernel
theorem fl_X6_ofPlayed_143 : Cond.fieldLink RX6 143 (TX1 1).1 (TX1 1).2.1 (TX1 1).2.2.1 ∈ wsX6_ofPlayed := by decide +kernel
theorem fl_X6_ofPlayed_12 : Cond.fieldLink RX6 12 (TX6 0).1 (TX6 0).2.1 (TX6 0).2.2.1 ∈ wsX6_ofPlayed := by decide +kernel
theorem in_X6_ofPlayed_X3 : ∀ w ∈ u_ws RX3 TX3 7, w ∈ wsX6_ofPlayed := by decide +kernel
theorem fl_X6_ofPlayed_139 : Cond.fieldLink RX6 139 (TX3 4).1 (TX3 4).2.1 (TX3 4).2.2.1 ∈ wsX6_ofPlayed := by decide +kernel
set_option maxRecDepth 20000 in
theorem bk_X6_ofPlayed_0 (X : k9_X p R s m args c A G 5 cX6_ofPlayed wsX6_ofPlayed RX6 rm_X6_ofPlayed) {a0 a1 a2 : Int32} {rv1 : Int32} {rv2 : Int32} {rv3 : Int32} {rv4 : Int32}
    (k1 : k9_Ci l yX0_lastStepFrom wsX0_lastStepFrom rm_X0_lastStepFrom G M [.ref (k9_ga G 59), .int a0, .int a1] rv1 M)
    (l1 : (a2 = (0 : Int32)) → k9_U p l e R s m args below meth c Q A G 5 0 0 M 51 [] [.int (a0 - (1 : Int32))])
    (l2 : (a2 = (1 : Int32)) → k9_U p l e R s m args below meth c Q A G 5 0 0 M 53 [] [.int a1])
    (l3 : (a2 = (2 : Int32)) → k9_U p l e R s m args below meth c Q A G 5 0 0 M 56 [] [.int rv1])
    (k2 : (a2 = (3 : Int32)) → k9_Ci l yX1_lastSoundAfter wsX1_lastSoundAfter rm_X1_lastSoundAfter G M [.ref (k9_ga G 57), .int a0, .int rv1] rv2 M)
    (l4 : (a2 = (3 : Int32)) → k9_U p l e R s m args below meth c Q A G 5 0 0 M 67 [] [.int rv2])
    (k3 : (a2 = (4 : Int32)) → k9_Ci l yX1_holesRead wsX1_holesRead rm_X1_holesRead G M [.ref (k9_ga G 57), .int a0, .int a1, .int rv1] rv3 M)
    (l5 : (a2 = (4 : Int32)) → k9_U p l e R s m args below meth c Q A G 5 0 0 M 79 [] [.int rv3])
    (k4 : (¬ a2 = (0 : Int32)) → (¬ a2 = (1 : Int32)) → (¬ a2 = (2 : Int32)) → (¬ a2 = (3 : Int32)) → (¬ a2 = (4 : Int32)) → k9_Ci l yX0_hasChain wsX0_hasChain rm_X0_hasChain G M [.ref (k9_ga G 6), .int a0, .int a1, .int rv1] rv4 M)
    (l6 : (¬ a2 = (0 : Int32)) → (¬ a2 = (1 : Int32)) → (¬ a2 = (2 : Int32)) → (¬ a2 = (3 : Int32)) → (¬ a2 = (4 : Int32)) → (rv4 = 0) → k9_U p l e R s m args below meth c Q A G 5 0 0 M 102 [] [.int (0 : Int32)])
    (l7 : (¬ a2 = (0 : Int32)) → (¬ a2 = (1 : Int32)) → (¬ a2 = (2 : Int32)) → (¬ a2 = (3 : Int32)) → (¬ a2 = (4 : Int32)) → (¬ (rv4 = 0)) → k9_U p l e R s m args below meth c Q A G 5 0 0 M 102 [] [.int (1 : Int32)]) : k9_U p l e R s m args below meth c Q A G 5 0 0 M 0 [(0, .ref (k9_ga G 0)), (1, .int a0), (2, .int a1), (3, .int a2)] [] := by
  refine k9_aload_n X dX6_ofPlayed_0 rfl 0 rfl ?_
  refine k9_gX6_1 X in_X6_ofPlayed_X6 fl_X6_ofPlayed_19 dX6_ofPlayed_1 ?_
  refine k9_gX1_1 X in_X6_ofPlayed_X1 fl_X6_ofPlayed_143 dX6_ofPlayed_4 ?_
  refine k9_iload_n X dX6_ofPlayed_7 rfl 1 rfl ?_
  refine k9_iload_n X dX6_ofPlayed_8 rfl 2 rfl ?_
  refine k9_callVi2 X k1 (k9_ob_C (by decide)) (cwV 2 X.2.2.2.2.1 gX6_ofPlayed_X0_lastStepFrom rfl rfl rfl (by decide +kernel) ⟨Nat.le_of_ble_eq_true rfl, Nat.le_of_ble_eq_true rfl⟩) (Nat.le_of_ble_eq_true rfl) dX6_ofPlayed_9 ⟨Nat.zero_le _, Nat.zero_le _⟩ ?_
  refine k9_istore (lv' := [(0, .ref (k9_ga G 0)), (1, .int a0), (2, .int a1), (3, .int a2), (4, .int rv1)]) X dX6_ofPlayed_12 (by decide) [1, 2, 3, 4, 0] rfl ?_
  refine k9_iload_n X dX6_ofPlayed_14 rfl 3 rfl ?_
  rcases Classical.em (a2 = (0 : Int32)) with c1 | c1
  · refine k9_tswIn (tgt := 48) X dX6_ofPlayed_15 (0 : Int32) c1 (by decide) (by decide) (by rfl) (by decide) ?_
    refine k9_iload_n X dX6_ofPlayed_48 rfl 1 rfl ?_
    refine k9_iconst (v := 1) X dX6_ofPlayed_49 (by decide) ?_
    refine k9_isub X dX6_ofPlayed_50 ?_
    refine k9_sub (lv' := []) [] rfl ?_
    exact (l1 c1)
  rcases Classical.em (a2 = (1 : Int32)) with c2 | c2
  · refine k9_tswIn (tgt := 52) X dX6_ofPlayed_15 (1 : Int32) c2 (by decide) (by decide) (by rfl) (by decide) ?_
    refine k9_iload_n X dX6_ofPlayed_52 rfl 2 rfl ?_
    refine k9_sub (lv' := []) [] rfl ?_
    exact (l2 c2)
  rcases Classical.em (a2 = (2 : Int32)) with c3 | c3
  · refine k9_tswIn (tgt := 54) X dX6_ofPlayed_15 (2 : Int32) c3 (by decide) (by decide) (by rfl) (by decide) ?_
    refine k9_iload X dX6_ofPlayed_54 4 rfl ?_
    refine k9_sub (lv' := []) [] rfl ?_
    exact (l3 c3)
  rcases Classical.em (a2 = (3 : Int32)) with c4 | c4
  · refine k9_tswIn (tgt := 57) X dX6_ofPlayed_15 (3 : Int32) c4 (by decide) (by decide) (by rfl) (by decide) ?_
    refine k9_aload_n X dX6_ofPlayed_57 rfl 0 rfl ?_
    refine k9_gX6_1 X in_X6_ofPlayed_X6 fl_X6_ofPlayed_19 dX6_ofPlayed_58 ?_
    refine k9_iload_n X dX6_ofPlayed_61 rfl 1 rfl ?_
    refine k9_iload X dX6_ofPlayed_62 4 rfl ?_
    refine k9_callVi2 X (k2 c4) k9_ob_57 (cwV 2 X.2.2.2.2.1 gX6_ofPlayed_X1_lastSoundAfter rfl rfl rfl (by decide +kernel) ⟨Nat.le_of_ble_eq_true rfl, Nat.le_of_ble_eq_true rfl⟩) (Nat.le_of_ble_eq_true rfl) dX6_ofPlayed_64 ⟨Nat.zero_le _, Nat.zero_le _⟩ ?_
    refine k9_sub (lv' := []) [] rfl ?_
    exact (l4 c4)
  rcases Classical.em (a2 = (4 : Int32)) with c5 | c5
  · refine k9_tswIn (tgt := 68) X dX6_ofPlayed_15 (4 : Int32) c5 (by decide) (by decide) (by rfl) (by decide) ?_
    refine k9_aload_n X dX6_ofPlayed_68 rfl 0 rfl ?_
    refine k9_gX6_1 X in_X6_ofPlayed_X6 fl_X6_ofPlayed_19 dX6_ofPlayed_69 ?_
    refine k9_iload_n X dX6_ofPlayed_72 rfl 1 rfl ?_
    refine k9_iload_n X dX6_ofPlayed_73 rfl 2 rfl ?_
    refine k9_iload X dX6_ofPlayed_74 4 rfl ?_
    refine k9_callVi3 X (k3 c5) k9_ob_57 (cwV 3 X.2.2.2.2.1 gX6_ofPlayed_X1_holesRead rfl rfl rfl (by decide +kernel) ⟨Nat.le_of_ble_eq_true rfl, Nat.le_of_ble_eq_true rfl⟩) (Nat.le_of_ble_eq_true rfl) dX6_ofPlayed_76 ⟨Nat.zero_le _, Nat.zero_le _⟩ ?_
    refine k9_sub (lv' := []) [] rfl ?_
    exact (l5 c5)
  refine k9_tswOut (tgt := 80) X dX6_ofPlayed_15 (k9_swOut 5 (by decide) (by intro j hj; rcases (show j = 0 ∨ j = 1 ∨ j = 2 ∨ j = 3 ∨ j = 4 by omega) with rfl | rfl | rfl | rfl | rfl <;> assumption)) (by decide) (by decide) ?_
  refine k9_aload_n X dX6_ofPlayed_80 rfl 0 rfl ?_
  refine k9_gX6_0 X in_X6_ofPlayed_X6 fl_X6_ofPlayed_12 dX6_ofPlayed_81 ?_
  refine k9_gX3_4 (q := 1) (q1 := 6) X (by decide) (by rfl) in_X6_ofPlayed_X3 fl_X6_ofPlayed_139 dX6_ofPlayed_84 ?_
  refine k9_iload_n X dX6_ofPlayed_87 rfl 1 rfl ?_
  refine k9_iload_n X dX6_ofPlayed_88 rfl 2 rfl ?_
  refine k9_iload X dX6_ofPlayed_89 4 rfl ?_
  refine k9_callVi3 X (k4 c1 c2 c3 c4 c5) (k9_ob_C (by decide)) (cwV 3 X.2.2.2.2.1 gX6_ofPlayed_X0_hasChain rfl rfl rfl (by decide +kernel) ⟨Nat.le_of_ble_eq_true rfl, Nat.le_of_ble_eq_true rfl⟩) (Nat.le_of_ble_eq_true rfl) dX6_ofPlayed_91 ⟨Nat.zero_le _, Nat.zero_le _⟩ ?_
  refine k9_if_eq (tgt := 101) X dX6_ofPlayed_94 (by decide) (fun c6 => ?_) (fun c6 => ?_)
  · refine k9_iconst (v := 0) X dX6_ofPlayed_101 (by decide) ?_
    refine k9_sub (lv' := []) [] rfl ?_
    exact (l6 c1 c2 c3 c4 c5 c6)
  · refine k9_iconst (v := 1) X dX6_ofPlayed_97 (by decide) ?_
    refine k9_goto (tgt := 102) X dX6_ofPlayed_98 (by decide) ?_
    refine k9_sub (lv' := []) [] rfl ?_
    exact (l7 c1 c2 c3 c4 c5 c6)

theorem in_X6_ofTune_X6 : ∀ w ∈ u_ws RX6 TX6 5, w ∈ wsX6_ofTune := by decide +kernel
theorem fl_X6_ofTune_12 : Cond.fieldLink RX6 12 (TX6 0).1 (TX6 0).2.1 (TX6 0).2.2.1 ∈ wsX6_ofTune := by decide +kernel
theorem in_X6_ofTune_X3 : ∀ w ∈ u_ws RX3 TX3 7, w ∈ wsX6_ofTune := by decide +kernel
theorem fl_X6_ofTune_139 : Cond.fieldLink RX6 139 (TX3 4).1 (TX3 4).2.1 (TX3 4).2.2.1 ∈ wsX6_ofTune := by decide +kernel
theorem fl_X6_ofTune_19 : Cond.fieldLink RX6 19 (TX6 1).1 (TX6 1).2.1 (TX6 1).2.2.1 ∈ wsX6_ofTune := by decide +kernel
theorem in_X6_ofTune_X1 : ∀ w ∈ u_ws RX1 TX1 4, w ∈ wsX6_ofTune := by decide +kernel
theorem fl_X6_ofTune_143 : Cond.fieldLink RX6 143 (TX1 1).1 (TX1 1).2.1 (TX1 1).2.2.1 ∈ wsX6_ofTune := by decide +kernel
set_option maxRecDepth 20000 in
theorem bk_X6_ofTune_0 (X : k9_X p R s m args c A G 5 cX6_ofTune wsX6_ofTune RX6 rm_X6_ofTune) {a0 a1 a2 : Int32} {rv1 : Int32} {rv2 : Int32}
    (k1 : k9_Ci l yX0_lastStepFrom wsX0_lastStepFrom rm_X0_lastStepFrom G M [.ref (k9_ga G 6), .int a0, .int a1] rv1 M)
    (l1 : (a2 = (0 : Int32)) → k9_U p l e R s m args below meth c Q A G 5 0 0 M 43 [] [.int (a0 - (1 : Int32))])
    (l2 : (a2 = (1 : Int32)) → k9_U p l e R s m args below meth c Q A G 5 0 0 M 45 [] [.int a1])
    (l3 : (a2 = (2 : Int32)) → k9_U p l e R s m args below meth c Q A G 5 0 0 M 48 [] [.int rv1])
    (k2 : (¬ a2 = (0 : Int32)) → (¬ a2 = (1 : Int32)) → (¬ a2 = (2 : Int32)) → k9_Ci l yX0_hasChain wsX0_hasChain rm_X0_hasChain G M [.ref (k9_ga G 59), .int a0, .int a1, .int rv1] rv2 M)
    (l4 : (¬ a2 = (0 : Int32)) → (¬ a2 = (1 : Int32)) → (¬ a2 = (2 : Int32)) → (rv2 = 0) → k9_U p l e R s m args below meth c Q A G 5 0 0 M 71 [] [.int (1 : Int32)])
    (l5 : (¬ a2 = (0 : Int32)) → (¬ a2 = (1 : Int32)) → (¬ a2 = (2 : Int32)) → (¬ (rv2 = 0)) → k9_U p l e R s m args below meth c Q A G 5 0 0 M 71 [] [.int (0 : Int32)]) : k9_U p l e R s m args below meth c Q A G 5 0 0 M 0 [(0, .ref (k9_ga G 0)), (1, .int a0), (2, .int a1), (3, .int a2)] [] := by
  refine k9_aload_n X dX6_ofTune_0 rfl 0 rfl ?_
  refine k9_gX6_0 X in_X6_ofTune_X6 fl_X6_ofTune_12 dX6_ofTune_1 ?_
  refine k9_gX3_4 (q := 1) (q1 := 6) X (by decide) (by rfl) in_X6_ofTune_X3 fl_X6_ofTune_139 dX6_ofTune_4 ?_
  refine k9_iload_n X dX6_ofTune_7 rfl 1 rfl ?_
  refine k9_iload_n X dX6_ofTune_8 rfl 2 rfl ?_
  refine k9_callVi2 X k1 (k9_ob_C (by decide)) (cwV 2 X.2.2.2.2.1 gX6_ofTune_X0_lastStepFrom rfl rfl rfl (by decide +kernel) ⟨Nat.le_of_ble_eq_true rfl, Nat.le_of_ble_eq_true rfl⟩) (Nat.le_of_ble_eq_true rfl) dX6_ofTune_9 ⟨Nat.zero_le _, Nat.zero_le _⟩ ?_
  refine k9_istore (lv' := [(0, .ref (k9_ga G 0)), (1, .int a0), (2, .int a1), (3, .int a2), (4, .int rv1)]) X dX6_ofTune_12 (by decide) [1, 2, 3, 4, 0] rfl ?_
  refine k9_iload_n X dX6_ofTune_14 rfl 3 rfl ?_
  rcases Classical.em (a2 = (0 : Int32)) with c1 | c1
  · refine k9_tswIn (tgt := 40) X dX6_ofTune_15 (0 : Int32) c1 (by decide) (by decide) (by rfl) (by decide) ?_
    refine k9_iload_n X dX6_ofTune_40 rfl 1 rfl ?_
    refine k9_iconst (v := 1) X dX6_ofTune_41 (by decide) ?_
    refine k9_isub X dX6_ofTune_42 ?_
    refine k9_sub (lv' := []) [] rfl ?_
    exact (l1 c1)
  rcases Classical.em (a2 = (1 : Int32)) with c2 | c2
  · refine k9_tswIn (tgt := 44) X dX6_ofTune_15 (1 : Int32) c2 (by decide) (by decide) (by rfl) (by decide) ?_
    refine k9_iload_n X dX6_ofTune_44 rfl 2 rfl ?_
    refine k9_sub (lv' := []) [] rfl ?_
    exact (l2 c2)
  rcases Classical.em (a2 = (2 : Int32)) with c3 | c3
  · refine k9_tswIn (tgt := 46) X dX6_ofTune_15 (2 : Int32) c3 (by decide) (by decide) (by rfl) (by decide) ?_
    refine k9_iload X dX6_ofTune_46 4 rfl ?_
    refine k9_sub (lv' := []) [] rfl ?_
    exact (l3 c3)
  refine k9_tswOut (tgt := 49) X dX6_ofTune_15 (k9_swOut 3 (by decide) (by intro j hj; rcases (show j = 0 ∨ j = 1 ∨ j = 2 by omega) with rfl | rfl | rfl <;> assumption)) (by decide) (by decide) ?_
  refine k9_aload_n X dX6_ofTune_49 rfl 0 rfl ?_
  refine k9_gX6_1 X in_X6_ofTune_X6 fl_X6_ofTune_19 dX6_ofTune_50 ?_
  refine k9_gX1_1 X in_X6_ofTune_X1 fl_X6_ofTune_143 dX6_ofTune_53 ?_
  refine k9_iload_n X dX6_ofTune_56 rfl 1 rfl ?_
  refine k9_iload_n X dX6_ofTune_57 rfl 2 rfl ?_
  refine k9_iload X dX6_ofTune_58 4 rfl ?_
  refine k9_callVi3 X (k2 c1 c2 c3) (k9_ob_C (by decide)) (cwV 3 X.2.2.2.2.1 gX6_ofTune_X0_hasChain rfl rfl rfl (by decide +kernel) ⟨Nat.le_of_ble_eq_true rfl, Nat.le_of_ble_eq_true rfl⟩) (Nat.le_of_ble_eq_true rfl) dX6_ofTune_60 ⟨Nat.zero_le _, Nat.zero_le _⟩ ?_
  refine k9_if_eq (tgt := 70) X dX6_ofTune_63 (by decide) (fun c4 => ?_) (fun c4 => ?_)
  · refine k9_iconst (v := 1) X dX6_ofTune_70 (by decide) ?_
    refine k9_sub (lv' := []) [] rfl ?_
    exact (l4 c1 c2 c3 c4)
  · refine k9_iconst (v := 0) X dX6_ofTune_66 (by decide) ?_
    refine k9_goto (tgt := 71) X dX6_ofTune_67 (by decide) ?_
    refine k9_sub (lv' := []) [] rfl ?_
    exact (l5 c1 c2 c3 c4)

theorem in_X6_counted_X6 : ∀ w ∈ u_ws RX6 TX6 5, w ∈ wsX6_counted := by decide +kernel
theorem fl_X6_counted_12 : Cond.fieldLink RX6 12 (TX6 0).1 (TX6 0).2.1 (TX6 0).2.2.1 ∈ wsX6_counted := by decide +kernel
theorem in_X6_counted_X3 : ∀ w ∈ u_ws RX3 TX3 7, w ∈ wsX6_counted := by decide +kernel
theorem fl_X6_counted_199 : Cond.fieldLink RX6 199 (TX3 0).1 (TX3 0).2.1 (TX3 0).2.2.1 ∈ wsX6_counted := by decide +kernel
theorem co_X6_counted_332 : Cond.constant RX6 332 (67108863) ∈ wsX6_counted := by decide +kernel
theorem fl_X6_counted_203 : Cond.fieldLink RX6 203 (TX3 1).1 (TX3 1).2.1 (TX3 1).2.2.1 ∈ wsX6_counted := by decide +kernel
theorem fl_X6_counted_19 : Cond.fieldLink RX6 19 (TX6 1).1 (TX6 1).2.1 (TX6 1).2.2.1 ∈ wsX6_counted := by decide +kernel
theorem in_X6_counted_X1 : ∀ w ∈ u_ws RX1 TX1 4, w ∈ wsX6_counted := by decide +kernel
theorem fl_X6_counted_143 : Cond.fieldLink RX6 143 (TX1 1).1 (TX1 1).2.1 (TX1 1).2.2.1 ∈ wsX6_counted := by decide +kernel
theorem fl_X6_counted_139 : Cond.fieldLink RX6 139 (TX3 4).1 (TX3 4).2.1 (TX3 4).2.2.1 ∈ wsX6_counted := by decide +kernel
theorem in_X6_counted_X0 : ∀ w ∈ u_ws RX0 TX0 2, w ∈ wsX6_counted := by decide +kernel
theorem fl_X6_counted_340 : Cond.fieldLink RX6 340 (TX0 0).1 (TX0 0).2.1 (TX0 0).2.2.1 ∈ wsX6_counted := by decide +kernel
theorem fl_X6_counted_307 : Cond.fieldLink RX6 307 (TX1 2).1 (TX1 2).2.1 (TX1 2).2.2.1 ∈ wsX6_counted := by decide +kernel
theorem fl_X6_counted_136 : Cond.fieldLink RX6 136 (TX3 6).1 (TX3 6).2.1 (TX3 6).2.2.1 ∈ wsX6_counted := by decide +kernel
theorem fl_X6_counted_349 : Cond.fieldLink RX6 349 (TX1 0).1 (TX1 0).2.1 (TX1 0).2.2.1 ∈ wsX6_counted := by decide +kernel
theorem co_X6_counted_352 : Cond.constant RX6 352 (2097151) ∈ wsX6_counted := by decide +kernel
theorem fl_X6_counted_26 : Cond.fieldLink RX6 26 (TX6 2).1 (TX6 2).2.1 (TX6 2).2.2.1 ∈ wsX6_counted := by decide +kernel
set_option maxRecDepth 20000 in
theorem bk_X6_counted_0 (X : k9_X p R s m args c A G 2 cX6_counted wsX6_counted RX6 rm_X6_counted) {a0 : Int32} {rv1 : Int32} {rv2 : Int32} {rv3 : Int32} {rv4 : Int32} {rv5 : Int32} {rv6 : Int32} {rv7 : Int32} {rv8 : Int32} {rv9 : Int32} {rv10 : Int32} {rv11 : Int32} {rv12 : Int32} {rv13 : Int32} {rv14 : Int32} {rv15 : Int32} {rv16 : Int32} {rv17 : Int32} {rv18 : Int32}
    (k1 : (a0 = (0 : Int32)) → k9_Ci l yX6_bitsIn wsX6_bitsIn rm_X6_bitsIn G M [.ref (k9_ga G 2), .int (67108863 : Int32)] rv1 M)
    (l1 : (a0 = (0 : Int32)) → k9_U p l e R s m args below meth c Q A G 2 0 0 M 85 [] [.int rv1])
    (k2 : (a0 = (1 : Int32)) → k9_Ci l yX3_openHoles wsX3_openHoles rm_X3_openHoles G M [.ref (k9_ga G 1)] rv2 M)
    (l2 : (a0 = (1 : Int32)) → k9_U p l e R s m args below meth c Q A G 2 0 0 M 93 [] [.int rv2])
    (k3 : (a0 = (2 : Int32)) → k9_Ci l yX6_bitsIn wsX6_bitsIn rm_X6_bitsIn G M [.ref (k9_ga G 3), .int (67108863 : Int32)] rv3 M)
    (l3 : (a0 = (2 : Int32)) → k9_U p l e R s m args below meth c Q A G 2 0 0 M 107 [] [.int rv3])
    (k4 : (a0 = (3 : Int32)) → k9_Ci l yX0_noteCount wsX0_noteCount rm_X0_noteCount G M [.ref (k9_ga G 59)] rv4 M)
    (l4 : (a0 = (3 : Int32)) → k9_U p l e R s m args below meth c Q A G 2 0 0 M 118 [] [.int rv4])
    (k5 : (a0 = (4 : Int32)) → k9_Ci l yX0_noteCount wsX0_noteCount rm_X0_noteCount G M [.ref (k9_ga G 6)] rv5 M)
    (l5 : (a0 = (4 : Int32)) → k9_U p l e R s m args below meth c Q A G 2 0 0 M 129 [] [.int rv5])
    (k6 : (a0 = (5 : Int32)) → k9_Ci l yX6_rightNotes wsX6_rightNotes rm_X6_rightNotes G M [.ref (k9_ga G 0)] rv6 M)
    (l6 : (a0 = (5 : Int32)) → k9_U p l e R s m args below meth c Q A G 2 0 0 M 134 [] [.int rv6])
    (k7 : (a0 = (6 : Int32)) → k9_Ci l yX0_noteCount wsX0_noteCount rm_X0_noteCount G M [.ref (k9_ga G 59)] rv7 M)
    (k8 : (a0 = (6 : Int32)) → k9_Ci l yX6_rightNotes wsX6_rightNotes rm_X6_rightNotes G M [.ref (k9_ga G 0)] rv8 M)
    (l7 : (a0 = (6 : Int32)) → k9_U p l e R s m args below meth c Q A G 2 0 0 M 150 [] [.int (rv7 - rv8)])
    (k9 : (a0 = (7 : Int32)) → k9_Ci l yX0_noteCount wsX0_noteCount rm_X0_noteCount G M [.ref (k9_ga G 6)] rv9 M)
    (k10 : (a0 = (7 : Int32)) → k9_Ci l yX6_rightNotes wsX6_rightNotes rm_X6_rightNotes G M [.ref (k9_ga G 0)] rv10 M)
    (l8 : (a0 = (7 : Int32)) → k9_U p l e R s m args below meth c Q A G 2 0 0 M 166 [] [.int (rv9 - rv10)])
    (k11 : (a0 = (8 : Int32)) → k9_Ci l yX6_bitsIn wsX6_bitsIn rm_X6_bitsIn G M [.ref (k9_ga G 60), .int (1 : Int32)] rv11 M)
    (l9 : (a0 = (8 : Int32)) → k9_U p l e R s m args below meth c Q A G 2 0 0 M 181 [] [.int rv11])
    (k12 : (a0 = (9 : Int32)) → k9_Ci l yX6_bitsIn wsX6_bitsIn rm_X6_bitsIn G M [.ref (k9_ga G 62), .int (1 : Int32)] rv12 M)
    (l10 : (a0 = (9 : Int32)) → k9_U p l e R s m args below meth c Q A G 2 0 0 M 193 [] [.int rv12])
    (k13 : (a0 = (10 : Int32)) → k9_Ci l yX1_stepsWished wsX1_stepsWished rm_X1_stepsWished G M [.ref (k9_ga G 57), .int (M 1 6)] rv13 M)
    (l11 : (a0 = (10 : Int32)) → k9_U p l e R s m args below meth c Q A G 2 0 0 M 208 [] [.int rv13])
    (k14 : (a0 = (11 : Int32)) → k9_Ci l yX1_holesOfWrong wsX1_holesOfWrong rm_X1_holesOfWrong G M [.ref (k9_ga G 57), .ref (k9_ga G 6)] rv14 M)
    (l12 : (a0 = (11 : Int32)) → k9_U p l e R s m args below meth c Q A G 2 0 0 M 223 [] [.int rv14])
    (k15 : (a0 = (12 : Int32)) → k9_Ci l yX3_openHoles wsX3_openHoles rm_X3_openHoles G M [.ref (k9_ga G 1)] rv15 M)
    (k16 : (a0 = (12 : Int32)) → k9_Ci l yX6_bitsIn wsX6_bitsIn rm_X6_bitsIn G M [.ref (k9_ga G 58), .int (2097151 : Int32)] rv16 M)
    (l13 : (a0 = (12 : Int32)) → k9_U p l e R s m args below meth c Q A G 2 0 0 M 245 [] [.int (rv15 - rv16)])
    (k17 : (a0 = (13 : Int32)) → k9_Ci l yX3_tornSteps wsX3_tornSteps rm_X3_tornSteps G M [.ref (k9_ga G 1)] rv17 M)
    (l14 : (a0 = (13 : Int32)) → k9_U p l e R s m args below meth c Q A G 2 0 0 M 253 [] [.int rv17])
    (k18 : (¬ a0 = (0 : Int32)) → (¬ a0 = (1 : Int32)) → (¬ a0 = (2 : Int32)) → (¬ a0 = (3 : Int32)) → (¬ a0 = (4 : Int32)) → (¬ a0 = (5 : Int32)) → (¬ a0 = (6 : Int32)) → (¬ a0 = (7 : Int32)) → (¬ a0 = (8 : Int32)) → (¬ a0 = (9 : Int32)) → (¬ a0 = (10 : Int32)) → (¬ a0 = (11 : Int32)) → (¬ a0 = (12 : Int32)) → (¬ a0 = (13 : Int32)) → k9_Ci l yX4_size wsX4_size rm_X4_size G M [.ref (k9_ga G 64)] rv18 M)
    (l15 : (¬ a0 = (0 : Int32)) → (¬ a0 = (1 : Int32)) → (¬ a0 = (2 : Int32)) → (¬ a0 = (3 : Int32)) → (¬ a0 = (4 : Int32)) → (¬ a0 = (5 : Int32)) → (¬ a0 = (6 : Int32)) → (¬ a0 = (7 : Int32)) → (¬ a0 = (8 : Int32)) → (¬ a0 = (9 : Int32)) → (¬ a0 = (10 : Int32)) → (¬ a0 = (11 : Int32)) → (¬ a0 = (12 : Int32)) → (¬ a0 = (13 : Int32)) → k9_U p l e R s m args below meth c Q A G 2 0 0 M 261 [] [.int rv18]) : k9_U p l e R s m args below meth c Q A G 2 0 0 M 0 [(0, .ref (k9_ga G 0)), (1, .int a0)] [] := by
  refine k9_iload_n X dX6_counted_0 rfl 1 rfl ?_
  rcases Classical.em (a0 = (0 : Int32)) with c1 | c1
  · refine k9_tswIn (tgt := 72) X dX6_counted_1 (0 : Int32) c1 (by decide) (by decide) (by rfl) (by decide) ?_
    refine k9_aload_n X dX6_counted_72 rfl 0 rfl ?_
    refine k9_gX6_0 X in_X6_counted_X6 fl_X6_counted_12 dX6_counted_73 ?_
    refine k9_gX3_0 (q := 1) (q1 := 2) X (by decide) (by rfl) in_X6_counted_X3 fl_X6_counted_199 dX6_counted_76 ?_
    refine k9_ldc_w X co_X6_counted_332 dX6_counted_79 ?_
    refine k9_callSi2 X (k1 c1)  (va_cwS 2 X.2.2.2.2.1 gX6_counted_X6_bitsIn rfl rfl rfl (by decide +kernel) ⟨Nat.le_of_ble_eq_true rfl, Nat.le_of_ble_eq_true rfl⟩) (Nat.le_of_ble_eq_true rfl) dX6_counted_82 ⟨Nat.zero_le _, Nat.zero_le _⟩ ?_
    refine k9_sub (lv' := []) [] rfl ?_
    exact (l1 c1)
  rcases Classical.em (a0 = (1 : Int32)) with c2 | c2
  · refine k9_tswIn (tgt := 86) X dX6_counted_1 (1 : Int32) c2 (by decide) (by decide) (by rfl) (by decide) ?_
    refine k9_aload_n X dX6_counted_86 rfl 0 rfl ?_
    refine k9_gX6_0 X in_X6_counted_X6 fl_X6_counted_12 dX6_counted_87 ?_
    refine k9_callVi0 X (k2 c2) (k9_ob_P (by decide)) (cwV 0 X.2.2.2.2.1 gX6_counted_X3_openHoles rfl rfl rfl (by decide +kernel) ⟨Nat.le_of_ble_eq_true rfl, Nat.le_of_ble_eq_true rfl⟩) (Nat.le_of_ble_eq_true rfl) dX6_counted_90 ⟨Nat.zero_le _, Nat.zero_le _⟩ ?_
    refine k9_sub (lv' := []) [] rfl ?_
    exact (l2 c2)
  rcases Classical.em (a0 = (2 : Int32)) with c3 | c3
  · refine k9_tswIn (tgt := 94) X dX6_counted_1 (2 : Int32) c3 (by decide) (by decide) (by rfl) (by decide) ?_
    refine k9_aload_n X dX6_counted_94 rfl 0 rfl ?_
    refine k9_gX6_0 X in_X6_counted_X6 fl_X6_counted_12 dX6_counted_95 ?_
    refine k9_gX3_1 (q := 1) (q1 := 3) X (by decide) (by rfl) in_X6_counted_X3 fl_X6_counted_203 dX6_counted_98 ?_
    refine k9_ldc_w X co_X6_counted_332 dX6_counted_101 ?_
    refine k9_callSi2 X (k3 c3)  (va_cwS 2 X.2.2.2.2.1 gX6_counted_X6_bitsIn rfl rfl rfl (by decide +kernel) ⟨Nat.le_of_ble_eq_true rfl, Nat.le_of_ble_eq_true rfl⟩) (Nat.le_of_ble_eq_true rfl) dX6_counted_104 ⟨Nat.zero_le _, Nat.zero_le _⟩ ?_
    refine k9_sub (lv' := []) [] rfl ?_
    exact (l3 c3)
  rcases Classical.em (a0 = (3 : Int32)) with c4 | c4
  · refine k9_tswIn (tgt := 108) X dX6_counted_1 (3 : Int32) c4 (by decide) (by decide) (by rfl) (by decide) ?_
    refine k9_aload_n X dX6_counted_108 rfl 0 rfl ?_
    refine k9_gX6_1 X in_X6_counted_X6 fl_X6_counted_19 dX6_counted_109 ?_
    refine k9_gX1_1 X in_X6_counted_X1 fl_X6_counted_143 dX6_counted_112 ?_
    refine k9_callVi0 X (k4 c4) (k9_ob_C (by decide)) (cwV 0 X.2.2.2.2.1 gX6_counted_X0_noteCount rfl rfl rfl (by decide +kernel) ⟨Nat.le_of_ble_eq_true rfl, Nat.le_of_ble_eq_true rfl⟩) (Nat.le_of_ble_eq_true rfl) dX6_counted_115 ⟨Nat.zero_le _, Nat.zero_le _⟩ ?_
    refine k9_sub (lv' := []) [] rfl ?_
    exact (l4 c4)
  rcases Classical.em (a0 = (4 : Int32)) with c5 | c5
  · refine k9_tswIn (tgt := 119) X dX6_counted_1 (4 : Int32) c5 (by decide) (by decide) (by rfl) (by decide) ?_
    refine k9_aload_n X dX6_counted_119 rfl 0 rfl ?_
    refine k9_gX6_0 X in_X6_counted_X6 fl_X6_counted_12 dX6_counted_120 ?_
    refine k9_gX3_4 (q := 1) (q1 := 6) X (by decide) (by rfl) in_X6_counted_X3 fl_X6_counted_139 dX6_counted_123 ?_
    refine k9_callVi0 X (k5 c5) (k9_ob_C (by decide)) (cwV 0 X.2.2.2.2.1 gX6_counted_X0_noteCount rfl rfl rfl (by decide +kernel) ⟨Nat.le_of_ble_eq_true rfl, Nat.le_of_ble_eq_true rfl⟩) (Nat.le_of_ble_eq_true rfl) dX6_counted_126 ⟨Nat.zero_le _, Nat.zero_le _⟩ ?_
    refine k9_sub (lv' := []) [] rfl ?_
    exact (l5 c5)
  rcases Classical.em (a0 = (5 : Int32)) with c6 | c6
  · refine k9_tswIn (tgt := 130) X dX6_counted_1 (5 : Int32) c6 (by decide) (by decide) (by rfl) (by decide) ?_
    refine k9_aload_n X dX6_counted_130 rfl 0 rfl ?_
    refine k9_callVi0 X (k6 c6) k9_ob_0 (cwV 0 X.2.2.2.2.1 gX6_counted_X6_rightNotes rfl rfl rfl (by decide +kernel) ⟨Nat.le_of_ble_eq_true rfl, Nat.le_of_ble_eq_true rfl⟩) (Nat.le_of_ble_eq_true rfl) dX6_counted_131 ⟨Nat.zero_le _, Nat.zero_le _⟩ ?_
    refine k9_sub (lv' := []) [] rfl ?_
    exact (l6 c6)
  rcases Classical.em (a0 = (6 : Int32)) with c7 | c7
  · refine k9_tswIn (tgt := 135) X dX6_counted_1 (6 : Int32) c7 (by decide) (by decide) (by rfl) (by decide) ?_
    refine k9_aload_n X dX6_counted_135 rfl 0 rfl ?_
    refine k9_gX6_1 X in_X6_counted_X6 fl_X6_counted_19 dX6_counted_136 ?_
    refine k9_gX1_1 X in_X6_counted_X1 fl_X6_counted_143 dX6_counted_139 ?_
    refine k9_callVi0 X (k7 c7) (k9_ob_C (by decide)) (cwV 0 X.2.2.2.2.1 gX6_counted_X0_noteCount rfl rfl rfl (by decide +kernel) ⟨Nat.le_of_ble_eq_true rfl, Nat.le_of_ble_eq_true rfl⟩) (Nat.le_of_ble_eq_true rfl) dX6_counted_142 ⟨Nat.zero_le _, Nat.zero_le _⟩ ?_
    refine k9_aload_n X dX6_counted_145 rfl 0 rfl ?_
    refine k9_callVi0 X (k8 c7) k9_ob_0 (cwV 0 X.2.2.2.2.1 gX6_counted_X6_rightNotes rfl rfl rfl (by decide +kernel) ⟨Nat.le_of_ble_eq_true rfl, Nat.le_of_ble_eq_true rfl⟩) (Nat.le_of_ble_eq_true rfl) dX6_counted_146 ⟨Nat.zero_le _, Nat.zero_le _⟩ ?_
    refine k9_isub X dX6_counted_149 ?_
    refine k9_sub (lv' := []) [] rfl ?_
    exact (l7 c7)
  rcases Classical.em (a0 = (7 : Int32)) with c8 | c8
  · refine k9_tswIn (tgt := 151) X dX6_counted_1 (7 : Int32) c8 (by decide) (by decide) (by rfl) (by decide) ?_
    refine k9_aload_n X dX6_counted_151 rfl 0 rfl ?_
    refine k9_gX6_0 X in_X6_counted_X6 fl_X6_counted_12 dX6_counted_152 ?_
    refine k9_gX3_4 (q := 1) (q1 := 6) X (by decide) (by rfl) in_X6_counted_X3 fl_X6_counted_139 dX6_counted_155 ?_
    refine k9_callVi0 X (k9 c8) (k9_ob_C (by decide)) (cwV 0 X.2.2.2.2.1 gX6_counted_X0_noteCount rfl rfl rfl (by decide +kernel) ⟨Nat.le_of_ble_eq_true rfl, Nat.le_of_ble_eq_true rfl⟩) (Nat.le_of_ble_eq_true rfl) dX6_counted_158 ⟨Nat.zero_le _, Nat.zero_le _⟩ ?_
    refine k9_aload_n X dX6_counted_161 rfl 0 rfl ?_
    refine k9_callVi0 X (k10 c8) k9_ob_0 (cwV 0 X.2.2.2.2.1 gX6_counted_X6_rightNotes rfl rfl rfl (by decide +kernel) ⟨Nat.le_of_ble_eq_true rfl, Nat.le_of_ble_eq_true rfl⟩) (Nat.le_of_ble_eq_true rfl) dX6_counted_162 ⟨Nat.zero_le _, Nat.zero_le _⟩ ?_
    refine k9_isub X dX6_counted_165 ?_
    refine k9_sub (lv' := []) [] rfl ?_
    exact (l8 c8)
  rcases Classical.em (a0 = (8 : Int32)) with c9 | c9
  · refine k9_tswIn (tgt := 167) X dX6_counted_1 (8 : Int32) c9 (by decide) (by decide) (by rfl) (by decide) ?_
    refine k9_aload_n X dX6_counted_167 rfl 0 rfl ?_
    refine k9_gX6_1 X in_X6_counted_X6 fl_X6_counted_19 dX6_counted_168 ?_
    refine k9_gX1_1 X in_X6_counted_X1 fl_X6_counted_143 dX6_counted_171 ?_
    refine k9_gX0_0 (q := 59) (q1 := 60) X (by decide) (by rfl) in_X6_counted_X0 fl_X6_counted_340 dX6_counted_174 ?_
    refine k9_iconst (v := 1) X dX6_counted_177 (by decide) ?_
    refine k9_callSi2 X (k11 c9)  (va_cwS 2 X.2.2.2.2.1 gX6_counted_X6_bitsIn rfl rfl rfl (by decide +kernel) ⟨Nat.le_of_ble_eq_true rfl, Nat.le_of_ble_eq_true rfl⟩) (Nat.le_of_ble_eq_true rfl) dX6_counted_178 ⟨Nat.zero_le _, Nat.zero_le _⟩ ?_
    refine k9_sub (lv' := []) [] rfl ?_
    exact (l9 c9)
  rcases Classical.em (a0 = (9 : Int32)) with c10 | c10
  · refine k9_tswIn (tgt := 182) X dX6_counted_1 (9 : Int32) c10 (by decide) (by decide) (by rfl) (by decide) ?_
    refine k9_aload_n X dX6_counted_182 rfl 0 rfl ?_
    refine k9_gX6_1 X in_X6_counted_X6 fl_X6_counted_19 dX6_counted_183 ?_
    refine k9_gX1_2 X in_X6_counted_X1 fl_X6_counted_307 dX6_counted_186 ?_
    refine k9_iconst (v := 1) X dX6_counted_189 (by decide) ?_
    refine k9_callSi2 X (k12 c10)  (va_cwS 2 X.2.2.2.2.1 gX6_counted_X6_bitsIn rfl rfl rfl (by decide +kernel) ⟨Nat.le_of_ble_eq_true rfl, Nat.le_of_ble_eq_true rfl⟩) (Nat.le_of_ble_eq_true rfl) dX6_counted_190 ⟨Nat.zero_le _, Nat.zero_le _⟩ ?_
    refine k9_sub (lv' := []) [] rfl ?_
    exact (l10 c10)
  rcases Classical.em (a0 = (10 : Int32)) with c11 | c11
  · refine k9_tswIn (tgt := 194) X dX6_counted_1 (10 : Int32) c11 (by decide) (by decide) (by rfl) (by decide) ?_
    refine k9_aload_n X dX6_counted_194 rfl 0 rfl ?_
    refine k9_gX6_1 X in_X6_counted_X6 fl_X6_counted_19 dX6_counted_195 ?_
    refine k9_aload_n X dX6_counted_198 rfl 0 rfl ?_
    refine k9_gX6_0 X in_X6_counted_X6 fl_X6_counted_12 dX6_counted_199 ?_
    refine k9_gX3_6 (q := 1) X (by decide) (by rfl) in_X6_counted_X3 fl_X6_counted_136 dX6_counted_202 ?_
    refine k9_callVi1 X (k13 c11) k9_ob_57 (cwV 1 X.2.2.2.2.1 gX6_counted_X1_stepsWished rfl rfl rfl (by decide +kernel) ⟨Nat.le_of_ble_eq_true rfl, Nat.le_of_ble_eq_true rfl⟩) (Nat.le_of_ble_eq_true rfl) dX6_counted_205 ⟨Nat.zero_le _, Nat.zero_le _⟩ ?_
    refine k9_sub (lv' := []) [] rfl ?_
    exact (l11 c11)
  rcases Classical.em (a0 = (11 : Int32)) with c12 | c12
  · refine k9_tswIn (tgt := 209) X dX6_counted_1 (11 : Int32) c12 (by decide) (by decide) (by rfl) (by decide) ?_
    refine k9_aload_n X dX6_counted_209 rfl 0 rfl ?_
    refine k9_gX6_1 X in_X6_counted_X6 fl_X6_counted_19 dX6_counted_210 ?_
    refine k9_aload_n X dX6_counted_213 rfl 0 rfl ?_
    refine k9_gX6_0 X in_X6_counted_X6 fl_X6_counted_12 dX6_counted_214 ?_
    refine k9_gX3_4 (q := 1) (q1 := 6) X (by decide) (by rfl) in_X6_counted_X3 fl_X6_counted_139 dX6_counted_217 ?_
    refine k9_callVi1 X (k14 c12) k9_ob_57 (cwV 1 X.2.2.2.2.1 gX6_counted_X1_holesOfWrong rfl rfl rfl (by decide +kernel) ⟨Nat.le_of_ble_eq_true rfl, Nat.le_of_ble_eq_true rfl⟩) (Nat.le_of_ble_eq_true rfl) dX6_counted_220 ⟨Nat.zero_le _, Nat.zero_le _⟩ ?_
    refine k9_sub (lv' := []) [] rfl ?_
    exact (l12 c12)
  rcases Classical.em (a0 = (12 : Int32)) with c13 | c13
  · refine k9_tswIn (tgt := 224) X dX6_counted_1 (12 : Int32) c13 (by decide) (by decide) (by rfl) (by decide) ?_
    refine k9_aload_n X dX6_counted_224 rfl 0 rfl ?_
    refine k9_gX6_0 X in_X6_counted_X6 fl_X6_counted_12 dX6_counted_225 ?_
    refine k9_callVi0 X (k15 c13) (k9_ob_P (by decide)) (cwV 0 X.2.2.2.2.1 gX6_counted_X3_openHoles rfl rfl rfl (by decide +kernel) ⟨Nat.le_of_ble_eq_true rfl, Nat.le_of_ble_eq_true rfl⟩) (Nat.le_of_ble_eq_true rfl) dX6_counted_228 ⟨Nat.zero_le _, Nat.zero_le _⟩ ?_
    refine k9_aload_n X dX6_counted_231 rfl 0 rfl ?_
    refine k9_gX6_1 X in_X6_counted_X6 fl_X6_counted_19 dX6_counted_232 ?_
    refine k9_gX1_0 X in_X6_counted_X1 fl_X6_counted_349 dX6_counted_235 ?_
    refine k9_ldc_w X co_X6_counted_352 dX6_counted_238 ?_
    refine k9_callSi2 X (k16 c13)  (va_cwS 2 X.2.2.2.2.1 gX6_counted_X6_bitsIn rfl rfl rfl (by decide +kernel) ⟨Nat.le_of_ble_eq_true rfl, Nat.le_of_ble_eq_true rfl⟩) (Nat.le_of_ble_eq_true rfl) dX6_counted_241 ⟨Nat.zero_le _, Nat.zero_le _⟩ ?_
    refine k9_isub X dX6_counted_244 ?_
    refine k9_sub (lv' := []) [] rfl ?_
    exact (l13 c13)
  rcases Classical.em (a0 = (13 : Int32)) with c14 | c14
  · refine k9_tswIn (tgt := 246) X dX6_counted_1 (13 : Int32) c14 (by decide) (by decide) (by rfl) (by decide) ?_
    refine k9_aload_n X dX6_counted_246 rfl 0 rfl ?_
    refine k9_gX6_0 X in_X6_counted_X6 fl_X6_counted_12 dX6_counted_247 ?_
    refine k9_callVi0 X (k17 c14) (k9_ob_P (by decide)) (cwV 0 X.2.2.2.2.1 gX6_counted_X3_tornSteps rfl rfl rfl (by decide +kernel) ⟨Nat.le_of_ble_eq_true rfl, Nat.le_of_ble_eq_true rfl⟩) (Nat.le_of_ble_eq_true rfl) dX6_counted_250 ⟨Nat.zero_le _, Nat.zero_le _⟩ ?_
    refine k9_sub (lv' := []) [] rfl ?_
    exact (l14 c14)
  refine k9_tswOut (tgt := 254) X dX6_counted_1 (k9_swOut 14 (by decide) (by intro j hj; rcases (show j = 0 ∨ j = 1 ∨ j = 2 ∨ j = 3 ∨ j = 4 ∨ j = 5 ∨ j = 6 ∨ j = 7 ∨ j = 8 ∨ j = 9 ∨ j = 10 ∨ j = 11 ∨ j = 12 ∨ j = 13 by omega) with rfl | rfl | rfl | rfl | rfl | rfl | rfl | rfl | rfl | rfl | rfl | rfl | rfl | rfl <;> assumption)) (by decide) (by decide) ?_
  refine k9_aload_n X dX6_counted_254 rfl 0 rfl ?_
  refine k9_gX6_2 X in_X6_counted_X6 fl_X6_counted_26 dX6_counted_255 ?_
  refine k9_callVi0 X (k18 c1 c2 c3 c4 c5 c6 c7 c8 c9 c10 c11 c12 c13 c14) k9_ob_64 (cwV 0 X.2.2.2.2.1 gX6_counted_X4_size rfl rfl rfl (by decide +kernel) ⟨Nat.le_of_ble_eq_true rfl, Nat.le_of_ble_eq_true rfl⟩) (Nat.le_of_ble_eq_true rfl) dX6_counted_258 ⟨Nat.zero_le _, Nat.zero_le _⟩ ?_
  refine k9_sub (lv' := []) [] rfl ?_
  exact (l15 c1 c2 c3 c4 c5 c6 c7 c8 c9 c10 c11 c12 c13 c14)

set_option maxRecDepth 20000 in
theorem bk_X6_bitsIn_0 (X : k9_X p R s m args c A G 7 cX6_bitsIn wsX6_bitsIn RX6 rm_X6_bitsIn) {k : Nat} (hk : k9_ar k 96) {a1 : Int32}
    (l1 : k9_U p l e R s m args below meth c Q A G 7 0 0 M 11 [(1, .int a1), (2, .int (0 : Int32)), (3, .ref (k9_ga G k)), (4, .int (96 : Int32)), (5, .int (0 : Int32))] []) : k9_U p l e R s m args below meth c Q A G 7 0 0 M 0 [(0, .ref (k9_ga G k)), (1, .int a1)] [] := by
  refine k9_iconst (v := 0) X dX6_bitsIn_0 (by decide) ?_
  refine k9_istore_n (lv' := [(0, .ref (k9_ga G k)), (1, .int a1), (2, .int (0 : Int32))]) X dX6_bitsIn_1 rfl (by decide) [1, 2, 0] rfl ?_
  refine k9_aload_n X dX6_bitsIn_2 rfl 0 rfl ?_
  refine k9_astore_n (lv' := [(0, .ref (k9_ga G k)), (1, .int a1), (2, .int (0 : Int32)), (3, .ref (k9_ga G k))]) X dX6_bitsIn_3 rfl (by decide) [1, 2, 3, 0] rfl ?_
  refine k9_aload_n X dX6_bitsIn_4 rfl 3 rfl ?_
  refine k9_alenL (n := 96) (v := 96) X rfl hk dX6_bitsIn_5 ?_
  refine k9_istore (lv' := [(0, .ref (k9_ga G k)), (1, .int a1), (2, .int (0 : Int32)), (3, .ref (k9_ga G k)), (4, .int (96 : Int32))]) X dX6_bitsIn_6 (by decide) [1, 2, 3, 4, 0] rfl ?_
  refine k9_iconst (v := 0) X dX6_bitsIn_8 (by decide) ?_
  refine k9_istore (lv' := [(0, .ref (k9_ga G k)), (1, .int a1), (2, .int (0 : Int32)), (3, .ref (k9_ga G k)), (4, .int (96 : Int32)), (5, .int (0 : Int32))]) X dX6_bitsIn_9 (by decide) [1, 2, 3, 4, 5, 0] rfl ?_
  refine k9_sub (lv' := [(1, .int a1), (2, .int (0 : Int32)), (3, .ref (k9_ga G k)), (4, .int (96 : Int32)), (5, .int (0 : Int32))]) [1, 2, 3, 4, 5] rfl ?_
  exact l1

set_option maxRecDepth 20000 in
theorem bk_X6_bitsIn_11 (X : k9_X p R s m args c A G 7 cX6_bitsIn wsX6_bitsIn RX6 rm_X6_bitsIn) {k : Nat} (hk : k9_ar k 96) {x1 x2 x4 x5 : Int32} {rv1 : Int32}
    (l1 : (x4 ≤ x5) → k9_U p l e R s m args below meth c Q A G 7 0 0 M 41 [] [.int x2])
    (o1 : (¬ (x4 ≤ x5)) → vp_in x5 96)
    (k1 : (¬ (x4 ≤ x5)) → k9_Ci l yJ6_bitCount_0f7a4 wsJ6_bitCount_0f7a4 rm_J6_bitCount_0f7a4 G M [.int ((M k x5.toNatClampNeg) &&& x1)] rv1 M)
    (l2 : (¬ (x4 ≤ x5)) → k9_U p l e R s m args below meth c Q A G 7 0 0 M 11 [(1, .int x1), (2, .int (x2 + rv1)), (3, .ref (k9_ga G k)), (4, .int x4), (5, .int (x5 + (1 : Int32)))] []) : k9_U p l e R s m args below meth c Q A G 7 0 0 M 11 [(1, .int x1), (2, .int x2), (3, .ref (k9_ga G k)), (4, .int x4), (5, .int x5)] [] := by
  refine k9_iload X dX6_bitsIn_11 4 rfl ?_
  refine k9_iload X dX6_bitsIn_13 3 rfl ?_
  refine k9_icmp_ge (tgt := 40) X dX6_bitsIn_15 (by decide) (fun c1 => ?_) (fun c1 => ?_)
  · refine k9_iload_n X dX6_bitsIn_40 rfl 1 rfl ?_
    refine k9_sub (lv' := []) [] rfl ?_
    exact (l1 c1)
  · refine k9_aload_n X dX6_bitsIn_18 rfl 2 rfl ?_
    refine k9_iload X dX6_bitsIn_19 4 rfl ?_
    refine k9_iald X hk (o1 c1) (by rfl) dX6_bitsIn_21 ?_
    refine k9_istore (lv' := [(1, .int x1), (2, .int x2), (3, .ref (k9_ga G k)), (4, .int x4), (5, .int x5), (6, .int (M k x5.toNatClampNeg))]) X dX6_bitsIn_22 (by decide) [1, 2, 3, 4, 5, 0] rfl ?_
    refine k9_iload_n X dX6_bitsIn_24 rfl 1 rfl ?_
    refine k9_iload X dX6_bitsIn_25 5 rfl ?_
    refine k9_iload_n X dX6_bitsIn_27 rfl 0 rfl ?_
    refine k9_iand X dX6_bitsIn_28 ?_
    refine k9_callSi1 X (k1 c1)  (va_cwS 1 X.2.2.2.2.1 gX6_bitsIn_J6_bitCount_0f7a4 rfl rfl rfl (by decide +kernel) ⟨Nat.le_of_ble_eq_true rfl, Nat.le_of_ble_eq_true rfl⟩) (Nat.le_of_ble_eq_true rfl) dX6_bitsIn_29 ⟨Nat.zero_le _, Nat.zero_le _⟩ ?_
    refine k9_iadd X dX6_bitsIn_32 ?_
    refine k9_istore_n (lv' := [(1, .int x1), (2, .int (x2 + rv1)), (3, .ref (k9_ga G k)), (4, .int x4), (5, .int x5), (6, .int (M k x5.toNatClampNeg))]) X dX6_bitsIn_33 rfl (by decide) [1, 0, 2, 3, 4, 5] rfl ?_
    refine k9_iinc (v := x5 + (1 : Int32)) (lv' := [(1, .int x1), (2, .int (x2 + rv1)), (3, .ref (k9_ga G k)), (4, .int x4), (5, .int (x5 + (1 : Int32))), (6, .int (M k x5.toNatClampNeg))]) X dX6_bitsIn_34 (k := 4) rfl (by rfl) (by decide) [1, 2, 3, 4, 0, 5] rfl ?_
    refine k9_goto (tgt := 11) X dX6_bitsIn_37 (by decide) ?_
    refine k9_sub (lv' := [(1, .int x1), (2, .int (x2 + rv1)), (3, .ref (k9_ga G k)), (4, .int x4), (5, .int (x5 + (1 : Int32)))]) [0, 1, 2, 3, 4] rfl ?_
    exact (l2 c1)

set_option maxRecDepth 20000 in
theorem bk_X6_isStep_0 (X : k9_X p R s m args c A G 1 cX6_isStep wsX6_isStep RX6 rm_X6_isStep) {a0 : Int32}
    (l1 : (a0 < 0) → k9_U p l e R s m args below meth c Q A G 1 0 0 M 15 [] [.int (0 : Int32)])
    (l2 : (¬ (a0 < 0)) → ((96 : Int32) ≤ a0) → k9_U p l e R s m args below meth c Q A G 1 0 0 M 15 [] [.int (0 : Int32)])
    (l3 : (¬ (a0 < 0)) → (¬ ((96 : Int32) ≤ a0)) → k9_U p l e R s m args below meth c Q A G 1 0 0 M 15 [] [.int (1 : Int32)]) : k9_U p l e R s m args below meth c Q A G 1 0 0 M 0 [(0, .int a0)] [] := by
  refine k9_iload_n X dX6_isStep_0 rfl 0 rfl ?_
  refine k9_if_lt (tgt := 14) X dX6_isStep_1 (by decide) (fun c1 => ?_) (fun c1 => ?_)
  · refine k9_iconst (v := 0) X dX6_isStep_14 (by decide) ?_
    refine k9_sub (lv' := []) [] rfl ?_
    exact (l1 c1)
  · refine k9_iload_n X dX6_isStep_4 rfl 0 rfl ?_
    refine k9_bipush (v := 96) X dX6_isStep_5 (by decide) ?_
    refine k9_icmp_ge (tgt := 14) X dX6_isStep_7 (by decide) (fun c2 => ?_) (fun c2 => ?_)
    · refine k9_iconst (v := 0) X dX6_isStep_14 (by decide) ?_
      refine k9_sub (lv' := []) [] rfl ?_
      exact (l2 c1 c2)
    · refine k9_iconst (v := 1) X dX6_isStep_10 (by decide) ?_
      refine k9_goto (tgt := 15) X dX6_isStep_11 (by decide) ?_
      refine k9_sub (lv' := []) [] rfl ?_
      exact (l3 c1 c2)

set_option maxRecDepth 20000 in
theorem bk_X6_fits_0 (X : k9_X p R s m args c A G 2 cX6_fits wsX6_fits RX6 rm_X6_fits) {a0 a1 : Int32}
    (l1 : ((96 : Int32) < (a0 + a1)) → k9_U p l e R s m args below meth c Q A G 2 0 0 M 13 [] [.int (0 : Int32)])
    (l2 : (¬ ((96 : Int32) < (a0 + a1))) → k9_U p l e R s m args below meth c Q A G 2 0 0 M 13 [] [.int (1 : Int32)]) : k9_U p l e R s m args below meth c Q A G 2 0 0 M 0 [(0, .int a0), (1, .int a1)] [] := by
  refine k9_iload_n X dX6_fits_0 rfl 0 rfl ?_
  refine k9_iload_n X dX6_fits_1 rfl 1 rfl ?_
  refine k9_iadd X dX6_fits_2 ?_
  refine k9_bipush (v := 96) X dX6_fits_3 (by decide) ?_
  refine k9_icmp_gt (tgt := 12) X dX6_fits_5 (by decide) (fun c1 => ?_) (fun c1 => ?_)
  · refine k9_iconst (v := 0) X dX6_fits_12 (by decide) ?_
    refine k9_sub (lv' := []) [] rfl ?_
    exact (l1 c1)
  · refine k9_iconst (v := 1) X dX6_fits_8 (by decide) ?_
    refine k9_goto (tgt := 13) X dX6_fits_9 (by decide) ?_
    refine k9_sub (lv' := []) [] rfl ?_
    exact (l2 c1)

set_option maxRecDepth 20000 in
theorem bk_X6_needSteps_0 (X : k9_X p R s m args c A G 2 cX6_needSteps wsX6_needSteps RX6 rm_X6_needSteps) {a0 a1 : Int32} {rv1 : Int32} {rv2 : Int32}
    (k1 : k9_Ci l yX6_isStep wsX6_isStep rm_X6_isStep G M [.int a0] rv1 M)
    (l1 : (rv1 = 0) → k9_U p l e R s m args below meth c Q A G 2 0 0 M 14 [] [])
    (k2 : (¬ (rv1 = 0)) → k9_Ci l yX6_isStep wsX6_isStep rm_X6_isStep G M [.int a1] rv2 M)
    (l2 : (¬ (rv1 = 0)) → (¬ rv2 = 0) → (a0 ≤ a1) → k9_U p l e R s m args below meth c Q A G 2 0 0 M 40 [] [])
    (l3 : (¬ (rv1 = 0)) → (¬ rv2 = 0) → (¬ (a0 ≤ a1)) → k9_U p l e R s m args below meth c Q A G 2 0 0 M 29 [] [])
    (l4 : (¬ (rv1 = 0)) → (rv2 = 0) → k9_U p l e R s m args below meth c Q A G 2 0 0 M 14 [] []) : k9_U p l e R s m args below meth c Q A G 2 0 0 M 0 [(0, .int a0), (1, .int a1)] [] := by
  refine k9_iload_n X dX6_needSteps_0 rfl 0 rfl ?_
  refine k9_callSi1 X k1  (va_cwS 1 X.2.2.2.2.1 gX6_needSteps_X6_isStep rfl rfl rfl (by decide +kernel) ⟨Nat.le_of_ble_eq_true rfl, Nat.le_of_ble_eq_true rfl⟩) (Nat.le_of_ble_eq_true rfl) dX6_needSteps_1 ⟨Nat.zero_le _, Nat.zero_le _⟩ ?_
  refine k9_if_eq (tgt := 14) X dX6_needSteps_4 (by decide) (fun c1 => ?_) (fun c1 => ?_)
  · refine k9_sub (lv' := []) [] rfl ?_
    exact (l1 c1)
  · refine k9_iload_n X dX6_needSteps_7 rfl 1 rfl ?_
    refine k9_callSi1 X (k2 c1)  (va_cwS 1 X.2.2.2.2.1 gX6_needSteps_X6_isStep rfl rfl rfl (by decide +kernel) ⟨Nat.le_of_ble_eq_true rfl, Nat.le_of_ble_eq_true rfl⟩) (Nat.le_of_ble_eq_true rfl) dX6_needSteps_8 ⟨Nat.zero_le _, Nat.zero_le _⟩ ?_
    refine k9_if_ne (tgt := 24) X dX6_needSteps_11 (by decide) (fun c2 => ?_) (fun c2 => ?_)
    · refine k9_iload_n X dX6_needSteps_24 rfl 1 rfl ?_
      refine k9_iload_n X dX6_needSteps_25 rfl 0 rfl ?_
      refine k9_icmp_ge (tgt := 40) X dX6_needSteps_26 (by decide) (fun c3 => ?_) (fun c3 => ?_)
      · refine k9_sub (lv' := []) [] rfl ?_
        exact (l2 c1 c2 c3)
      · refine k9_sub (lv' := []) [] rfl ?_
        exact (l3 c1 c2 c3)
    · refine k9_sub (lv' := []) [] rfl ?_
      exact (l4 c1 c2)

set_option maxRecDepth 20000 in
theorem bk_X6_needTrack_0 (X : k9_X p R s m args c A G 1 cX6_needTrack wsX6_needTrack RX6 rm_X6_needTrack) {a0 : Int32}
    (l1 : (a0 < 0) → k9_U p l e R s m args below meth c Q A G 1 0 0 M 10 [] [])
    (l2 : (¬ (a0 < 0)) → (a0 < (26 : Int32)) → k9_U p l e R s m args below meth c Q A G 1 0 0 M 21 [] [])
    (l3 : (¬ (a0 < 0)) → (¬ (a0 < (26 : Int32))) → k9_U p l e R s m args below meth c Q A G 1 0 0 M 10 [] []) : k9_U p l e R s m args below meth c Q A G 1 0 0 M 0 [(0, .int a0)] [] := by
  refine k9_iload_n X dX6_needTrack_0 rfl 0 rfl ?_
  refine k9_if_lt (tgt := 10) X dX6_needTrack_1 (by decide) (fun c1 => ?_) (fun c1 => ?_)
  · refine k9_sub (lv' := []) [] rfl ?_
    exact (l1 c1)
  · refine k9_iload_n X dX6_needTrack_4 rfl 0 rfl ?_
    refine k9_bipush (v := 26) X dX6_needTrack_5 (by decide) ?_
    refine k9_icmp_lt (tgt := 21) X dX6_needTrack_7 (by decide) (fun c2 => ?_) (fun c2 => ?_)
    · refine k9_sub (lv' := []) [] rfl ?_
      exact (l2 c1 c2)
    · refine k9_sub (lv' := []) [] rfl ?_
      exact (l3 c1 c2)

set_option maxRecDepth 20000 in
theorem bk_X6_needSetting_0 (X : k9_X p R s m args c A G 1 cX6_needSetting wsX6_needSetting RX6 rm_X6_needSetting) {a0 : Int32}
    (l1 : (a0 < 0) → k9_U p l e R s m args below meth c Q A G 1 0 0 M 9 [] [])
    (l2 : (¬ (a0 < 0)) → (a0 ≤ (1 : Int32)) → k9_U p l e R s m args below meth c Q A G 1 0 0 M 20 [] [])
    (l3 : (¬ (a0 < 0)) → (¬ (a0 ≤ (1 : Int32))) → k9_U p l e R s m args below meth c Q A G 1 0 0 M 9 [] []) : k9_U p l e R s m args below meth c Q A G 1 0 0 M 0 [(0, .int a0)] [] := by
  refine k9_iload_n X dX6_needSetting_0 rfl 0 rfl ?_
  refine k9_if_lt (tgt := 9) X dX6_needSetting_1 (by decide) (fun c1 => ?_) (fun c1 => ?_)
  · refine k9_sub (lv' := []) [] rfl ?_
    exact (l1 c1)
  · refine k9_iload_n X dX6_needSetting_4 rfl 0 rfl ?_
    refine k9_iconst (v := 1) X dX6_needSetting_5 (by decide) ?_
    refine k9_icmp_le (tgt := 20) X dX6_needSetting_6 (by decide) (fun c2 => ?_) (fun c2 => ?_)
    · refine k9_sub (lv' := []) [] rfl ?_
      exact (l2 c1 c2)
    · refine k9_sub (lv' := []) [] rfl ?_
      exact (l3 c1 c2)

set_option maxRecDepth 20000 in
theorem bk_X6_needAside_0 (X : k9_X p R s m args c A G 1 cX6_needAside wsX6_needAside RX6 rm_X6_needAside) {a0 : Int32}
    (l1 : (a0 < (-3 : Int32)) → k9_U p l e R s m args below meth c Q A G 1 0 0 M 11 [] [])
    (l2 : (¬ (a0 < (-3 : Int32))) → (a0 ≤ (3 : Int32)) → k9_U p l e R s m args below meth c Q A G 1 0 0 M 22 [] [])
    (l3 : (¬ (a0 < (-3 : Int32))) → (¬ (a0 ≤ (3 : Int32))) → k9_U p l e R s m args below meth c Q A G 1 0 0 M 11 [] []) : k9_U p l e R s m args below meth c Q A G 1 0 0 M 0 [(0, .int a0)] [] := by
  refine k9_iload_n X dX6_needAside_0 rfl 0 rfl ?_
  refine k9_bipush (v := -3) X dX6_needAside_1 (by decide) ?_
  refine k9_icmp_lt (tgt := 11) X dX6_needAside_3 (by decide) (fun c1 => ?_) (fun c1 => ?_)
  · refine k9_sub (lv' := []) [] rfl ?_
    exact (l1 c1)
  · refine k9_iload_n X dX6_needAside_6 rfl 0 rfl ?_
    refine k9_iconst (v := 3) X dX6_needAside_7 (by decide) ?_
    refine k9_icmp_le (tgt := 22) X dX6_needAside_8 (by decide) (fun c2 => ?_) (fun c2 => ?_)
    · refine k9_sub (lv' := []) [] rfl ?_
      exact (l2 c1 c2)
    · refine k9_sub (lv' := []) [] rfl ?_
      exact (l3 c1 c2)

set_option maxRecDepth 20000 in
theorem bk_X6_needLength_0 (X : k9_X p R s m args c A G 1 cX6_needLength wsX6_needLength RX6 rm_X6_needLength) {a0 : Int32}
    (l1 : (a0 < (1 : Int32)) → k9_U p l e R s m args below meth c Q A G 1 0 0 M 11 [] [])
    (l2 : (¬ (a0 < (1 : Int32))) → (a0 ≤ (96 : Int32)) → k9_U p l e R s m args below meth c Q A G 1 0 0 M 22 [] [])
    (l3 : (¬ (a0 < (1 : Int32))) → (¬ (a0 ≤ (96 : Int32))) → k9_U p l e R s m args below meth c Q A G 1 0 0 M 11 [] []) : k9_U p l e R s m args below meth c Q A G 1 0 0 M 0 [(0, .int a0)] [] := by
  refine k9_iload_n X dX6_needLength_0 rfl 0 rfl ?_
  refine k9_iconst (v := 1) X dX6_needLength_1 (by decide) ?_
  refine k9_icmp_lt (tgt := 11) X dX6_needLength_2 (by decide) (fun c1 => ?_) (fun c1 => ?_)
  · refine k9_sub (lv' := []) [] rfl ?_
    exact (l1 c1)
  · refine k9_iload_n X dX6_needLength_5 rfl 0 rfl ?_
    refine k9_bipush (v := 96) X dX6_needLength_6 (by decide) ?_
    refine k9_icmp_le (tgt := 22) X dX6_needLength_8 (by decide) (fun c2 => ?_) (fun c2 => ?_)
    · refine k9_sub (lv' := []) [] rfl ?_
      exact (l2 c1 c2)
    · refine k9_sub (lv' := []) [] rfl ?_
      exact (l3 c1 c2)

set_option maxRecDepth 20000 in
theorem bk_X6_needWhat_0 (X : k9_X p R s m args c A G 2 cX6_needWhat wsX6_needWhat RX6 rm_X6_needWhat) {a0 a1 : Int32}
    (l1 : (a0 < 0) → k9_U p l e R s m args below meth c Q A G 2 0 0 M 9 [] [])
    (l2 : (¬ (a0 < 0)) → (a0 ≤ a1) → k9_U p l e R s m args below meth c Q A G 2 0 0 M 20 [] [])
    (l3 : (¬ (a0 < 0)) → (¬ (a0 ≤ a1)) → k9_U p l e R s m args below meth c Q A G 2 0 0 M 9 [] []) : k9_U p l e R s m args below meth c Q A G 2 0 0 M 0 [(0, .int a0), (1, .int a1)] [] := by
  refine k9_iload_n X dX6_needWhat_0 rfl 0 rfl ?_
  refine k9_if_lt (tgt := 9) X dX6_needWhat_1 (by decide) (fun c1 => ?_) (fun c1 => ?_)
  · refine k9_sub (lv' := []) [] rfl ?_
    exact (l1 c1)
  · refine k9_iload_n X dX6_needWhat_4 rfl 0 rfl ?_
    refine k9_iload_n X dX6_needWhat_5 rfl 1 rfl ?_
    refine k9_icmp_le (tgt := 20) X dX6_needWhat_6 (by decide) (fun c2 => ?_) (fun c2 => ?_)
    · refine k9_sub (lv' := []) [] rfl ?_
      exact (l2 c1 c2)
    · refine k9_sub (lv' := []) [] rfl ?_
      exact (l3 c1 c2)

end BK
