section BK
variable {p : Program} {l : Launch} {e : Env} {R : Room} {s : State} {m : MethodId} {args : Array Value} {below : List Frame} {meth : Method} {c : Code} {Q : State → Prop} {A : Nat → Prop} {G : k9_G} {M : k9_Mem}
theorem co_J6_bitCount_0f7a4_265 : Cond.constant RJ6 265 (1431655765) ∈ wsJ6_bitCount_0f7a4 := by decide +kernel
theorem co_J6_bitCount_0f7a4_266 : Cond.constant RJ6 266 (858993459) ∈ wsJ6_bitCount_0f7a4 := by decide +kernel
theorem co_J6_bitCount_0f7a4_267 : Cond.constant RJ6 267 (252645135) ∈ wsJ6_bitCount_0f7a4 := by decide +kernel
set_option maxRecDepth 20000 in
theorem bk_J6_bitCount_0f7a4_0 (X : k9_X p R s m args c A G 1 cJ6_bitCount_0f7a4 wsJ6_bitCount_0f7a4 RJ6 rm_J6_bitCount_0f7a4) {a0 : Int32}
    (l1 : k9_U p l e R s m args below meth c Q A G 1 0 0 M 10 [(0, .int (a0 - (((a0.toUInt32 >>> ((1 : Int32).toUInt32 &&& Int32.toUInt32 31)).toInt32) &&& (1431655765 : Int32))))] []) : k9_U p l e R s m args below meth c Q A G 1 0 0 M 0 [(0, .int a0)] [] := by
  refine k9_iload_n X dJ6_bitCount_0f7a4_0 rfl 0 rfl ?_
  refine k9_iload_n X dJ6_bitCount_0f7a4_1 rfl 0 rfl ?_
  refine k9_iconst (v := 1) X dJ6_bitCount_0f7a4_2 (by decide) ?_
  refine k9_iushr X dJ6_bitCount_0f7a4_3 ?_
  refine k9_ldc_w X co_J6_bitCount_0f7a4_265 dJ6_bitCount_0f7a4_4 ?_
  refine k9_iand X dJ6_bitCount_0f7a4_7 ?_
  refine k9_isub X dJ6_bitCount_0f7a4_8 ?_
  refine k9_istore_n (lv' := [(0, .int (a0 - (((a0.toUInt32 >>> ((1 : Int32).toUInt32 &&& Int32.toUInt32 31)).toInt32) &&& (1431655765 : Int32))))]) X dJ6_bitCount_0f7a4_9 rfl (by decide) [0] rfl ?_
  exact l1

set_option maxRecDepth 20000 in
theorem bk_J6_bitCount_0f7a4_10 (X : k9_X p R s m args c A G 1 cJ6_bitCount_0f7a4 wsJ6_bitCount_0f7a4 RJ6 rm_J6_bitCount_0f7a4) {x0 : Int32}
    (l1 : k9_U p l e R s m args below meth c Q A G 1 0 0 M 24 [(0, .int ((x0 &&& (858993459 : Int32)) + (((x0.toUInt32 >>> ((2 : Int32).toUInt32 &&& Int32.toUInt32 31)).toInt32) &&& (858993459 : Int32))))] []) : k9_U p l e R s m args below meth c Q A G 1 0 0 M 10 [(0, .int x0)] [] := by
  refine k9_iload_n X dJ6_bitCount_0f7a4_10 rfl 0 rfl ?_
  refine k9_ldc_w X co_J6_bitCount_0f7a4_266 dJ6_bitCount_0f7a4_11 ?_
  refine k9_iand X dJ6_bitCount_0f7a4_14 ?_
  refine k9_iload_n X dJ6_bitCount_0f7a4_15 rfl 0 rfl ?_
  refine k9_iconst (v := 2) X dJ6_bitCount_0f7a4_16 (by decide) ?_
  refine k9_iushr X dJ6_bitCount_0f7a4_17 ?_
  refine k9_ldc_w X co_J6_bitCount_0f7a4_266 dJ6_bitCount_0f7a4_18 ?_
  refine k9_iand X dJ6_bitCount_0f7a4_21 ?_
  refine k9_iadd X dJ6_bitCount_0f7a4_22 ?_
  refine k9_istore_n (lv' := [(0, .int ((x0 &&& (858993459 : Int32)) + (((x0.toUInt32 >>> ((2 : Int32).toUInt32 &&& Int32.toUInt32 31)).toInt32) &&& (858993459 : Int32))))]) X dJ6_bitCount_0f7a4_23 rfl (by decide) [0] rfl ?_
  exact l1

set_option maxRecDepth 20000 in
theorem bk_J6_bitCount_0f7a4_24 (X : k9_X p R s m args c A G 1 cJ6_bitCount_0f7a4 wsJ6_bitCount_0f7a4 RJ6 rm_J6_bitCount_0f7a4) {x0 : Int32}
    (l1 : k9_U p l e R s m args below meth c Q A G 1 0 0 M 34 [(0, .int ((x0 + ((x0.toUInt32 >>> ((4 : Int32).toUInt32 &&& Int32.toUInt32 31)).toInt32)) &&& (252645135 : Int32)))] []) : k9_U p l e R s m args below meth c Q A G 1 0 0 M 24 [(0, .int x0)] [] := by
  refine k9_iload_n X dJ6_bitCount_0f7a4_24 rfl 0 rfl ?_
  refine k9_iload_n X dJ6_bitCount_0f7a4_25 rfl 0 rfl ?_
  refine k9_iconst (v := 4) X dJ6_bitCount_0f7a4_26 (by decide) ?_
  refine k9_iushr X dJ6_bitCount_0f7a4_27 ?_
  refine k9_iadd X dJ6_bitCount_0f7a4_28 ?_
  refine k9_ldc_w X co_J6_bitCount_0f7a4_267 dJ6_bitCount_0f7a4_29 ?_
  refine k9_iand X dJ6_bitCount_0f7a4_32 ?_
  refine k9_istore_n (lv' := [(0, .int ((x0 + ((x0.toUInt32 >>> ((4 : Int32).toUInt32 &&& Int32.toUInt32 31)).toInt32)) &&& (252645135 : Int32)))]) X dJ6_bitCount_0f7a4_33 rfl (by decide) [0] rfl ?_
  exact l1

set_option maxRecDepth 20000 in
theorem bk_J6_bitCount_0f7a4_34 (X : k9_X p R s m args c A G 1 cJ6_bitCount_0f7a4 wsJ6_bitCount_0f7a4 RJ6 rm_J6_bitCount_0f7a4) {x0 : Int32}
    (l1 : k9_U p l e R s m args below meth c Q A G 1 0 0 M 41 [(0, .int (x0 + ((x0.toUInt32 >>> ((8 : Int32).toUInt32 &&& Int32.toUInt32 31)).toInt32)))] []) : k9_U p l e R s m args below meth c Q A G 1 0 0 M 34 [(0, .int x0)] [] := by
  refine k9_iload_n X dJ6_bitCount_0f7a4_34 rfl 0 rfl ?_
  refine k9_iload_n X dJ6_bitCount_0f7a4_35 rfl 0 rfl ?_
  refine k9_bipush (v := 8) X dJ6_bitCount_0f7a4_36 (by decide) ?_
  refine k9_iushr X dJ6_bitCount_0f7a4_38 ?_
  refine k9_iadd X dJ6_bitCount_0f7a4_39 ?_
  refine k9_istore_n (lv' := [(0, .int (x0 + ((x0.toUInt32 >>> ((8 : Int32).toUInt32 &&& Int32.toUInt32 31)).toInt32)))]) X dJ6_bitCount_0f7a4_40 rfl (by decide) [0] rfl ?_
  exact l1

set_option maxRecDepth 20000 in
theorem bk_J6_bitCount_0f7a4_41 (X : k9_X p R s m args c A G 1 cJ6_bitCount_0f7a4 wsJ6_bitCount_0f7a4 RJ6 rm_J6_bitCount_0f7a4) {x0 : Int32}
    (l1 : k9_U p l e R s m args below meth c Q A G 1 0 0 M 48 [(0, .int (x0 + ((x0.toUInt32 >>> ((16 : Int32).toUInt32 &&& Int32.toUInt32 31)).toInt32)))] []) : k9_U p l e R s m args below meth c Q A G 1 0 0 M 41 [(0, .int x0)] [] := by
  refine k9_iload_n X dJ6_bitCount_0f7a4_41 rfl 0 rfl ?_
  refine k9_iload_n X dJ6_bitCount_0f7a4_42 rfl 0 rfl ?_
  refine k9_bipush (v := 16) X dJ6_bitCount_0f7a4_43 (by decide) ?_
  refine k9_iushr X dJ6_bitCount_0f7a4_45 ?_
  refine k9_iadd X dJ6_bitCount_0f7a4_46 ?_
  refine k9_istore_n (lv' := [(0, .int (x0 + ((x0.toUInt32 >>> ((16 : Int32).toUInt32 &&& Int32.toUInt32 31)).toInt32)))]) X dJ6_bitCount_0f7a4_47 rfl (by decide) [0] rfl ?_
  exact l1

set_option maxRecDepth 20000 in
theorem bk_J6_bitCount_0f7a4_48 (X : k9_X p R s m args c A G 1 cJ6_bitCount_0f7a4 wsJ6_bitCount_0f7a4 RJ6 rm_J6_bitCount_0f7a4) {x0 : Int32}
    (l1 : k9_U p l e R s m args below meth c Q A G 1 0 0 M 52 [] [.int (x0 &&& (63 : Int32))]) : k9_U p l e R s m args below meth c Q A G 1 0 0 M 48 [(0, .int x0)] [] := by
  refine k9_iload_n X dJ6_bitCount_0f7a4_48 rfl 0 rfl ?_
  refine k9_bipush (v := 63) X dJ6_bitCount_0f7a4_49 (by decide) ?_
  refine k9_iand X dJ6_bitCount_0f7a4_51 ?_
  refine k9_sub (lv' := []) [] rfl ?_
  exact l1

theorem in_X0_link_X0 : ∀ w ∈ u_ws RX0 TX0 2, w ∈ wsX0_link := by decide +kernel
theorem fl_X0_link_9 : Cond.fieldLink RX0 9 (TX0 0).1 (TX0 0).2.1 (TX0 0).2.2.1 ∈ wsX0_link := by decide +kernel
theorem fl_X0_link_15 : Cond.fieldLink RX0 15 (TX0 1).1 (TX0 1).2.1 (TX0 1).2.2.1 ∈ wsX0_link := by decide +kernel
set_option maxRecDepth 20000 in
theorem bk_X0_link_0 (X : k9_X p R s m args c A G 7 cX0_link wsX0_link RX0 rm_X0_link) {q : Nat} (hq : k9_isC q) {k : Nat} (hk : k9_ar k 96) {a1 : Int32}
    (l1 : k9_U p l e R s m args below meth c Q A G 7 0 0 M 2 [(0, .ref (k9_ga G q)), (1, .ref (k9_ga G k)), (2, .int a1), (3, .int (0 : Int32))] []) : k9_U p l e R s m args below meth c Q A G 7 0 0 M 0 [(0, .ref (k9_ga G q)), (1, .ref (k9_ga G k)), (2, .int a1)] [] := by
  refine k9_iconst (v := 0) X dX0_link_0 (by decide) ?_
  refine k9_istore_n (lv' := [(0, .ref (k9_ga G q)), (1, .ref (k9_ga G k)), (2, .int a1), (3, .int (0 : Int32))]) X dX0_link_1 rfl (by decide) [1, 2, 3, 0] rfl ?_
  exact l1

set_option maxRecDepth 20000 in
theorem bk_X0_link_2 (X : k9_X p R s m args c A G 7 cX0_link wsX0_link RX0 rm_X0_link) {q : Nat} (hq : k9_isC q) {k : Nat} (hk : k9_ar k 96) {x2 x3 : Int32}
    (l1 : ((96 : Int32) ≤ x3) → k9_U p l e R s m args below meth c Q A G 7 0 0 M 122 [] [])
    (l2 : (¬ ((96 : Int32) ≤ x3)) → k9_U p l e R s m args below meth c Q A G 7 0 0 M 23 [(0, .ref (k9_ga G q)), (1, .ref (k9_ga G k)), (2, .int x2), (3, .int x3), (4, .int (0 : Int32)), (5, .int (0 : Int32)), (6, .int (1 : Int32))] []) : k9_U p l e R s m args below meth c Q A G 7 0 0 M 2 [(0, .ref (k9_ga G q)), (1, .ref (k9_ga G k)), (2, .int x2), (3, .int x3)] [] := by
  refine k9_iload_n X dX0_link_2 rfl 3 rfl ?_
  refine k9_bipush (v := 96) X dX0_link_3 (by decide) ?_
  refine k9_icmp_ge (tgt := 122) X dX0_link_5 (by decide) (fun c1 => ?_) (fun c1 => ?_)
  · refine k9_sub (lv' := []) [] rfl ?_
    exact (l1 c1)
  · refine k9_iload_n X dX0_link_8 rfl 3 rfl ?_
    refine k9_aload_n X dX0_link_9 rfl 1 rfl ?_
    refine k9_alenL (n := 96) (v := 96) X rfl hk dX0_link_10 ?_
    refine k9_icmp_ge (tgt := 122) X dX0_link_11 (by decide) (fun c => absurd c c1) (fun _ => ?_)
    refine k9_iconst (v := 0) X dX0_link_14 (by decide) ?_
    refine k9_istore (lv' := [(0, .ref (k9_ga G q)), (1, .ref (k9_ga G k)), (2, .int x2), (3, .int x3), (4, .int (0 : Int32))]) X dX0_link_15 (by decide) [1, 2, 3, 4, 0] rfl ?_
    refine k9_iconst (v := 0) X dX0_link_17 (by decide) ?_
    refine k9_istore (lv' := [(0, .ref (k9_ga G q)), (1, .ref (k9_ga G k)), (2, .int x2), (3, .int x3), (4, .int (0 : Int32)), (5, .int (0 : Int32))]) X dX0_link_18 (by decide) [1, 2, 3, 4, 5, 0] rfl ?_
    refine k9_iconst (v := 1) X dX0_link_20 (by decide) ?_
    refine k9_istore (lv' := [(0, .ref (k9_ga G q)), (1, .ref (k9_ga G k)), (2, .int x2), (3, .int x3), (4, .int (0 : Int32)), (5, .int (0 : Int32)), (6, .int (1 : Int32))]) X dX0_link_21 (by decide) [1, 2, 3, 4, 5, 6, 0] rfl ?_
    exact (l2 c1)

set_option maxRecDepth 20000 in
theorem bk_X0_link_23 (X : k9_X p R s m args c A G 7 cX0_link wsX0_link RX0 rm_X0_link) {q : Nat} (hq : k9_isC q) {k : Nat} (hk : k9_ar k 96) {x2 x3 x4 x5 x6 : Int32}
    (o1 : ((x2 + (1 : Int32)) < x6) → vp_in x3 96)
    (l1 : ((x2 + (1 : Int32)) < x6) → k9_U p l e R s m args below meth c Q A G 7 0 0 (k9_st (k9_st M (q + 1) x3.toNatClampNeg ((M k x3.toNatClampNeg) &&& (x4 ^^^ (-1 : Int32)))) (q + 2) x3.toNatClampNeg (((k9_st M (q + 1) x3.toNatClampNeg ((M k x3.toNatClampNeg) &&& (x4 ^^^ (-1 : Int32)))) k x3.toNatClampNeg) &&& (x5 ^^^ (-1 : Int32)))) 2 [(0, .ref (k9_ga G q)), (1, .ref (k9_ga G k)), (2, .int x2), (3, .int (x3 + (1 : Int32)))] [])
    (o2 : (¬ ((x2 + (1 : Int32)) < x6)) → vp_in x3 96)
    (l2 : (¬ ((x2 + (1 : Int32)) < x6)) → ((M k x3.toNatClampNeg) = 0) → k9_U p l e R s m args below meth c Q A G 7 0 0 (k9_st (k9_st M (q + 1) x3.toNatClampNeg ((M k x3.toNatClampNeg) &&& (x4 ^^^ (-1 : Int32)))) (q + 2) x3.toNatClampNeg (((k9_st M (q + 1) x3.toNatClampNeg ((M k x3.toNatClampNeg) &&& (x4 ^^^ (-1 : Int32)))) k x3.toNatClampNeg) &&& (x5 ^^^ (-1 : Int32)))) 2 [(0, .ref (k9_ga G q)), (1, .ref (k9_ga G k)), (2, .int x2), (3, .int (x3 + (1 : Int32)))] [])
    (l3 : (¬ ((x2 + (1 : Int32)) < x6)) → (¬ ((M k x3.toNatClampNeg) = 0)) → (x3 < x6) → ((96 : Int32) ≤ (x3 + x6)) → k9_U p l e R s m args below meth c Q A G 7 0 0 M 23 [(0, .ref (k9_ga G q)), (1, .ref (k9_ga G k)), (2, .int x2), (3, .int x3), (4, .int (x4 ||| (0 : Int32))), (5, .int (x5 ||| (0 : Int32))), (6, .int (x6 + (1 : Int32)))] [])
    (o3 : (¬ ((x2 + (1 : Int32)) < x6)) → (¬ ((M k x3.toNatClampNeg) = 0)) → (x3 < x6) → (¬ ((96 : Int32) ≤ (x3 + x6))) → vp_in (x3 + x6) 96)
    (l4 : (¬ ((x2 + (1 : Int32)) < x6)) → (¬ ((M k x3.toNatClampNeg) = 0)) → (x3 < x6) → (¬ ((96 : Int32) ≤ (x3 + x6))) → k9_U p l e R s m args below meth c Q A G 7 0 0 M 23 [(0, .ref (k9_ga G q)), (1, .ref (k9_ga G k)), (2, .int x2), (3, .int x3), (4, .int (x4 ||| (0 : Int32))), (5, .int (x5 ||| (M k (x3 + x6).toNatClampNeg))), (6, .int (x6 + (1 : Int32)))] [])
    (o4 : (¬ ((x2 + (1 : Int32)) < x6)) → (¬ ((M k x3.toNatClampNeg) = 0)) → (¬ (x3 < x6)) → vp_in (x3 - x6) 96)
    (l5 : (¬ ((x2 + (1 : Int32)) < x6)) → (¬ ((M k x3.toNatClampNeg) = 0)) → (¬ (x3 < x6)) → ((96 : Int32) ≤ (x3 + x6)) → k9_U p l e R s m args below meth c Q A G 7 0 0 M 23 [(0, .ref (k9_ga G q)), (1, .ref (k9_ga G k)), (2, .int x2), (3, .int x3), (4, .int (x4 ||| (M k (x3 - x6).toNatClampNeg))), (5, .int (x5 ||| (0 : Int32))), (6, .int (x6 + (1 : Int32)))] [])
    (o5 : (¬ ((x2 + (1 : Int32)) < x6)) → (¬ ((M k x3.toNatClampNeg) = 0)) → (¬ (x3 < x6)) → (¬ ((96 : Int32) ≤ (x3 + x6))) → vp_in (x3 + x6) 96)
    (l6 : (¬ ((x2 + (1 : Int32)) < x6)) → (¬ ((M k x3.toNatClampNeg) = 0)) → (¬ (x3 < x6)) → (¬ ((96 : Int32) ≤ (x3 + x6))) → k9_U p l e R s m args below meth c Q A G 7 0 0 M 23 [(0, .ref (k9_ga G q)), (1, .ref (k9_ga G k)), (2, .int x2), (3, .int x3), (4, .int (x4 ||| (M k (x3 - x6).toNatClampNeg))), (5, .int (x5 ||| (M k (x3 + x6).toNatClampNeg))), (6, .int (x6 + (1 : Int32)))] []) : k9_U p l e R s m args below meth c Q A G 7 0 0 M 23 [(0, .ref (k9_ga G q)), (1, .ref (k9_ga G k)), (2, .int x2), (3, .int x3), (4, .int x4), (5, .int x5), (6, .int x6)] [] := by
  refine k9_iload X dX0_link_23 6 rfl ?_
  refine k9_iload_n X dX0_link_25 rfl 2 rfl ?_
  refine k9_iconst (v := 1) X dX0_link_26 (by decide) ?_
  refine k9_iadd X dX0_link_27 ?_
  refine k9_icmp_gt (tgt := 88) X dX0_link_28 (by decide) (fun c1 => ?_) (fun c1 => ?_)
  · refine k9_aload_n X dX0_link_88 rfl 0 rfl ?_
    refine k9_gX0_0 (q := q) (q1 := (q + 1)) X hq (by rfl) in_X0_link_X0 fl_X0_link_9 dX0_link_89 ?_
    refine k9_iload_n X dX0_link_92 rfl 3 rfl ?_
    refine k9_aload_n X dX0_link_93 rfl 1 rfl ?_
    refine k9_iload_n X dX0_link_94 rfl 3 rfl ?_
    refine k9_iald X hk (o1 c1) (by rfl) dX0_link_95 ?_
    refine k9_iload X dX0_link_96 4 rfl ?_
    refine k9_iconst (v := -1) X dX0_link_98 (by decide) ?_
    refine k9_ixor X dX0_link_99 ?_
    refine k9_iand X dX0_link_100 ?_
    refine k9_iast X (k9_ce_C hq G (fun _ => 0)).2.2.1 (o1 c1) dX0_link_101 ?_
    refine k9_aload_n X dX0_link_102 rfl 0 rfl ?_
    refine k9_gX0_1 (q := q) (q1 := (q + 2)) X hq (by rfl) in_X0_link_X0 fl_X0_link_15 dX0_link_103 ?_
    refine k9_iload_n X dX0_link_106 rfl 3 rfl ?_
    refine k9_aload_n X dX0_link_107 rfl 1 rfl ?_
    refine k9_iload_n X dX0_link_108 rfl 3 rfl ?_
    refine k9_iald X hk (o1 c1) (by rfl) dX0_link_109 ?_
    refine k9_iload X dX0_link_110 5 rfl ?_
    refine k9_iconst (v := -1) X dX0_link_112 (by decide) ?_
    refine k9_ixor X dX0_link_113 ?_
    refine k9_iand X dX0_link_114 ?_
    refine k9_iast X (k9_ce_C hq G (fun _ => 0)).2.2.2 (o1 c1) dX0_link_115 ?_
    refine k9_iinc (v := x3 + (1 : Int32)) (lv' := [(0, .ref (k9_ga G q)), (1, .ref (k9_ga G k)), (2, .int x2), (3, .int (x3 + (1 : Int32))), (4, .int x4), (5, .int x5), (6, .int x6)]) X dX0_link_116 (k := 3) rfl (by rfl) (by decide) [1, 2, 3, 0, 4, 5, 6] rfl ?_
    refine k9_goto (tgt := 2) X dX0_link_119 (by decide) ?_
    refine k9_sub (lv' := [(0, .ref (k9_ga G q)), (1, .ref (k9_ga G k)), (2, .int x2), (3, .int (x3 + (1 : Int32)))]) [0, 1, 2, 3] rfl ?_
    exact (l1 c1)
  · refine k9_aload_n X dX0_link_31 rfl 1 rfl ?_
    refine k9_iload_n X dX0_link_32 rfl 3 rfl ?_
    refine k9_iald X hk (o2 c1) (by rfl) dX0_link_33 ?_
    refine k9_if_eq (tgt := 88) X dX0_link_34 (by decide) (fun c2 => ?_) (fun c2 => ?_)
    · refine k9_aload_n X dX0_link_88 rfl 0 rfl ?_
      refine k9_gX0_0 (q := q) (q1 := (q + 1)) X hq (by rfl) in_X0_link_X0 fl_X0_link_9 dX0_link_89 ?_
      refine k9_iload_n X dX0_link_92 rfl 3 rfl ?_
      refine k9_aload_n X dX0_link_93 rfl 1 rfl ?_
      refine k9_iload_n X dX0_link_94 rfl 3 rfl ?_
      refine k9_iald X hk (o2 c1) (by rfl) dX0_link_95 ?_
      refine k9_iload X dX0_link_96 4 rfl ?_
      refine k9_iconst (v := -1) X dX0_link_98 (by decide) ?_
      refine k9_ixor X dX0_link_99 ?_
      refine k9_iand X dX0_link_100 ?_
      refine k9_iast X (k9_ce_C hq G (fun _ => 0)).2.2.1 (o2 c1) dX0_link_101 ?_
      refine k9_aload_n X dX0_link_102 rfl 0 rfl ?_
      refine k9_gX0_1 (q := q) (q1 := (q + 2)) X hq (by rfl) in_X0_link_X0 fl_X0_link_15 dX0_link_103 ?_
      refine k9_iload_n X dX0_link_106 rfl 3 rfl ?_
      refine k9_aload_n X dX0_link_107 rfl 1 rfl ?_
      refine k9_iload_n X dX0_link_108 rfl 3 rfl ?_
      refine k9_iald X hk (o2 c1) (by rfl) dX0_link_109 ?_
      refine k9_iload X dX0_link_110 5 rfl ?_
      refine k9_iconst (v := -1) X dX0_link_112 (by decide) ?_
      refine k9_ixor X dX0_link_113 ?_
      refine k9_iand X dX0_link_114 ?_
      refine k9_iast X (k9_ce_C hq G (fun _ => 0)).2.2.2 (o2 c1) dX0_link_115 ?_
      refine k9_iinc (v := x3 + (1 : Int32)) (lv' := [(0, .ref (k9_ga G q)), (1, .ref (k9_ga G k)), (2, .int x2), (3, .int (x3 + (1 : Int32))), (4, .int x4), (5, .int x5), (6, .int x6)]) X dX0_link_116 (k := 3) rfl (by rfl) (by decide) [1, 2, 3, 0, 4, 5, 6] rfl ?_
      refine k9_goto (tgt := 2) X dX0_link_119 (by decide) ?_
      refine k9_sub (lv' := [(0, .ref (k9_ga G q)), (1, .ref (k9_ga G k)), (2, .int x2), (3, .int (x3 + (1 : Int32)))]) [0, 1, 2, 3] rfl ?_
      exact (l2 c1 c2)
    · refine k9_iload X dX0_link_37 4 rfl ?_
      refine k9_iload_n X dX0_link_39 rfl 3 rfl ?_
      refine k9_iload X dX0_link_40 6 rfl ?_
      refine k9_icmp_lt (tgt := 54) X dX0_link_42 (by decide) (fun c3 => ?_) (fun c3 => ?_)
      · refine k9_iconst (v := 0) X dX0_link_54 (by decide) ?_
        refine k9_ior X dX0_link_55 ?_
        refine k9_istore (lv' := [(0, .ref (k9_ga G q)), (1, .ref (k9_ga G k)), (2, .int x2), (3, .int x3), (4, .int (x4 ||| (0 : Int32))), (5, .int x5), (6, .int x6)]) X dX0_link_56 (by decide) [1, 2, 3, 4, 0, 5, 6] rfl ?_
        refine k9_iload X dX0_link_58 5 rfl ?_
        refine k9_iload_n X dX0_link_60 rfl 3 rfl ?_
        refine k9_iload X dX0_link_61 6 rfl ?_
        refine k9_iadd X dX0_link_63 ?_
        refine k9_aload_n X dX0_link_64 rfl 1 rfl ?_
        refine k9_alenL (n := 96) (v := 96) X rfl hk dX0_link_65 ?_
        refine k9_icmp_ge (tgt := 78) X dX0_link_66 (by decide) (fun c4 => ?_) (fun c4 => ?_)
        · refine k9_iconst (v := 0) X dX0_link_78 (by decide) ?_
          refine k9_ior X dX0_link_79 ?_
          refine k9_istore (lv' := [(0, .ref (k9_ga G q)), (1, .ref (k9_ga G k)), (2, .int x2), (3, .int x3), (4, .int (x4 ||| (0 : Int32))), (5, .int (x5 ||| (0 : Int32))), (6, .int x6)]) X dX0_link_80 (by decide) [1, 2, 3, 4, 5, 0, 6] rfl ?_
          refine k9_iinc (v := x6 + (1 : Int32)) (lv' := [(0, .ref (k9_ga G q)), (1, .ref (k9_ga G k)), (2, .int x2), (3, .int x3), (4, .int (x4 ||| (0 : Int32))), (5, .int (x5 ||| (0 : Int32))), (6, .int (x6 + (1 : Int32)))]) X dX0_link_82 (k := 6) rfl (by rfl) (by decide) [1, 2, 3, 4, 5, 6, 0] rfl ?_
          refine k9_goto (tgt := 23) X dX0_link_85 (by decide) ?_
          exact (l3 c1 c2 c3 c4)
        · refine k9_aload_n X dX0_link_69 rfl 1 rfl ?_
          refine k9_iload_n X dX0_link_70 rfl 3 rfl ?_
          refine k9_iload X dX0_link_71 6 rfl ?_
          refine k9_iadd X dX0_link_73 ?_
          refine k9_iald X hk (o3 c1 c2 c3 c4) (by rfl) dX0_link_74 ?_
          refine k9_goto (tgt := 79) X dX0_link_75 (by decide) ?_
          refine k9_ior X dX0_link_79 ?_
          refine k9_istore (lv' := [(0, .ref (k9_ga G q)), (1, .ref (k9_ga G k)), (2, .int x2), (3, .int x3), (4, .int (x4 ||| (0 : Int32))), (5, .int (x5 ||| (M k (x3 + x6).toNatClampNeg))), (6, .int x6)]) X dX0_link_80 (by decide) [1, 2, 3, 4, 5, 0, 6] rfl ?_
          refine k9_iinc (v := x6 + (1 : Int32)) (lv' := [(0, .ref (k9_ga G q)), (1, .ref (k9_ga G k)), (2, .int x2), (3, .int x3), (4, .int (x4 ||| (0 : Int32))), (5, .int (x5 ||| (M k (x3 + x6).toNatClampNeg))), (6, .int (x6 + (1 : Int32)))]) X dX0_link_82 (k := 6) rfl (by rfl) (by decide) [1, 2, 3, 4, 5, 6, 0] rfl ?_
          refine k9_goto (tgt := 23) X dX0_link_85 (by decide) ?_
          exact (l4 c1 c2 c3 c4)
      · refine k9_aload_n X dX0_link_45 rfl 1 rfl ?_
        refine k9_iload_n X dX0_link_46 rfl 3 rfl ?_
        refine k9_iload X dX0_link_47 6 rfl ?_
        refine k9_isub X dX0_link_49 ?_
        refine k9_iald X hk (o4 c1 c2 c3) (by rfl) dX0_link_50 ?_
        refine k9_goto (tgt := 55) X dX0_link_51 (by decide) ?_
        refine k9_ior X dX0_link_55 ?_
        refine k9_istore (lv' := [(0, .ref (k9_ga G q)), (1, .ref (k9_ga G k)), (2, .int x2), (3, .int x3), (4, .int (x4 ||| (M k (x3 - x6).toNatClampNeg))), (5, .int x5), (6, .int x6)]) X dX0_link_56 (by decide) [1, 2, 3, 4, 0, 5, 6] rfl ?_
        refine k9_iload X dX0_link_58 5 rfl ?_
        refine k9_iload_n X dX0_link_60 rfl 3 rfl ?_
        refine k9_iload X dX0_link_61 6 rfl ?_
        refine k9_iadd X dX0_link_63 ?_
        refine k9_aload_n X dX0_link_64 rfl 1 rfl ?_
        refine k9_alenL (n := 96) (v := 96) X rfl hk dX0_link_65 ?_
        refine k9_icmp_ge (tgt := 78) X dX0_link_66 (by decide) (fun c5 => ?_) (fun c5 => ?_)
        · refine k9_iconst (v := 0) X dX0_link_78 (by decide) ?_
          refine k9_ior X dX0_link_79 ?_
          refine k9_istore (lv' := [(0, .ref (k9_ga G q)), (1, .ref (k9_ga G k)), (2, .int x2), (3, .int x3), (4, .int (x4 ||| (M k (x3 - x6).toNatClampNeg))), (5, .int (x5 ||| (0 : Int32))), (6, .int x6)]) X dX0_link_80 (by decide) [1, 2, 3, 4, 5, 0, 6] rfl ?_
          refine k9_iinc (v := x6 + (1 : Int32)) (lv' := [(0, .ref (k9_ga G q)), (1, .ref (k9_ga G k)), (2, .int x2), (3, .int x3), (4, .int (x4 ||| (M k (x3 - x6).toNatClampNeg))), (5, .int (x5 ||| (0 : Int32))), (6, .int (x6 + (1 : Int32)))]) X dX0_link_82 (k := 6) rfl (by rfl) (by decide) [1, 2, 3, 4, 5, 6, 0] rfl ?_
          refine k9_goto (tgt := 23) X dX0_link_85 (by decide) ?_
          exact (l5 c1 c2 c3 c5)
        · refine k9_aload_n X dX0_link_69 rfl 1 rfl ?_
          refine k9_iload_n X dX0_link_70 rfl 3 rfl ?_
          refine k9_iload X dX0_link_71 6 rfl ?_
          refine k9_iadd X dX0_link_73 ?_
          refine k9_iald X hk (o5 c1 c2 c3 c5) (by rfl) dX0_link_74 ?_
          refine k9_goto (tgt := 79) X dX0_link_75 (by decide) ?_
          refine k9_ior X dX0_link_79 ?_
          refine k9_istore (lv' := [(0, .ref (k9_ga G q)), (1, .ref (k9_ga G k)), (2, .int x2), (3, .int x3), (4, .int (x4 ||| (M k (x3 - x6).toNatClampNeg))), (5, .int (x5 ||| (M k (x3 + x6).toNatClampNeg))), (6, .int x6)]) X dX0_link_80 (by decide) [1, 2, 3, 4, 5, 0, 6] rfl ?_
          refine k9_iinc (v := x6 + (1 : Int32)) (lv' := [(0, .ref (k9_ga G q)), (1, .ref (k9_ga G k)), (2, .int x2), (3, .int x3), (4, .int (x4 ||| (M k (x3 - x6).toNatClampNeg))), (5, .int (x5 ||| (M k (x3 + x6).toNatClampNeg))), (6, .int (x6 + (1 : Int32)))]) X dX0_link_82 (k := 6) rfl (by rfl) (by decide) [1, 2, 3, 4, 5, 6, 0] rfl ?_
          refine k9_goto (tgt := 23) X dX0_link_85 (by decide) ?_
          exact (l6 c1 c2 c3 c5)

theorem in_X0_copyNotes_X0 : ∀ w ∈ u_ws RX0 TX0 2, w ∈ wsX0_copyNotes := by decide +kernel
theorem fl_X0_copyNotes_9 : Cond.fieldLink RX0 9 (TX0 0).1 (TX0 0).2.1 (TX0 0).2.2.1 ∈ wsX0_copyNotes := by decide +kernel
theorem co_X0_copyNotes_18 : Cond.constant RX0 18 (2097150) ∈ wsX0_copyNotes := by decide +kernel
theorem fl_X0_copyNotes_15 : Cond.fieldLink RX0 15 (TX0 1).1 (TX0 1).2.1 (TX0 1).2.2.1 ∈ wsX0_copyNotes := by decide +kernel
set_option maxRecDepth 20000 in
theorem bk_X0_copyNotes_0 (X : k9_X p R s m args c A G 3 cX0_copyNotes wsX0_copyNotes RX0 rm_X0_copyNotes) {q : Nat} (hq : k9_isC q) {o : Nat} (ho : k9_isC o)
    (l1 : k9_U p l e R s m args below meth c Q A G 3 0 0 M 2 [(0, .ref (k9_ga G q)), (1, .ref (k9_ga G o)), (2, .int (0 : Int32))] []) : k9_U p l e R s m args below meth c Q A G 3 0 0 M 0 [(0, .ref (k9_ga G q)), (1, .ref (k9_ga G o))] [] := by
  refine k9_iconst (v := 0) X dX0_copyNotes_0 (by decide) ?_
  refine k9_istore_n (lv' := [(0, .ref (k9_ga G q)), (1, .ref (k9_ga G o)), (2, .int (0 : Int32))]) X dX0_copyNotes_1 rfl (by decide) [1, 2, 0] rfl ?_
  exact l1

set_option maxRecDepth 20000 in
theorem bk_X0_copyNotes_2 (X : k9_X p R s m args c A G 3 cX0_copyNotes wsX0_copyNotes RX0 rm_X0_copyNotes) {q : Nat} (hq : k9_isC q) {o : Nat} (ho : k9_isC o) {x2 : Int32}
    (l1 : ((96 : Int32) ≤ x2) → k9_U p l e R s m args below meth c Q A G 3 0 0 M 44 [] [])
    (o1 : (¬ ((96 : Int32) ≤ x2)) → vp_in x2 96)
    (l2 : (¬ ((96 : Int32) ≤ x2)) → k9_U p l e R s m args below meth c Q A G 3 0 0 (k9_st (k9_st M (q + 1) x2.toNatClampNeg ((M (o + 1) x2.toNatClampNeg) &&& (2097150 : Int32))) (q + 2) x2.toNatClampNeg (((k9_st M (q + 1) x2.toNatClampNeg ((M (o + 1) x2.toNatClampNeg) &&& (2097150 : Int32))) (o + 2) x2.toNatClampNeg) &&& (2097150 : Int32))) 2 [(0, .ref (k9_ga G q)), (1, .ref (k9_ga G o)), (2, .int (x2 + (1 : Int32)))] []) : k9_U p l e R s m args below meth c Q A G 3 0 0 M 2 [(0, .ref (k9_ga G q)), (1, .ref (k9_ga G o)), (2, .int x2)] [] := by
  refine k9_iload_n X dX0_copyNotes_2 rfl 2 rfl ?_
  refine k9_bipush (v := 96) X dX0_copyNotes_3 (by decide) ?_
  refine k9_icmp_ge (tgt := 44) X dX0_copyNotes_5 (by decide) (fun c1 => ?_) (fun c1 => ?_)
  · refine k9_sub (lv' := []) [] rfl ?_
    exact (l1 c1)
  · refine k9_aload_n X dX0_copyNotes_8 rfl 0 rfl ?_
    refine k9_gX0_0 (q := q) (q1 := (q + 1)) X hq (by rfl) in_X0_copyNotes_X0 fl_X0_copyNotes_9 dX0_copyNotes_9 ?_
    refine k9_iload_n X dX0_copyNotes_12 rfl 2 rfl ?_
    refine k9_aload_n X dX0_copyNotes_13 rfl 1 rfl ?_
    refine k9_gX0_0 (q := o) (q1 := (o + 1)) X ho (by rfl) in_X0_copyNotes_X0 fl_X0_copyNotes_9 dX0_copyNotes_14 ?_
    refine k9_iload_n X dX0_copyNotes_17 rfl 2 rfl ?_
    refine k9_iald X (k9_ce_C ho G (fun _ => 0)).2.2.1 (o1 c1) (by rfl) dX0_copyNotes_18 ?_
    refine k9_ldc X co_X0_copyNotes_18 dX0_copyNotes_19 ?_
    refine k9_iand X dX0_copyNotes_21 ?_
    refine k9_iast X (k9_ce_C hq G (fun _ => 0)).2.2.1 (o1 c1) dX0_copyNotes_22 ?_
    refine k9_aload_n X dX0_copyNotes_23 rfl 0 rfl ?_
    refine k9_gX0_1 (q := q) (q1 := (q + 2)) X hq (by rfl) in_X0_copyNotes_X0 fl_X0_copyNotes_15 dX0_copyNotes_24 ?_
    refine k9_iload_n X dX0_copyNotes_27 rfl 2 rfl ?_
    refine k9_aload_n X dX0_copyNotes_28 rfl 1 rfl ?_
    refine k9_gX0_1 (q := o) (q1 := (o + 2)) X ho (by rfl) in_X0_copyNotes_X0 fl_X0_copyNotes_15 dX0_copyNotes_29 ?_
    refine k9_iload_n X dX0_copyNotes_32 rfl 2 rfl ?_
    refine k9_iald X (k9_ce_C ho G (fun _ => 0)).2.2.2 (o1 c1) (by rfl) dX0_copyNotes_33 ?_
    refine k9_ldc X co_X0_copyNotes_18 dX0_copyNotes_34 ?_
    refine k9_iand X dX0_copyNotes_36 ?_
    refine k9_iast X (k9_ce_C hq G (fun _ => 0)).2.2.2 (o1 c1) dX0_copyNotes_37 ?_
    refine k9_iinc (v := x2 + (1 : Int32)) (lv' := [(0, .ref (k9_ga G q)), (1, .ref (k9_ga G o)), (2, .int (x2 + (1 : Int32)))]) X dX0_copyNotes_38 (k := 2) rfl (by rfl) (by decide) [1, 2, 0] rfl ?_
    refine k9_goto (tgt := 2) X dX0_copyNotes_41 (by decide) ?_
    exact (l2 c1)

theorem in_X0_noteCount_X0 : ∀ w ∈ u_ws RX0 TX0 2, w ∈ wsX0_noteCount := by decide +kernel
theorem fl_X0_noteCount_9 : Cond.fieldLink RX0 9 (TX0 0).1 (TX0 0).2.1 (TX0 0).2.2.1 ∈ wsX0_noteCount := by decide +kernel
theorem co_X0_noteCount_18 : Cond.constant RX0 18 (2097150) ∈ wsX0_noteCount := by decide +kernel
set_option maxRecDepth 20000 in
theorem bk_X0_noteCount_0 (X : k9_X p R s m args c A G 1 cX0_noteCount wsX0_noteCount RX0 rm_X0_noteCount) {q : Nat} (hq : k9_isC q) {rv1 : Int32}
    (k1 : k9_Ci l yX6_bitsIn wsX6_bitsIn rm_X6_bitsIn G M [.ref (k9_ga G (q + 1)), .int (2097150 : Int32)] rv1 M)
    (l1 : k9_U p l e R s m args below meth c Q A G 1 0 0 M 9 [] [.int rv1]) : k9_U p l e R s m args below meth c Q A G 1 0 0 M 0 [(0, .ref (k9_ga G q))] [] := by
  refine k9_aload_n X dX0_noteCount_0 rfl 0 rfl ?_
  refine k9_gX0_0 (q := q) (q1 := (q + 1)) X hq (by rfl) in_X0_noteCount_X0 fl_X0_noteCount_9 dX0_noteCount_1 ?_
  refine k9_ldc X co_X0_noteCount_18 dX0_noteCount_4 ?_
  refine k9_callNi2 X k1  (k9_cwN (host := "RollPunch") 2 gX0_noteCount_X6_bitsIn_n19 rfl rfl rfl (by decide +kernel) (by decide +kernel) (by decide +kernel) (by decide +kernel) ⟨Nat.le_of_ble_eq_true rfl, Nat.le_of_ble_eq_true rfl⟩) (Nat.le_of_ble_eq_true rfl) dX0_noteCount_6 ⟨Nat.zero_le _, Nat.zero_le _⟩ ?_
  refine k9_sub (lv' := []) [] rfl ?_
  exact l1

theorem in_X0_sameNotes_X0 : ∀ w ∈ u_ws RX0 TX0 2, w ∈ wsX0_sameNotes := by decide +kernel
theorem fl_X0_sameNotes_9 : Cond.fieldLink RX0 9 (TX0 0).1 (TX0 0).2.1 (TX0 0).2.2.1 ∈ wsX0_sameNotes := by decide +kernel
theorem co_X0_sameNotes_18 : Cond.constant RX0 18 (2097150) ∈ wsX0_sameNotes := by decide +kernel
theorem fl_X0_sameNotes_15 : Cond.fieldLink RX0 15 (TX0 1).1 (TX0 1).2.1 (TX0 1).2.2.1 ∈ wsX0_sameNotes := by decide +kernel
set_option maxRecDepth 20000 in
theorem bk_X0_sameNotes_0 (X : k9_X p R s m args c A G 5 cX0_sameNotes wsX0_sameNotes RX0 rm_X0_sameNotes) {q : Nat} (hq : k9_isC q) {o : Nat} (ho : k9_isC o)
    (l1 : k9_U p l e R s m args below meth c Q A G 5 0 0 M 7 [(0, .ref (k9_ga G q)), (1, .ref (k9_ga G o)), (2, .int (0 : Int32)), (3, .int (0 : Int32)), (4, .int (0 : Int32))] []) : k9_U p l e R s m args below meth c Q A G 5 0 0 M 0 [(0, .ref (k9_ga G q)), (1, .ref (k9_ga G o))] [] := by
  refine k9_iconst (v := 0) X dX0_sameNotes_0 (by decide) ?_
  refine k9_istore_n (lv' := [(0, .ref (k9_ga G q)), (1, .ref (k9_ga G o)), (2, .int (0 : Int32))]) X dX0_sameNotes_1 rfl (by decide) [1, 2, 0] rfl ?_
  refine k9_iconst (v := 0) X dX0_sameNotes_2 (by decide) ?_
  refine k9_istore_n (lv' := [(0, .ref (k9_ga G q)), (1, .ref (k9_ga G o)), (2, .int (0 : Int32)), (3, .int (0 : Int32))]) X dX0_sameNotes_3 rfl (by decide) [1, 2, 3, 0] rfl ?_
  refine k9_iconst (v := 0) X dX0_sameNotes_4 (by decide) ?_
  refine k9_istore (lv' := [(0, .ref (k9_ga G q)), (1, .ref (k9_ga G o)), (2, .int (0 : Int32)), (3, .int (0 : Int32)), (4, .int (0 : Int32))]) X dX0_sameNotes_5 (by decide) [1, 2, 3, 4, 0] rfl ?_
  exact l1

set_option maxRecDepth 20000 in
theorem bk_X0_sameNotes_7 (X : k9_X p R s m args c A G 5 cX0_sameNotes wsX0_sameNotes RX0 rm_X0_sameNotes) {q : Nat} (hq : k9_isC q) {o : Nat} (ho : k9_isC o) {x2 x3 x4 : Int32} {rv1 : Int32}
    (l1 : ((96 : Int32) ≤ x4) → k9_U p l e R s m args below meth c Q A G 5 0 0 M 85 [] [.int x2])
    (o1 : (¬ ((96 : Int32) ≤ x4)) → vp_in x4 96)
    (k1 : (¬ ((96 : Int32) ≤ x4)) → k9_Ci l yJ6_bitCount_0f7a4 wsJ6_bitCount_0f7a4 rm_J6_bitCount_0f7a4 G M [.int (((x3 ||| (((M (q + 1) x4.toNatClampNeg) &&& (M (o + 1) x4.toNatClampNeg)) &&& (2097150 : Int32))) &&& (M (q + 2) x4.toNatClampNeg)) &&& (M (o + 2) x4.toNatClampNeg))] rv1 M)
    (l2 : (¬ ((96 : Int32) ≤ x4)) → k9_U p l e R s m args below meth c Q A G 5 0 0 M 7 [(0, .ref (k9_ga G q)), (1, .ref (k9_ga G o)), (2, .int (x2 + rv1)), (3, .int ((x3 ||| (((M (q + 1) x4.toNatClampNeg) &&& (M (o + 1) x4.toNatClampNeg)) &&& (2097150 : Int32))) &&& (((M (q + 2) x4.toNatClampNeg) ||| (M (o + 2) x4.toNatClampNeg)) ^^^ (-1 : Int32)))), (4, .int (x4 + (1 : Int32)))] []) : k9_U p l e R s m args below meth c Q A G 5 0 0 M 7 [(0, .ref (k9_ga G q)), (1, .ref (k9_ga G o)), (2, .int x2), (3, .int x3), (4, .int x4)] [] := by
  refine k9_iload X dX0_sameNotes_7 4 rfl ?_
  refine k9_bipush (v := 96) X dX0_sameNotes_9 (by decide) ?_
  refine k9_icmp_ge (tgt := 84) X dX0_sameNotes_11 (by decide) (fun c1 => ?_) (fun c1 => ?_)
  · refine k9_iload_n X dX0_sameNotes_84 rfl 2 rfl ?_
    refine k9_sub (lv' := []) [] rfl ?_
    exact (l1 c1)
  · refine k9_iload_n X dX0_sameNotes_14 rfl 3 rfl ?_
    refine k9_aload_n X dX0_sameNotes_15 rfl 0 rfl ?_
    refine k9_gX0_0 (q := q) (q1 := (q + 1)) X hq (by rfl) in_X0_sameNotes_X0 fl_X0_sameNotes_9 dX0_sameNotes_16 ?_
    refine k9_iload X dX0_sameNotes_19 4 rfl ?_
    refine k9_iald X (k9_ce_C hq G (fun _ => 0)).2.2.1 (o1 c1) (by rfl) dX0_sameNotes_21 ?_
    refine k9_aload_n X dX0_sameNotes_22 rfl 1 rfl ?_
    refine k9_gX0_0 (q := o) (q1 := (o + 1)) X ho (by rfl) in_X0_sameNotes_X0 fl_X0_sameNotes_9 dX0_sameNotes_23 ?_
    refine k9_iload X dX0_sameNotes_26 4 rfl ?_
    refine k9_iald X (k9_ce_C ho G (fun _ => 0)).2.2.1 (o1 c1) (by rfl) dX0_sameNotes_28 ?_
    refine k9_iand X dX0_sameNotes_29 ?_
    refine k9_ldc X co_X0_sameNotes_18 dX0_sameNotes_30 ?_
    refine k9_iand X dX0_sameNotes_32 ?_
    refine k9_ior X dX0_sameNotes_33 ?_
    refine k9_istore_n (lv' := [(0, .ref (k9_ga G q)), (1, .ref (k9_ga G o)), (2, .int x2), (3, .int (x3 ||| (((M (q + 1) x4.toNatClampNeg) &&& (M (o + 1) x4.toNatClampNeg)) &&& (2097150 : Int32)))), (4, .int x4)]) X dX0_sameNotes_34 rfl (by decide) [1, 2, 3, 0, 4] rfl ?_
    refine k9_iload_n X dX0_sameNotes_35 rfl 2 rfl ?_
    refine k9_iload_n X dX0_sameNotes_36 rfl 3 rfl ?_
    refine k9_aload_n X dX0_sameNotes_37 rfl 0 rfl ?_
    refine k9_gX0_1 (q := q) (q1 := (q + 2)) X hq (by rfl) in_X0_sameNotes_X0 fl_X0_sameNotes_15 dX0_sameNotes_38 ?_
    refine k9_iload X dX0_sameNotes_41 4 rfl ?_
    refine k9_iald X (k9_ce_C hq G (fun _ => 0)).2.2.2 (o1 c1) (by rfl) dX0_sameNotes_43 ?_
    refine k9_iand X dX0_sameNotes_44 ?_
    refine k9_aload_n X dX0_sameNotes_45 rfl 1 rfl ?_
    refine k9_gX0_1 (q := o) (q1 := (o + 2)) X ho (by rfl) in_X0_sameNotes_X0 fl_X0_sameNotes_15 dX0_sameNotes_46 ?_
    refine k9_iload X dX0_sameNotes_49 4 rfl ?_
    refine k9_iald X (k9_ce_C ho G (fun _ => 0)).2.2.2 (o1 c1) (by rfl) dX0_sameNotes_51 ?_
    refine k9_iand X dX0_sameNotes_52 ?_
    refine k9_callSi1 X (k1 c1)  (va_cwS 1 X.2.2.2.2.1 gX0_sameNotes_J6_bitCount_0f7a4 rfl rfl rfl (by decide +kernel) ⟨Nat.le_of_ble_eq_true rfl, Nat.le_of_ble_eq_true rfl⟩) (Nat.le_of_ble_eq_true rfl) dX0_sameNotes_53 ⟨Nat.zero_le _, Nat.zero_le _⟩ ?_
    refine k9_iadd X dX0_sameNotes_56 ?_
    refine k9_istore_n (lv' := [(0, .ref (k9_ga G q)), (1, .ref (k9_ga G o)), (2, .int (x2 + rv1)), (3, .int (x3 ||| (((M (q + 1) x4.toNatClampNeg) &&& (M (o + 1) x4.toNatClampNeg)) &&& (2097150 : Int32)))), (4, .int x4)]) X dX0_sameNotes_57 rfl (by decide) [1, 2, 0, 3, 4] rfl ?_
    refine k9_iload_n X dX0_sameNotes_58 rfl 3 rfl ?_
    refine k9_aload_n X dX0_sameNotes_59 rfl 0 rfl ?_
    refine k9_gX0_1 (q := q) (q1 := (q + 2)) X hq (by rfl) in_X0_sameNotes_X0 fl_X0_sameNotes_15 dX0_sameNotes_60 ?_
    refine k9_iload X dX0_sameNotes_63 4 rfl ?_
    refine k9_iald X (k9_ce_C hq G (fun _ => 0)).2.2.2 (o1 c1) (by rfl) dX0_sameNotes_65 ?_
    refine k9_aload_n X dX0_sameNotes_66 rfl 1 rfl ?_
    refine k9_gX0_1 (q := o) (q1 := (o + 2)) X ho (by rfl) in_X0_sameNotes_X0 fl_X0_sameNotes_15 dX0_sameNotes_67 ?_
    refine k9_iload X dX0_sameNotes_70 4 rfl ?_
    refine k9_iald X (k9_ce_C ho G (fun _ => 0)).2.2.2 (o1 c1) (by rfl) dX0_sameNotes_72 ?_
    refine k9_ior X dX0_sameNotes_73 ?_
    refine k9_iconst (v := -1) X dX0_sameNotes_74 (by decide) ?_
    refine k9_ixor X dX0_sameNotes_75 ?_
    refine k9_iand X dX0_sameNotes_76 ?_
    refine k9_istore_n (lv' := [(0, .ref (k9_ga G q)), (1, .ref (k9_ga G o)), (2, .int (x2 + rv1)), (3, .int ((x3 ||| (((M (q + 1) x4.toNatClampNeg) &&& (M (o + 1) x4.toNatClampNeg)) &&& (2097150 : Int32))) &&& (((M (q + 2) x4.toNatClampNeg) ||| (M (o + 2) x4.toNatClampNeg)) ^^^ (-1 : Int32)))), (4, .int x4)]) X dX0_sameNotes_77 rfl (by decide) [1, 2, 3, 0, 4] rfl ?_
    refine k9_iinc (v := x4 + (1 : Int32)) (lv' := [(0, .ref (k9_ga G q)), (1, .ref (k9_ga G o)), (2, .int (x2 + rv1)), (3, .int ((x3 ||| (((M (q + 1) x4.toNatClampNeg) &&& (M (o + 1) x4.toNatClampNeg)) &&& (2097150 : Int32))) &&& (((M (q + 2) x4.toNatClampNeg) ||| (M (o + 2) x4.toNatClampNeg)) ^^^ (-1 : Int32)))), (4, .int (x4 + (1 : Int32)))]) X dX0_sameNotes_78 (k := 4) rfl (by rfl) (by decide) [1, 2, 3, 4, 0] rfl ?_
    refine k9_goto (tgt := 7) X dX0_sameNotes_81 (by decide) ?_
    exact (l2 c1)

theorem in_X0_beginsAt_X0 : ∀ w ∈ u_ws RX0 TX0 2, w ∈ wsX0_beginsAt := by decide +kernel
theorem fl_X0_beginsAt_9 : Cond.fieldLink RX0 9 (TX0 0).1 (TX0 0).2.1 (TX0 0).2.2.1 ∈ wsX0_beginsAt := by decide +kernel
set_option maxRecDepth 20000 in
theorem bk_X0_beginsAt_0 (X : k9_X p R s m args c A G 3 cX0_beginsAt wsX0_beginsAt RX0 rm_X0_beginsAt) {q : Nat} (hq : k9_isC q) {a0 a1 : Int32} {rv1 : Int32}
    (k1 : k9_Ci l yX6_isStep wsX6_isStep rm_X6_isStep G M [.int a1] rv1 M)
    (l1 : (rv1 = 0) → k9_U p l e R s m args below meth c Q A G 3 0 0 M 25 [] [.int (0 : Int32)])
    (o1 : (¬ (rv1 = 0)) → vp_in a1 96)
    (l2 : (¬ (rv1 = 0)) → ((((M (q + 1) a1.toNatClampNeg) >>> (a0 &&& 31)) &&& (1 : Int32)) = 0) → k9_U p l e R s m args below meth c Q A G 3 0 0 M 25 [] [.int (0 : Int32)])
    (l3 : (¬ (rv1 = 0)) → (¬ ((((M (q + 1) a1.toNatClampNeg) >>> (a0 &&& 31)) &&& (1 : Int32)) = 0)) → k9_U p l e R s m args below meth c Q A G 3 0 0 M 25 [] [.int (1 : Int32)]) : k9_U p l e R s m args below meth c Q A G 3 0 0 M 0 [(0, .ref (k9_ga G q)), (1, .int a0), (2, .int a1)] [] := by
  refine k9_iload_n X dX0_beginsAt_0 rfl 2 rfl ?_
  refine k9_callNi1 X k1  (k9_cwN (host := "RollPunch") 1 gX0_beginsAt_X6_isStep_n29 rfl rfl rfl (by decide +kernel) (by decide +kernel) (by decide +kernel) (by decide +kernel) ⟨Nat.le_of_ble_eq_true rfl, Nat.le_of_ble_eq_true rfl⟩) (Nat.le_of_ble_eq_true rfl) dX0_beginsAt_1 ⟨Nat.zero_le _, Nat.zero_le _⟩ ?_
  refine k9_if_eq (tgt := 24) X dX0_beginsAt_4 (by decide) (fun c1 => ?_) (fun c1 => ?_)
  · refine k9_iconst (v := 0) X dX0_beginsAt_24 (by decide) ?_
    refine k9_sub (lv' := []) [] rfl ?_
    exact (l1 c1)
  · refine k9_aload_n X dX0_beginsAt_7 rfl 0 rfl ?_
    refine k9_gX0_0 (q := q) (q1 := (q + 1)) X hq (by rfl) in_X0_beginsAt_X0 fl_X0_beginsAt_9 dX0_beginsAt_8 ?_
    refine k9_iload_n X dX0_beginsAt_11 rfl 2 rfl ?_
    refine k9_iald X (k9_ce_C hq G (fun _ => 0)).2.2.1 (o1 c1) (by rfl) dX0_beginsAt_12 ?_
    refine k9_iload_n X dX0_beginsAt_13 rfl 1 rfl ?_
    refine k9_ishr X dX0_beginsAt_14 ?_
    refine k9_iconst (v := 1) X dX0_beginsAt_15 (by decide) ?_
    refine k9_iand X dX0_beginsAt_16 ?_
    refine k9_if_eq (tgt := 24) X dX0_beginsAt_17 (by decide) (fun c2 => ?_) (fun c2 => ?_)
    · refine k9_iconst (v := 0) X dX0_beginsAt_24 (by decide) ?_
      refine k9_sub (lv' := []) [] rfl ?_
      exact (l2 c1 c2)
    · refine k9_iconst (v := 1) X dX0_beginsAt_20 (by decide) ?_
      refine k9_goto (tgt := 25) X dX0_beginsAt_21 (by decide) ?_
      refine k9_sub (lv' := []) [] rfl ?_
      exact (l3 c1 c2)

set_option maxRecDepth 20000 in
theorem bk_X0_hasChain_0 (X : k9_X p R s m args c A G 4 cX0_hasChain wsX0_hasChain RX0 rm_X0_hasChain) {q : Nat} (hq : k9_isC q) {a0 a1 a2 : Int32} {rv1 : Int32} {rv2 : Int32}
    (k1 : k9_Ci l yX0_beginsAt wsX0_beginsAt rm_X0_beginsAt G M [.ref (k9_ga G q), .int a0, .int a1] rv1 M)
    (l1 : (rv1 = 0) → k9_U p l e R s m args below meth c Q A G 4 0 0 M 24 [] [.int (0 : Int32)])
    (k2 : (¬ (rv1 = 0)) → k9_Ci l yX0_lastStepFrom wsX0_lastStepFrom rm_X0_lastStepFrom G M [.ref (k9_ga G q), .int a0, .int a1] rv2 M)
    (l2 : (¬ (rv1 = 0)) → (¬ rv2 = a2) → k9_U p l e R s m args below meth c Q A G 4 0 0 M 24 [] [.int (0 : Int32)])
    (l3 : (¬ (rv1 = 0)) → (rv2 = a2) → k9_U p l e R s m args below meth c Q A G 4 0 0 M 24 [] [.int (1 : Int32)]) : k9_U p l e R s m args below meth c Q A G 4 0 0 M 0 [(0, .ref (k9_ga G q)), (1, .int a0), (2, .int a1), (3, .int a2)] [] := by
  refine k9_aload_n X dX0_hasChain_0 rfl 0 rfl ?_
  refine k9_iload_n X dX0_hasChain_1 rfl 1 rfl ?_
  refine k9_iload_n X dX0_hasChain_2 rfl 2 rfl ?_
  refine k9_callVi2 X k1 (k9_ob_C hq) (cwV 2 X.2.2.2.2.1 gX0_hasChain_X0_beginsAt rfl rfl rfl (by decide +kernel) ⟨Nat.le_of_ble_eq_true rfl, Nat.le_of_ble_eq_true rfl⟩) (Nat.le_of_ble_eq_true rfl) dX0_hasChain_3 ⟨Nat.zero_le _, Nat.zero_le _⟩ ?_
  refine k9_if_eq (tgt := 23) X dX0_hasChain_6 (by decide) (fun c1 => ?_) (fun c1 => ?_)
  · refine k9_iconst (v := 0) X dX0_hasChain_23 (by decide) ?_
    refine k9_sub (lv' := []) [] rfl ?_
    exact (l1 c1)
  · refine k9_aload_n X dX0_hasChain_9 rfl 0 rfl ?_
    refine k9_iload_n X dX0_hasChain_10 rfl 1 rfl ?_
    refine k9_iload_n X dX0_hasChain_11 rfl 2 rfl ?_
    refine k9_callVi2 X (k2 c1) (k9_ob_C hq) (cwV 2 X.2.2.2.2.1 gX0_hasChain_X0_lastStepFrom rfl rfl rfl (by decide +kernel) ⟨Nat.le_of_ble_eq_true rfl, Nat.le_of_ble_eq_true rfl⟩) (Nat.le_of_ble_eq_true rfl) dX0_hasChain_12 ⟨Nat.zero_le _, Nat.zero_le _⟩ ?_
    refine k9_iload_n X dX0_hasChain_15 rfl 3 rfl ?_
    refine k9_icmp_ne (tgt := 23) X dX0_hasChain_16 (by decide) (fun c2 => ?_) (fun c2 => ?_)
    · refine k9_iconst (v := 0) X dX0_hasChain_23 (by decide) ?_
      refine k9_sub (lv' := []) [] rfl ?_
      exact (l2 c1 c2)
    · refine k9_iconst (v := 1) X dX0_hasChain_19 (by decide) ?_
      refine k9_goto (tgt := 24) X dX0_hasChain_20 (by decide) ?_
      refine k9_sub (lv' := []) [] rfl ?_
      exact (l3 c1 c2)

theorem in_X0_lastStepFrom_X0 : ∀ w ∈ u_ws RX0 TX0 2, w ∈ wsX0_lastStepFrom := by decide +kernel
theorem fl_X0_lastStepFrom_15 : Cond.fieldLink RX0 15 (TX0 1).1 (TX0 1).2.1 (TX0 1).2.2.1 ∈ wsX0_lastStepFrom := by decide +kernel
set_option maxRecDepth 20000 in
theorem bk_X0_lastStepFrom_0 (X : k9_X p R s m args c A G 4 cX0_lastStepFrom wsX0_lastStepFrom RX0 rm_X0_lastStepFrom) {q : Nat} (hq : k9_isC q) {a0 a1 : Int32}
    (l1 : k9_U p l e R s m args below meth c Q A G 4 0 0 M 2 [(0, .ref (k9_ga G q)), (1, .int a0), (2, .int a1), (3, .int (0 : Int32))] []) : k9_U p l e R s m args below meth c Q A G 4 0 0 M 0 [(0, .ref (k9_ga G q)), (1, .int a0), (2, .int a1)] [] := by
  refine k9_iconst (v := 0) X dX0_lastStepFrom_0 (by decide) ?_
  refine k9_istore_n (lv' := [(0, .ref (k9_ga G q)), (1, .int a0), (2, .int a1), (3, .int (0 : Int32))]) X dX0_lastStepFrom_1 rfl (by decide) [1, 2, 3, 0] rfl ?_
  exact l1

set_option maxRecDepth 20000 in
theorem bk_X0_lastStepFrom_2 (X : k9_X p R s m args c A G 4 cX0_lastStepFrom wsX0_lastStepFrom RX0 rm_X0_lastStepFrom) {q : Nat} (hq : k9_isC q) {x1 x2 x3 : Int32}
    (l1 : ((96 : Int32) ≤ x3) → k9_U p l e R s m args below meth c Q A G 4 0 0 M 35 [] [.int (-1 : Int32)])
    (l2 : (¬ ((96 : Int32) ≤ x3)) → (x3 < x2) → k9_U p l e R s m args below meth c Q A G 4 0 0 M 2 [(0, .ref (k9_ga G q)), (1, .int x1), (2, .int x2), (3, .int (x3 + (1 : Int32)))] [])
    (o1 : (¬ ((96 : Int32) ≤ x3)) → (¬ (x3 < x2)) → vp_in x3 96)
    (l3 : (¬ ((96 : Int32) ≤ x3)) → (¬ (x3 < x2)) → ((((M (q + 2) x3.toNatClampNeg) >>> (x1 &&& 31)) &&& (1 : Int32)) = 0) → k9_U p l e R s m args below meth c Q A G 4 0 0 M 2 [(0, .ref (k9_ga G q)), (1, .int x1), (2, .int x2), (3, .int (x3 + (1 : Int32)))] [])
    (l4 : (¬ ((96 : Int32) ≤ x3)) → (¬ (x3 < x2)) → (¬ ((((M (q + 2) x3.toNatClampNeg) >>> (x1 &&& 31)) &&& (1 : Int32)) = 0)) → k9_U p l e R s m args below meth c Q A G 4 0 0 M 27 [] [.int x3]) : k9_U p l e R s m args below meth c Q A G 4 0 0 M 2 [(0, .ref (k9_ga G q)), (1, .int x1), (2, .int x2), (3, .int x3)] [] := by
  refine k9_iload_n X dX0_lastStepFrom_2 rfl 3 rfl ?_
  refine k9_bipush (v := 96) X dX0_lastStepFrom_3 (by decide) ?_
  refine k9_icmp_ge (tgt := 34) X dX0_lastStepFrom_5 (by decide) (fun c1 => ?_) (fun c1 => ?_)
  · refine k9_iconst (v := -1) X dX0_lastStepFrom_34 (by decide) ?_
    refine k9_sub (lv' := []) [] rfl ?_
    exact (l1 c1)
  · refine k9_iload_n X dX0_lastStepFrom_8 rfl 3 rfl ?_
    refine k9_iload_n X dX0_lastStepFrom_9 rfl 2 rfl ?_
    refine k9_icmp_lt (tgt := 28) X dX0_lastStepFrom_10 (by decide) (fun c2 => ?_) (fun c2 => ?_)
    · refine k9_iinc (v := x3 + (1 : Int32)) (lv' := [(0, .ref (k9_ga G q)), (1, .int x1), (2, .int x2), (3, .int (x3 + (1 : Int32)))]) X dX0_lastStepFrom_28 (k := 3) rfl (by rfl) (by decide) [1, 2, 3, 0] rfl ?_
      refine k9_goto (tgt := 2) X dX0_lastStepFrom_31 (by decide) ?_
      exact (l2 c1 c2)
    · refine k9_aload_n X dX0_lastStepFrom_13 rfl 0 rfl ?_
      refine k9_gX0_1 (q := q) (q1 := (q + 2)) X hq (by rfl) in_X0_lastStepFrom_X0 fl_X0_lastStepFrom_15 dX0_lastStepFrom_14 ?_
      refine k9_iload_n X dX0_lastStepFrom_17 rfl 3 rfl ?_
      refine k9_iald X (k9_ce_C hq G (fun _ => 0)).2.2.2 (o1 c1 c2) (by rfl) dX0_lastStepFrom_18 ?_
      refine k9_iload_n X dX0_lastStepFrom_19 rfl 1 rfl ?_
      refine k9_ishr X dX0_lastStepFrom_20 ?_
      refine k9_iconst (v := 1) X dX0_lastStepFrom_21 (by decide) ?_
      refine k9_iand X dX0_lastStepFrom_22 ?_
      refine k9_if_eq (tgt := 28) X dX0_lastStepFrom_23 (by decide) (fun c3 => ?_) (fun c3 => ?_)
      · refine k9_iinc (v := x3 + (1 : Int32)) (lv' := [(0, .ref (k9_ga G q)), (1, .int x1), (2, .int x2), (3, .int (x3 + (1 : Int32)))]) X dX0_lastStepFrom_28 (k := 3) rfl (by rfl) (by decide) [1, 2, 3, 0] rfl ?_
        refine k9_goto (tgt := 2) X dX0_lastStepFrom_31 (by decide) ?_
        exact (l3 c1 c2 c3)
      · refine k9_iload_n X dX0_lastStepFrom_26 rfl 3 rfl ?_
        refine k9_sub (lv' := []) [] rfl ?_
        exact (l4 c1 c2 c3)

theorem in_X0_firstStepOf_X0 : ∀ w ∈ u_ws RX0 TX0 2, w ∈ wsX0_firstStepOf := by decide +kernel
theorem fl_X0_firstStepOf_9 : Cond.fieldLink RX0 9 (TX0 0).1 (TX0 0).2.1 (TX0 0).2.2.1 ∈ wsX0_firstStepOf := by decide +kernel
theorem co_X0_firstStepOf_18 : Cond.constant RX0 18 (2097150) ∈ wsX0_firstStepOf := by decide +kernel
set_option maxRecDepth 20000 in
theorem bk_X0_firstStepOf_0 (X : k9_X p R s m args c A G 4 cX0_firstStepOf wsX0_firstStepOf RX0 rm_X0_firstStepOf) {q : Nat} (hq : k9_isC q) {a0 : Int32}
    (l1 : k9_U p l e R s m args below meth c Q A G 4 0 0 M 4 [(0, .ref (k9_ga G q)), (1, .int a0), (2, .int (0 : Int32)), (3, .int (0 : Int32))] []) : k9_U p l e R s m args below meth c Q A G 4 0 0 M 0 [(0, .ref (k9_ga G q)), (1, .int a0)] [] := by
  refine k9_iconst (v := 0) X dX0_firstStepOf_0 (by decide) ?_
  refine k9_istore_n (lv' := [(0, .ref (k9_ga G q)), (1, .int a0), (2, .int (0 : Int32))]) X dX0_firstStepOf_1 rfl (by decide) [1, 2, 0] rfl ?_
  refine k9_iconst (v := 0) X dX0_firstStepOf_2 (by decide) ?_
  refine k9_istore_n (lv' := [(0, .ref (k9_ga G q)), (1, .int a0), (2, .int (0 : Int32)), (3, .int (0 : Int32))]) X dX0_firstStepOf_3 rfl (by decide) [1, 2, 3, 0] rfl ?_
  exact l1

set_option maxRecDepth 20000 in
theorem bk_X0_firstStepOf_4 (X : k9_X p R s m args c A G 4 cX0_firstStepOf wsX0_firstStepOf RX0 rm_X0_firstStepOf) {q : Nat} (hq : k9_isC q) {x1 x2 x3 : Int32} {rv1 : Int32}
    (l1 : ((96 : Int32) ≤ x3) → k9_U p l e R s m args below meth c Q A G 4 0 0 M 43 [] [.int (-1 : Int32)])
    (l2 : (¬ ((96 : Int32) ≤ x3)) → (x1 < 0) → k9_U p l e R s m args below meth c Q A G 4 0 0 M 43 [] [.int (-1 : Int32)])
    (o1 : (¬ ((96 : Int32) ≤ x3)) → (¬ (x1 < 0)) → vp_in x3 96)
    (k1 : (¬ ((96 : Int32) ≤ x3)) → (¬ (x1 < 0)) → k9_Ci l yJ6_bitCount_0f7a4 wsJ6_bitCount_0f7a4 rm_J6_bitCount_0f7a4 G M [.int ((M (q + 1) x3.toNatClampNeg) &&& (2097150 : Int32))] rv1 M)
    (l3 : (¬ ((96 : Int32) ≤ x3)) → (¬ (x1 < 0)) → ((x2 + rv1) ≤ x1) → k9_U p l e R s m args below meth c Q A G 4 0 0 M 4 [(0, .ref (k9_ga G q)), (1, .int x1), (2, .int (x2 + rv1)), (3, .int (x3 + (1 : Int32)))] [])
    (l4 : (¬ ((96 : Int32) ≤ x3)) → (¬ (x1 < 0)) → (¬ ((x2 + rv1) ≤ x1)) → k9_U p l e R s m args below meth c Q A G 4 0 0 M 35 [] [.int x3]) : k9_U p l e R s m args below meth c Q A G 4 0 0 M 4 [(0, .ref (k9_ga G q)), (1, .int x1), (2, .int x2), (3, .int x3)] [] := by
  refine k9_iload_n X dX0_firstStepOf_4 rfl 3 rfl ?_
  refine k9_bipush (v := 96) X dX0_firstStepOf_5 (by decide) ?_
  refine k9_icmp_ge (tgt := 42) X dX0_firstStepOf_7 (by decide) (fun c1 => ?_) (fun c1 => ?_)
  · refine k9_iconst (v := -1) X dX0_firstStepOf_42 (by decide) ?_
    refine k9_sub (lv' := []) [] rfl ?_
    exact (l1 c1)
  · refine k9_iload_n X dX0_firstStepOf_10 rfl 1 rfl ?_
    refine k9_if_lt (tgt := 42) X dX0_firstStepOf_11 (by decide) (fun c2 => ?_) (fun c2 => ?_)
    · refine k9_iconst (v := -1) X dX0_firstStepOf_42 (by decide) ?_
      refine k9_sub (lv' := []) [] rfl ?_
      exact (l2 c1 c2)
    · refine k9_iload_n X dX0_firstStepOf_14 rfl 2 rfl ?_
      refine k9_aload_n X dX0_firstStepOf_15 rfl 0 rfl ?_
      refine k9_gX0_0 (q := q) (q1 := (q + 1)) X hq (by rfl) in_X0_firstStepOf_X0 fl_X0_firstStepOf_9 dX0_firstStepOf_16 ?_
      refine k9_iload_n X dX0_firstStepOf_19 rfl 3 rfl ?_
      refine k9_iald X (k9_ce_C hq G (fun _ => 0)).2.2.1 (o1 c1 c2) (by rfl) dX0_firstStepOf_20 ?_
      refine k9_ldc X co_X0_firstStepOf_18 dX0_firstStepOf_21 ?_
      refine k9_iand X dX0_firstStepOf_23 ?_
      refine k9_callSi1 X (k1 c1 c2)  (va_cwS 1 X.2.2.2.2.1 gX0_firstStepOf_J6_bitCount_0f7a4 rfl rfl rfl (by decide +kernel) ⟨Nat.le_of_ble_eq_true rfl, Nat.le_of_ble_eq_true rfl⟩) (Nat.le_of_ble_eq_true rfl) dX0_firstStepOf_24 ⟨Nat.zero_le _, Nat.zero_le _⟩ ?_
      refine k9_iadd X dX0_firstStepOf_27 ?_
      refine k9_istore_n (lv' := [(0, .ref (k9_ga G q)), (1, .int x1), (2, .int (x2 + rv1)), (3, .int x3)]) X dX0_firstStepOf_28 rfl (by decide) [1, 2, 0, 3] rfl ?_
      refine k9_iload_n X dX0_firstStepOf_29 rfl 1 rfl ?_
      refine k9_iload_n X dX0_firstStepOf_30 rfl 2 rfl ?_
      refine k9_icmp_ge (tgt := 36) X dX0_firstStepOf_31 (by decide) (fun c3 => ?_) (fun c3 => ?_)
      · refine k9_iinc (v := x3 + (1 : Int32)) (lv' := [(0, .ref (k9_ga G q)), (1, .int x1), (2, .int (x2 + rv1)), (3, .int (x3 + (1 : Int32)))]) X dX0_firstStepOf_36 (k := 3) rfl (by rfl) (by decide) [1, 2, 3, 0] rfl ?_
        refine k9_goto (tgt := 4) X dX0_firstStepOf_39 (by decide) ?_
        exact (l3 c1 c2 c3)
      · refine k9_iload_n X dX0_firstStepOf_34 rfl 3 rfl ?_
        refine k9_sub (lv' := []) [] rfl ?_
        exact (l4 c1 c2 c3)

theorem in_X0_voiceOf_X0 : ∀ w ∈ u_ws RX0 TX0 2, w ∈ wsX0_voiceOf := by decide +kernel
theorem fl_X0_voiceOf_9 : Cond.fieldLink RX0 9 (TX0 0).1 (TX0 0).2.1 (TX0 0).2.2.1 ∈ wsX0_voiceOf := by decide +kernel
theorem co_X0_voiceOf_18 : Cond.constant RX0 18 (2097150) ∈ wsX0_voiceOf := by decide +kernel
set_option maxRecDepth 20000 in
theorem bk_X0_voiceOf_0 (X : k9_X p R s m args c A G 5 cX0_voiceOf wsX0_voiceOf RX0 rm_X0_voiceOf) {q : Nat} (hq : k9_isC q) {a0 : Int32} {rv1 : Int32}
    (k1 : k9_Ci l yX0_firstStepOf wsX0_firstStepOf rm_X0_firstStepOf G M [.ref (k9_ga G q), .int a0] rv1 M)
    (l1 : k9_U p l e R s m args below meth c Q A G 5 0 0 M 11 [(0, .ref (k9_ga G q)), (1, .int a0), (2, .int (0 : Int32)), (3, .int rv1), (4, .int (0 : Int32))] []) : k9_U p l e R s m args below meth c Q A G 5 0 0 M 0 [(0, .ref (k9_ga G q)), (1, .int a0)] [] := by
  refine k9_iconst (v := 0) X dX0_voiceOf_0 (by decide) ?_
  refine k9_istore_n (lv' := [(0, .ref (k9_ga G q)), (1, .int a0), (2, .int (0 : Int32))]) X dX0_voiceOf_1 rfl (by decide) [1, 2, 0] rfl ?_
  refine k9_aload_n X dX0_voiceOf_2 rfl 0 rfl ?_
  refine k9_iload_n X dX0_voiceOf_3 rfl 1 rfl ?_
  refine k9_callVi1 X k1 (k9_ob_C hq) (cwV 1 X.2.2.2.2.1 gX0_voiceOf_X0_firstStepOf rfl rfl rfl (by decide +kernel) ⟨Nat.le_of_ble_eq_true rfl, Nat.le_of_ble_eq_true rfl⟩) (Nat.le_of_ble_eq_true rfl) dX0_voiceOf_4 ⟨Nat.zero_le _, Nat.zero_le _⟩ ?_
  refine k9_istore_n (lv' := [(0, .ref (k9_ga G q)), (1, .int a0), (2, .int (0 : Int32)), (3, .int rv1)]) X dX0_voiceOf_7 rfl (by decide) [1, 2, 3, 0] rfl ?_
  refine k9_iconst (v := 0) X dX0_voiceOf_8 (by decide) ?_
  refine k9_istore (lv' := [(0, .ref (k9_ga G q)), (1, .int a0), (2, .int (0 : Int32)), (3, .int rv1), (4, .int (0 : Int32))]) X dX0_voiceOf_9 (by decide) [1, 2, 3, 4, 0] rfl ?_
  exact l1

set_option maxRecDepth 20000 in
theorem bk_X0_voiceOf_11 (X : k9_X p R s m args c A G 5 cX0_voiceOf wsX0_voiceOf RX0 rm_X0_voiceOf) {q : Nat} (hq : k9_isC q) {x1 x2 x3 x4 : Int32} {rv1 : Int32}
    (l1 : (x3 ≤ x4) → k9_U p l e R s m args below meth c Q A G 5 0 0 M 42 [(0, .ref (k9_ga G q)), (1, .int x1), (2, .int x2), (3, .int x3), (4, .int (1 : Int32))] [])
    (o1 : (¬ (x3 ≤ x4)) → vp_in x4 96)
    (k1 : (¬ (x3 ≤ x4)) → k9_Ci l yJ6_bitCount_0f7a4 wsJ6_bitCount_0f7a4 rm_J6_bitCount_0f7a4 G M [.int ((M (q + 1) x4.toNatClampNeg) &&& (2097150 : Int32))] rv1 M)
    (l2 : (¬ (x3 ≤ x4)) → k9_U p l e R s m args below meth c Q A G 5 0 0 M 11 [(0, .ref (k9_ga G q)), (1, .int x1), (2, .int (x2 + rv1)), (3, .int x3), (4, .int (x4 + (1 : Int32)))] []) : k9_U p l e R s m args below meth c Q A G 5 0 0 M 11 [(0, .ref (k9_ga G q)), (1, .int x1), (2, .int x2), (3, .int x3), (4, .int x4)] [] := by
  refine k9_iload X dX0_voiceOf_11 4 rfl ?_
  refine k9_iload_n X dX0_voiceOf_13 rfl 3 rfl ?_
  refine k9_icmp_ge (tgt := 39) X dX0_voiceOf_14 (by decide) (fun c1 => ?_) (fun c1 => ?_)
  · refine k9_iconst (v := 1) X dX0_voiceOf_39 (by decide) ?_
    refine k9_istore (lv' := [(0, .ref (k9_ga G q)), (1, .int x1), (2, .int x2), (3, .int x3), (4, .int (1 : Int32))]) X dX0_voiceOf_40 (by decide) [1, 2, 3, 4, 0] rfl ?_
    exact (l1 c1)
  · refine k9_iload_n X dX0_voiceOf_17 rfl 2 rfl ?_
    refine k9_aload_n X dX0_voiceOf_18 rfl 0 rfl ?_
    refine k9_gX0_0 (q := q) (q1 := (q + 1)) X hq (by rfl) in_X0_voiceOf_X0 fl_X0_voiceOf_9 dX0_voiceOf_19 ?_
    refine k9_iload X dX0_voiceOf_22 4 rfl ?_
    refine k9_iald X (k9_ce_C hq G (fun _ => 0)).2.2.1 (o1 c1) (by rfl) dX0_voiceOf_24 ?_
    refine k9_ldc X co_X0_voiceOf_18 dX0_voiceOf_25 ?_
    refine k9_iand X dX0_voiceOf_27 ?_
    refine k9_callSi1 X (k1 c1)  (va_cwS 1 X.2.2.2.2.1 gX0_voiceOf_J6_bitCount_0f7a4 rfl rfl rfl (by decide +kernel) ⟨Nat.le_of_ble_eq_true rfl, Nat.le_of_ble_eq_true rfl⟩) (Nat.le_of_ble_eq_true rfl) dX0_voiceOf_28 ⟨Nat.zero_le _, Nat.zero_le _⟩ ?_
    refine k9_iadd X dX0_voiceOf_31 ?_
    refine k9_istore_n (lv' := [(0, .ref (k9_ga G q)), (1, .int x1), (2, .int (x2 + rv1)), (3, .int x3), (4, .int x4)]) X dX0_voiceOf_32 rfl (by decide) [1, 2, 0, 3, 4] rfl ?_
    refine k9_iinc (v := x4 + (1 : Int32)) (lv' := [(0, .ref (k9_ga G q)), (1, .int x1), (2, .int (x2 + rv1)), (3, .int x3), (4, .int (x4 + (1 : Int32)))]) X dX0_voiceOf_33 (k := 4) rfl (by rfl) (by decide) [1, 2, 3, 4, 0] rfl ?_
    refine k9_goto (tgt := 11) X dX0_voiceOf_36 (by decide) ?_
    exact (l2 c1)

set_option maxRecDepth 20000 in
theorem bk_X0_voiceOf_42 (X : k9_X p R s m args c A G 5 cX0_voiceOf wsX0_voiceOf RX0 rm_X0_voiceOf) {q : Nat} (hq : k9_isC q) {x1 x2 x3 x4 : Int32} {rv1 : Int32}
    (l1 : ((21 : Int32) ≤ x4) → k9_U p l e R s m args below meth c Q A G 5 0 0 M 77 [] [.int (-1 : Int32)])
    (k1 : (¬ ((21 : Int32) ≤ x4)) → k9_Ci l yX0_beginsAt wsX0_beginsAt rm_X0_beginsAt G M [.ref (k9_ga G q), .int x4, .int x3] rv1 M)
    (l2 : (¬ ((21 : Int32) ≤ x4)) → (rv1 = 0) → k9_U p l e R s m args below meth c Q A G 5 0 0 M 42 [(0, .ref (k9_ga G q)), (1, .int x1), (2, .int x2), (3, .int x3), (4, .int (x4 + (1 : Int32)))] [])
    (l3 : (¬ ((21 : Int32) ≤ x4)) → (¬ (rv1 = 0)) → (¬ x2 = x1) → k9_U p l e R s m args below meth c Q A G 5 0 0 M 42 [(0, .ref (k9_ga G q)), (1, .int x1), (2, .int (x2 + (1 : Int32))), (3, .int x3), (4, .int (x4 + (1 : Int32)))] [])
    (l4 : (¬ ((21 : Int32) ≤ x4)) → (¬ (rv1 = 0)) → (x2 = x1) → k9_U p l e R s m args below meth c Q A G 5 0 0 M 66 [] [.int x4]) : k9_U p l e R s m args below meth c Q A G 5 0 0 M 42 [(0, .ref (k9_ga G q)), (1, .int x1), (2, .int x2), (3, .int x3), (4, .int x4)] [] := by
  refine k9_iload X dX0_voiceOf_42 4 rfl ?_
  refine k9_bipush (v := 21) X dX0_voiceOf_44 (by decide) ?_
  refine k9_icmp_ge (tgt := 76) X dX0_voiceOf_46 (by decide) (fun c1 => ?_) (fun c1 => ?_)
  · refine k9_iconst (v := -1) X dX0_voiceOf_76 (by decide) ?_
    refine k9_sub (lv' := []) [] rfl ?_
    exact (l1 c1)
  · refine k9_aload_n X dX0_voiceOf_49 rfl 0 rfl ?_
    refine k9_iload X dX0_voiceOf_50 4 rfl ?_
    refine k9_iload_n X dX0_voiceOf_52 rfl 3 rfl ?_
    refine k9_callVi2 X (k1 c1) (k9_ob_C hq) (cwV 2 X.2.2.2.2.1 gX0_voiceOf_X0_beginsAt rfl rfl rfl (by decide +kernel) ⟨Nat.le_of_ble_eq_true rfl, Nat.le_of_ble_eq_true rfl⟩) (Nat.le_of_ble_eq_true rfl) dX0_voiceOf_53 ⟨Nat.zero_le _, Nat.zero_le _⟩ ?_
    refine k9_if_eq (tgt := 70) X dX0_voiceOf_56 (by decide) (fun c2 => ?_) (fun c2 => ?_)
    · refine k9_iinc (v := x4 + (1 : Int32)) (lv' := [(0, .ref (k9_ga G q)), (1, .int x1), (2, .int x2), (3, .int x3), (4, .int (x4 + (1 : Int32)))]) X dX0_voiceOf_70 (k := 4) rfl (by rfl) (by decide) [1, 2, 3, 4, 0] rfl ?_
      refine k9_goto (tgt := 42) X dX0_voiceOf_73 (by decide) ?_
      exact (l2 c1 c2)
    · refine k9_iload_n X dX0_voiceOf_59 rfl 2 rfl ?_
      refine k9_iload_n X dX0_voiceOf_60 rfl 1 rfl ?_
      refine k9_icmp_ne (tgt := 67) X dX0_voiceOf_61 (by decide) (fun c3 => ?_) (fun c3 => ?_)
      · refine k9_iinc (v := x2 + (1 : Int32)) (lv' := [(0, .ref (k9_ga G q)), (1, .int x1), (2, .int (x2 + (1 : Int32))), (3, .int x3), (4, .int x4)]) X dX0_voiceOf_67 (k := 2) rfl (by rfl) (by decide) [1, 2, 0, 3, 4] rfl ?_
        refine k9_iinc (v := x4 + (1 : Int32)) (lv' := [(0, .ref (k9_ga G q)), (1, .int x1), (2, .int (x2 + (1 : Int32))), (3, .int x3), (4, .int (x4 + (1 : Int32)))]) X dX0_voiceOf_70 (k := 4) rfl (by rfl) (by decide) [1, 2, 3, 4, 0] rfl ?_
        refine k9_goto (tgt := 42) X dX0_voiceOf_73 (by decide) ?_
        exact (l3 c1 c2 c3)
      · refine k9_iload X dX0_voiceOf_64 4 rfl ?_
        refine k9_sub (lv' := []) [] rfl ?_
        exact (l4 c1 c2 c3)

end BK
