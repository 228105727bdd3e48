section BK
variable {p : Program} {l : Launch} {e : Env} {R : Room} {s : State} {m : MethodId} {args : Array Value} {below : List Frame} {meth : Method} {c : Code} {Q : State → Prop} {A : Nat → Prop} {G : k9_G} {M : k9_Mem}
theorem in_X2_isFull_X2 : ∀ w ∈ u_ws RX2 TX2 10, w ∈ wsX2_isFull := by decide +kernel
theorem fl_X2_isFull_15 : Cond.fieldLink RX2 15 (TX2 1).1 (TX2 1).2.1 (TX2 1).2.2.1 ∈ wsX2_isFull := by decide +kernel
theorem fl_X2_isFull_9 : Cond.fieldLink RX2 9 (TX2 0).1 (TX2 0).2.1 (TX2 0).2.2.1 ∈ wsX2_isFull := by decide +kernel
set_option maxRecDepth 20000 in
theorem bk_X2_isFull_0 (X : k9_X p R s m args c A G 1 cX2_isFull wsX2_isFull RX2 rm_X2_isFull) 
    (l1 : ((M 66 1) < (60 : Int32)) → k9_U p l e R s m args below meth c Q A G 1 0 0 M 17 [] [.int (0 : Int32)])
    (l2 : (¬ ((M 66 1) < (60 : Int32))) → k9_U p l e R s m args below meth c Q A G 1 0 0 M 17 [] [.int (1 : Int32)]) : k9_U p l e R s m args below meth c Q A G 1 0 0 M 0 [(0, .ref (k9_ga G 66))] [] := by
  refine k9_aload_n X dX2_isFull_0 rfl 0 rfl ?_
  refine k9_gX2_1 X (by rfl) in_X2_isFull_X2 fl_X2_isFull_15 dX2_isFull_1 ?_
  refine k9_aload_n X dX2_isFull_4 rfl 0 rfl ?_
  refine k9_gX2_0 X in_X2_isFull_X2 fl_X2_isFull_9 dX2_isFull_5 ?_
  refine k9_alenL (n := 60) (v := 60) X rfl (by decide) dX2_isFull_8 ?_
  refine k9_icmp_lt (tgt := 16) X dX2_isFull_9 (by decide) (fun c1 => ?_) (fun c1 => ?_)
  · refine k9_iconst (v := 0) X dX2_isFull_16 (by decide) ?_
    refine k9_sub (lv' := []) [] rfl ?_
    exact (l1 c1)
  · refine k9_iconst (v := 1) X dX2_isFull_12 (by decide) ?_
    refine k9_goto (tgt := 17) X dX2_isFull_13 (by decide) ?_
    refine k9_sub (lv' := []) [] rfl ?_
    exact (l2 c1)

theorem in_X2_add_X2 : ∀ w ∈ u_ws RX2 TX2 10, w ∈ wsX2_add := by decide +kernel
theorem fl_X2_add_15 : Cond.fieldLink RX2 15 (TX2 1).1 (TX2 1).2.1 (TX2 1).2.2.1 ∈ wsX2_add := by decide +kernel
theorem fl_X2_add_9 : Cond.fieldLink RX2 9 (TX2 0).1 (TX2 0).2.1 (TX2 0).2.2.1 ∈ wsX2_add := by decide +kernel
set_option maxRecDepth 20000 in
theorem bk_X2_add_0 (X : k9_X p R s m args c A G 2 cX2_add wsX2_add RX2 rm_X2_add) {a0 : Int32}
    (l1 : ((M 66 1) < 0) → k9_U p l e R s m args below meth c Q A G 2 0 0 M 43 [] [.int (M 66 1)])
    (l2 : (¬ ((M 66 1) < 0)) → ((60 : Int32) ≤ (M 66 1)) → k9_U p l e R s m args below meth c Q A G 2 0 0 M 43 [] [.int (M 66 1)])
    (o1 : (¬ ((M 66 1) < 0)) → (¬ ((60 : Int32) ≤ (M 66 1))) → vp_in (M 66 1) 60)
    (l3 : (¬ ((M 66 1) < 0)) → (¬ ((60 : Int32) ≤ (M 66 1))) → k9_U p l e R s m args below meth c Q A G 2 0 0 (k9_st (k9_st M 67 (M 66 1).toNatClampNeg a0) 66 1 ((M 66 1) + (1 : Int32))) 43 [] [.int ((M 66 1) + (1 : Int32))]) : k9_U p l e R s m args below meth c Q A G 2 0 0 M 0 [(0, .ref (k9_ga G 66)), (1, .int a0)] [] := by
  refine k9_aload_n X dX2_add_0 rfl 0 rfl ?_
  refine k9_gX2_1 X (by rfl) in_X2_add_X2 fl_X2_add_15 dX2_add_1 ?_
  refine k9_if_lt (tgt := 39) X dX2_add_4 (by decide) (fun c1 => ?_) (fun c1 => ?_)
  · refine k9_aload_n X dX2_add_39 rfl 0 rfl ?_
    refine k9_gX2_1 X (by rfl) in_X2_add_X2 fl_X2_add_15 dX2_add_40 ?_
    refine k9_sub (lv' := []) [] rfl ?_
    exact (l1 c1)
  · refine k9_aload_n X dX2_add_7 rfl 0 rfl ?_
    refine k9_gX2_1 X (by rfl) in_X2_add_X2 fl_X2_add_15 dX2_add_8 ?_
    refine k9_aload_n X dX2_add_11 rfl 0 rfl ?_
    refine k9_gX2_0 X in_X2_add_X2 fl_X2_add_9 dX2_add_12 ?_
    refine k9_alenL (n := 60) (v := 60) X rfl (by decide) dX2_add_15 ?_
    refine k9_icmp_ge (tgt := 39) X dX2_add_16 (by decide) (fun c2 => ?_) (fun c2 => ?_)
    · refine k9_aload_n X dX2_add_39 rfl 0 rfl ?_
      refine k9_gX2_1 X (by rfl) in_X2_add_X2 fl_X2_add_15 dX2_add_40 ?_
      refine k9_sub (lv' := []) [] rfl ?_
      exact (l2 c1 c2)
    · refine k9_aload_n X dX2_add_19 rfl 0 rfl ?_
      refine k9_gX2_0 X in_X2_add_X2 fl_X2_add_9 dX2_add_20 ?_
      refine k9_aload_n X dX2_add_23 rfl 0 rfl ?_
      refine k9_gX2_1 X (by rfl) in_X2_add_X2 fl_X2_add_15 dX2_add_24 ?_
      refine k9_iload_n X dX2_add_27 rfl 1 rfl ?_
      refine k9_iast X (by decide) (o1 c1 c2) dX2_add_28 ?_
      refine k9_aload_n X dX2_add_29 rfl 0 rfl ?_
      refine k9_dup X dX2_add_30 rfl ?_
      refine k9_gX2_1 (v := (M 66 1)) X (by rfl) in_X2_add_X2 fl_X2_add_15 dX2_add_31 ?_
      refine k9_iconst (v := 1) X dX2_add_34 (by decide) ?_
      refine k9_iadd X dX2_add_35 ?_
      refine k9_pX2_1 X in_X2_add_X2 fl_X2_add_15 dX2_add_36 ?_
      refine k9_aload_n X dX2_add_39 rfl 0 rfl ?_
      refine k9_gX2_1 (v := ((M 66 1) + (1 : Int32))) X (by rfl) in_X2_add_X2 fl_X2_add_15 dX2_add_40 ?_
      refine k9_sub (lv' := []) [] rfl ?_
      exact (l3 c1 c2)

theorem in_X2_empty_X2 : ∀ w ∈ u_ws RX2 TX2 10, w ∈ wsX2_empty := by decide +kernel
theorem fl_X2_empty_15 : Cond.fieldLink RX2 15 (TX2 1).1 (TX2 1).2.1 (TX2 1).2.2.1 ∈ wsX2_empty := by decide +kernel
set_option maxRecDepth 20000 in
theorem bk_X2_empty_0 (X : k9_X p R s m args c A G 2 cX2_empty wsX2_empty RX2 rm_X2_empty) 
    (l1 : k9_U p l e R s m args below meth c Q A G 2 0 0 (k9_st M 66 1 (0 : Int32)) 11 [] [.int (M 66 1)]) : k9_U p l e R s m args below meth c Q A G 2 0 0 M 0 [(0, .ref (k9_ga G 66))] [] := by
  refine k9_aload_n X dX2_empty_0 rfl 0 rfl ?_
  refine k9_gX2_1 X (by rfl) in_X2_empty_X2 fl_X2_empty_15 dX2_empty_1 ?_
  refine k9_istore_n (lv' := [(0, .ref (k9_ga G 66)), (1, .int (M 66 1))]) X dX2_empty_4 rfl (by decide) [1, 0] rfl ?_
  refine k9_aload_n X dX2_empty_5 rfl 0 rfl ?_
  refine k9_iconst (v := 0) X dX2_empty_6 (by decide) ?_
  refine k9_pX2_1 X in_X2_empty_X2 fl_X2_empty_15 dX2_empty_7 ?_
  refine k9_iload_n X dX2_empty_10 rfl 1 rfl ?_
  refine k9_sub (lv' := []) [] rfl ?_
  exact l1

theorem in_X2_readAll_X2 : ∀ w ∈ u_ws RX2 TX2 10, w ∈ wsX2_readAll := by decide +kernel
theorem fl_X2_readAll_28 : Cond.fieldLink RX2 28 (TX2 5).1 (TX2 5).2.1 (TX2 5).2.2.1 ∈ wsX2_readAll := by decide +kernel
theorem fl_X2_readAll_31 : Cond.fieldLink RX2 31 (TX2 6).1 (TX2 6).2.1 (TX2 6).2.2.1 ∈ wsX2_readAll := by decide +kernel
theorem fl_X2_readAll_34 : Cond.fieldLink RX2 34 (TX2 7).1 (TX2 7).2.1 (TX2 7).2.2.1 ∈ wsX2_readAll := by decide +kernel
theorem fl_X2_readAll_15 : Cond.fieldLink RX2 15 (TX2 1).1 (TX2 1).2.1 (TX2 1).2.2.1 ∈ wsX2_readAll := by decide +kernel
theorem fl_X2_readAll_9 : Cond.fieldLink RX2 9 (TX2 0).1 (TX2 0).2.1 (TX2 0).2.2.1 ∈ wsX2_readAll := by decide +kernel
set_option maxRecDepth 20000 in
theorem bk_X2_readAll_0 (X : k9_X p R s m args c A G 2 cX2_readAll wsX2_readAll RX2 rm_X2_readAll) 
    (l1 : k9_U p l e R s m args below meth c Q A G 2 0 0 (k9_st (k9_st (k9_st M 66 5 (0 : Int32)) 66 6 (0 : Int32)) 66 7 (-1 : Int32)) 17 [(0, .ref (k9_ga G 66)), (1, .int (0 : Int32))] []) : k9_U p l e R s m args below meth c Q A G 2 0 0 M 0 [(0, .ref (k9_ga G 66))] [] := by
  refine k9_aload_n X dX2_readAll_0 rfl 0 rfl ?_
  refine k9_iconst (v := 0) X dX2_readAll_1 (by decide) ?_
  refine k9_pX2_5 X in_X2_readAll_X2 fl_X2_readAll_28 dX2_readAll_2 ?_
  refine k9_aload_n X dX2_readAll_5 rfl 0 rfl ?_
  refine k9_iconst (v := 0) X dX2_readAll_6 (by decide) ?_
  refine k9_pX2_6 X in_X2_readAll_X2 fl_X2_readAll_31 dX2_readAll_7 ?_
  refine k9_aload_n X dX2_readAll_10 rfl 0 rfl ?_
  refine k9_iconst (v := -1) X dX2_readAll_11 (by decide) ?_
  refine k9_pX2_7 X in_X2_readAll_X2 fl_X2_readAll_34 dX2_readAll_12 ?_
  refine k9_iconst (v := 0) X dX2_readAll_15 (by decide) ?_
  refine k9_istore_n (lv' := [(0, .ref (k9_ga G 66)), (1, .int (0 : Int32))]) X dX2_readAll_16 rfl (by decide) [1, 0] rfl ?_
  exact l1

set_option maxRecDepth 20000 in
theorem bk_X2_readAll_17 (X : k9_X p R s m args c A G 2 cX2_readAll wsX2_readAll RX2 rm_X2_readAll) {x1 : Int32} {rv1 : Int32} {mv1 : k9_Mem}
    (l1 : ((M 66 1) ≤ x1) → k9_U p l e R s m args below meth c Q A G 2 0 0 M 59 [] [.int (M 66 1)])
    (l2 : (¬ ((M 66 1) ≤ x1)) → ((60 : Int32) ≤ x1) → k9_U p l e R s m args below meth c Q A G 2 0 0 M 59 [] [.int (M 66 1)])
    (o1 : (¬ ((M 66 1) ≤ x1)) → (¬ ((60 : Int32) ≤ x1)) → vp_in x1 60)
    (k1 : (¬ ((M 66 1) ≤ x1)) → (¬ ((60 : Int32) ≤ x1)) → k9_Ci l yX2_takes wsX2_takes rm_X2_takes G M [.ref (k9_ga G 66), .int (M 67 x1.toNatClampNeg)] rv1 mv1)
    (l3 : (¬ ((M 66 1) ≤ x1)) → (¬ ((60 : Int32) ≤ x1)) → (¬ rv1 = 0) → k9_U p l e R s m args below meth c Q A G 2 0 0 mv1 17 [(0, .ref (k9_ga G 66)), (1, .int (x1 + (1 : Int32)))] [])
    (l4 : (¬ ((M 66 1) ≤ x1)) → (¬ ((60 : Int32) ≤ x1)) → (rv1 = 0) → k9_U p l e R s m args below meth c Q A G 2 0 0 mv1 48 [] [.int x1]) : k9_U p l e R s m args below meth c Q A G 2 0 0 M 17 [(0, .ref (k9_ga G 66)), (1, .int x1)] [] := by
  refine k9_iload_n X dX2_readAll_17 rfl 1 rfl ?_
  refine k9_aload_n X dX2_readAll_18 rfl 0 rfl ?_
  refine k9_gX2_1 X (by rfl) in_X2_readAll_X2 fl_X2_readAll_15 dX2_readAll_19 ?_
  refine k9_icmp_ge (tgt := 55) X dX2_readAll_22 (by decide) (fun c1 => ?_) (fun c1 => ?_)
  · refine k9_aload_n X dX2_readAll_55 rfl 0 rfl ?_
    refine k9_gX2_1 X (by rfl) in_X2_readAll_X2 fl_X2_readAll_15 dX2_readAll_56 ?_
    refine k9_sub (lv' := []) [] rfl ?_
    exact (l1 c1)
  · refine k9_iload_n X dX2_readAll_25 rfl 1 rfl ?_
    refine k9_aload_n X dX2_readAll_26 rfl 0 rfl ?_
    refine k9_gX2_0 X in_X2_readAll_X2 fl_X2_readAll_9 dX2_readAll_27 ?_
    refine k9_alenL (n := 60) (v := 60) X rfl (by decide) dX2_readAll_30 ?_
    refine k9_icmp_ge (tgt := 55) X dX2_readAll_31 (by decide) (fun c2 => ?_) (fun c2 => ?_)
    · refine k9_aload_n X dX2_readAll_55 rfl 0 rfl ?_
      refine k9_gX2_1 X (by rfl) in_X2_readAll_X2 fl_X2_readAll_15 dX2_readAll_56 ?_
      refine k9_sub (lv' := []) [] rfl ?_
      exact (l2 c1 c2)
    · refine k9_aload_n X dX2_readAll_34 rfl 0 rfl ?_
      refine k9_aload_n X dX2_readAll_35 rfl 0 rfl ?_
      refine k9_gX2_0 X in_X2_readAll_X2 fl_X2_readAll_9 dX2_readAll_36 ?_
      refine k9_iload_n X dX2_readAll_39 rfl 1 rfl ?_
      refine k9_iald X (by decide) (o1 c1 c2) (by rfl) dX2_readAll_40 ?_
      refine k9_callVi1 X (k1 c1 c2) k9_ob_66 (cwV 1 X.2.2.2.2.1 gX2_readAll_X2_takes rfl rfl rfl (by decide +kernel) ⟨Nat.le_of_ble_eq_true rfl, Nat.le_of_ble_eq_true rfl⟩) (Nat.le_of_ble_eq_true rfl) dX2_readAll_41 ⟨Nat.zero_le _, Nat.zero_le _⟩ ?_
      refine k9_if_ne (tgt := 49) X dX2_readAll_44 (by decide) (fun c3 => ?_) (fun c3 => ?_)
      · refine k9_iinc (v := x1 + (1 : Int32)) (lv' := [(0, .ref (k9_ga G 66)), (1, .int (x1 + (1 : Int32)))]) X dX2_readAll_49 (k := 1) rfl (by rfl) (by decide) [1, 0] rfl ?_
        refine k9_goto (tgt := 17) X dX2_readAll_52 (by decide) ?_
        exact (l3 c1 c2 c3)
      · refine k9_iload_n X dX2_readAll_47 rfl 1 rfl ?_
        refine k9_sub (lv' := []) [] rfl ?_
        exact (l4 c1 c2 c3)

theorem in_X2_readRow_X2 : ∀ w ∈ u_ws RX2 TX2 10, w ∈ wsX2_readRow := by decide +kernel
theorem fl_X2_readRow_15 : Cond.fieldLink RX2 15 (TX2 1).1 (TX2 1).2.1 (TX2 1).2.2.1 ∈ wsX2_readRow := by decide +kernel
theorem fl_X2_readRow_31 : Cond.fieldLink RX2 31 (TX2 6).1 (TX2 6).2.1 (TX2 6).2.2.1 ∈ wsX2_readRow := by decide +kernel
theorem fl_X2_readRow_34 : Cond.fieldLink RX2 34 (TX2 7).1 (TX2 7).2.1 (TX2 7).2.2.1 ∈ wsX2_readRow := by decide +kernel
set_option maxRecDepth 20000 in
theorem bk_X2_readRow_0 (X : k9_X p R s m args c A G 1 cX2_readRow wsX2_readRow RX2 rm_X2_readRow) {rv1 : Int32} {mv1 : k9_Mem} {mv2 : k9_Mem}
    (k1 : k9_Ci l yX2_readAll wsX2_readAll rm_X2_readAll G M [.ref (k9_ga G 66)] rv1 mv1)
    (l1 : (rv1 < (mv1 66 1)) → k9_U p l e R s m args below meth c Q A G 1 0 0 mv1 28 [] [.int (0 : Int32)])
    (l2 : (¬ (rv1 < (mv1 66 1))) → (¬ (mv1 66 6) = (2 : Int32)) → k9_U p l e R s m args below meth c Q A G 1 0 0 mv1 28 [] [.int (0 : Int32)])
    (k2 : (¬ (rv1 < (mv1 66 1))) → ((mv1 66 6) = (2 : Int32)) → (¬ (mv1 66 7) = (-1 : Int32)) → k9_Cv l yX2_keepPart wsX2_keepPart rm_X2_keepPart G mv1 [.ref (k9_ga G 66)] mv2)
    (l3 : (¬ (rv1 < (mv1 66 1))) → ((mv1 66 6) = (2 : Int32)) → (¬ (mv1 66 7) = (-1 : Int32)) → k9_U p l e R s m args below meth c Q A G 1 0 0 mv2 34 [] [.int (1 : Int32)])
    (l4 : (¬ (rv1 < (mv1 66 1))) → ((mv1 66 6) = (2 : Int32)) → ((mv1 66 7) = (-1 : Int32)) → k9_U p l e R s m args below meth c Q A G 1 0 0 mv1 28 [] [.int (0 : Int32)]) : k9_U p l e R s m args below meth c Q A G 1 0 0 M 0 [(0, .ref (k9_ga G 66))] [] := by
  refine k9_aload_n X dX2_readRow_0 rfl 0 rfl ?_
  refine k9_callVi0 X k1 k9_ob_66 (cwV 0 X.2.2.2.2.1 gX2_readRow_X2_readAll rfl rfl rfl (by decide +kernel) ⟨Nat.le_of_ble_eq_true rfl, Nat.le_of_ble_eq_true rfl⟩) (Nat.le_of_ble_eq_true rfl) dX2_readRow_1 ⟨Nat.zero_le _, Nat.zero_le _⟩ ?_
  refine k9_aload_n X dX2_readRow_4 rfl 0 rfl ?_
  refine k9_gX2_1 X (by rfl) in_X2_readRow_X2 fl_X2_readRow_15 dX2_readRow_5 ?_
  refine k9_icmp_lt (tgt := 27) X dX2_readRow_8 (by decide) (fun c1 => ?_) (fun c1 => ?_)
  · refine k9_iconst (v := 0) X dX2_readRow_27 (by decide) ?_
    refine k9_sub (lv' := []) [] rfl ?_
    exact (l1 c1)
  · refine k9_aload_n X dX2_readRow_11 rfl 0 rfl ?_
    refine k9_gX2_6 X (by rfl) in_X2_readRow_X2 fl_X2_readRow_31 dX2_readRow_12 ?_
    refine k9_iconst (v := 2) X dX2_readRow_15 (by decide) ?_
    refine k9_icmp_ne (tgt := 27) X dX2_readRow_16 (by decide) (fun c2 => ?_) (fun c2 => ?_)
    · refine k9_iconst (v := 0) X dX2_readRow_27 (by decide) ?_
      refine k9_sub (lv' := []) [] rfl ?_
      exact (l2 c1 c2)
    · refine k9_aload_n X dX2_readRow_19 rfl 0 rfl ?_
      refine k9_gX2_7 X (by rfl) in_X2_readRow_X2 fl_X2_readRow_34 dX2_readRow_20 ?_
      refine k9_iconst (v := -1) X dX2_readRow_23 (by decide) ?_
      refine k9_icmp_ne (tgt := 29) X dX2_readRow_24 (by decide) (fun c3 => ?_) (fun c3 => ?_)
      · refine k9_aload_n X dX2_readRow_29 rfl 0 rfl ?_
        refine k9_callVv0 X (k2 c1 c2 c3) k9_ob_66 (cwV 0 X.2.2.2.2.1 gX2_readRow_X2_keepPart rfl rfl rfl (by decide +kernel) ⟨Nat.le_of_ble_eq_true rfl, Nat.le_of_ble_eq_true rfl⟩) (Nat.le_of_ble_eq_true rfl) dX2_readRow_30 ⟨Nat.zero_le _, Nat.zero_le _⟩ ?_
        refine k9_iconst (v := 1) X dX2_readRow_33 (by decide) ?_
        refine k9_sub (lv' := []) [] rfl ?_
        exact (l3 c1 c2 c3)
      · refine k9_iconst (v := 0) X dX2_readRow_27 (by decide) ?_
        refine k9_sub (lv' := []) [] rfl ?_
        exact (l4 c1 c2 c3)

theorem in_X2_takes_X2 : ∀ w ∈ u_ws RX2 TX2 10, w ∈ wsX2_takes := by decide +kernel
theorem fl_X2_takes_31 : Cond.fieldLink RX2 31 (TX2 6).1 (TX2 6).2.1 (TX2 6).2.2.1 ∈ wsX2_takes := by decide +kernel
theorem fl_X2_takes_34 : Cond.fieldLink RX2 34 (TX2 7).1 (TX2 7).2.1 (TX2 7).2.2.1 ∈ wsX2_takes := by decide +kernel
set_option maxRecDepth 20000 in
theorem bk_X2_takes_0 (X : k9_X p R s m args c A G 2 cX2_takes wsX2_takes RX2 rm_X2_takes) {a0 : Int32} {rv1 : Int32} {rv2 : Int32} {mv2 : k9_Mem} {rv3 : Int32} {mv3 : k9_Mem} {rv4 : Int32} {rv5 : Int32} {mv5 : k9_Mem} {rv6 : Int32} {mv6 : k9_Mem} {rv7 : Int32} {mv7 : k9_Mem}
    (k1 : (a0 < (48 : Int32)) → (¬ a0 = (112 : Int32)) → k9_Ci l yX2_signAfter wsX2_signAfter rm_X2_signAfter G M [.int (M 66 6)] rv1 M)
    (l1 : (a0 < (48 : Int32)) → (¬ a0 = (112 : Int32)) → (¬ a0 = rv1) → k9_U p l e R s m args below meth c Q A G 2 0 0 M 63 [] [.int (0 : Int32)])
    (l2 : (a0 < (48 : Int32)) → (¬ a0 = (112 : Int32)) → (a0 = rv1) → ((M 66 7) = (-1 : Int32)) → k9_U p l e R s m args below meth c Q A G 2 0 0 M 63 [] [.int (0 : Int32)])
    (k2 : (a0 < (48 : Int32)) → (¬ a0 = (112 : Int32)) → (a0 = rv1) → (¬ ((M 66 7) = (-1 : Int32))) → k9_Ci l yX2_goesOn wsX2_goesOn rm_X2_goesOn G M [.ref (k9_ga G 66)] rv2 mv2)
    (l3 : (a0 < (48 : Int32)) → (¬ a0 = (112 : Int32)) → (a0 = rv1) → (¬ ((M 66 7) = (-1 : Int32))) → (rv2 = 0) → k9_U p l e R s m args below meth c Q A G 2 0 0 mv2 63 [] [.int (0 : Int32)])
    (l4 : (a0 < (48 : Int32)) → (¬ a0 = (112 : Int32)) → (a0 = rv1) → (¬ ((M 66 7) = (-1 : Int32))) → (¬ (rv2 = 0)) → k9_U p l e R s m args below meth c Q A G 2 0 0 mv2 63 [] [.int (1 : Int32)])
    (k3 : (a0 < (48 : Int32)) → (a0 = (112 : Int32)) → k9_Ci l yX2_takesPedal wsX2_takesPedal rm_X2_takesPedal G M [.ref (k9_ga G 66)] rv3 mv3)
    (l5 : (a0 < (48 : Int32)) → (a0 = (112 : Int32)) → k9_U p l e R s m args below meth c Q A G 2 0 0 mv3 31 [] [.int rv3])
    (k4 : (¬ (a0 < (48 : Int32))) → ((57 : Int32) < a0) → (¬ a0 = (112 : Int32)) → k9_Ci l yX2_signAfter wsX2_signAfter rm_X2_signAfter G M [.int (M 66 6)] rv4 M)
    (l6 : (¬ (a0 < (48 : Int32))) → ((57 : Int32) < a0) → (¬ a0 = (112 : Int32)) → (¬ a0 = rv4) → k9_U p l e R s m args below meth c Q A G 2 0 0 M 63 [] [.int (0 : Int32)])
    (l7 : (¬ (a0 < (48 : Int32))) → ((57 : Int32) < a0) → (¬ a0 = (112 : Int32)) → (a0 = rv4) → ((M 66 7) = (-1 : Int32)) → k9_U p l e R s m args below meth c Q A G 2 0 0 M 63 [] [.int (0 : Int32)])
    (k5 : (¬ (a0 < (48 : Int32))) → ((57 : Int32) < a0) → (¬ a0 = (112 : Int32)) → (a0 = rv4) → (¬ ((M 66 7) = (-1 : Int32))) → k9_Ci l yX2_goesOn wsX2_goesOn rm_X2_goesOn G M [.ref (k9_ga G 66)] rv5 mv5)
    (l8 : (¬ (a0 < (48 : Int32))) → ((57 : Int32) < a0) → (¬ a0 = (112 : Int32)) → (a0 = rv4) → (¬ ((M 66 7) = (-1 : Int32))) → (rv5 = 0) → k9_U p l e R s m args below meth c Q A G 2 0 0 mv5 63 [] [.int (0 : Int32)])
    (l9 : (¬ (a0 < (48 : Int32))) → ((57 : Int32) < a0) → (¬ a0 = (112 : Int32)) → (a0 = rv4) → (¬ ((M 66 7) = (-1 : Int32))) → (¬ (rv5 = 0)) → k9_U p l e R s m args below meth c Q A G 2 0 0 mv5 63 [] [.int (1 : Int32)])
    (k6 : (¬ (a0 < (48 : Int32))) → ((57 : Int32) < a0) → (a0 = (112 : Int32)) → k9_Ci l yX2_takesPedal wsX2_takesPedal rm_X2_takesPedal G M [.ref (k9_ga G 66)] rv6 mv6)
    (l10 : (¬ (a0 < (48 : Int32))) → ((57 : Int32) < a0) → (a0 = (112 : Int32)) → k9_U p l e R s m args below meth c Q A G 2 0 0 mv6 31 [] [.int rv6])
    (k7 : (¬ (a0 < (48 : Int32))) → (¬ ((57 : Int32) < a0)) → k9_Ci l yX2_takesDigit wsX2_takesDigit rm_X2_takesDigit G M [.ref (k9_ga G 66), .int (a0 - (48 : Int32))] rv7 mv7)
    (l11 : (¬ (a0 < (48 : Int32))) → (¬ ((57 : Int32) < a0)) → k9_U p l e R s m args below meth c Q A G 2 0 0 mv7 20 [] [.int rv7]) : k9_U p l e R s m args below meth c Q A G 2 0 0 M 0 [(0, .ref (k9_ga G 66)), (1, .int a0)] [] := by
  refine k9_iload_n X dX2_takes_0 rfl 1 rfl ?_
  refine k9_bipush (v := 48) X dX2_takes_1 (by decide) ?_
  refine k9_icmp_lt (tgt := 21) X dX2_takes_3 (by decide) (fun c1 => ?_) (fun c1 => ?_)
  · refine k9_iload_n X dX2_takes_21 rfl 1 rfl ?_
    refine k9_bipush (v := 112) X dX2_takes_22 (by decide) ?_
    refine k9_icmp_ne (tgt := 32) X dX2_takes_24 (by decide) (fun c2 => ?_) (fun c2 => ?_)
    · refine k9_iload_n X dX2_takes_32 rfl 1 rfl ?_
      refine k9_aload_n X dX2_takes_33 rfl 0 rfl ?_
      refine k9_gX2_6 X (by rfl) in_X2_takes_X2 fl_X2_takes_31 dX2_takes_34 ?_
      refine k9_callSi1 X (k1 c1 c2)  (va_cwS 1 X.2.2.2.2.1 gX2_takes_X2_signAfter rfl rfl rfl (by decide +kernel) ⟨Nat.le_of_ble_eq_true rfl, Nat.le_of_ble_eq_true rfl⟩) (Nat.le_of_ble_eq_true rfl) dX2_takes_37 ⟨Nat.zero_le _, Nat.zero_le _⟩ ?_
      refine k9_icmp_ne (tgt := 62) X dX2_takes_40 (by decide) (fun c3 => ?_) (fun c3 => ?_)
      · refine k9_iconst (v := 0) X dX2_takes_62 (by decide) ?_
        refine k9_sub (lv' := []) [] rfl ?_
        exact (l1 c1 c2 c3)
      · refine k9_aload_n X dX2_takes_43 rfl 0 rfl ?_
        refine k9_gX2_7 X (by rfl) in_X2_takes_X2 fl_X2_takes_34 dX2_takes_44 ?_
        refine k9_iconst (v := -1) X dX2_takes_47 (by decide) ?_
        refine k9_icmp_eq (tgt := 62) X dX2_takes_48 (by decide) (fun c4 => ?_) (fun c4 => ?_)
        · refine k9_iconst (v := 0) X dX2_takes_62 (by decide) ?_
          refine k9_sub (lv' := []) [] rfl ?_
          exact (l2 c1 c2 c3 c4)
        · refine k9_aload_n X dX2_takes_51 rfl 0 rfl ?_
          refine k9_callVi0 X (k2 c1 c2 c3 c4) k9_ob_66 (cwV 0 X.2.2.2.2.1 gX2_takes_X2_goesOn rfl rfl rfl (by decide +kernel) ⟨Nat.le_of_ble_eq_true rfl, Nat.le_of_ble_eq_true rfl⟩) (Nat.le_of_ble_eq_true rfl) dX2_takes_52 ⟨Nat.zero_le _, Nat.zero_le _⟩ ?_
          refine k9_if_eq (tgt := 62) X dX2_takes_55 (by decide) (fun c5 => ?_) (fun c5 => ?_)
          · refine k9_iconst (v := 0) X dX2_takes_62 (by decide) ?_
            refine k9_sub (lv' := []) [] rfl ?_
            exact (l3 c1 c2 c3 c4 c5)
          · refine k9_iconst (v := 1) X dX2_takes_58 (by decide) ?_
            refine k9_goto (tgt := 63) X dX2_takes_59 (by decide) ?_
            refine k9_sub (lv' := []) [] rfl ?_
            exact (l4 c1 c2 c3 c4 c5)
    · refine k9_aload_n X dX2_takes_27 rfl 0 rfl ?_
      refine k9_callVi0 X (k3 c1 c2) k9_ob_66 (cwV 0 X.2.2.2.2.1 gX2_takes_X2_takesPedal rfl rfl rfl (by decide +kernel) ⟨Nat.le_of_ble_eq_true rfl, Nat.le_of_ble_eq_true rfl⟩) (Nat.le_of_ble_eq_true rfl) dX2_takes_28 ⟨Nat.zero_le _, Nat.zero_le _⟩ ?_
      refine k9_sub (lv' := []) [] rfl ?_
      exact (l5 c1 c2)
  · refine k9_iload_n X dX2_takes_6 rfl 1 rfl ?_
    refine k9_bipush (v := 57) X dX2_takes_7 (by decide) ?_
    refine k9_icmp_gt (tgt := 21) X dX2_takes_9 (by decide) (fun c6 => ?_) (fun c6 => ?_)
    · refine k9_iload_n X dX2_takes_21 rfl 1 rfl ?_
      refine k9_bipush (v := 112) X dX2_takes_22 (by decide) ?_
      refine k9_icmp_ne (tgt := 32) X dX2_takes_24 (by decide) (fun c7 => ?_) (fun c7 => ?_)
      · refine k9_iload_n X dX2_takes_32 rfl 1 rfl ?_
        refine k9_aload_n X dX2_takes_33 rfl 0 rfl ?_
        refine k9_gX2_6 X (by rfl) in_X2_takes_X2 fl_X2_takes_31 dX2_takes_34 ?_
        refine k9_callSi1 X (k4 c1 c6 c7)  (va_cwS 1 X.2.2.2.2.1 gX2_takes_X2_signAfter rfl rfl rfl (by decide +kernel) ⟨Nat.le_of_ble_eq_true rfl, Nat.le_of_ble_eq_true rfl⟩) (Nat.le_of_ble_eq_true rfl) dX2_takes_37 ⟨Nat.zero_le _, Nat.zero_le _⟩ ?_
        refine k9_icmp_ne (tgt := 62) X dX2_takes_40 (by decide) (fun c8 => ?_) (fun c8 => ?_)
        · refine k9_iconst (v := 0) X dX2_takes_62 (by decide) ?_
          refine k9_sub (lv' := []) [] rfl ?_
          exact (l6 c1 c6 c7 c8)
        · refine k9_aload_n X dX2_takes_43 rfl 0 rfl ?_
          refine k9_gX2_7 X (by rfl) in_X2_takes_X2 fl_X2_takes_34 dX2_takes_44 ?_
          refine k9_iconst (v := -1) X dX2_takes_47 (by decide) ?_
          refine k9_icmp_eq (tgt := 62) X dX2_takes_48 (by decide) (fun c9 => ?_) (fun c9 => ?_)
          · refine k9_iconst (v := 0) X dX2_takes_62 (by decide) ?_
            refine k9_sub (lv' := []) [] rfl ?_
            exact (l7 c1 c6 c7 c8 c9)
          · refine k9_aload_n X dX2_takes_51 rfl 0 rfl ?_
            refine k9_callVi0 X (k5 c1 c6 c7 c8 c9) k9_ob_66 (cwV 0 X.2.2.2.2.1 gX2_takes_X2_goesOn rfl rfl rfl (by decide +kernel) ⟨Nat.le_of_ble_eq_true rfl, Nat.le_of_ble_eq_true rfl⟩) (Nat.le_of_ble_eq_true rfl) dX2_takes_52 ⟨Nat.zero_le _, Nat.zero_le _⟩ ?_
            refine k9_if_eq (tgt := 62) X dX2_takes_55 (by decide) (fun c10 => ?_) (fun c10 => ?_)
            · refine k9_iconst (v := 0) X dX2_takes_62 (by decide) ?_
              refine k9_sub (lv' := []) [] rfl ?_
              exact (l8 c1 c6 c7 c8 c9 c10)
            · refine k9_iconst (v := 1) X dX2_takes_58 (by decide) ?_
              refine k9_goto (tgt := 63) X dX2_takes_59 (by decide) ?_
              refine k9_sub (lv' := []) [] rfl ?_
              exact (l9 c1 c6 c7 c8 c9 c10)
      · refine k9_aload_n X dX2_takes_27 rfl 0 rfl ?_
        refine k9_callVi0 X (k6 c1 c6 c7) k9_ob_66 (cwV 0 X.2.2.2.2.1 gX2_takes_X2_takesPedal rfl rfl rfl (by decide +kernel) ⟨Nat.le_of_ble_eq_true rfl, Nat.le_of_ble_eq_true rfl⟩) (Nat.le_of_ble_eq_true rfl) dX2_takes_28 ⟨Nat.zero_le _, Nat.zero_le _⟩ ?_
        refine k9_sub (lv' := []) [] rfl ?_
        exact (l10 c1 c6 c7)
    · refine k9_aload_n X dX2_takes_12 rfl 0 rfl ?_
      refine k9_iload_n X dX2_takes_13 rfl 1 rfl ?_
      refine k9_bipush (v := 48) X dX2_takes_14 (by decide) ?_
      refine k9_isub X dX2_takes_16 ?_
      refine k9_callVi1 X (k7 c1 c6) k9_ob_66 (cwV 1 X.2.2.2.2.1 gX2_takes_X2_takesDigit rfl rfl rfl (by decide +kernel) ⟨Nat.le_of_ble_eq_true rfl, Nat.le_of_ble_eq_true rfl⟩) (Nat.le_of_ble_eq_true rfl) dX2_takes_17 ⟨Nat.zero_le _, Nat.zero_le _⟩ ?_
      refine k9_sub (lv' := []) [] rfl ?_
      exact (l11 c1 c6)

theorem in_X2_takesDigit_X2 : ∀ w ∈ u_ws RX2 TX2 10, w ∈ wsX2_takesDigit := by decide +kernel
theorem fl_X2_takesDigit_34 : Cond.fieldLink RX2 34 (TX2 7).1 (TX2 7).2.1 (TX2 7).2.2.1 ∈ wsX2_takesDigit := by decide +kernel
theorem fl_X2_takesDigit_31 : Cond.fieldLink RX2 31 (TX2 6).1 (TX2 6).2.1 (TX2 6).2.2.1 ∈ wsX2_takesDigit := by decide +kernel
set_option maxRecDepth 20000 in
theorem bk_X2_takesDigit_0 (X : k9_X p R s m args c A G 3 cX2_takesDigit wsX2_takesDigit RX2 rm_X2_takesDigit) {a0 : Int32} {rv1 : Int32} {rv2 : Int32}
    (l1 : ((M 66 7) = 0) → k9_U p l e R s m args below meth c Q A G 3 0 0 M 17 [] [.int (0 : Int32)])
    (k1 : (¬ ((M 66 7) = 0)) → (¬ (M 66 7) = (-2 : Int32)) → (¬ (M 66 7) = (-1 : Int32)) → k9_Ci l yX2_largestOf wsX2_largestOf rm_X2_largestOf G M [.int (M 66 6)] rv1 M)
    (l2 : (¬ ((M 66 7) = 0)) → (¬ (M 66 7) = (-2 : Int32)) → (¬ (M 66 7) = (-1 : Int32)) → (rv1 < (((M 66 7) * (10 : Int32)) + a0)) → k9_U p l e R s m args below meth c Q A G 3 0 0 M 64 [] [.int (0 : Int32)])
    (l3 : (¬ ((M 66 7) = 0)) → (¬ (M 66 7) = (-2 : Int32)) → (¬ (M 66 7) = (-1 : Int32)) → (¬ (rv1 < (((M 66 7) * (10 : Int32)) + a0))) → (¬ (((M 66 7) * (10 : Int32)) + a0) = 0) → k9_U p l e R s m args below meth c Q A G 3 0 0 (k9_st M 66 7 (((M 66 7) * (10 : Int32)) + a0)) 71 [] [.int (1 : Int32)])
    (l4 : (¬ ((M 66 7) = 0)) → (¬ (M 66 7) = (-2 : Int32)) → (¬ (M 66 7) = (-1 : Int32)) → (¬ (rv1 < (((M 66 7) * (10 : Int32)) + a0))) → ((((M 66 7) * (10 : Int32)) + a0) = 0) → (¬ (M 66 6) = (2 : Int32)) → k9_U p l e R s m args below meth c Q A G 3 0 0 (k9_st M 66 7 (((M 66 7) * (10 : Int32)) + a0)) 71 [] [.int (1 : Int32)])
    (l5 : (¬ ((M 66 7) = 0)) → (¬ (M 66 7) = (-2 : Int32)) → (¬ (M 66 7) = (-1 : Int32)) → (¬ (rv1 < (((M 66 7) * (10 : Int32)) + a0))) → ((((M 66 7) * (10 : Int32)) + a0) = 0) → ((M 66 6) = (2 : Int32)) → k9_U p l e R s m args below meth c Q A G 3 0 0 M 64 [] [.int (0 : Int32)])
    (k2 : (¬ ((M 66 7) = 0)) → (¬ (M 66 7) = (-2 : Int32)) → ((M 66 7) = (-1 : Int32)) → k9_Ci l yX2_largestOf wsX2_largestOf rm_X2_largestOf G M [.int (M 66 6)] rv2 M)
    (l6 : (¬ ((M 66 7) = 0)) → (¬ (M 66 7) = (-2 : Int32)) → ((M 66 7) = (-1 : Int32)) → (rv2 < a0) → k9_U p l e R s m args below meth c Q A G 3 0 0 M 64 [] [.int (0 : Int32)])
    (l7 : (¬ ((M 66 7) = 0)) → (¬ (M 66 7) = (-2 : Int32)) → ((M 66 7) = (-1 : Int32)) → (¬ (rv2 < a0)) → (¬ a0 = 0) → k9_U p l e R s m args below meth c Q A G 3 0 0 (k9_st M 66 7 a0) 71 [] [.int (1 : Int32)])
    (l8 : (¬ ((M 66 7) = 0)) → (¬ (M 66 7) = (-2 : Int32)) → ((M 66 7) = (-1 : Int32)) → (¬ (rv2 < a0)) → (a0 = 0) → (¬ (M 66 6) = (2 : Int32)) → k9_U p l e R s m args below meth c Q A G 3 0 0 (k9_st M 66 7 a0) 71 [] [.int (1 : Int32)])
    (l9 : (¬ ((M 66 7) = 0)) → (¬ (M 66 7) = (-2 : Int32)) → ((M 66 7) = (-1 : Int32)) → (¬ (rv2 < a0)) → (a0 = 0) → ((M 66 6) = (2 : Int32)) → k9_U p l e R s m args below meth c Q A G 3 0 0 M 64 [] [.int (0 : Int32)])
    (l10 : (¬ ((M 66 7) = 0)) → ((M 66 7) = (-2 : Int32)) → k9_U p l e R s m args below meth c Q A G 3 0 0 M 17 [] [.int (0 : Int32)]) : k9_U p l e R s m args below meth c Q A G 3 0 0 M 0 [(0, .ref (k9_ga G 66)), (1, .int a0)] [] := by
  refine k9_aload_n X dX2_takesDigit_0 rfl 0 rfl ?_
  refine k9_gX2_7 X (by rfl) in_X2_takesDigit_X2 fl_X2_takesDigit_34 dX2_takesDigit_1 ?_
  refine k9_if_eq (tgt := 16) X dX2_takesDigit_4 (by decide) (fun c1 => ?_) (fun c1 => ?_)
  · refine k9_iconst (v := 0) X dX2_takesDigit_16 (by decide) ?_
    refine k9_sub (lv' := []) [] rfl ?_
    exact (l1 c1)
  · refine k9_aload_n X dX2_takesDigit_7 rfl 0 rfl ?_
    refine k9_gX2_7 X (by rfl) in_X2_takesDigit_X2 fl_X2_takesDigit_34 dX2_takesDigit_8 ?_
    refine k9_bipush (v := -2) X dX2_takesDigit_11 (by decide) ?_
    refine k9_icmp_ne (tgt := 18) X dX2_takesDigit_13 (by decide) (fun c2 => ?_) (fun c2 => ?_)
    · refine k9_aload_n X dX2_takesDigit_18 rfl 0 rfl ?_
      refine k9_gX2_7 X (by rfl) in_X2_takesDigit_X2 fl_X2_takesDigit_34 dX2_takesDigit_19 ?_
      refine k9_iconst (v := -1) X dX2_takesDigit_22 (by decide) ?_
      refine k9_icmp_ne (tgt := 30) X dX2_takesDigit_23 (by decide) (fun c3 => ?_) (fun c3 => ?_)
      · refine k9_aload_n X dX2_takesDigit_30 rfl 0 rfl ?_
        refine k9_gX2_7 X (by rfl) in_X2_takesDigit_X2 fl_X2_takesDigit_34 dX2_takesDigit_31 ?_
        refine k9_bipush (v := 10) X dX2_takesDigit_34 (by decide) ?_
        refine k9_imul X dX2_takesDigit_36 ?_
        refine k9_iload_n X dX2_takesDigit_37 rfl 1 rfl ?_
        refine k9_iadd X dX2_takesDigit_38 ?_
        refine k9_istore_n (lv' := [(0, .ref (k9_ga G 66)), (1, .int a0), (2, .int (((M 66 7) * (10 : Int32)) + a0))]) X dX2_takesDigit_39 rfl (by decide) [1, 2, 0] rfl ?_
        refine k9_iload_n X dX2_takesDigit_40 rfl 2 rfl ?_
        refine k9_aload_n X dX2_takesDigit_41 rfl 0 rfl ?_
        refine k9_gX2_6 X (by rfl) in_X2_takesDigit_X2 fl_X2_takesDigit_31 dX2_takesDigit_42 ?_
        refine k9_callSi1 X (k1 c1 c2 c3)  (va_cwS 1 X.2.2.2.2.1 gX2_takesDigit_X2_largestOf rfl rfl rfl (by decide +kernel) ⟨Nat.le_of_ble_eq_true rfl, Nat.le_of_ble_eq_true rfl⟩) (Nat.le_of_ble_eq_true rfl) dX2_takesDigit_45 ⟨Nat.zero_le _, Nat.zero_le _⟩ ?_
        refine k9_icmp_gt (tgt := 63) X dX2_takesDigit_48 (by decide) (fun c4 => ?_) (fun c4 => ?_)
        · refine k9_iconst (v := 0) X dX2_takesDigit_63 (by decide) ?_
          refine k9_sub (lv' := []) [] rfl ?_
          exact (l2 c1 c2 c3 c4)
        · refine k9_iload_n X dX2_takesDigit_51 rfl 2 rfl ?_
          refine k9_if_ne (tgt := 65) X dX2_takesDigit_52 (by decide) (fun c5 => ?_) (fun c5 => ?_)
          · refine k9_aload_n X dX2_takesDigit_65 rfl 0 rfl ?_
            refine k9_iload_n X dX2_takesDigit_66 rfl 2 rfl ?_
            refine k9_pX2_7 X in_X2_takesDigit_X2 fl_X2_takesDigit_34 dX2_takesDigit_67 ?_
            refine k9_iconst (v := 1) X dX2_takesDigit_70 (by decide) ?_
            refine k9_sub (lv' := []) [] rfl ?_
            exact (l3 c1 c2 c3 c4 c5)
          · refine k9_aload_n X dX2_takesDigit_55 rfl 0 rfl ?_
            refine k9_gX2_6 X (by rfl) in_X2_takesDigit_X2 fl_X2_takesDigit_31 dX2_takesDigit_56 ?_
            refine k9_iconst (v := 2) X dX2_takesDigit_59 (by decide) ?_
            refine k9_icmp_ne (tgt := 65) X dX2_takesDigit_60 (by decide) (fun c6 => ?_) (fun c6 => ?_)
            · refine k9_aload_n X dX2_takesDigit_65 rfl 0 rfl ?_
              refine k9_iload_n X dX2_takesDigit_66 rfl 2 rfl ?_
              refine k9_pX2_7 X in_X2_takesDigit_X2 fl_X2_takesDigit_34 dX2_takesDigit_67 ?_
              refine k9_iconst (v := 1) X dX2_takesDigit_70 (by decide) ?_
              refine k9_sub (lv' := []) [] rfl ?_
              exact (l4 c1 c2 c3 c4 c5 c6)
            · refine k9_iconst (v := 0) X dX2_takesDigit_63 (by decide) ?_
              refine k9_sub (lv' := []) [] rfl ?_
              exact (l5 c1 c2 c3 c4 c5 c6)
      · refine k9_iload_n X dX2_takesDigit_26 rfl 1 rfl ?_
        refine k9_goto (tgt := 39) X dX2_takesDigit_27 (by decide) ?_
        refine k9_istore_n (lv' := [(0, .ref (k9_ga G 66)), (1, .int a0), (2, .int a0)]) X dX2_takesDigit_39 rfl (by decide) [1, 2, 0] rfl ?_
        refine k9_iload_n X dX2_takesDigit_40 rfl 2 rfl ?_
        refine k9_aload_n X dX2_takesDigit_41 rfl 0 rfl ?_
        refine k9_gX2_6 X (by rfl) in_X2_takesDigit_X2 fl_X2_takesDigit_31 dX2_takesDigit_42 ?_
        refine k9_callSi1 X (k2 c1 c2 c3)  (va_cwS 1 X.2.2.2.2.1 gX2_takesDigit_X2_largestOf rfl rfl rfl (by decide +kernel) ⟨Nat.le_of_ble_eq_true rfl, Nat.le_of_ble_eq_true rfl⟩) (Nat.le_of_ble_eq_true rfl) dX2_takesDigit_45 ⟨Nat.zero_le _, Nat.zero_le _⟩ ?_
        refine k9_icmp_gt (tgt := 63) X dX2_takesDigit_48 (by decide) (fun c7 => ?_) (fun c7 => ?_)
        · refine k9_iconst (v := 0) X dX2_takesDigit_63 (by decide) ?_
          refine k9_sub (lv' := []) [] rfl ?_
          exact (l6 c1 c2 c3 c7)
        · refine k9_iload_n X dX2_takesDigit_51 rfl 2 rfl ?_
          refine k9_if_ne (tgt := 65) X dX2_takesDigit_52 (by decide) (fun c8 => ?_) (fun c8 => ?_)
          · refine k9_aload_n X dX2_takesDigit_65 rfl 0 rfl ?_
            refine k9_iload_n X dX2_takesDigit_66 rfl 2 rfl ?_
            refine k9_pX2_7 X in_X2_takesDigit_X2 fl_X2_takesDigit_34 dX2_takesDigit_67 ?_
            refine k9_iconst (v := 1) X dX2_takesDigit_70 (by decide) ?_
            refine k9_sub (lv' := []) [] rfl ?_
            exact (l7 c1 c2 c3 c7 c8)
          · refine k9_aload_n X dX2_takesDigit_55 rfl 0 rfl ?_
            refine k9_gX2_6 X (by rfl) in_X2_takesDigit_X2 fl_X2_takesDigit_31 dX2_takesDigit_56 ?_
            refine k9_iconst (v := 2) X dX2_takesDigit_59 (by decide) ?_
            refine k9_icmp_ne (tgt := 65) X dX2_takesDigit_60 (by decide) (fun c9 => ?_) (fun c9 => ?_)
            · refine k9_aload_n X dX2_takesDigit_65 rfl 0 rfl ?_
              refine k9_iload_n X dX2_takesDigit_66 rfl 2 rfl ?_
              refine k9_pX2_7 X in_X2_takesDigit_X2 fl_X2_takesDigit_34 dX2_takesDigit_67 ?_
              refine k9_iconst (v := 1) X dX2_takesDigit_70 (by decide) ?_
              refine k9_sub (lv' := []) [] rfl ?_
              exact (l8 c1 c2 c3 c7 c8 c9)
            · refine k9_iconst (v := 0) X dX2_takesDigit_63 (by decide) ?_
              refine k9_sub (lv' := []) [] rfl ?_
              exact (l9 c1 c2 c3 c7 c8 c9)
    · refine k9_iconst (v := 0) X dX2_takesDigit_16 (by decide) ?_
      refine k9_sub (lv' := []) [] rfl ?_
      exact (l10 c1 c2)

theorem in_X2_takesPedal_X2 : ∀ w ∈ u_ws RX2 TX2 10, w ∈ wsX2_takesPedal := by decide +kernel
theorem fl_X2_takesPedal_31 : Cond.fieldLink RX2 31 (TX2 6).1 (TX2 6).2.1 (TX2 6).2.2.1 ∈ wsX2_takesPedal := by decide +kernel
theorem fl_X2_takesPedal_34 : Cond.fieldLink RX2 34 (TX2 7).1 (TX2 7).2.1 (TX2 7).2.2.1 ∈ wsX2_takesPedal := by decide +kernel
set_option maxRecDepth 20000 in
theorem bk_X2_takesPedal_0 (X : k9_X p R s m args c A G 1 cX2_takesPedal wsX2_takesPedal RX2 rm_X2_takesPedal) 
    (l1 : (¬ (M 66 6) = 0) → k9_U p l e R s m args below meth c Q A G 1 0 0 M 16 [] [.int (0 : Int32)])
    (l2 : ((M 66 6) = 0) → ((M 66 7) = (-1 : Int32)) → k9_U p l e R s m args below meth c Q A G 1 0 0 (k9_st M 66 7 (-2 : Int32)) 24 [] [.int (1 : Int32)])
    (l3 : ((M 66 6) = 0) → (¬ ((M 66 7) = (-1 : Int32))) → k9_U p l e R s m args below meth c Q A G 1 0 0 M 16 [] [.int (0 : Int32)]) : k9_U p l e R s m args below meth c Q A G 1 0 0 M 0 [(0, .ref (k9_ga G 66))] [] := by
  refine k9_aload_n X dX2_takesPedal_0 rfl 0 rfl ?_
  refine k9_gX2_6 X (by rfl) in_X2_takesPedal_X2 fl_X2_takesPedal_31 dX2_takesPedal_1 ?_
  refine k9_if_ne (tgt := 15) X dX2_takesPedal_4 (by decide) (fun c1 => ?_) (fun c1 => ?_)
  · refine k9_iconst (v := 0) X dX2_takesPedal_15 (by decide) ?_
    refine k9_sub (lv' := []) [] rfl ?_
    exact (l1 c1)
  · refine k9_aload_n X dX2_takesPedal_7 rfl 0 rfl ?_
    refine k9_gX2_7 X (by rfl) in_X2_takesPedal_X2 fl_X2_takesPedal_34 dX2_takesPedal_8 ?_
    refine k9_iconst (v := -1) X dX2_takesPedal_11 (by decide) ?_
    refine k9_icmp_eq (tgt := 17) X dX2_takesPedal_12 (by decide) (fun c2 => ?_) (fun c2 => ?_)
    · refine k9_aload_n X dX2_takesPedal_17 rfl 0 rfl ?_
      refine k9_bipush (v := -2) X dX2_takesPedal_18 (by decide) ?_
      refine k9_pX2_7 X in_X2_takesPedal_X2 fl_X2_takesPedal_34 dX2_takesPedal_20 ?_
      refine k9_iconst (v := 1) X dX2_takesPedal_23 (by decide) ?_
      refine k9_sub (lv' := []) [] rfl ?_
      exact (l2 c1 c2)
    · refine k9_iconst (v := 0) X dX2_takesPedal_15 (by decide) ?_
      refine k9_sub (lv' := []) [] rfl ?_
      exact (l3 c1 c2)

theorem in_X2_goesOn_X2 : ∀ w ∈ u_ws RX2 TX2 10, w ∈ wsX2_goesOn := by decide +kernel
theorem fl_X2_goesOn_31 : Cond.fieldLink RX2 31 (TX2 6).1 (TX2 6).2.1 (TX2 6).2.2.1 ∈ wsX2_goesOn := by decide +kernel
theorem fl_X2_goesOn_34 : Cond.fieldLink RX2 34 (TX2 7).1 (TX2 7).2.1 (TX2 7).2.2.1 ∈ wsX2_goesOn := by decide +kernel
theorem fl_X2_goesOn_37 : Cond.fieldLink RX2 37 (TX2 8).1 (TX2 8).2.1 (TX2 8).2.2.1 ∈ wsX2_goesOn := by decide +kernel
theorem fl_X2_goesOn_40 : Cond.fieldLink RX2 40 (TX2 9).1 (TX2 9).2.1 (TX2 9).2.2.1 ∈ wsX2_goesOn := by decide +kernel
set_option maxRecDepth 20000 in
theorem bk_X2_goesOn_0 (X : k9_X p R s m args c A G 1 cX2_goesOn wsX2_goesOn RX2 rm_X2_goesOn) {mv1 : k9_Mem}
    (l1 : ((M 66 6) = (0 : Int32)) → (¬ (M 66 7) = (-2 : Int32)) → k9_U p l e R s m args below meth c Q A G 1 0 0 (k9_st (k9_st (k9_st M 66 8 ((M 66 7) + (1 : Int32))) 66 6 (1 : Int32)) 66 7 (-1 : Int32)) 94 [] [.int (1 : Int32)])
    (l2 : ((M 66 6) = (0 : Int32)) → ((M 66 7) = (-2 : Int32)) → k9_U p l e R s m args below meth c Q A G 1 0 0 (k9_st (k9_st (k9_st M 66 8 (0 : Int32)) 66 6 (1 : Int32)) 66 7 (-1 : Int32)) 94 [] [.int (1 : Int32)])
    (l3 : (¬ (M 66 6) = (0 : Int32)) → ((M 66 6) = (1 : Int32)) → k9_U p l e R s m args below meth c Q A G 1 0 0 (k9_st (k9_st (k9_st M 66 9 (M 66 7)) 66 6 (2 : Int32)) 66 7 (-1 : Int32)) 94 [] [.int (1 : Int32)])
    (k1 : (¬ (M 66 6) = (0 : Int32)) → (¬ (M 66 6) = (1 : Int32)) → k9_Cv l yX2_keepPart wsX2_keepPart rm_X2_keepPart G M [.ref (k9_ga G 66)] mv1)
    (l4 : (¬ (M 66 6) = (0 : Int32)) → (¬ (M 66 6) = (1 : Int32)) → k9_U p l e R s m args below meth c Q A G 1 0 0 (k9_st (k9_st mv1 66 6 (0 : Int32)) 66 7 (-1 : Int32)) 94 [] [.int (1 : Int32)]) : k9_U p l e R s m args below meth c Q A G 1 0 0 M 0 [(0, .ref (k9_ga G 66))] [] := by
  refine k9_aload_n X dX2_goesOn_0 rfl 0 rfl ?_
  refine k9_gX2_6 X (by rfl) in_X2_goesOn_X2 fl_X2_goesOn_31 dX2_goesOn_1 ?_
  refine k9_lsw2 (A1 := (0 : Int32)) (B1 := (1 : Int32)) (t1 := 32) (t2 := 63) (t0 := 79) X dX2_goesOn_4 (by decide) (by decide) (by decide) (by decide) (by decide) (by decide) (fun c1 => ?_) (fun c1 c2 => ?_) (fun c1 c2 => ?_)
  · refine k9_aload_n X dX2_goesOn_32 rfl 0 rfl ?_
    refine k9_aload_n X dX2_goesOn_33 rfl 0 rfl ?_
    refine k9_gX2_7 X (by rfl) in_X2_goesOn_X2 fl_X2_goesOn_34 dX2_goesOn_34 ?_
    refine k9_bipush (v := -2) X dX2_goesOn_37 (by decide) ?_
    refine k9_icmp_ne (tgt := 46) X dX2_goesOn_39 (by decide) (fun c3 => ?_) (fun c3 => ?_)
    · refine k9_aload_n X dX2_goesOn_46 rfl 0 rfl ?_
      refine k9_gX2_7 X (by rfl) in_X2_goesOn_X2 fl_X2_goesOn_34 dX2_goesOn_47 ?_
      refine k9_iconst (v := 1) X dX2_goesOn_50 (by decide) ?_
      refine k9_iadd X dX2_goesOn_51 ?_
      refine k9_pX2_8 X in_X2_goesOn_X2 fl_X2_goesOn_37 dX2_goesOn_52 ?_
      refine k9_aload_n X dX2_goesOn_55 rfl 0 rfl ?_
      refine k9_iconst (v := 1) X dX2_goesOn_56 (by decide) ?_
      refine k9_pX2_6 X in_X2_goesOn_X2 fl_X2_goesOn_31 dX2_goesOn_57 ?_
      refine k9_goto (tgt := 88) X dX2_goesOn_60 (by decide) ?_
      refine k9_aload_n X dX2_goesOn_88 rfl 0 rfl ?_
      refine k9_iconst (v := -1) X dX2_goesOn_89 (by decide) ?_
      refine k9_pX2_7 X in_X2_goesOn_X2 fl_X2_goesOn_34 dX2_goesOn_90 ?_
      refine k9_iconst (v := 1) X dX2_goesOn_93 (by decide) ?_
      refine k9_sub (lv' := []) [] rfl ?_
      exact (l1 c1 c3)
    · refine k9_iconst (v := 0) X dX2_goesOn_42 (by decide) ?_
      refine k9_goto (tgt := 52) X dX2_goesOn_43 (by decide) ?_
      refine k9_pX2_8 X in_X2_goesOn_X2 fl_X2_goesOn_37 dX2_goesOn_52 ?_
      refine k9_aload_n X dX2_goesOn_55 rfl 0 rfl ?_
      refine k9_iconst (v := 1) X dX2_goesOn_56 (by decide) ?_
      refine k9_pX2_6 X in_X2_goesOn_X2 fl_X2_goesOn_31 dX2_goesOn_57 ?_
      refine k9_goto (tgt := 88) X dX2_goesOn_60 (by decide) ?_
      refine k9_aload_n X dX2_goesOn_88 rfl 0 rfl ?_
      refine k9_iconst (v := -1) X dX2_goesOn_89 (by decide) ?_
      refine k9_pX2_7 X in_X2_goesOn_X2 fl_X2_goesOn_34 dX2_goesOn_90 ?_
      refine k9_iconst (v := 1) X dX2_goesOn_93 (by decide) ?_
      refine k9_sub (lv' := []) [] rfl ?_
      exact (l2 c1 c3)
  · refine k9_aload_n X dX2_goesOn_63 rfl 0 rfl ?_
    refine k9_aload_n X dX2_goesOn_64 rfl 0 rfl ?_
    refine k9_gX2_7 X (by rfl) in_X2_goesOn_X2 fl_X2_goesOn_34 dX2_goesOn_65 ?_
    refine k9_pX2_9 X in_X2_goesOn_X2 fl_X2_goesOn_40 dX2_goesOn_68 ?_
    refine k9_aload_n X dX2_goesOn_71 rfl 0 rfl ?_
    refine k9_iconst (v := 2) X dX2_goesOn_72 (by decide) ?_
    refine k9_pX2_6 X in_X2_goesOn_X2 fl_X2_goesOn_31 dX2_goesOn_73 ?_
    refine k9_goto (tgt := 88) X dX2_goesOn_76 (by decide) ?_
    refine k9_aload_n X dX2_goesOn_88 rfl 0 rfl ?_
    refine k9_iconst (v := -1) X dX2_goesOn_89 (by decide) ?_
    refine k9_pX2_7 X in_X2_goesOn_X2 fl_X2_goesOn_34 dX2_goesOn_90 ?_
    refine k9_iconst (v := 1) X dX2_goesOn_93 (by decide) ?_
    refine k9_sub (lv' := []) [] rfl ?_
    exact (l3 c1 c2)
  · refine k9_aload_n X dX2_goesOn_79 rfl 0 rfl ?_
    refine k9_callVv0 X (k1 c1 c2) k9_ob_66 (cwV 0 X.2.2.2.2.1 gX2_goesOn_X2_keepPart rfl rfl rfl (by decide +kernel) ⟨Nat.le_of_ble_eq_true rfl, Nat.le_of_ble_eq_true rfl⟩) (Nat.le_of_ble_eq_true rfl) dX2_goesOn_80 ⟨Nat.zero_le _, Nat.zero_le _⟩ ?_
    refine k9_aload_n X dX2_goesOn_83 rfl 0 rfl ?_
    refine k9_iconst (v := 0) X dX2_goesOn_84 (by decide) ?_
    refine k9_pX2_6 X in_X2_goesOn_X2 fl_X2_goesOn_31 dX2_goesOn_85 ?_
    refine k9_aload_n X dX2_goesOn_88 rfl 0 rfl ?_
    refine k9_iconst (v := -1) X dX2_goesOn_89 (by decide) ?_
    refine k9_pX2_7 X in_X2_goesOn_X2 fl_X2_goesOn_34 dX2_goesOn_90 ?_
    refine k9_iconst (v := 1) X dX2_goesOn_93 (by decide) ?_
    refine k9_sub (lv' := []) [] rfl ?_
    exact (l4 c1 c2)

theorem in_X2_keepPart_X2 : ∀ w ∈ u_ws RX2 TX2 10, w ∈ wsX2_keepPart := by decide +kernel
theorem fl_X2_keepPart_28 : Cond.fieldLink RX2 28 (TX2 5).1 (TX2 5).2.1 (TX2 5).2.2.1 ∈ wsX2_keepPart := by decide +kernel
theorem fl_X2_keepPart_25 : Cond.fieldLink RX2 25 (TX2 4).1 (TX2 4).2.1 (TX2 4).2.2.1 ∈ wsX2_keepPart := by decide +kernel
theorem fl_X2_keepPart_19 : Cond.fieldLink RX2 19 (TX2 2).1 (TX2 2).2.1 (TX2 2).2.2.1 ∈ wsX2_keepPart := by decide +kernel
theorem fl_X2_keepPart_37 : Cond.fieldLink RX2 37 (TX2 8).1 (TX2 8).2.1 (TX2 8).2.2.1 ∈ wsX2_keepPart := by decide +kernel
theorem fl_X2_keepPart_22 : Cond.fieldLink RX2 22 (TX2 3).1 (TX2 3).2.1 (TX2 3).2.2.1 ∈ wsX2_keepPart := by decide +kernel
theorem fl_X2_keepPart_40 : Cond.fieldLink RX2 40 (TX2 9).1 (TX2 9).2.1 (TX2 9).2.2.1 ∈ wsX2_keepPart := by decide +kernel
theorem fl_X2_keepPart_34 : Cond.fieldLink RX2 34 (TX2 7).1 (TX2 7).2.1 (TX2 7).2.2.1 ∈ wsX2_keepPart := by decide +kernel
set_option maxRecDepth 20000 in
theorem bk_X2_keepPart_0 (X : k9_X p R s m args c A G 1 cX2_keepPart wsX2_keepPart RX2 rm_X2_keepPart) 
    (l1 : ((M 66 5) < 0) → k9_U p l e R s m args below meth c Q A G 1 0 0 M 68 [] [])
    (l2 : (¬ ((M 66 5) < 0)) → ((60 : Int32) ≤ (M 66 5)) → k9_U p l e R s m args below meth c Q A G 1 0 0 M 68 [] [])
    (o1 : (¬ ((M 66 5) < 0)) → (¬ ((60 : Int32) ≤ (M 66 5))) → vp_in (M 66 5) 60)
    (l3 : (¬ ((M 66 5) < 0)) → (¬ ((60 : Int32) ≤ (M 66 5))) → k9_U p l e R s m args below meth c Q A G 1 0 0 (k9_st (k9_st (k9_st (k9_st M 68 (M 66 5).toNatClampNeg (M 66 8)) 69 (M 66 5).toNatClampNeg (M 66 9)) 70 (M 66 5).toNatClampNeg (M 66 7)) 66 5 ((M 66 5) + (1 : Int32))) 68 [] []) : k9_U p l e R s m args below meth c Q A G 1 0 0 M 0 [(0, .ref (k9_ga G 66))] [] := by
  refine k9_aload_n X dX2_keepPart_0 rfl 0 rfl ?_
  refine k9_gX2_5 X (by rfl) in_X2_keepPart_X2 fl_X2_keepPart_28 dX2_keepPart_1 ?_
  refine k9_if_lt (tgt := 68) X dX2_keepPart_4 (by decide) (fun c1 => ?_) (fun c1 => ?_)
  · refine k9_sub (lv' := []) [] rfl ?_
    exact (l1 c1)
  · refine k9_aload_n X dX2_keepPart_7 rfl 0 rfl ?_
    refine k9_gX2_5 X (by rfl) in_X2_keepPart_X2 fl_X2_keepPart_28 dX2_keepPart_8 ?_
    refine k9_aload_n X dX2_keepPart_11 rfl 0 rfl ?_
    refine k9_gX2_4 X in_X2_keepPart_X2 fl_X2_keepPart_25 dX2_keepPart_12 ?_
    refine k9_alenL (n := 60) (v := 60) X rfl (by decide) dX2_keepPart_15 ?_
    refine k9_icmp_ge (tgt := 68) X dX2_keepPart_16 (by decide) (fun c2 => ?_) (fun c2 => ?_)
    · refine k9_sub (lv' := []) [] rfl ?_
      exact (l2 c1 c2)
    · refine k9_aload_n X dX2_keepPart_19 rfl 0 rfl ?_
      refine k9_gX2_2 X in_X2_keepPart_X2 fl_X2_keepPart_19 dX2_keepPart_20 ?_
      refine k9_aload_n X dX2_keepPart_23 rfl 0 rfl ?_
      refine k9_gX2_5 X (by rfl) in_X2_keepPart_X2 fl_X2_keepPart_28 dX2_keepPart_24 ?_
      refine k9_aload_n X dX2_keepPart_27 rfl 0 rfl ?_
      refine k9_gX2_8 X (by rfl) in_X2_keepPart_X2 fl_X2_keepPart_37 dX2_keepPart_28 ?_
      refine k9_iast X (by decide) (o1 c1 c2) dX2_keepPart_31 ?_
      refine k9_aload_n X dX2_keepPart_32 rfl 0 rfl ?_
      refine k9_gX2_3 X in_X2_keepPart_X2 fl_X2_keepPart_22 dX2_keepPart_33 ?_
      refine k9_aload_n X dX2_keepPart_36 rfl 0 rfl ?_
      refine k9_gX2_5 (v := (M 66 5)) X (by rfl) in_X2_keepPart_X2 fl_X2_keepPart_28 dX2_keepPart_37 ?_
      refine k9_aload_n X dX2_keepPart_40 rfl 0 rfl ?_
      refine k9_gX2_9 (v := (M 66 9)) X (by rfl) in_X2_keepPart_X2 fl_X2_keepPart_40 dX2_keepPart_41 ?_
      refine k9_iast X (by decide) (o1 c1 c2) dX2_keepPart_44 ?_
      refine k9_aload_n X dX2_keepPart_45 rfl 0 rfl ?_
      refine k9_gX2_4 X in_X2_keepPart_X2 fl_X2_keepPart_25 dX2_keepPart_46 ?_
      refine k9_aload_n X dX2_keepPart_49 rfl 0 rfl ?_
      refine k9_gX2_5 (v := (M 66 5)) X (by rfl) in_X2_keepPart_X2 fl_X2_keepPart_28 dX2_keepPart_50 ?_
      refine k9_aload_n X dX2_keepPart_53 rfl 0 rfl ?_
      refine k9_gX2_7 (v := (M 66 7)) X (by rfl) in_X2_keepPart_X2 fl_X2_keepPart_34 dX2_keepPart_54 ?_
      refine k9_iast X (by decide) (o1 c1 c2) dX2_keepPart_57 ?_
      refine k9_aload_n X dX2_keepPart_58 rfl 0 rfl ?_
      refine k9_dup X dX2_keepPart_59 rfl ?_
      refine k9_gX2_5 (v := (M 66 5)) X (by rfl) in_X2_keepPart_X2 fl_X2_keepPart_28 dX2_keepPart_60 ?_
      refine k9_iconst (v := 1) X dX2_keepPart_63 (by decide) ?_
      refine k9_iadd X dX2_keepPart_64 ?_
      refine k9_pX2_5 X in_X2_keepPart_X2 fl_X2_keepPart_28 dX2_keepPart_65 ?_
      refine k9_sub (lv' := []) [] rfl ?_
      exact (l3 c1 c2)

set_option maxRecDepth 20000 in
theorem bk_X2_signAfter_0 (X : k9_X p R s m args c A G 1 cX2_signAfter wsX2_signAfter RX2 rm_X2_signAfter) {a0 : Int32}
    (l1 : (a0 = (0 : Int32)) → k9_U p l e R s m args below meth c Q A G 1 0 0 M 30 [] [.int (64 : Int32)])
    (l2 : (¬ a0 = (0 : Int32)) → (a0 = (1 : Int32)) → k9_U p l e R s m args below meth c Q A G 1 0 0 M 33 [] [.int (58 : Int32)])
    (l3 : (¬ a0 = (0 : Int32)) → (¬ a0 = (1 : Int32)) → k9_U p l e R s m args below meth c Q A G 1 0 0 M 36 [] [.int (44 : Int32)]) : k9_U p l e R s m args below meth c Q A G 1 0 0 M 0 [(0, .int a0)] [] := by
  refine k9_iload_n X dX2_signAfter_0 rfl 0 rfl ?_
  refine k9_lsw2 (A1 := (0 : Int32)) (B1 := (1 : Int32)) (t1 := 28) (t2 := 31) (t0 := 34) X dX2_signAfter_1 (by decide) (by decide) (by decide) (by decide) (by decide) (by decide) (fun c1 => ?_) (fun c1 c2 => ?_) (fun c1 c2 => ?_)
  · refine k9_bipush (v := 64) X dX2_signAfter_28 (by decide) ?_
    refine k9_sub (lv' := []) [] rfl ?_
    exact (l1 c1)
  · refine k9_bipush (v := 58) X dX2_signAfter_31 (by decide) ?_
    refine k9_sub (lv' := []) [] rfl ?_
    exact (l2 c1 c2)
  · refine k9_bipush (v := 44) X dX2_signAfter_34 (by decide) ?_
    refine k9_sub (lv' := []) [] rfl ?_
    exact (l3 c1 c2)

set_option maxRecDepth 20000 in
theorem bk_X2_largestOf_0 (X : k9_X p R s m args c A G 1 cX2_largestOf wsX2_largestOf RX2 rm_X2_largestOf) {a0 : Int32}
    (l1 : (a0 = (0 : Int32)) → k9_U p l e R s m args below meth c Q A G 1 0 0 M 30 [] [.int (19 : Int32)])
    (l2 : (¬ a0 = (0 : Int32)) → (a0 = (1 : Int32)) → k9_U p l e R s m args below meth c Q A G 1 0 0 M 33 [] [.int (95 : Int32)])
    (l3 : (¬ a0 = (0 : Int32)) → (¬ a0 = (1 : Int32)) → k9_U p l e R s m args below meth c Q A G 1 0 0 M 36 [] [.int (96 : Int32)]) : k9_U p l e R s m args below meth c Q A G 1 0 0 M 0 [(0, .int a0)] [] := by
  refine k9_iload_n X dX2_largestOf_0 rfl 0 rfl ?_
  refine k9_lsw2 (A1 := (0 : Int32)) (B1 := (1 : Int32)) (t1 := 28) (t2 := 31) (t0 := 34) X dX2_largestOf_1 (by decide) (by decide) (by decide) (by decide) (by decide) (by decide) (fun c1 => ?_) (fun c1 c2 => ?_) (fun c1 c2 => ?_)
  · refine k9_bipush (v := 19) X dX2_largestOf_28 (by decide) ?_
    refine k9_sub (lv' := []) [] rfl ?_
    exact (l1 c1)
  · refine k9_bipush (v := 95) X dX2_largestOf_31 (by decide) ?_
    refine k9_sub (lv' := []) [] rfl ?_
    exact (l2 c1 c2)
  · refine k9_bipush (v := 96) X dX2_largestOf_34 (by decide) ?_
    refine k9_sub (lv' := []) [] rfl ?_
    exact (l3 c1 c2)

theorem in_X2_allFit_X2 : ∀ w ∈ u_ws RX2 TX2 10, w ∈ wsX2_allFit := by decide +kernel
theorem fl_X2_allFit_28 : Cond.fieldLink RX2 28 (TX2 5).1 (TX2 5).2.1 (TX2 5).2.2.1 ∈ wsX2_allFit := by decide +kernel
theorem fl_X2_allFit_25 : Cond.fieldLink RX2 25 (TX2 4).1 (TX2 4).2.1 (TX2 4).2.2.1 ∈ wsX2_allFit := by decide +kernel
theorem fl_X2_allFit_22 : Cond.fieldLink RX2 22 (TX2 3).1 (TX2 3).2.1 (TX2 3).2.2.1 ∈ wsX2_allFit := by decide +kernel
set_option maxRecDepth 20000 in
theorem bk_X2_allFit_0 (X : k9_X p R s m args c A G 2 cX2_allFit wsX2_allFit RX2 rm_X2_allFit) 
    (l1 : k9_U p l e R s m args below meth c Q A G 2 0 0 M 2 [(0, .ref (k9_ga G 66)), (1, .int (0 : Int32))] []) : k9_U p l e R s m args below meth c Q A G 2 0 0 M 0 [(0, .ref (k9_ga G 66))] [] := by
  refine k9_iconst (v := 0) X dX2_allFit_0 (by decide) ?_
  refine k9_istore_n (lv' := [(0, .ref (k9_ga G 66)), (1, .int (0 : Int32))]) X dX2_allFit_1 rfl (by decide) [1, 0] rfl ?_
  exact l1

set_option maxRecDepth 20000 in
theorem bk_X2_allFit_2 (X : k9_X p R s m args c A G 2 cX2_allFit wsX2_allFit RX2 rm_X2_allFit) {x1 : Int32} {rv1 : Int32}
    (l1 : ((M 66 5) ≤ x1) → k9_U p l e R s m args below meth c Q A G 2 0 0 M 46 [] [.int (1 : Int32)])
    (l2 : (¬ ((M 66 5) ≤ x1)) → ((60 : Int32) ≤ x1) → k9_U p l e R s m args below meth c Q A G 2 0 0 M 46 [] [.int (1 : Int32)])
    (o1 : (¬ ((M 66 5) ≤ x1)) → (¬ ((60 : Int32) ≤ x1)) → vp_in x1 60)
    (k1 : (¬ ((M 66 5) ≤ x1)) → (¬ ((60 : Int32) ≤ x1)) → k9_Ci l yX6_fits wsX6_fits rm_X6_fits G M [.int (M 69 x1.toNatClampNeg), .int (M 70 x1.toNatClampNeg)] rv1 M)
    (l3 : (¬ ((M 66 5) ≤ x1)) → (¬ ((60 : Int32) ≤ x1)) → (¬ rv1 = 0) → k9_U p l e R s m args below meth c Q A G 2 0 0 M 2 [(0, .ref (k9_ga G 66)), (1, .int (x1 + (1 : Int32)))] [])
    (l4 : (¬ ((M 66 5) ≤ x1)) → (¬ ((60 : Int32) ≤ x1)) → (rv1 = 0) → k9_U p l e R s m args below meth c Q A G 2 0 0 M 38 [] [.int (0 : Int32)]) : k9_U p l e R s m args below meth c Q A G 2 0 0 M 2 [(0, .ref (k9_ga G 66)), (1, .int x1)] [] := by
  refine k9_iload_n X dX2_allFit_2 rfl 1 rfl ?_
  refine k9_aload_n X dX2_allFit_3 rfl 0 rfl ?_
  refine k9_gX2_5 X (by rfl) in_X2_allFit_X2 fl_X2_allFit_28 dX2_allFit_4 ?_
  refine k9_icmp_ge (tgt := 45) X dX2_allFit_7 (by decide) (fun c1 => ?_) (fun c1 => ?_)
  · refine k9_iconst (v := 1) X dX2_allFit_45 (by decide) ?_
    refine k9_sub (lv' := []) [] rfl ?_
    exact (l1 c1)
  · refine k9_iload_n X dX2_allFit_10 rfl 1 rfl ?_
    refine k9_aload_n X dX2_allFit_11 rfl 0 rfl ?_
    refine k9_gX2_4 X in_X2_allFit_X2 fl_X2_allFit_25 dX2_allFit_12 ?_
    refine k9_alenL (n := 60) (v := 60) X rfl (by decide) dX2_allFit_15 ?_
    refine k9_icmp_ge (tgt := 45) X dX2_allFit_16 (by decide) (fun c2 => ?_) (fun c2 => ?_)
    · refine k9_iconst (v := 1) X dX2_allFit_45 (by decide) ?_
      refine k9_sub (lv' := []) [] rfl ?_
      exact (l2 c1 c2)
    · refine k9_aload_n X dX2_allFit_19 rfl 0 rfl ?_
      refine k9_gX2_3 X in_X2_allFit_X2 fl_X2_allFit_22 dX2_allFit_20 ?_
      refine k9_iload_n X dX2_allFit_23 rfl 1 rfl ?_
      refine k9_iald X (by decide) (o1 c1 c2) (by rfl) dX2_allFit_24 ?_
      refine k9_aload_n X dX2_allFit_25 rfl 0 rfl ?_
      refine k9_gX2_4 X in_X2_allFit_X2 fl_X2_allFit_25 dX2_allFit_26 ?_
      refine k9_iload_n X dX2_allFit_29 rfl 1 rfl ?_
      refine k9_iald X (by decide) (o1 c1 c2) (by rfl) dX2_allFit_30 ?_
      refine k9_callNi2 X (k1 c1 c2)  (k9_cwN (host := "RollPunch") 2 gX2_allFit_X6_fits_n71 rfl rfl rfl (by decide +kernel) (by decide +kernel) (by decide +kernel) (by decide +kernel) ⟨Nat.le_of_ble_eq_true rfl, Nat.le_of_ble_eq_true rfl⟩) (Nat.le_of_ble_eq_true rfl) dX2_allFit_31 ⟨Nat.zero_le _, Nat.zero_le _⟩ ?_
      refine k9_if_ne (tgt := 39) X dX2_allFit_34 (by decide) (fun c3 => ?_) (fun c3 => ?_)
      · refine k9_iinc (v := x1 + (1 : Int32)) (lv' := [(0, .ref (k9_ga G 66)), (1, .int (x1 + (1 : Int32)))]) X dX2_allFit_39 (k := 1) rfl (by rfl) (by decide) [1, 0] rfl ?_
        refine k9_goto (tgt := 2) X dX2_allFit_42 (by decide) ?_
        exact (l3 c1 c2 c3)
      · refine k9_iconst (v := 0) X dX2_allFit_37 (by decide) ?_
        refine k9_sub (lv' := []) [] rfl ?_
        exact (l4 c1 c2 c3)

theorem in_X2_cutAll_X2 : ∀ w ∈ u_ws RX2 TX2 10, w ∈ wsX2_cutAll := by decide +kernel
theorem fl_X2_cutAll_28 : Cond.fieldLink RX2 28 (TX2 5).1 (TX2 5).2.1 (TX2 5).2.2.1 ∈ wsX2_cutAll := by decide +kernel
theorem fl_X2_cutAll_25 : Cond.fieldLink RX2 25 (TX2 4).1 (TX2 4).2.1 (TX2 4).2.2.1 ∈ wsX2_cutAll := by decide +kernel
theorem fl_X2_cutAll_19 : Cond.fieldLink RX2 19 (TX2 2).1 (TX2 2).2.1 (TX2 2).2.2.1 ∈ wsX2_cutAll := by decide +kernel
theorem fl_X2_cutAll_22 : Cond.fieldLink RX2 22 (TX2 3).1 (TX2 3).2.1 (TX2 3).2.2.1 ∈ wsX2_cutAll := by decide +kernel
set_option maxRecDepth 20000 in
theorem bk_X2_cutAll_0 (X : k9_X p R s m args c A G 4 cX2_cutAll wsX2_cutAll RX2 rm_X2_cutAll) 
    (l1 : k9_U p l e R s m args below meth c Q A G 4 0 0 M 4 [(0, .ref (k9_ga G 66)), (1, .ref (k9_ga G 1)), (2, .int (0 : Int32)), (3, .int (0 : Int32))] []) : k9_U p l e R s m args below meth c Q A G 4 0 0 M 0 [(0, .ref (k9_ga G 66)), (1, .ref (k9_ga G 1))] [] := by
  refine k9_iconst (v := 0) X dX2_cutAll_0 (by decide) ?_
  refine k9_istore_n (lv' := [(0, .ref (k9_ga G 66)), (1, .ref (k9_ga G 1)), (2, .int (0 : Int32))]) X dX2_cutAll_1 rfl (by decide) [1, 2, 0] rfl ?_
  refine k9_iconst (v := 0) X dX2_cutAll_2 (by decide) ?_
  refine k9_istore_n (lv' := [(0, .ref (k9_ga G 66)), (1, .ref (k9_ga G 1)), (2, .int (0 : Int32)), (3, .int (0 : Int32))]) X dX2_cutAll_3 rfl (by decide) [1, 2, 3, 0] rfl ?_
  exact l1

set_option maxRecDepth 20000 in
theorem bk_X2_cutAll_4 (X : k9_X p R s m args c A G 4 cX2_cutAll wsX2_cutAll RX2 rm_X2_cutAll) {x2 x3 : Int32} {rv1 : Int32} {mv1 : k9_Mem}
    (l1 : ((M 66 5) ≤ x3) → k9_U p l e R s m args below meth c Q A G 4 0 0 M 53 [] [.int x2])
    (l2 : (¬ ((M 66 5) ≤ x3)) → ((60 : Int32) ≤ x3) → k9_U p l e R s m args below meth c Q A G 4 0 0 M 53 [] [.int x2])
    (o1 : (¬ ((M 66 5) ≤ x3)) → (¬ ((60 : Int32) ≤ x3)) → vp_in x3 60)
    (k1 : (¬ ((M 66 5) ≤ x3)) → (¬ ((60 : Int32) ≤ x3)) → k9_Ci l yX3_cutChain wsX3_cutChain rm_X3_cutChain G M [.ref (k9_ga G 1), .int (M 68 x3.toNatClampNeg), .int (M 69 x3.toNatClampNeg), .int (M 70 x3.toNatClampNeg)] rv1 mv1)
    (l3 : (¬ ((M 66 5) ≤ x3)) → (¬ ((60 : Int32) ≤ x3)) → k9_U p l e R s m args below meth c Q A G 4 0 0 mv1 4 [(0, .ref (k9_ga G 66)), (1, .ref (k9_ga G 1)), (2, .int (x2 + rv1)), (3, .int (x3 + (1 : Int32)))] []) : k9_U p l e R s m args below meth c Q A G 4 0 0 M 4 [(0, .ref (k9_ga G 66)), (1, .ref (k9_ga G 1)), (2, .int x2), (3, .int x3)] [] := by
  refine k9_iload_n X dX2_cutAll_4 rfl 3 rfl ?_
  refine k9_aload_n X dX2_cutAll_5 rfl 0 rfl ?_
  refine k9_gX2_5 X (by rfl) in_X2_cutAll_X2 fl_X2_cutAll_28 dX2_cutAll_6 ?_
  refine k9_icmp_ge (tgt := 52) X dX2_cutAll_9 (by decide) (fun c1 => ?_) (fun c1 => ?_)
  · refine k9_iload_n X dX2_cutAll_52 rfl 2 rfl ?_
    refine k9_sub (lv' := []) [] rfl ?_
    exact (l1 c1)
  · refine k9_iload_n X dX2_cutAll_12 rfl 3 rfl ?_
    refine k9_aload_n X dX2_cutAll_13 rfl 0 rfl ?_
    refine k9_gX2_4 X in_X2_cutAll_X2 fl_X2_cutAll_25 dX2_cutAll_14 ?_
    refine k9_alenL (n := 60) (v := 60) X rfl (by decide) dX2_cutAll_17 ?_
    refine k9_icmp_ge (tgt := 52) X dX2_cutAll_18 (by decide) (fun c2 => ?_) (fun c2 => ?_)
    · refine k9_iload_n X dX2_cutAll_52 rfl 2 rfl ?_
      refine k9_sub (lv' := []) [] rfl ?_
      exact (l2 c1 c2)
    · refine k9_iload_n X dX2_cutAll_21 rfl 2 rfl ?_
      refine k9_aload_n X dX2_cutAll_22 rfl 1 rfl ?_
      refine k9_aload_n X dX2_cutAll_23 rfl 0 rfl ?_
      refine k9_gX2_2 X in_X2_cutAll_X2 fl_X2_cutAll_19 dX2_cutAll_24 ?_
      refine k9_iload_n X dX2_cutAll_27 rfl 3 rfl ?_
      refine k9_iald X (by decide) (o1 c1 c2) (by rfl) dX2_cutAll_28 ?_
      refine k9_aload_n X dX2_cutAll_29 rfl 0 rfl ?_
      refine k9_gX2_3 X in_X2_cutAll_X2 fl_X2_cutAll_22 dX2_cutAll_30 ?_
      refine k9_iload_n X dX2_cutAll_33 rfl 3 rfl ?_
      refine k9_iald X (by decide) (o1 c1 c2) (by rfl) dX2_cutAll_34 ?_
      refine k9_aload_n X dX2_cutAll_35 rfl 0 rfl ?_
      refine k9_gX2_4 X in_X2_cutAll_X2 fl_X2_cutAll_25 dX2_cutAll_36 ?_
      refine k9_iload_n X dX2_cutAll_39 rfl 3 rfl ?_
      refine k9_iald X (by decide) (o1 c1 c2) (by rfl) dX2_cutAll_40 ?_
      refine k9_callVi3 X (k1 c1 c2) (k9_ob_P (by decide)) (cwV 3 X.2.2.2.2.1 gX2_cutAll_X3_cutChain rfl rfl rfl (by decide +kernel) ⟨Nat.le_of_ble_eq_true rfl, Nat.le_of_ble_eq_true rfl⟩) (Nat.le_of_ble_eq_true rfl) dX2_cutAll_41 ⟨Nat.zero_le _, Nat.zero_le _⟩ ?_
      refine k9_iadd X dX2_cutAll_44 ?_
      refine k9_istore_n (lv' := [(0, .ref (k9_ga G 66)), (1, .ref (k9_ga G 1)), (2, .int (x2 + rv1)), (3, .int x3)]) X dX2_cutAll_45 rfl (by decide) [1, 2, 0, 3] rfl ?_
      refine k9_iinc (v := x3 + (1 : Int32)) (lv' := [(0, .ref (k9_ga G 66)), (1, .ref (k9_ga G 1)), (2, .int (x2 + rv1)), (3, .int (x3 + (1 : Int32)))]) X dX2_cutAll_46 (k := 3) rfl (by rfl) (by decide) [1, 2, 3, 0] rfl ?_
      refine k9_goto (tgt := 4) X dX2_cutAll_49 (by decide) ?_
      exact (l3 c1 c2)

theorem in_X2_mixedInto_X2 : ∀ w ∈ u_ws RX2 TX2 10, w ∈ wsX2_mixedInto := by decide +kernel
theorem fl_X2_mixedInto_15 : Cond.fieldLink RX2 15 (TX2 1).1 (TX2 1).2.1 (TX2 1).2.2.1 ∈ wsX2_mixedInto := by decide +kernel
theorem fl_X2_mixedInto_9 : Cond.fieldLink RX2 9 (TX2 0).1 (TX2 0).2.1 (TX2 0).2.2.1 ∈ wsX2_mixedInto := by decide +kernel
set_option maxRecDepth 20000 in
theorem bk_X2_mixedInto_0 (X : k9_X p R s m args c A G 6 cX2_mixedInto wsX2_mixedInto RX2 rm_X2_mixedInto) {a0 : Int64} {rv1 : Int64}
    (k1 : k9_Cl l yX6_mixed wsX6_mixed rm_X6_mixed G M [.long a0, .long ((M 66 1).toInt64)] rv1 M)
    (l1 : k9_U p l e R s m args below meth c Q A G 6 0 0 M 13 [(0, .ref (k9_ga G 66)), (3, .long rv1), (5, .int (0 : Int32))] []) : k9_U p l e R s m args below meth c Q A G 6 0 0 M 0 [(0, .ref (k9_ga G 66)), (1, .long a0)] [] := by
  refine k9_lload_n X dX2_mixedInto_0 rfl 1 rfl ?_
  refine k9_aload_n X dX2_mixedInto_1 rfl 0 rfl ?_
  refine k9_gX2_1 X (by rfl) in_X2_mixedInto_X2 fl_X2_mixedInto_15 dX2_mixedInto_2 ?_
  refine k9_i2l X dX2_mixedInto_5 ?_
  refine k9_callNl2 X k1  (k9_cwN (host := "RollPunch") 2 gX2_mixedInto_X6_mixed_n81 rfl rfl rfl (by decide +kernel) (by decide +kernel) (by decide +kernel) (by decide +kernel) ⟨Nat.le_of_ble_eq_true rfl, Nat.le_of_ble_eq_true rfl⟩) (Nat.le_of_ble_eq_true rfl) dX2_mixedInto_6 ⟨Nat.zero_le _, Nat.zero_le _⟩ ?_
  refine k9_lstore_n (lv' := [(0, .ref (k9_ga G 66)), (1, .long a0), (3, .long rv1)]) X dX2_mixedInto_9 rfl (by decide) [1, 2, 0] rfl ?_
  refine k9_iconst (v := 0) X dX2_mixedInto_10 (by decide) ?_
  refine k9_istore (lv' := [(0, .ref (k9_ga G 66)), (1, .long a0), (3, .long rv1), (5, .int (0 : Int32))]) X dX2_mixedInto_11 (by decide) [1, 2, 3, 0] rfl ?_
  refine k9_sub (lv' := [(0, .ref (k9_ga G 66)), (3, .long rv1), (5, .int (0 : Int32))]) [0, 2, 3] rfl ?_
  exact l1

set_option maxRecDepth 20000 in
theorem bk_X2_mixedInto_13 (X : k9_X p R s m args c A G 6 cX2_mixedInto wsX2_mixedInto RX2 rm_X2_mixedInto) {x5 : Int32} {x3 : Int64} {rv1 : Int64}
    (l1 : ((M 66 1) ≤ x5) → k9_U p l e R s m args below meth c Q A G 6 0 0 M 52 [] [.long x3])
    (l2 : (¬ ((M 66 1) ≤ x5)) → ((60 : Int32) ≤ x5) → k9_U p l e R s m args below meth c Q A G 6 0 0 M 52 [] [.long x3])
    (o1 : (¬ ((M 66 1) ≤ x5)) → (¬ ((60 : Int32) ≤ x5)) → vp_in x5 60)
    (k1 : (¬ ((M 66 1) ≤ x5)) → (¬ ((60 : Int32) ≤ x5)) → k9_Cl l yX6_mixed wsX6_mixed rm_X6_mixed G M [.long x3, .long ((M 67 x5.toNatClampNeg).toInt64)] rv1 M)
    (l3 : (¬ ((M 66 1) ≤ x5)) → (¬ ((60 : Int32) ≤ x5)) → k9_U p l e R s m args below meth c Q A G 6 0 0 M 13 [(0, .ref (k9_ga G 66)), (3, .long rv1), (5, .int (x5 + (1 : Int32)))] []) : k9_U p l e R s m args below meth c Q A G 6 0 0 M 13 [(0, .ref (k9_ga G 66)), (3, .long x3), (5, .int x5)] [] := by
  refine k9_iload X dX2_mixedInto_13 2 rfl ?_
  refine k9_aload_n X dX2_mixedInto_15 rfl 0 rfl ?_
  refine k9_gX2_1 X (by rfl) in_X2_mixedInto_X2 fl_X2_mixedInto_15 dX2_mixedInto_16 ?_
  refine k9_icmp_ge (tgt := 51) X dX2_mixedInto_19 (by decide) (fun c1 => ?_) (fun c1 => ?_)
  · refine k9_lload_n X dX2_mixedInto_51 rfl 1 rfl ?_
    refine k9_sub (lv' := []) [] rfl ?_
    exact (l1 c1)
  · refine k9_iload X dX2_mixedInto_22 2 rfl ?_
    refine k9_aload_n X dX2_mixedInto_24 rfl 0 rfl ?_
    refine k9_gX2_0 X in_X2_mixedInto_X2 fl_X2_mixedInto_9 dX2_mixedInto_25 ?_
    refine k9_alenL (n := 60) (v := 60) X rfl (by decide) dX2_mixedInto_28 ?_
    refine k9_icmp_ge (tgt := 51) X dX2_mixedInto_29 (by decide) (fun c2 => ?_) (fun c2 => ?_)
    · refine k9_lload_n X dX2_mixedInto_51 rfl 1 rfl ?_
      refine k9_sub (lv' := []) [] rfl ?_
      exact (l2 c1 c2)
    · refine k9_lload_n X dX2_mixedInto_32 rfl 1 rfl ?_
      refine k9_aload_n X dX2_mixedInto_33 rfl 0 rfl ?_
      refine k9_gX2_0 X in_X2_mixedInto_X2 fl_X2_mixedInto_9 dX2_mixedInto_34 ?_
      refine k9_iload X dX2_mixedInto_37 2 rfl ?_
      refine k9_iald X (by decide) (o1 c1 c2) (by rfl) dX2_mixedInto_39 ?_
      refine k9_i2l X dX2_mixedInto_40 ?_
      refine k9_callNl2 X (k1 c1 c2)  (k9_cwN (host := "RollPunch") 2 gX2_mixedInto_X6_mixed_n81 rfl rfl rfl (by decide +kernel) (by decide +kernel) (by decide +kernel) (by decide +kernel) ⟨Nat.le_of_ble_eq_true rfl, Nat.le_of_ble_eq_true rfl⟩) (Nat.le_of_ble_eq_true rfl) dX2_mixedInto_41 ⟨Nat.zero_le _, Nat.zero_le _⟩ ?_
      refine k9_lstore_n (lv' := [(0, .ref (k9_ga G 66)), (3, .long rv1), (5, .int x5)]) X dX2_mixedInto_44 rfl (by decide) [1, 0, 2] rfl ?_
      refine k9_iinc (v := x5 + (1 : Int32)) (lv' := [(0, .ref (k9_ga G 66)), (3, .long rv1), (5, .int (x5 + (1 : Int32)))]) X dX2_mixedInto_45 (k := 2) rfl (by rfl) (by decide) [1, 2, 0] rfl ?_
      refine k9_goto (tgt := 13) X dX2_mixedInto_48 (by decide) ?_
      exact (l3 c1 c2)

end BK
