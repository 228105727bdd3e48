section BK
variable {p : Program} {l : Launch} {e : Env} {R : Room} {s : State} {m : MethodId} {args : Array Value} {below : List Frame} {meth : Method} {c : Code} {Q : State → Prop} {A : Nat → Prop} {G : k9_G} {M : k9_Mem}
theorem in_X4_size_X4 : ∀ w ∈ u_ws RX4 TX4 2, w ∈ wsX4_size := by decide +kernel
theorem fl_X4_size_17 : Cond.fieldLink RX4 17 (TX4 1).1 (TX4 1).2.1 (TX4 1).2.2.1 ∈ wsX4_size := by decide +kernel
set_option maxRecDepth 20000 in
theorem bk_X4_size_0 (X : k9_X p R s m args c A G 1 cX4_size wsX4_size RX4 rm_X4_size) 
    (l1 : k9_U p l e R s m args below meth c Q A G 1 0 0 M 4 [] [.int (M 64 1)]) : k9_U p l e R s m args below meth c Q A G 1 0 0 M 0 [(0, .ref (k9_ga G 64))] [] := by
  refine k9_aload_n X dX4_size_0 rfl 0 rfl ?_
  refine k9_gX4_1 X (by rfl) in_X4_size_X4 fl_X4_size_17 dX4_size_1 ?_
  refine k9_sub (lv' := []) [] rfl ?_
  exact l1

theorem in_X4_keep_X4 : ∀ w ∈ u_ws RX4 TX4 2, w ∈ wsX4_keep := by decide +kernel
theorem fl_X4_keep_17 : Cond.fieldLink RX4 17 (TX4 1).1 (TX4 1).2.1 (TX4 1).2.2.1 ∈ wsX4_keep := by decide +kernel
theorem fl_X4_keep_11 : Cond.fieldLink RX4 11 (TX4 0).1 (TX4 0).2.1 (TX4 0).2.2.1 ∈ wsX4_keep := by decide +kernel
set_option maxRecDepth 20000 in
theorem bk_X4_keep_0 (X : k9_X p R s m args c A G 2 cX4_keep wsX4_keep RX4 rm_X4_keep) {mv1 : k9_Mem} {mv2 : k9_Mem} {mv3 : k9_Mem}
    (l1 : ((M 64 1) < (6 : Int32)) → ((M 64 1) < 0) → k9_U p l e R s m args below meth c Q A G 2 0 0 M 58 [] [])
    (l2 : ((M 64 1) < (6 : Int32)) → (¬ ((M 64 1) < 0)) → ((6 : Int32) ≤ (M 64 1)) → k9_U p l e R s m args below meth c Q A G 2 0 0 M 58 [] [])
    (o1 : ((M 64 1) < (6 : Int32)) → (¬ ((M 64 1) < 0)) → (¬ ((6 : Int32) ≤ (M 64 1))) → vp_in (M 64 1) 6)
    (o2 : ((M 64 1) < (6 : Int32)) → (¬ ((M 64 1) < 0)) → (¬ ((6 : Int32) ≤ (M 64 1))) → k9_isP (k9_pc (M 65 (M 64 1).toNatClampNeg)))
    (k1 : ((M 64 1) < (6 : Int32)) → (¬ ((M 64 1) < 0)) → (¬ ((6 : Int32) ≤ (M 64 1))) → k9_Cv l yX3_copyFrom wsX3_copyFrom rm_X3_copyFrom G M [.ref (k9_ga G (k9_pc (M 65 (M 64 1).toNatClampNeg))), .ref (k9_ga G 1)] mv1)
    (l3 : ((M 64 1) < (6 : Int32)) → (¬ ((M 64 1) < 0)) → (¬ ((6 : Int32) ≤ (M 64 1))) → k9_U p l e R s m args below meth c Q A G 2 0 0 (k9_st mv1 64 1 ((mv1 64 1) + (1 : Int32))) 58 [] [])
    (k2 : (¬ ((M 64 1) < (6 : Int32))) → k9_Cv l yX4_dropOldest wsX4_dropOldest rm_X4_dropOldest G M [.ref (k9_ga G 64)] mv2)
    (l4 : (¬ ((M 64 1) < (6 : Int32))) → ((mv2 64 1) < 0) → k9_U p l e R s m args below meth c Q A G 2 0 0 mv2 58 [] [])
    (l5 : (¬ ((M 64 1) < (6 : Int32))) → (¬ ((mv2 64 1) < 0)) → ((6 : Int32) ≤ (mv2 64 1)) → k9_U p l e R s m args below meth c Q A G 2 0 0 mv2 58 [] [])
    (o3 : (¬ ((M 64 1) < (6 : Int32))) → (¬ ((mv2 64 1) < 0)) → (¬ ((6 : Int32) ≤ (mv2 64 1))) → vp_in (mv2 64 1) 6)
    (o4 : (¬ ((M 64 1) < (6 : Int32))) → (¬ ((mv2 64 1) < 0)) → (¬ ((6 : Int32) ≤ (mv2 64 1))) → k9_isP (k9_pc (mv2 65 (mv2 64 1).toNatClampNeg)))
    (k3 : (¬ ((M 64 1) < (6 : Int32))) → (¬ ((mv2 64 1) < 0)) → (¬ ((6 : Int32) ≤ (mv2 64 1))) → k9_Cv l yX3_copyFrom wsX3_copyFrom rm_X3_copyFrom G mv2 [.ref (k9_ga G (k9_pc (mv2 65 (mv2 64 1).toNatClampNeg))), .ref (k9_ga G 1)] mv3)
    (l6 : (¬ ((M 64 1) < (6 : Int32))) → (¬ ((mv2 64 1) < 0)) → (¬ ((6 : Int32) ≤ (mv2 64 1))) → k9_U p l e R s m args below meth c Q A G 2 0 0 (k9_st mv3 64 1 ((mv3 64 1) + (1 : Int32))) 58 [] []) : k9_U p l e R s m args below meth c Q A G 2 0 0 M 0 [(0, .ref (k9_ga G 64)), (1, .ref (k9_ga G 1))] [] := by
  refine k9_aload_n X dX4_keep_0 rfl 0 rfl ?_
  refine k9_gX4_1 X (by rfl) in_X4_keep_X4 fl_X4_keep_17 dX4_keep_1 ?_
  refine k9_aload_n X dX4_keep_4 rfl 0 rfl ?_
  refine k9_gX4_0 X in_X4_keep_X4 fl_X4_keep_11 dX4_keep_5 ?_
  refine k9_plen X dX4_keep_8 ?_
  refine k9_icmp_lt (tgt := 16) X dX4_keep_9 (by decide) (fun c1 => ?_) (fun c1 => ?_)
  · refine k9_aload_n X dX4_keep_16 rfl 0 rfl ?_
    refine k9_gX4_1 X (by rfl) in_X4_keep_X4 fl_X4_keep_17 dX4_keep_17 ?_
    refine k9_if_lt (tgt := 58) X dX4_keep_20 (by decide) (fun c2 => ?_) (fun c2 => ?_)
    · refine k9_sub (lv' := []) [] rfl ?_
      exact (l1 c1 c2)
    · refine k9_aload_n X dX4_keep_23 rfl 0 rfl ?_
      refine k9_gX4_1 X (by rfl) in_X4_keep_X4 fl_X4_keep_17 dX4_keep_24 ?_
      refine k9_aload_n X dX4_keep_27 rfl 0 rfl ?_
      refine k9_gX4_0 X in_X4_keep_X4 fl_X4_keep_11 dX4_keep_28 ?_
      refine k9_plen X dX4_keep_31 ?_
      refine k9_icmp_ge (tgt := 58) X dX4_keep_32 (by decide) (fun c3 => ?_) (fun c3 => ?_)
      · refine k9_sub (lv' := []) [] rfl ?_
        exact (l2 c1 c2 c3)
      · refine k9_aload_n X dX4_keep_35 rfl 0 rfl ?_
        refine k9_gX4_0 X in_X4_keep_X4 fl_X4_keep_11 dX4_keep_36 ?_
        refine k9_aload_n X dX4_keep_39 rfl 0 rfl ?_
        refine k9_gX4_1 X (by rfl) in_X4_keep_X4 fl_X4_keep_17 dX4_keep_40 ?_
        refine k9_aald X (o1 c1 c2 c3) dX4_keep_43 ?_
        refine k9_aload_n X dX4_keep_44 rfl 1 rfl ?_
        refine k9_callVv1 X (k1 c1 c2 c3) (k9_ob_P (o2 c1 c2 c3)) (cwV 1 X.2.2.2.2.1 gX4_keep_X3_copyFrom rfl rfl rfl (by decide +kernel) ⟨Nat.le_of_ble_eq_true rfl, Nat.le_of_ble_eq_true rfl⟩) (Nat.le_of_ble_eq_true rfl) dX4_keep_45 ⟨Nat.zero_le _, Nat.zero_le _⟩ ?_
        refine k9_aload_n X dX4_keep_48 rfl 0 rfl ?_
        refine k9_dup X dX4_keep_49 rfl ?_
        refine k9_gX4_1 X (by rfl) in_X4_keep_X4 fl_X4_keep_17 dX4_keep_50 ?_
        refine k9_iconst (v := 1) X dX4_keep_53 (by decide) ?_
        refine k9_iadd X dX4_keep_54 ?_
        refine k9_pX4_1 X in_X4_keep_X4 fl_X4_keep_17 dX4_keep_55 ?_
        refine k9_sub (lv' := []) [] rfl ?_
        exact (l3 c1 c2 c3)
  · refine k9_aload_n X dX4_keep_12 rfl 0 rfl ?_
    refine k9_callVv0 X (k2 c1) k9_ob_64 (cwV 0 X.2.2.2.2.1 gX4_keep_X4_dropOldest rfl rfl rfl (by decide +kernel) ⟨Nat.le_of_ble_eq_true rfl, Nat.le_of_ble_eq_true rfl⟩) (Nat.le_of_ble_eq_true rfl) dX4_keep_13 ⟨Nat.zero_le _, Nat.zero_le _⟩ ?_
    refine k9_aload_n X dX4_keep_16 rfl 0 rfl ?_
    refine k9_gX4_1 X (by rfl) in_X4_keep_X4 fl_X4_keep_17 dX4_keep_17 ?_
    refine k9_if_lt (tgt := 58) X dX4_keep_20 (by decide) (fun c4 => ?_) (fun c4 => ?_)
    · refine k9_sub (lv' := []) [] rfl ?_
      exact (l4 c1 c4)
    · refine k9_aload_n X dX4_keep_23 rfl 0 rfl ?_
      refine k9_gX4_1 X (by rfl) in_X4_keep_X4 fl_X4_keep_17 dX4_keep_24 ?_
      refine k9_aload_n X dX4_keep_27 rfl 0 rfl ?_
      refine k9_gX4_0 X in_X4_keep_X4 fl_X4_keep_11 dX4_keep_28 ?_
      refine k9_plen X dX4_keep_31 ?_
      refine k9_icmp_ge (tgt := 58) X dX4_keep_32 (by decide) (fun c5 => ?_) (fun c5 => ?_)
      · refine k9_sub (lv' := []) [] rfl ?_
        exact (l5 c1 c4 c5)
      · refine k9_aload_n X dX4_keep_35 rfl 0 rfl ?_
        refine k9_gX4_0 X in_X4_keep_X4 fl_X4_keep_11 dX4_keep_36 ?_
        refine k9_aload_n X dX4_keep_39 rfl 0 rfl ?_
        refine k9_gX4_1 X (by rfl) in_X4_keep_X4 fl_X4_keep_17 dX4_keep_40 ?_
        refine k9_aald X (o3 c1 c4 c5) dX4_keep_43 ?_
        refine k9_aload_n X dX4_keep_44 rfl 1 rfl ?_
        refine k9_callVv1 X (k3 c1 c4 c5) (k9_ob_P (o4 c1 c4 c5)) (cwV 1 X.2.2.2.2.1 gX4_keep_X3_copyFrom rfl rfl rfl (by decide +kernel) ⟨Nat.le_of_ble_eq_true rfl, Nat.le_of_ble_eq_true rfl⟩) (Nat.le_of_ble_eq_true rfl) dX4_keep_45 ⟨Nat.zero_le _, Nat.zero_le _⟩ ?_
        refine k9_aload_n X dX4_keep_48 rfl 0 rfl ?_
        refine k9_dup X dX4_keep_49 rfl ?_
        refine k9_gX4_1 X (by rfl) in_X4_keep_X4 fl_X4_keep_17 dX4_keep_50 ?_
        refine k9_iconst (v := 1) X dX4_keep_53 (by decide) ?_
        refine k9_iadd X dX4_keep_54 ?_
        refine k9_pX4_1 X in_X4_keep_X4 fl_X4_keep_17 dX4_keep_55 ?_
        refine k9_sub (lv' := []) [] rfl ?_
        exact (l6 c1 c4 c5)

theorem in_X4_dropOldest_X4 : ∀ w ∈ u_ws RX4 TX4 2, w ∈ wsX4_dropOldest := by decide +kernel
theorem fl_X4_dropOldest_11 : Cond.fieldLink RX4 11 (TX4 0).1 (TX4 0).2.1 (TX4 0).2.2.1 ∈ wsX4_dropOldest := by decide +kernel
theorem fl_X4_dropOldest_17 : Cond.fieldLink RX4 17 (TX4 1).1 (TX4 1).2.1 (TX4 1).2.2.1 ∈ wsX4_dropOldest := by decide +kernel
set_option maxRecDepth 20000 in
theorem bk_X4_dropOldest_0 (X : k9_X p R s m args c A G 3 cX4_dropOldest wsX4_dropOldest RX4 rm_X4_dropOldest) 
    (o1 : vp_in (0 : Int32) 6)
    (o2 : k9_isP (k9_pc (M 65 (0 : Int32).toNatClampNeg)))
    (l1 : k9_U p l e R s m args below meth c Q A G 3 0 0 M 9 [(0, .ref (k9_ga G 64)), (1, .ref (k9_ga G (k9_pc (M 65 (0 : Int32).toNatClampNeg)))), (2, .int (1 : Int32))] []) : k9_U p l e R s m args below meth c Q A G 3 0 0 M 0 [(0, .ref (k9_ga G 64))] [] := by
  refine k9_aload_n X dX4_dropOldest_0 rfl 0 rfl ?_
  refine k9_gX4_0 X in_X4_dropOldest_X4 fl_X4_dropOldest_11 dX4_dropOldest_1 ?_
  refine k9_iconst (v := 0) X dX4_dropOldest_4 (by decide) ?_
  refine k9_aald X o1 dX4_dropOldest_5 ?_
  refine k9_astore_n (lv' := [(0, .ref (k9_ga G 64)), (1, .ref (k9_ga G (k9_pc (M 65 (0 : Int32).toNatClampNeg))))]) X dX4_dropOldest_6 rfl (by decide) [1, 0] rfl ?_
  refine k9_iconst (v := 1) X dX4_dropOldest_7 (by decide) ?_
  refine k9_istore_n (lv' := [(0, .ref (k9_ga G 64)), (1, .ref (k9_ga G (k9_pc (M 65 (0 : Int32).toNatClampNeg)))), (2, .int (1 : Int32))]) X dX4_dropOldest_8 rfl (by decide) [1, 2, 0] rfl ?_
  exact l1

set_option maxRecDepth 20000 in
theorem bk_X4_dropOldest_9 (X : k9_X p R s m args c A G 3 cX4_dropOldest wsX4_dropOldest RX4 rm_X4_dropOldest) {x2 : Int32} {y1 : Int32} (hy1 : k9_isP (k9_pc y1))
    (o1 : ((6 : Int32) ≤ x2) → vp_in ((6 : Int32) - (1 : Int32)) 6)
    (l1 : ((6 : Int32) ≤ x2) → k9_U p l e R s m args below meth c Q A G 3 0 0 (k9_st (k9_st M 65 ((6 : Int32) - (1 : Int32)).toNatClampNeg y1) 64 1 ((6 : Int32) - (1 : Int32))) 62 [] [])
    (o2 : (¬ ((6 : Int32) ≤ x2)) → vp_in x2 6)
    (o3 : (¬ ((6 : Int32) ≤ x2)) → k9_isP (k9_pc (M 65 x2.toNatClampNeg)))
    (o4 : (¬ ((6 : Int32) ≤ x2)) → vp_in (x2 - (1 : Int32)) 6)
    (l2 : (¬ ((6 : Int32) ≤ x2)) → k9_U p l e R s m args below meth c Q A G 3 0 0 (k9_st M 65 (x2 - (1 : Int32)).toNatClampNeg (M 65 x2.toNatClampNeg)) 9 [(0, .ref (k9_ga G 64)), (1, .ref (k9_ga G (k9_pc y1))), (2, .int (x2 + (1 : Int32)))] []) : k9_U p l e R s m args below meth c Q A G 3 0 0 M 9 [(0, .ref (k9_ga G 64)), (1, .ref (k9_ga G (k9_pc y1))), (2, .int x2)] [] := by
  refine k9_iload_n X dX4_dropOldest_9 rfl 2 rfl ?_
  refine k9_aload_n X dX4_dropOldest_10 rfl 0 rfl ?_
  refine k9_gX4_0 X in_X4_dropOldest_X4 fl_X4_dropOldest_11 dX4_dropOldest_11 ?_
  refine k9_plen X dX4_dropOldest_14 ?_
  refine k9_icmp_ge (tgt := 38) X dX4_dropOldest_15 (by decide) (fun c1 => ?_) (fun c1 => ?_)
  · refine k9_aload_n X dX4_dropOldest_38 rfl 0 rfl ?_
    refine k9_gX4_0 X in_X4_dropOldest_X4 fl_X4_dropOldest_11 dX4_dropOldest_39 ?_
    refine k9_aload_n X dX4_dropOldest_42 rfl 0 rfl ?_
    refine k9_gX4_0 X in_X4_dropOldest_X4 fl_X4_dropOldest_11 dX4_dropOldest_43 ?_
    refine k9_plen X dX4_dropOldest_46 ?_
    refine k9_iconst (v := 1) X dX4_dropOldest_47 (by decide) ?_
    refine k9_isub X dX4_dropOldest_48 ?_
    refine k9_aload_n X dX4_dropOldest_49 rfl 1 rfl ?_
    refine k9_aast X (o1 c1) hy1 dX4_dropOldest_50 ?_
    refine k9_aload_n X dX4_dropOldest_51 rfl 0 rfl ?_
    refine k9_aload_n X dX4_dropOldest_52 rfl 0 rfl ?_
    refine k9_gX4_0 X in_X4_dropOldest_X4 fl_X4_dropOldest_11 dX4_dropOldest_53 ?_
    refine k9_plen X dX4_dropOldest_56 ?_
    refine k9_iconst (v := 1) X dX4_dropOldest_57 (by decide) ?_
    refine k9_isub X dX4_dropOldest_58 ?_
    refine k9_pX4_1 X in_X4_dropOldest_X4 fl_X4_dropOldest_17 dX4_dropOldest_59 ?_
    refine k9_sub (lv' := []) [] rfl ?_
    exact (l1 c1)
  · refine k9_aload_n X dX4_dropOldest_18 rfl 0 rfl ?_
    refine k9_gX4_0 X in_X4_dropOldest_X4 fl_X4_dropOldest_11 dX4_dropOldest_19 ?_
    refine k9_iload_n X dX4_dropOldest_22 rfl 2 rfl ?_
    refine k9_iconst (v := 1) X dX4_dropOldest_23 (by decide) ?_
    refine k9_isub X dX4_dropOldest_24 ?_
    refine k9_aload_n X dX4_dropOldest_25 rfl 0 rfl ?_
    refine k9_gX4_0 X in_X4_dropOldest_X4 fl_X4_dropOldest_11 dX4_dropOldest_26 ?_
    refine k9_iload_n X dX4_dropOldest_29 rfl 2 rfl ?_
    refine k9_aald X (o2 c1) dX4_dropOldest_30 ?_
    refine k9_aast X (o4 c1) (o3 c1) dX4_dropOldest_31 ?_
    refine k9_iinc (v := x2 + (1 : Int32)) (lv' := [(0, .ref (k9_ga G 64)), (1, .ref (k9_ga G (k9_pc y1))), (2, .int (x2 + (1 : Int32)))]) X dX4_dropOldest_32 (k := 2) rfl (by rfl) (by decide) [1, 2, 0] rfl ?_
    refine k9_goto (tgt := 9) X dX4_dropOldest_35 (by decide) ?_
    exact (l2 c1)

theorem in_X4_giveBack_X4 : ∀ w ∈ u_ws RX4 TX4 2, w ∈ wsX4_giveBack := by decide +kernel
theorem fl_X4_giveBack_17 : Cond.fieldLink RX4 17 (TX4 1).1 (TX4 1).2.1 (TX4 1).2.2.1 ∈ wsX4_giveBack := by decide +kernel
theorem fl_X4_giveBack_11 : Cond.fieldLink RX4 11 (TX4 0).1 (TX4 0).2.1 (TX4 0).2.2.1 ∈ wsX4_giveBack := by decide +kernel
set_option maxRecDepth 20000 in
theorem bk_X4_giveBack_0 (X : k9_X p R s m args c A G 2 cX4_giveBack wsX4_giveBack RX4 rm_X4_giveBack) {mv1 : k9_Mem}
    (l1 : ((M 64 1) ≤ 0) → k9_U p l e R s m args below meth c Q A G 2 0 0 M 46 [] [.int (M 64 1)])
    (l2 : (¬ ((M 64 1) ≤ 0)) → ((6 : Int32) < (M 64 1)) → k9_U p l e R s m args below meth c Q A G 2 0 0 M 46 [] [.int (M 64 1)])
    (o1 : (¬ ((M 64 1) ≤ 0)) → (¬ ((6 : Int32) < (M 64 1))) → vp_in ((M 64 1) - (1 : Int32)) 6)
    (o2 : (¬ ((M 64 1) ≤ 0)) → (¬ ((6 : Int32) < (M 64 1))) → k9_isP (k9_pc ((k9_st M 64 1 ((M 64 1) - (1 : Int32))) 65 ((M 64 1) - (1 : Int32)).toNatClampNeg)))
    (k1 : (¬ ((M 64 1) ≤ 0)) → (¬ ((6 : Int32) < (M 64 1))) → k9_Cv l yX3_copyFrom wsX3_copyFrom rm_X3_copyFrom G (k9_st M 64 1 ((M 64 1) - (1 : Int32))) [.ref (k9_ga G 1), .ref (k9_ga G (k9_pc ((k9_st M 64 1 ((M 64 1) - (1 : Int32))) 65 ((M 64 1) - (1 : Int32)).toNatClampNeg)))] mv1)
    (l3 : (¬ ((M 64 1) ≤ 0)) → (¬ ((6 : Int32) < (M 64 1))) → k9_U p l e R s m args below meth c Q A G 2 0 0 mv1 46 [] [.int (mv1 64 1)]) : k9_U p l e R s m args below meth c Q A G 2 0 0 M 0 [(0, .ref (k9_ga G 64)), (1, .ref (k9_ga G 1))] [] := by
  refine k9_aload_n X dX4_giveBack_0 rfl 0 rfl ?_
  refine k9_gX4_1 X (by rfl) in_X4_giveBack_X4 fl_X4_giveBack_17 dX4_giveBack_1 ?_
  refine k9_if_le (tgt := 42) X dX4_giveBack_4 (by decide) (fun c1 => ?_) (fun c1 => ?_)
  · refine k9_aload_n X dX4_giveBack_42 rfl 0 rfl ?_
    refine k9_gX4_1 X (by rfl) in_X4_giveBack_X4 fl_X4_giveBack_17 dX4_giveBack_43 ?_
    refine k9_sub (lv' := []) [] rfl ?_
    exact (l1 c1)
  · refine k9_aload_n X dX4_giveBack_7 rfl 0 rfl ?_
    refine k9_gX4_1 X (by rfl) in_X4_giveBack_X4 fl_X4_giveBack_17 dX4_giveBack_8 ?_
    refine k9_aload_n X dX4_giveBack_11 rfl 0 rfl ?_
    refine k9_gX4_0 X in_X4_giveBack_X4 fl_X4_giveBack_11 dX4_giveBack_12 ?_
    refine k9_plen X dX4_giveBack_15 ?_
    refine k9_icmp_gt (tgt := 42) X dX4_giveBack_16 (by decide) (fun c2 => ?_) (fun c2 => ?_)
    · refine k9_aload_n X dX4_giveBack_42 rfl 0 rfl ?_
      refine k9_gX4_1 X (by rfl) in_X4_giveBack_X4 fl_X4_giveBack_17 dX4_giveBack_43 ?_
      refine k9_sub (lv' := []) [] rfl ?_
      exact (l2 c1 c2)
    · refine k9_aload_n X dX4_giveBack_19 rfl 0 rfl ?_
      refine k9_dup X dX4_giveBack_20 rfl ?_
      refine k9_gX4_1 X (by rfl) in_X4_giveBack_X4 fl_X4_giveBack_17 dX4_giveBack_21 ?_
      refine k9_iconst (v := 1) X dX4_giveBack_24 (by decide) ?_
      refine k9_isub X dX4_giveBack_25 ?_
      refine k9_pX4_1 X in_X4_giveBack_X4 fl_X4_giveBack_17 dX4_giveBack_26 ?_
      refine k9_aload_n X dX4_giveBack_29 rfl 1 rfl ?_
      refine k9_aload_n X dX4_giveBack_30 rfl 0 rfl ?_
      refine k9_gX4_0 X in_X4_giveBack_X4 fl_X4_giveBack_11 dX4_giveBack_31 ?_
      refine k9_aload_n X dX4_giveBack_34 rfl 0 rfl ?_
      refine k9_gX4_1 (v := ((M 64 1) - (1 : Int32))) X (by rfl) in_X4_giveBack_X4 fl_X4_giveBack_17 dX4_giveBack_35 ?_
      refine k9_aald X (o1 c1 c2) dX4_giveBack_38 ?_
      refine k9_callVv1 X (k1 c1 c2) (k9_ob_P (by decide)) (cwV 1 X.2.2.2.2.1 gX4_giveBack_X3_copyFrom rfl rfl rfl (by decide +kernel) ⟨Nat.le_of_ble_eq_true rfl, Nat.le_of_ble_eq_true rfl⟩) (Nat.le_of_ble_eq_true rfl) dX4_giveBack_39 ⟨Nat.zero_le _, Nat.zero_le _⟩ ?_
      refine k9_aload_n X dX4_giveBack_42 rfl 0 rfl ?_
      refine k9_gX4_1 X (by rfl) in_X4_giveBack_X4 fl_X4_giveBack_17 dX4_giveBack_43 ?_
      refine k9_sub (lv' := []) [] rfl ?_
      exact (l3 c1 c2)

theorem in_X5_findSteer_X5 : ∀ w ∈ u_ws RX5 TX5 4, w ∈ wsX5_findSteer := by decide +kernel
theorem fl_X5_findSteer_26 : Cond.fieldLink RX5 26 (TX5 3).1 (TX5 3).2.1 (TX5 3).2.2.1 ∈ wsX5_findSteer := by decide +kernel
theorem fl_X5_findSteer_29 : Cond.fieldLink RX5 29 RX5 "NEAREST_FIRST" "[I" ∈ wsX5_findSteer := by decide +kernel
theorem fl_X5_findSteer_9 : Cond.fieldLink RX5 9 (TX5 0).1 (TX5 0).2.1 (TX5 0).2.2.1 ∈ wsX5_findSteer := by decide +kernel
theorem in_X5_findSteer_X3 : ∀ w ∈ u_ws RX3 TX3 7, w ∈ wsX5_findSteer := by decide +kernel
theorem fl_X5_findSteer_41 : Cond.fieldLink RX5 41 (TX3 5).1 (TX3 5).2.1 (TX3 5).2.2.1 ∈ wsX5_findSteer := by decide +kernel
theorem fl_X5_findSteer_44 : Cond.fieldLink RX5 44 (TX3 4).1 (TX3 4).2.1 (TX3 4).2.2.1 ∈ wsX5_findSteer := by decide +kernel
theorem in_X5_findSteer_X1 : ∀ w ∈ u_ws RX1 TX1 4, w ∈ wsX5_findSteer := by decide +kernel
theorem fl_X5_findSteer_38 : Cond.fieldLink RX5 38 (TX1 0).1 (TX1 0).2.1 (TX1 0).2.2.1 ∈ wsX5_findSteer := by decide +kernel
set_option maxRecDepth 20000 in
theorem bk_X5_findSteer_0 (X : k9_X p R s m args c A G 11 cX5_findSteer wsX5_findSteer RX5 rm_X5_findSteer) {a2 a3 : Int32}
    (l1 : k9_U p l e R s m args below meth c Q A G 11 0 0 (k9_st M 71 3 (-1 : Int32)) 18 [(0, .ref (k9_ga G 71)), (1, .ref (k9_ga G 1)), (2, .ref (k9_ga G 57)), (3, .int a2), (4, .int a3), (5, .ref G.2.2.2.2.2), (6, .int (7 : Int32)), (7, .int (0 : Int32))] []) : k9_U p l e R s m args below meth c Q A G 11 0 0 M 0 [(0, .ref (k9_ga G 71)), (1, .ref (k9_ga G 1)), (2, .ref (k9_ga G 57)), (3, .int a2), (4, .int a3)] [] := by
  refine k9_aload_n X dX5_findSteer_0 rfl 0 rfl ?_
  refine k9_iconst (v := -1) X dX5_findSteer_1 (by decide) ?_
  refine k9_pX5_3 X in_X5_findSteer_X5 fl_X5_findSteer_26 dX5_findSteer_2 ?_
  refine k9_gets X fl_X5_findSteer_29 dX5_findSteer_5 ?_
  refine k9_astore (lv' := [(0, .ref (k9_ga G 71)), (1, .ref (k9_ga G 1)), (2, .ref (k9_ga G 57)), (3, .int a2), (4, .int a3), (5, .ref G.2.2.2.2.2)]) X dX5_findSteer_8 (by decide) [1, 2, 3, 4, 5, 0] rfl ?_
  refine k9_aload X dX5_findSteer_10 5 rfl ?_
  refine k9_tlen X dX5_findSteer_12 ?_
  refine k9_istore (lv' := [(0, .ref (k9_ga G 71)), (1, .ref (k9_ga G 1)), (2, .ref (k9_ga G 57)), (3, .int a2), (4, .int a3), (5, .ref G.2.2.2.2.2), (6, .int (7 : Int32))]) X dX5_findSteer_13 (by decide) [1, 2, 3, 4, 5, 6, 0] rfl ?_
  refine k9_iconst (v := 0) X dX5_findSteer_15 (by decide) ?_
  refine k9_istore (lv' := [(0, .ref (k9_ga G 71)), (1, .ref (k9_ga G 1)), (2, .ref (k9_ga G 57)), (3, .int a2), (4, .int a3), (5, .ref G.2.2.2.2.2), (6, .int (7 : Int32)), (7, .int (0 : Int32))]) X dX5_findSteer_16 (by decide) [1, 2, 3, 4, 5, 6, 7, 0] rfl ?_
  exact l1

set_option maxRecDepth 20000 in
theorem bk_X5_findSteer_18 (X : k9_X p R s m args c A G 11 cX5_findSteer wsX5_findSteer RX5 rm_X5_findSteer) {x3 x4 x6 x7 : Int32}
    (l1 : (x6 ≤ x7) → k9_U p l e R s m args below meth c Q A G 11 0 0 M 122 [] [])
    (o1 : (¬ (x6 ≤ x7)) → vp_in x7 7)
    (l2 : (¬ (x6 ≤ x7)) → k9_U p l e R s m args below meth c Q A G 11 0 0 M 35 [(0, .ref (k9_ga G 71)), (1, .ref (k9_ga G 1)), (2, .ref (k9_ga G 57)), (3, .int x3), (4, .int x4), (5, .ref G.2.2.2.2.2), (6, .int x6), (7, .int x7), (8, .int (k9_nfi x7.toNatClampNeg)), (9, .int (0 : Int32))] []) : k9_U p l e R s m args below meth c Q A G 11 0 0 M 18 [(0, .ref (k9_ga G 71)), (1, .ref (k9_ga G 1)), (2, .ref (k9_ga G 57)), (3, .int x3), (4, .int x4), (5, .ref G.2.2.2.2.2), (6, .int x6), (7, .int x7)] [] := by
  refine k9_iload X dX5_findSteer_18 7 rfl ?_
  refine k9_iload X dX5_findSteer_20 6 rfl ?_
  refine k9_icmp_ge (tgt := 122) X dX5_findSteer_22 (by decide) (fun c1 => ?_) (fun c1 => ?_)
  · refine k9_sub (lv' := []) [] rfl ?_
    exact (l1 c1)
  · refine k9_aload X dX5_findSteer_25 5 rfl ?_
    refine k9_iload X dX5_findSteer_27 7 rfl ?_
    refine k9_tld X (o1 c1) dX5_findSteer_29 ?_
    refine k9_istore (lv' := [(0, .ref (k9_ga G 71)), (1, .ref (k9_ga G 1)), (2, .ref (k9_ga G 57)), (3, .int x3), (4, .int x4), (5, .ref G.2.2.2.2.2), (6, .int x6), (7, .int x7), (8, .int (k9_nfi x7.toNatClampNeg))]) X dX5_findSteer_30 (by decide) [1, 2, 3, 4, 5, 6, 7, 8, 0] rfl ?_
    refine k9_iconst (v := 0) X dX5_findSteer_32 (by decide) ?_
    refine k9_istore (lv' := [(0, .ref (k9_ga G 71)), (1, .ref (k9_ga G 1)), (2, .ref (k9_ga G 57)), (3, .int x3), (4, .int x4), (5, .ref G.2.2.2.2.2), (6, .int x6), (7, .int x7), (8, .int (k9_nfi x7.toNatClampNeg)), (9, .int (0 : Int32))]) X dX5_findSteer_33 (by decide) [1, 2, 3, 4, 5, 6, 7, 8, 9, 0] rfl ?_
    exact (l2 c1)

set_option maxRecDepth 20000 in
theorem bk_X5_findSteer_35 (X : k9_X p R s m args c A G 11 cX5_findSteer wsX5_findSteer RX5 rm_X5_findSteer) {x3 x4 x6 x7 x8 x9 : Int32} {mv1 : k9_Mem} {rv2 : Int32}
    (k1 : ((96 : Int32) ≤ x9) → k9_Cv l yX5_offer wsX5_offer rm_X5_offer G M [.ref (k9_ga G 71), .int x8, .ref (k9_ga G 72), .int (M 1 5), .ref (k9_ga G 6)] mv1)
    (l1 : ((96 : Int32) ≤ x9) → k9_U p l e R s m args below meth c Q A G 11 0 0 mv1 18 [(0, .ref (k9_ga G 71)), (1, .ref (k9_ga G 1)), (2, .ref (k9_ga G 57)), (3, .int x3), (4, .int x4), (5, .ref G.2.2.2.2.2), (6, .int x6), (7, .int (x7 + (1 : Int32)))] [])
    (o1 : (¬ ((96 : Int32) ≤ x9)) → (x9 < x3) → vp_in x9 96)
    (l2 : (¬ ((96 : Int32) ≤ x9)) → (x9 < x3) → k9_U p l e R s m args below meth c Q A G 11 0 0 (k9_st M 72 x9.toNatClampNeg (M 58 x9.toNatClampNeg)) 35 [(0, .ref (k9_ga G 71)), (1, .ref (k9_ga G 1)), (2, .ref (k9_ga G 57)), (3, .int x3), (4, .int x4), (5, .ref G.2.2.2.2.2), (6, .int x6), (7, .int x7), (8, .int x8), (9, .int (x9 + (1 : Int32)))] [])
    (o2 : (¬ ((96 : Int32) ≤ x9)) → (¬ (x9 < x3)) → (x4 < x9) → vp_in x9 96)
    (l3 : (¬ ((96 : Int32) ≤ x9)) → (¬ (x9 < x3)) → (x4 < x9) → k9_U p l e R s m args below meth c Q A G 11 0 0 (k9_st M 72 x9.toNatClampNeg (M 58 x9.toNatClampNeg)) 35 [(0, .ref (k9_ga G 71)), (1, .ref (k9_ga G 1)), (2, .ref (k9_ga G 57)), (3, .int x3), (4, .int x4), (5, .ref G.2.2.2.2.2), (6, .int x6), (7, .int x7), (8, .int x8), (9, .int (x9 + (1 : Int32)))] [])
    (k2 : (¬ ((96 : Int32) ≤ x9)) → (¬ (x9 < x3)) → (¬ (x4 < x9)) → k9_Ci l yX3_voicesAt wsX3_voicesAt rm_X3_voicesAt G M [.ref (k9_ga G 1), .int x9, .int x8] rv2 M)
    (o3 : (¬ ((96 : Int32) ≤ x9)) → (¬ (x9 < x3)) → (¬ (x4 < x9)) → vp_in x9 96)
    (l4 : (¬ ((96 : Int32) ≤ x9)) → (¬ (x9 < x3)) → (¬ (x4 < x9)) → k9_U p l e R s m args below meth c Q A G 11 0 0 (k9_st M 72 x9.toNatClampNeg rv2) 35 [(0, .ref (k9_ga G 71)), (1, .ref (k9_ga G 1)), (2, .ref (k9_ga G 57)), (3, .int x3), (4, .int x4), (5, .ref G.2.2.2.2.2), (6, .int x6), (7, .int x7), (8, .int x8), (9, .int (x9 + (1 : Int32)))] []) : k9_U p l e R s m args below meth c Q A G 11 0 0 M 35 [(0, .ref (k9_ga G 71)), (1, .ref (k9_ga G 1)), (2, .ref (k9_ga G 57)), (3, .int x3), (4, .int x4), (5, .ref G.2.2.2.2.2), (6, .int x6), (7, .int x7), (8, .int x8), (9, .int x9)] [] := by
  refine k9_iload X dX5_findSteer_35 9 rfl ?_
  refine k9_bipush (v := 96) X dX5_findSteer_37 (by decide) ?_
  refine k9_icmp_ge (tgt := 98) X dX5_findSteer_39 (by decide) (fun c1 => ?_) (fun c1 => ?_)
  · refine k9_aload_n X dX5_findSteer_98 rfl 0 rfl ?_
    refine k9_iload X dX5_findSteer_99 8 rfl ?_
    refine k9_aload_n X dX5_findSteer_101 rfl 0 rfl ?_
    refine k9_gX5_0 X in_X5_findSteer_X5 fl_X5_findSteer_9 dX5_findSteer_102 ?_
    refine k9_aload_n X dX5_findSteer_105 rfl 1 rfl ?_
    refine k9_gX3_5 (q := 1) X (by decide) (by rfl) in_X5_findSteer_X3 fl_X5_findSteer_41 dX5_findSteer_106 ?_
    refine k9_aload_n X dX5_findSteer_109 rfl 1 rfl ?_
    refine k9_gX3_4 (q := 1) (q1 := 6) X (by decide) (by rfl) in_X5_findSteer_X3 fl_X5_findSteer_44 dX5_findSteer_110 ?_
    refine k9_callVv4 X (k1 c1) k9_ob_71 (cwV 4 X.2.2.2.2.1 gX5_findSteer_X5_offer rfl rfl rfl (by decide +kernel) ⟨Nat.le_of_ble_eq_true rfl, Nat.le_of_ble_eq_true rfl⟩) (Nat.le_of_ble_eq_true rfl) dX5_findSteer_113 ⟨Nat.zero_le _, Nat.zero_le _⟩ ?_
    refine k9_iinc (v := x7 + (1 : Int32)) (lv' := [(0, .ref (k9_ga G 71)), (1, .ref (k9_ga G 1)), (2, .ref (k9_ga G 57)), (3, .int x3), (4, .int x4), (5, .ref G.2.2.2.2.2), (6, .int x6), (7, .int (x7 + (1 : Int32))), (8, .int x8), (9, .int x9)]) X dX5_findSteer_116 (k := 7) rfl (by rfl) (by decide) [1, 2, 3, 4, 5, 6, 7, 0, 8, 9] rfl ?_
    refine k9_goto (tgt := 18) X dX5_findSteer_119 (by decide) ?_
    refine k9_sub (lv' := [(0, .ref (k9_ga G 71)), (1, .ref (k9_ga G 1)), (2, .ref (k9_ga G 57)), (3, .int x3), (4, .int x4), (5, .ref G.2.2.2.2.2), (6, .int x6), (7, .int (x7 + (1 : Int32)))]) [0, 1, 2, 3, 4, 5, 6, 7] rfl ?_
    exact (l1 c1)
  · refine k9_iload X dX5_findSteer_42 9 rfl ?_
    refine k9_iload_n X dX5_findSteer_44 rfl 3 rfl ?_
    refine k9_icmp_lt (tgt := 59) X dX5_findSteer_45 (by decide) (fun c2 => ?_) (fun c2 => ?_)
    · refine k9_iconst (v := 0) X dX5_findSteer_59 (by decide) ?_
      refine k9_istore (lv' := [(0, .ref (k9_ga G 71)), (1, .ref (k9_ga G 1)), (2, .ref (k9_ga G 57)), (3, .int x3), (4, .int x4), (5, .ref G.2.2.2.2.2), (6, .int x6), (7, .int x7), (8, .int x8), (9, .int x9), (10, .int (0 : Int32))]) X dX5_findSteer_60 (by decide) [1, 2, 3, 4, 5, 6, 7, 8, 9, 10, 0] rfl ?_
      refine k9_aload_n X dX5_findSteer_62 rfl 0 rfl ?_
      refine k9_gX5_0 X in_X5_findSteer_X5 fl_X5_findSteer_9 dX5_findSteer_63 ?_
      refine k9_iload X dX5_findSteer_66 9 rfl ?_
      refine k9_iload X dX5_findSteer_68 10 rfl ?_
      refine k9_if_eq (tgt := 84) X dX5_findSteer_70 (by decide) (fun _ => ?_) (fun c => absurd c (by decide))
      refine k9_aload_n X dX5_findSteer_84 rfl 2 rfl ?_
      refine k9_gX1_0 X in_X5_findSteer_X1 fl_X5_findSteer_38 dX5_findSteer_85 ?_
      refine k9_iload X dX5_findSteer_88 9 rfl ?_
      refine k9_iald X (by decide) (o1 c1 c2) (by rfl) dX5_findSteer_90 ?_
      refine k9_iast X (by decide) (o1 c1 c2) dX5_findSteer_91 ?_
      refine k9_iinc (v := x9 + (1 : Int32)) (lv' := [(0, .ref (k9_ga G 71)), (1, .ref (k9_ga G 1)), (2, .ref (k9_ga G 57)), (3, .int x3), (4, .int x4), (5, .ref G.2.2.2.2.2), (6, .int x6), (7, .int x7), (8, .int x8), (9, .int (x9 + (1 : Int32))), (10, .int (0 : Int32))]) X dX5_findSteer_92 (k := 9) rfl (by rfl) (by decide) [1, 2, 3, 4, 5, 6, 7, 8, 9, 0, 10] rfl ?_
      refine k9_goto (tgt := 35) X dX5_findSteer_95 (by decide) ?_
      refine k9_sub (lv' := [(0, .ref (k9_ga G 71)), (1, .ref (k9_ga G 1)), (2, .ref (k9_ga G 57)), (3, .int x3), (4, .int x4), (5, .ref G.2.2.2.2.2), (6, .int x6), (7, .int x7), (8, .int x8), (9, .int (x9 + (1 : Int32)))]) [0, 1, 2, 3, 4, 5, 6, 7, 8, 9] rfl ?_
      exact (l2 c1 c2)
    · refine k9_iload X dX5_findSteer_48 9 rfl ?_
      refine k9_iload X dX5_findSteer_50 4 rfl ?_
      refine k9_icmp_gt (tgt := 59) X dX5_findSteer_52 (by decide) (fun c3 => ?_) (fun c3 => ?_)
      · refine k9_iconst (v := 0) X dX5_findSteer_59 (by decide) ?_
        refine k9_istore (lv' := [(0, .ref (k9_ga G 71)), (1, .ref (k9_ga G 1)), (2, .ref (k9_ga G 57)), (3, .int x3), (4, .int x4), (5, .ref G.2.2.2.2.2), (6, .int x6), (7, .int x7), (8, .int x8), (9, .int x9), (10, .int (0 : Int32))]) X dX5_findSteer_60 (by decide) [1, 2, 3, 4, 5, 6, 7, 8, 9, 10, 0] rfl ?_
        refine k9_aload_n X dX5_findSteer_62 rfl 0 rfl ?_
        refine k9_gX5_0 X in_X5_findSteer_X5 fl_X5_findSteer_9 dX5_findSteer_63 ?_
        refine k9_iload X dX5_findSteer_66 9 rfl ?_
        refine k9_iload X dX5_findSteer_68 10 rfl ?_
        refine k9_if_eq (tgt := 84) X dX5_findSteer_70 (by decide) (fun _ => ?_) (fun c => absurd c (by decide))
        refine k9_aload_n X dX5_findSteer_84 rfl 2 rfl ?_
        refine k9_gX1_0 X in_X5_findSteer_X1 fl_X5_findSteer_38 dX5_findSteer_85 ?_
        refine k9_iload X dX5_findSteer_88 9 rfl ?_
        refine k9_iald X (by decide) (o2 c1 c2 c3) (by rfl) dX5_findSteer_90 ?_
        refine k9_iast X (by decide) (o2 c1 c2 c3) dX5_findSteer_91 ?_
        refine k9_iinc (v := x9 + (1 : Int32)) (lv' := [(0, .ref (k9_ga G 71)), (1, .ref (k9_ga G 1)), (2, .ref (k9_ga G 57)), (3, .int x3), (4, .int x4), (5, .ref G.2.2.2.2.2), (6, .int x6), (7, .int x7), (8, .int x8), (9, .int (x9 + (1 : Int32))), (10, .int (0 : Int32))]) X dX5_findSteer_92 (k := 9) rfl (by rfl) (by decide) [1, 2, 3, 4, 5, 6, 7, 8, 9, 0, 10] rfl ?_
        refine k9_goto (tgt := 35) X dX5_findSteer_95 (by decide) ?_
        refine k9_sub (lv' := [(0, .ref (k9_ga G 71)), (1, .ref (k9_ga G 1)), (2, .ref (k9_ga G 57)), (3, .int x3), (4, .int x4), (5, .ref G.2.2.2.2.2), (6, .int x6), (7, .int x7), (8, .int x8), (9, .int (x9 + (1 : Int32)))]) [0, 1, 2, 3, 4, 5, 6, 7, 8, 9] rfl ?_
        exact (l3 c1 c2 c3)
      · refine k9_iconst (v := 1) X dX5_findSteer_55 (by decide) ?_
        refine k9_goto (tgt := 60) X dX5_findSteer_56 (by decide) ?_
        refine k9_istore (lv' := [(0, .ref (k9_ga G 71)), (1, .ref (k9_ga G 1)), (2, .ref (k9_ga G 57)), (3, .int x3), (4, .int x4), (5, .ref G.2.2.2.2.2), (6, .int x6), (7, .int x7), (8, .int x8), (9, .int x9), (10, .int (1 : Int32))]) X dX5_findSteer_60 (by decide) [1, 2, 3, 4, 5, 6, 7, 8, 9, 10, 0] rfl ?_
        refine k9_aload_n X dX5_findSteer_62 rfl 0 rfl ?_
        refine k9_gX5_0 X in_X5_findSteer_X5 fl_X5_findSteer_9 dX5_findSteer_63 ?_
        refine k9_iload X dX5_findSteer_66 9 rfl ?_
        refine k9_iload X dX5_findSteer_68 10 rfl ?_
        refine k9_if_eq (tgt := 84) X dX5_findSteer_70 (by decide) (fun c => absurd c (by decide)) (fun _ => ?_)
        refine k9_aload_n X dX5_findSteer_73 rfl 1 rfl ?_
        refine k9_iload X dX5_findSteer_74 9 rfl ?_
        refine k9_iload X dX5_findSteer_76 8 rfl ?_
        refine k9_callVi2 X (k2 c1 c2 c3) (k9_ob_P (by decide)) (cwV 2 X.2.2.2.2.1 gX5_findSteer_X3_voicesAt rfl rfl rfl (by decide +kernel) ⟨Nat.le_of_ble_eq_true rfl, Nat.le_of_ble_eq_true rfl⟩) (Nat.le_of_ble_eq_true rfl) dX5_findSteer_78 ⟨Nat.zero_le _, Nat.zero_le _⟩ ?_
        refine k9_goto (tgt := 91) X dX5_findSteer_81 (by decide) ?_
        refine k9_iast X (by decide) (o3 c1 c2 c3) dX5_findSteer_91 ?_
        refine k9_iinc (v := x9 + (1 : Int32)) (lv' := [(0, .ref (k9_ga G 71)), (1, .ref (k9_ga G 1)), (2, .ref (k9_ga G 57)), (3, .int x3), (4, .int x4), (5, .ref G.2.2.2.2.2), (6, .int x6), (7, .int x7), (8, .int x8), (9, .int (x9 + (1 : Int32))), (10, .int (1 : Int32))]) X dX5_findSteer_92 (k := 9) rfl (by rfl) (by decide) [1, 2, 3, 4, 5, 6, 7, 8, 9, 0, 10] rfl ?_
        refine k9_goto (tgt := 35) X dX5_findSteer_95 (by decide) ?_
        refine k9_sub (lv' := [(0, .ref (k9_ga G 71)), (1, .ref (k9_ga G 1)), (2, .ref (k9_ga G 57)), (3, .int x3), (4, .int x4), (5, .ref G.2.2.2.2.2), (6, .int x6), (7, .int x7), (8, .int x8), (9, .int (x9 + (1 : Int32)))]) [0, 1, 2, 3, 4, 5, 6, 7, 8, 9] rfl ?_
        exact (l4 c1 c2 c3)

theorem in_X5_findBridge_X5 : ∀ w ∈ u_ws RX5 TX5 4, w ∈ wsX5_findBridge := by decide +kernel
theorem fl_X5_findBridge_26 : Cond.fieldLink RX5 26 (TX5 3).1 (TX5 3).2.1 (TX5 3).2.2.1 ∈ wsX5_findBridge := by decide +kernel
theorem in_X5_findBridge_X1 : ∀ w ∈ u_ws RX1 TX1 4, w ∈ wsX5_findBridge := by decide +kernel
theorem fl_X5_findBridge_38 : Cond.fieldLink RX5 38 (TX1 0).1 (TX1 0).2.1 (TX1 0).2.2.1 ∈ wsX5_findBridge := by decide +kernel
theorem in_X5_findBridge_X3 : ∀ w ∈ u_ws RX3 TX3 7, w ∈ wsX5_findBridge := by decide +kernel
theorem fl_X5_findBridge_44 : Cond.fieldLink RX5 44 (TX3 4).1 (TX3 4).2.1 (TX3 4).2.2.1 ∈ wsX5_findBridge := by decide +kernel
set_option maxRecDepth 20000 in
theorem bk_X5_findBridge_0 (X : k9_X p R s m args c A G 4 cX5_findBridge wsX5_findBridge RX5 rm_X5_findBridge) 
    (l1 : k9_U p l e R s m args below meth c Q A G 4 0 0 (k9_st M 71 3 (-1 : Int32)) 7 [(0, .ref (k9_ga G 71)), (1, .ref (k9_ga G 1)), (2, .ref (k9_ga G 57)), (3, .int (0 : Int32))] []) : k9_U p l e R s m args below meth c Q A G 4 0 0 M 0 [(0, .ref (k9_ga G 71)), (1, .ref (k9_ga G 1)), (2, .ref (k9_ga G 57))] [] := by
  refine k9_aload_n X dX5_findBridge_0 rfl 0 rfl ?_
  refine k9_iconst (v := -1) X dX5_findBridge_1 (by decide) ?_
  refine k9_pX5_3 X in_X5_findBridge_X5 fl_X5_findBridge_26 dX5_findBridge_2 ?_
  refine k9_iconst (v := 0) X dX5_findBridge_5 (by decide) ?_
  refine k9_istore_n (lv' := [(0, .ref (k9_ga G 71)), (1, .ref (k9_ga G 1)), (2, .ref (k9_ga G 57)), (3, .int (0 : Int32))]) X dX5_findBridge_6 rfl (by decide) [1, 2, 3, 0] rfl ?_
  exact l1

set_option maxRecDepth 20000 in
theorem bk_X5_findBridge_7 (X : k9_X p R s m args c A G 4 cX5_findBridge wsX5_findBridge RX5 rm_X5_findBridge) {x3 : Int32} {mv1 : k9_Mem}
    (l1 : ((3 : Int32) < x3) → k9_U p l e R s m args below meth c Q A G 4 0 0 M 32 [] [])
    (k1 : (¬ ((3 : Int32) < x3)) → k9_Cv l yX5_offer wsX5_offer rm_X5_offer G M [.ref (k9_ga G 71), .int x3, .ref (k9_ga G 58), .int x3, .ref (k9_ga G 6)] mv1)
    (l2 : (¬ ((3 : Int32) < x3)) → k9_U p l e R s m args below meth c Q A G 4 0 0 mv1 7 [(0, .ref (k9_ga G 71)), (1, .ref (k9_ga G 1)), (2, .ref (k9_ga G 57)), (3, .int (x3 + (1 : Int32)))] []) : k9_U p l e R s m args below meth c Q A G 4 0 0 M 7 [(0, .ref (k9_ga G 71)), (1, .ref (k9_ga G 1)), (2, .ref (k9_ga G 57)), (3, .int x3)] [] := by
  refine k9_iload_n X dX5_findBridge_7 rfl 3 rfl ?_
  refine k9_iconst (v := 3) X dX5_findBridge_8 (by decide) ?_
  refine k9_icmp_gt (tgt := 32) X dX5_findBridge_9 (by decide) (fun c1 => ?_) (fun c1 => ?_)
  · refine k9_sub (lv' := []) [] rfl ?_
    exact (l1 c1)
  · refine k9_aload_n X dX5_findBridge_12 rfl 0 rfl ?_
    refine k9_iload_n X dX5_findBridge_13 rfl 3 rfl ?_
    refine k9_aload_n X dX5_findBridge_14 rfl 2 rfl ?_
    refine k9_gX1_0 X in_X5_findBridge_X1 fl_X5_findBridge_38 dX5_findBridge_15 ?_
    refine k9_iload_n X dX5_findBridge_18 rfl 3 rfl ?_
    refine k9_aload_n X dX5_findBridge_19 rfl 1 rfl ?_
    refine k9_gX3_4 (q := 1) (q1 := 6) X (by decide) (by rfl) in_X5_findBridge_X3 fl_X5_findBridge_44 dX5_findBridge_20 ?_
    refine k9_callVv4 X (k1 c1) k9_ob_71 (cwV 4 X.2.2.2.2.1 gX5_findBridge_X5_offer rfl rfl rfl (by decide +kernel) ⟨Nat.le_of_ble_eq_true rfl, Nat.le_of_ble_eq_true rfl⟩) (Nat.le_of_ble_eq_true rfl) dX5_findBridge_23 ⟨Nat.zero_le _, Nat.zero_le _⟩ ?_
    refine k9_iinc (v := x3 + (1 : Int32)) (lv' := [(0, .ref (k9_ga G 71)), (1, .ref (k9_ga G 1)), (2, .ref (k9_ga G 57)), (3, .int (x3 + (1 : Int32)))]) X dX5_findBridge_26 (k := 3) rfl (by rfl) (by decide) [1, 2, 3, 0] rfl ?_
    refine k9_goto (tgt := 7) X dX5_findBridge_29 (by decide) ?_
    exact (l2 c1)

theorem in_X5_findBreak_X5 : ∀ w ∈ u_ws RX5 TX5 4, w ∈ wsX5_findBreak := by decide +kernel
theorem fl_X5_findBreak_26 : Cond.fieldLink RX5 26 (TX5 3).1 (TX5 3).2.1 (TX5 3).2.2.1 ∈ wsX5_findBreak := by decide +kernel
theorem fl_X5_findBreak_9 : Cond.fieldLink RX5 9 (TX5 0).1 (TX5 0).2.1 (TX5 0).2.2.1 ∈ wsX5_findBreak := by decide +kernel
theorem in_X5_findBreak_X3 : ∀ w ∈ u_ws RX3 TX3 7, w ∈ wsX5_findBreak := by decide +kernel
theorem fl_X5_findBreak_51 : Cond.fieldLink RX5 51 (TX3 3).1 (TX3 3).2.1 (TX3 3).2.2.1 ∈ wsX5_findBreak := by decide +kernel
theorem in_X5_findBreak_X1 : ∀ w ∈ u_ws RX1 TX1 4, w ∈ wsX5_findBreak := by decide +kernel
theorem fl_X5_findBreak_38 : Cond.fieldLink RX5 38 (TX1 0).1 (TX1 0).2.1 (TX1 0).2.2.1 ∈ wsX5_findBreak := by decide +kernel
theorem fl_X5_findBreak_41 : Cond.fieldLink RX5 41 (TX3 5).1 (TX3 5).2.1 (TX3 5).2.2.1 ∈ wsX5_findBreak := by decide +kernel
theorem fl_X5_findBreak_44 : Cond.fieldLink RX5 44 (TX3 4).1 (TX3 4).2.1 (TX3 4).2.2.1 ∈ wsX5_findBreak := by decide +kernel
set_option maxRecDepth 20000 in
theorem bk_X5_findBreak_0 (X : k9_X p R s m args c A G 6 cX5_findBreak wsX5_findBreak RX5 rm_X5_findBreak) {a2 : Int32}
    (l1 : k9_U p l e R s m args below meth c Q A G 6 0 0 (k9_st M 71 3 (-1 : Int32)) 8 [(0, .ref (k9_ga G 71)), (1, .ref (k9_ga G 1)), (2, .ref (k9_ga G 57)), (3, .int a2), (4, .int (0 : Int32))] []) : k9_U p l e R s m args below meth c Q A G 6 0 0 M 0 [(0, .ref (k9_ga G 71)), (1, .ref (k9_ga G 1)), (2, .ref (k9_ga G 57)), (3, .int a2)] [] := by
  refine k9_aload_n X dX5_findBreak_0 rfl 0 rfl ?_
  refine k9_iconst (v := -1) X dX5_findBreak_1 (by decide) ?_
  refine k9_pX5_3 X in_X5_findBreak_X5 fl_X5_findBreak_26 dX5_findBreak_2 ?_
  refine k9_iconst (v := 0) X dX5_findBreak_5 (by decide) ?_
  refine k9_istore (lv' := [(0, .ref (k9_ga G 71)), (1, .ref (k9_ga G 1)), (2, .ref (k9_ga G 57)), (3, .int a2), (4, .int (0 : Int32))]) X dX5_findBreak_6 (by decide) [1, 2, 3, 4, 0] rfl ?_
  exact l1

set_option maxRecDepth 20000 in
theorem bk_X5_findBreak_8 (X : k9_X p R s m args c A G 6 cX5_findBreak wsX5_findBreak RX5 rm_X5_findBreak) {x3 x4 : Int32} {rv1 : Int32} {rv2 : Int32}
    (l1 : ((96 : Int32) ≤ x4) → k9_U p l e R s m args below meth c Q A G 6 0 0 M 52 [(0, .ref (k9_ga G 71)), (1, .ref (k9_ga G 1)), (2, .ref (k9_ga G 57)), (4, .int (1 : Int32)), (5, .int (0 : Int32))] [])
    (o1 : (¬ ((96 : Int32) ≤ x4)) → vp_in x4 96)
    (k1 : (¬ ((96 : Int32) ≤ x4)) → k9_Ci l yX3_kept wsX3_kept rm_X3_kept G M [.int ((M 5 x4.toNatClampNeg) + x3)] rv1 M)
    (k2 : (¬ ((96 : Int32) ≤ x4)) → k9_Ci l yX3_voicesAt wsX3_voicesAt rm_X3_voicesAt G M [.ref (k9_ga G 1), .int x4, .int rv1] rv2 M)
    (l2 : (¬ ((96 : Int32) ≤ x4)) → k9_U p l e R s m args below meth c Q A G 6 0 0 (k9_st M 72 x4.toNatClampNeg rv2) 8 [(0, .ref (k9_ga G 71)), (1, .ref (k9_ga G 1)), (2, .ref (k9_ga G 57)), (3, .int x3), (4, .int (x4 + (1 : Int32)))] []) : k9_U p l e R s m args below meth c Q A G 6 0 0 M 8 [(0, .ref (k9_ga G 71)), (1, .ref (k9_ga G 1)), (2, .ref (k9_ga G 57)), (3, .int x3), (4, .int x4)] [] := by
  refine k9_iload X dX5_findBreak_8 4 rfl ?_
  refine k9_bipush (v := 96) X dX5_findBreak_10 (by decide) ?_
  refine k9_icmp_ge (tgt := 46) X dX5_findBreak_12 (by decide) (fun c1 => ?_) (fun c1 => ?_)
  · refine k9_iconst (v := 1) X dX5_findBreak_46 (by decide) ?_
    refine k9_istore (lv' := [(0, .ref (k9_ga G 71)), (1, .ref (k9_ga G 1)), (2, .ref (k9_ga G 57)), (3, .int x3), (4, .int (1 : Int32))]) X dX5_findBreak_47 (by decide) [1, 2, 3, 4, 0] rfl ?_
    refine k9_iconst (v := 0) X dX5_findBreak_49 (by decide) ?_
    refine k9_istore (lv' := [(0, .ref (k9_ga G 71)), (1, .ref (k9_ga G 1)), (2, .ref (k9_ga G 57)), (3, .int x3), (4, .int (1 : Int32)), (5, .int (0 : Int32))]) X dX5_findBreak_50 (by decide) [1, 2, 3, 4, 5, 0] rfl ?_
    refine k9_sub (lv' := [(0, .ref (k9_ga G 71)), (1, .ref (k9_ga G 1)), (2, .ref (k9_ga G 57)), (4, .int (1 : Int32)), (5, .int (0 : Int32))]) [0, 1, 2, 4, 5] rfl ?_
    exact (l1 c1)
  · refine k9_aload_n X dX5_findBreak_15 rfl 0 rfl ?_
    refine k9_gX5_0 X in_X5_findBreak_X5 fl_X5_findBreak_9 dX5_findBreak_16 ?_
    refine k9_iload X dX5_findBreak_19 4 rfl ?_
    refine k9_aload_n X dX5_findBreak_21 rfl 1 rfl ?_
    refine k9_iload X dX5_findBreak_22 4 rfl ?_
    refine k9_aload_n X dX5_findBreak_24 rfl 1 rfl ?_
    refine k9_gX3_3 (q := 1) (q1 := 5) X (by decide) (by rfl) in_X5_findBreak_X3 fl_X5_findBreak_51 dX5_findBreak_25 ?_
    refine k9_iload X dX5_findBreak_28 4 rfl ?_
    refine k9_iald X (by decide) (o1 c1) (by rfl) dX5_findBreak_30 ?_
    refine k9_iload_n X dX5_findBreak_31 rfl 3 rfl ?_
    refine k9_iadd X dX5_findBreak_32 ?_
    refine k9_callSi1 X (k1 c1)  (va_cwS 1 X.2.2.2.2.1 gX5_findBreak_X3_kept rfl rfl rfl (by decide +kernel) ⟨Nat.le_of_ble_eq_true rfl, Nat.le_of_ble_eq_true rfl⟩) (Nat.le_of_ble_eq_true rfl) dX5_findBreak_33 ⟨Nat.zero_le _, Nat.zero_le _⟩ ?_
    refine k9_callVi2 X (k2 c1) (k9_ob_P (by decide)) (cwV 2 X.2.2.2.2.1 gX5_findBreak_X3_voicesAt rfl rfl rfl (by decide +kernel) ⟨Nat.le_of_ble_eq_true rfl, Nat.le_of_ble_eq_true rfl⟩) (Nat.le_of_ble_eq_true rfl) dX5_findBreak_36 ⟨Nat.zero_le _, Nat.zero_le _⟩ ?_
    refine k9_iast X (by decide) (o1 c1) dX5_findBreak_39 ?_
    refine k9_iinc (v := x4 + (1 : Int32)) (lv' := [(0, .ref (k9_ga G 71)), (1, .ref (k9_ga G 1)), (2, .ref (k9_ga G 57)), (3, .int x3), (4, .int (x4 + (1 : Int32)))]) X dX5_findBreak_40 (k := 4) rfl (by rfl) (by decide) [1, 2, 3, 4, 0] rfl ?_
    refine k9_goto (tgt := 8) X dX5_findBreak_43 (by decide) ?_
    exact (l2 c1)

set_option maxRecDepth 20000 in
theorem bk_X5_findBreak_52 (X : k9_X p R s m args c A G 6 cX5_findBreak wsX5_findBreak RX5 rm_X5_findBreak) {x4 x5 : Int32} {mv1 : k9_Mem}
    (l1 : ((96 : Int32) ≤ x5) → k9_U p l e R s m args below meth c Q A G 6 0 0 M 126 [] [])
    (o1 : (¬ ((96 : Int32) ≤ x5)) → (x4 = 0) → vp_in x5 96)
    (l2 : (¬ ((96 : Int32) ≤ x5)) → (x4 = 0) → ((M 72 x5.toNatClampNeg) = (M 58 x5.toNatClampNeg)) → k9_U p l e R s m args below meth c Q A G 6 0 0 (k9_st M 72 x5.toNatClampNeg (M 58 x5.toNatClampNeg)) 52 [(0, .ref (k9_ga G 71)), (1, .ref (k9_ga G 1)), (2, .ref (k9_ga G 57)), (4, .int (0 : Int32)), (5, .int (x5 + (1 : Int32)))] [])
    (l3 : (¬ ((96 : Int32) ≤ x5)) → (x4 = 0) → (¬ ((M 72 x5.toNatClampNeg) = (M 58 x5.toNatClampNeg))) → k9_U p l e R s m args below meth c Q A G 6 0 0 (k9_st M 72 x5.toNatClampNeg (M 58 x5.toNatClampNeg)) 52 [(0, .ref (k9_ga G 71)), (1, .ref (k9_ga G 1)), (2, .ref (k9_ga G 57)), (4, .int (1 : Int32)), (5, .int (x5 + (1 : Int32)))] [])
    (k1 : (¬ ((96 : Int32) ≤ x5)) → (¬ (x4 = 0)) → k9_Cv l yX5_offer wsX5_offer rm_X5_offer G M [.ref (k9_ga G 71), .int x5, .ref (k9_ga G 72), .int (M 1 5), .ref (k9_ga G 6)] mv1)
    (o2 : (¬ ((96 : Int32) ≤ x5)) → (¬ (x4 = 0)) → vp_in x5 96)
    (l4 : (¬ ((96 : Int32) ≤ x5)) → (¬ (x4 = 0)) → ((mv1 72 x5.toNatClampNeg) = (mv1 58 x5.toNatClampNeg)) → k9_U p l e R s m args below meth c Q A G 6 0 0 (k9_st mv1 72 x5.toNatClampNeg (mv1 58 x5.toNatClampNeg)) 52 [(0, .ref (k9_ga G 71)), (1, .ref (k9_ga G 1)), (2, .ref (k9_ga G 57)), (4, .int (0 : Int32)), (5, .int (x5 + (1 : Int32)))] [])
    (l5 : (¬ ((96 : Int32) ≤ x5)) → (¬ (x4 = 0)) → (¬ ((mv1 72 x5.toNatClampNeg) = (mv1 58 x5.toNatClampNeg))) → k9_U p l e R s m args below meth c Q A G 6 0 0 (k9_st mv1 72 x5.toNatClampNeg (mv1 58 x5.toNatClampNeg)) 52 [(0, .ref (k9_ga G 71)), (1, .ref (k9_ga G 1)), (2, .ref (k9_ga G 57)), (4, .int (1 : Int32)), (5, .int (x5 + (1 : Int32)))] []) : k9_U p l e R s m args below meth c Q A G 6 0 0 M 52 [(0, .ref (k9_ga G 71)), (1, .ref (k9_ga G 1)), (2, .ref (k9_ga G 57)), (4, .int x4), (5, .int x5)] [] := by
  refine k9_iload X dX5_findBreak_52 4 rfl ?_
  refine k9_bipush (v := 96) X dX5_findBreak_54 (by decide) ?_
  refine k9_icmp_ge (tgt := 126) X dX5_findBreak_56 (by decide) (fun c1 => ?_) (fun c1 => ?_)
  · refine k9_sub (lv' := []) [] rfl ?_
    exact (l1 c1)
  · refine k9_iload X dX5_findBreak_59 3 rfl ?_
    refine k9_if_eq (tgt := 82) X dX5_findBreak_61 (by decide) (fun c2 => ?_) (fun c2 => ?_)
    · refine k9_aload_n X dX5_findBreak_82 rfl 0 rfl ?_
      refine k9_gX5_0 X in_X5_findBreak_X5 fl_X5_findBreak_9 dX5_findBreak_83 ?_
      refine k9_iload X dX5_findBreak_86 4 rfl ?_
      refine k9_iald X (by decide) (o1 c1 c2) (by rfl) dX5_findBreak_88 ?_
      refine k9_aload_n X dX5_findBreak_89 rfl 2 rfl ?_
      refine k9_gX1_0 X in_X5_findBreak_X1 fl_X5_findBreak_38 dX5_findBreak_90 ?_
      refine k9_iload X dX5_findBreak_93 4 rfl ?_
      refine k9_iald X (by decide) (o1 c1 c2) (by rfl) dX5_findBreak_95 ?_
      refine k9_icmp_eq (tgt := 103) X dX5_findBreak_96 (by decide) (fun c3 => ?_) (fun c3 => ?_)
      · refine k9_iconst (v := 0) X dX5_findBreak_103 (by decide) ?_
        refine k9_istore (lv' := [(0, .ref (k9_ga G 71)), (1, .ref (k9_ga G 1)), (2, .ref (k9_ga G 57)), (4, .int (0 : Int32)), (5, .int x5)]) X dX5_findBreak_104 (by decide) [1, 2, 3, 0, 4] rfl ?_
        refine k9_aload_n X dX5_findBreak_106 rfl 0 rfl ?_
        refine k9_gX5_0 X in_X5_findBreak_X5 fl_X5_findBreak_9 dX5_findBreak_107 ?_
        refine k9_iload X dX5_findBreak_110 4 rfl ?_
        refine k9_aload_n X dX5_findBreak_112 rfl 2 rfl ?_
        refine k9_gX1_0 X in_X5_findBreak_X1 fl_X5_findBreak_38 dX5_findBreak_113 ?_
        refine k9_iload X dX5_findBreak_116 4 rfl ?_
        refine k9_iald X (by decide) (o1 c1 c2) (by rfl) dX5_findBreak_118 ?_
        refine k9_iast X (by decide) (o1 c1 c2) dX5_findBreak_119 ?_
        refine k9_iinc (v := x5 + (1 : Int32)) (lv' := [(0, .ref (k9_ga G 71)), (1, .ref (k9_ga G 1)), (2, .ref (k9_ga G 57)), (4, .int (0 : Int32)), (5, .int (x5 + (1 : Int32)))]) X dX5_findBreak_120 (k := 4) rfl (by rfl) (by decide) [1, 2, 3, 4, 0] rfl ?_
        refine k9_goto (tgt := 52) X dX5_findBreak_123 (by decide) ?_
        exact (l2 c1 c2 c3)
      · refine k9_iconst (v := 1) X dX5_findBreak_99 (by decide) ?_
        refine k9_goto (tgt := 104) X dX5_findBreak_100 (by decide) ?_
        refine k9_istore (lv' := [(0, .ref (k9_ga G 71)), (1, .ref (k9_ga G 1)), (2, .ref (k9_ga G 57)), (4, .int (1 : Int32)), (5, .int x5)]) X dX5_findBreak_104 (by decide) [1, 2, 3, 0, 4] rfl ?_
        refine k9_aload_n X dX5_findBreak_106 rfl 0 rfl ?_
        refine k9_gX5_0 X in_X5_findBreak_X5 fl_X5_findBreak_9 dX5_findBreak_107 ?_
        refine k9_iload X dX5_findBreak_110 4 rfl ?_
        refine k9_aload_n X dX5_findBreak_112 rfl 2 rfl ?_
        refine k9_gX1_0 X in_X5_findBreak_X1 fl_X5_findBreak_38 dX5_findBreak_113 ?_
        refine k9_iload X dX5_findBreak_116 4 rfl ?_
        refine k9_iald X (by decide) (o1 c1 c2) (by rfl) dX5_findBreak_118 ?_
        refine k9_iast X (by decide) (o1 c1 c2) dX5_findBreak_119 ?_
        refine k9_iinc (v := x5 + (1 : Int32)) (lv' := [(0, .ref (k9_ga G 71)), (1, .ref (k9_ga G 1)), (2, .ref (k9_ga G 57)), (4, .int (1 : Int32)), (5, .int (x5 + (1 : Int32)))]) X dX5_findBreak_120 (k := 4) rfl (by rfl) (by decide) [1, 2, 3, 4, 0] rfl ?_
        refine k9_goto (tgt := 52) X dX5_findBreak_123 (by decide) ?_
        exact (l3 c1 c2 c3)
    · refine k9_aload_n X dX5_findBreak_64 rfl 0 rfl ?_
      refine k9_iload X dX5_findBreak_65 4 rfl ?_
      refine k9_aload_n X dX5_findBreak_67 rfl 0 rfl ?_
      refine k9_gX5_0 X in_X5_findBreak_X5 fl_X5_findBreak_9 dX5_findBreak_68 ?_
      refine k9_aload_n X dX5_findBreak_71 rfl 1 rfl ?_
      refine k9_gX3_5 (q := 1) X (by decide) (by rfl) in_X5_findBreak_X3 fl_X5_findBreak_41 dX5_findBreak_72 ?_
      refine k9_aload_n X dX5_findBreak_75 rfl 1 rfl ?_
      refine k9_gX3_4 (q := 1) (q1 := 6) X (by decide) (by rfl) in_X5_findBreak_X3 fl_X5_findBreak_44 dX5_findBreak_76 ?_
      refine k9_callVv4 X (k1 c1 c2) k9_ob_71 (cwV 4 X.2.2.2.2.1 gX5_findBreak_X5_offer rfl rfl rfl (by decide +kernel) ⟨Nat.le_of_ble_eq_true rfl, Nat.le_of_ble_eq_true rfl⟩) (Nat.le_of_ble_eq_true rfl) dX5_findBreak_79 ⟨Nat.zero_le _, Nat.zero_le _⟩ ?_
      refine k9_aload_n X dX5_findBreak_82 rfl 0 rfl ?_
      refine k9_gX5_0 X in_X5_findBreak_X5 fl_X5_findBreak_9 dX5_findBreak_83 ?_
      refine k9_iload X dX5_findBreak_86 4 rfl ?_
      refine k9_iald X (by decide) (o2 c1 c2) (by rfl) dX5_findBreak_88 ?_
      refine k9_aload_n X dX5_findBreak_89 rfl 2 rfl ?_
      refine k9_gX1_0 X in_X5_findBreak_X1 fl_X5_findBreak_38 dX5_findBreak_90 ?_
      refine k9_iload X dX5_findBreak_93 4 rfl ?_
      refine k9_iald X (by decide) (o2 c1 c2) (by rfl) dX5_findBreak_95 ?_
      refine k9_icmp_eq (tgt := 103) X dX5_findBreak_96 (by decide) (fun c4 => ?_) (fun c4 => ?_)
      · refine k9_iconst (v := 0) X dX5_findBreak_103 (by decide) ?_
        refine k9_istore (lv' := [(0, .ref (k9_ga G 71)), (1, .ref (k9_ga G 1)), (2, .ref (k9_ga G 57)), (4, .int (0 : Int32)), (5, .int x5)]) X dX5_findBreak_104 (by decide) [1, 2, 3, 0, 4] rfl ?_
        refine k9_aload_n X dX5_findBreak_106 rfl 0 rfl ?_
        refine k9_gX5_0 X in_X5_findBreak_X5 fl_X5_findBreak_9 dX5_findBreak_107 ?_
        refine k9_iload X dX5_findBreak_110 4 rfl ?_
        refine k9_aload_n X dX5_findBreak_112 rfl 2 rfl ?_
        refine k9_gX1_0 X in_X5_findBreak_X1 fl_X5_findBreak_38 dX5_findBreak_113 ?_
        refine k9_iload X dX5_findBreak_116 4 rfl ?_
        refine k9_iald X (by decide) (o2 c1 c2) (by rfl) dX5_findBreak_118 ?_
        refine k9_iast X (by decide) (o2 c1 c2) dX5_findBreak_119 ?_
        refine k9_iinc (v := x5 + (1 : Int32)) (lv' := [(0, .ref (k9_ga G 71)), (1, .ref (k9_ga G 1)), (2, .ref (k9_ga G 57)), (4, .int (0 : Int32)), (5, .int (x5 + (1 : Int32)))]) X dX5_findBreak_120 (k := 4) rfl (by rfl) (by decide) [1, 2, 3, 4, 0] rfl ?_
        refine k9_goto (tgt := 52) X dX5_findBreak_123 (by decide) ?_
        exact (l4 c1 c2 c4)
      · refine k9_iconst (v := 1) X dX5_findBreak_99 (by decide) ?_
        refine k9_goto (tgt := 104) X dX5_findBreak_100 (by decide) ?_
        refine k9_istore (lv' := [(0, .ref (k9_ga G 71)), (1, .ref (k9_ga G 1)), (2, .ref (k9_ga G 57)), (4, .int (1 : Int32)), (5, .int x5)]) X dX5_findBreak_104 (by decide) [1, 2, 3, 0, 4] rfl ?_
        refine k9_aload_n X dX5_findBreak_106 rfl 0 rfl ?_
        refine k9_gX5_0 X in_X5_findBreak_X5 fl_X5_findBreak_9 dX5_findBreak_107 ?_
        refine k9_iload X dX5_findBreak_110 4 rfl ?_
        refine k9_aload_n X dX5_findBreak_112 rfl 2 rfl ?_
        refine k9_gX1_0 X in_X5_findBreak_X1 fl_X5_findBreak_38 dX5_findBreak_113 ?_
        refine k9_iload X dX5_findBreak_116 4 rfl ?_
        refine k9_iald X (by decide) (o2 c1 c2) (by rfl) dX5_findBreak_118 ?_
        refine k9_iast X (by decide) (o2 c1 c2) dX5_findBreak_119 ?_
        refine k9_iinc (v := x5 + (1 : Int32)) (lv' := [(0, .ref (k9_ga G 71)), (1, .ref (k9_ga G 1)), (2, .ref (k9_ga G 57)), (4, .int (1 : Int32)), (5, .int (x5 + (1 : Int32)))]) X dX5_findBreak_120 (k := 4) rfl (by rfl) (by decide) [1, 2, 3, 4, 0] rfl ?_
        refine k9_goto (tgt := 52) X dX5_findBreak_123 (by decide) ?_
        exact (l5 c1 c2 c4)

theorem in_X5_offer_X5 : ∀ w ∈ u_ws RX5 TX5 4, w ∈ wsX5_offer := by decide +kernel
theorem fl_X5_offer_18 : Cond.fieldLink RX5 18 (TX5 1).1 (TX5 1).2.1 (TX5 1).2.2.1 ∈ wsX5_offer := by decide +kernel
theorem fl_X5_offer_26 : Cond.fieldLink RX5 26 (TX5 3).1 (TX5 3).2.1 (TX5 3).2.2.1 ∈ wsX5_offer := by decide +kernel
theorem fl_X5_offer_22 : Cond.fieldLink RX5 22 (TX5 2).1 (TX5 2).2.1 (TX5 2).2.2.1 ∈ wsX5_offer := by decide +kernel
set_option maxRecDepth 20000 in
theorem bk_X5_offer_0 (X : k9_X p R s m args c A G 6 cX5_offer wsX5_offer RX5 rm_X5_offer) {k : Nat} (hk : k9_ar k 96) {a0 a2 : Int32} {mv1 : k9_Mem} {rv2 : Int32}
    (k1 : k9_Cv l yX0_link wsX0_link rm_X0_link G M [.ref (k9_ga G 73), .ref (k9_ga G k), .int a2] mv1)
    (k2 : k9_Ci l yX0_sameNotes wsX0_sameNotes rm_X0_sameNotes G mv1 [.ref (k9_ga G 73), .ref (k9_ga G 6)] rv2 mv1)
    (l1 : (rv2 ≤ (mv1 71 3)) → k9_U p l e R s m args below meth c Q A G 6 0 0 mv1 40 [] [])
    (l2 : (¬ (rv2 ≤ (mv1 71 3))) → k9_U p l e R s m args below meth c Q A G 6 0 0 (k9_st (k9_st mv1 71 3 rv2) 71 2 a0) 40 [] []) : k9_U p l e R s m args below meth c Q A G 6 0 0 M 0 [(0, .ref (k9_ga G 71)), (1, .int a0), (2, .ref (k9_ga G k)), (3, .int a2), (4, .ref (k9_ga G 6))] [] := by
  refine k9_aload_n X dX5_offer_0 rfl 0 rfl ?_
  refine k9_gX5_1 X in_X5_offer_X5 fl_X5_offer_18 dX5_offer_1 ?_
  refine k9_aload_n X dX5_offer_4 rfl 2 rfl ?_
  refine k9_iload_n X dX5_offer_5 rfl 3 rfl ?_
  refine k9_callVv2 X k1 (k9_ob_C (by decide)) (cwV 2 X.2.2.2.2.1 gX5_offer_X0_link rfl rfl rfl (by decide +kernel) ⟨Nat.le_of_ble_eq_true rfl, Nat.le_of_ble_eq_true rfl⟩) (Nat.le_of_ble_eq_true rfl) dX5_offer_6 ⟨Nat.zero_le _, Nat.zero_le _⟩ ?_
  refine k9_aload_n X dX5_offer_9 rfl 0 rfl ?_
  refine k9_gX5_1 X in_X5_offer_X5 fl_X5_offer_18 dX5_offer_10 ?_
  refine k9_aload X dX5_offer_13 4 rfl ?_
  refine k9_callVi1 X k2 (k9_ob_C (by decide)) (cwV 1 X.2.2.2.2.1 gX5_offer_X0_sameNotes rfl rfl rfl (by decide +kernel) ⟨Nat.le_of_ble_eq_true rfl, Nat.le_of_ble_eq_true rfl⟩) (Nat.le_of_ble_eq_true rfl) dX5_offer_15 ⟨Nat.zero_le _, Nat.zero_le _⟩ ?_
  refine k9_istore (lv' := [(0, .ref (k9_ga G 71)), (1, .int a0), (2, .ref (k9_ga G k)), (3, .int a2), (4, .ref (k9_ga G 6)), (5, .int rv2)]) X dX5_offer_18 (by decide) [1, 2, 3, 4, 5, 0] rfl ?_
  refine k9_iload X dX5_offer_20 5 rfl ?_
  refine k9_aload_n X dX5_offer_22 rfl 0 rfl ?_
  refine k9_gX5_3 X (by rfl) in_X5_offer_X5 fl_X5_offer_26 dX5_offer_23 ?_
  refine k9_icmp_le (tgt := 40) X dX5_offer_26 (by decide) (fun c1 => ?_) (fun c1 => ?_)
  · refine k9_sub (lv' := []) [] rfl ?_
    exact (l1 c1)
  · refine k9_aload_n X dX5_offer_29 rfl 0 rfl ?_
    refine k9_iload X dX5_offer_30 5 rfl ?_
    refine k9_pX5_3 X in_X5_offer_X5 fl_X5_offer_26 dX5_offer_32 ?_
    refine k9_aload_n X dX5_offer_35 rfl 0 rfl ?_
    refine k9_iload_n X dX5_offer_36 rfl 1 rfl ?_
    refine k9_pX5_2 X in_X5_offer_X5 fl_X5_offer_22 dX5_offer_37 ?_
    refine k9_sub (lv' := []) [] rfl ?_
    exact (l2 c1)

end BK
