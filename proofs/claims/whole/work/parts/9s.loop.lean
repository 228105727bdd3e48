/-! The law's loop. -/
set_option maxRecDepth 20000 in
theorem law_loop {p : Program} {l : Launch} {e : Env} {s : State} {m : MethodId} {args : Array Value} {below : List Frame} {meth : Method} {c : Code} {Q : State → Prop} {A : Nat → Prop} {G : k9_G} {b L : Nat} {xs : Nat → Int32} (hl : l.stackTraces = false) (X : k9_X p room_1 s m args c A G 9 cL_law wsL_law RL room_1) (hX : va_X b L xs s s.heap) (hbl : b < s.heap.size) (hbA : ¬ A b) (hL : L ≤ 2048)
    (HR : ∀ (G2 : k9_G) (M2 : k9_Mem) (cells slots : Nat) (lv : List (Nat × Value)), cells ≤ 601024 → slots ≤ 7293034 → k9_U p l e room_1 s m args below meth c Q A G2 9 cells slots M2 1534 lv [.int 1]) :
    ∀ t, t ≤ L / 4 → ∀ (v : Nat) (M : k9_Mem), (∃ B R F U, q9_rel M B R F U) → k9_U p l e room_1 s m args below meth c Q A (k9_gv G v) 9 (90 + 4 * t) (12660 + 24 * t) M 23 (lw_lv G b (4 * t)) [] := by
  refine m9_down (L / 4) (fun t ht next => ?_)
  intro v M hrel
  have X2 : k9_X p room_1 s m args c A (k9_gv G v) 9 cL_law wsL_law RL room_1 := X
  refine k9_iload X2 dL_law_23 4 rfl ?_
  refine k9_aload_n X2 dL_law_25 rfl 0 rfl ?_
  refine k9_slen X2 hX hbl hbA dL_law_26 ?_
  refine k9_iconst (v := nI 4) X2 dL_law_27 (by decide) ?_
  refine k9_isub X2 dL_law_28 ?_
  refine k9_icmp_gt (tgt := 1533) X2 dL_law_29 (by decide) (fun c1 => ?_) (fun c1 => ?_)
  · refine k9_iconst (v := 1) X2 dL_law_1533 (by decide) ?_
    exact HR _ _ _ _ _ (by omega) (by omega)
  · have h4 : 4 * t + 4 ≤ L := by
      have h1 : (nI L - nI 4).toInt = (L : Int) - 4 := pk_sub_toInt (by omega) (by decide)
      rw [fa_lt, h1, nI_toInt (by omega)] at c1
      omega
    have go : t < L / 4 := by omega
    refine k9_aload_n X2 dL_law_32 rfl 0 rfl ?_
    refine k9_iload X2 dL_law_33 4 rfl ?_
    refine k9_sld X2 hX hbl hbA (j := 4 * t) rfl (by omega) hL dL_law_35 ?_
    refine k9_bipush (v := 31) X2 dL_law_36 (by decide) ?_
    refine k9_iand X2 dL_law_38 ?_
    have K : ∀ (v2 : Nat) (M2 : k9_Mem), (∃ B R F U, q9_rel M2 B R F U) → k9_U p l e room_1 s m args below meth c Q A (k9_gv (k9_gv G v) v2) 9 (90 + 4 * t + 4) (12660 + 24 * t + 24) M2 1527 (lw_lv (k9_gv G v) b (4 * t)) [] := by
      intro v2 M2 h2
      rw [k9_gv2]
      have X3 : k9_X p room_1 s m args c A (k9_gv G v2) 9 cL_law wsL_law RL room_1 := X
      refine k9_iinc (i := 4) (k := 4) (v := nI (4 * (t + 1))) X3 dL_law_1527 rfl (nI_add (4 * t) 4) (by decide) [1, 2, 3, 4, 0] rfl ?_
      refine k9_goto (tgt := 23) X3 dL_law_1530 (by decide) ?_
      exact next go v2 M2 h2
    have hrm : 90 + 4 * t + 4 ≤ 601024 ∧ 12660 + 24 * t + 24 ≤ 7293034 := ⟨by omega, by omega⟩
    have hK0 := K (k9_ga (k9_gv G v) 90) M hrel
    rw [k9_gv_self] at hK0
    obtain ⟨B, R, F, U, h⟩ := hrel
    obtain ⟨z, hz⟩ : ∃ z, z = xs (4 * t) &&& (31 : Int32) := ⟨_, rfl⟩
    rw [← hz]
    by_cases c0 : z = 0
    · exact k9_tswIn (tgt := 152) X2 dL_law_39 0 c0 (by decide) (by decide) rfl (by decide) (lb_punch X2 hX hbl hbA h4 hL hrm (op_punch hl h (xs (4 * t + 1)) (xs (4 * t + 2)) (xs (4 * t + 3))) K)
    by_cases c1 : z = 1
    · exact k9_tswIn (tgt := 232) X2 dL_law_39 1 c1 (by decide) (by decide) rfl (by decide) (lb_patch X2 hX hbl hbA h4 hL hrm (op_patch hl h (xs (4 * t + 1)) (xs (4 * t + 2)) (xs (4 * t + 3))) K)
    by_cases c2 : z = 2
    · exact k9_tswIn (tgt := 312) X2 dL_law_39 2 c2 (by decide) (by decide) rfl (by decide) (lb_peel X2 hX hbl hbA h4 hL hrm (op_peel hl h (xs (4 * t + 1)) (xs (4 * t + 2)) (xs (4 * t + 3))) K)
    by_cases c3 : z = 3
    · exact k9_tswIn (tgt := 392) X2 dL_law_39 3 c3 (by decide) (by decide) rfl (by decide) (lb_shift X2 hX hbl hbA h4 hL hrm (op_shift hl h (xs (4 * t + 1))) K)
    by_cases c4 : z = 4
    · exact k9_tswIn (tgt := 448) X2 dL_law_39 4 c4 (by decide) (by decide) rfl (by decide) (lb_tear X2 hX hbl hbA h4 hL hrm (op_tear hl h (xs (4 * t + 1)) (xs (4 * t + 2)) (xs (4 * t + 3))) K)
    by_cases c5 : z = 5
    · exact k9_tswIn (tgt := 528) X2 dL_law_39 5 c5 (by decide) (by decide) rfl (by decide) (lb_steer X2 hX hbl hbA h4 hL hrm (op_steer hl h (xs (4 * t + 1)) (xs (4 * t + 2)) (xs (4 * t + 3))) K)
    by_cases c6 : z = 6
    · exact k9_tswIn (tgt := 608) X2 dL_law_39 6 c6 (by decide) (by decide) rfl (by decide) (lb_set X2 hX hbl hbA h4 hL hrm (op_set hl h (xs (4 * t + 1)) (xs (4 * t + 2))) K)
    by_cases c7 : z = 7
    · exact k9_tswIn (tgt := 676) X2 dL_law_39 7 c7 (by decide) (by decide) rfl (by decide) (lb_learn X2 hrm (op_learn h) K)
    by_cases c8 : z = 8
    · exact k9_tswIn (tgt := 689) X2 dL_law_39 8 c8 (by decide) (by decide) rfl (by decide) (lb_append X2 hX hbl hbA h4 hL hrm (op_append hl h (xs (4 * t + 1))) K)
    by_cases c9 : z = 9
    · exact k9_tswIn (tgt := 745) X2 dL_law_39 9 c9 (by decide) (by decide) rfl (by decide) (lb_clearBuffer X2 hrm (op_clear h) K)
    by_cases c10 : z = 10
    · exact k9_tswIn (tgt := 758) X2 dL_law_39 10 c10 (by decide) (by decide) rfl (by decide) (lb_firstError X2 hrm (op_first h) K)
    by_cases c11 : z = 11
    · obtain ⟨mx, hp⟩ := op_punchAll hl h
      exact k9_tswIn (tgt := 771) X2 dL_law_39 11 c11 (by decide) (by decide) rfl (by decide) (lb_punchAll X2 hX hbl hbA h4 hL hrm hp K)
    by_cases c12 : z = 12
    · exact k9_tswIn (tgt := 815) X2 dL_law_39 12 c12 (by decide) (by decide) rfl (by decide) (lb_undo X2 hX hbl hbA h4 hL hrm (op_undo hl h) K)
    by_cases c13 : z = 13
    · exact k9_tswIn (tgt := 859) X2 dL_law_39 13 c13 (by decide) (by decide) rfl (by decide) (lb_place X2 hX hbl hbA h4 hL hrm (op_place hl h (xs (4 * t + 1)) (xs (4 * t + 2)) (xs (4 * t + 3))) K)
    by_cases c14 : z = 14
    · exact k9_tswIn (tgt := 939) X2 dL_law_39 14 c14 (by decide) (by decide) rfl (by decide) (lb_step X2 hX hbl hbA h4 hL hrm (op_step hl h (xs (4 * t + 1)) (xs (4 * t + 2))) K)
    by_cases c15 : z = 15
    · exact k9_tswIn (tgt := 1007) X2 dL_law_39 15 c15 (by decide) (by decide) rfl (by decide) (lb_played X2 hX hbl hbA h4 hL hrm (op_played hl h (xs (4 * t + 1)) (xs (4 * t + 2))) K)
    by_cases c16 : z = 16
    · exact k9_tswIn (tgt := 1075) X2 dL_law_39 16 c16 (by decide) (by decide) rfl (by decide) (lb_tune X2 hX hbl hbA h4 hL hrm (op_tune hl h (xs (4 * t + 1)) (xs (4 * t + 2))) K)
    by_cases c17 : z = 17
    · exact k9_tswIn (tgt := 1143) X2 dL_law_39 17 c17 (by decide) (by decide) rfl (by decide) (lb_count X2 hX hbl hbA h4 hL hrm (op_count hl h (xs (4 * t + 1))) K)
    by_cases c18 : z = 18
    · exact k9_tswIn (tgt := 1199) X2 dL_law_39 18 c18 (by decide) (by decide) rfl (by decide) (lb_setting X2 hX hbl hbA h4 hL hrm (op_setting hl h (xs (4 * t + 1))) K)
    by_cases c19 : z = 19
    · exact k9_tswIn (tgt := 1255) X2 dL_law_39 19 c19 (by decide) (by decide) rfl (by decide) (lb_bestSteer X2 hX hbl hbA h4 hL hrm (op_bestSteer hl h (xs (4 * t + 1)) (xs (4 * t + 2)) (xs (4 * t + 3))) K)
    by_cases c20 : z = 20
    · exact k9_tswIn (tgt := 1335) X2 dL_law_39 20 c20 (by decide) (by decide) rfl (by decide) (lb_bestBridge X2 hrm (op_bestBridge h) K)
    by_cases c21 : z = 21
    · exact k9_tswIn (tgt := 1348) X2 dL_law_39 21 c21 (by decide) (by decide) rfl (by decide) (lb_bestBreak X2 hX hbl hbA h4 hL hrm (op_bestBreak hl h (xs (4 * t + 1)) (xs (4 * t + 2))) K)
    by_cases c22 : z = 22
    · exact k9_tswIn (tgt := 1416) X2 dL_law_39 22 c22 (by decide) (by decide) rfl (by decide) (lb_holesFor X2 hX hbl hbA h4 hL hrm (op_holesFor hl h (xs (4 * t + 1))) K)
    by_cases c23 : z = 23
    · exact k9_tswIn (tgt := 1472) X2 dL_law_39 23 c23 (by decide) (by decide) rfl (by decide) (lb_tuneShare X2 hrm (op_share h) K)
    by_cases c24 : z = 24
    · exact k9_tswIn (tgt := 1513) X2 dL_law_39 24 c24 (by decide) (by decide) rfl (by decide) (lb_digest X2 hrm (op_digest h) K)
    refine k9_tswOut (tgt := 1527) X2 dL_law_39 (k9_swOut 25 (by decide) (fun j hj => ?_)) rfl (by decide) (k9_widen (by omega) (by omega) hK0)
    match j, hj with
    | 0, _ => exact c0
    | 1, _ => exact c1
    | 2, _ => exact c2
    | 3, _ => exact c3
    | 4, _ => exact c4
    | 5, _ => exact c5
    | 6, _ => exact c6
    | 7, _ => exact c7
    | 8, _ => exact c8
    | 9, _ => exact c9
    | 10, _ => exact c10
    | 11, _ => exact c11
    | 12, _ => exact c12
    | 13, _ => exact c13
    | 14, _ => exact c14
    | 15, _ => exact c15
    | 16, _ => exact c16
    | 17, _ => exact c17
    | 18, _ => exact c18
    | 19, _ => exact c19
    | 20, _ => exact c20
    | 21, _ => exact c21
    | 22, _ => exact c22
    | 23, _ => exact c23
    | 24, _ => exact c24
    | k + 25, hk => exact absurd hk (by omega)
