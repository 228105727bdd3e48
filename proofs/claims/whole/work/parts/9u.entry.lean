/-! The entry: what the start gives. -/
theorem en_eqi {args : Array Value} {s : State} {T : Term} {z : Int32} (h : (Cond.eq T (.int z)).before args s = true) : T.eval args s none [] s = some (.int z) := by
  cases hv : T.eval args s none [] s with
  | none => simp [Cond.before, Cond.holds, Cond.value, hv] at h
  | some w =>
    have hz : (Term.int z).eval args s none [] s = some (.int z) := rfl
    simp only [Cond.before, Cond.holds, Cond.value, hv, hz] at h
    cases w <;> simp_all
abbrev en_T : Term := .static "RollPunch$Trial" "NEAREST_FIRST" "[I"
set_option maxRecDepth 100000 in
theorem en_n1 : Cond.arrayOf en_T .int ∈ flatC (Jvm.Cond.and given_1 narrow_1) := by decide +kernel
set_option maxRecDepth 100000 in
theorem en_n2 : Cond.eq (.length en_T) (.int 7) ∈ flatC (Jvm.Cond.and given_1 narrow_1) := by decide +kernel
set_option maxRecDepth 100000 in
theorem en_n3 : ∀ q ∈ [((0 : Int32), (0 : Int32)), (1, -1), (2, 1), (3, -2), (4, 2), (5, -3), (6, 3)], Cond.eq (.elem en_T (.int q.1)) (.int q.2) ∈ flatC (Jvm.Cond.and given_1 narrow_1) := by decide +kernel
set_option maxRecDepth 100000 in
theorem en_n4 : Cond.isRef (.static Bundle.tN "UNASSIGNED_STACK" Bundle.steD) ∈ flatC (Jvm.Cond.and given_1 narrow_1) ∧ Cond.isRef (.static Bundle.tN "SUPPRESSED_SENTINEL" Bundle.listD) ∈ flatC (Jvm.Cond.and given_1 narrow_1) := by decide +kernel
set_option maxRecDepth 100000 in
theorem en_n5 : ∀ q ∈ k9_nc, Cond.not (.castable q.1 q.2) ∈ flatC (Jvm.Cond.and given_1 narrow_1) := by decide +kernel
set_option maxRecDepth 100000 in
theorem en_t1 : ∀ q ∈ g9_nest, Cond.methodLinkNest q.1 q.2.1 q.2.2.1 q.2.2.2 ∈ lw_tbl := by decide +kernel
set_option maxRecDepth 100000 in
theorem en_t2 : ∀ q ∈ k9_nest, Cond.methodLinkNest q.1 q.2.1 q.2.2.1 q.2.2.2 ∈ lw_tbl := by decide +kernel
set_option maxRecDepth 100000 in
theorem en_t3 : ∀ q ∈ k9_strs, Cond.stringRef q.1 q.2.1 q.2.2 ∈ lw_tbl := by decide +kernel
set_option maxRecDepth 100000 in
theorem en_t4 : ∀ q ∈ k9_cast, Cond.castable q q ∈ lw_tbl := by decide +kernel
set_option maxRecDepth 100000 in
theorem en_t5 : ∀ q ∈ k9_decl, Cond.declares (Bundle.initS q) ∈ lw_tbl := by decide +kernel
set_option maxRecDepth 100000 in
theorem en_t6 : Cond.laysStatic "RollPunch$Trial" "NEAREST_FIRST" "[I" ∈ lw_tbl ∧ Cond.laysStatic Bundle.tN "UNASSIGNED_STACK" Bundle.steD ∈ lw_tbl ∧ Cond.laysStatic Bundle.tN "SUPPRESSED_SENTINEL" Bundle.listD ∈ lw_tbl ∧ Cond.initialized "RollPunch$Trial" ∈ lw_tbl ∧ Cond.initialized Bundle.tN ∈ lw_tbl ∧ Cond.initialized RX6 ∈ lw_tbl := by decide +kernel
set_option maxRecDepth 100000 in
theorem en_t7 : Cond.arrayClass .int ∈ lw_tbl ∧ Cond.arrayClass .long ∈ lw_tbl ∧ Cond.arrayOver (.object "RollPunch$Paper") ∈ lw_tbl := by decide +kernel
set_option maxRecDepth 100000 in
theorem en_t8 : Cond.instantiable RX0 2 ∈ lw_tbl ∧ Cond.instantiable RX1 4 ∈ lw_tbl ∧ Cond.instantiable RX2 10 ∈ lw_tbl ∧ Cond.instantiable RX3 7 ∈ lw_tbl ∧ Cond.instantiable RX4 2 ∈ lw_tbl ∧ Cond.instantiable RX5 4 ∈ lw_tbl ∧ Cond.instantiable RX6 5 ∈ lw_tbl ∧ Cond.instantiable RX7 19 ∈ lw_tbl := by decide +kernel
set_option maxRecDepth 100000 in
theorem en_t9 : Cond.classLink RL 8 RX6 ∈ wsL_law ∧ Cond.instantiable RX6 5 ∈ wsL_law ∧ Cond.initialized RX6 ∈ wsL_law ∧ Cond.instanceMethod yX6_init ∈ wsL_law ∧ Cond.methodLink RL 76 yX6_init ∈ wsL_law ∧ Cond.classLink RL 77 RX7 ∈ wsL_law ∧ Cond.instantiable RX7 19 ∈ wsL_law ∧ Cond.initialized RX7 ∈ wsL_law ∧ Cond.instanceMethod yX7_init ∈ wsL_law ∧ Cond.methodLink RL 79 yX7_init ∈ wsL_law ∧ Cond.arrayClass .long ∈ wsL_law := by decide +kernel
/-- the classes -/
theorem en_cls {args : Array Value} {s : State} (hts : ∀ w ∈ lw_tbl, w.before args s = true) : ∃ D : va_G, ∀ (c : Nat) (q : vw_C), vwCl[c]? = some q → u_Kn s q.1 q.2.1 q.2.2 (D.1 c) (D.2 c) := by
  obtain ⟨i0, i1, i2, i3, i4, i5, i6, i7⟩ := en_t8
  obtain ⟨c0, s0, k0⟩ := u_known (C := RX0) (T := TX0) (N := 2) (n := 2) hts inX0 (hts _ i0)
  obtain ⟨c1, s1, k1⟩ := u_known (C := RX1) (T := TX1) (N := 4) (n := 4) hts inX1 (hts _ i1)
  obtain ⟨c2, s2, k2⟩ := u_known (C := RX2) (T := TX2) (N := 10) (n := 10) hts inX2 (hts _ i2)
  obtain ⟨c3, s3, k3⟩ := u_known (C := RX3) (T := TX3) (N := 7) (n := 7) hts inX3 (hts _ i3)
  obtain ⟨c4, s4, k4⟩ := u_known (C := RX4) (T := TX4) (N := 2) (n := 2) hts inX4 (hts _ i4)
  obtain ⟨c5, s5, k5⟩ := u_known (C := RX5) (T := TX5) (N := 4) (n := 4) hts inX5 (hts _ i5)
  obtain ⟨c6, s6, k6⟩ := u_known (C := RX6) (T := TX6) (N := 5) (n := 5) hts inX6 (hts _ i6)
  obtain ⟨c7, s7, k7⟩ := u_known (C := RX7) (T := TX7) (N := 19) (n := 19) hts inX7 (hts _ i7)
  refine ⟨(fun k => [c0, c1, c2, c3, c4, c5, c6, c7].getD k c0, fun k => [s0, s1, s2, s3, s4, s5, s6, s7].getD k s0), fun c q hq => ?_⟩
  match c, hq with
  | 0, hq => cases hq; exact k0
  | 1, hq => cases hq; exact k1
  | 2, hq => cases hq; exact k2
  | 3, hq => cases hq; exact k3
  | 4, hq => cases hq; exact k4
  | 5, hq => cases hq; exact k5
  | 6, hq => cases hq; exact k6
  | 7, hq => cases hq; exact k7
  | c + 8, hq => simp [vwCl] at hq
/-- the rows' classes -/
theorem en_rows {args : Array Value} {s : State} (hts : ∀ w ∈ lw_tbl, w.before args s = true) : ∃ t : g9_T, ∀ (k : Nat) (q : ClassId × FieldType), (g9_ty t)[k]? = some q → ArrOfT s q.1 q.2 ∧ va_RA s q.1 q.2 := by
  obtain ⟨a1, a2, a3⟩ := en_t7
  obtain ⟨cI, kI, compI, i1, i2, i3⟩ := Cond.arrayClass_spec (hts _ a1)
  obtain ⟨cL, kL, compL, l1, l2, l3⟩ := Cond.arrayClass_spec (hts _ a2)
  obtain ⟨comp, cP, kP, p1, p2, p3, p4, p5⟩ := Cond.arrayOver_spec (hts _ a3)
  refine ⟨(cI, cP, cL), fun k q hq => ?_⟩
  match k, hq with
  | 0, hq =>
    cases hq
    exact ⟨fun n z => ⟨fun k h => (by cases h), kI, i2, compI, i3⟩, i1⟩
  | 1, hq =>
    cases hq
    exact ⟨fun n z => ⟨fun k h => (by cases h), kP, p3, comp, p4⟩, kP, comp, p3, p4, p1, p5⟩
  | 2, hq =>
    cases hq
    exact ⟨fun n z => ⟨fun k h => (by cases h), kL, l2, compL, l3⟩, l1⟩
  | k + 3, hq => simp [g9_ty] at hq
theorem en_N {args : Array Value} {s : State} (hts : ∀ w ∈ lw_tbl, w.before args s = true) : g9_N s := ⟨fun q hq => va_Nw.of rfl (hts _ (en_t1 q hq)), va_AO.of (hts _ en_t7.2.2)⟩
/-- the statics, the strings, the links -/
theorem en_SK {args : Array Value} {s : State} (hts : ∀ w ∈ lw_tbl, w.before args s = true) (hgv : (Jvm.Cond.and given_1 narrow_1).before args s = true) : ∃ tn : Nat, ∀ (D : va_G) (ad : Nat → Nat) (a b c : ClassId), k9_SK (D, ad, a, b, c, tn) (fun q : Nat => s.heap.size ≤ q) s s.heap := by
  have hs := flat_of_before _ hgv
  have hA : ∀ a : Nat, a < s.heap.size → ¬ (fun q : Nat => s.heap.size ≤ q) a := fun a h => Nat.not_le.mpr h
  obtain ⟨t1, t2, t3, t4, t5, t6⟩ := en_t6
  have hel : ∀ j : Nat, j < 7 → (Term.elem en_T (.int (Int32.ofNat j))).eval args s none [] s = some (k9_nf j) := by
    intro j hj
    match j, hj with
    | 0, _ => exact en_eqi (hs _ (en_n3 (0, 0) (by decide)))
    | 1, _ => exact en_eqi (hs _ (en_n3 (1, -1) (by decide)))
    | 2, _ => exact en_eqi (hs _ (en_n3 (2, 1) (by decide)))
    | 3, _ => exact en_eqi (hs _ (en_n3 (3, -2) (by decide)))
    | 4, _ => exact en_eqi (hs _ (en_n3 (4, 2) (by decide)))
    | 5, _ => exact en_eqi (hs _ (en_n3 (5, -3) (by decide)))
    | 6, _ => exact en_eqi (hs _ (en_n3 (6, 3) (by decide)))
    | j + 7, h => exact absurd h (by omega)
  obtain ⟨tn, hv, hT⟩ := va_Tof (tm := en_T) (ty := .int) (N := 7) (f := k9_nf) (A := fun q : Nat => s.heap.size ≤ q) (by decide) (hs _ en_n1) (en_eqi (hs _ en_n2)) hel hA
  refine ⟨tn, fun D ad a b c => ⟨va_Zof (hts _ t1) (hts _ t4) hv hA, hT, vx_Zqof (hts _ t2) (hts _ t5) (hs _ en_n4.1) hA, vx_Zqof (hts _ t3) (hts _ t5) (hs _ en_n4.2) hA, fun q hq => ?_, fun q hq => va_Nw.of rfl (hts _ (en_t2 q hq)), fun q hq => va_Nc.of (hs _ (en_n5 q hq)), fun q hq => va_Nw.of rfl (hts _ (en_t4 q hq)), fun q hq => va_Nw.of rfl (hts _ (en_t5 q hq))⟩⟩
  have hown : ∀ q ∈ k9_strs, q.1 = RX6 := by decide +kernel
  obtain ⟨cC, kC, hfc, -⟩ := Cond.instantiable_spec (hts _ en_t8.2.2.2.2.2.2.1)
  have h1 := hts _ (en_t3 q hq)
  have hfc2 : s.vm.findClass q.1 = some cC := by rw [hown q hq]; exact hfc
  obtain ⟨k, cf, i, sa, -, -, -, -, -, hev⟩ := Cond.stringRef_spec hfc2 h1
  exact ⟨sa, vk_R.of h1 hev⟩
