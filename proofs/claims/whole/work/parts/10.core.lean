/-! The core: the whole system (class, reference, the law's long row) as ONE world of 90 cells with fixed places; its numbers are a memory M : cell → place → Int32. -/
abbrev k9_Mem : Type := Nat → Nat → Int32
def k9_sc (M : k9_Mem) (k : Nat) (f : Nat → Int32) : k9_Mem := fun a => if a = k then f else M a
def k9_st (M : k9_Mem) (k j : Nat) (v : Int32) : k9_Mem := k9_sc M k (upd (M k) j v)
theorem k9_sc_eq (M : k9_Mem) (k : Nat) (f : Nat → Int32) : k9_sc M k f k = f := if_pos rfl
theorem k9_sc_ne (M : k9_Mem) {k a : Nat} (f : Nat → Int32) (h : a ≠ k) : k9_sc M k f a = M a := if_neg h
/-- a long number in two places -/
def k9_lg (f : Nat → Int32) : Int64 := Int64.ofBitVec ((f 0).toBitVec ++ (f 1).toBitVec)
def k9_gl (x : Int64) : Nat → Int32 := fun j => if j = 0 then Int32.ofBitVec (x.toBitVec.extractLsb' 32 32) else Int32.ofBitVec (x.toBitVec.extractLsb' 0 32)
abbrev k9_G : Type := va_G × (Nat → Nat) × ClassId × ClassId × ClassId × Nat
def k9_ga (G : k9_G) (k : Nat) : Nat := G.2.1 k
/-- how long the int rows are; 0: the cell is none -/
def k9_len : List Nat := [0, 0,96,96,96,96,0,96,96, 0,96,96,96,96,0,96,96, 0,96,96,96,96,0,96,96, 0,96,96,96,96,0,96,96, 0,96,96,96,96,0,96,96, 0,96,96,96,96,0,96,96, 0,96,96,96,96,0,96,96,
  0,96,0,96,96,96,96, 0,0, 0,60,60,60,60, 0,96,0,96,96, 0,578,3468,60,96,96,96,96,960,960,960,36,96, 0]
def k9_arL (k : Nat) : Nat := k9_len.getD k 0
def k9_pc (x : Int32) : Nat := 1 + 8 * x.toNatClampNeg
def k9_chO (G : k9_G) (k : Nat) : va_E := .inr (0, [.ref (k9_ga G (k + 1)), .ref (k9_ga G (k + 2))])
def k9_paO (G : k9_G) (f : Nat → Int32) (k : Nat) : va_E := .inr (3, [.ref (k9_ga G (k + 1)), .ref (k9_ga G (k + 2)), .ref (k9_ga G (k + 3)), .ref (k9_ga G (k + 4)), .ref (k9_ga G (k + 5)), .int (f 5), .int (f 6)])
def k9_obj (G : k9_G) (f : Nat → Int32) (k : Nat) : va_E :=
  if k = 0 then .inr (6, [.ref (k9_ga G 1), .ref (k9_ga G 57), .ref (k9_ga G 64), .ref (k9_ga G 66), .ref (k9_ga G 71)])
  else if k = 59 ∨ k = 73 ∨ (k < 57 ∧ k % 8 = 6) then k9_chO G k
  else if k < 57 then k9_paO G f k
  else if k = 57 then .inr (1, [.ref (k9_ga G 58), .ref (k9_ga G 59), .ref (k9_ga G 62), .ref (k9_ga G 63)])
  else if k = 64 then .inr (4, [.ref (k9_ga G 65), .int (f 1)])
  else if k = 65 then .inl (G.2.2.2.1, 6, .inr (.inr (.inr (.inr (fun j => some (k9_ga G (k9_pc (f j))))))))
  else if k = 66 then .inr (2, [.ref (k9_ga G 67), .int (f 1), .ref (k9_ga G 68), .ref (k9_ga G 69), .ref (k9_ga G 70), .int (f 5), .int (f 6), .int (f 7), .int (f 8), .int (f 9)])
  else if k = 71 then .inr (5, [.ref (k9_ga G 72), .ref (k9_ga G 73), .int (f 2), .int (f 3)])
  else if k = 76 then .inr (7, [.ref (k9_ga G 77), .int (f 1), .ref (k9_ga G 78), .int (f 3), .ref (k9_ga G 79), .int (f 5), .ref (k9_ga G 80), .ref (k9_ga G 81), .ref (k9_ga G 82), .ref (k9_ga G 83), .ref (k9_ga G 84), .ref (k9_ga G 85), .ref (k9_ga G 86), .int (f 13), .ref (k9_ga G 87), .int (f 15), .int (f 16), .ref (k9_ga G 88), .long (k9_lg (fun j => f (18 + j)))])
  else .inl (G.2.2.2.2.1, 1, .inr (.inl (fun j => if j = 0 then Int64.ofBitVec (BitVec.ofNat 64 (k9_ga G 90)) else 0)))
def k9_ce (G : k9_G) (f : Nat → Int32) (k : Nat) : va_E := if k9_arL k = 0 then k9_obj G f k else .inl (G.2.2.1, k9_arL k, .inl f)
def k9_wl (G : k9_G) (M : k9_Mem) : va_W := (List.range 90).map fun k => (k9_ga G k, k9_ce G (M k) k)
def k9_tys (G : k9_G) : List (ClassId × FieldType) := [(G.2.2.1, .int), (G.2.2.2.1, .object "RollPunch$Paper"), (G.2.2.2.2.1, .long)]
theorem k9_wl_get (G : k9_G) (M : k9_Mem) {k : Nat} (h : k < 90) : (k9_wl G M)[k]? = some (k9_ga G k, k9_ce G (M k) k) := by
  unfold k9_wl
  rw [List.getElem?_map, List.getElem?_range h]
  rfl
theorem k9_wl_set (G : k9_G) (M : k9_Mem) {k : Nat} (f : Nat → Int32) : (k9_wl G M).set k (k9_ga G k, k9_ce G f k) = k9_wl G (k9_sc M k f) := by
  apply List.ext_getElem?
  intro i
  by_cases hi : i < 90
  · rw [k9_wl_get G _ hi]
    by_cases hk : k = i
    · subst hk
      rw [List.getElem?_set_self (by unfold k9_wl; simp; exact hi), k9_sc_eq]
    · rw [List.getElem?_set_ne hk, k9_wl_get G _ hi, k9_sc_ne M f (Ne.symm hk)]
  · rw [List.getElem?_eq_none (by unfold k9_wl; simp; omega), List.getElem?_eq_none (by unfold k9_wl; simp; omega)]
theorem k9_wl_at (G : k9_G) (M : k9_Mem) {i : Nat} {q : Nat × va_E} (h : (k9_wl G M)[i]? = some q) : i < 90 ∧ q = (k9_ga G i, k9_ce G (M i) i) := by
  have hi : i < 90 := by
    have := (List.getElem?_eq_some_iff.mp h).1
    simpa [k9_wl] using this
  rw [k9_wl_get G M hi] at h
  exact ⟨hi, (Option.some.inj h).symm⟩
/-- the addresses are the same in every memory -/
theorem k9_D {G : k9_G} {M : k9_Mem} {A : Nat → Prop} (h : va_D A (k9_wl G M)) (M' : k9_Mem) : va_D A (k9_wl G M') := by
  refine ⟨fun i j p q hi hj hpq => ?_, fun k q hk => ?_⟩
  · obtain ⟨h1, rfl⟩ := k9_wl_at G M' hi
    obtain ⟨h2, rfl⟩ := k9_wl_at G M' hj
    have h3 : k9_ga G i = k9_ga G j := hpq
    exact h.1 i j (k9_ga G i, k9_ce G (M i) i) (k9_ga G j, k9_ce G (M j) j) (k9_wl_get G M h1) (k9_wl_get G M h2) h3
  · obtain ⟨h1, rfl⟩ := k9_wl_at G M' hk
    have h2 : A (k9_ga G k) := h.2 k (k9_ga G k, k9_ce G (M k) k) (k9_wl_get G M h1)
    exact h2
def k9_A (G : k9_G) (sz : Nat) : Nat → Prop := fun q => (∃ k, k < 90 ∧ q = k9_ga G k) ∨ sz ≤ q
theorem k9_A_D {G : k9_G} {M : k9_Mem} {A : Nat → Prop} (sz : Nat) (h : va_D A (k9_wl G M)) : va_D (k9_A G sz) (k9_wl G M) := h.weaken fun k q hk _ => by
  obtain ⟨h1, rfl⟩ := k9_wl_at G M hk
  exact Or.inl ⟨k, h1, rfl⟩
theorem k9_A_in {G : k9_G} {M : k9_Mem} {A : Nat → Prop} {H0 : Heap} {sz : Nat} (h : va_D A (k9_wl G M)) (hA : ∀ q, H0.size ≤ q → A q) (hz : H0.size ≤ sz) : ∀ q, k9_A G sz q → A q := by
  rintro q (⟨k, hk, rfl⟩ | hq)
  · exact h.2 k (k9_ga G k, k9_ce G (M k) k) (k9_wl_get G M hk)
  · exact hA q (Nat.le_trans hz hq)
/-- what every method may count on beside the world: the static row, what a throw needs, the links of nest mates -/
def k9_nf : Nat → Value := fun j => .int ([0, -1, 1, -2, 2, -3, 3].getD j 0)
def k9_strs : List (String × Nat × String) := [(RX6, 50, "there is no such note or step"), (RX6, 369, "the length is out of range"), (RX6, 65, "the last step would be beyond the roll"), (RX6, 363, "there is no such track"), (RX6, 194, "there is no such step"), (RX6, 361, "to is less than from"), (RX6, 367, "by is out of range"), (RX6, 98, "a hole or a patch would be on no track"), (RX6, 111, "an edge would be beyond its range"), (RX6, 365, "there is no such setting"), (RX6, 125, "the value is out of range"), (RX6, 155, "no character of the buffer has this code"), (RX6, 161, "the buffer is full"), (RX6, 175, "the buffer is not a complete row of notes"), (RX6, 180, "a last step would be beyond the roll"), (RX6, 189, "there is no saved state"), (RX6, 371, "there is no such number"), (RX6, 219, "there are not so many notes that are played"), (RX6, 227, "there are not so many notes in the tune")]
def k9_nest : List (String × Nat × MethodName × String) := [(RX3, 52, yX6_isStep, "RollPunch"), (RX2, 81, yX6_mixed, "RollPunch"), (RX2, 71, yX6_fits, "RollPunch"), (RX1, 72, yX6_isStep, "RollPunch"), (RX0, 29, yX6_isStep, "RollPunch"), (RX0, 19, yX6_bitsIn, "RollPunch")]
def k9_nc : List (String × String) := [("java/lang/IllegalArgumentException", "java/lang/IndexOutOfBoundsException"), ("java/lang/IllegalStateException", "java/lang/IndexOutOfBoundsException"), ("java/lang/IllegalStateException", "java/lang/IllegalArgumentException")]
def k9_cast : List String := ["java/lang/IndexOutOfBoundsException", "java/lang/IllegalArgumentException", "java/lang/IllegalStateException"]
def k9_decl : List String := ["java/lang/RuntimeException", "java/lang/Exception", Bundle.tN]
def k9_SK (G : k9_G) (A : Nat → Prop) (U : State) (H : Heap) : Prop :=
  va_Z RX5 "NEAREST_FIRST" "[I" (.ref G.2.2.2.2.2) A U H ∧ va_T .int G.2.2.2.2.2 7 k9_nf A U H ∧ vx_Zq Bundle.tN "UNASSIGNED_STACK" Bundle.steD A U H ∧ vx_Zq Bundle.tN "SUPPRESSED_SENTINEL" Bundle.listD A U H ∧
  (∀ q ∈ k9_strs, ∃ sa, vk_R q.1 q.2.1 q.2.2 sa U) ∧ (∀ q ∈ k9_nest, va_Nw (.methodLinkNest q.1 q.2.1 q.2.2.1 q.2.2.2) U) ∧ (∀ q ∈ k9_nc, va_Nc q.1 q.2 U) ∧ (∀ q ∈ k9_cast, va_Nw (.castable q q) U) ∧ ∀ q ∈ k9_decl, va_Nw (.declares (Bundle.initS q)) U
theorem k9_SK_warm {G : k9_G} {A : Nat → Prop} {s U : State} {H : Heap} (hW : s.WarmedH U.vm) (h : k9_SK G A s H) : k9_SK G A U H := by
  obtain ⟨h1, h2, h3, h4, h5, h6, h7, h8, h9⟩ := h
  refine ⟨h1.moved hW.alike, h2.moved hW.alike, h3.moved hW.alike, h4.moved hW.alike, fun q hq => ?_, fun q hq => (h6 q hq).warmM hW, fun q hq => (h7 q hq).moved hW.alike, fun q hq => (h8 q hq).warmC hW, fun q hq => (h9 q hq).warmD hW⟩
  obtain ⟨sa, h⟩ := h5 q hq
  exact ⟨sa, h.warm hW⟩
theorem k9_SK_kept {G : k9_G} {A B : Nat → Prop} {U : State} {H H1 : Heap} (h : k9_SK G A U H) (hq : ∀ a : Nat, a < H.size → ¬ A a → H1[a]? = H[a]?) (hAB : ∀ q, B q → A q) : k9_SK G B U H1 := by
  obtain ⟨h1, h2, h3, h4, h5, h6, h7, h8⟩ := h
  exact ⟨(h1.kept hq).narrow hAB, (h2.kept hq).narrow hAB, (h3.kept hq).narrow hAB, (h4.kept hq).narrow hAB, h5, h6, h7, h8⟩
/-- a method's start: the world at the memory M -/
def k9_Pr (G : k9_G) (M : k9_Mem) (sz : Nat) (U : State) : Prop := U.heap.size = sz ∧ va_P G.1 vwCl (k9_wl G M) U.heap ∧ va_K G.1 vwCl (k9_tys G) U ∧ va_D (fun _ => True) (k9_wl G M) ∧ k9_SK G (k9_A G sz) U U.heap
theorem k9_blind {G : k9_G} {M : k9_Mem} {sz : Nat} {av : List Value} : FrameBlind (va_Pc av (k9_Pr G M sz)) := by
  rintro a U g mk ⟨q1, q2, q3, q4, q5, q6⟩
  exact ⟨q1, q2, q3, va_K.moved (u := U) (U := U.calling g mk a) (Vm.Alike.refl U.vm) q4, q5, k9_SK_warm (s := U) (U := U.calling g mk a) (State.WarmedH.refl U) q6⟩
def k9_We (G : k9_G) (u : k9_Mem) (t : State) : Prop := va_P G.1 vwCl (k9_wl G u) t.heap
/-- contracts: a method that returns an int (a long, a double, nothing), at one memory and its arguments -/
def k9_Ci (l : Launch) (y : MethodName) (ws : List Cond) (rm : Room) (G : k9_G) (M : k9_Mem) (av : List Value) (rv : Int32) (mv : k9_Mem) : Prop :=
  ∀ sz, Met l y ws rm (va_Pc av (k9_Pr G M sz)) (va_Qi (fun r u => r = rv ∧ u = mv) (k9_We G) (k9_A G sz)) 0 0 (k9_A G sz)
def k9_Cl (l : Launch) (y : MethodName) (ws : List Cond) (rm : Room) (G : k9_G) (M : k9_Mem) (av : List Value) (rv : Int64) (mv : k9_Mem) : Prop :=
  ∀ sz, Met l y ws rm (va_Pc av (k9_Pr G M sz)) (va_Ql (fun r u => r = rv ∧ u = mv) (k9_We G) (k9_A G sz)) 0 0 (k9_A G sz)
def k9_Cd (l : Launch) (y : MethodName) (ws : List Cond) (rm : Room) (G : k9_G) (M : k9_Mem) (av : List Value) (rv : UInt64) (mv : k9_Mem) : Prop :=
  ∀ sz, Met l y ws rm (va_Pc av (k9_Pr G M sz)) (va_Qd (fun r u => r = rv ∧ u = mv) (k9_We G) (k9_A G sz)) 0 0 (k9_A G sz)
def k9_Cv (l : Launch) (y : MethodName) (ws : List Cond) (rm : Room) (G : k9_G) (M : k9_Mem) (av : List Value) (mv : k9_Mem) : Prop :=
  ∀ sz, Met l y ws rm (va_Pc av (k9_Pr G M sz)) (va_Qv (fun u => u = mv) (k9_We G) (k9_A G sz)) 0 0 (k9_A G sz)
/-- .. that throws where x tells a class; then the memory is as it was -/
def k9_XC (G : k9_G) (M : k9_Mem) (x : Option String) (A : Nat → Prop) : String → State → State → Prop := vx_X (fun _ : Unit => True) (fun E _ t => x = some E ∧ k9_We G M t) A
def k9_Cxi (l : Launch) (y : MethodName) (ws : List Cond) (rm : Room) (mc ms : Nat) (G : k9_G) (M : k9_Mem) (av : List Value) (x : Option String) (rv : Int32) (mv : k9_Mem) : Prop :=
  ∀ sz, vx_Met l y ws rm (va_Pc av (k9_Pr G M sz)) (va_Qi (fun r u => x = none ∧ r = rv ∧ u = mv) (k9_We G) (k9_A G sz)) (k9_XC G M x (k9_A G sz)) mc ms (k9_A G sz)
def k9_Cxv (l : Launch) (y : MethodName) (ws : List Cond) (rm : Room) (mc ms : Nat) (G : k9_G) (M : k9_Mem) (av : List Value) (x : Option String) (mv : k9_Mem) : Prop :=
  ∀ sz, vx_Met l y ws rm (va_Pc av (k9_Pr G M sz)) (va_Qv (fun u => x = none ∧ u = mv) (k9_We G) (k9_A G sz)) (k9_XC G M x (k9_A G sz)) mc ms (k9_A G sz)
