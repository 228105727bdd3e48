/-! Constructors: worlds that grow: an explicit list, and behind it the blocks that are done. -/
abbrev g9_T : Type := ClassId × ClassId × ClassId
def g9_ty (t : g9_T) : List (ClassId × FieldType) := [(t.1, .int), (t.2.1, .object "RollPunch$Paper"), (t.2.2, .long)]
def g9_nest : List (String × Nat × MethodName × String) := [(RX1, 17, yX0_init, "RollPunch"), (RX3, 26, yX0_init, "RollPunch"), (RX5, 17, yX0_init, "RollPunch"), (RX4, 21, yX3_init, "RollPunch"), (RX6, 11, yX3_init, "RollPunch"), (RX6, 18, yX1_init, "RollPunch"), (RX6, 32, yX2_init, "RollPunch"), (RX6, 39, yX5_init, "RollPunch")]
def g9_N (U : State) : Prop := (∀ q ∈ g9_nest, va_Nw (.methodLinkNest q.1 q.2.1 q.2.2.1 q.2.2.2) U) ∧ va_AO "RollPunch$Paper" U
theorem g9_N_warm {s U : State} (hW : s.WarmedH U.vm) (h : g9_N s) : g9_N U := ⟨fun q hq => (h.1 q hq).warmM hW, h.2.moved hW.alike⟩
def g9_U (p : Program) (l : Launch) (e : Env) (R : Room) (s : State) (m : MethodId) (args : Array Value) (below : List Frame) (meth : Method) (c : Code) (Q : State → Prop) (A : Nat → Prop) (D : va_G) (nL cells slots : Nat) (ws bs : va_W) (pc : Nat) (lv : List (Nat × Value)) (st : List Value) : Prop :=
  ∀ (H : Heap) (locs : List Loc) (ls : Array Slot), va_P D vwCl (ws ++ bs) H → va_D A (ws ++ bs) → va_S A s.heap H locs → lv_has ls nL lv → W p l e R s m args below meth c H locs cells slots Q (F0 m pc ls st)
def g9_X (p : Program) (R : Room) (s : State) (m : MethodId) (args : Array Value) (c : Code) (A : Nat → Prop) (D : va_G) (t : g9_T) (nL : Nat) (cc : ByteArray) (Ts : List Cond) (own : String) (rm : Room) : Prop :=
  p.tables.exec = Jvm.exec ∧ c.code = cc ∧ c.maxLocals = nL ∧ s.vm.findClass own = some m.cls ∧ (∀ w ∈ Ts, w.before args s = true) ∧ va_K D vwCl (g9_ty t) s ∧ (∀ q, s.heap.size ≤ q → A q) ∧ g9_N s ∧ R = rm
/-! Worlds as sets of cells. -/
theorem g9_P_iff {D : va_G} {ws : va_W} {H : Heap} : va_P D vwCl ws H ↔ ∀ q ∈ ws, va_at D vwCl q H := by
  constructor
  · intro h q hq
    obtain ⟨i, hi⟩ := List.getElem?_of_mem hq
    exact h i q hi
  · intro h k q hk
    exact h q (List.mem_of_getElem? hk)
theorem g9_D_iff {A : Nat → Prop} {ws : va_W} : va_D A ws ↔ ws.Pairwise (fun p q => p.1 ≠ q.1) ∧ ∀ q ∈ ws, A q.1 := by
  constructor
  · intro h
    refine ⟨List.pairwise_iff_getElem.mpr (fun i j hi hj hij he => ?_), fun q hq => ?_⟩
    · have := h.1 i j _ _ (List.getElem?_eq_getElem hi) (List.getElem?_eq_getElem hj) he
      omega
    · obtain ⟨i, hi⟩ := List.getElem?_of_mem hq
      exact h.2 i q hi
  · rintro ⟨h1, h2⟩
    refine ⟨fun i j p q hi hj he => ?_, fun k q hk => h2 q (List.mem_of_getElem? hk)⟩
    obtain ⟨hi1, hi2⟩ := List.getElem?_eq_some_iff.mp hi
    obtain ⟨hj1, hj2⟩ := List.getElem?_eq_some_iff.mp hj
    have h3 := List.pairwise_iff_getElem.mp h1
    rcases Nat.lt_trichotomy i j with c | c | c
    · exact absurd (by rw [hi2, hj2]; exact he) (h3 i j hi1 hj1 c)
    · exact c
    · exact absurd (by rw [hi2, hj2]; exact he.symm) (h3 j i hj1 hi1 c)
theorem g9_perm {A : Nat → Prop} {D : va_G} {ws ws' : va_W} {H : Heap} (hp : ws.Perm ws') (hP : va_P D vwCl ws H) (hD : va_D A ws) : va_P D vwCl ws' H ∧ va_D A ws' := by
  refine ⟨g9_P_iff.mpr (fun q hq => g9_P_iff.mp hP q (hp.mem_iff.mpr hq)), g9_D_iff.mpr ?_⟩
  obtain ⟨h1, h2⟩ := g9_D_iff.mp hD
  exact ⟨(hp.pairwise_iff (fun h => h.symm)).mp h1, fun q hq => h2 q (hp.mem_iff.mpr hq)⟩
theorem g9_ins {A : Nat → Prop} {D : va_G} {ws bs : va_W} {x : Nat × va_E} {H : Heap} (hP : va_P D vwCl ((ws ++ bs) ++ [x]) H) (hD : va_D A ((ws ++ bs) ++ [x])) : va_P D vwCl ((ws ++ [x]) ++ bs) H ∧ va_D A ((ws ++ [x]) ++ bs) := by
  refine g9_perm ?_ hP hD
  rw [List.append_assoc, List.append_assoc]
  exact List.Perm.append_left ws List.perm_append_comm
theorem g9_join {A0 : Nat → Prop} {D : va_G} {w0 bs w1 : va_W} {x : Nat × va_E} {H H1 : Heap} (hP : va_P D vwCl ((w0 ++ [x]) ++ bs) H) (hD : va_D A0 ((w0 ++ [x]) ++ bs)) (hk : ∀ q : Nat, q < H.size → ¬ va_A [x] H.size q → H1[q]? = H[q]?) (hF : ∀ q, va_A [x] H.size q → A0 q) (hP1 : va_P D vwCl w1 H1) (hD1 : va_D (va_A [x] H.size) w1) : va_P D vwCl (w0 ++ (w1 ++ bs)) H1 ∧ va_D A0 (w0 ++ (w1 ++ bs)) := by
  have hP' := g9_P_iff.mp hP
  obtain ⟨d1, d2⟩ := g9_D_iff.mp hD
  have hP1' := g9_P_iff.mp hP1
  obtain ⟨f1, f2⟩ := g9_D_iff.mp hD1
  obtain ⟨a1, a2, a3⟩ := List.pairwise_append.mp d1
  obtain ⟨b1, b2, b3⟩ := List.pairwise_append.mp a1
  have lt : ∀ q ∈ (w0 ++ [x]) ++ bs, q.1 < H.size := fun q hq => by
    obtain ⟨i, hi⟩ := List.getElem?_of_mem hq
    exact (hP i q hi).lt
  have apart : ∀ q, (q ∈ w0 ∨ q ∈ bs) → q.1 < H.size ∧ ¬ va_A [x] H.size q.1 := by
    intro q hq
    have hl : q.1 < H.size := by
      refine lt q ?_
      rcases hq with h | h
      · exact List.mem_append_left _ (List.mem_append_left _ h)
      · exact List.mem_append_right _ h
    refine ⟨hl, fun h => ?_⟩
    rcases h with ⟨k, e, h⟩ | h
    · have hm := List.mem_of_getElem? h
      have he : x.1 = q.1 := by
        rw [List.mem_singleton] at hm
        rw [← hm]
      rcases hq with h | h
      · exact b3 q h x (List.mem_singleton.mpr rfl) he.symm
      · exact a3 x (List.mem_append_right _ (List.mem_singleton.mpr rfl)) q h he
    · omega
  have kept : ∀ q, (q ∈ w0 ∨ q ∈ bs) → va_at D vwCl q H1 := by
    intro q hq
    obtain ⟨g1, g2⟩ := apart q hq
    refine va_at.kept (hP' q ?_) (hk q.1 g1 g2)
    rcases hq with h | h
    · exact List.mem_append_left _ (List.mem_append_left _ h)
    · exact List.mem_append_right _ h
  refine ⟨g9_P_iff.mpr (fun q hq => ?_), g9_D_iff.mpr ⟨List.pairwise_append.mpr ⟨b1, List.pairwise_append.mpr ⟨f1, a2, fun a ha b hb he => ?_⟩, fun a ha b hb => ?_⟩, fun q hq => ?_⟩⟩
  · rcases List.mem_append.mp hq with h | h
    · exact kept q (Or.inl h)
    · rcases List.mem_append.mp h with h | h
      · exact hP1' q h
      · exact kept q (Or.inr h)
  · exact (apart b (Or.inr hb)).2 (by rw [← he]; exact f2 a ha)
  · rcases List.mem_append.mp hb with h | h
    · exact fun he => (apart a (Or.inl ha)).2 (by rw [he]; exact f2 b h)
    · exact a3 a (List.mem_append_left _ ha) b h
  · rcases List.mem_append.mp hq with h | h
    · exact d2 q (List.mem_append_left _ (List.mem_append_left _ h))
    · rcases List.mem_append.mp h with h | h
      · exact hF _ (f2 q h)
      · exact d2 q (List.mem_append_right _ h)
/-- a constructor's contract: from its blank object to its block, at addresses u -/
def g9_Pr (D : va_G) (t : g9_T) (h0 : Nat) (ob : va_E) (sz : Nat) (U : State) : Prop := U.heap.size = sz ∧ va_P D vwCl [(h0, ob)] U.heap ∧ va_K D vwCl (g9_ty t) U ∧ va_D (fun _ => True) [(h0, ob)] ∧ g9_N U
theorem g9_blind {D : va_G} {t : g9_T} {h0 : Nat} {ob : va_E} {sz : Nat} {av : List Value} : FrameBlind (va_Pc av (g9_Pr D t h0 ob sz)) := by
  rintro a U g mk ⟨q1, q2, q3, q4, q5, q6⟩
  exact ⟨q1, q2, q3, va_K.moved (u := U) (U := U.calling g mk a) (Vm.Alike.refl U.vm) q4, q5, g9_N_warm (s := U) (U := U.calling g mk a) (State.WarmedH.refl U) q6⟩
def g9_C (l : Launch) (y : MethodName) (ws : List Cond) (rm : Room) (mc ms : Nat) (D : va_G) (t : g9_T) (ob : va_E) (wC : Nat → (Nat → Nat) → va_W) : Prop :=
  ∀ h0 sz, Met l y ws rm (va_Pc [.ref h0] (g9_Pr D t h0 ob sz)) (va_Qv (fun _ : Nat → Nat => True) (fun u T => va_P D vwCl (wC h0 u) T.heap ∧ va_D (va_A [(h0, ob)] sz) (wC h0 u)) (va_A [(h0, ob)] sz)) mc ms (va_A [(h0, ob)] sz)
theorem g9_met {l : Launch} {y : MethodName} {ws ws' : List Cond} {rm : Room} {mc ms : Nat} {D : va_G} {t : g9_T} {ob : va_E} {wC : Nat → (Nat → Nat) → va_W} {cc : ByteArray} {maxL : Nat} {own : String} (hy : plainName y.cls = true) (hown : y.cls = own) (hw : ws = Cond.code y cc maxL none :: ws') (hlen : 1 ≤ maxL) (hnm : y.name = "<init>")
    (body : ∀ {p : Program} {e : Env} {s : State} {m : MethodId} {args : Array Value} {below : List Frame} {meth : Method} {c : Code} {A : Nat → Prop} {Q : State → Prop} (h0 : Nat), g9_X p rm s m args c A D t maxL cc ws own rm → meth.name = "<init>" → (∀ (u : Nat → Nat) (ws2 bs2 : va_W) pc lv, ws2 ++ bs2 = wC h0 u → decode cc pc = .ok (.return_, 1) → g9_U p l e rm s m args below meth c Q A D maxL mc ms ws2 bs2 pc lv []) → g9_U p l e rm s m args below meth c Q A D maxL 0 0 [(h0, ob)] [] 0 [(0, .ref h0)] []) : g9_C l y ws rm mc ms D t ob wC := by
  intro h0 sz
  refine Met.ofW (cc := cc) (maxL := maxL) (ret := none) hy hw ?_
  intro p e s m args below meth c s₁ B hml hv
  obtain ⟨rfl, hsz, hP, hK, hD0, hN⟩ := hv
  have hts := atoms_spec (ws := ws) B.pre
  have hown' : s.vm.findClass own = some m.cls := by rw [← hown]; exact findClass_of_methodNamed B.named
  have hin : meth.name = "<init>" := by rw [← hnm]; exact (name_of_methodNamed B.named B.method).1
  subst hsz
  have hD : va_D (va_A [(h0, ob)] s.heap.size) [(h0, ob)] := hD0.self (sz := s.heap.size)
  have hl := lv_entry [.ref h0] (n := maxL) hlen
  rw [lg_entry_eq]
  refine body (A := va_A [(h0, ob)] s.heap.size) h0 ⟨B.exec, B.bytes, hml, hown', hts, hK, fun q h => Or.inr h, hN, rfl⟩ hin (fun u ws2 bs2 pc lv hw2 d H locs ls hP hD hS h => ?_) s.heap [] _ hP hD va_S.rf hl
  rw [hw2] at hP hD
  exact W.vret B.exec B.bytes B.returns (fun t9 ht hW => ⟨⟨u, rfl, trivial, by rw [ht]; exact hP, hD⟩, hS.F ht⟩) hS.2.2 d
section G9R
variable {p : Program} {l : Launch} {e : Env} {R : Room} {s : State} {m : MethodId} {args : Array Value} {below : List Frame} {meth : Method} {c : Code} {Q : State → Prop} {A : Nat → Prop} {D : va_G} {t : g9_T} {nL cells slots : Nat} {ws bs : va_W} {pc : Nat} {lv lv' : List (Nat × Value)} {st : List Value} {cc : ByteArray} {Ts : List Cond} {own : String} {rm : Room}
theorem g9_eq {pc' : Nat} {ws' : va_W} (h1 : pc = pc') (h2 : ws = ws') (kk : g9_U p l e R s m args below meth c Q A D nL cells slots ws' bs pc' lv st) : g9_U p l e R s m args below meth c Q A D nL cells slots ws bs pc lv st := by subst h1; subst h2; exact kk
theorem g9_widen {k n : Nat} (h1 : cells ≤ k) (h2 : slots ≤ n) (kk : g9_U p l e R s m args below meth c Q A D nL k n ws bs pc lv st) : g9_U p l e R s m args below meth c Q A D nL cells slots ws bs pc lv st := fun H locs ls hP hD hS h => W.widen h1 h2 (kk H locs ls hP hD hS h)
theorem g9_aload_n (X : g9_X p R s m args c A D t nL cc Ts own rm) {k : Fin 4} {i : Nat} {x : Nat} (d : decode cc pc = .ok (.aload_n k, 1)) (hi : (k : Nat) = i) (j : Nat) (hl : lv[j]? = some (i, .ref x)) (kk : g9_U p l e R s m args below meth c Q A D nL cells slots ws bs (pc + 1) lv (.ref x :: st)) : g9_U p l e R s m args below meth c Q A D nL cells slots ws bs pc lv st := fun H locs ls hP hD hS h => lv_aload_n X.1 X.2.1 d hi (lv_at h j hl) (kk H locs ls hP hD hS h)
theorem g9_dup (X : g9_X p R s m args c A D t nL cc Ts own rm) {v : Value} (d : decode cc pc = .ok (.dup, 1)) (hv : v.category = 1) (kk : g9_U p l e R s m args below meth c Q A D nL cells slots ws bs (pc + 1) lv (v :: v :: st)) : g9_U p l e R s m args below meth c Q A D nL cells slots ws bs pc lv (v :: st) := fun H locs ls hP hD hS h => lv_dup X.1 X.2.1 d hv (kk H locs ls hP hD hS h)
theorem g9_bipush (X : g9_X p R s m args c A D t nL cc Ts own rm) {n : Int} {v : Int32} (d : decode cc pc = .ok (.bipush n, 2)) (hv : (Int8.ofInt n).toInt32 = v) (kk : g9_U p l e R s m args below meth c Q A D nL cells slots ws bs (pc + 2) lv (.int v :: st)) : g9_U p l e R s m args below meth c Q A D nL cells slots ws bs pc lv (st) := fun H locs ls hP hD hS h => lv_bipush X.1 X.2.1 d hv (kk H locs ls hP hD hS h)
theorem g9_sipush (X : g9_X p R s m args c A D t nL cc Ts own rm) {n : Int} {v : Int32} (d : decode cc pc = .ok (.sipush n, 3)) (hv : (Int16.ofInt n).toInt32 = v) (kk : g9_U p l e R s m args below meth c Q A D nL cells slots ws bs (pc + 3) lv (.int v :: st)) : g9_U p l e R s m args below meth c Q A D nL cells slots ws bs pc lv (st) := fun H locs ls hP hD hS h => lv_sipush X.1 X.2.1 d hv (kk H locs ls hP hD hS h)
theorem g9_iconst (X : g9_X p R s m args c A D t nL cc Ts own rm) {n : Int} {v : Int32} (d : decode cc pc = .ok (.iconst n, 1)) (hv : Int32.ofInt n = v) (kk : g9_U p l e R s m args below meth c Q A D nL cells slots ws bs (pc + 1) lv (.int v :: st)) : g9_U p l e R s m args below meth c Q A D nL cells slots ws bs pc lv (st) := fun H locs ls hP hD hS h => lv_iconst X.1 X.2.1 d hv (kk H locs ls hP hD hS h)
theorem g9_goto (X : g9_X p R s m args c A D t nL cc Ts own rm) {off : Int} {tgt : Nat} (d : decode cc pc = .ok (.goto off, 3)) (ht : (pc : Int) + off = (tgt : Int)) (kk : g9_U p l e R s m args below meth c Q A D nL cells slots ws bs tgt lv st) : g9_U p l e R s m args below meth c Q A D nL cells slots ws bs pc lv st := fun H locs ls hP hD hS h => lv_goto X.1 X.2.1 d ht (kk H locs ls hP hD hS h)
theorem g9_iload_n (X : g9_X p R s m args c A D t nL cc Ts own rm) {k : Fin 4} {i : Nat} {x : Int32} (d : decode cc pc = .ok (.iload_n k, 1)) (hi : (k : Nat) = i) (j : Nat) (hl : lv[j]? = some (i, .int x)) (kk : g9_U p l e R s m args below meth c Q A D nL cells slots ws bs (pc + 1) lv (.int x :: st)) : g9_U p l e R s m args below meth c Q A D nL cells slots ws bs pc lv st := fun H locs ls hP hD hS h => lv_iload_n X.1 X.2.1 d hi (lv_at h j hl) (kk H locs ls hP hD hS h)
theorem g9_istore_n (X : g9_X p R s m args c A D t nL cc Ts own rm) {k : Fin 4} {i : Nat} {x : Int32} (d : decode cc pc = .ok (.istore_n k, 1)) (hi : (k : Nat) = i) (hn : i < nL) (ks : List Nat) (hl : lv_pick ((i, .int x) :: lv.filter (fun q => !(q.1 == i) && !(q.1 + 1 == i && q.2.category == 2))) ks = lv') (kk : g9_U p l e R s m args below meth c Q A D nL cells slots ws bs (pc + 1) lv' st) : g9_U p l e R s m args below meth c Q A D nL cells slots ws bs pc lv (.int x :: st) := fun H locs ls hP hD hS h => lv_istore_n X.1 X.2.1 d hi h hn rfl (fun ls' h' => kk H locs ls' hP hD hS (lv_sub h' ks hl))
theorem g9_iinc (X : g9_X p R s m args c A D t nL cc Ts own rm) {i k : Nat} {n : Int} {x v : Int32} (d : decode cc pc = .ok (.iinc i n, 3)) (hk : lv[k]? = some (i, .int x)) (hv : x + Int32.ofInt n = v) (hn : i < nL) (ks : List Nat) (hl : lv_pick ((i, .int v) :: lv.filter (fun q => !(q.1 == i) && !(q.1 + 1 == i && q.2.category == 2))) ks = lv') (kk : g9_U p l e R s m args below meth c Q A D nL cells slots ws bs (pc + 3) lv' st) : g9_U p l e R s m args below meth c Q A D nL cells slots ws bs pc lv st := fun H locs ls hP hD hS h => lv_iinc X.1 X.2.1 d h hk hv hn rfl (fun ls' h' => kk H locs ls' hP hD hS (lv_sub h' ks hl))
theorem g9_icmp_ge (X : g9_X p R s m args c A D t nL cc Ts own rm) {x y : Int32} {off : Int} {tgt : Nat} (d : decode cc pc = .ok (.if_icmp .ge off, 3)) (ht : (pc : Int) + off = (tgt : Int)) (kt : y ≤ x → g9_U p l e R s m args below meth c Q A D nL cells slots ws bs tgt lv st) (kf : ¬ (y ≤ x) → g9_U p l e R s m args below meth c Q A D nL cells slots ws bs (pc + 3) lv st) : g9_U p l e R s m args below meth c Q A D nL cells slots ws bs pc lv (.int y :: .int x :: st) := fun H locs ls hP hD hS h => lv_icmp_ge X.1 X.2.1 d ht (fun q => kt q H locs ls hP hD hS h) (fun q => kf q H locs ls hP hD hS h)
theorem g9_aload (X : g9_X p R s m args c A D t nL cc Ts own rm) {i : Nat} {x : Nat} (d : decode cc pc = .ok (.aload i, 2)) (j : Nat) (hl : lv[j]? = some (i, .ref x)) (kk : g9_U p l e R s m args below meth c Q A D nL cells slots ws bs (pc + 2) lv (.ref x :: st)) : g9_U p l e R s m args below meth c Q A D nL cells slots ws bs pc lv st := fun H locs ls hP hD hS h => lv_aload X.1 X.2.1 d (lv_at h j hl) (kk H locs ls hP hD hS h)
theorem g9_astore_n (X : g9_X p R s m args c A D t nL cc Ts own rm) {k : Fin 4} {i : Nat} {x : Nat} (d : decode cc pc = .ok (.astore_n k, 1)) (hi : (k : Nat) = i) (hn : i < nL) (ks : List Nat) (hl : lv_pick ((i, .ref x) :: lv.filter (fun q => !(q.1 == i) && !(q.1 + 1 == i && q.2.category == 2))) ks = lv') (kk : g9_U p l e R s m args below meth c Q A D nL cells slots ws bs (pc + 1) lv' st) : g9_U p l e R s m args below meth c Q A D nL cells slots ws bs pc lv (.ref x :: st) := fun H locs ls hP hD hS h => lv_astore_n X.1 X.2.1 d hi h hn rfl (fun ls' h' => kk H locs ls' hP hD hS (lv_sub h' ks hl))
theorem g9_istore (X : g9_X p R s m args c A D t nL cc Ts own rm) {i : Nat} {x : Int32} (d : decode cc pc = .ok (.istore i, 2)) (hn : i < nL) (ks : List Nat) (hl : lv_pick ((i, .int x) :: lv.filter (fun q => !(q.1 == i) && !(q.1 + 1 == i && q.2.category == 2))) ks = lv') (kk : g9_U p l e R s m args below meth c Q A D nL cells slots ws bs (pc + 2) lv' st) : g9_U p l e R s m args below meth c Q A D nL cells slots ws bs pc lv (.int x :: st) := fun H locs ls hP hD hS h => lv_istore X.1 X.2.1 d h hn rfl (fun ls' h' => kk H locs ls' hP hD hS (lv_sub h' ks hl))
theorem g9_iload (X : g9_X p R s m args c A D t nL cc Ts own rm) {i : Nat} {x : Int32} (d : decode cc pc = .ok (.iload i, 2)) (j : Nat) (hl : lv[j]? = some (i, .int x)) (kk : g9_U p l e R s m args below meth c Q A D nL cells slots ws bs (pc + 2) lv (.int x :: st)) : g9_U p l e R s m args below meth c Q A D nL cells slots ws bs pc lv st := fun H locs ls hP hD hS h => lv_iload X.1 X.2.1 d (lv_at h j hl) (kk H locs ls hP hD hS h)
theorem g9_objInit (X : g9_X p R s m args c A D t nL cc Ts own rm) {x idx : Nat} (h1 : Cond.methodLink own idx objectInit ∈ Ts) (h2 : Cond.instanceMethod objectInit ∈ Ts) (h3 : Cond.code objectInit ⟨#[0xb1]⟩ 1 none ∈ Ts) (d : decode cc pc = .ok (.invokespecial idx, 3)) (hr : 1 ≤ rm.frames ∧ 12 ≤ rm.locals) (kk : g9_U p l e R s m args below meth c Q A D nL cells slots ws bs (pc + 3) lv []) : g9_U p l e R s m args below meth c Q A D nL cells slots ws bs pc lv [.ref x] := by
  obtain ⟨hx, hb, hml, hown, hts, -, -, -, rfl⟩ := X
  intro H locs ls hP hD hS h
  refine W.objInit hx hb hown (hts _ h1) (hts _ h2) (hts _ h3) rfl (by rw [hml]; exact h.1) rfl d hr.1 (by show 0 + 0 + 12 ≤ _; omega) ?_
  exact kk H locs ls hP hD hS h
theorem g9_newa (X : g9_X p R s m args c A D t nL cc Ts own rm) {n : Int32} {N : Nat} (ha : Cond.arrayClass .int ∈ Ts) (hn : ¬ n < 0) (hN : n.toNatClampNeg = N) (hb4 : N * 4 ≤ 536870912) (hr : cells + 1 ≤ rm.cells ∧ slots + N ≤ rm.slots) (d : decode cc pc = .ok (.newarray .int, 2)) (kk : ∀ q : Nat, g9_U p l e R s m args below meth c Q A D nL (cells + 1) (slots + N) (ws ++ [(q, .inl (t.1, N, .inl (fun _ => 0)))]) bs (pc + 2) lv (.ref q :: st)) : g9_U p l e R s m args below meth c Q A D nL cells slots ws bs pc lv (.int n :: st) := by
  obtain ⟨hx, hb, hml, hown, hts, hK, hA, -, rfl⟩ := X
  intro H locs ls hP hD hS h
  refine va_newa (atype := .int) (ty := .int) (a0 := (N, .inl (fun _ => 0))) hx hb (hts _ ha) rfl hK hP hD hS hA (fun cA => rfl) hn hN hb4 hr.1 hr.2 d (fun q cA H1 hK1 hP1 hD1 hS1 => ?_)
  have e1 : s.vm.findClass "[I" = some cA := va_nm_int (hK1.2 3 _ rfl).2
  have e2 : s.vm.findClass "[I" = some t.1 := va_nm_int (hK.2 0 _ rfl).2
  have e3 : cA = t.1 := Option.some.inj (e1.symm.trans e2)
  subst e3
  obtain ⟨hP2, hD2⟩ := g9_ins hP1 hD1
  exact kk q H1 locs ls hP2 hD2 hS1 h
theorem g9_newl (X : g9_X p R s m args c A D t nL cc Ts own rm) {n : Int32} {N : Nat} (ha : Cond.arrayClass .long ∈ Ts) (hn : ¬ n < 0) (hN : n.toNatClampNeg = N) (hb4 : N * 8 ≤ 536870912) (hr : cells + 1 ≤ rm.cells ∧ slots + N ≤ rm.slots) (d : decode cc pc = .ok (.newarray .long, 2)) (kk : ∀ q : Nat, g9_U p l e R s m args below meth c Q A D nL (cells + 1) (slots + N) (ws ++ [(q, .inl (t.2.2, N, .inr (.inl (fun _ => 0))))]) bs (pc + 2) lv (.ref q :: st)) : g9_U p l e R s m args below meth c Q A D nL cells slots ws bs pc lv (.int n :: st) := by
  obtain ⟨hx, hb, hml, hown, hts, hK, hA, -, rfl⟩ := X
  intro H locs ls hP hD hS h
  refine va_newa (atype := .long) (ty := .long) (a0 := (N, .inr (.inl (fun _ => 0)))) hx hb (hts _ ha) rfl hK hP hD hS hA (fun cA => rfl) hn hN hb4 hr.1 hr.2 d (fun q cA H1 hK1 hP1 hD1 hS1 => ?_)
  have e1 : s.vm.findClass "[J" = some cA := va_nm_long (hK1.2 3 _ rfl).2
  have e2 : s.vm.findClass "[J" = some t.2.2 := va_nm_long (hK.2 2 _ rfl).2
  have e3 : cA = t.2.2 := Option.some.inj (e1.symm.trans e2)
  subst e3
  obtain ⟨hP2, hD2⟩ := g9_ins hP1 hD1
  exact kk q H1 locs ls hP2 hD2 hS1 h
theorem g9_newq (X : g9_X p R s m args c A D t nL cc Ts own rm) {n : Int32} {N idx : Nat} (hl : Cond.classLink own idx RX3 ∈ Ts) (hn : ¬ n < 0) (hN : n.toNatClampNeg = N) (hb4 : N * 4 ≤ 536870912) (hr : cells + 1 ≤ rm.cells ∧ slots + N ≤ rm.slots) (d : decode cc pc = .ok (.anewarray idx, 3)) (kk : ∀ q : Nat, g9_U p l e R s m args below meth c Q A D nL (cells + 1) (slots + N) (ws ++ [(q, .inl (t.2.1, N, .inr (.inr (.inr (.inr (fun _ => none))))))]) bs (pc + 3) lv (.ref q :: st)) : g9_U p l e R s m args below meth c Q A D nL cells slots ws bs pc lv (.int n :: st) := by
  obtain ⟨hx, hb, hml, hown, hts, hK, hA, hN2, rfl⟩ := X
  intro H locs ls hP hD hS h
  refine va_newq (C := "RollPunch$Paper") hx hb hown (hts _ hl) hN2.2 hK hP hD hS hA hn hN hb4 hr.1 hr.2 d (fun q cA H1 hK1 hP1 hD1 hS1 => ?_)
  obtain ⟨-, -, -, -, -, e1⟩ := (hK1.2 3 _ rfl).2
  obtain ⟨-, -, -, -, -, e2⟩ := (hK.2 1 _ rfl).2
  have e3 : cA = t.2.1 := Option.some.inj (e1.symm.trans e2)
  subst e3
  obtain ⟨hP2, hD2⟩ := g9_ins hP1 hD1
  exact kk q H1 locs ls hP2 hD2 hS1 h
theorem g9_new (X : g9_X p R s m args c A D t nL cc Ts own rm) {C : String} {T : u_T} {N ci idx : Nat} {ty : Nat → FieldType} {fs : List Value} (hin : ∀ w ∈ u_ws C T N, w ∈ Ts) (hty : ∀ k, k < N → parseFieldDescriptor (T k).2.2.1 = some (ty k)) (h1 : Cond.classLink own idx C ∈ Ts) (h2 : Cond.instantiable C N ∈ Ts) (h3 : Cond.initialized C ∈ Ts) (hc : vwCl[ci]? = some (C, T, N)) (hfs : ∀ j, j < N → defaultValue (ty j) = vp_V fs j) (hr : cells + 1 ≤ rm.cells ∧ slots + N ≤ rm.slots) (d : decode cc pc = .ok (.new idx, 3)) (kk : ∀ q : Nat, g9_U p l e R s m args below meth c Q A D nL (cells + 1) (slots + N) (ws ++ [(q, .inr (ci, fs))]) bs (pc + 3) lv (.ref q :: st)) : g9_U p l e R s m args below meth c Q A D nL cells slots ws bs pc lv st := by
  obtain ⟨hx, hb, hml, hown, hts, hK, hA, -, rfl⟩ := X
  intro H locs ls hP hD hS h
  refine va_new (ci := ci) (fs := fs) (C := C) (T := T) (N := N) hx hb hts hin ty hty hown (hts _ h1) (hts _ h2) (hts _ h3) hK hP hD hS hA hc hfs hr.1 hr.2 d (fun q H1 hP1 hD1 hS1 => ?_)
  obtain ⟨hP2, hD2⟩ := g9_ins hP1 hD1
  exact kk q H1 locs ls hP2 hD2 hS1 h
theorem g9_putF (X : g9_X p R s m args c A D t nL cc Ts own rm) (hi : meth.name = "<init>") {q0 a ci idx : Nat} {C : String} {T : u_T} {N k : Nat} {fs : List Value} {v : Value} {ty : FieldType} {ty0 : Nat → FieldType} {ws' : va_W} (he : (ws ++ bs)[q0]? = some (a, .inr (ci, fs))) (hc : vwCl[ci]? = some (C, T, N)) (hk : k < N) (hty : ∀ k, k < N → parseFieldDescriptor (T k).2.2.1 = some (ty0 k)) (hnm : ∀ a, a < N → ∀ b, b < N → a ≠ b → (T a).2.1 ≠ (T b).2.1) (hin : ∀ w ∈ u_ws C T N, w ∈ Ts) (hl : Cond.fieldLink own idx (T k).1 (T k).2.1 (T k).2.2.1 ∈ Ts) (hfin : (T k).2.2.2 = true) (hdecl : (T k).1 = own) (hd : parseFieldDescriptor (T k).2.2.1 = some ty) (hn : narrow ty v = v) (hfit : fits ty v = true) (hlen : k < fs.length) (hw : (ws ++ bs).set q0 (a, .inr (ci, fs.set k v)) = ws' ++ bs) (d : decode cc pc = .ok (.putfield idx, 3)) (kk : g9_U p l e R s m args below meth c Q A D nL cells slots ws' bs (pc + 3) lv st) : g9_U p l e R s m args below meth c Q A D nL cells slots ws bs pc lv (v :: .ref a :: st) := fun H locs ls hP hD hS h => va_putF X.1 X.2.1 X.2.2.2.2.1 hin ty0 hty hnm X.2.2.2.1 X.2.2.2.2.2.1 hP hD hS q0 he hc k hk (X.2.2.2.2.1 _ hl) (fun _ h9 => h9) hfin hi hdecl hd hn hfit hlen d (fun H1 locs1 hP1 hD1 hS1 => kk H1 locs1 ls (by rw [← hw]; exact hP1) (by rw [← hw]; exact hD1) hS1 h)
theorem g9_put (X : g9_X p R s m args c A D t nL cc Ts own rm) {q0 a ci idx : Nat} {C : String} {T : u_T} {N k : Nat} {fs : List Value} {v : Value} {ty : FieldType} {ty0 : Nat → FieldType} {ws' : va_W} (he : (ws ++ bs)[q0]? = some (a, .inr (ci, fs))) (hc : vwCl[ci]? = some (C, T, N)) (hk : k < N) (hty : ∀ k, k < N → parseFieldDescriptor (T k).2.2.1 = some (ty0 k)) (hnm : ∀ a, a < N → ∀ b, b < N → a ≠ b → (T a).2.1 ≠ (T b).2.1) (hin : ∀ w ∈ u_ws C T N, w ∈ Ts) (hl : Cond.fieldLink own idx (T k).1 (T k).2.1 (T k).2.2.1 ∈ Ts) (hfin : (T k).2.2.2 = false) (hd : parseFieldDescriptor (T k).2.2.1 = some ty) (hn : narrow ty v = v) (hfit : fits ty v = true) (hlen : k < fs.length) (hw : (ws ++ bs).set q0 (a, .inr (ci, fs.set k v)) = ws' ++ bs) (d : decode cc pc = .ok (.putfield idx, 3)) (kk : g9_U p l e R s m args below meth c Q A D nL cells slots ws' bs (pc + 3) lv st) : g9_U p l e R s m args below meth c Q A D nL cells slots ws bs pc lv (v :: .ref a :: st) := fun H locs ls hP hD hS h => va_put X.1 X.2.1 X.2.2.2.2.1 hin ty0 hty hnm X.2.2.2.1 X.2.2.2.2.2.1 hP hD hS q0 he hc k hk (X.2.2.2.2.1 _ hl) (fun _ h9 => h9) hfin hd hn hfit hlen d (fun H1 locs1 hP1 hD1 hS1 => kk H1 locs1 ls (by rw [← hw]; exact hP1) (by rw [← hw]; exact hD1) hS1 h)
theorem g9_get (X : g9_X p R s m args c A D t nL cc Ts own rm) {q0 a ci idx : Nat} {C : String} {T : u_T} {N k : Nat} {fs : List Value} {v : Value} (he : (ws ++ bs)[q0]? = some (a, .inr (ci, fs))) (hc : vwCl[ci]? = some (C, T, N)) (hk : k < N) (hin : ∀ w ∈ u_ws C T N, w ∈ Ts) (hl : Cond.fieldLink own idx (T k).1 (T k).2.1 (T k).2.2.1 ∈ Ts) (hv : fs[k]? = some v) (d : decode cc pc = .ok (.getfield idx, 3)) (kk : g9_U p l e R s m args below meth c Q A D nL cells slots ws bs (pc + 3) lv (v :: st)) : g9_U p l e R s m args below meth c Q A D nL cells slots ws bs pc lv (.ref a :: st) := fun H locs ls hP hD hS h => va_get X.1 X.2.1 X.2.2.2.2.1 hin X.2.2.2.1 X.2.2.2.2.2.1 hP q0 he hc k hk (X.2.2.2.2.1 _ hl) (fun _ h9 => h9) hv d (kk H locs ls hP hD hS h)
theorem g9_iast (X : g9_X p R s m args c A D t nL cc Ts own rm) {q0 a n : Nat} {f : Nat → Int32} {i x : Int32} {j : Nat} {ws' : va_W} (he : (ws ++ bs)[q0]? = some (a, .inl (t.1, n, .inl f))) (hin : vp_in i n) (hw : (ws ++ bs).set q0 (a, .inl (t.1, n, .inl (upd f j x))) = ws' ++ bs) (hj : i.toNatClampNeg = j) (d : decode cc pc = .ok (.iastore, 1)) (kk : g9_U p l e R s m args below meth c Q A D nL cells slots ws' bs (pc + 1) lv st) : g9_U p l e R s m args below meth c Q A D nL cells slots ws bs pc lv (.int x :: .int i :: .ref a :: st) := by
  subst hj
  exact fun H locs ls hP hD hS h => va_iast X.1 X.2.1 X.2.2.2.2.2.1 hP hD hS q0 0 he rfl hin d (fun H1 locs1 hP1 hD1 hS1 => kk H1 locs1 ls (by rw [← hw]; exact hP1) (by rw [← hw]; exact hD1) hS1 h)
theorem g9_aast (X : g9_X p R s m args c A D t nL cc Ts own rm) {q0 qk a n v : Nat} {vs : List Value} {f : Nat → Option Nat} {i : Int32} {j : Nat} {ws' : va_W} (he : (ws ++ bs)[q0]? = some (a, .inl (t.2.1, n, .inr (.inr (.inr (.inr f)))))) (hv : (ws ++ bs)[qk]? = some (v, .inr (3, vs))) (hin : vp_in i n) (hw : (ws ++ bs).set q0 (a, .inl (t.2.1, n, .inr (.inr (.inr (.inr (va_up f j (some v))))))) = ws' ++ bs) (hj : i.toNatClampNeg = j) (d : decode cc pc = .ok (.aastore, 1)) (kk : g9_U p l e R s m args below meth c Q A D nL cells slots ws' bs (pc + 1) lv st) : g9_U p l e R s m args below meth c Q A D nL cells slots ws bs pc lv (.ref v :: .int i :: .ref a :: st) := by
  subst hj
  exact fun H locs ls hP hD hS h => va_astq (ci := 3) (r := (RX3, TX3, 7)) X.1 X.2.1 X.2.2.2.2.2.1 hP hD hS q0 1 qk he rfl hv rfl hin d (fun H1 locs1 hP1 hD1 hS1 => kk H1 locs1 ls (by rw [← hw]; exact hP1) (by rw [← hw]; exact hD1) hS1 h)
theorem g9_alen (X : g9_X p R s m args c A D t nL cc Ts own rm) {q0 t0 a n : Nat} {cA : ClassId} {ty : FieldType} {x : Nat} {v : Int32} {f : Nat → Option Nat} (he : (ws ++ bs)[q0]? = some (a, .inl (t.2.1, n, .inr (.inr (.inr (.inr f)))))) (hv : nI n = v) (d : decode cc pc = .ok (.arraylength, 1)) (kk : g9_U p l e R s m args below meth c Q A D nL cells slots ws bs (pc + 1) lv (.int v :: st)) : g9_U p l e R s m args below meth c Q A D nL cells slots ws bs pc lv (.ref a :: st) := by
  subst hv
  exact fun H locs ls hP hD hS h => va_alen X.1 X.2.1 X.2.2.2.2.2.1 hP q0 1 he rfl rfl d (kk H locs ls hP hD hS h)
/-- a constructor's call: the blank object is the last of the explicit list; its block goes behind -/
theorem g9_pre (X : g9_X p R s m args c A D t nL cc Ts own rm) {q : Nat} {ob : va_E} {H : Heap} {locs : List Loc} (hP : va_P D vwCl ((ws ++ [(q, ob)]) ++ bs) H) (hD : va_D A ((ws ++ [(q, ob)]) ++ bs)) (hS : va_S A s.heap H locs) : (∀ (U : State), U.heap = H → s.WarmedH U.vm → va_Pc [.ref q] (g9_Pr D t q ob H.size) #[.ref q] U) ∧ ∀ z, va_A [(q, ob)] H.size z → A z := by
  have hm : (q, ob) ∈ (ws ++ [(q, ob)]) ++ bs := List.mem_append_left _ (List.mem_append_right _ (List.mem_singleton.mpr rfl))
  refine ⟨fun U hU hW => ⟨rfl, by rw [hU], ?_, va_K.moved hW.alike X.2.2.2.2.2.1, ?_, g9_N_warm hW X.2.2.2.2.2.2.2.1⟩, fun z hz => ?_⟩
  · rw [hU]
    refine g9_P_iff.mpr (fun x hx => ?_)
    rw [List.mem_singleton] at hx
    rw [hx]
    exact g9_P_iff.mp hP _ hm
  · exact g9_D_iff.mpr ⟨List.pairwise_singleton _ _, fun _ _ => trivial⟩
  · rcases hz with ⟨k, e9, h⟩ | h
    · have h9 := List.mem_of_getElem? h
      rw [List.mem_singleton] at h9
      cases h9
      exact (g9_D_iff.mp hD).2 _ hm
    · exact X.2.2.2.2.2.2.1 z (Nat.le_trans hS.1 h)
theorem g9_callN (X : g9_X p R s m args c A D t nL cc Ts own rm) {y : MethodName} {ws2 : List Cond} {rm2 : Room} {idx maxL mc ms q : Nat} {host : String} {bytes : ByteArray} {ob : va_E} {wC : Nat → (Nat → Nat) → va_W} (hM : g9_C l y ws2 rm2 mc ms D t ob wC) (hnest : (own, idx, y, host) ∈ g9_nest) (cw : va_Nw (.methodLinkNest own idx y host) s → va_CN rm s args own idx y host bytes maxL none ws2 rm2 mc ms 0 ∧ y.name = "<init>" ∧ (Cond.instanceMethod y).before args s = true) (hW : (st.map fun v => v.category).sum ≤ 8) (d : decode cc pc = .ok (.invokespecial idx, 3)) (hr : cells + mc ≤ rm.cells ∧ slots + ms ≤ rm.slots) (kk : ∀ u : Nat → Nat, g9_U p l e R s m args below meth c Q A D nL (cells + mc) (slots + ms) ws (wC q u ++ bs) (pc + 3) lv st) : g9_U p l e R s m args below meth c Q A D nL cells slots (ws ++ [(q, ob)]) bs pc lv (.ref q :: st) := by
  have X' := X
  obtain ⟨hx, hb, hml, hown, hts, hK, hA, hN2, rfl⟩ := X
  intro H locs ls hP hD hS h
  obtain ⟨p1, p2⟩ := g9_pre X' hP hD hS
  refine va_callv (va_runIN (As := []) (rest := st) (host := host) ⟨hx, hb, hml, hown, hts⟩ (hM q H.size) (cw (hN2.1 _ hnest)) ⟨g9_blind, fun U hU hW => p1 U hU hW⟩ rfl rfl h.1 rfl (lv_room hW) d hr) hS (fun z _ hz => p2 z hz) p2 (fun u t9 H1 locs1 ht hvm hw hB hz1 hk1 hS1 => ?_)
  obtain ⟨hP1, hD1⟩ := hB
  rw [ht] at hP1
  obtain ⟨hP2, hD2⟩ := g9_join hP hD hk1 p2 hP1 hD1
  exact kk u H1 locs1 ls hP2 hD2 hS1 h
theorem g9_callI (X : g9_X p R s m args c A D t nL cc Ts own rm) {y : MethodName} {ws2 : List Cond} {rm2 : Room} {idx maxL mc ms q : Nat} {bytes : ByteArray} {ob : va_E} {wC : Nat → (Nat → Nat) → va_W} (hM : g9_C l y ws2 rm2 mc ms D t ob wC) (cw : CallB rm s args own idx y bytes maxL none ws2 rm2 mc ms 0 ∧ y.name = "<init>" ∧ (Cond.instanceMethod y).before args s = true) (hW : (st.map fun v => v.category).sum ≤ 8) (d : decode cc pc = .ok (.invokespecial idx, 3)) (hr : cells + mc ≤ rm.cells ∧ slots + ms ≤ rm.slots) (kk : ∀ u : Nat → Nat, g9_U p l e R s m args below meth c Q A D nL (cells + mc) (slots + ms) ws (wC q u ++ bs) (pc + 3) lv st) : g9_U p l e R s m args below meth c Q A D nL cells slots (ws ++ [(q, ob)]) bs pc lv (.ref q :: st) := by
  have X' := X
  obtain ⟨hx, hb, hml, hown, hts, hK, hA, hN2, rfl⟩ := X
  intro H locs ls hP hD hS h
  obtain ⟨p1, p2⟩ := g9_pre X' hP hD hS
  refine va_callv (va_runI (As := []) (rest := st) ⟨hx, hb, hml, hown, hts⟩ (hM q H.size) cw ⟨g9_blind, fun U hU hW => p1 U hU hW⟩ rfl rfl h.1 rfl (lv_room hW) d hr) hS (fun z _ hz => p2 z hz) p2 (fun u t9 H1 locs1 ht hvm hw hB hz1 hk1 hS1 => ?_)
  obtain ⟨hP1, hD1⟩ := hB
  rw [ht] at hP1
  obtain ⟨hP2, hD2⟩ := g9_join hP hD hk1 p2 hP1 hD1
  exact kk u H1 locs1 ls hP2 hD2 hS1 h
end G9R
