/-! Contracts out of walks; throws. -/
theorem k9_metI {l : Launch} {y : MethodName} {ws ws' : List Cond} {rm : Room} {G : k9_G} {M : k9_Mem} {av : List Value} {rv : Int32} {mv : k9_Mem} {cc : ByteArray} {maxL : Nat} {ty : FieldType} {own : String} (hy : plainName y.cls = true) (hown : y.cls = own) (hw : ws = Cond.code y cc maxL (some ty) :: ws') (hlen : (lg_sl av).length ≤ maxL) (hn : narrow ty (.int rv) = .int rv)
    (body : ∀ {p : Program} {e : Env} {s : State} {m : MethodId} {args : Array Value} {below : List Frame} {meth : Method} {c : Code} {A : Nat → Prop} {Q : State → Prop}, k9_X p rm s m args c A G maxL cc ws own rm → (∀ pc lv, decode cc pc = .ok (.ireturn, 1) → k9_U p l e rm s m args below meth c Q A G maxL 0 0 mv pc lv [.int rv]) → k9_U p l e rm s m args below meth c Q A G maxL 0 0 M 0 (lv_args 0 av) []) : k9_Ci l y ws rm G M av rv mv := by
  intro sz
  refine Met.ofW (cc := cc) (maxL := maxL) (ret := some ty) hy hw ?_
  intro p e s m args below meth c s₁ B hml hv
  obtain ⟨rfl, hsz, hP, hK, hD0, hSK⟩ := hv
  have hts := atoms_spec (ws := ws) B.pre
  have hown' : s.vm.findClass own = some m.cls := by rw [← hown]; exact findClass_of_methodNamed B.named
  subst hsz
  have hD := k9_A_D s.heap.size hD0
  have hl := lv_entry av hlen
  rw [lg_entry_eq]
  refine body (A := k9_A G s.heap.size) ⟨B.exec, B.bytes, hml, hown', hts, hK, fun q h => Or.inr h, hSK, rfl⟩ (fun pc lv d H locs ls hP hD hS h => ?_) s.heap [] _ hP hD va_S.rf hl
  exact W.zret B.exec B.bytes B.returns hn (fun t ht hW => ⟨⟨rv, mv, rfl, ⟨rfl, rfl⟩, by rw [k9_We, ht]; exact hP⟩, hS.F ht⟩) hS.2.2 d
theorem k9_metL {l : Launch} {y : MethodName} {ws ws' : List Cond} {rm : Room} {G : k9_G} {M : k9_Mem} {av : List Value} {rv : Int64} {mv : k9_Mem} {cc : ByteArray} {maxL : Nat} {own : String} (hy : plainName y.cls = true) (hown : y.cls = own) (hw : ws = Cond.code y cc maxL (some .long) :: ws') (hlen : (lg_sl av).length ≤ maxL)
    (body : ∀ {p : Program} {e : Env} {s : State} {m : MethodId} {args : Array Value} {below : List Frame} {meth : Method} {c : Code} {A : Nat → Prop} {Q : State → Prop}, k9_X p rm s m args c A G maxL cc ws own rm → (∀ pc lv, decode cc pc = .ok (.lreturn, 1) → k9_U p l e rm s m args below meth c Q A G maxL 0 0 mv pc lv [.long rv]) → k9_U p l e rm s m args below meth c Q A G maxL 0 0 M 0 (lv_args 0 av) []) : k9_Cl l y ws rm G M av rv mv := by
  intro sz
  refine Met.ofW (cc := cc) (maxL := maxL) (ret := some .long) hy hw ?_
  intro p e s m args below meth c s₁ B hml hv
  obtain ⟨rfl, hsz, hP, hK, hD0, hSK⟩ := hv
  have hts := atoms_spec (ws := ws) B.pre
  have hown' : s.vm.findClass own = some m.cls := by rw [← hown]; exact findClass_of_methodNamed B.named
  subst hsz
  have hD := k9_A_D s.heap.size hD0
  have hl := lv_entry av hlen
  rw [lg_entry_eq]
  refine body (A := k9_A G s.heap.size) ⟨B.exec, B.bytes, hml, hown', hts, hK, fun q h => Or.inr h, hSK, rfl⟩ (fun pc lv d H locs ls hP hD hS h => ?_) s.heap [] _ hP hD va_S.rf hl
  exact W.lret B.exec B.bytes B.returns (fun t ht hW => ⟨⟨rv, mv, rfl, ⟨rfl, rfl⟩, by rw [k9_We, ht]; exact hP⟩, hS.F ht⟩) hS.2.2 d
theorem k9_metD {l : Launch} {y : MethodName} {ws ws' : List Cond} {rm : Room} {G : k9_G} {M : k9_Mem} {av : List Value} {rv : UInt64} {mv : k9_Mem} {cc : ByteArray} {maxL : Nat} {own : String} (hy : plainName y.cls = true) (hown : y.cls = own) (hw : ws = Cond.code y cc maxL (some .double) :: ws') (hlen : (lg_sl av).length ≤ maxL)
    (body : ∀ {p : Program} {e : Env} {s : State} {m : MethodId} {args : Array Value} {below : List Frame} {meth : Method} {c : Code} {A : Nat → Prop} {Q : State → Prop}, k9_X p rm s m args c A G maxL cc ws own rm → (∀ pc lv, decode cc pc = .ok (.dreturn, 1) → k9_U p l e rm s m args below meth c Q A G maxL 0 0 mv pc lv [.double rv]) → k9_U p l e rm s m args below meth c Q A G maxL 0 0 M 0 (lv_args 0 av) []) : k9_Cd l y ws rm G M av rv mv := by
  intro sz
  refine Met.ofW (cc := cc) (maxL := maxL) (ret := some .double) hy hw ?_
  intro p e s m args below meth c s₁ B hml hv
  obtain ⟨rfl, hsz, hP, hK, hD0, hSK⟩ := hv
  have hts := atoms_spec (ws := ws) B.pre
  have hown' : s.vm.findClass own = some m.cls := by rw [← hown]; exact findClass_of_methodNamed B.named
  subst hsz
  have hD := k9_A_D s.heap.size hD0
  have hl := lv_entry av hlen
  rw [lg_entry_eq]
  refine body (A := k9_A G s.heap.size) ⟨B.exec, B.bytes, hml, hown', hts, hK, fun q h => Or.inr h, hSK, rfl⟩ (fun pc lv d H locs ls hP hD hS h => ?_) s.heap [] _ hP hD va_S.rf hl
  have hlocks := B.notSynchronized
  exact W.dret B.exec B.bytes B.returns (fun t ht hW => ⟨⟨rv, mv, rfl, ⟨rfl, rfl⟩, by rw [k9_We, ht]; exact hP⟩, hS.F ht⟩) hS.2.2 d
theorem k9_metV {l : Launch} {y : MethodName} {ws ws' : List Cond} {rm : Room} {G : k9_G} {M : k9_Mem} {av : List Value} {mv : k9_Mem} {cc : ByteArray} {maxL : Nat} {own : String} (hy : plainName y.cls = true) (hown : y.cls = own) (hw : ws = Cond.code y cc maxL none :: ws') (hlen : (lg_sl av).length ≤ maxL)
    (body : ∀ {p : Program} {e : Env} {s : State} {m : MethodId} {args : Array Value} {below : List Frame} {meth : Method} {c : Code} {A : Nat → Prop} {Q : State → Prop}, k9_X p rm s m args c A G maxL cc ws own rm → (∀ pc lv, decode cc pc = .ok (.return_, 1) → k9_U p l e rm s m args below meth c Q A G maxL 0 0 mv pc lv []) → k9_U p l e rm s m args below meth c Q A G maxL 0 0 M 0 (lv_args 0 av) []) : k9_Cv l y ws rm G M av mv := by
  intro sz
  refine Met.ofW (cc := cc) (maxL := maxL) (ret := none) hy hw ?_
  intro p e s m args below meth c s₁ B hml hv
  obtain ⟨rfl, hsz, hP, hK, hD0, hSK⟩ := hv
  have hts := atoms_spec (ws := ws) B.pre
  have hown' : s.vm.findClass own = some m.cls := by rw [← hown]; exact findClass_of_methodNamed B.named
  subst hsz
  have hD := k9_A_D s.heap.size hD0
  have hl := lv_entry av hlen
  rw [lg_entry_eq]
  refine body (A := k9_A G s.heap.size) ⟨B.exec, B.bytes, hml, hown', hts, hK, fun q h => Or.inr h, hSK, rfl⟩ (fun pc lv d H locs ls hP hD hS h => ?_) s.heap [] _ hP hD va_S.rf hl
  exact W.vret B.exec B.bytes B.returns (fun t ht hW => ⟨⟨mv, rfl, rfl, by rw [k9_We, ht]; exact hP⟩, hS.F ht⟩) hS.2.2 d
