/-! Throws, and contracts of methods that throw. -/
abbrev k9_nm : List String := ["java/lang/RuntimeException", "java/lang/Exception"]
def k9_bad (E : String) : List Cond := [.castable E E, .declares (Bundle.initS "java/lang/RuntimeException"), .declares (Bundle.initS "java/lang/Exception"), .declares (Bundle.initS Bundle.tN)]
theorem k9_bad_ok {G : k9_G} {A : Nat → Prop} {s : State} {H : Heap} {args : Array Value} {E : String} (h : k9_SK G A s H) (hE : E ∈ k9_cast) : ∀ w ∈ k9_bad E, w.before args s = true := by
  obtain ⟨-, -, -, -, -, -, -, h8, h9⟩ := h
  intro w hw
  simp only [k9_bad, List.mem_cons, List.not_mem_nil, or_false] at hw
  rcases hw with rfl | rfl | rfl | rfl
  · exact va_Nw.use rfl (h8 E hE)
  · exact va_Nw.use rfl (h9 _ (by simp [k9_decl]))
  · exact va_Nw.use rfl (h9 _ (by simp [k9_decl]))
  · exact va_Nw.use rfl (h9 _ (by simp [k9_decl]))
section K9T
variable {p : Program} {l : Launch} {e : Env} {R : Room} {s : State} {m : MethodId} {args : Array Value} {below : List Frame} {meth : Method} {c : Code} {A : Nat → Prop} {G : k9_G} {nL cells slots : Nat} {M : k9_Mem} {pc : Nat} {lv : List (Nat × Value)} {st : List Value} {cc : ByteArray} {Ts : List Cond} {own : String} {rm : Room}
theorem k9_xc {H : Heap} {locs : List Loc} {x : Option String} {E : String} (hP : va_P G.1 vwCl (k9_wl G M) H) (hS : va_S A s.heap H locs) (hx : x = some E) {t : State} (hz : H.size ≤ t.heap.size) (hk : ∀ q : Nat, q < H.size → t.heap[q]? = H[q]?) : k9_XC G M x A E s t :=
  ⟨(), trivial, ⟨hx, hP.kept (fun k q hq => hk q.1 (hP k q hq).lt)⟩, Nat.le_trans hS.1 hz, fun q h1 h2 => (hk q (Nat.lt_of_lt_of_le h1 hS.1)).trans (hS.2.1 q h1 h2)⟩
theorem k9_thr {Qc : Array Value → State → Outcome → State → Prop} {x : Option String} {E text : String} {mc ms ik is ic : Nat} (X : k9_X p R s m args c A G nL cc Ts own rm) (hl : l.stackTraces = false) (hlocks : meth.locks = false) (htab : ∀ z ∈ c.exceptionTable.toList, False) (hE : Bundle.fit E = true)
    (hk : Cond.classLink own ik E ∈ Ts) (hini : Cond.initialized E ∈ Ts) (hstr : (own, is, text) ∈ k9_strs) (hat : ∀ w ∈ (vx_atS own ic E k9_nm).filter goodWord, w ∈ Ts) (hbad : ∀ w ∈ (vx_atS own ic E k9_nm).filter (fun w => !goodWord w), w ∈ k9_bad E) (hEc : E ∈ k9_cast) (hgood : ∀ w ∈ Cond.classLink own ik E :: Cond.initialized E :: vx_atS own ic E k9_nm, vx_ot w = true)
    (d0 : decode cc pc = .ok (.new ik, 3)) (d3 : decode cc (pc + 3) = .ok (.dup, 1)) (d4 : decode cc (pc + 4) = .ok (.ldc is, 2)) (d6 : decode cc (pc + 6) = .ok (.invokespecial ic, 3)) (d9 : decode cc (pc + 9) = .ok (.athrow, 1))
    (hx : x = some E) (hc : cells + 1 ≤ mc) (hs : slots + 6 ≤ ms) (hr : 6 ≤ rm.frames ∧ 82 ≤ rm.locals ∧ cells + 1 ≤ rm.cells ∧ slots + 6 ≤ rm.slots) : k9_U p l e R s m args below meth c (vx_MQ below Qc (k9_XC G M x A) args s mc ms A) A G nL cells slots M pc lv [] := by
  obtain ⟨hx0, hb, hml, hown, hts, hK, hA, hSK, rfl⟩ := X
  intro H locs ls hP hD hS h
  obtain ⟨sa, hsa⟩ := hSK.2.2.2.2.1 _ hstr
  exact vx_throwS (names := k9_nm) hx0 hb hl hown hE (by decide +kernel) (hts _ hk) (hts _ hini) hsa (vx_hat (fun w hw => hts w (hat w hw)) hbad (k9_bad_ok hSK hEc)) hgood hSK.2.2.1 hSK.2.2.2.1 hS (by rw [hml, h.1]) d0 d3 d4 d6 d9 (fun z hz => (htab z hz).elim) (by show 2 + 3 < _; omega) (by show 0 + (13 * 3 + 43) ≤ _; omega) hr.2.2.1 hr.2.2.2 hlocks (fun t _ hz hk => k9_xc hP hS hx hz hk) hS.2.2 hc hs
theorem k9_thrW {Qc : Array Value → State → Outcome → State → Prop} {x : Option String} {E text : String} {mc ms ik is ic : Nat} (X : k9_X p R s m args c A G nL cc Ts own rm) (hl : l.stackTraces = false) (hlocks : meth.locks = false) (htab : ∀ z ∈ c.exceptionTable.toList, False) (hE : Bundle.fit E = true)
    (hk : Cond.classLink own ik E ∈ Ts) (hini : Cond.initialized E ∈ Ts) (hstr : (own, is, text) ∈ k9_strs) (hat : ∀ w ∈ (vx_atS own ic E k9_nm).filter goodWord, w ∈ Ts) (hbad : ∀ w ∈ (vx_atS own ic E k9_nm).filter (fun w => !goodWord w), w ∈ k9_bad E) (hEc : E ∈ k9_cast) (hgood : ∀ w ∈ Cond.classLink own ik E :: Cond.initialized E :: vx_atS own ic E k9_nm, vx_ot w = true)
    (d0 : decode cc pc = .ok (.new ik, 3)) (d3 : decode cc (pc + 3) = .ok (.dup, 1)) (d4 : decode cc (pc + 4) = .ok (.ldc_w is, 3)) (d7 : decode cc (pc + 7) = .ok (.invokespecial ic, 3)) (d10 : decode cc (pc + 10) = .ok (.athrow, 1))
    (hx : x = some E) (hc : cells + 1 ≤ mc) (hs : slots + 6 ≤ ms) (hr : 6 ≤ rm.frames ∧ 82 ≤ rm.locals ∧ cells + 1 ≤ rm.cells ∧ slots + 6 ≤ rm.slots) : k9_U p l e R s m args below meth c (vx_MQ below Qc (k9_XC G M x A) args s mc ms A) A G nL cells slots M pc lv [] := by
  obtain ⟨hx0, hb, hml, hown, hts, hK, hA, hSK, rfl⟩ := X
  intro H locs ls hP hD hS h
  obtain ⟨sa, hsa⟩ := hSK.2.2.2.2.1 _ hstr
  exact vx_throwSW (names := k9_nm) hx0 hb hl hown hE (by decide +kernel) (hts _ hk) (hts _ hini) hsa (vx_hat (fun w hw => hts w (hat w hw)) hbad (k9_bad_ok hSK hEc)) hgood hSK.2.2.1 hSK.2.2.2.1 hS (by rw [hml, h.1]) d0 d3 d4 d7 d10 (fun z hz => (htab z hz).elim) (by show 2 + 3 < _; omega) (by show 0 + (13 * 3 + 43) ≤ _; omega) hr.2.2.1 hr.2.2.2 hlocks (fun t _ hz hk => k9_xc hP hS hx hz hk) hS.2.2 hc hs
/-- a throw that a callee has thrown goes on -/
theorem k9_outX {Qc : Array Value → State → Outcome → State → Prop} {x : Option String} {E : String} {mc ms : Nat} (hlocks : meth.locks = false) (htab : ∀ z ∈ c.exceptionTable.toList, False) (hx : x = some E) (hc : cells ≤ mc) (hs : slots ≤ ms) : k9_UX p l e R s m args below meth c (vx_MQ below Qc (k9_XC G M x A) args s mc ms A) A G nL cells slots M pc lv st E := by
  intro H locs ls q ce hP hD hS h h1 h2 h3
  exact vx_out (fun z hz => (htab z hz).elim) hlocks h1 h2 h3 (fun t ht _ => k9_xc hP hS hx (by rw [ht]; exact Nat.le_refl _) (fun _ _ => by rw [ht])) hS.2.2 hc hs
end K9T
/-- a body that throws: what it is given -/
def k9_end (l : Launch) (meth : Method) (c : Code) : Prop := l.stackTraces = false ∧ meth.locks = false ∧ ∀ z ∈ c.exceptionTable.toList, False
theorem k9_metXi {l : Launch} (hl : l.stackTraces = false) {y : MethodName} {ws ws' : List Cond} {rm : Room} {mc ms : Nat} {G : k9_G} {M : k9_Mem} {av : List Value} {x : Option String} {rv : Int32} {mv : k9_Mem} {cc : ByteArray} {maxL : Nat} {ty : FieldType} {own : String} (hy : plainName y.cls = true) (hown : y.cls = own) (hw : ws = Cond.code y cc maxL (some ty) :: ws') (hlen : (lg_sl av).length ≤ maxL) (hn : narrow ty (.int rv) = .int rv)
    (body : ∀ {p : Program} {e : Env} {s : State} {m : MethodId} {args : Array Value} {below : List Frame} {meth : Method} {c : Code} {A : Nat → Prop} {Qc : Array Value → State → Outcome → State → Prop}, k9_X p rm s m args c A G maxL cc ws own rm → k9_end l meth c → (x = none → ∀ k n pc lv, k ≤ mc → n ≤ ms → decode cc pc = .ok (.ireturn, 1) → k9_U p l e rm s m args below meth c (vx_MQ below Qc (k9_XC G M x A) args s mc ms A) A G maxL k n mv pc lv [.int rv]) → k9_U p l e rm s m args below meth c (vx_MQ below Qc (k9_XC G M x A) args s mc ms A) A G maxL 0 0 M 0 (lv_args 0 av) []) : k9_Cxi l y ws rm mc ms G M av x rv mv := by
  intro sz
  refine vx_ofW (cc := cc) (maxL := maxL) (ret := some ty) hy hw ?_
  intro p e s m args below meth c s₁ B hml htab hv
  obtain ⟨rfl, hsz, hP, hK, hD0, hSK⟩ := hv
  have hts := atoms_spec (ws := ws) B.pre
  have hown' : s.vm.findClass own = some m.cls := by rw [← hown]; exact findClass_of_methodNamed B.named
  subst hsz
  have hD := k9_A_D s.heap.size hD0
  have hl2 := lv_entry av hlen
  rw [lg_entry_eq]
  refine body (A := k9_A G s.heap.size) ⟨B.exec, B.bytes, hml, hown', hts, hK, fun q h => Or.inr h, hSK, rfl⟩ ⟨hl, B.notSynchronized, htab⟩ (fun hxn k n pc lv hk hn2 d H locs ls hP hD hS h => ?_) s.heap [] _ hP hD va_S.rf hl2
  refine W.widen hk hn2 (vx_ret ?_)
  exact W.zret B.exec B.bytes B.returns hn (fun t ht hW => ⟨⟨rv, mv, rfl, ⟨hxn, rfl, rfl⟩, by rw [k9_We, ht]; exact hP⟩, hS.F ht⟩) hS.2.2 d
theorem k9_metXv {l : Launch} (hl : l.stackTraces = false) {y : MethodName} {ws ws' : List Cond} {rm : Room} {mc ms : Nat} {G : k9_G} {M : k9_Mem} {av : List Value} {x : Option String} {mv : k9_Mem} {cc : ByteArray} {maxL : Nat} {own : String} (hy : plainName y.cls = true) (hown : y.cls = own) (hw : ws = Cond.code y cc maxL none :: ws') (hlen : (lg_sl av).length ≤ maxL)
    (body : ∀ {p : Program} {e : Env} {s : State} {m : MethodId} {args : Array Value} {below : List Frame} {meth : Method} {c : Code} {A : Nat → Prop} {Qc : Array Value → State → Outcome → State → Prop}, k9_X p rm s m args c A G maxL cc ws own rm → k9_end l meth c → (x = none → ∀ k n pc lv, k ≤ mc → n ≤ ms → decode cc pc = .ok (.return_, 1) → k9_U p l e rm s m args below meth c (vx_MQ below Qc (k9_XC G M x A) args s mc ms A) A G maxL k n mv pc lv []) → k9_U p l e rm s m args below meth c (vx_MQ below Qc (k9_XC G M x A) args s mc ms A) A G maxL 0 0 M 0 (lv_args 0 av) []) : k9_Cxv l y ws rm mc ms G M av x mv := by
  intro sz
  refine vx_ofW (cc := cc) (maxL := maxL) (ret := none) hy hw ?_
  intro p e s m args below meth c s₁ B hml htab hv
  obtain ⟨rfl, hsz, hP, hK, hD0, hSK⟩ := hv
  have hts := atoms_spec (ws := ws) B.pre
  have hown' : s.vm.findClass own = some m.cls := by rw [← hown]; exact findClass_of_methodNamed B.named
  subst hsz
  have hD := k9_A_D s.heap.size hD0
  have hl2 := lv_entry av hlen
  rw [lg_entry_eq]
  refine body (A := k9_A G s.heap.size) ⟨B.exec, B.bytes, hml, hown', hts, hK, fun q h => Or.inr h, hSK, rfl⟩ ⟨hl, B.notSynchronized, htab⟩ (fun hxn k n pc lv hk hn2 d H locs ls hP hD hS h => ?_) s.heap [] _ hP hD va_S.rf hl2
  refine W.widen hk hn2 (vx_ret ?_)
  exact W.vret B.exec B.bytes B.returns (fun t ht hW => ⟨⟨mv, rfl, ⟨hxn, rfl⟩, by rw [k9_We, ht]; exact hP⟩, hS.F ht⟩) hS.2.2 d
theorem k9_tA : ∀ w ∈ (vx_atS RX6 52 "java/lang/IndexOutOfBoundsException" k9_nm).filter (fun w => !goodWord w), w ∈ k9_bad "java/lang/IndexOutOfBoundsException" := by decide +kernel
