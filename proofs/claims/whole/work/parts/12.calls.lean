/-! Objects, fields, references, calls, ends: the rest of the rows. -/
abbrev k9_isC (k : Nat) : Prop := k ∈ [6, 14, 22, 30, 38, 46, 54, 59, 73]
abbrev k9_isP (k : Nat) : Prop := k ∈ [1, 9, 17, 25, 33, 41, 49]
def k9_ob (k ci : Nat) (C : String) : Prop := k < 90 ∧ (∃ T N, vwCl[ci]? = some (C, T, N)) ∧ ∀ (G : k9_G) (f : Nat → Int32), ∃ fs, k9_ce G f k = .inr (ci, fs)
theorem k9_ce_C {k : Nat} (h : k9_isC k) (G : k9_G) (f : Nat → Int32) : k < 90 ∧ k9_ce G f k = k9_chO G k ∧ k9_ar (k + 1) 96 ∧ k9_ar (k + 2) 96 := by
  simp only [k9_isC, List.mem_cons, List.not_mem_nil, or_false] at h
  rcases h with rfl | rfl | rfl | rfl | rfl | rfl | rfl | rfl | rfl <;> exact ⟨by decide, rfl, ⟨by decide, rfl, by decide⟩, ⟨by decide, rfl, by decide⟩⟩
theorem k9_ce_P {k : Nat} (h : k9_isP k) (G : k9_G) (f : Nat → Int32) : k < 90 ∧ k9_ce G f k = k9_paO G f k ∧ k9_ar (k + 1) 96 ∧ k9_ar (k + 2) 96 ∧ k9_ar (k + 3) 96 ∧ k9_ar (k + 4) 96 ∧ k9_isC (k + 5) := by
  simp only [k9_isP, List.mem_cons, List.not_mem_nil, or_false] at h
  rcases h with rfl | rfl | rfl | rfl | rfl | rfl | rfl <;> exact ⟨by decide, rfl, ⟨by decide, rfl, by decide⟩, ⟨by decide, rfl, by decide⟩, ⟨by decide, rfl, by decide⟩, ⟨by decide, rfl, by decide⟩, by decide⟩
theorem k9_ob_C {k : Nat} (h : k9_isC k) : k9_ob k 0 RX0 := ⟨(k9_ce_C h (default : k9_G) (fun _ => 0)).1, ⟨_, _, rfl⟩, fun G f => ⟨_, (k9_ce_C h G f).2.1⟩⟩
theorem k9_ob_P {k : Nat} (h : k9_isP k) : k9_ob k 3 RX3 := ⟨(k9_ce_P h (default : k9_G) (fun _ => 0)).1, ⟨_, _, rfl⟩, fun G f => ⟨_, (k9_ce_P h G f).2.1⟩⟩
theorem k9_ob_0 : k9_ob 0 6 RX6 := ⟨by decide, ⟨_, _, rfl⟩, fun _ _ => ⟨_, rfl⟩⟩
theorem k9_ob_57 : k9_ob 57 1 RX1 := ⟨by decide, ⟨_, _, rfl⟩, fun _ _ => ⟨_, rfl⟩⟩
theorem k9_ob_64 : k9_ob 64 4 RX4 := ⟨by decide, ⟨_, _, rfl⟩, fun _ _ => ⟨_, rfl⟩⟩
theorem k9_ob_66 : k9_ob 66 2 RX2 := ⟨by decide, ⟨_, _, rfl⟩, fun _ _ => ⟨_, rfl⟩⟩
theorem k9_ob_71 : k9_ob 71 5 RX5 := ⟨by decide, ⟨_, _, rfl⟩, fun _ _ => ⟨_, rfl⟩⟩
theorem k9_ob_76 : k9_ob 76 7 RX7 := ⟨by decide, ⟨_, _, rfl⟩, fun _ _ => ⟨_, rfl⟩⟩
theorem k9_lg_gl (x : Int64) : k9_lg (k9_gl x) = x := by
  have h : (x.toBitVec.extractLsb' 32 32 ++ x.toBitVec.extractLsb' 0 32 : BitVec 64) = x.toBitVec := by
    apply BitVec.eq_of_getLsbD_eq
    intro i hi
    rw [BitVec.getLsbD_append]
    by_cases h : i < 32
    · simp [h]
    · have h1 : i - 32 < 32 := by omega
      have h2 : 32 + (i - 32) = i := by omega
      simp [h, h1, h2]
  show Int64.ofBitVec (x.toBitVec.extractLsb' 32 32 ++ x.toBitVec.extractLsb' 0 32 : BitVec 64) = x
  rw [h]
  rfl
def k9_UX (p : Program) (l : Launch) (e : Env) (R : Room) (s : State) (m : MethodId) (args : Array Value) (below : List Frame) (meth : Method) (c : Code) (Q : State → Prop) (A : Nat → Prop) (G : k9_G) (nL cells slots : Nat) (M : k9_Mem) (pc : Nat) (lv : List (Nat × Value)) (st : List Value) (E : String) : Prop :=
  ∀ (H : Heap) (locs : List Loc) (ls : Array Slot) (q : Addr) (ce : Cell), va_P G.1 vwCl (k9_wl G M) H → va_D A (k9_wl G M) → va_S A s.heap H locs → lv_has ls nL lv → H[q]? = some ce → ce.vm = .none → s.vm.findClass E = some ce.cls → vx_W p l e R s m args below meth c H locs cells slots Q (F0 m pc ls st) q
section K9C
variable {p : Program} {l : Launch} {e : Env} {R : Room} {s : State} {m : MethodId} {args : Array Value} {below : List Frame} {meth : Method} {c : Code} {Q : State → Prop} {A : Nat → Prop} {G : k9_G} {nL cells slots : Nat} {M : k9_Mem} {pc : Nat} {lv lv' : List (Nat × Value)} {st : List Value} {cc : ByteArray} {Ts : List Cond} {own : String} {rm : Room}
theorem k9_get (X : k9_X p R s m args c A G nL cc Ts own rm) {q ci idx : Nat} {C : String} {T : u_T} {N k : Nat} {fs : List Value} {v : Value} (hq : q < 90) (he : k9_ce G (M q) q = .inr (ci, fs)) (hc : vwCl[ci]? = some (C, T, N)) (hk : k < N) (hin : ∀ w ∈ u_ws C T N, w ∈ Ts) (hl : Cond.fieldLink own idx (T k).1 (T k).2.1 (T k).2.2.1 ∈ Ts) (hv : fs[k]? = some v) (d : decode cc pc = .ok (.getfield idx, 3)) (kk : k9_U p l e R s m args below meth c Q A G nL cells slots M (pc + 3) lv (v :: st)) : k9_U p l e R s m args below meth c Q A G nL cells slots M pc lv (.ref (k9_ga G q) :: st) := fun H locs ls hP hD hS h => va_get X.1 X.2.1 X.2.2.2.2.1 hin X.2.2.2.1 X.2.2.2.2.2.1 hP q (by rw [k9_wl_get G M hq, he]) hc k hk (X.2.2.2.2.1 _ hl) (fun _ h9 => h9) hv d (kk H locs ls hP hD hS h)
theorem k9_put (X : k9_X p R s m args c A G nL cc Ts own rm) {q ci idx : Nat} {C : String} {T : u_T} {N k : Nat} {fs : List Value} {v : Value} {ty : FieldType} {ty0 : Nat → FieldType} {f' : Nat → Int32} (hq : q < 90) (he : k9_ce G (M q) q = .inr (ci, fs)) (hc : vwCl[ci]? = some (C, T, N)) (hk : k < N) (hty : ∀ k, k < N → parseFieldDescriptor (T k).2.2.1 = some (ty0 k)) (hnm : ∀ a, a < N → ∀ b, b < N → a ≠ b → (T a).2.1 ≠ (T b).2.1) (hin : ∀ w ∈ u_ws C T N, w ∈ Ts) (hl : Cond.fieldLink own idx (T k).1 (T k).2.1 (T k).2.2.1 ∈ Ts) (hfin : (T k).2.2.2 = false) (hd : parseFieldDescriptor (T k).2.2.1 = some ty) (hn : narrow ty v = v) (hfit : fits ty v = true) (hlen : k < fs.length) (he' : .inr (ci, fs.set k v) = k9_ce G f' q) (d : decode cc pc = .ok (.putfield idx, 3)) (kk : k9_U p l e R s m args below meth c Q A G nL cells slots (k9_sc M q f') (pc + 3) lv st) : k9_U p l e R s m args below meth c Q A G nL cells slots M pc lv (v :: .ref (k9_ga G q) :: st) := fun H locs ls hP hD hS h => va_put X.1 X.2.1 X.2.2.2.2.1 hin ty0 hty hnm X.2.2.2.1 X.2.2.2.2.2.1 hP hD hS q (by rw [k9_wl_get G M hq, he]) hc k hk (X.2.2.2.2.1 _ hl) (fun _ h9 => h9) hfin hd hn hfit hlen d (fun H1 locs1 hP1 _ hS1 => kk H1 locs1 ls (by
  rw [← k9_wl_set, ← he']
  exact hP1) (k9_D hD _) hS1 h)
theorem k9_ce_65 (G : k9_G) (f : Nat → Int32) : k9_ce G f 65 = .inl (G.2.2.2.1, 6, .inr (.inr (.inr (.inr (fun j => some (k9_ga G (k9_pc (f j)))))))) := rfl
theorem k9_aald (X : k9_X p R s m args c A G nL cc Ts own rm) {i : Int32} (hin : vp_in i 6) (d : decode cc pc = .ok (.aaload, 1)) (kk : k9_U p l e R s m args below meth c Q A G nL cells slots M (pc + 1) lv (.ref (k9_ga G (k9_pc (M 65 i.toNatClampNeg))) :: st)) : k9_U p l e R s m args below meth c Q A G nL cells slots M pc lv (.int i :: .ref (k9_ga G 65) :: st) := fun H locs ls hP hD hS h => va_aldq (f := fun j => some (k9_ga G (k9_pc (M 65 j)))) X.1 X.2.1 X.2.2.2.2.2.1 hP 65 1 (by rw [k9_wl_get G M (by decide), k9_ce_65]) rfl hin d (kk H locs ls hP hD hS h)
theorem k9_aast (X : k9_X p R s m args c A G nL cc Ts own rm) {i x : Int32} (hin : vp_in i 6) (hx : k9_isP (k9_pc x)) (d : decode cc pc = .ok (.aastore, 1)) (kk : k9_U p l e R s m args below meth c Q A G nL cells slots (k9_st M 65 i.toNatClampNeg x) (pc + 1) lv st) : k9_U p l e R s m args below meth c Q A G nL cells slots M pc lv (.ref (k9_ga G (k9_pc x)) :: .int i :: .ref (k9_ga G 65) :: st) := fun H locs ls hP hD hS h => va_astq X.1 X.2.1 X.2.2.2.2.2.1 hP hD hS 65 1 (k9_pc x) 3 (by rw [k9_wl_get G M (by decide), k9_ce_65]) (r := (RX3, TX3, 7)) rfl (by rw [k9_wl_get G M (k9_ce_P hx G (M (k9_pc x))).1, (k9_ce_P hx G (M (k9_pc x))).2.1]; rfl) rfl hin d (fun H1 locs1 hP1 _ hS1 => kk H1 locs1 ls (by
  rw [k9_st, ← k9_wl_set, k9_ce_65]
  rw [show (fun j => some (k9_ga G (k9_pc (upd (M 65) i.toNatClampNeg x j)))) = va_up (fun j => some (k9_ga G (k9_pc (M 65 j)))) i.toNatClampNeg (some (k9_ga G (k9_pc x))) by
    funext j
    by_cases hj : j = i.toNatClampNeg <;> simp [upd, va_up, hj]]
  exact hP1) (k9_D hD _) hS1 h)
end K9C
section K9D
variable {p : Program} {l : Launch} {e : Env} {R : Room} {s : State} {m : MethodId} {args : Array Value} {below : List Frame} {meth : Method} {c : Code} {Q : State → Prop} {A : Nat → Prop} {G : k9_G} {nL cells slots : Nat} {M : k9_Mem} {pc : Nat} {lv lv' : List (Nat × Value)} {st : List Value} {cc : ByteArray} {Ts : List Cond} {own : String} {rm : Room}
theorem k9_pre {G : k9_G} {M : k9_Mem} {A : Nat → Prop} {s : State} {H : Heap} {locs : List Loc} {av : List Value} (hK : va_K G.1 vwCl (k9_tys G) s) (hA : ∀ q, s.heap.size ≤ q → A q) (hSK : k9_SK G A s s.heap) (hP : va_P G.1 vwCl (k9_wl G M) H) (hD : va_D A (k9_wl G M)) (hS : va_S A s.heap H locs) : ∀ U : State, U.heap = H → s.WarmedH U.vm → va_Pc av (k9_Pr G M H.size) av.toArray U := by
  intro U hU hW
  refine ⟨rfl, by rw [hU], by rw [hU]; exact hP, va_K.moved hW.alike hK, hD.weaken (fun _ _ _ _ => trivial), ?_⟩
  rw [hU]
  exact k9_SK_warm hW (k9_SK_kept hSK hS.2.1 (k9_A_in hD hA hS.1))
theorem k9_callVi0 (X : k9_X p R s m args c A G nL cc Ts own rm) {y : MethodName} {ws : List Cond} {rm2 : Room} {idx ci q maxL : Nat} {C : String} {bytes : ByteArray} {ret : Option FieldType} {mv : k9_Mem} {rv : Int32} (hM : k9_Ci l y ws rm2 G M (.ref (k9_ga G q) :: []) rv mv) (ho : k9_ob q ci C) (cw : CallW rm s args own C idx y bytes maxL ret ws rm2 0 0 0) (hW : (st.map fun v => v.category).sum ≤ 8) (d : decode cc pc = .ok (.invokevirtual idx, 3)) (hr : cells ≤ rm.cells ∧ slots ≤ rm.slots) (kk : k9_U p l e R s m args below meth c Q A G nL cells slots mv (pc + 3) lv (.int rv :: st)) : k9_U p l e R s m args below meth c Q A G nL cells slots M pc lv (.ref (k9_ga G q) :: st) := by
  obtain ⟨hx, hb, hml, hown, hts, hK, hA, hSK, rfl⟩ := X
  intro H locs ls hP hD hS h
  obtain ⟨hq, ⟨T, N, hc⟩, hce⟩ := ho
  obtain ⟨fs, hfs⟩ := hce G (M q)
  refine va_calli (va_runV (As := []) (rest := st) ⟨hx, hb, hml, hown, hts⟩ (hM H.size) cw ⟨k9_blind, va_recv hK hP hc (q0 := q) (by rw [k9_wl_get G M hq, hfs]), k9_pre hK hA hSK hP hD hS⟩ rfl rfl h.1 rfl (lv_room hW) d ⟨by omega, by omega⟩) hS (fun z _ hz => k9_A_in hD hA hS.1 z hz) (k9_A_in hD hA hS.1) (fun r u t H1 locs1 ht hvm hw hB hz1 hk1 hS1 => ?_)
  obtain ⟨rfl, rfl⟩ := hw
  exact kk H1 locs1 ls (by rw [k9_We, ht] at hB; exact hB) (k9_D hD _) hS1 h
theorem k9_callVi1 (X : k9_X p R s m args c A G nL cc Ts own rm) {y : MethodName} {ws : List Cond} {rm2 : Room} {idx ci q maxL : Nat} {C : String} {bytes : ByteArray} {ret : Option FieldType} {mv : k9_Mem} {rv : Int32} {w0 : Value} (hM : k9_Ci l y ws rm2 G M (.ref (k9_ga G q) :: [w0]) rv mv) (ho : k9_ob q ci C) (cw : CallW rm s args own C idx y bytes maxL ret ws rm2 0 0 1) (hW : (st.map fun v => v.category).sum ≤ 8) (d : decode cc pc = .ok (.invokevirtual idx, 3)) (hr : cells ≤ rm.cells ∧ slots ≤ rm.slots) (kk : k9_U p l e R s m args below meth c Q A G nL cells slots mv (pc + 3) lv (.int rv :: st)) : k9_U p l e R s m args below meth c Q A G nL cells slots M pc lv (w0 :: .ref (k9_ga G q) :: st) := by
  obtain ⟨hx, hb, hml, hown, hts, hK, hA, hSK, rfl⟩ := X
  intro H locs ls hP hD hS h
  obtain ⟨hq, ⟨T, N, hc⟩, hce⟩ := ho
  obtain ⟨fs, hfs⟩ := hce G (M q)
  refine va_calli (va_runV (As := [w0]) (rest := st) ⟨hx, hb, hml, hown, hts⟩ (hM H.size) cw ⟨k9_blind, va_recv hK hP hc (q0 := q) (by rw [k9_wl_get G M hq, hfs]), k9_pre hK hA hSK hP hD hS⟩ rfl rfl h.1 rfl (lv_room hW) d ⟨by omega, by omega⟩) hS (fun z _ hz => k9_A_in hD hA hS.1 z hz) (k9_A_in hD hA hS.1) (fun r u t H1 locs1 ht hvm hw hB hz1 hk1 hS1 => ?_)
  obtain ⟨rfl, rfl⟩ := hw
  exact kk H1 locs1 ls (by rw [k9_We, ht] at hB; exact hB) (k9_D hD _) hS1 h
theorem k9_callVi2 (X : k9_X p R s m args c A G nL cc Ts own rm) {y : MethodName} {ws : List Cond} {rm2 : Room} {idx ci q maxL : Nat} {C : String} {bytes : ByteArray} {ret : Option FieldType} {mv : k9_Mem} {rv : Int32} {w0 w1 : Value} (hM : k9_Ci l y ws rm2 G M (.ref (k9_ga G q) :: [w0, w1]) rv mv) (ho : k9_ob q ci C) (cw : CallW rm s args own C idx y bytes maxL ret ws rm2 0 0 2) (hW : (st.map fun v => v.category).sum ≤ 8) (d : decode cc pc = .ok (.invokevirtual idx, 3)) (hr : cells ≤ rm.cells ∧ slots ≤ rm.slots) (kk : k9_U p l e R s m args below meth c Q A G nL cells slots mv (pc + 3) lv (.int rv :: st)) : k9_U p l e R s m args below meth c Q A G nL cells slots M pc lv (w1 :: w0 :: .ref (k9_ga G q) :: st) := by
  obtain ⟨hx, hb, hml, hown, hts, hK, hA, hSK, rfl⟩ := X
  intro H locs ls hP hD hS h
  obtain ⟨hq, ⟨T, N, hc⟩, hce⟩ := ho
  obtain ⟨fs, hfs⟩ := hce G (M q)
  refine va_calli (va_runV (As := [w0, w1]) (rest := st) ⟨hx, hb, hml, hown, hts⟩ (hM H.size) cw ⟨k9_blind, va_recv hK hP hc (q0 := q) (by rw [k9_wl_get G M hq, hfs]), k9_pre hK hA hSK hP hD hS⟩ rfl rfl h.1 rfl (lv_room hW) d ⟨by omega, by omega⟩) hS (fun z _ hz => k9_A_in hD hA hS.1 z hz) (k9_A_in hD hA hS.1) (fun r u t H1 locs1 ht hvm hw hB hz1 hk1 hS1 => ?_)
  obtain ⟨rfl, rfl⟩ := hw
  exact kk H1 locs1 ls (by rw [k9_We, ht] at hB; exact hB) (k9_D hD _) hS1 h
theorem k9_callVi3 (X : k9_X p R s m args c A G nL cc Ts own rm) {y : MethodName} {ws : List Cond} {rm2 : Room} {idx ci q maxL : Nat} {C : String} {bytes : ByteArray} {ret : Option FieldType} {mv : k9_Mem} {rv : Int32} {w0 w1 w2 : Value} (hM : k9_Ci l y ws rm2 G M (.ref (k9_ga G q) :: [w0, w1, w2]) rv mv) (ho : k9_ob q ci C) (cw : CallW rm s args own C idx y bytes maxL ret ws rm2 0 0 3) (hW : (st.map fun v => v.category).sum ≤ 8) (d : decode cc pc = .ok (.invokevirtual idx, 3)) (hr : cells ≤ rm.cells ∧ slots ≤ rm.slots) (kk : k9_U p l e R s m args below meth c Q A G nL cells slots mv (pc + 3) lv (.int rv :: st)) : k9_U p l e R s m args below meth c Q A G nL cells slots M pc lv (w2 :: w1 :: w0 :: .ref (k9_ga G q) :: st) := by
  obtain ⟨hx, hb, hml, hown, hts, hK, hA, hSK, rfl⟩ := X
  intro H locs ls hP hD hS h
  obtain ⟨hq, ⟨T, N, hc⟩, hce⟩ := ho
  obtain ⟨fs, hfs⟩ := hce G (M q)
  refine va_calli (va_runV (As := [w0, w1, w2]) (rest := st) ⟨hx, hb, hml, hown, hts⟩ (hM H.size) cw ⟨k9_blind, va_recv hK hP hc (q0 := q) (by rw [k9_wl_get G M hq, hfs]), k9_pre hK hA hSK hP hD hS⟩ rfl rfl h.1 rfl (lv_room hW) d ⟨by omega, by omega⟩) hS (fun z _ hz => k9_A_in hD hA hS.1 z hz) (k9_A_in hD hA hS.1) (fun r u t H1 locs1 ht hvm hw hB hz1 hk1 hS1 => ?_)
  obtain ⟨rfl, rfl⟩ := hw
  exact kk H1 locs1 ls (by rw [k9_We, ht] at hB; exact hB) (k9_D hD _) hS1 h
theorem k9_callVi4 (X : k9_X p R s m args c A G nL cc Ts own rm) {y : MethodName} {ws : List Cond} {rm2 : Room} {idx ci q maxL : Nat} {C : String} {bytes : ByteArray} {ret : Option FieldType} {mv : k9_Mem} {rv : Int32} {w0 w1 w2 w3 : Value} (hM : k9_Ci l y ws rm2 G M (.ref (k9_ga G q) :: [w0, w1, w2, w3]) rv mv) (ho : k9_ob q ci C) (cw : CallW rm s args own C idx y bytes maxL ret ws rm2 0 0 4) (hW : (st.map fun v => v.category).sum ≤ 8) (d : decode cc pc = .ok (.invokevirtual idx, 3)) (hr : cells ≤ rm.cells ∧ slots ≤ rm.slots) (kk : k9_U p l e R s m args below meth c Q A G nL cells slots mv (pc + 3) lv (.int rv :: st)) : k9_U p l e R s m args below meth c Q A G nL cells slots M pc lv (w3 :: w2 :: w1 :: w0 :: .ref (k9_ga G q) :: st) := by
  obtain ⟨hx, hb, hml, hown, hts, hK, hA, hSK, rfl⟩ := X
  intro H locs ls hP hD hS h
  obtain ⟨hq, ⟨T, N, hc⟩, hce⟩ := ho
  obtain ⟨fs, hfs⟩ := hce G (M q)
  refine va_calli (va_runV (As := [w0, w1, w2, w3]) (rest := st) ⟨hx, hb, hml, hown, hts⟩ (hM H.size) cw ⟨k9_blind, va_recv hK hP hc (q0 := q) (by rw [k9_wl_get G M hq, hfs]), k9_pre hK hA hSK hP hD hS⟩ rfl rfl h.1 rfl (lv_room hW) d ⟨by omega, by omega⟩) hS (fun z _ hz => k9_A_in hD hA hS.1 z hz) (k9_A_in hD hA hS.1) (fun r u t H1 locs1 ht hvm hw hB hz1 hk1 hS1 => ?_)
  obtain ⟨rfl, rfl⟩ := hw
  exact kk H1 locs1 ls (by rw [k9_We, ht] at hB; exact hB) (k9_D hD _) hS1 h
theorem k9_callVi5 (X : k9_X p R s m args c A G nL cc Ts own rm) {y : MethodName} {ws : List Cond} {rm2 : Room} {idx ci q maxL : Nat} {C : String} {bytes : ByteArray} {ret : Option FieldType} {mv : k9_Mem} {rv : Int32} {w0 w1 w2 w3 w4 : Value} (hM : k9_Ci l y ws rm2 G M (.ref (k9_ga G q) :: [w0, w1, w2, w3, w4]) rv mv) (ho : k9_ob q ci C) (cw : CallW rm s args own C idx y bytes maxL ret ws rm2 0 0 5) (hW : (st.map fun v => v.category).sum ≤ 8) (d : decode cc pc = .ok (.invokevirtual idx, 3)) (hr : cells ≤ rm.cells ∧ slots ≤ rm.slots) (kk : k9_U p l e R s m args below meth c Q A G nL cells slots mv (pc + 3) lv (.int rv :: st)) : k9_U p l e R s m args below meth c Q A G nL cells slots M pc lv (w4 :: w3 :: w2 :: w1 :: w0 :: .ref (k9_ga G q) :: st) := by
  obtain ⟨hx, hb, hml, hown, hts, hK, hA, hSK, rfl⟩ := X
  intro H locs ls hP hD hS h
  obtain ⟨hq, ⟨T, N, hc⟩, hce⟩ := ho
  obtain ⟨fs, hfs⟩ := hce G (M q)
  refine va_calli (va_runV (As := [w0, w1, w2, w3, w4]) (rest := st) ⟨hx, hb, hml, hown, hts⟩ (hM H.size) cw ⟨k9_blind, va_recv hK hP hc (q0 := q) (by rw [k9_wl_get G M hq, hfs]), k9_pre hK hA hSK hP hD hS⟩ rfl rfl h.1 rfl (lv_room hW) d ⟨by omega, by omega⟩) hS (fun z _ hz => k9_A_in hD hA hS.1 z hz) (k9_A_in hD hA hS.1) (fun r u t H1 locs1 ht hvm hw hB hz1 hk1 hS1 => ?_)
  obtain ⟨rfl, rfl⟩ := hw
  exact kk H1 locs1 ls (by rw [k9_We, ht] at hB; exact hB) (k9_D hD _) hS1 h
theorem k9_callSi0 (X : k9_X p R s m args c A G nL cc Ts own rm) {y : MethodName} {ws : List Cond} {rm2 : Room} {idx maxL : Nat} {bytes : ByteArray} {ret : Option FieldType} {mv : k9_Mem} {rv : Int32} (hM : k9_Ci l y ws rm2 G M [] rv mv) (cw : CallB rm s args own idx y bytes maxL ret ws rm2 0 0 0 ∧ (Cond.static y).before args s = true) (hW : (st.map fun v => v.category).sum ≤ 8) (d : decode cc pc = .ok (.invokestatic idx, 3)) (hr : cells ≤ rm.cells ∧ slots ≤ rm.slots) (kk : k9_U p l e R s m args below meth c Q A G nL cells slots mv (pc + 3) lv (.int rv :: st)) : k9_U p l e R s m args below meth c Q A G nL cells slots M pc lv (st) := by
  obtain ⟨hx, hb, hml, hown, hts, hK, hA, hSK, rfl⟩ := X
  intro H locs ls hP hD hS h
  refine va_calli (va_runS (As := []) (rest := st) ⟨hx, hb, hml, hown, hts⟩ (hM H.size) cw ⟨k9_blind, k9_pre hK hA hSK hP hD hS⟩ rfl rfl h.1 rfl (lv_room hW) d ⟨by omega, by omega⟩) hS (fun z _ hz => k9_A_in hD hA hS.1 z hz) (k9_A_in hD hA hS.1) (fun r u t H1 locs1 ht hvm hw hB hz1 hk1 hS1 => ?_)
  obtain ⟨rfl, rfl⟩ := hw
  exact kk H1 locs1 ls (by rw [k9_We, ht] at hB; exact hB) (k9_D hD _) hS1 h
theorem k9_callSi1 (X : k9_X p R s m args c A G nL cc Ts own rm) {y : MethodName} {ws : List Cond} {rm2 : Room} {idx maxL : Nat} {bytes : ByteArray} {ret : Option FieldType} {mv : k9_Mem} {rv : Int32} {w0 : Value} (hM : k9_Ci l y ws rm2 G M [w0] rv mv) (cw : CallB rm s args own idx y bytes maxL ret ws rm2 0 0 1 ∧ (Cond.static y).before args s = true) (hW : (st.map fun v => v.category).sum ≤ 8) (d : decode cc pc = .ok (.invokestatic idx, 3)) (hr : cells ≤ rm.cells ∧ slots ≤ rm.slots) (kk : k9_U p l e R s m args below meth c Q A G nL cells slots mv (pc + 3) lv (.int rv :: st)) : k9_U p l e R s m args below meth c Q A G nL cells slots M pc lv (w0 :: st) := by
  obtain ⟨hx, hb, hml, hown, hts, hK, hA, hSK, rfl⟩ := X
  intro H locs ls hP hD hS h
  refine va_calli (va_runS (As := [w0]) (rest := st) ⟨hx, hb, hml, hown, hts⟩ (hM H.size) cw ⟨k9_blind, k9_pre hK hA hSK hP hD hS⟩ rfl rfl h.1 rfl (lv_room hW) d ⟨by omega, by omega⟩) hS (fun z _ hz => k9_A_in hD hA hS.1 z hz) (k9_A_in hD hA hS.1) (fun r u t H1 locs1 ht hvm hw hB hz1 hk1 hS1 => ?_)
  obtain ⟨rfl, rfl⟩ := hw
  exact kk H1 locs1 ls (by rw [k9_We, ht] at hB; exact hB) (k9_D hD _) hS1 h
theorem k9_callSi2 (X : k9_X p R s m args c A G nL cc Ts own rm) {y : MethodName} {ws : List Cond} {rm2 : Room} {idx maxL : Nat} {bytes : ByteArray} {ret : Option FieldType} {mv : k9_Mem} {rv : Int32} {w0 w1 : Value} (hM : k9_Ci l y ws rm2 G M [w0, w1] rv mv) (cw : CallB rm s args own idx y bytes maxL ret ws rm2 0 0 2 ∧ (Cond.static y).before args s = true) (hW : (st.map fun v => v.category).sum ≤ 8) (d : decode cc pc = .ok (.invokestatic idx, 3)) (hr : cells ≤ rm.cells ∧ slots ≤ rm.slots) (kk : k9_U p l e R s m args below meth c Q A G nL cells slots mv (pc + 3) lv (.int rv :: st)) : k9_U p l e R s m args below meth c Q A G nL cells slots M pc lv (w1 :: w0 :: st) := by
  obtain ⟨hx, hb, hml, hown, hts, hK, hA, hSK, rfl⟩ := X
  intro H locs ls hP hD hS h
  refine va_calli (va_runS (As := [w0, w1]) (rest := st) ⟨hx, hb, hml, hown, hts⟩ (hM H.size) cw ⟨k9_blind, k9_pre hK hA hSK hP hD hS⟩ rfl rfl h.1 rfl (lv_room hW) d ⟨by omega, by omega⟩) hS (fun z _ hz => k9_A_in hD hA hS.1 z hz) (k9_A_in hD hA hS.1) (fun r u t H1 locs1 ht hvm hw hB hz1 hk1 hS1 => ?_)
  obtain ⟨rfl, rfl⟩ := hw
  exact kk H1 locs1 ls (by rw [k9_We, ht] at hB; exact hB) (k9_D hD _) hS1 h
theorem k9_callSi3 (X : k9_X p R s m args c A G nL cc Ts own rm) {y : MethodName} {ws : List Cond} {rm2 : Room} {idx maxL : Nat} {bytes : ByteArray} {ret : Option FieldType} {mv : k9_Mem} {rv : Int32} {w0 w1 w2 : Value} (hM : k9_Ci l y ws rm2 G M [w0, w1, w2] rv mv) (cw : CallB rm s args own idx y bytes maxL ret ws rm2 0 0 3 ∧ (Cond.static y).before args s = true) (hW : (st.map fun v => v.category).sum ≤ 8) (d : decode cc pc = .ok (.invokestatic idx, 3)) (hr : cells ≤ rm.cells ∧ slots ≤ rm.slots) (kk : k9_U p l e R s m args below meth c Q A G nL cells slots mv (pc + 3) lv (.int rv :: st)) : k9_U p l e R s m args below meth c Q A G nL cells slots M pc lv (w2 :: w1 :: w0 :: st) := by
  obtain ⟨hx, hb, hml, hown, hts, hK, hA, hSK, rfl⟩ := X
  intro H locs ls hP hD hS h
  refine va_calli (va_runS (As := [w0, w1, w2]) (rest := st) ⟨hx, hb, hml, hown, hts⟩ (hM H.size) cw ⟨k9_blind, k9_pre hK hA hSK hP hD hS⟩ rfl rfl h.1 rfl (lv_room hW) d ⟨by omega, by omega⟩) hS (fun z _ hz => k9_A_in hD hA hS.1 z hz) (k9_A_in hD hA hS.1) (fun r u t H1 locs1 ht hvm hw hB hz1 hk1 hS1 => ?_)
  obtain ⟨rfl, rfl⟩ := hw
  exact kk H1 locs1 ls (by rw [k9_We, ht] at hB; exact hB) (k9_D hD _) hS1 h
theorem k9_callSi4 (X : k9_X p R s m args c A G nL cc Ts own rm) {y : MethodName} {ws : List Cond} {rm2 : Room} {idx maxL : Nat} {bytes : ByteArray} {ret : Option FieldType} {mv : k9_Mem} {rv : Int32} {w0 w1 w2 w3 : Value} (hM : k9_Ci l y ws rm2 G M [w0, w1, w2, w3] rv mv) (cw : CallB rm s args own idx y bytes maxL ret ws rm2 0 0 4 ∧ (Cond.static y).before args s = true) (hW : (st.map fun v => v.category).sum ≤ 8) (d : decode cc pc = .ok (.invokestatic idx, 3)) (hr : cells ≤ rm.cells ∧ slots ≤ rm.slots) (kk : k9_U p l e R s m args below meth c Q A G nL cells slots mv (pc + 3) lv (.int rv :: st)) : k9_U p l e R s m args below meth c Q A G nL cells slots M pc lv (w3 :: w2 :: w1 :: w0 :: st) := by
  obtain ⟨hx, hb, hml, hown, hts, hK, hA, hSK, rfl⟩ := X
  intro H locs ls hP hD hS h
  refine va_calli (va_runS (As := [w0, w1, w2, w3]) (rest := st) ⟨hx, hb, hml, hown, hts⟩ (hM H.size) cw ⟨k9_blind, k9_pre hK hA hSK hP hD hS⟩ rfl rfl h.1 rfl (lv_room hW) d ⟨by omega, by omega⟩) hS (fun z _ hz => k9_A_in hD hA hS.1 z hz) (k9_A_in hD hA hS.1) (fun r u t H1 locs1 ht hvm hw hB hz1 hk1 hS1 => ?_)
  obtain ⟨rfl, rfl⟩ := hw
  exact kk H1 locs1 ls (by rw [k9_We, ht] at hB; exact hB) (k9_D hD _) hS1 h
theorem k9_callSi5 (X : k9_X p R s m args c A G nL cc Ts own rm) {y : MethodName} {ws : List Cond} {rm2 : Room} {idx maxL : Nat} {bytes : ByteArray} {ret : Option FieldType} {mv : k9_Mem} {rv : Int32} {w0 w1 w2 w3 w4 : Value} (hM : k9_Ci l y ws rm2 G M [w0, w1, w2, w3, w4] rv mv) (cw : CallB rm s args own idx y bytes maxL ret ws rm2 0 0 5 ∧ (Cond.static y).before args s = true) (hW : (st.map fun v => v.category).sum ≤ 8) (d : decode cc pc = .ok (.invokestatic idx, 3)) (hr : cells ≤ rm.cells ∧ slots ≤ rm.slots) (kk : k9_U p l e R s m args below meth c Q A G nL cells slots mv (pc + 3) lv (.int rv :: st)) : k9_U p l e R s m args below meth c Q A G nL cells slots M pc lv (w4 :: w3 :: w2 :: w1 :: w0 :: st) := by
  obtain ⟨hx, hb, hml, hown, hts, hK, hA, hSK, rfl⟩ := X
  intro H locs ls hP hD hS h
  refine va_calli (va_runS (As := [w0, w1, w2, w3, w4]) (rest := st) ⟨hx, hb, hml, hown, hts⟩ (hM H.size) cw ⟨k9_blind, k9_pre hK hA hSK hP hD hS⟩ rfl rfl h.1 rfl (lv_room hW) d ⟨by omega, by omega⟩) hS (fun z _ hz => k9_A_in hD hA hS.1 z hz) (k9_A_in hD hA hS.1) (fun r u t H1 locs1 ht hvm hw hB hz1 hk1 hS1 => ?_)
  obtain ⟨rfl, rfl⟩ := hw
  exact kk H1 locs1 ls (by rw [k9_We, ht] at hB; exact hB) (k9_D hD _) hS1 h
theorem k9_callNi0 (X : k9_X p R s m args c A G nL cc Ts own rm) {y : MethodName} {ws : List Cond} {rm2 : Room} {idx maxL : Nat} {bytes : ByteArray} {ret : Option FieldType} {mv : k9_Mem} {host : String} {rv : Int32} (hM : k9_Ci l y ws rm2 G M [] rv mv) (cw : (∀ s' : State, (∀ q ∈ k9_nest, va_Nw (.methodLinkNest q.1 q.2.1 q.2.2.1 q.2.2.2) s') → (∀ w ∈ Ts, w.before args s' = true) → s' = s → va_CN rm s args own idx y host bytes maxL ret ws rm2 0 0 0 ∧ (Cond.static y).before args s = true ∧ True)) (hW : (st.map fun v => v.category).sum ≤ 8) (d : decode cc pc = .ok (.invokestatic idx, 3)) (hr : cells ≤ rm.cells ∧ slots ≤ rm.slots) (kk : k9_U p l e R s m args below meth c Q A G nL cells slots mv (pc + 3) lv (.int rv :: st)) : k9_U p l e R s m args below meth c Q A G nL cells slots M pc lv (st) := by
  obtain ⟨hx, hb, hml, hown, hts, hK, hA, hSK, rfl⟩ := X
  intro H locs ls hP hD hS h
  refine va_calli (va_runSN (As := []) (rest := st) ⟨hx, hb, hml, hown, hts⟩ (hM H.size) (cw s hSK.2.2.2.2.2.1 hts rfl) ⟨k9_blind, k9_pre hK hA hSK hP hD hS⟩ rfl rfl h.1 rfl (lv_room hW) d ⟨by omega, by omega⟩) hS (fun z _ hz => k9_A_in hD hA hS.1 z hz) (k9_A_in hD hA hS.1) (fun r u t H1 locs1 ht hvm hw hB hz1 hk1 hS1 => ?_)
  obtain ⟨rfl, rfl⟩ := hw
  exact kk H1 locs1 ls (by rw [k9_We, ht] at hB; exact hB) (k9_D hD _) hS1 h
theorem k9_callNi1 (X : k9_X p R s m args c A G nL cc Ts own rm) {y : MethodName} {ws : List Cond} {rm2 : Room} {idx maxL : Nat} {bytes : ByteArray} {ret : Option FieldType} {mv : k9_Mem} {host : String} {rv : Int32} {w0 : Value} (hM : k9_Ci l y ws rm2 G M [w0] rv mv) (cw : (∀ s' : State, (∀ q ∈ k9_nest, va_Nw (.methodLinkNest q.1 q.2.1 q.2.2.1 q.2.2.2) s') → (∀ w ∈ Ts, w.before args s' = true) → s' = s → va_CN rm s args own idx y host bytes maxL ret ws rm2 0 0 1 ∧ (Cond.static y).before args s = true ∧ True)) (hW : (st.map fun v => v.category).sum ≤ 8) (d : decode cc pc = .ok (.invokestatic idx, 3)) (hr : cells ≤ rm.cells ∧ slots ≤ rm.slots) (kk : k9_U p l e R s m args below meth c Q A G nL cells slots mv (pc + 3) lv (.int rv :: st)) : k9_U p l e R s m args below meth c Q A G nL cells slots M pc lv (w0 :: st) := by
  obtain ⟨hx, hb, hml, hown, hts, hK, hA, hSK, rfl⟩ := X
  intro H locs ls hP hD hS h
  refine va_calli (va_runSN (As := [w0]) (rest := st) ⟨hx, hb, hml, hown, hts⟩ (hM H.size) (cw s hSK.2.2.2.2.2.1 hts rfl) ⟨k9_blind, k9_pre hK hA hSK hP hD hS⟩ rfl rfl h.1 rfl (lv_room hW) d ⟨by omega, by omega⟩) hS (fun z _ hz => k9_A_in hD hA hS.1 z hz) (k9_A_in hD hA hS.1) (fun r u t H1 locs1 ht hvm hw hB hz1 hk1 hS1 => ?_)
  obtain ⟨rfl, rfl⟩ := hw
  exact kk H1 locs1 ls (by rw [k9_We, ht] at hB; exact hB) (k9_D hD _) hS1 h
theorem k9_callNi2 (X : k9_X p R s m args c A G nL cc Ts own rm) {y : MethodName} {ws : List Cond} {rm2 : Room} {idx maxL : Nat} {bytes : ByteArray} {ret : Option FieldType} {mv : k9_Mem} {host : String} {rv : Int32} {w0 w1 : Value} (hM : k9_Ci l y ws rm2 G M [w0, w1] rv mv) (cw : (∀ s' : State, (∀ q ∈ k9_nest, va_Nw (.methodLinkNest q.1 q.2.1 q.2.2.1 q.2.2.2) s') → (∀ w ∈ Ts, w.before args s' = true) → s' = s → va_CN rm s args own idx y host bytes maxL ret ws rm2 0 0 2 ∧ (Cond.static y).before args s = true ∧ True)) (hW : (st.map fun v => v.category).sum ≤ 8) (d : decode cc pc = .ok (.invokestatic idx, 3)) (hr : cells ≤ rm.cells ∧ slots ≤ rm.slots) (kk : k9_U p l e R s m args below meth c Q A G nL cells slots mv (pc + 3) lv (.int rv :: st)) : k9_U p l e R s m args below meth c Q A G nL cells slots M pc lv (w1 :: w0 :: st) := by
  obtain ⟨hx, hb, hml, hown, hts, hK, hA, hSK, rfl⟩ := X
  intro H locs ls hP hD hS h
  refine va_calli (va_runSN (As := [w0, w1]) (rest := st) ⟨hx, hb, hml, hown, hts⟩ (hM H.size) (cw s hSK.2.2.2.2.2.1 hts rfl) ⟨k9_blind, k9_pre hK hA hSK hP hD hS⟩ rfl rfl h.1 rfl (lv_room hW) d ⟨by omega, by omega⟩) hS (fun z _ hz => k9_A_in hD hA hS.1 z hz) (k9_A_in hD hA hS.1) (fun r u t H1 locs1 ht hvm hw hB hz1 hk1 hS1 => ?_)
  obtain ⟨rfl, rfl⟩ := hw
  exact kk H1 locs1 ls (by rw [k9_We, ht] at hB; exact hB) (k9_D hD _) hS1 h
theorem k9_callNi3 (X : k9_X p R s m args c A G nL cc Ts own rm) {y : MethodName} {ws : List Cond} {rm2 : Room} {idx maxL : Nat} {bytes : ByteArray} {ret : Option FieldType} {mv : k9_Mem} {host : String} {rv : Int32} {w0 w1 w2 : Value} (hM : k9_Ci l y ws rm2 G M [w0, w1, w2] rv mv) (cw : (∀ s' : State, (∀ q ∈ k9_nest, va_Nw (.methodLinkNest q.1 q.2.1 q.2.2.1 q.2.2.2) s') → (∀ w ∈ Ts, w.before args s' = true) → s' = s → va_CN rm s args own idx y host bytes maxL ret ws rm2 0 0 3 ∧ (Cond.static y).before args s = true ∧ True)) (hW : (st.map fun v => v.category).sum ≤ 8) (d : decode cc pc = .ok (.invokestatic idx, 3)) (hr : cells ≤ rm.cells ∧ slots ≤ rm.slots) (kk : k9_U p l e R s m args below meth c Q A G nL cells slots mv (pc + 3) lv (.int rv :: st)) : k9_U p l e R s m args below meth c Q A G nL cells slots M pc lv (w2 :: w1 :: w0 :: st) := by
  obtain ⟨hx, hb, hml, hown, hts, hK, hA, hSK, rfl⟩ := X
  intro H locs ls hP hD hS h
  refine va_calli (va_runSN (As := [w0, w1, w2]) (rest := st) ⟨hx, hb, hml, hown, hts⟩ (hM H.size) (cw s hSK.2.2.2.2.2.1 hts rfl) ⟨k9_blind, k9_pre hK hA hSK hP hD hS⟩ rfl rfl h.1 rfl (lv_room hW) d ⟨by omega, by omega⟩) hS (fun z _ hz => k9_A_in hD hA hS.1 z hz) (k9_A_in hD hA hS.1) (fun r u t H1 locs1 ht hvm hw hB hz1 hk1 hS1 => ?_)
  obtain ⟨rfl, rfl⟩ := hw
  exact kk H1 locs1 ls (by rw [k9_We, ht] at hB; exact hB) (k9_D hD _) hS1 h
theorem k9_callNi4 (X : k9_X p R s m args c A G nL cc Ts own rm) {y : MethodName} {ws : List Cond} {rm2 : Room} {idx maxL : Nat} {bytes : ByteArray} {ret : Option FieldType} {mv : k9_Mem} {host : String} {rv : Int32} {w0 w1 w2 w3 : Value} (hM : k9_Ci l y ws rm2 G M [w0, w1, w2, w3] rv mv) (cw : (∀ s' : State, (∀ q ∈ k9_nest, va_Nw (.methodLinkNest q.1 q.2.1 q.2.2.1 q.2.2.2) s') → (∀ w ∈ Ts, w.before args s' = true) → s' = s → va_CN rm s args own idx y host bytes maxL ret ws rm2 0 0 4 ∧ (Cond.static y).before args s = true ∧ True)) (hW : (st.map fun v => v.category).sum ≤ 8) (d : decode cc pc = .ok (.invokestatic idx, 3)) (hr : cells ≤ rm.cells ∧ slots ≤ rm.slots) (kk : k9_U p l e R s m args below meth c Q A G nL cells slots mv (pc + 3) lv (.int rv :: st)) : k9_U p l e R s m args below meth c Q A G nL cells slots M pc lv (w3 :: w2 :: w1 :: w0 :: st) := by
  obtain ⟨hx, hb, hml, hown, hts, hK, hA, hSK, rfl⟩ := X
  intro H locs ls hP hD hS h
  refine va_calli (va_runSN (As := [w0, w1, w2, w3]) (rest := st) ⟨hx, hb, hml, hown, hts⟩ (hM H.size) (cw s hSK.2.2.2.2.2.1 hts rfl) ⟨k9_blind, k9_pre hK hA hSK hP hD hS⟩ rfl rfl h.1 rfl (lv_room hW) d ⟨by omega, by omega⟩) hS (fun z _ hz => k9_A_in hD hA hS.1 z hz) (k9_A_in hD hA hS.1) (fun r u t H1 locs1 ht hvm hw hB hz1 hk1 hS1 => ?_)
  obtain ⟨rfl, rfl⟩ := hw
  exact kk H1 locs1 ls (by rw [k9_We, ht] at hB; exact hB) (k9_D hD _) hS1 h
theorem k9_callNi5 (X : k9_X p R s m args c A G nL cc Ts own rm) {y : MethodName} {ws : List Cond} {rm2 : Room} {idx maxL : Nat} {bytes : ByteArray} {ret : Option FieldType} {mv : k9_Mem} {host : String} {rv : Int32} {w0 w1 w2 w3 w4 : Value} (hM : k9_Ci l y ws rm2 G M [w0, w1, w2, w3, w4] rv mv) (cw : (∀ s' : State, (∀ q ∈ k9_nest, va_Nw (.methodLinkNest q.1 q.2.1 q.2.2.1 q.2.2.2) s') → (∀ w ∈ Ts, w.before args s' = true) → s' = s → va_CN rm s args own idx y host bytes maxL ret ws rm2 0 0 5 ∧ (Cond.static y).before args s = true ∧ True)) (hW : (st.map fun v => v.category).sum ≤ 8) (d : decode cc pc = .ok (.invokestatic idx, 3)) (hr : cells ≤ rm.cells ∧ slots ≤ rm.slots) (kk : k9_U p l e R s m args below meth c Q A G nL cells slots mv (pc + 3) lv (.int rv :: st)) : k9_U p l e R s m args below meth c Q A G nL cells slots M pc lv (w4 :: w3 :: w2 :: w1 :: w0 :: st) := by
  obtain ⟨hx, hb, hml, hown, hts, hK, hA, hSK, rfl⟩ := X
  intro H locs ls hP hD hS h
  refine va_calli (va_runSN (As := [w0, w1, w2, w3, w4]) (rest := st) ⟨hx, hb, hml, hown, hts⟩ (hM H.size) (cw s hSK.2.2.2.2.2.1 hts rfl) ⟨k9_blind, k9_pre hK hA hSK hP hD hS⟩ rfl rfl h.1 rfl (lv_room hW) d ⟨by omega, by omega⟩) hS (fun z _ hz => k9_A_in hD hA hS.1 z hz) (k9_A_in hD hA hS.1) (fun r u t H1 locs1 ht hvm hw hB hz1 hk1 hS1 => ?_)
  obtain ⟨rfl, rfl⟩ := hw
  exact kk H1 locs1 ls (by rw [k9_We, ht] at hB; exact hB) (k9_D hD _) hS1 h
theorem k9_callVl0 (X : k9_X p R s m args c A G nL cc Ts own rm) {y : MethodName} {ws : List Cond} {rm2 : Room} {idx ci q maxL : Nat} {C : String} {bytes : ByteArray} {ret : Option FieldType} {mv : k9_Mem} {rv : Int64} (hM : k9_Cl l y ws rm2 G M (.ref (k9_ga G q) :: []) rv mv) (ho : k9_ob q ci C) (cw : CallW rm s args own C idx y bytes maxL ret ws rm2 0 0 0) (hW : (st.map fun v => v.category).sum ≤ 8) (d : decode cc pc = .ok (.invokevirtual idx, 3)) (hr : cells ≤ rm.cells ∧ slots ≤ rm.slots) (kk : k9_U p l e R s m args below meth c Q A G nL cells slots mv (pc + 3) lv (.long rv :: st)) : k9_U p l e R s m args below meth c Q A G nL cells slots M pc lv (.ref (k9_ga G q) :: st) := by
  obtain ⟨hx, hb, hml, hown, hts, hK, hA, hSK, rfl⟩ := X
  intro H locs ls hP hD hS h
  obtain ⟨hq, ⟨T, N, hc⟩, hce⟩ := ho
  obtain ⟨fs, hfs⟩ := hce G (M q)
  refine va_calll (va_runV (As := []) (rest := st) ⟨hx, hb, hml, hown, hts⟩ (hM H.size) cw ⟨k9_blind, va_recv hK hP hc (q0 := q) (by rw [k9_wl_get G M hq, hfs]), k9_pre hK hA hSK hP hD hS⟩ rfl rfl h.1 rfl (lv_room hW) d ⟨by omega, by omega⟩) hS (fun z _ hz => k9_A_in hD hA hS.1 z hz) (k9_A_in hD hA hS.1) (fun r u t H1 locs1 ht hvm hw hB hz1 hk1 hS1 => ?_)
  obtain ⟨rfl, rfl⟩ := hw
  exact kk H1 locs1 ls (by rw [k9_We, ht] at hB; exact hB) (k9_D hD _) hS1 h
theorem k9_callVl1 (X : k9_X p R s m args c A G nL cc Ts own rm) {y : MethodName} {ws : List Cond} {rm2 : Room} {idx ci q maxL : Nat} {C : String} {bytes : ByteArray} {ret : Option FieldType} {mv : k9_Mem} {rv : Int64} {w0 : Value} (hM : k9_Cl l y ws rm2 G M (.ref (k9_ga G q) :: [w0]) rv mv) (ho : k9_ob q ci C) (cw : CallW rm s args own C idx y bytes maxL ret ws rm2 0 0 1) (hW : (st.map fun v => v.category).sum ≤ 8) (d : decode cc pc = .ok (.invokevirtual idx, 3)) (hr : cells ≤ rm.cells ∧ slots ≤ rm.slots) (kk : k9_U p l e R s m args below meth c Q A G nL cells slots mv (pc + 3) lv (.long rv :: st)) : k9_U p l e R s m args below meth c Q A G nL cells slots M pc lv (w0 :: .ref (k9_ga G q) :: st) := by
  obtain ⟨hx, hb, hml, hown, hts, hK, hA, hSK, rfl⟩ := X
  intro H locs ls hP hD hS h
  obtain ⟨hq, ⟨T, N, hc⟩, hce⟩ := ho
  obtain ⟨fs, hfs⟩ := hce G (M q)
  refine va_calll (va_runV (As := [w0]) (rest := st) ⟨hx, hb, hml, hown, hts⟩ (hM H.size) cw ⟨k9_blind, va_recv hK hP hc (q0 := q) (by rw [k9_wl_get G M hq, hfs]), k9_pre hK hA hSK hP hD hS⟩ rfl rfl h.1 rfl (lv_room hW) d ⟨by omega, by omega⟩) hS (fun z _ hz => k9_A_in hD hA hS.1 z hz) (k9_A_in hD hA hS.1) (fun r u t H1 locs1 ht hvm hw hB hz1 hk1 hS1 => ?_)
  obtain ⟨rfl, rfl⟩ := hw
  exact kk H1 locs1 ls (by rw [k9_We, ht] at hB; exact hB) (k9_D hD _) hS1 h
theorem k9_callVl2 (X : k9_X p R s m args c A G nL cc Ts own rm) {y : MethodName} {ws : List Cond} {rm2 : Room} {idx ci q maxL : Nat} {C : String} {bytes : ByteArray} {ret : Option FieldType} {mv : k9_Mem} {rv : Int64} {w0 w1 : Value} (hM : k9_Cl l y ws rm2 G M (.ref (k9_ga G q) :: [w0, w1]) rv mv) (ho : k9_ob q ci C) (cw : CallW rm s args own C idx y bytes maxL ret ws rm2 0 0 2) (hW : (st.map fun v => v.category).sum ≤ 8) (d : decode cc pc = .ok (.invokevirtual idx, 3)) (hr : cells ≤ rm.cells ∧ slots ≤ rm.slots) (kk : k9_U p l e R s m args below meth c Q A G nL cells slots mv (pc + 3) lv (.long rv :: st)) : k9_U p l e R s m args below meth c Q A G nL cells slots M pc lv (w1 :: w0 :: .ref (k9_ga G q) :: st) := by
  obtain ⟨hx, hb, hml, hown, hts, hK, hA, hSK, rfl⟩ := X
  intro H locs ls hP hD hS h
  obtain ⟨hq, ⟨T, N, hc⟩, hce⟩ := ho
  obtain ⟨fs, hfs⟩ := hce G (M q)
  refine va_calll (va_runV (As := [w0, w1]) (rest := st) ⟨hx, hb, hml, hown, hts⟩ (hM H.size) cw ⟨k9_blind, va_recv hK hP hc (q0 := q) (by rw [k9_wl_get G M hq, hfs]), k9_pre hK hA hSK hP hD hS⟩ rfl rfl h.1 rfl (lv_room hW) d ⟨by omega, by omega⟩) hS (fun z _ hz => k9_A_in hD hA hS.1 z hz) (k9_A_in hD hA hS.1) (fun r u t H1 locs1 ht hvm hw hB hz1 hk1 hS1 => ?_)
  obtain ⟨rfl, rfl⟩ := hw
  exact kk H1 locs1 ls (by rw [k9_We, ht] at hB; exact hB) (k9_D hD _) hS1 h
theorem k9_callVl3 (X : k9_X p R s m args c A G nL cc Ts own rm) {y : MethodName} {ws : List Cond} {rm2 : Room} {idx ci q maxL : Nat} {C : String} {bytes : ByteArray} {ret : Option FieldType} {mv : k9_Mem} {rv : Int64} {w0 w1 w2 : Value} (hM : k9_Cl l y ws rm2 G M (.ref (k9_ga G q) :: [w0, w1, w2]) rv mv) (ho : k9_ob q ci C) (cw : CallW rm s args own C idx y bytes maxL ret ws rm2 0 0 3) (hW : (st.map fun v => v.category).sum ≤ 8) (d : decode cc pc = .ok (.invokevirtual idx, 3)) (hr : cells ≤ rm.cells ∧ slots ≤ rm.slots) (kk : k9_U p l e R s m args below meth c Q A G nL cells slots mv (pc + 3) lv (.long rv :: st)) : k9_U p l e R s m args below meth c Q A G nL cells slots M pc lv (w2 :: w1 :: w0 :: .ref (k9_ga G q) :: st) := by
  obtain ⟨hx, hb, hml, hown, hts, hK, hA, hSK, rfl⟩ := X
  intro H locs ls hP hD hS h
  obtain ⟨hq, ⟨T, N, hc⟩, hce⟩ := ho
  obtain ⟨fs, hfs⟩ := hce G (M q)
  refine va_calll (va_runV (As := [w0, w1, w2]) (rest := st) ⟨hx, hb, hml, hown, hts⟩ (hM H.size) cw ⟨k9_blind, va_recv hK hP hc (q0 := q) (by rw [k9_wl_get G M hq, hfs]), k9_pre hK hA hSK hP hD hS⟩ rfl rfl h.1 rfl (lv_room hW) d ⟨by omega, by omega⟩) hS (fun z _ hz => k9_A_in hD hA hS.1 z hz) (k9_A_in hD hA hS.1) (fun r u t H1 locs1 ht hvm hw hB hz1 hk1 hS1 => ?_)
  obtain ⟨rfl, rfl⟩ := hw
  exact kk H1 locs1 ls (by rw [k9_We, ht] at hB; exact hB) (k9_D hD _) hS1 h
theorem k9_callVl4 (X : k9_X p R s m args c A G nL cc Ts own rm) {y : MethodName} {ws : List Cond} {rm2 : Room} {idx ci q maxL : Nat} {C : String} {bytes : ByteArray} {ret : Option FieldType} {mv : k9_Mem} {rv : Int64} {w0 w1 w2 w3 : Value} (hM : k9_Cl l y ws rm2 G M (.ref (k9_ga G q) :: [w0, w1, w2, w3]) rv mv) (ho : k9_ob q ci C) (cw : CallW rm s args own C idx y bytes maxL ret ws rm2 0 0 4) (hW : (st.map fun v => v.category).sum ≤ 8) (d : decode cc pc = .ok (.invokevirtual idx, 3)) (hr : cells ≤ rm.cells ∧ slots ≤ rm.slots) (kk : k9_U p l e R s m args below meth c Q A G nL cells slots mv (pc + 3) lv (.long rv :: st)) : k9_U p l e R s m args below meth c Q A G nL cells slots M pc lv (w3 :: w2 :: w1 :: w0 :: .ref (k9_ga G q) :: st) := by
  obtain ⟨hx, hb, hml, hown, hts, hK, hA, hSK, rfl⟩ := X
  intro H locs ls hP hD hS h
  obtain ⟨hq, ⟨T, N, hc⟩, hce⟩ := ho
  obtain ⟨fs, hfs⟩ := hce G (M q)
  refine va_calll (va_runV (As := [w0, w1, w2, w3]) (rest := st) ⟨hx, hb, hml, hown, hts⟩ (hM H.size) cw ⟨k9_blind, va_recv hK hP hc (q0 := q) (by rw [k9_wl_get G M hq, hfs]), k9_pre hK hA hSK hP hD hS⟩ rfl rfl h.1 rfl (lv_room hW) d ⟨by omega, by omega⟩) hS (fun z _ hz => k9_A_in hD hA hS.1 z hz) (k9_A_in hD hA hS.1) (fun r u t H1 locs1 ht hvm hw hB hz1 hk1 hS1 => ?_)
  obtain ⟨rfl, rfl⟩ := hw
  exact kk H1 locs1 ls (by rw [k9_We, ht] at hB; exact hB) (k9_D hD _) hS1 h
theorem k9_callVl5 (X : k9_X p R s m args c A G nL cc Ts own rm) {y : MethodName} {ws : List Cond} {rm2 : Room} {idx ci q maxL : Nat} {C : String} {bytes : ByteArray} {ret : Option FieldType} {mv : k9_Mem} {rv : Int64} {w0 w1 w2 w3 w4 : Value} (hM : k9_Cl l y ws rm2 G M (.ref (k9_ga G q) :: [w0, w1, w2, w3, w4]) rv mv) (ho : k9_ob q ci C) (cw : CallW rm s args own C idx y bytes maxL ret ws rm2 0 0 5) (hW : (st.map fun v => v.category).sum ≤ 8) (d : decode cc pc = .ok (.invokevirtual idx, 3)) (hr : cells ≤ rm.cells ∧ slots ≤ rm.slots) (kk : k9_U p l e R s m args below meth c Q A G nL cells slots mv (pc + 3) lv (.long rv :: st)) : k9_U p l e R s m args below meth c Q A G nL cells slots M pc lv (w4 :: w3 :: w2 :: w1 :: w0 :: .ref (k9_ga G q) :: st) := by
  obtain ⟨hx, hb, hml, hown, hts, hK, hA, hSK, rfl⟩ := X
  intro H locs ls hP hD hS h
  obtain ⟨hq, ⟨T, N, hc⟩, hce⟩ := ho
  obtain ⟨fs, hfs⟩ := hce G (M q)
  refine va_calll (va_runV (As := [w0, w1, w2, w3, w4]) (rest := st) ⟨hx, hb, hml, hown, hts⟩ (hM H.size) cw ⟨k9_blind, va_recv hK hP hc (q0 := q) (by rw [k9_wl_get G M hq, hfs]), k9_pre hK hA hSK hP hD hS⟩ rfl rfl h.1 rfl (lv_room hW) d ⟨by omega, by omega⟩) hS (fun z _ hz => k9_A_in hD hA hS.1 z hz) (k9_A_in hD hA hS.1) (fun r u t H1 locs1 ht hvm hw hB hz1 hk1 hS1 => ?_)
  obtain ⟨rfl, rfl⟩ := hw
  exact kk H1 locs1 ls (by rw [k9_We, ht] at hB; exact hB) (k9_D hD _) hS1 h
theorem k9_callSl0 (X : k9_X p R s m args c A G nL cc Ts own rm) {y : MethodName} {ws : List Cond} {rm2 : Room} {idx maxL : Nat} {bytes : ByteArray} {ret : Option FieldType} {mv : k9_Mem} {rv : Int64} (hM : k9_Cl l y ws rm2 G M [] rv mv) (cw : CallB rm s args own idx y bytes maxL ret ws rm2 0 0 0 ∧ (Cond.static y).before args s = true) (hW : (st.map fun v => v.category).sum ≤ 8) (d : decode cc pc = .ok (.invokestatic idx, 3)) (hr : cells ≤ rm.cells ∧ slots ≤ rm.slots) (kk : k9_U p l e R s m args below meth c Q A G nL cells slots mv (pc + 3) lv (.long rv :: st)) : k9_U p l e R s m args below meth c Q A G nL cells slots M pc lv (st) := by
  obtain ⟨hx, hb, hml, hown, hts, hK, hA, hSK, rfl⟩ := X
  intro H locs ls hP hD hS h
  refine va_calll (va_runS (As := []) (rest := st) ⟨hx, hb, hml, hown, hts⟩ (hM H.size) cw ⟨k9_blind, k9_pre hK hA hSK hP hD hS⟩ rfl rfl h.1 rfl (lv_room hW) d ⟨by omega, by omega⟩) hS (fun z _ hz => k9_A_in hD hA hS.1 z hz) (k9_A_in hD hA hS.1) (fun r u t H1 locs1 ht hvm hw hB hz1 hk1 hS1 => ?_)
  obtain ⟨rfl, rfl⟩ := hw
  exact kk H1 locs1 ls (by rw [k9_We, ht] at hB; exact hB) (k9_D hD _) hS1 h
theorem k9_callSl1 (X : k9_X p R s m args c A G nL cc Ts own rm) {y : MethodName} {ws : List Cond} {rm2 : Room} {idx maxL : Nat} {bytes : ByteArray} {ret : Option FieldType} {mv : k9_Mem} {rv : Int64} {w0 : Value} (hM : k9_Cl l y ws rm2 G M [w0] rv mv) (cw : CallB rm s args own idx y bytes maxL ret ws rm2 0 0 1 ∧ (Cond.static y).before args s = true) (hW : (st.map fun v => v.category).sum ≤ 8) (d : decode cc pc = .ok (.invokestatic idx, 3)) (hr : cells ≤ rm.cells ∧ slots ≤ rm.slots) (kk : k9_U p l e R s m args below meth c Q A G nL cells slots mv (pc + 3) lv (.long rv :: st)) : k9_U p l e R s m args below meth c Q A G nL cells slots M pc lv (w0 :: st) := by
  obtain ⟨hx, hb, hml, hown, hts, hK, hA, hSK, rfl⟩ := X
  intro H locs ls hP hD hS h
  refine va_calll (va_runS (As := [w0]) (rest := st) ⟨hx, hb, hml, hown, hts⟩ (hM H.size) cw ⟨k9_blind, k9_pre hK hA hSK hP hD hS⟩ rfl rfl h.1 rfl (lv_room hW) d ⟨by omega, by omega⟩) hS (fun z _ hz => k9_A_in hD hA hS.1 z hz) (k9_A_in hD hA hS.1) (fun r u t H1 locs1 ht hvm hw hB hz1 hk1 hS1 => ?_)
  obtain ⟨rfl, rfl⟩ := hw
  exact kk H1 locs1 ls (by rw [k9_We, ht] at hB; exact hB) (k9_D hD _) hS1 h
theorem k9_callSl2 (X : k9_X p R s m args c A G nL cc Ts own rm) {y : MethodName} {ws : List Cond} {rm2 : Room} {idx maxL : Nat} {bytes : ByteArray} {ret : Option FieldType} {mv : k9_Mem} {rv : Int64} {w0 w1 : Value} (hM : k9_Cl l y ws rm2 G M [w0, w1] rv mv) (cw : CallB rm s args own idx y bytes maxL ret ws rm2 0 0 2 ∧ (Cond.static y).before args s = true) (hW : (st.map fun v => v.category).sum ≤ 8) (d : decode cc pc = .ok (.invokestatic idx, 3)) (hr : cells ≤ rm.cells ∧ slots ≤ rm.slots) (kk : k9_U p l e R s m args below meth c Q A G nL cells slots mv (pc + 3) lv (.long rv :: st)) : k9_U p l e R s m args below meth c Q A G nL cells slots M pc lv (w1 :: w0 :: st) := by
  obtain ⟨hx, hb, hml, hown, hts, hK, hA, hSK, rfl⟩ := X
  intro H locs ls hP hD hS h
  refine va_calll (va_runS (As := [w0, w1]) (rest := st) ⟨hx, hb, hml, hown, hts⟩ (hM H.size) cw ⟨k9_blind, k9_pre hK hA hSK hP hD hS⟩ rfl rfl h.1 rfl (lv_room hW) d ⟨by omega, by omega⟩) hS (fun z _ hz => k9_A_in hD hA hS.1 z hz) (k9_A_in hD hA hS.1) (fun r u t H1 locs1 ht hvm hw hB hz1 hk1 hS1 => ?_)
  obtain ⟨rfl, rfl⟩ := hw
  exact kk H1 locs1 ls (by rw [k9_We, ht] at hB; exact hB) (k9_D hD _) hS1 h
theorem k9_callSl3 (X : k9_X p R s m args c A G nL cc Ts own rm) {y : MethodName} {ws : List Cond} {rm2 : Room} {idx maxL : Nat} {bytes : ByteArray} {ret : Option FieldType} {mv : k9_Mem} {rv : Int64} {w0 w1 w2 : Value} (hM : k9_Cl l y ws rm2 G M [w0, w1, w2] rv mv) (cw : CallB rm s args own idx y bytes maxL ret ws rm2 0 0 3 ∧ (Cond.static y).before args s = true) (hW : (st.map fun v => v.category).sum ≤ 8) (d : decode cc pc = .ok (.invokestatic idx, 3)) (hr : cells ≤ rm.cells ∧ slots ≤ rm.slots) (kk : k9_U p l e R s m args below meth c Q A G nL cells slots mv (pc + 3) lv (.long rv :: st)) : k9_U p l e R s m args below meth c Q A G nL cells slots M pc lv (w2 :: w1 :: w0 :: st) := by
  obtain ⟨hx, hb, hml, hown, hts, hK, hA, hSK, rfl⟩ := X
  intro H locs ls hP hD hS h
  refine va_calll (va_runS (As := [w0, w1, w2]) (rest := st) ⟨hx, hb, hml, hown, hts⟩ (hM H.size) cw ⟨k9_blind, k9_pre hK hA hSK hP hD hS⟩ rfl rfl h.1 rfl (lv_room hW) d ⟨by omega, by omega⟩) hS (fun z _ hz => k9_A_in hD hA hS.1 z hz) (k9_A_in hD hA hS.1) (fun r u t H1 locs1 ht hvm hw hB hz1 hk1 hS1 => ?_)
  obtain ⟨rfl, rfl⟩ := hw
  exact kk H1 locs1 ls (by rw [k9_We, ht] at hB; exact hB) (k9_D hD _) hS1 h
theorem k9_callSl4 (X : k9_X p R s m args c A G nL cc Ts own rm) {y : MethodName} {ws : List Cond} {rm2 : Room} {idx maxL : Nat} {bytes : ByteArray} {ret : Option FieldType} {mv : k9_Mem} {rv : Int64} {w0 w1 w2 w3 : Value} (hM : k9_Cl l y ws rm2 G M [w0, w1, w2, w3] rv mv) (cw : CallB rm s args own idx y bytes maxL ret ws rm2 0 0 4 ∧ (Cond.static y).before args s = true) (hW : (st.map fun v => v.category).sum ≤ 8) (d : decode cc pc = .ok (.invokestatic idx, 3)) (hr : cells ≤ rm.cells ∧ slots ≤ rm.slots) (kk : k9_U p l e R s m args below meth c Q A G nL cells slots mv (pc + 3) lv (.long rv :: st)) : k9_U p l e R s m args below meth c Q A G nL cells slots M pc lv (w3 :: w2 :: w1 :: w0 :: st) := by
  obtain ⟨hx, hb, hml, hown, hts, hK, hA, hSK, rfl⟩ := X
  intro H locs ls hP hD hS h
  refine va_calll (va_runS (As := [w0, w1, w2, w3]) (rest := st) ⟨hx, hb, hml, hown, hts⟩ (hM H.size) cw ⟨k9_blind, k9_pre hK hA hSK hP hD hS⟩ rfl rfl h.1 rfl (lv_room hW) d ⟨by omega, by omega⟩) hS (fun z _ hz => k9_A_in hD hA hS.1 z hz) (k9_A_in hD hA hS.1) (fun r u t H1 locs1 ht hvm hw hB hz1 hk1 hS1 => ?_)
  obtain ⟨rfl, rfl⟩ := hw
  exact kk H1 locs1 ls (by rw [k9_We, ht] at hB; exact hB) (k9_D hD _) hS1 h
theorem k9_callSl5 (X : k9_X p R s m args c A G nL cc Ts own rm) {y : MethodName} {ws : List Cond} {rm2 : Room} {idx maxL : Nat} {bytes : ByteArray} {ret : Option FieldType} {mv : k9_Mem} {rv : Int64} {w0 w1 w2 w3 w4 : Value} (hM : k9_Cl l y ws rm2 G M [w0, w1, w2, w3, w4] rv mv) (cw : CallB rm s args own idx y bytes maxL ret ws rm2 0 0 5 ∧ (Cond.static y).before args s = true) (hW : (st.map fun v => v.category).sum ≤ 8) (d : decode cc pc = .ok (.invokestatic idx, 3)) (hr : cells ≤ rm.cells ∧ slots ≤ rm.slots) (kk : k9_U p l e R s m args below meth c Q A G nL cells slots mv (pc + 3) lv (.long rv :: st)) : k9_U p l e R s m args below meth c Q A G nL cells slots M pc lv (w4 :: w3 :: w2 :: w1 :: w0 :: st) := by
  obtain ⟨hx, hb, hml, hown, hts, hK, hA, hSK, rfl⟩ := X
  intro H locs ls hP hD hS h
  refine va_calll (va_runS (As := [w0, w1, w2, w3, w4]) (rest := st) ⟨hx, hb, hml, hown, hts⟩ (hM H.size) cw ⟨k9_blind, k9_pre hK hA hSK hP hD hS⟩ rfl rfl h.1 rfl (lv_room hW) d ⟨by omega, by omega⟩) hS (fun z _ hz => k9_A_in hD hA hS.1 z hz) (k9_A_in hD hA hS.1) (fun r u t H1 locs1 ht hvm hw hB hz1 hk1 hS1 => ?_)
  obtain ⟨rfl, rfl⟩ := hw
  exact kk H1 locs1 ls (by rw [k9_We, ht] at hB; exact hB) (k9_D hD _) hS1 h
theorem k9_callNl0 (X : k9_X p R s m args c A G nL cc Ts own rm) {y : MethodName} {ws : List Cond} {rm2 : Room} {idx maxL : Nat} {bytes : ByteArray} {ret : Option FieldType} {mv : k9_Mem} {host : String} {rv : Int64} (hM : k9_Cl l y ws rm2 G M [] rv mv) (cw : (∀ s' : State, (∀ q ∈ k9_nest, va_Nw (.methodLinkNest q.1 q.2.1 q.2.2.1 q.2.2.2) s') → (∀ w ∈ Ts, w.before args s' = true) → s' = s → va_CN rm s args own idx y host bytes maxL ret ws rm2 0 0 0 ∧ (Cond.static y).before args s = true ∧ True)) (hW : (st.map fun v => v.category).sum ≤ 8) (d : decode cc pc = .ok (.invokestatic idx, 3)) (hr : cells ≤ rm.cells ∧ slots ≤ rm.slots) (kk : k9_U p l e R s m args below meth c Q A G nL cells slots mv (pc + 3) lv (.long rv :: st)) : k9_U p l e R s m args below meth c Q A G nL cells slots M pc lv (st) := by
  obtain ⟨hx, hb, hml, hown, hts, hK, hA, hSK, rfl⟩ := X
  intro H locs ls hP hD hS h
  refine va_calll (va_runSN (As := []) (rest := st) ⟨hx, hb, hml, hown, hts⟩ (hM H.size) (cw s hSK.2.2.2.2.2.1 hts rfl) ⟨k9_blind, k9_pre hK hA hSK hP hD hS⟩ rfl rfl h.1 rfl (lv_room hW) d ⟨by omega, by omega⟩) hS (fun z _ hz => k9_A_in hD hA hS.1 z hz) (k9_A_in hD hA hS.1) (fun r u t H1 locs1 ht hvm hw hB hz1 hk1 hS1 => ?_)
  obtain ⟨rfl, rfl⟩ := hw
  exact kk H1 locs1 ls (by rw [k9_We, ht] at hB; exact hB) (k9_D hD _) hS1 h
theorem k9_callNl1 (X : k9_X p R s m args c A G nL cc Ts own rm) {y : MethodName} {ws : List Cond} {rm2 : Room} {idx maxL : Nat} {bytes : ByteArray} {ret : Option FieldType} {mv : k9_Mem} {host : String} {rv : Int64} {w0 : Value} (hM : k9_Cl l y ws rm2 G M [w0] rv mv) (cw : (∀ s' : State, (∀ q ∈ k9_nest, va_Nw (.methodLinkNest q.1 q.2.1 q.2.2.1 q.2.2.2) s') → (∀ w ∈ Ts, w.before args s' = true) → s' = s → va_CN rm s args own idx y host bytes maxL ret ws rm2 0 0 1 ∧ (Cond.static y).before args s = true ∧ True)) (hW : (st.map fun v => v.category).sum ≤ 8) (d : decode cc pc = .ok (.invokestatic idx, 3)) (hr : cells ≤ rm.cells ∧ slots ≤ rm.slots) (kk : k9_U p l e R s m args below meth c Q A G nL cells slots mv (pc + 3) lv (.long rv :: st)) : k9_U p l e R s m args below meth c Q A G nL cells slots M pc lv (w0 :: st) := by
  obtain ⟨hx, hb, hml, hown, hts, hK, hA, hSK, rfl⟩ := X
  intro H locs ls hP hD hS h
  refine va_calll (va_runSN (As := [w0]) (rest := st) ⟨hx, hb, hml, hown, hts⟩ (hM H.size) (cw s hSK.2.2.2.2.2.1 hts rfl) ⟨k9_blind, k9_pre hK hA hSK hP hD hS⟩ rfl rfl h.1 rfl (lv_room hW) d ⟨by omega, by omega⟩) hS (fun z _ hz => k9_A_in hD hA hS.1 z hz) (k9_A_in hD hA hS.1) (fun r u t H1 locs1 ht hvm hw hB hz1 hk1 hS1 => ?_)
  obtain ⟨rfl, rfl⟩ := hw
  exact kk H1 locs1 ls (by rw [k9_We, ht] at hB; exact hB) (k9_D hD _) hS1 h
theorem k9_callNl2 (X : k9_X p R s m args c A G nL cc Ts own rm) {y : MethodName} {ws : List Cond} {rm2 : Room} {idx maxL : Nat} {bytes : ByteArray} {ret : Option FieldType} {mv : k9_Mem} {host : String} {rv : Int64} {w0 w1 : Value} (hM : k9_Cl l y ws rm2 G M [w0, w1] rv mv) (cw : (∀ s' : State, (∀ q ∈ k9_nest, va_Nw (.methodLinkNest q.1 q.2.1 q.2.2.1 q.2.2.2) s') → (∀ w ∈ Ts, w.before args s' = true) → s' = s → va_CN rm s args own idx y host bytes maxL ret ws rm2 0 0 2 ∧ (Cond.static y).before args s = true ∧ True)) (hW : (st.map fun v => v.category).sum ≤ 8) (d : decode cc pc = .ok (.invokestatic idx, 3)) (hr : cells ≤ rm.cells ∧ slots ≤ rm.slots) (kk : k9_U p l e R s m args below meth c Q A G nL cells slots mv (pc + 3) lv (.long rv :: st)) : k9_U p l e R s m args below meth c Q A G nL cells slots M pc lv (w1 :: w0 :: st) := by
  obtain ⟨hx, hb, hml, hown, hts, hK, hA, hSK, rfl⟩ := X
  intro H locs ls hP hD hS h
  refine va_calll (va_runSN (As := [w0, w1]) (rest := st) ⟨hx, hb, hml, hown, hts⟩ (hM H.size) (cw s hSK.2.2.2.2.2.1 hts rfl) ⟨k9_blind, k9_pre hK hA hSK hP hD hS⟩ rfl rfl h.1 rfl (lv_room hW) d ⟨by omega, by omega⟩) hS (fun z _ hz => k9_A_in hD hA hS.1 z hz) (k9_A_in hD hA hS.1) (fun r u t H1 locs1 ht hvm hw hB hz1 hk1 hS1 => ?_)
  obtain ⟨rfl, rfl⟩ := hw
  exact kk H1 locs1 ls (by rw [k9_We, ht] at hB; exact hB) (k9_D hD _) hS1 h
theorem k9_callNl3 (X : k9_X p R s m args c A G nL cc Ts own rm) {y : MethodName} {ws : List Cond} {rm2 : Room} {idx maxL : Nat} {bytes : ByteArray} {ret : Option FieldType} {mv : k9_Mem} {host : String} {rv : Int64} {w0 w1 w2 : Value} (hM : k9_Cl l y ws rm2 G M [w0, w1, w2] rv mv) (cw : (∀ s' : State, (∀ q ∈ k9_nest, va_Nw (.methodLinkNest q.1 q.2.1 q.2.2.1 q.2.2.2) s') → (∀ w ∈ Ts, w.before args s' = true) → s' = s → va_CN rm s args own idx y host bytes maxL ret ws rm2 0 0 3 ∧ (Cond.static y).before args s = true ∧ True)) (hW : (st.map fun v => v.category).sum ≤ 8) (d : decode cc pc = .ok (.invokestatic idx, 3)) (hr : cells ≤ rm.cells ∧ slots ≤ rm.slots) (kk : k9_U p l e R s m args below meth c Q A G nL cells slots mv (pc + 3) lv (.long rv :: st)) : k9_U p l e R s m args below meth c Q A G nL cells slots M pc lv (w2 :: w1 :: w0 :: st) := by
  obtain ⟨hx, hb, hml, hown, hts, hK, hA, hSK, rfl⟩ := X
  intro H locs ls hP hD hS h
  refine va_calll (va_runSN (As := [w0, w1, w2]) (rest := st) ⟨hx, hb, hml, hown, hts⟩ (hM H.size) (cw s hSK.2.2.2.2.2.1 hts rfl) ⟨k9_blind, k9_pre hK hA hSK hP hD hS⟩ rfl rfl h.1 rfl (lv_room hW) d ⟨by omega, by omega⟩) hS (fun z _ hz => k9_A_in hD hA hS.1 z hz) (k9_A_in hD hA hS.1) (fun r u t H1 locs1 ht hvm hw hB hz1 hk1 hS1 => ?_)
  obtain ⟨rfl, rfl⟩ := hw
  exact kk H1 locs1 ls (by rw [k9_We, ht] at hB; exact hB) (k9_D hD _) hS1 h
theorem k9_callNl4 (X : k9_X p R s m args c A G nL cc Ts own rm) {y : MethodName} {ws : List Cond} {rm2 : Room} {idx maxL : Nat} {bytes : ByteArray} {ret : Option FieldType} {mv : k9_Mem} {host : String} {rv : Int64} {w0 w1 w2 w3 : Value} (hM : k9_Cl l y ws rm2 G M [w0, w1, w2, w3] rv mv) (cw : (∀ s' : State, (∀ q ∈ k9_nest, va_Nw (.methodLinkNest q.1 q.2.1 q.2.2.1 q.2.2.2) s') → (∀ w ∈ Ts, w.before args s' = true) → s' = s → va_CN rm s args own idx y host bytes maxL ret ws rm2 0 0 4 ∧ (Cond.static y).before args s = true ∧ True)) (hW : (st.map fun v => v.category).sum ≤ 8) (d : decode cc pc = .ok (.invokestatic idx, 3)) (hr : cells ≤ rm.cells ∧ slots ≤ rm.slots) (kk : k9_U p l e R s m args below meth c Q A G nL cells slots mv (pc + 3) lv (.long rv :: st)) : k9_U p l e R s m args below meth c Q A G nL cells slots M pc lv (w3 :: w2 :: w1 :: w0 :: st) := by
  obtain ⟨hx, hb, hml, hown, hts, hK, hA, hSK, rfl⟩ := X
  intro H locs ls hP hD hS h
  refine va_calll (va_runSN (As := [w0, w1, w2, w3]) (rest := st) ⟨hx, hb, hml, hown, hts⟩ (hM H.size) (cw s hSK.2.2.2.2.2.1 hts rfl) ⟨k9_blind, k9_pre hK hA hSK hP hD hS⟩ rfl rfl h.1 rfl (lv_room hW) d ⟨by omega, by omega⟩) hS (fun z _ hz => k9_A_in hD hA hS.1 z hz) (k9_A_in hD hA hS.1) (fun r u t H1 locs1 ht hvm hw hB hz1 hk1 hS1 => ?_)
  obtain ⟨rfl, rfl⟩ := hw
  exact kk H1 locs1 ls (by rw [k9_We, ht] at hB; exact hB) (k9_D hD _) hS1 h
theorem k9_callNl5 (X : k9_X p R s m args c A G nL cc Ts own rm) {y : MethodName} {ws : List Cond} {rm2 : Room} {idx maxL : Nat} {bytes : ByteArray} {ret : Option FieldType} {mv : k9_Mem} {host : String} {rv : Int64} {w0 w1 w2 w3 w4 : Value} (hM : k9_Cl l y ws rm2 G M [w0, w1, w2, w3, w4] rv mv) (cw : (∀ s' : State, (∀ q ∈ k9_nest, va_Nw (.methodLinkNest q.1 q.2.1 q.2.2.1 q.2.2.2) s') → (∀ w ∈ Ts, w.before args s' = true) → s' = s → va_CN rm s args own idx y host bytes maxL ret ws rm2 0 0 5 ∧ (Cond.static y).before args s = true ∧ True)) (hW : (st.map fun v => v.category).sum ≤ 8) (d : decode cc pc = .ok (.invokestatic idx, 3)) (hr : cells ≤ rm.cells ∧ slots ≤ rm.slots) (kk : k9_U p l e R s m args below meth c Q A G nL cells slots mv (pc + 3) lv (.long rv :: st)) : k9_U p l e R s m args below meth c Q A G nL cells slots M pc lv (w4 :: w3 :: w2 :: w1 :: w0 :: st) := by
  obtain ⟨hx, hb, hml, hown, hts, hK, hA, hSK, rfl⟩ := X
  intro H locs ls hP hD hS h
  refine va_calll (va_runSN (As := [w0, w1, w2, w3, w4]) (rest := st) ⟨hx, hb, hml, hown, hts⟩ (hM H.size) (cw s hSK.2.2.2.2.2.1 hts rfl) ⟨k9_blind, k9_pre hK hA hSK hP hD hS⟩ rfl rfl h.1 rfl (lv_room hW) d ⟨by omega, by omega⟩) hS (fun z _ hz => k9_A_in hD hA hS.1 z hz) (k9_A_in hD hA hS.1) (fun r u t H1 locs1 ht hvm hw hB hz1 hk1 hS1 => ?_)
  obtain ⟨rfl, rfl⟩ := hw
  exact kk H1 locs1 ls (by rw [k9_We, ht] at hB; exact hB) (k9_D hD _) hS1 h
theorem k9_callVd0 (X : k9_X p R s m args c A G nL cc Ts own rm) {y : MethodName} {ws : List Cond} {rm2 : Room} {idx ci q maxL : Nat} {C : String} {bytes : ByteArray} {ret : Option FieldType} {mv : k9_Mem} {rv : UInt64} (hM : k9_Cd l y ws rm2 G M (.ref (k9_ga G q) :: []) rv mv) (ho : k9_ob q ci C) (cw : CallW rm s args own C idx y bytes maxL ret ws rm2 0 0 0) (hW : (st.map fun v => v.category).sum ≤ 8) (d : decode cc pc = .ok (.invokevirtual idx, 3)) (hr : cells ≤ rm.cells ∧ slots ≤ rm.slots) (kk : k9_U p l e R s m args below meth c Q A G nL cells slots mv (pc + 3) lv (.double rv :: st)) : k9_U p l e R s m args below meth c Q A G nL cells slots M pc lv (.ref (k9_ga G q) :: st) := by
  obtain ⟨hx, hb, hml, hown, hts, hK, hA, hSK, rfl⟩ := X
  intro H locs ls hP hD hS h
  obtain ⟨hq, ⟨T, N, hc⟩, hce⟩ := ho
  obtain ⟨fs, hfs⟩ := hce G (M q)
  refine va_calld (va_runV (As := []) (rest := st) ⟨hx, hb, hml, hown, hts⟩ (hM H.size) cw ⟨k9_blind, va_recv hK hP hc (q0 := q) (by rw [k9_wl_get G M hq, hfs]), k9_pre hK hA hSK hP hD hS⟩ rfl rfl h.1 rfl (lv_room hW) d ⟨by omega, by omega⟩) hS (fun z _ hz => k9_A_in hD hA hS.1 z hz) (k9_A_in hD hA hS.1) (fun r u t H1 locs1 ht hvm hw hB hz1 hk1 hS1 => ?_)
  obtain ⟨rfl, rfl⟩ := hw
  exact kk H1 locs1 ls (by rw [k9_We, ht] at hB; exact hB) (k9_D hD _) hS1 h
theorem k9_callVd1 (X : k9_X p R s m args c A G nL cc Ts own rm) {y : MethodName} {ws : List Cond} {rm2 : Room} {idx ci q maxL : Nat} {C : String} {bytes : ByteArray} {ret : Option FieldType} {mv : k9_Mem} {rv : UInt64} {w0 : Value} (hM : k9_Cd l y ws rm2 G M (.ref (k9_ga G q) :: [w0]) rv mv) (ho : k9_ob q ci C) (cw : CallW rm s args own C idx y bytes maxL ret ws rm2 0 0 1) (hW : (st.map fun v => v.category).sum ≤ 8) (d : decode cc pc = .ok (.invokevirtual idx, 3)) (hr : cells ≤ rm.cells ∧ slots ≤ rm.slots) (kk : k9_U p l e R s m args below meth c Q A G nL cells slots mv (pc + 3) lv (.double rv :: st)) : k9_U p l e R s m args below meth c Q A G nL cells slots M pc lv (w0 :: .ref (k9_ga G q) :: st) := by
  obtain ⟨hx, hb, hml, hown, hts, hK, hA, hSK, rfl⟩ := X
  intro H locs ls hP hD hS h
  obtain ⟨hq, ⟨T, N, hc⟩, hce⟩ := ho
  obtain ⟨fs, hfs⟩ := hce G (M q)
  refine va_calld (va_runV (As := [w0]) (rest := st) ⟨hx, hb, hml, hown, hts⟩ (hM H.size) cw ⟨k9_blind, va_recv hK hP hc (q0 := q) (by rw [k9_wl_get G M hq, hfs]), k9_pre hK hA hSK hP hD hS⟩ rfl rfl h.1 rfl (lv_room hW) d ⟨by omega, by omega⟩) hS (fun z _ hz => k9_A_in hD hA hS.1 z hz) (k9_A_in hD hA hS.1) (fun r u t H1 locs1 ht hvm hw hB hz1 hk1 hS1 => ?_)
  obtain ⟨rfl, rfl⟩ := hw
  exact kk H1 locs1 ls (by rw [k9_We, ht] at hB; exact hB) (k9_D hD _) hS1 h
theorem k9_callVd2 (X : k9_X p R s m args c A G nL cc Ts own rm) {y : MethodName} {ws : List Cond} {rm2 : Room} {idx ci q maxL : Nat} {C : String} {bytes : ByteArray} {ret : Option FieldType} {mv : k9_Mem} {rv : UInt64} {w0 w1 : Value} (hM : k9_Cd l y ws rm2 G M (.ref (k9_ga G q) :: [w0, w1]) rv mv) (ho : k9_ob q ci C) (cw : CallW rm s args own C idx y bytes maxL ret ws rm2 0 0 2) (hW : (st.map fun v => v.category).sum ≤ 8) (d : decode cc pc = .ok (.invokevirtual idx, 3)) (hr : cells ≤ rm.cells ∧ slots ≤ rm.slots) (kk : k9_U p l e R s m args below meth c Q A G nL cells slots mv (pc + 3) lv (.double rv :: st)) : k9_U p l e R s m args below meth c Q A G nL cells slots M pc lv (w1 :: w0 :: .ref (k9_ga G q) :: st) := by
  obtain ⟨hx, hb, hml, hown, hts, hK, hA, hSK, rfl⟩ := X
  intro H locs ls hP hD hS h
  obtain ⟨hq, ⟨T, N, hc⟩, hce⟩ := ho
  obtain ⟨fs, hfs⟩ := hce G (M q)
  refine va_calld (va_runV (As := [w0, w1]) (rest := st) ⟨hx, hb, hml, hown, hts⟩ (hM H.size) cw ⟨k9_blind, va_recv hK hP hc (q0 := q) (by rw [k9_wl_get G M hq, hfs]), k9_pre hK hA hSK hP hD hS⟩ rfl rfl h.1 rfl (lv_room hW) d ⟨by omega, by omega⟩) hS (fun z _ hz => k9_A_in hD hA hS.1 z hz) (k9_A_in hD hA hS.1) (fun r u t H1 locs1 ht hvm hw hB hz1 hk1 hS1 => ?_)
  obtain ⟨rfl, rfl⟩ := hw
  exact kk H1 locs1 ls (by rw [k9_We, ht] at hB; exact hB) (k9_D hD _) hS1 h
theorem k9_callVd3 (X : k9_X p R s m args c A G nL cc Ts own rm) {y : MethodName} {ws : List Cond} {rm2 : Room} {idx ci q maxL : Nat} {C : String} {bytes : ByteArray} {ret : Option FieldType} {mv : k9_Mem} {rv : UInt64} {w0 w1 w2 : Value} (hM : k9_Cd l y ws rm2 G M (.ref (k9_ga G q) :: [w0, w1, w2]) rv mv) (ho : k9_ob q ci C) (cw : CallW rm s args own C idx y bytes maxL ret ws rm2 0 0 3) (hW : (st.map fun v => v.category).sum ≤ 8) (d : decode cc pc = .ok (.invokevirtual idx, 3)) (hr : cells ≤ rm.cells ∧ slots ≤ rm.slots) (kk : k9_U p l e R s m args below meth c Q A G nL cells slots mv (pc + 3) lv (.double rv :: st)) : k9_U p l e R s m args below meth c Q A G nL cells slots M pc lv (w2 :: w1 :: w0 :: .ref (k9_ga G q) :: st) := by
  obtain ⟨hx, hb, hml, hown, hts, hK, hA, hSK, rfl⟩ := X
  intro H locs ls hP hD hS h
  obtain ⟨hq, ⟨T, N, hc⟩, hce⟩ := ho
  obtain ⟨fs, hfs⟩ := hce G (M q)
  refine va_calld (va_runV (As := [w0, w1, w2]) (rest := st) ⟨hx, hb, hml, hown, hts⟩ (hM H.size) cw ⟨k9_blind, va_recv hK hP hc (q0 := q) (by rw [k9_wl_get G M hq, hfs]), k9_pre hK hA hSK hP hD hS⟩ rfl rfl h.1 rfl (lv_room hW) d ⟨by omega, by omega⟩) hS (fun z _ hz => k9_A_in hD hA hS.1 z hz) (k9_A_in hD hA hS.1) (fun r u t H1 locs1 ht hvm hw hB hz1 hk1 hS1 => ?_)
  obtain ⟨rfl, rfl⟩ := hw
  exact kk H1 locs1 ls (by rw [k9_We, ht] at hB; exact hB) (k9_D hD _) hS1 h
theorem k9_callVd4 (X : k9_X p R s m args c A G nL cc Ts own rm) {y : MethodName} {ws : List Cond} {rm2 : Room} {idx ci q maxL : Nat} {C : String} {bytes : ByteArray} {ret : Option FieldType} {mv : k9_Mem} {rv : UInt64} {w0 w1 w2 w3 : Value} (hM : k9_Cd l y ws rm2 G M (.ref (k9_ga G q) :: [w0, w1, w2, w3]) rv mv) (ho : k9_ob q ci C) (cw : CallW rm s args own C idx y bytes maxL ret ws rm2 0 0 4) (hW : (st.map fun v => v.category).sum ≤ 8) (d : decode cc pc = .ok (.invokevirtual idx, 3)) (hr : cells ≤ rm.cells ∧ slots ≤ rm.slots) (kk : k9_U p l e R s m args below meth c Q A G nL cells slots mv (pc + 3) lv (.double rv :: st)) : k9_U p l e R s m args below meth c Q A G nL cells slots M pc lv (w3 :: w2 :: w1 :: w0 :: .ref (k9_ga G q) :: st) := by
  obtain ⟨hx, hb, hml, hown, hts, hK, hA, hSK, rfl⟩ := X
  intro H locs ls hP hD hS h
  obtain ⟨hq, ⟨T, N, hc⟩, hce⟩ := ho
  obtain ⟨fs, hfs⟩ := hce G (M q)
  refine va_calld (va_runV (As := [w0, w1, w2, w3]) (rest := st) ⟨hx, hb, hml, hown, hts⟩ (hM H.size) cw ⟨k9_blind, va_recv hK hP hc (q0 := q) (by rw [k9_wl_get G M hq, hfs]), k9_pre hK hA hSK hP hD hS⟩ rfl rfl h.1 rfl (lv_room hW) d ⟨by omega, by omega⟩) hS (fun z _ hz => k9_A_in hD hA hS.1 z hz) (k9_A_in hD hA hS.1) (fun r u t H1 locs1 ht hvm hw hB hz1 hk1 hS1 => ?_)
  obtain ⟨rfl, rfl⟩ := hw
  exact kk H1 locs1 ls (by rw [k9_We, ht] at hB; exact hB) (k9_D hD _) hS1 h
theorem k9_callVd5 (X : k9_X p R s m args c A G nL cc Ts own rm) {y : MethodName} {ws : List Cond} {rm2 : Room} {idx ci q maxL : Nat} {C : String} {bytes : ByteArray} {ret : Option FieldType} {mv : k9_Mem} {rv : UInt64} {w0 w1 w2 w3 w4 : Value} (hM : k9_Cd l y ws rm2 G M (.ref (k9_ga G q) :: [w0, w1, w2, w3, w4]) rv mv) (ho : k9_ob q ci C) (cw : CallW rm s args own C idx y bytes maxL ret ws rm2 0 0 5) (hW : (st.map fun v => v.category).sum ≤ 8) (d : decode cc pc = .ok (.invokevirtual idx, 3)) (hr : cells ≤ rm.cells ∧ slots ≤ rm.slots) (kk : k9_U p l e R s m args below meth c Q A G nL cells slots mv (pc + 3) lv (.double rv :: st)) : k9_U p l e R s m args below meth c Q A G nL cells slots M pc lv (w4 :: w3 :: w2 :: w1 :: w0 :: .ref (k9_ga G q) :: st) := by
  obtain ⟨hx, hb, hml, hown, hts, hK, hA, hSK, rfl⟩ := X
  intro H locs ls hP hD hS h
  obtain ⟨hq, ⟨T, N, hc⟩, hce⟩ := ho
  obtain ⟨fs, hfs⟩ := hce G (M q)
  refine va_calld (va_runV (As := [w0, w1, w2, w3, w4]) (rest := st) ⟨hx, hb, hml, hown, hts⟩ (hM H.size) cw ⟨k9_blind, va_recv hK hP hc (q0 := q) (by rw [k9_wl_get G M hq, hfs]), k9_pre hK hA hSK hP hD hS⟩ rfl rfl h.1 rfl (lv_room hW) d ⟨by omega, by omega⟩) hS (fun z _ hz => k9_A_in hD hA hS.1 z hz) (k9_A_in hD hA hS.1) (fun r u t H1 locs1 ht hvm hw hB hz1 hk1 hS1 => ?_)
  obtain ⟨rfl, rfl⟩ := hw
  exact kk H1 locs1 ls (by rw [k9_We, ht] at hB; exact hB) (k9_D hD _) hS1 h
theorem k9_callSd0 (X : k9_X p R s m args c A G nL cc Ts own rm) {y : MethodName} {ws : List Cond} {rm2 : Room} {idx maxL : Nat} {bytes : ByteArray} {ret : Option FieldType} {mv : k9_Mem} {rv : UInt64} (hM : k9_Cd l y ws rm2 G M [] rv mv) (cw : CallB rm s args own idx y bytes maxL ret ws rm2 0 0 0 ∧ (Cond.static y).before args s = true) (hW : (st.map fun v => v.category).sum ≤ 8) (d : decode cc pc = .ok (.invokestatic idx, 3)) (hr : cells ≤ rm.cells ∧ slots ≤ rm.slots) (kk : k9_U p l e R s m args below meth c Q A G nL cells slots mv (pc + 3) lv (.double rv :: st)) : k9_U p l e R s m args below meth c Q A G nL cells slots M pc lv (st) := by
  obtain ⟨hx, hb, hml, hown, hts, hK, hA, hSK, rfl⟩ := X
  intro H locs ls hP hD hS h
  refine va_calld (va_runS (As := []) (rest := st) ⟨hx, hb, hml, hown, hts⟩ (hM H.size) cw ⟨k9_blind, k9_pre hK hA hSK hP hD hS⟩ rfl rfl h.1 rfl (lv_room hW) d ⟨by omega, by omega⟩) hS (fun z _ hz => k9_A_in hD hA hS.1 z hz) (k9_A_in hD hA hS.1) (fun r u t H1 locs1 ht hvm hw hB hz1 hk1 hS1 => ?_)
  obtain ⟨rfl, rfl⟩ := hw
  exact kk H1 locs1 ls (by rw [k9_We, ht] at hB; exact hB) (k9_D hD _) hS1 h
theorem k9_callSd1 (X : k9_X p R s m args c A G nL cc Ts own rm) {y : MethodName} {ws : List Cond} {rm2 : Room} {idx maxL : Nat} {bytes : ByteArray} {ret : Option FieldType} {mv : k9_Mem} {rv : UInt64} {w0 : Value} (hM : k9_Cd l y ws rm2 G M [w0] rv mv) (cw : CallB rm s args own idx y bytes maxL ret ws rm2 0 0 1 ∧ (Cond.static y).before args s = true) (hW : (st.map fun v => v.category).sum ≤ 8) (d : decode cc pc = .ok (.invokestatic idx, 3)) (hr : cells ≤ rm.cells ∧ slots ≤ rm.slots) (kk : k9_U p l e R s m args below meth c Q A G nL cells slots mv (pc + 3) lv (.double rv :: st)) : k9_U p l e R s m args below meth c Q A G nL cells slots M pc lv (w0 :: st) := by
  obtain ⟨hx, hb, hml, hown, hts, hK, hA, hSK, rfl⟩ := X
  intro H locs ls hP hD hS h
  refine va_calld (va_runS (As := [w0]) (rest := st) ⟨hx, hb, hml, hown, hts⟩ (hM H.size) cw ⟨k9_blind, k9_pre hK hA hSK hP hD hS⟩ rfl rfl h.1 rfl (lv_room hW) d ⟨by omega, by omega⟩) hS (fun z _ hz => k9_A_in hD hA hS.1 z hz) (k9_A_in hD hA hS.1) (fun r u t H1 locs1 ht hvm hw hB hz1 hk1 hS1 => ?_)
  obtain ⟨rfl, rfl⟩ := hw
  exact kk H1 locs1 ls (by rw [k9_We, ht] at hB; exact hB) (k9_D hD _) hS1 h
theorem k9_callSd2 (X : k9_X p R s m args c A G nL cc Ts own rm) {y : MethodName} {ws : List Cond} {rm2 : Room} {idx maxL : Nat} {bytes : ByteArray} {ret : Option FieldType} {mv : k9_Mem} {rv : UInt64} {w0 w1 : Value} (hM : k9_Cd l y ws rm2 G M [w0, w1] rv mv) (cw : CallB rm s args own idx y bytes maxL ret ws rm2 0 0 2 ∧ (Cond.static y).before args s = true) (hW : (st.map fun v => v.category).sum ≤ 8) (d : decode cc pc = .ok (.invokestatic idx, 3)) (hr : cells ≤ rm.cells ∧ slots ≤ rm.slots) (kk : k9_U p l e R s m args below meth c Q A G nL cells slots mv (pc + 3) lv (.double rv :: st)) : k9_U p l e R s m args below meth c Q A G nL cells slots M pc lv (w1 :: w0 :: st) := by
  obtain ⟨hx, hb, hml, hown, hts, hK, hA, hSK, rfl⟩ := X
  intro H locs ls hP hD hS h
  refine va_calld (va_runS (As := [w0, w1]) (rest := st) ⟨hx, hb, hml, hown, hts⟩ (hM H.size) cw ⟨k9_blind, k9_pre hK hA hSK hP hD hS⟩ rfl rfl h.1 rfl (lv_room hW) d ⟨by omega, by omega⟩) hS (fun z _ hz => k9_A_in hD hA hS.1 z hz) (k9_A_in hD hA hS.1) (fun r u t H1 locs1 ht hvm hw hB hz1 hk1 hS1 => ?_)
  obtain ⟨rfl, rfl⟩ := hw
  exact kk H1 locs1 ls (by rw [k9_We, ht] at hB; exact hB) (k9_D hD _) hS1 h
theorem k9_callSd3 (X : k9_X p R s m args c A G nL cc Ts own rm) {y : MethodName} {ws : List Cond} {rm2 : Room} {idx maxL : Nat} {bytes : ByteArray} {ret : Option FieldType} {mv : k9_Mem} {rv : UInt64} {w0 w1 w2 : Value} (hM : k9_Cd l y ws rm2 G M [w0, w1, w2] rv mv) (cw : CallB rm s args own idx y bytes maxL ret ws rm2 0 0 3 ∧ (Cond.static y).before args s = true) (hW : (st.map fun v => v.category).sum ≤ 8) (d : decode cc pc = .ok (.invokestatic idx, 3)) (hr : cells ≤ rm.cells ∧ slots ≤ rm.slots) (kk : k9_U p l e R s m args below meth c Q A G nL cells slots mv (pc + 3) lv (.double rv :: st)) : k9_U p l e R s m args below meth c Q A G nL cells slots M pc lv (w2 :: w1 :: w0 :: st) := by
  obtain ⟨hx, hb, hml, hown, hts, hK, hA, hSK, rfl⟩ := X
  intro H locs ls hP hD hS h
  refine va_calld (va_runS (As := [w0, w1, w2]) (rest := st) ⟨hx, hb, hml, hown, hts⟩ (hM H.size) cw ⟨k9_blind, k9_pre hK hA hSK hP hD hS⟩ rfl rfl h.1 rfl (lv_room hW) d ⟨by omega, by omega⟩) hS (fun z _ hz => k9_A_in hD hA hS.1 z hz) (k9_A_in hD hA hS.1) (fun r u t H1 locs1 ht hvm hw hB hz1 hk1 hS1 => ?_)
  obtain ⟨rfl, rfl⟩ := hw
  exact kk H1 locs1 ls (by rw [k9_We, ht] at hB; exact hB) (k9_D hD _) hS1 h
theorem k9_callSd4 (X : k9_X p R s m args c A G nL cc Ts own rm) {y : MethodName} {ws : List Cond} {rm2 : Room} {idx maxL : Nat} {bytes : ByteArray} {ret : Option FieldType} {mv : k9_Mem} {rv : UInt64} {w0 w1 w2 w3 : Value} (hM : k9_Cd l y ws rm2 G M [w0, w1, w2, w3] rv mv) (cw : CallB rm s args own idx y bytes maxL ret ws rm2 0 0 4 ∧ (Cond.static y).before args s = true) (hW : (st.map fun v => v.category).sum ≤ 8) (d : decode cc pc = .ok (.invokestatic idx, 3)) (hr : cells ≤ rm.cells ∧ slots ≤ rm.slots) (kk : k9_U p l e R s m args below meth c Q A G nL cells slots mv (pc + 3) lv (.double rv :: st)) : k9_U p l e R s m args below meth c Q A G nL cells slots M pc lv (w3 :: w2 :: w1 :: w0 :: st) := by
  obtain ⟨hx, hb, hml, hown, hts, hK, hA, hSK, rfl⟩ := X
  intro H locs ls hP hD hS h
  refine va_calld (va_runS (As := [w0, w1, w2, w3]) (rest := st) ⟨hx, hb, hml, hown, hts⟩ (hM H.size) cw ⟨k9_blind, k9_pre hK hA hSK hP hD hS⟩ rfl rfl h.1 rfl (lv_room hW) d ⟨by omega, by omega⟩) hS (fun z _ hz => k9_A_in hD hA hS.1 z hz) (k9_A_in hD hA hS.1) (fun r u t H1 locs1 ht hvm hw hB hz1 hk1 hS1 => ?_)
  obtain ⟨rfl, rfl⟩ := hw
  exact kk H1 locs1 ls (by rw [k9_We, ht] at hB; exact hB) (k9_D hD _) hS1 h
theorem k9_callSd5 (X : k9_X p R s m args c A G nL cc Ts own rm) {y : MethodName} {ws : List Cond} {rm2 : Room} {idx maxL : Nat} {bytes : ByteArray} {ret : Option FieldType} {mv : k9_Mem} {rv : UInt64} {w0 w1 w2 w3 w4 : Value} (hM : k9_Cd l y ws rm2 G M [w0, w1, w2, w3, w4] rv mv) (cw : CallB rm s args own idx y bytes maxL ret ws rm2 0 0 5 ∧ (Cond.static y).before args s = true) (hW : (st.map fun v => v.category).sum ≤ 8) (d : decode cc pc = .ok (.invokestatic idx, 3)) (hr : cells ≤ rm.cells ∧ slots ≤ rm.slots) (kk : k9_U p l e R s m args below meth c Q A G nL cells slots mv (pc + 3) lv (.double rv :: st)) : k9_U p l e R s m args below meth c Q A G nL cells slots M pc lv (w4 :: w3 :: w2 :: w1 :: w0 :: st) := by
  obtain ⟨hx, hb, hml, hown, hts, hK, hA, hSK, rfl⟩ := X
  intro H locs ls hP hD hS h
  refine va_calld (va_runS (As := [w0, w1, w2, w3, w4]) (rest := st) ⟨hx, hb, hml, hown, hts⟩ (hM H.size) cw ⟨k9_blind, k9_pre hK hA hSK hP hD hS⟩ rfl rfl h.1 rfl (lv_room hW) d ⟨by omega, by omega⟩) hS (fun z _ hz => k9_A_in hD hA hS.1 z hz) (k9_A_in hD hA hS.1) (fun r u t H1 locs1 ht hvm hw hB hz1 hk1 hS1 => ?_)
  obtain ⟨rfl, rfl⟩ := hw
  exact kk H1 locs1 ls (by rw [k9_We, ht] at hB; exact hB) (k9_D hD _) hS1 h
theorem k9_callNd0 (X : k9_X p R s m args c A G nL cc Ts own rm) {y : MethodName} {ws : List Cond} {rm2 : Room} {idx maxL : Nat} {bytes : ByteArray} {ret : Option FieldType} {mv : k9_Mem} {host : String} {rv : UInt64} (hM : k9_Cd l y ws rm2 G M [] rv mv) (cw : (∀ s' : State, (∀ q ∈ k9_nest, va_Nw (.methodLinkNest q.1 q.2.1 q.2.2.1 q.2.2.2) s') → (∀ w ∈ Ts, w.before args s' = true) → s' = s → va_CN rm s args own idx y host bytes maxL ret ws rm2 0 0 0 ∧ (Cond.static y).before args s = true ∧ True)) (hW : (st.map fun v => v.category).sum ≤ 8) (d : decode cc pc = .ok (.invokestatic idx, 3)) (hr : cells ≤ rm.cells ∧ slots ≤ rm.slots) (kk : k9_U p l e R s m args below meth c Q A G nL cells slots mv (pc + 3) lv (.double rv :: st)) : k9_U p l e R s m args below meth c Q A G nL cells slots M pc lv (st) := by
  obtain ⟨hx, hb, hml, hown, hts, hK, hA, hSK, rfl⟩ := X
  intro H locs ls hP hD hS h
  refine va_calld (va_runSN (As := []) (rest := st) ⟨hx, hb, hml, hown, hts⟩ (hM H.size) (cw s hSK.2.2.2.2.2.1 hts rfl) ⟨k9_blind, k9_pre hK hA hSK hP hD hS⟩ rfl rfl h.1 rfl (lv_room hW) d ⟨by omega, by omega⟩) hS (fun z _ hz => k9_A_in hD hA hS.1 z hz) (k9_A_in hD hA hS.1) (fun r u t H1 locs1 ht hvm hw hB hz1 hk1 hS1 => ?_)
  obtain ⟨rfl, rfl⟩ := hw
  exact kk H1 locs1 ls (by rw [k9_We, ht] at hB; exact hB) (k9_D hD _) hS1 h
theorem k9_callNd1 (X : k9_X p R s m args c A G nL cc Ts own rm) {y : MethodName} {ws : List Cond} {rm2 : Room} {idx maxL : Nat} {bytes : ByteArray} {ret : Option FieldType} {mv : k9_Mem} {host : String} {rv : UInt64} {w0 : Value} (hM : k9_Cd l y ws rm2 G M [w0] rv mv) (cw : (∀ s' : State, (∀ q ∈ k9_nest, va_Nw (.methodLinkNest q.1 q.2.1 q.2.2.1 q.2.2.2) s') → (∀ w ∈ Ts, w.before args s' = true) → s' = s → va_CN rm s args own idx y host bytes maxL ret ws rm2 0 0 1 ∧ (Cond.static y).before args s = true ∧ True)) (hW : (st.map fun v => v.category).sum ≤ 8) (d : decode cc pc = .ok (.invokestatic idx, 3)) (hr : cells ≤ rm.cells ∧ slots ≤ rm.slots) (kk : k9_U p l e R s m args below meth c Q A G nL cells slots mv (pc + 3) lv (.double rv :: st)) : k9_U p l e R s m args below meth c Q A G nL cells slots M pc lv (w0 :: st) := by
  obtain ⟨hx, hb, hml, hown, hts, hK, hA, hSK, rfl⟩ := X
  intro H locs ls hP hD hS h
  refine va_calld (va_runSN (As := [w0]) (rest := st) ⟨hx, hb, hml, hown, hts⟩ (hM H.size) (cw s hSK.2.2.2.2.2.1 hts rfl) ⟨k9_blind, k9_pre hK hA hSK hP hD hS⟩ rfl rfl h.1 rfl (lv_room hW) d ⟨by omega, by omega⟩) hS (fun z _ hz => k9_A_in hD hA hS.1 z hz) (k9_A_in hD hA hS.1) (fun r u t H1 locs1 ht hvm hw hB hz1 hk1 hS1 => ?_)
  obtain ⟨rfl, rfl⟩ := hw
  exact kk H1 locs1 ls (by rw [k9_We, ht] at hB; exact hB) (k9_D hD _) hS1 h
theorem k9_callNd2 (X : k9_X p R s m args c A G nL cc Ts own rm) {y : MethodName} {ws : List Cond} {rm2 : Room} {idx maxL : Nat} {bytes : ByteArray} {ret : Option FieldType} {mv : k9_Mem} {host : String} {rv : UInt64} {w0 w1 : Value} (hM : k9_Cd l y ws rm2 G M [w0, w1] rv mv) (cw : (∀ s' : State, (∀ q ∈ k9_nest, va_Nw (.methodLinkNest q.1 q.2.1 q.2.2.1 q.2.2.2) s') → (∀ w ∈ Ts, w.before args s' = true) → s' = s → va_CN rm s args own idx y host bytes maxL ret ws rm2 0 0 2 ∧ (Cond.static y).before args s = true ∧ True)) (hW : (st.map fun v => v.category).sum ≤ 8) (d : decode cc pc = .ok (.invokestatic idx, 3)) (hr : cells ≤ rm.cells ∧ slots ≤ rm.slots) (kk : k9_U p l e R s m args below meth c Q A G nL cells slots mv (pc + 3) lv (.double rv :: st)) : k9_U p l e R s m args below meth c Q A G nL cells slots M pc lv (w1 :: w0 :: st) := by
  obtain ⟨hx, hb, hml, hown, hts, hK, hA, hSK, rfl⟩ := X
  intro H locs ls hP hD hS h
  refine va_calld (va_runSN (As := [w0, w1]) (rest := st) ⟨hx, hb, hml, hown, hts⟩ (hM H.size) (cw s hSK.2.2.2.2.2.1 hts rfl) ⟨k9_blind, k9_pre hK hA hSK hP hD hS⟩ rfl rfl h.1 rfl (lv_room hW) d ⟨by omega, by omega⟩) hS (fun z _ hz => k9_A_in hD hA hS.1 z hz) (k9_A_in hD hA hS.1) (fun r u t H1 locs1 ht hvm hw hB hz1 hk1 hS1 => ?_)
  obtain ⟨rfl, rfl⟩ := hw
  exact kk H1 locs1 ls (by rw [k9_We, ht] at hB; exact hB) (k9_D hD _) hS1 h
theorem k9_callNd3 (X : k9_X p R s m args c A G nL cc Ts own rm) {y : MethodName} {ws : List Cond} {rm2 : Room} {idx maxL : Nat} {bytes : ByteArray} {ret : Option FieldType} {mv : k9_Mem} {host : String} {rv : UInt64} {w0 w1 w2 : Value} (hM : k9_Cd l y ws rm2 G M [w0, w1, w2] rv mv) (cw : (∀ s' : State, (∀ q ∈ k9_nest, va_Nw (.methodLinkNest q.1 q.2.1 q.2.2.1 q.2.2.2) s') → (∀ w ∈ Ts, w.before args s' = true) → s' = s → va_CN rm s args own idx y host bytes maxL ret ws rm2 0 0 3 ∧ (Cond.static y).before args s = true ∧ True)) (hW : (st.map fun v => v.category).sum ≤ 8) (d : decode cc pc = .ok (.invokestatic idx, 3)) (hr : cells ≤ rm.cells ∧ slots ≤ rm.slots) (kk : k9_U p l e R s m args below meth c Q A G nL cells slots mv (pc + 3) lv (.double rv :: st)) : k9_U p l e R s m args below meth c Q A G nL cells slots M pc lv (w2 :: w1 :: w0 :: st) := by
  obtain ⟨hx, hb, hml, hown, hts, hK, hA, hSK, rfl⟩ := X
  intro H locs ls hP hD hS h
  refine va_calld (va_runSN (As := [w0, w1, w2]) (rest := st) ⟨hx, hb, hml, hown, hts⟩ (hM H.size) (cw s hSK.2.2.2.2.2.1 hts rfl) ⟨k9_blind, k9_pre hK hA hSK hP hD hS⟩ rfl rfl h.1 rfl (lv_room hW) d ⟨by omega, by omega⟩) hS (fun z _ hz => k9_A_in hD hA hS.1 z hz) (k9_A_in hD hA hS.1) (fun r u t H1 locs1 ht hvm hw hB hz1 hk1 hS1 => ?_)
  obtain ⟨rfl, rfl⟩ := hw
  exact kk H1 locs1 ls (by rw [k9_We, ht] at hB; exact hB) (k9_D hD _) hS1 h
theorem k9_callNd4 (X : k9_X p R s m args c A G nL cc Ts own rm) {y : MethodName} {ws : List Cond} {rm2 : Room} {idx maxL : Nat} {bytes : ByteArray} {ret : Option FieldType} {mv : k9_Mem} {host : String} {rv : UInt64} {w0 w1 w2 w3 : Value} (hM : k9_Cd l y ws rm2 G M [w0, w1, w2, w3] rv mv) (cw : (∀ s' : State, (∀ q ∈ k9_nest, va_Nw (.methodLinkNest q.1 q.2.1 q.2.2.1 q.2.2.2) s') → (∀ w ∈ Ts, w.before args s' = true) → s' = s → va_CN rm s args own idx y host bytes maxL ret ws rm2 0 0 4 ∧ (Cond.static y).before args s = true ∧ True)) (hW : (st.map fun v => v.category).sum ≤ 8) (d : decode cc pc = .ok (.invokestatic idx, 3)) (hr : cells ≤ rm.cells ∧ slots ≤ rm.slots) (kk : k9_U p l e R s m args below meth c Q A G nL cells slots mv (pc + 3) lv (.double rv :: st)) : k9_U p l e R s m args below meth c Q A G nL cells slots M pc lv (w3 :: w2 :: w1 :: w0 :: st) := by
  obtain ⟨hx, hb, hml, hown, hts, hK, hA, hSK, rfl⟩ := X
  intro H locs ls hP hD hS h
  refine va_calld (va_runSN (As := [w0, w1, w2, w3]) (rest := st) ⟨hx, hb, hml, hown, hts⟩ (hM H.size) (cw s hSK.2.2.2.2.2.1 hts rfl) ⟨k9_blind, k9_pre hK hA hSK hP hD hS⟩ rfl rfl h.1 rfl (lv_room hW) d ⟨by omega, by omega⟩) hS (fun z _ hz => k9_A_in hD hA hS.1 z hz) (k9_A_in hD hA hS.1) (fun r u t H1 locs1 ht hvm hw hB hz1 hk1 hS1 => ?_)
  obtain ⟨rfl, rfl⟩ := hw
  exact kk H1 locs1 ls (by rw [k9_We, ht] at hB; exact hB) (k9_D hD _) hS1 h
theorem k9_callNd5 (X : k9_X p R s m args c A G nL cc Ts own rm) {y : MethodName} {ws : List Cond} {rm2 : Room} {idx maxL : Nat} {bytes : ByteArray} {ret : Option FieldType} {mv : k9_Mem} {host : String} {rv : UInt64} {w0 w1 w2 w3 w4 : Value} (hM : k9_Cd l y ws rm2 G M [w0, w1, w2, w3, w4] rv mv) (cw : (∀ s' : State, (∀ q ∈ k9_nest, va_Nw (.methodLinkNest q.1 q.2.1 q.2.2.1 q.2.2.2) s') → (∀ w ∈ Ts, w.before args s' = true) → s' = s → va_CN rm s args own idx y host bytes maxL ret ws rm2 0 0 5 ∧ (Cond.static y).before args s = true ∧ True)) (hW : (st.map fun v => v.category).sum ≤ 8) (d : decode cc pc = .ok (.invokestatic idx, 3)) (hr : cells ≤ rm.cells ∧ slots ≤ rm.slots) (kk : k9_U p l e R s m args below meth c Q A G nL cells slots mv (pc + 3) lv (.double rv :: st)) : k9_U p l e R s m args below meth c Q A G nL cells slots M pc lv (w4 :: w3 :: w2 :: w1 :: w0 :: st) := by
  obtain ⟨hx, hb, hml, hown, hts, hK, hA, hSK, rfl⟩ := X
  intro H locs ls hP hD hS h
  refine va_calld (va_runSN (As := [w0, w1, w2, w3, w4]) (rest := st) ⟨hx, hb, hml, hown, hts⟩ (hM H.size) (cw s hSK.2.2.2.2.2.1 hts rfl) ⟨k9_blind, k9_pre hK hA hSK hP hD hS⟩ rfl rfl h.1 rfl (lv_room hW) d ⟨by omega, by omega⟩) hS (fun z _ hz => k9_A_in hD hA hS.1 z hz) (k9_A_in hD hA hS.1) (fun r u t H1 locs1 ht hvm hw hB hz1 hk1 hS1 => ?_)
  obtain ⟨rfl, rfl⟩ := hw
  exact kk H1 locs1 ls (by rw [k9_We, ht] at hB; exact hB) (k9_D hD _) hS1 h
theorem k9_callVv0 (X : k9_X p R s m args c A G nL cc Ts own rm) {y : MethodName} {ws : List Cond} {rm2 : Room} {idx ci q maxL : Nat} {C : String} {bytes : ByteArray} {ret : Option FieldType} {mv : k9_Mem} (hM : k9_Cv l y ws rm2 G M (.ref (k9_ga G q) :: []) mv) (ho : k9_ob q ci C) (cw : CallW rm s args own C idx y bytes maxL ret ws rm2 0 0 0) (hW : (st.map fun v => v.category).sum ≤ 8) (d : decode cc pc = .ok (.invokevirtual idx, 3)) (hr : cells ≤ rm.cells ∧ slots ≤ rm.slots) (kk : k9_U p l e R s m args below meth c Q A G nL cells slots mv (pc + 3) lv (st)) : k9_U p l e R s m args below meth c Q A G nL cells slots M pc lv (.ref (k9_ga G q) :: st) := by
  obtain ⟨hx, hb, hml, hown, hts, hK, hA, hSK, rfl⟩ := X
  intro H locs ls hP hD hS h
  obtain ⟨hq, ⟨T, N, hc⟩, hce⟩ := ho
  obtain ⟨fs, hfs⟩ := hce G (M q)
  refine va_callv (va_runV (As := []) (rest := st) ⟨hx, hb, hml, hown, hts⟩ (hM H.size) cw ⟨k9_blind, va_recv hK hP hc (q0 := q) (by rw [k9_wl_get G M hq, hfs]), k9_pre hK hA hSK hP hD hS⟩ rfl rfl h.1 rfl (lv_room hW) d ⟨by omega, by omega⟩) hS (fun z _ hz => k9_A_in hD hA hS.1 z hz) (k9_A_in hD hA hS.1) (fun u t H1 locs1 ht hvm hw hB hz1 hk1 hS1 => ?_)
  subst hw
  exact kk H1 locs1 ls (by rw [k9_We, ht] at hB; exact hB) (k9_D hD _) hS1 h
theorem k9_callVv1 (X : k9_X p R s m args c A G nL cc Ts own rm) {y : MethodName} {ws : List Cond} {rm2 : Room} {idx ci q maxL : Nat} {C : String} {bytes : ByteArray} {ret : Option FieldType} {mv : k9_Mem} {w0 : Value} (hM : k9_Cv l y ws rm2 G M (.ref (k9_ga G q) :: [w0]) mv) (ho : k9_ob q ci C) (cw : CallW rm s args own C idx y bytes maxL ret ws rm2 0 0 1) (hW : (st.map fun v => v.category).sum ≤ 8) (d : decode cc pc = .ok (.invokevirtual idx, 3)) (hr : cells ≤ rm.cells ∧ slots ≤ rm.slots) (kk : k9_U p l e R s m args below meth c Q A G nL cells slots mv (pc + 3) lv (st)) : k9_U p l e R s m args below meth c Q A G nL cells slots M pc lv (w0 :: .ref (k9_ga G q) :: st) := by
  obtain ⟨hx, hb, hml, hown, hts, hK, hA, hSK, rfl⟩ := X
  intro H locs ls hP hD hS h
  obtain ⟨hq, ⟨T, N, hc⟩, hce⟩ := ho
  obtain ⟨fs, hfs⟩ := hce G (M q)
  refine va_callv (va_runV (As := [w0]) (rest := st) ⟨hx, hb, hml, hown, hts⟩ (hM H.size) cw ⟨k9_blind, va_recv hK hP hc (q0 := q) (by rw [k9_wl_get G M hq, hfs]), k9_pre hK hA hSK hP hD hS⟩ rfl rfl h.1 rfl (lv_room hW) d ⟨by omega, by omega⟩) hS (fun z _ hz => k9_A_in hD hA hS.1 z hz) (k9_A_in hD hA hS.1) (fun u t H1 locs1 ht hvm hw hB hz1 hk1 hS1 => ?_)
  subst hw
  exact kk H1 locs1 ls (by rw [k9_We, ht] at hB; exact hB) (k9_D hD _) hS1 h
theorem k9_callVv2 (X : k9_X p R s m args c A G nL cc Ts own rm) {y : MethodName} {ws : List Cond} {rm2 : Room} {idx ci q maxL : Nat} {C : String} {bytes : ByteArray} {ret : Option FieldType} {mv : k9_Mem} {w0 w1 : Value} (hM : k9_Cv l y ws rm2 G M (.ref (k9_ga G q) :: [w0, w1]) mv) (ho : k9_ob q ci C) (cw : CallW rm s args own C idx y bytes maxL ret ws rm2 0 0 2) (hW : (st.map fun v => v.category).sum ≤ 8) (d : decode cc pc = .ok (.invokevirtual idx, 3)) (hr : cells ≤ rm.cells ∧ slots ≤ rm.slots) (kk : k9_U p l e R s m args below meth c Q A G nL cells slots mv (pc + 3) lv (st)) : k9_U p l e R s m args below meth c Q A G nL cells slots M pc lv (w1 :: w0 :: .ref (k9_ga G q) :: st) := by
  obtain ⟨hx, hb, hml, hown, hts, hK, hA, hSK, rfl⟩ := X
  intro H locs ls hP hD hS h
  obtain ⟨hq, ⟨T, N, hc⟩, hce⟩ := ho
  obtain ⟨fs, hfs⟩ := hce G (M q)
  refine va_callv (va_runV (As := [w0, w1]) (rest := st) ⟨hx, hb, hml, hown, hts⟩ (hM H.size) cw ⟨k9_blind, va_recv hK hP hc (q0 := q) (by rw [k9_wl_get G M hq, hfs]), k9_pre hK hA hSK hP hD hS⟩ rfl rfl h.1 rfl (lv_room hW) d ⟨by omega, by omega⟩) hS (fun z _ hz => k9_A_in hD hA hS.1 z hz) (k9_A_in hD hA hS.1) (fun u t H1 locs1 ht hvm hw hB hz1 hk1 hS1 => ?_)
  subst hw
  exact kk H1 locs1 ls (by rw [k9_We, ht] at hB; exact hB) (k9_D hD _) hS1 h
theorem k9_callVv3 (X : k9_X p R s m args c A G nL cc Ts own rm) {y : MethodName} {ws : List Cond} {rm2 : Room} {idx ci q maxL : Nat} {C : String} {bytes : ByteArray} {ret : Option FieldType} {mv : k9_Mem} {w0 w1 w2 : Value} (hM : k9_Cv l y ws rm2 G M (.ref (k9_ga G q) :: [w0, w1, w2]) mv) (ho : k9_ob q ci C) (cw : CallW rm s args own C idx y bytes maxL ret ws rm2 0 0 3) (hW : (st.map fun v => v.category).sum ≤ 8) (d : decode cc pc = .ok (.invokevirtual idx, 3)) (hr : cells ≤ rm.cells ∧ slots ≤ rm.slots) (kk : k9_U p l e R s m args below meth c Q A G nL cells slots mv (pc + 3) lv (st)) : k9_U p l e R s m args below meth c Q A G nL cells slots M pc lv (w2 :: w1 :: w0 :: .ref (k9_ga G q) :: st) := by
  obtain ⟨hx, hb, hml, hown, hts, hK, hA, hSK, rfl⟩ := X
  intro H locs ls hP hD hS h
  obtain ⟨hq, ⟨T, N, hc⟩, hce⟩ := ho
  obtain ⟨fs, hfs⟩ := hce G (M q)
  refine va_callv (va_runV (As := [w0, w1, w2]) (rest := st) ⟨hx, hb, hml, hown, hts⟩ (hM H.size) cw ⟨k9_blind, va_recv hK hP hc (q0 := q) (by rw [k9_wl_get G M hq, hfs]), k9_pre hK hA hSK hP hD hS⟩ rfl rfl h.1 rfl (lv_room hW) d ⟨by omega, by omega⟩) hS (fun z _ hz => k9_A_in hD hA hS.1 z hz) (k9_A_in hD hA hS.1) (fun u t H1 locs1 ht hvm hw hB hz1 hk1 hS1 => ?_)
  subst hw
  exact kk H1 locs1 ls (by rw [k9_We, ht] at hB; exact hB) (k9_D hD _) hS1 h
theorem k9_callVv4 (X : k9_X p R s m args c A G nL cc Ts own rm) {y : MethodName} {ws : List Cond} {rm2 : Room} {idx ci q maxL : Nat} {C : String} {bytes : ByteArray} {ret : Option FieldType} {mv : k9_Mem} {w0 w1 w2 w3 : Value} (hM : k9_Cv l y ws rm2 G M (.ref (k9_ga G q) :: [w0, w1, w2, w3]) mv) (ho : k9_ob q ci C) (cw : CallW rm s args own C idx y bytes maxL ret ws rm2 0 0 4) (hW : (st.map fun v => v.category).sum ≤ 8) (d : decode cc pc = .ok (.invokevirtual idx, 3)) (hr : cells ≤ rm.cells ∧ slots ≤ rm.slots) (kk : k9_U p l e R s m args below meth c Q A G nL cells slots mv (pc + 3) lv (st)) : k9_U p l e R s m args below meth c Q A G nL cells slots M pc lv (w3 :: w2 :: w1 :: w0 :: .ref (k9_ga G q) :: st) := by
  obtain ⟨hx, hb, hml, hown, hts, hK, hA, hSK, rfl⟩ := X
  intro H locs ls hP hD hS h
  obtain ⟨hq, ⟨T, N, hc⟩, hce⟩ := ho
  obtain ⟨fs, hfs⟩ := hce G (M q)
  refine va_callv (va_runV (As := [w0, w1, w2, w3]) (rest := st) ⟨hx, hb, hml, hown, hts⟩ (hM H.size) cw ⟨k9_blind, va_recv hK hP hc (q0 := q) (by rw [k9_wl_get G M hq, hfs]), k9_pre hK hA hSK hP hD hS⟩ rfl rfl h.1 rfl (lv_room hW) d ⟨by omega, by omega⟩) hS (fun z _ hz => k9_A_in hD hA hS.1 z hz) (k9_A_in hD hA hS.1) (fun u t H1 locs1 ht hvm hw hB hz1 hk1 hS1 => ?_)
  subst hw
  exact kk H1 locs1 ls (by rw [k9_We, ht] at hB; exact hB) (k9_D hD _) hS1 h
theorem k9_callVv5 (X : k9_X p R s m args c A G nL cc Ts own rm) {y : MethodName} {ws : List Cond} {rm2 : Room} {idx ci q maxL : Nat} {C : String} {bytes : ByteArray} {ret : Option FieldType} {mv : k9_Mem} {w0 w1 w2 w3 w4 : Value} (hM : k9_Cv l y ws rm2 G M (.ref (k9_ga G q) :: [w0, w1, w2, w3, w4]) mv) (ho : k9_ob q ci C) (cw : CallW rm s args own C idx y bytes maxL ret ws rm2 0 0 5) (hW : (st.map fun v => v.category).sum ≤ 8) (d : decode cc pc = .ok (.invokevirtual idx, 3)) (hr : cells ≤ rm.cells ∧ slots ≤ rm.slots) (kk : k9_U p l e R s m args below meth c Q A G nL cells slots mv (pc + 3) lv (st)) : k9_U p l e R s m args below meth c Q A G nL cells slots M pc lv (w4 :: w3 :: w2 :: w1 :: w0 :: .ref (k9_ga G q) :: st) := by
  obtain ⟨hx, hb, hml, hown, hts, hK, hA, hSK, rfl⟩ := X
  intro H locs ls hP hD hS h
  obtain ⟨hq, ⟨T, N, hc⟩, hce⟩ := ho
  obtain ⟨fs, hfs⟩ := hce G (M q)
  refine va_callv (va_runV (As := [w0, w1, w2, w3, w4]) (rest := st) ⟨hx, hb, hml, hown, hts⟩ (hM H.size) cw ⟨k9_blind, va_recv hK hP hc (q0 := q) (by rw [k9_wl_get G M hq, hfs]), k9_pre hK hA hSK hP hD hS⟩ rfl rfl h.1 rfl (lv_room hW) d ⟨by omega, by omega⟩) hS (fun z _ hz => k9_A_in hD hA hS.1 z hz) (k9_A_in hD hA hS.1) (fun u t H1 locs1 ht hvm hw hB hz1 hk1 hS1 => ?_)
  subst hw
  exact kk H1 locs1 ls (by rw [k9_We, ht] at hB; exact hB) (k9_D hD _) hS1 h
theorem k9_callSv0 (X : k9_X p R s m args c A G nL cc Ts own rm) {y : MethodName} {ws : List Cond} {rm2 : Room} {idx maxL : Nat} {bytes : ByteArray} {ret : Option FieldType} {mv : k9_Mem} (hM : k9_Cv l y ws rm2 G M [] mv) (cw : CallB rm s args own idx y bytes maxL ret ws rm2 0 0 0 ∧ (Cond.static y).before args s = true) (hW : (st.map fun v => v.category).sum ≤ 8) (d : decode cc pc = .ok (.invokestatic idx, 3)) (hr : cells ≤ rm.cells ∧ slots ≤ rm.slots) (kk : k9_U p l e R s m args below meth c Q A G nL cells slots mv (pc + 3) lv (st)) : k9_U p l e R s m args below meth c Q A G nL cells slots M pc lv (st) := by
  obtain ⟨hx, hb, hml, hown, hts, hK, hA, hSK, rfl⟩ := X
  intro H locs ls hP hD hS h
  refine va_callv (va_runS (As := []) (rest := st) ⟨hx, hb, hml, hown, hts⟩ (hM H.size) cw ⟨k9_blind, k9_pre hK hA hSK hP hD hS⟩ rfl rfl h.1 rfl (lv_room hW) d ⟨by omega, by omega⟩) hS (fun z _ hz => k9_A_in hD hA hS.1 z hz) (k9_A_in hD hA hS.1) (fun u t H1 locs1 ht hvm hw hB hz1 hk1 hS1 => ?_)
  subst hw
  exact kk H1 locs1 ls (by rw [k9_We, ht] at hB; exact hB) (k9_D hD _) hS1 h
theorem k9_callSv1 (X : k9_X p R s m args c A G nL cc Ts own rm) {y : MethodName} {ws : List Cond} {rm2 : Room} {idx maxL : Nat} {bytes : ByteArray} {ret : Option FieldType} {mv : k9_Mem} {w0 : Value} (hM : k9_Cv l y ws rm2 G M [w0] mv) (cw : CallB rm s args own idx y bytes maxL ret ws rm2 0 0 1 ∧ (Cond.static y).before args s = true) (hW : (st.map fun v => v.category).sum ≤ 8) (d : decode cc pc = .ok (.invokestatic idx, 3)) (hr : cells ≤ rm.cells ∧ slots ≤ rm.slots) (kk : k9_U p l e R s m args below meth c Q A G nL cells slots mv (pc + 3) lv (st)) : k9_U p l e R s m args below meth c Q A G nL cells slots M pc lv (w0 :: st) := by
  obtain ⟨hx, hb, hml, hown, hts, hK, hA, hSK, rfl⟩ := X
  intro H locs ls hP hD hS h
  refine va_callv (va_runS (As := [w0]) (rest := st) ⟨hx, hb, hml, hown, hts⟩ (hM H.size) cw ⟨k9_blind, k9_pre hK hA hSK hP hD hS⟩ rfl rfl h.1 rfl (lv_room hW) d ⟨by omega, by omega⟩) hS (fun z _ hz => k9_A_in hD hA hS.1 z hz) (k9_A_in hD hA hS.1) (fun u t H1 locs1 ht hvm hw hB hz1 hk1 hS1 => ?_)
  subst hw
  exact kk H1 locs1 ls (by rw [k9_We, ht] at hB; exact hB) (k9_D hD _) hS1 h
theorem k9_callSv2 (X : k9_X p R s m args c A G nL cc Ts own rm) {y : MethodName} {ws : List Cond} {rm2 : Room} {idx maxL : Nat} {bytes : ByteArray} {ret : Option FieldType} {mv : k9_Mem} {w0 w1 : Value} (hM : k9_Cv l y ws rm2 G M [w0, w1] mv) (cw : CallB rm s args own idx y bytes maxL ret ws rm2 0 0 2 ∧ (Cond.static y).before args s = true) (hW : (st.map fun v => v.category).sum ≤ 8) (d : decode cc pc = .ok (.invokestatic idx, 3)) (hr : cells ≤ rm.cells ∧ slots ≤ rm.slots) (kk : k9_U p l e R s m args below meth c Q A G nL cells slots mv (pc + 3) lv (st)) : k9_U p l e R s m args below meth c Q A G nL cells slots M pc lv (w1 :: w0 :: st) := by
  obtain ⟨hx, hb, hml, hown, hts, hK, hA, hSK, rfl⟩ := X
  intro H locs ls hP hD hS h
  refine va_callv (va_runS (As := [w0, w1]) (rest := st) ⟨hx, hb, hml, hown, hts⟩ (hM H.size) cw ⟨k9_blind, k9_pre hK hA hSK hP hD hS⟩ rfl rfl h.1 rfl (lv_room hW) d ⟨by omega, by omega⟩) hS (fun z _ hz => k9_A_in hD hA hS.1 z hz) (k9_A_in hD hA hS.1) (fun u t H1 locs1 ht hvm hw hB hz1 hk1 hS1 => ?_)
  subst hw
  exact kk H1 locs1 ls (by rw [k9_We, ht] at hB; exact hB) (k9_D hD _) hS1 h
theorem k9_callSv3 (X : k9_X p R s m args c A G nL cc Ts own rm) {y : MethodName} {ws : List Cond} {rm2 : Room} {idx maxL : Nat} {bytes : ByteArray} {ret : Option FieldType} {mv : k9_Mem} {w0 w1 w2 : Value} (hM : k9_Cv l y ws rm2 G M [w0, w1, w2] mv) (cw : CallB rm s args own idx y bytes maxL ret ws rm2 0 0 3 ∧ (Cond.static y).before args s = true) (hW : (st.map fun v => v.category).sum ≤ 8) (d : decode cc pc = .ok (.invokestatic idx, 3)) (hr : cells ≤ rm.cells ∧ slots ≤ rm.slots) (kk : k9_U p l e R s m args below meth c Q A G nL cells slots mv (pc + 3) lv (st)) : k9_U p l e R s m args below meth c Q A G nL cells slots M pc lv (w2 :: w1 :: w0 :: st) := by
  obtain ⟨hx, hb, hml, hown, hts, hK, hA, hSK, rfl⟩ := X
  intro H locs ls hP hD hS h
  refine va_callv (va_runS (As := [w0, w1, w2]) (rest := st) ⟨hx, hb, hml, hown, hts⟩ (hM H.size) cw ⟨k9_blind, k9_pre hK hA hSK hP hD hS⟩ rfl rfl h.1 rfl (lv_room hW) d ⟨by omega, by omega⟩) hS (fun z _ hz => k9_A_in hD hA hS.1 z hz) (k9_A_in hD hA hS.1) (fun u t H1 locs1 ht hvm hw hB hz1 hk1 hS1 => ?_)
  subst hw
  exact kk H1 locs1 ls (by rw [k9_We, ht] at hB; exact hB) (k9_D hD _) hS1 h
theorem k9_callSv4 (X : k9_X p R s m args c A G nL cc Ts own rm) {y : MethodName} {ws : List Cond} {rm2 : Room} {idx maxL : Nat} {bytes : ByteArray} {ret : Option FieldType} {mv : k9_Mem} {w0 w1 w2 w3 : Value} (hM : k9_Cv l y ws rm2 G M [w0, w1, w2, w3] mv) (cw : CallB rm s args own idx y bytes maxL ret ws rm2 0 0 4 ∧ (Cond.static y).before args s = true) (hW : (st.map fun v => v.category).sum ≤ 8) (d : decode cc pc = .ok (.invokestatic idx, 3)) (hr : cells ≤ rm.cells ∧ slots ≤ rm.slots) (kk : k9_U p l e R s m args below meth c Q A G nL cells slots mv (pc + 3) lv (st)) : k9_U p l e R s m args below meth c Q A G nL cells slots M pc lv (w3 :: w2 :: w1 :: w0 :: st) := by
  obtain ⟨hx, hb, hml, hown, hts, hK, hA, hSK, rfl⟩ := X
  intro H locs ls hP hD hS h
  refine va_callv (va_runS (As := [w0, w1, w2, w3]) (rest := st) ⟨hx, hb, hml, hown, hts⟩ (hM H.size) cw ⟨k9_blind, k9_pre hK hA hSK hP hD hS⟩ rfl rfl h.1 rfl (lv_room hW) d ⟨by omega, by omega⟩) hS (fun z _ hz => k9_A_in hD hA hS.1 z hz) (k9_A_in hD hA hS.1) (fun u t H1 locs1 ht hvm hw hB hz1 hk1 hS1 => ?_)
  subst hw
  exact kk H1 locs1 ls (by rw [k9_We, ht] at hB; exact hB) (k9_D hD _) hS1 h
theorem k9_callSv5 (X : k9_X p R s m args c A G nL cc Ts own rm) {y : MethodName} {ws : List Cond} {rm2 : Room} {idx maxL : Nat} {bytes : ByteArray} {ret : Option FieldType} {mv : k9_Mem} {w0 w1 w2 w3 w4 : Value} (hM : k9_Cv l y ws rm2 G M [w0, w1, w2, w3, w4] mv) (cw : CallB rm s args own idx y bytes maxL ret ws rm2 0 0 5 ∧ (Cond.static y).before args s = true) (hW : (st.map fun v => v.category).sum ≤ 8) (d : decode cc pc = .ok (.invokestatic idx, 3)) (hr : cells ≤ rm.cells ∧ slots ≤ rm.slots) (kk : k9_U p l e R s m args below meth c Q A G nL cells slots mv (pc + 3) lv (st)) : k9_U p l e R s m args below meth c Q A G nL cells slots M pc lv (w4 :: w3 :: w2 :: w1 :: w0 :: st) := by
  obtain ⟨hx, hb, hml, hown, hts, hK, hA, hSK, rfl⟩ := X
  intro H locs ls hP hD hS h
  refine va_callv (va_runS (As := [w0, w1, w2, w3, w4]) (rest := st) ⟨hx, hb, hml, hown, hts⟩ (hM H.size) cw ⟨k9_blind, k9_pre hK hA hSK hP hD hS⟩ rfl rfl h.1 rfl (lv_room hW) d ⟨by omega, by omega⟩) hS (fun z _ hz => k9_A_in hD hA hS.1 z hz) (k9_A_in hD hA hS.1) (fun u t H1 locs1 ht hvm hw hB hz1 hk1 hS1 => ?_)
  subst hw
  exact kk H1 locs1 ls (by rw [k9_We, ht] at hB; exact hB) (k9_D hD _) hS1 h
theorem k9_callNv0 (X : k9_X p R s m args c A G nL cc Ts own rm) {y : MethodName} {ws : List Cond} {rm2 : Room} {idx maxL : Nat} {bytes : ByteArray} {ret : Option FieldType} {mv : k9_Mem} {host : String} (hM : k9_Cv l y ws rm2 G M [] mv) (cw : (∀ s' : State, (∀ q ∈ k9_nest, va_Nw (.methodLinkNest q.1 q.2.1 q.2.2.1 q.2.2.2) s') → (∀ w ∈ Ts, w.before args s' = true) → s' = s → va_CN rm s args own idx y host bytes maxL ret ws rm2 0 0 0 ∧ (Cond.static y).before args s = true ∧ True)) (hW : (st.map fun v => v.category).sum ≤ 8) (d : decode cc pc = .ok (.invokestatic idx, 3)) (hr : cells ≤ rm.cells ∧ slots ≤ rm.slots) (kk : k9_U p l e R s m args below meth c Q A G nL cells slots mv (pc + 3) lv (st)) : k9_U p l e R s m args below meth c Q A G nL cells slots M pc lv (st) := by
  obtain ⟨hx, hb, hml, hown, hts, hK, hA, hSK, rfl⟩ := X
  intro H locs ls hP hD hS h
  refine va_callv (va_runSN (As := []) (rest := st) ⟨hx, hb, hml, hown, hts⟩ (hM H.size) (cw s hSK.2.2.2.2.2.1 hts rfl) ⟨k9_blind, k9_pre hK hA hSK hP hD hS⟩ rfl rfl h.1 rfl (lv_room hW) d ⟨by omega, by omega⟩) hS (fun z _ hz => k9_A_in hD hA hS.1 z hz) (k9_A_in hD hA hS.1) (fun u t H1 locs1 ht hvm hw hB hz1 hk1 hS1 => ?_)
  subst hw
  exact kk H1 locs1 ls (by rw [k9_We, ht] at hB; exact hB) (k9_D hD _) hS1 h
theorem k9_callNv1 (X : k9_X p R s m args c A G nL cc Ts own rm) {y : MethodName} {ws : List Cond} {rm2 : Room} {idx maxL : Nat} {bytes : ByteArray} {ret : Option FieldType} {mv : k9_Mem} {host : String} {w0 : Value} (hM : k9_Cv l y ws rm2 G M [w0] mv) (cw : (∀ s' : State, (∀ q ∈ k9_nest, va_Nw (.methodLinkNest q.1 q.2.1 q.2.2.1 q.2.2.2) s') → (∀ w ∈ Ts, w.before args s' = true) → s' = s → va_CN rm s args own idx y host bytes maxL ret ws rm2 0 0 1 ∧ (Cond.static y).before args s = true ∧ True)) (hW : (st.map fun v => v.category).sum ≤ 8) (d : decode cc pc = .ok (.invokestatic idx, 3)) (hr : cells ≤ rm.cells ∧ slots ≤ rm.slots) (kk : k9_U p l e R s m args below meth c Q A G nL cells slots mv (pc + 3) lv (st)) : k9_U p l e R s m args below meth c Q A G nL cells slots M pc lv (w0 :: st) := by
  obtain ⟨hx, hb, hml, hown, hts, hK, hA, hSK, rfl⟩ := X
  intro H locs ls hP hD hS h
  refine va_callv (va_runSN (As := [w0]) (rest := st) ⟨hx, hb, hml, hown, hts⟩ (hM H.size) (cw s hSK.2.2.2.2.2.1 hts rfl) ⟨k9_blind, k9_pre hK hA hSK hP hD hS⟩ rfl rfl h.1 rfl (lv_room hW) d ⟨by omega, by omega⟩) hS (fun z _ hz => k9_A_in hD hA hS.1 z hz) (k9_A_in hD hA hS.1) (fun u t H1 locs1 ht hvm hw hB hz1 hk1 hS1 => ?_)
  subst hw
  exact kk H1 locs1 ls (by rw [k9_We, ht] at hB; exact hB) (k9_D hD _) hS1 h
theorem k9_callNv2 (X : k9_X p R s m args c A G nL cc Ts own rm) {y : MethodName} {ws : List Cond} {rm2 : Room} {idx maxL : Nat} {bytes : ByteArray} {ret : Option FieldType} {mv : k9_Mem} {host : String} {w0 w1 : Value} (hM : k9_Cv l y ws rm2 G M [w0, w1] mv) (cw : (∀ s' : State, (∀ q ∈ k9_nest, va_Nw (.methodLinkNest q.1 q.2.1 q.2.2.1 q.2.2.2) s') → (∀ w ∈ Ts, w.before args s' = true) → s' = s → va_CN rm s args own idx y host bytes maxL ret ws rm2 0 0 2 ∧ (Cond.static y).before args s = true ∧ True)) (hW : (st.map fun v => v.category).sum ≤ 8) (d : decode cc pc = .ok (.invokestatic idx, 3)) (hr : cells ≤ rm.cells ∧ slots ≤ rm.slots) (kk : k9_U p l e R s m args below meth c Q A G nL cells slots mv (pc + 3) lv (st)) : k9_U p l e R s m args below meth c Q A G nL cells slots M pc lv (w1 :: w0 :: st) := by
  obtain ⟨hx, hb, hml, hown, hts, hK, hA, hSK, rfl⟩ := X
  intro H locs ls hP hD hS h
  refine va_callv (va_runSN (As := [w0, w1]) (rest := st) ⟨hx, hb, hml, hown, hts⟩ (hM H.size) (cw s hSK.2.2.2.2.2.1 hts rfl) ⟨k9_blind, k9_pre hK hA hSK hP hD hS⟩ rfl rfl h.1 rfl (lv_room hW) d ⟨by omega, by omega⟩) hS (fun z _ hz => k9_A_in hD hA hS.1 z hz) (k9_A_in hD hA hS.1) (fun u t H1 locs1 ht hvm hw hB hz1 hk1 hS1 => ?_)
  subst hw
  exact kk H1 locs1 ls (by rw [k9_We, ht] at hB; exact hB) (k9_D hD _) hS1 h
theorem k9_callNv3 (X : k9_X p R s m args c A G nL cc Ts own rm) {y : MethodName} {ws : List Cond} {rm2 : Room} {idx maxL : Nat} {bytes : ByteArray} {ret : Option FieldType} {mv : k9_Mem} {host : String} {w0 w1 w2 : Value} (hM : k9_Cv l y ws rm2 G M [w0, w1, w2] mv) (cw : (∀ s' : State, (∀ q ∈ k9_nest, va_Nw (.methodLinkNest q.1 q.2.1 q.2.2.1 q.2.2.2) s') → (∀ w ∈ Ts, w.before args s' = true) → s' = s → va_CN rm s args own idx y host bytes maxL ret ws rm2 0 0 3 ∧ (Cond.static y).before args s = true ∧ True)) (hW : (st.map fun v => v.category).sum ≤ 8) (d : decode cc pc = .ok (.invokestatic idx, 3)) (hr : cells ≤ rm.cells ∧ slots ≤ rm.slots) (kk : k9_U p l e R s m args below meth c Q A G nL cells slots mv (pc + 3) lv (st)) : k9_U p l e R s m args below meth c Q A G nL cells slots M pc lv (w2 :: w1 :: w0 :: st) := by
  obtain ⟨hx, hb, hml, hown, hts, hK, hA, hSK, rfl⟩ := X
  intro H locs ls hP hD hS h
  refine va_callv (va_runSN (As := [w0, w1, w2]) (rest := st) ⟨hx, hb, hml, hown, hts⟩ (hM H.size) (cw s hSK.2.2.2.2.2.1 hts rfl) ⟨k9_blind, k9_pre hK hA hSK hP hD hS⟩ rfl rfl h.1 rfl (lv_room hW) d ⟨by omega, by omega⟩) hS (fun z _ hz => k9_A_in hD hA hS.1 z hz) (k9_A_in hD hA hS.1) (fun u t H1 locs1 ht hvm hw hB hz1 hk1 hS1 => ?_)
  subst hw
  exact kk H1 locs1 ls (by rw [k9_We, ht] at hB; exact hB) (k9_D hD _) hS1 h
theorem k9_callNv4 (X : k9_X p R s m args c A G nL cc Ts own rm) {y : MethodName} {ws : List Cond} {rm2 : Room} {idx maxL : Nat} {bytes : ByteArray} {ret : Option FieldType} {mv : k9_Mem} {host : String} {w0 w1 w2 w3 : Value} (hM : k9_Cv l y ws rm2 G M [w0, w1, w2, w3] mv) (cw : (∀ s' : State, (∀ q ∈ k9_nest, va_Nw (.methodLinkNest q.1 q.2.1 q.2.2.1 q.2.2.2) s') → (∀ w ∈ Ts, w.before args s' = true) → s' = s → va_CN rm s args own idx y host bytes maxL ret ws rm2 0 0 4 ∧ (Cond.static y).before args s = true ∧ True)) (hW : (st.map fun v => v.category).sum ≤ 8) (d : decode cc pc = .ok (.invokestatic idx, 3)) (hr : cells ≤ rm.cells ∧ slots ≤ rm.slots) (kk : k9_U p l e R s m args below meth c Q A G nL cells slots mv (pc + 3) lv (st)) : k9_U p l e R s m args below meth c Q A G nL cells slots M pc lv (w3 :: w2 :: w1 :: w0 :: st) := by
  obtain ⟨hx, hb, hml, hown, hts, hK, hA, hSK, rfl⟩ := X
  intro H locs ls hP hD hS h
  refine va_callv (va_runSN (As := [w0, w1, w2, w3]) (rest := st) ⟨hx, hb, hml, hown, hts⟩ (hM H.size) (cw s hSK.2.2.2.2.2.1 hts rfl) ⟨k9_blind, k9_pre hK hA hSK hP hD hS⟩ rfl rfl h.1 rfl (lv_room hW) d ⟨by omega, by omega⟩) hS (fun z _ hz => k9_A_in hD hA hS.1 z hz) (k9_A_in hD hA hS.1) (fun u t H1 locs1 ht hvm hw hB hz1 hk1 hS1 => ?_)
  subst hw
  exact kk H1 locs1 ls (by rw [k9_We, ht] at hB; exact hB) (k9_D hD _) hS1 h
theorem k9_callNv5 (X : k9_X p R s m args c A G nL cc Ts own rm) {y : MethodName} {ws : List Cond} {rm2 : Room} {idx maxL : Nat} {bytes : ByteArray} {ret : Option FieldType} {mv : k9_Mem} {host : String} {w0 w1 w2 w3 w4 : Value} (hM : k9_Cv l y ws rm2 G M [w0, w1, w2, w3, w4] mv) (cw : (∀ s' : State, (∀ q ∈ k9_nest, va_Nw (.methodLinkNest q.1 q.2.1 q.2.2.1 q.2.2.2) s') → (∀ w ∈ Ts, w.before args s' = true) → s' = s → va_CN rm s args own idx y host bytes maxL ret ws rm2 0 0 5 ∧ (Cond.static y).before args s = true ∧ True)) (hW : (st.map fun v => v.category).sum ≤ 8) (d : decode cc pc = .ok (.invokestatic idx, 3)) (hr : cells ≤ rm.cells ∧ slots ≤ rm.slots) (kk : k9_U p l e R s m args below meth c Q A G nL cells slots mv (pc + 3) lv (st)) : k9_U p l e R s m args below meth c Q A G nL cells slots M pc lv (w4 :: w3 :: w2 :: w1 :: w0 :: st) := by
  obtain ⟨hx, hb, hml, hown, hts, hK, hA, hSK, rfl⟩ := X
  intro H locs ls hP hD hS h
  refine va_callv (va_runSN (As := [w0, w1, w2, w3, w4]) (rest := st) ⟨hx, hb, hml, hown, hts⟩ (hM H.size) (cw s hSK.2.2.2.2.2.1 hts rfl) ⟨k9_blind, k9_pre hK hA hSK hP hD hS⟩ rfl rfl h.1 rfl (lv_room hW) d ⟨by omega, by omega⟩) hS (fun z _ hz => k9_A_in hD hA hS.1 z hz) (k9_A_in hD hA hS.1) (fun u t H1 locs1 ht hvm hw hB hz1 hk1 hS1 => ?_)
  subst hw
  exact kk H1 locs1 ls (by rw [k9_We, ht] at hB; exact hB) (k9_D hD _) hS1 h
end K9D
