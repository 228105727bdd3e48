/-! The law's wrappers: try, and catch. -/
def k9_gv (G : k9_G) (v : Nat) : k9_G := (G.1, fun k => if k = 90 then v else G.2.1 k, G.2.2)
def k9_out (G : k9_G) (rv : Int32) : k9_G := k9_gv G rv.toInt64.toBitVec.toNat
theorem k9_gv_ga (G : k9_G) (v : Nat) {k : Nat} (h : k ≠ 90) : k9_ga (k9_gv G v) k = k9_ga G k := if_neg h
theorem k9_gv_90 (G : k9_G) (v : Nat) : k9_ga (k9_gv G v) 90 = v := by
  show (if 90 = 90 then v else G.2.1 90) = v
  exact if_pos rfl
theorem k9_gv2 (G : k9_G) (v w : Nat) : k9_gv (k9_gv G v) w = k9_gv G w := by
  unfold k9_gv
  congr 2
  funext k
  show (if k = 90 then w else if k = 90 then v else G.2.1 k) = if k = 90 then w else G.2.1 k
  by_cases c : k = 90
  · rw [if_pos c, if_pos c]
  · rw [if_neg c, if_neg c, if_neg c]
theorem k9_gv_self (G : k9_G) : k9_gv G (k9_ga G 90) = G := by
  obtain ⟨a, b, c⟩ := G
  unfold k9_gv k9_ga
  congr 2
  funext k
  show (if k = 90 then b 90 else b k) = b k
  by_cases h : k = 90
  · rw [if_pos h, h]
  · rw [if_neg h]
theorem k9_pc90 (x : Int32) : k9_pc x ≠ 90 := by
  unfold k9_pc
  omega
theorem k9_gv_ce (G : k9_G) (v : Nat) (f : Nat → Int32) {k : Nat} (h : k < 89) : k9_ce (k9_gv G v) f k = k9_ce G f k := by
  have g : ∀ j, j < 90 → k9_ga (k9_gv G v) j = k9_ga G j := fun j hj => k9_gv_ga G v (by omega)
  unfold k9_ce
  by_cases c : k9_arL k = 0
  · rw [if_pos c, if_pos c]
    unfold k9_obj
    by_cases c0 : k = 0
    · rw [if_pos c0, if_pos c0, g 1 (by omega), g 57 (by omega), g 64 (by omega), g 66 (by omega), g 71 (by omega)]
    · rw [if_neg c0, if_neg c0]
      by_cases c1 : k = 59 ∨ k = 73 ∨ (k < 57 ∧ k % 8 = 6)
      · rw [if_pos c1, if_pos c1]
        unfold k9_chO
        rw [g (k + 1) (by omega), g (k + 2) (by omega)]
      · rw [if_neg c1, if_neg c1]
        by_cases c2 : k < 57
        · rw [if_pos c2, if_pos c2]
          unfold k9_paO
          rw [g (k + 1) (by omega), g (k + 2) (by omega), g (k + 3) (by omega), g (k + 4) (by omega), g (k + 5) (by omega)]
        · rw [if_neg c2, if_neg c2]
          by_cases c3 : k = 57
          · rw [if_pos c3, if_pos c3, g 58 (by omega), g 59 (by omega), g 62 (by omega), g 63 (by omega)]
          · rw [if_neg c3, if_neg c3]
            by_cases c4 : k = 64
            · rw [if_pos c4, if_pos c4, g 65 (by omega)]
            · rw [if_neg c4, if_neg c4]
              by_cases c5 : k = 65
              · rw [if_pos c5, if_pos c5]
                have e : (fun j => some (k9_ga (k9_gv G v) (k9_pc (f j)))) = (fun j => some (k9_ga G (k9_pc (f j)))) := funext (fun j => by rw [k9_gv_ga G v (k9_pc90 _)])
                rw [e]
                rfl
              · rw [if_neg c5, if_neg c5]
                by_cases c6 : k = 66
                · rw [if_pos c6, if_pos c6, g 67 (by omega), g 68 (by omega), g 69 (by omega), g 70 (by omega)]
                · rw [if_neg c6, if_neg c6]
                  by_cases c7 : k = 71
                  · rw [if_pos c7, if_pos c7, g 72 (by omega), g 73 (by omega)]
                  · rw [if_neg c7, if_neg c7]
                    by_cases c8 : k = 76
                    · rw [if_pos c8, if_pos c8, g 77 (by omega), g 78 (by omega), g 79 (by omega), g 80 (by omega), g 81 (by omega), g 82 (by omega), g 83 (by omega), g 84 (by omega), g 85 (by omega), g 86 (by omega), g 87 (by omega), g 88 (by omega)]
                    · exfalso
                      have key : ∀ j, j < 89 → k9_arL j = 0 → j = 0 ∨ (j = 59 ∨ j = 73 ∨ (j < 57 ∧ j % 8 = 6)) ∨ j < 57 ∨ j = 57 ∨ j = 64 ∨ j = 65 ∨ j = 66 ∨ j = 71 ∨ j = 76 := by decide +kernel
                      have := key k h c
                      omega
  · rw [if_neg c, if_neg c]
    rfl
theorem k9_wl_gv (G : k9_G) (v : Nat) (M : k9_Mem) (g : Nat → Int64) (hg : g = fun j => if j = 0 then Int64.ofBitVec (BitVec.ofNat 64 v) else 0) : (k9_wl G M).set 89 (k9_ga G 89, .inl (G.2.2.2.2.1, 1, .inr (.inl g))) = k9_wl (k9_gv G v) M := by
  subst hg
  apply List.ext_getElem?
  intro i
  by_cases hi : i < 90
  · rw [k9_wl_get (k9_gv G v) M hi]
    by_cases hk : i = 89
    · subst hk
      rw [List.getElem?_set_self (by unfold k9_wl; simp), k9_gv_ga G v (by decide)]
      rfl
    · rw [List.getElem?_set_ne (Ne.symm hk), k9_wl_get G M hi, k9_gv_ga G v (by omega), k9_gv_ce G v _ (by omega)]
  · rw [List.getElem?_eq_none (by unfold k9_wl; simp; omega), List.getElem?_eq_none (by unfold k9_wl; simp; omega)]
/-- a wrapper's contract: the code, and the row of the answer written where nothing was thrown -/
def k9_L (l : Launch) (y : MethodName) (ws : List Cond) (rm : Room) (mc ms : Nat) (G : k9_G) (M : k9_Mem) (av : List Value) (x : Option String) (cd rv : Int32) (mv mx : k9_Mem) : Prop :=
  ∀ sz, Met l y ws rm (va_Pc av (k9_Pr G M sz)) (va_Qi (fun (r : Int32) (u : k9_G × k9_Mem) => r = cd ∧ ((x = none ∧ u = (k9_out G rv, mv)) ∨ (x ≠ none ∧ u = (G, mx)))) (fun u t => k9_We u.1 u.2 t) (k9_A G sz)) mc ms (k9_A G sz)
def k9_code (L : List String) (x : Option String) : Int32 := match x with
  | none => 0
  | some E => nI (L.idxOf E + 1)
section K9W
variable {p : Program} {l : Launch} {e : Env} {R : Room} {s : State} {m : MethodId} {args : Array Value} {below : List Frame} {meth : Method} {c : Code} {Q : State → Prop} {A : Nat → Prop} {G : k9_G} {nL cells slots : Nat} {M : k9_Mem} {pc : Nat} {lv lv' : List (Nat × Value)} {st : List Value} {cc : ByteArray} {Ts : List Cond} {own : String} {rm : Room}
theorem k9_catch (X : k9_X p R s m args c A G nL cc Ts own rm) {E : String} (hE : E ∈ k9_cast) (pre : List ExceptionTableEntry) (x : ExceptionTableEntry) (suf : List ExceptionTableEntry) (hsplit : c.exceptionTable.toList = pre ++ x :: suf) (hpass : ∀ z ∈ pre, z.catchType ≠ 0 ∧ ∃ nm : String, Cond.classLink own z.catchType nm ∈ Ts ∧ (E, nm) ∈ k9_nc) (hx : covers x pc = true) (h0 : x.catchType ≠ 0) (hlink : Cond.classLink own x.catchType E ∈ Ts) {tgt : Nat} (ht : x.handlerPc = tgt) (kk : ∀ q : Nat, k9_U p l e R s m args below meth c Q A G nL cells slots M tgt lv [.ref q]) : k9_UX p l e R s m args below meth c Q A G nL cells slots M pc lv st E := by
  subst ht
  obtain ⟨hx0, hb, hml, hown, hts, hK, hA, hSK, rfl⟩ := X
  intro H locs ls q ce hP hD hS h h1 h2 h3
  refine vx_catch hown pre x suf hsplit (fun z hz => ?_) hx h0 (hts _ hlink) (va_Nw.use rfl (hSK.2.2.2.2.2.2.2.1 E hE)) h1 h2 h3 (kk q H locs ls hP hD hS h)
  obtain ⟨z1, nm, z2, z3⟩ := hpass z hz
  exact Or.inr ⟨z1, nm, hts _ z2, hSK.2.2.2.2.2.2.1 _ z3⟩
theorem k9_lastO (X : k9_X p R s m args c A G nL cc Ts own rm) {rv : Int32} (d : decode cc pc = .ok (.lastore, 1)) (kk : k9_U p l e R s m args below meth c Q A (k9_out G rv) nL cells slots M (pc + 1) lv st) : k9_U p l e R s m args below meth c Q A G nL cells slots M pc lv (.long rv.toInt64 :: .int 0 :: .ref (k9_ga G 89) :: st) := by
  intro H locs ls hP hD hS h
  have hw : (k9_wl G M)[89]? = some (k9_ga G 89, .inl (G.2.2.2.2.1, 1, .inr (.inl (fun j => if j = 0 then Int64.ofBitVec (BitVec.ofNat 64 (k9_ga G 90)) else 0)))) := by
    rw [k9_wl_get G M (by decide)]
    rfl
  refine va_last X.1 X.2.1 X.2.2.2.2.2.1 hP hD hS 89 2 hw rfl (k9_inL (j := 0) (by decide) (by decide) (by decide)) d (fun H1 locs1 hP1 hD1 hS1 => ?_)
  have e : (k9_wl G M).set 89 (k9_ga G 89, .inl (G.2.2.2.2.1, 1, .inr (.inl (vp_updL (fun j => if j = 0 then Int64.ofBitVec (BitVec.ofNat 64 (k9_ga G 90)) else 0) (0 : Int32).toNatClampNeg rv.toInt64)))) = k9_wl (k9_out G rv) M := by
    refine k9_wl_gv G _ M _ (funext (fun j => ?_))
    have e0 : (0 : Int32).toNatClampNeg = 0 := by decide
    have e1 : Int64.ofBitVec (BitVec.ofNat 64 rv.toInt64.toBitVec.toNat) = rv.toInt64 := by
      rw [BitVec.ofNat_toNat, BitVec.setWidth_eq]
      rfl
    rw [e1, e0]
    by_cases c0 : j = 0
    · subst c0; rfl
    · rw [if_neg c0]
      show (if j = 0 then rv.toInt64 else if j = 0 then _ else (0 : Int64)) = 0
      rw [if_neg c0, if_neg c0]
  rw [e] at hP1 hD1
  exact kk H1 locs1 ls hP1 hD1 hS1 h
theorem k9_callVyi0 (X : k9_X p R s m args c A G nL cc Ts own rm) {y : MethodName} {ws : List Cond} {rm2 : Room} {idx maxL mc ms : Nat} {bytes : ByteArray} {ret : Option FieldType} {mv N : k9_Mem} {xv : Option String} {rv : Int32} {q ci : Nat} {C : String} (hM : k9_Cyi l y ws rm2 mc ms G M N (.ref (k9_ga G q) :: []) xv rv mv) (ho : k9_ob q ci C) (cw : CallW rm s args own C idx y bytes maxL ret ws rm2 mc ms 0) (hW : (st.map fun v => v.category).sum ≤ 8) (d : decode cc pc = .ok (.invokevirtual idx, 3)) (hr : cells + mc ≤ R.cells ∧ slots + ms ≤ R.slots) (kx : ∀ E : String, xv = some E → k9_UX p l e R s m args below meth c Q A G nL (cells + mc) (slots + ms) N pc lv st E) (kk : xv = none → k9_U p l e R s m args below meth c Q A G nL (cells + mc) (slots + ms) mv (pc + 3) lv (.int rv :: st)) : k9_U p l e R s m args below meth c Q A G nL cells slots M pc lv (.ref (k9_ga G q) :: st) := by
  obtain ⟨hx, hb, hml, hown, hts, hK, hA, hSK, rfl⟩ := X
  intro H locs ls hP hD hS h
  obtain ⟨hq, ⟨T, N9, hc⟩, hce⟩ := ho
  obtain ⟨fs, hfs⟩ := hce G (M q)
  refine vx_calli (vx_runV (As := []) (rest := st) ⟨hx, hb, hml, hown, hts⟩ (hM H.size) cw ⟨k9_blind, va_recv hK hP hc (q0 := q) (by rw [k9_wl_get G M hq, hfs]), k9_pre hK hA hSK hP hD hS⟩ rfl rfl h.1 rfl (lv_room hW) d hr) hS (fun z _ hz => k9_A_in hD hA hS.1 z hz) (k9_A_in hD hA hS.1) (fun z _ hz => k9_A_in hD hA hS.1 z hz) (fun E ce q9 u t H1 locs1 ht hvm hp hB hz1 hk1 hS1 h1 h2 h3 => ?_) (fun r u t H1 locs1 ht hvm hw hB hz1 hk1 hS1 => ?_)
  · exact kx E hB.1 H1 locs1 ls q9 ce (by have h9 := hB.2; rw [k9_We, ht] at h9; exact h9) (k9_D hD _) hS1 h h1 h2 h3
  · obtain ⟨hn, rfl, rfl⟩ := hw
    exact kk hn H1 locs1 ls (by rw [k9_We, ht] at hB; exact hB) (k9_D hD _) hS1 h
end K9W
theorem k9_metW {l : Launch} {y : MethodName} {ws ws' : List Cond} {rm : Room} {mc ms : Nat} {G : k9_G} {M : k9_Mem} {av : List Value} {x : Option String} {cd rv : Int32} {mv mx : k9_Mem} {cc : ByteArray} {maxL : Nat} {hh : List (Nat × Nat × Nat × Nat)} (hy : plainName y.cls = true) (hown : y.cls = RL) (hw : ws = Cond.codeWith y cc maxL (some .int) hh :: ws') (hlen : (lg_sl av).length ≤ maxL)
    (body : ∀ {p : Program} {e : Env} {s : State} {m : MethodId} {args : Array Value} {below : List Frame} {meth : Method} {c : Code} {A : Nat → Prop} {Q : State → Prop}, k9_X p rm s m args c A G maxL cc ws RL rm → c.exceptionTable.toList = tableOf hh → (∀ G2 M2 k n pc lv, k ≤ mc → n ≤ ms → ((x = none ∧ G2 = k9_out G rv ∧ M2 = mv) ∨ (x ≠ none ∧ G2 = G ∧ M2 = mx)) → decode cc pc = .ok (.ireturn, 1) → k9_U p l e rm s m args below meth c Q A G2 maxL k n M2 pc lv [.int cd]) → k9_U p l e rm s m args below meth c Q A G maxL 0 0 M 0 (lv_args 0 av) []) : k9_L l y ws rm mc ms G M av x cd rv mv mx := by
  intro sz
  refine MetFree.of_bodyS (code := cc) (maxLocals := maxL) (ret := some .int) hy ?_ ?_
  · intro args s m h hn
    obtain ⟨m9, meth, c, hn9, h1, h2, h3, h4, -, h5, h6, -⟩ := Cond.codeWith_spec (atoms_spec (ws := ws) h _ (by rw [hw]; exact List.mem_cons_self))
    cases hn.symm.trans hn9
    exact ⟨meth, c, h1, h2, h3, h4, h5, h6⟩
  · intro p e s m args below meth c s₁ B hml hP0 _
    have hh0 : s₁.heap = s.heap := by rw [B.state]; rfl
    obtain ⟨rfl, hsz, hP, hK, hD0, hSK⟩ := hP0
    have hts := atoms_spec (ws := ws) B.pre
    have hown' : s.vm.findClass RL = some m.cls := by rw [← hown]; exact findClass_of_methodNamed B.named
    have htab := vx_table (x := y) B (hts _ (by rw [hw]; exact List.mem_cons_self))
    subst hsz
    have hD := k9_A_D s.heap.size hD0
    have hl := lv_entry av hlen
    have K : W p l e rm s m av.toArray below meth c s.heap [] 0 0 (MQ below (va_Qi (fun (r : Int32) (u : k9_G × k9_Mem) => r = cd ∧ ((x = none ∧ u = (k9_out G rv, mv)) ∨ (x ≠ none ∧ u = (G, mx)))) (fun u t => k9_We u.1 u.2 t) (k9_A G s.heap.size)) av.toArray s mc ms (k9_A G s.heap.size)) (entryFrame m av.toArray maxL) := by
      rw [lg_entry_eq]
      refine body (A := k9_A G s.heap.size) ⟨B.exec, B.bytes, hml, hown', hts, hK, fun q h => Or.inr h, hSK, rfl⟩ htab (fun G2 M2 k n pc lv hk hn hor d H locs ls hP hD hS h => ?_) s.heap [] _ hP hD va_S.rf hl
      refine W.widen hk hn ?_
      refine W.iret B.exec B.bytes B.returns (fun t ht hW => ⟨⟨cd, (G2, M2), rfl, ⟨rfl, ?_⟩, by show va_P G2.1 vwCl (k9_wl G2 M2) t.heap; rw [ht]; exact hP⟩, hS.F ht⟩) hS.2.2 d B.notSynchronized
      rcases hor with ⟨h1, rfl, rfl⟩ | ⟨h1, rfl, rfl⟩
      · exact Or.inl ⟨h1, rfl⟩
      · exact Or.inr ⟨h1, rfl⟩
    obtain ⟨t, a1, o, b1, b2, b3⟩ := K s₁ hh0 (Stand.of_body B)
    exact ⟨t, o, a1, b1, b2, ⟨b3.1, b3.2⟩⟩

theorem cl_L_punch : Cond.classLink RL 13 m9_io ∈ wsL_punch ∧ Cond.classLink RL 15 m9_ia ∈ wsL_punch ∧ Cond.classLink RL 17 m9_is ∈ wsL_punch := ⟨by decide +kernel, by decide +kernel, by decide +kernel⟩
set_option maxRecDepth 20000 in
theorem ct_L_punch (l : Launch) (G : k9_G) (M : k9_Mem) (a b n : Int32) {x : Option String} {rv : Int32} {mv : k9_Mem} (hM : k9_Cxi l yX6_punch wsX6_punch rm_X6_punch 3 18 G M [.ref (k9_ga G 0), .int a, .int b, .int n] x rv mv) (hx : ∀ E, x = some E → E ∈ [m9_io, m9_ia, m9_is]) : k9_L l yL_punch wsL_punch rm_L_punch 3 18 G M [.ref (k9_ga G 0), .int a, .int b, .int n, .ref (k9_ga G 89)] x (k9_code [m9_io, m9_ia, m9_is] x) rv mv M := by
  refine k9_metW (by decide +kernel) rfl rfl (Nat.le_of_ble_eq_true rfl) ?_
  intro p e s m args below meth c A Q X htab HR
  refine k9_aload X dL_punch_0 4 rfl ?_
  refine k9_iconst (v := 0) X dL_punch_2 (by decide) ?_
  refine k9_aload_n X dL_punch_3 rfl 0 rfl ?_
  refine k9_iload_n X dL_punch_4 rfl 1 rfl ?_
  refine k9_iload_n X dL_punch_5 rfl 2 rfl ?_
  refine k9_iload_n X dL_punch_6 rfl 3 rfl ?_
  refine k9_callVxi3 X hM k9_ob_0 (cwV 3 X.2.2.2.2.1 gL_punch_X6_punch rfl rfl rfl (by decide +kernel) ⟨Nat.le_of_ble_eq_true rfl, Nat.le_of_ble_eq_true rfl⟩) (Nat.le_of_ble_eq_true rfl) dL_punch_7 ⟨Nat.le_of_ble_eq_true rfl, Nat.le_of_ble_eq_true rfl⟩ (fun E hE => ?_) (fun hn => ?_)
  · have hm := hx E hE
    subst hE
    simp only [List.mem_cons, List.not_mem_nil, or_false] at hm
    rcases hm with rfl | rfl | rfl
    · refine k9_catch (tgt := 15) X (by decide +kernel) [] ⟨0, 12, 15, 13⟩ [⟨0, 12, 19, 15⟩, ⟨0, 12, 23, 17⟩] (by rw [htab]; rfl) (fun z hz => absurd hz List.not_mem_nil) rfl (by decide) cl_L_punch.1 rfl (fun q => ?_)
      refine k9_astore (i := 5) X dL_punch_15 (by decide) [0] rfl ?_
      refine k9_iconst (v := 1) X dL_punch_17 (by decide) ?_
      exact HR _ _ _ _ _ _ (Nat.le_of_ble_eq_true rfl) (Nat.le_of_ble_eq_true rfl) (Or.inr ⟨fun z => (by cases z), rfl, rfl⟩) dL_punch_18
    · refine k9_catch (tgt := 19) X (by decide +kernel) [⟨0, 12, 15, 13⟩] ⟨0, 12, 19, 15⟩ [⟨0, 12, 23, 17⟩] (by rw [htab]; rfl) (fun z hz => by rw [List.mem_singleton] at hz; subst hz; exact ⟨(by decide), _, cl_L_punch.1, (by decide +kernel)⟩) rfl (by decide) cl_L_punch.2.1 rfl (fun q => ?_)
      refine k9_astore (i := 5) X dL_punch_19 (by decide) [0] rfl ?_
      refine k9_iconst (v := 2) X dL_punch_21 (by decide) ?_
      exact HR _ _ _ _ _ _ (Nat.le_of_ble_eq_true rfl) (Nat.le_of_ble_eq_true rfl) (Or.inr ⟨fun z => (by cases z), rfl, rfl⟩) dL_punch_22
    · refine k9_catch (tgt := 23) X (by decide +kernel) [⟨0, 12, 15, 13⟩, ⟨0, 12, 19, 15⟩] ⟨0, 12, 23, 17⟩ [] (by rw [htab]; rfl) (fun z hz => by rcases List.mem_cons.mp hz with rfl | hz; exact ⟨(by decide), _, cl_L_punch.1, (by decide +kernel)⟩; rw [List.mem_singleton] at hz; subst hz; exact ⟨(by decide), _, cl_L_punch.2.1, (by decide +kernel)⟩) rfl (by decide) cl_L_punch.2.2 rfl (fun q => ?_)
      refine k9_astore (i := 5) X dL_punch_23 (by decide) [0] rfl ?_
      refine k9_iconst (v := 3) X dL_punch_25 (by decide) ?_
      exact HR _ _ _ _ _ _ (Nat.le_of_ble_eq_true rfl) (Nat.le_of_ble_eq_true rfl) (Or.inr ⟨fun z => (by cases z), rfl, rfl⟩) dL_punch_26
  · refine k9_i2l X dL_punch_10 ?_
    refine k9_lastO X dL_punch_11 ?_
    have X2 : k9_X p rm_L_punch s m args c A (k9_out G rv) 6 cL_punch wsL_punch RL rm_L_punch := X
    refine k9_goto (tgt := 27) X2 dL_punch_12 (by decide) ?_
    refine k9_iconst (v := 0) X2 dL_punch_27 (by decide) ?_
    subst hn
    exact HR _ _ _ _ _ _ (Nat.le_of_ble_eq_true rfl) (Nat.le_of_ble_eq_true rfl) (Or.inl ⟨rfl, rfl, rfl⟩) dL_punch_28
theorem cl_L_patch : Cond.classLink RL 13 m9_io ∈ wsL_patch ∧ Cond.classLink RL 15 m9_ia ∈ wsL_patch := ⟨by decide +kernel, by decide +kernel⟩
set_option maxRecDepth 20000 in
theorem ct_L_patch (l : Launch) (G : k9_G) (M : k9_Mem) (a b n : Int32) {x : Option String} {rv : Int32} {mv : k9_Mem} (hM : k9_Cxi l yX6_patch wsX6_patch rm_X6_patch 3 18 G M [.ref (k9_ga G 0), .int a, .int b, .int n] x rv mv) (hx : ∀ E, x = some E → E ∈ [m9_io, m9_ia]) : k9_L l yL_patch wsL_patch rm_L_patch 3 18 G M [.ref (k9_ga G 0), .int a, .int b, .int n, .ref (k9_ga G 89)] x (k9_code [m9_io, m9_ia] x) rv mv M := by
  refine k9_metW (by decide +kernel) rfl rfl (Nat.le_of_ble_eq_true rfl) ?_
  intro p e s m args below meth c A Q X htab HR
  refine k9_aload X dL_patch_0 4 rfl ?_
  refine k9_iconst (v := 0) X dL_patch_2 (by decide) ?_
  refine k9_aload_n X dL_patch_3 rfl 0 rfl ?_
  refine k9_iload_n X dL_patch_4 rfl 1 rfl ?_
  refine k9_iload_n X dL_patch_5 rfl 2 rfl ?_
  refine k9_iload_n X dL_patch_6 rfl 3 rfl ?_
  refine k9_callVxi3 X hM k9_ob_0 (cwV 3 X.2.2.2.2.1 gL_patch_X6_patch rfl rfl rfl (by decide +kernel) ⟨Nat.le_of_ble_eq_true rfl, Nat.le_of_ble_eq_true rfl⟩) (Nat.le_of_ble_eq_true rfl) dL_patch_7 ⟨Nat.le_of_ble_eq_true rfl, Nat.le_of_ble_eq_true rfl⟩ (fun E hE => ?_) (fun hn => ?_)
  · have hm := hx E hE
    subst hE
    simp only [List.mem_cons, List.not_mem_nil, or_false] at hm
    rcases hm with rfl | rfl
    · refine k9_catch (tgt := 15) X (by decide +kernel) [] ⟨0, 12, 15, 13⟩ [⟨0, 12, 19, 15⟩] (by rw [htab]; rfl) (fun z hz => absurd hz List.not_mem_nil) rfl (by decide) cl_L_patch.1 rfl (fun q => ?_)
      refine k9_astore (i := 5) X dL_patch_15 (by decide) [0] rfl ?_
      refine k9_iconst (v := 1) X dL_patch_17 (by decide) ?_
      exact HR _ _ _ _ _ _ (Nat.le_of_ble_eq_true rfl) (Nat.le_of_ble_eq_true rfl) (Or.inr ⟨fun z => (by cases z), rfl, rfl⟩) dL_patch_18
    · refine k9_catch (tgt := 19) X (by decide +kernel) [⟨0, 12, 15, 13⟩] ⟨0, 12, 19, 15⟩ [] (by rw [htab]; rfl) (fun z hz => by rw [List.mem_singleton] at hz; subst hz; exact ⟨(by decide), _, cl_L_patch.1, (by decide +kernel)⟩) rfl (by decide) cl_L_patch.2 rfl (fun q => ?_)
      refine k9_astore (i := 5) X dL_patch_19 (by decide) [0] rfl ?_
      refine k9_iconst (v := 2) X dL_patch_21 (by decide) ?_
      exact HR _ _ _ _ _ _ (Nat.le_of_ble_eq_true rfl) (Nat.le_of_ble_eq_true rfl) (Or.inr ⟨fun z => (by cases z), rfl, rfl⟩) dL_patch_22
  · refine k9_i2l X dL_patch_10 ?_
    refine k9_lastO X dL_patch_11 ?_
    have X2 : k9_X p rm_L_patch s m args c A (k9_out G rv) 6 cL_patch wsL_patch RL rm_L_patch := X
    refine k9_goto (tgt := 23) X2 dL_patch_12 (by decide) ?_
    refine k9_iconst (v := 0) X2 dL_patch_23 (by decide) ?_
    subst hn
    exact HR _ _ _ _ _ _ (Nat.le_of_ble_eq_true rfl) (Nat.le_of_ble_eq_true rfl) (Or.inl ⟨rfl, rfl, rfl⟩) dL_patch_24
theorem cl_L_peel : Cond.classLink RL 13 m9_io ∈ wsL_peel ∧ Cond.classLink RL 15 m9_ia ∈ wsL_peel := ⟨by decide +kernel, by decide +kernel⟩
set_option maxRecDepth 20000 in
theorem ct_L_peel (l : Launch) (G : k9_G) (M : k9_Mem) (a b n : Int32) {x : Option String} {rv : Int32} {mv : k9_Mem} (hM : k9_Cxi l yX6_peel wsX6_peel rm_X6_peel 3 18 G M [.ref (k9_ga G 0), .int a, .int b, .int n] x rv mv) (hx : ∀ E, x = some E → E ∈ [m9_io, m9_ia]) : k9_L l yL_peel wsL_peel rm_L_peel 3 18 G M [.ref (k9_ga G 0), .int a, .int b, .int n, .ref (k9_ga G 89)] x (k9_code [m9_io, m9_ia] x) rv mv M := by
  refine k9_metW (by decide +kernel) rfl rfl (Nat.le_of_ble_eq_true rfl) ?_
  intro p e s m args below meth c A Q X htab HR
  refine k9_aload X dL_peel_0 4 rfl ?_
  refine k9_iconst (v := 0) X dL_peel_2 (by decide) ?_
  refine k9_aload_n X dL_peel_3 rfl 0 rfl ?_
  refine k9_iload_n X dL_peel_4 rfl 1 rfl ?_
  refine k9_iload_n X dL_peel_5 rfl 2 rfl ?_
  refine k9_iload_n X dL_peel_6 rfl 3 rfl ?_
  refine k9_callVxi3 X hM k9_ob_0 (cwV 3 X.2.2.2.2.1 gL_peel_X6_peel rfl rfl rfl (by decide +kernel) ⟨Nat.le_of_ble_eq_true rfl, Nat.le_of_ble_eq_true rfl⟩) (Nat.le_of_ble_eq_true rfl) dL_peel_7 ⟨Nat.le_of_ble_eq_true rfl, Nat.le_of_ble_eq_true rfl⟩ (fun E hE => ?_) (fun hn => ?_)
  · have hm := hx E hE
    subst hE
    simp only [List.mem_cons, List.not_mem_nil, or_false] at hm
    rcases hm with rfl | rfl
    · refine k9_catch (tgt := 15) X (by decide +kernel) [] ⟨0, 12, 15, 13⟩ [⟨0, 12, 19, 15⟩] (by rw [htab]; rfl) (fun z hz => absurd hz List.not_mem_nil) rfl (by decide) cl_L_peel.1 rfl (fun q => ?_)
      refine k9_astore (i := 5) X dL_peel_15 (by decide) [0] rfl ?_
      refine k9_iconst (v := 1) X dL_peel_17 (by decide) ?_
      exact HR _ _ _ _ _ _ (Nat.le_of_ble_eq_true rfl) (Nat.le_of_ble_eq_true rfl) (Or.inr ⟨fun z => (by cases z), rfl, rfl⟩) dL_peel_18
    · refine k9_catch (tgt := 19) X (by decide +kernel) [⟨0, 12, 15, 13⟩] ⟨0, 12, 19, 15⟩ [] (by rw [htab]; rfl) (fun z hz => by rw [List.mem_singleton] at hz; subst hz; exact ⟨(by decide), _, cl_L_peel.1, (by decide +kernel)⟩) rfl (by decide) cl_L_peel.2 rfl (fun q => ?_)
      refine k9_astore (i := 5) X dL_peel_19 (by decide) [0] rfl ?_
      refine k9_iconst (v := 2) X dL_peel_21 (by decide) ?_
      exact HR _ _ _ _ _ _ (Nat.le_of_ble_eq_true rfl) (Nat.le_of_ble_eq_true rfl) (Or.inr ⟨fun z => (by cases z), rfl, rfl⟩) dL_peel_22
  · refine k9_i2l X dL_peel_10 ?_
    refine k9_lastO X dL_peel_11 ?_
    have X2 : k9_X p rm_L_peel s m args c A (k9_out G rv) 6 cL_peel wsL_peel RL rm_L_peel := X
    refine k9_goto (tgt := 23) X2 dL_peel_12 (by decide) ?_
    refine k9_iconst (v := 0) X2 dL_peel_23 (by decide) ?_
    subst hn
    exact HR _ _ _ _ _ _ (Nat.le_of_ble_eq_true rfl) (Nat.le_of_ble_eq_true rfl) (Or.inl ⟨rfl, rfl, rfl⟩) dL_peel_24
theorem cl_L_shift : Cond.classLink RL 15 m9_ia ∈ wsL_shift ∧ Cond.classLink RL 17 m9_is ∈ wsL_shift := ⟨by decide +kernel, by decide +kernel⟩
set_option maxRecDepth 20000 in
theorem ct_L_shift (l : Launch) (G : k9_G) (M : k9_Mem) (a : Int32) {x : Option String} {rv : Int32} {mv : k9_Mem} (hM : k9_Cxi l yX6_shift wsX6_shift rm_X6_shift 2 12 G M [.ref (k9_ga G 0), .int a] x rv mv) (hx : ∀ E, x = some E → E ∈ [m9_ia, m9_is]) : k9_L l yL_shift wsL_shift rm_L_shift 2 12 G M [.ref (k9_ga G 0), .int a, .ref (k9_ga G 89)] x (k9_code [m9_ia, m9_is] x) rv mv M := by
  refine k9_metW (by decide +kernel) rfl rfl (Nat.le_of_ble_eq_true rfl) ?_
  intro p e s m args below meth c A Q X htab HR
  refine k9_aload_n X dL_shift_0 rfl 2 rfl ?_
  refine k9_iconst (v := 0) X dL_shift_1 (by decide) ?_
  refine k9_aload_n X dL_shift_2 rfl 0 rfl ?_
  refine k9_iload_n X dL_shift_3 rfl 1 rfl ?_
  refine k9_callVxi1 X hM k9_ob_0 (cwV 1 X.2.2.2.2.1 gL_shift_X6_shift rfl rfl rfl (by decide +kernel) ⟨Nat.le_of_ble_eq_true rfl, Nat.le_of_ble_eq_true rfl⟩) (Nat.le_of_ble_eq_true rfl) dL_shift_4 ⟨Nat.le_of_ble_eq_true rfl, Nat.le_of_ble_eq_true rfl⟩ (fun E hE => ?_) (fun hn => ?_)
  · have hm := hx E hE
    subst hE
    simp only [List.mem_cons, List.not_mem_nil, or_false] at hm
    rcases hm with rfl | rfl
    · refine k9_catch (tgt := 12) X (by decide +kernel) [] ⟨0, 9, 12, 15⟩ [⟨0, 9, 15, 17⟩] (by rw [htab]; rfl) (fun z hz => absurd hz List.not_mem_nil) rfl (by decide) cl_L_shift.1 rfl (fun q => ?_)
      refine k9_astore_n (i := 3) X dL_shift_12 rfl (by decide) [0] rfl ?_
      refine k9_iconst (v := 1) X dL_shift_13 (by decide) ?_
      exact HR _ _ _ _ _ _ (Nat.le_of_ble_eq_true rfl) (Nat.le_of_ble_eq_true rfl) (Or.inr ⟨fun z => (by cases z), rfl, rfl⟩) dL_shift_14
    · refine k9_catch (tgt := 15) X (by decide +kernel) [⟨0, 9, 12, 15⟩] ⟨0, 9, 15, 17⟩ [] (by rw [htab]; rfl) (fun z hz => by rw [List.mem_singleton] at hz; subst hz; exact ⟨(by decide), _, cl_L_shift.1, (by decide +kernel)⟩) rfl (by decide) cl_L_shift.2 rfl (fun q => ?_)
      refine k9_astore_n (i := 3) X dL_shift_15 rfl (by decide) [0] rfl ?_
      refine k9_iconst (v := 2) X dL_shift_16 (by decide) ?_
      exact HR _ _ _ _ _ _ (Nat.le_of_ble_eq_true rfl) (Nat.le_of_ble_eq_true rfl) (Or.inr ⟨fun z => (by cases z), rfl, rfl⟩) dL_shift_17
  · refine k9_i2l X dL_shift_7 ?_
    refine k9_lastO X dL_shift_8 ?_
    have X2 : k9_X p rm_L_shift s m args c A (k9_out G rv) 4 cL_shift wsL_shift RL rm_L_shift := X
    refine k9_goto (tgt := 18) X2 dL_shift_9 (by decide) ?_
    refine k9_iconst (v := 0) X2 dL_shift_18 (by decide) ?_
    subst hn
    exact HR _ _ _ _ _ _ (Nat.le_of_ble_eq_true rfl) (Nat.le_of_ble_eq_true rfl) (Or.inl ⟨rfl, rfl, rfl⟩) dL_shift_19
theorem cl_L_tear : Cond.classLink RL 13 m9_io ∈ wsL_tear ∧ Cond.classLink RL 15 m9_ia ∈ wsL_tear ∧ Cond.classLink RL 17 m9_is ∈ wsL_tear := ⟨by decide +kernel, by decide +kernel, by decide +kernel⟩
set_option maxRecDepth 20000 in
theorem ct_L_tear (l : Launch) (G : k9_G) (M : k9_Mem) (a b n : Int32) {x : Option String} {rv : Int32} {mv : k9_Mem} (hM : k9_Cxi l yX6_tear wsX6_tear rm_X6_tear 4 24 G M [.ref (k9_ga G 0), .int a, .int b, .int n] x rv mv) (hx : ∀ E, x = some E → E ∈ [m9_io, m9_ia, m9_is]) : k9_L l yL_tear wsL_tear rm_L_tear 4 24 G M [.ref (k9_ga G 0), .int a, .int b, .int n, .ref (k9_ga G 89)] x (k9_code [m9_io, m9_ia, m9_is] x) rv mv M := by
  refine k9_metW (by decide +kernel) rfl rfl (Nat.le_of_ble_eq_true rfl) ?_
  intro p e s m args below meth c A Q X htab HR
  refine k9_aload X dL_tear_0 4 rfl ?_
  refine k9_iconst (v := 0) X dL_tear_2 (by decide) ?_
  refine k9_aload_n X dL_tear_3 rfl 0 rfl ?_
  refine k9_iload_n X dL_tear_4 rfl 1 rfl ?_
  refine k9_iload_n X dL_tear_5 rfl 2 rfl ?_
  refine k9_iload_n X dL_tear_6 rfl 3 rfl ?_
  refine k9_callVxi3 X hM k9_ob_0 (cwV 3 X.2.2.2.2.1 gL_tear_X6_tear rfl rfl rfl (by decide +kernel) ⟨Nat.le_of_ble_eq_true rfl, Nat.le_of_ble_eq_true rfl⟩) (Nat.le_of_ble_eq_true rfl) dL_tear_7 ⟨Nat.le_of_ble_eq_true rfl, Nat.le_of_ble_eq_true rfl⟩ (fun E hE => ?_) (fun hn => ?_)
  · have hm := hx E hE
    subst hE
    simp only [List.mem_cons, List.not_mem_nil, or_false] at hm
    rcases hm with rfl | rfl | rfl
    · refine k9_catch (tgt := 15) X (by decide +kernel) [] ⟨0, 12, 15, 13⟩ [⟨0, 12, 19, 15⟩, ⟨0, 12, 23, 17⟩] (by rw [htab]; rfl) (fun z hz => absurd hz List.not_mem_nil) rfl (by decide) cl_L_tear.1 rfl (fun q => ?_)
      refine k9_astore (i := 5) X dL_tear_15 (by decide) [0] rfl ?_
      refine k9_iconst (v := 1) X dL_tear_17 (by decide) ?_
      exact HR _ _ _ _ _ _ (Nat.le_of_ble_eq_true rfl) (Nat.le_of_ble_eq_true rfl) (Or.inr ⟨fun z => (by cases z), rfl, rfl⟩) dL_tear_18
    · refine k9_catch (tgt := 19) X (by decide +kernel) [⟨0, 12, 15, 13⟩] ⟨0, 12, 19, 15⟩ [⟨0, 12, 23, 17⟩] (by rw [htab]; rfl) (fun z hz => by rw [List.mem_singleton] at hz; subst hz; exact ⟨(by decide), _, cl_L_tear.1, (by decide +kernel)⟩) rfl (by decide) cl_L_tear.2.1 rfl (fun q => ?_)
      refine k9_astore (i := 5) X dL_tear_19 (by decide) [0] rfl ?_
      refine k9_iconst (v := 2) X dL_tear_21 (by decide) ?_
      exact HR _ _ _ _ _ _ (Nat.le_of_ble_eq_true rfl) (Nat.le_of_ble_eq_true rfl) (Or.inr ⟨fun z => (by cases z), rfl, rfl⟩) dL_tear_22
    · refine k9_catch (tgt := 23) X (by decide +kernel) [⟨0, 12, 15, 13⟩, ⟨0, 12, 19, 15⟩] ⟨0, 12, 23, 17⟩ [] (by rw [htab]; rfl) (fun z hz => by rcases List.mem_cons.mp hz with rfl | hz; exact ⟨(by decide), _, cl_L_tear.1, (by decide +kernel)⟩; rw [List.mem_singleton] at hz; subst hz; exact ⟨(by decide), _, cl_L_tear.2.1, (by decide +kernel)⟩) rfl (by decide) cl_L_tear.2.2 rfl (fun q => ?_)
      refine k9_astore (i := 5) X dL_tear_23 (by decide) [0] rfl ?_
      refine k9_iconst (v := 3) X dL_tear_25 (by decide) ?_
      exact HR _ _ _ _ _ _ (Nat.le_of_ble_eq_true rfl) (Nat.le_of_ble_eq_true rfl) (Or.inr ⟨fun z => (by cases z), rfl, rfl⟩) dL_tear_26
  · refine k9_i2l X dL_tear_10 ?_
    refine k9_lastO X dL_tear_11 ?_
    have X2 : k9_X p rm_L_tear s m args c A (k9_out G rv) 6 cL_tear wsL_tear RL rm_L_tear := X
    refine k9_goto (tgt := 27) X2 dL_tear_12 (by decide) ?_
    refine k9_iconst (v := 0) X2 dL_tear_27 (by decide) ?_
    subst hn
    exact HR _ _ _ _ _ _ (Nat.le_of_ble_eq_true rfl) (Nat.le_of_ble_eq_true rfl) (Or.inl ⟨rfl, rfl, rfl⟩) dL_tear_28
theorem cl_L_steer : Cond.classLink RL 13 m9_io ∈ wsL_steer ∧ Cond.classLink RL 15 m9_ia ∈ wsL_steer := ⟨by decide +kernel, by decide +kernel⟩
set_option maxRecDepth 20000 in
theorem ct_L_steer (l : Launch) (G : k9_G) (M : k9_Mem) (a b n : Int32) {x : Option String} {rv : Int32} {mv : k9_Mem} (hM : k9_Cxi l yX6_steer wsX6_steer rm_X6_steer 3 18 G M [.ref (k9_ga G 0), .int a, .int b, .int n] x rv mv) (hx : ∀ E, x = some E → E ∈ [m9_io, m9_ia]) : k9_L l yL_steer wsL_steer rm_L_steer 3 18 G M [.ref (k9_ga G 0), .int a, .int b, .int n, .ref (k9_ga G 89)] x (k9_code [m9_io, m9_ia] x) rv mv M := by
  refine k9_metW (by decide +kernel) rfl rfl (Nat.le_of_ble_eq_true rfl) ?_
  intro p e s m args below meth c A Q X htab HR
  refine k9_aload X dL_steer_0 4 rfl ?_
  refine k9_iconst (v := 0) X dL_steer_2 (by decide) ?_
  refine k9_aload_n X dL_steer_3 rfl 0 rfl ?_
  refine k9_iload_n X dL_steer_4 rfl 1 rfl ?_
  refine k9_iload_n X dL_steer_5 rfl 2 rfl ?_
  refine k9_iload_n X dL_steer_6 rfl 3 rfl ?_
  refine k9_callVxi3 X hM k9_ob_0 (cwV 3 X.2.2.2.2.1 gL_steer_X6_steer rfl rfl rfl (by decide +kernel) ⟨Nat.le_of_ble_eq_true rfl, Nat.le_of_ble_eq_true rfl⟩) (Nat.le_of_ble_eq_true rfl) dL_steer_7 ⟨Nat.le_of_ble_eq_true rfl, Nat.le_of_ble_eq_true rfl⟩ (fun E hE => ?_) (fun hn => ?_)
  · have hm := hx E hE
    subst hE
    simp only [List.mem_cons, List.not_mem_nil, or_false] at hm
    rcases hm with rfl | rfl
    · refine k9_catch (tgt := 15) X (by decide +kernel) [] ⟨0, 12, 15, 13⟩ [⟨0, 12, 19, 15⟩] (by rw [htab]; rfl) (fun z hz => absurd hz List.not_mem_nil) rfl (by decide) cl_L_steer.1 rfl (fun q => ?_)
      refine k9_astore (i := 5) X dL_steer_15 (by decide) [0] rfl ?_
      refine k9_iconst (v := 1) X dL_steer_17 (by decide) ?_
      exact HR _ _ _ _ _ _ (Nat.le_of_ble_eq_true rfl) (Nat.le_of_ble_eq_true rfl) (Or.inr ⟨fun z => (by cases z), rfl, rfl⟩) dL_steer_18
    · refine k9_catch (tgt := 19) X (by decide +kernel) [⟨0, 12, 15, 13⟩] ⟨0, 12, 19, 15⟩ [] (by rw [htab]; rfl) (fun z hz => by rw [List.mem_singleton] at hz; subst hz; exact ⟨(by decide), _, cl_L_steer.1, (by decide +kernel)⟩) rfl (by decide) cl_L_steer.2 rfl (fun q => ?_)
      refine k9_astore (i := 5) X dL_steer_19 (by decide) [0] rfl ?_
      refine k9_iconst (v := 2) X dL_steer_21 (by decide) ?_
      exact HR _ _ _ _ _ _ (Nat.le_of_ble_eq_true rfl) (Nat.le_of_ble_eq_true rfl) (Or.inr ⟨fun z => (by cases z), rfl, rfl⟩) dL_steer_22
  · refine k9_i2l X dL_steer_10 ?_
    refine k9_lastO X dL_steer_11 ?_
    have X2 : k9_X p rm_L_steer s m args c A (k9_out G rv) 6 cL_steer wsL_steer RL rm_L_steer := X
    refine k9_goto (tgt := 23) X2 dL_steer_12 (by decide) ?_
    refine k9_iconst (v := 0) X2 dL_steer_23 (by decide) ?_
    subst hn
    exact HR _ _ _ _ _ _ (Nat.le_of_ble_eq_true rfl) (Nat.le_of_ble_eq_true rfl) (Or.inl ⟨rfl, rfl, rfl⟩) dL_steer_24
theorem cl_L_set : Cond.classLink RL 13 m9_io ∈ wsL_set ∧ Cond.classLink RL 15 m9_ia ∈ wsL_set := ⟨by decide +kernel, by decide +kernel⟩
set_option maxRecDepth 20000 in
theorem ct_L_set (l : Launch) (G : k9_G) (M : k9_Mem) (a b : Int32) {x : Option String} {rv : Int32} {mv : k9_Mem} (hM : k9_Cxi l yX6_set wsX6_set rm_X6_set 2 12 G M [.ref (k9_ga G 0), .int a, .int b] x rv mv) (hx : ∀ E, x = some E → E ∈ [m9_io, m9_ia]) : k9_L l yL_set wsL_set rm_L_set 2 12 G M [.ref (k9_ga G 0), .int a, .int b, .ref (k9_ga G 89)] x (k9_code [m9_io, m9_ia] x) rv mv M := by
  refine k9_metW (by decide +kernel) rfl rfl (Nat.le_of_ble_eq_true rfl) ?_
  intro p e s m args below meth c A Q X htab HR
  refine k9_aload_n X dL_set_0 rfl 3 rfl ?_
  refine k9_iconst (v := 0) X dL_set_1 (by decide) ?_
  refine k9_aload_n X dL_set_2 rfl 0 rfl ?_
  refine k9_iload_n X dL_set_3 rfl 1 rfl ?_
  refine k9_iload_n X dL_set_4 rfl 2 rfl ?_
  refine k9_callVxi2 X hM k9_ob_0 (cwV 2 X.2.2.2.2.1 gL_set_X6_set rfl rfl rfl (by decide +kernel) ⟨Nat.le_of_ble_eq_true rfl, Nat.le_of_ble_eq_true rfl⟩) (Nat.le_of_ble_eq_true rfl) dL_set_5 ⟨Nat.le_of_ble_eq_true rfl, Nat.le_of_ble_eq_true rfl⟩ (fun E hE => ?_) (fun hn => ?_)
  · have hm := hx E hE
    subst hE
    simp only [List.mem_cons, List.not_mem_nil, or_false] at hm
    rcases hm with rfl | rfl
    · refine k9_catch (tgt := 13) X (by decide +kernel) [] ⟨0, 10, 13, 13⟩ [⟨0, 10, 17, 15⟩] (by rw [htab]; rfl) (fun z hz => absurd hz List.not_mem_nil) rfl (by decide) cl_L_set.1 rfl (fun q => ?_)
      refine k9_astore (i := 4) X dL_set_13 (by decide) [0] rfl ?_
      refine k9_iconst (v := 1) X dL_set_15 (by decide) ?_
      exact HR _ _ _ _ _ _ (Nat.le_of_ble_eq_true rfl) (Nat.le_of_ble_eq_true rfl) (Or.inr ⟨fun z => (by cases z), rfl, rfl⟩) dL_set_16
    · refine k9_catch (tgt := 17) X (by decide +kernel) [⟨0, 10, 13, 13⟩] ⟨0, 10, 17, 15⟩ [] (by rw [htab]; rfl) (fun z hz => by rw [List.mem_singleton] at hz; subst hz; exact ⟨(by decide), _, cl_L_set.1, (by decide +kernel)⟩) rfl (by decide) cl_L_set.2 rfl (fun q => ?_)
      refine k9_astore (i := 4) X dL_set_17 (by decide) [0] rfl ?_
      refine k9_iconst (v := 2) X dL_set_19 (by decide) ?_
      exact HR _ _ _ _ _ _ (Nat.le_of_ble_eq_true rfl) (Nat.le_of_ble_eq_true rfl) (Or.inr ⟨fun z => (by cases z), rfl, rfl⟩) dL_set_20
  · refine k9_i2l X dL_set_8 ?_
    refine k9_lastO X dL_set_9 ?_
    have X2 : k9_X p rm_L_set s m args c A (k9_out G rv) 5 cL_set wsL_set RL rm_L_set := X
    refine k9_goto (tgt := 21) X2 dL_set_10 (by decide) ?_
    refine k9_iconst (v := 0) X2 dL_set_21 (by decide) ?_
    subst hn
    exact HR _ _ _ _ _ _ (Nat.le_of_ble_eq_true rfl) (Nat.le_of_ble_eq_true rfl) (Or.inl ⟨rfl, rfl, rfl⟩) dL_set_22
theorem cl_L_append : Cond.classLink RL 15 m9_ia ∈ wsL_append ∧ Cond.classLink RL 17 m9_is ∈ wsL_append := ⟨by decide +kernel, by decide +kernel⟩
set_option maxRecDepth 20000 in
theorem ct_L_append (l : Launch) (G : k9_G) (M : k9_Mem) (a : Int32) {x : Option String} {rv : Int32} {mv : k9_Mem} (hM : k9_Cxi l yX6_append wsX6_append rm_X6_append 2 12 G M [.ref (k9_ga G 0), .int a] x rv mv) (hx : ∀ E, x = some E → E ∈ [m9_ia, m9_is]) : k9_L l yL_append wsL_append rm_L_append 2 12 G M [.ref (k9_ga G 0), .int a, .ref (k9_ga G 89)] x (k9_code [m9_ia, m9_is] x) rv mv M := by
  refine k9_metW (by decide +kernel) rfl rfl (Nat.le_of_ble_eq_true rfl) ?_
  intro p e s m args below meth c A Q X htab HR
  refine k9_aload_n X dL_append_0 rfl 2 rfl ?_
  refine k9_iconst (v := 0) X dL_append_1 (by decide) ?_
  refine k9_aload_n X dL_append_2 rfl 0 rfl ?_
  refine k9_iload_n X dL_append_3 rfl 1 rfl ?_
  refine k9_callVxi1 X hM k9_ob_0 (cwV 1 X.2.2.2.2.1 gL_append_X6_append rfl rfl rfl (by decide +kernel) ⟨Nat.le_of_ble_eq_true rfl, Nat.le_of_ble_eq_true rfl⟩) (Nat.le_of_ble_eq_true rfl) dL_append_4 ⟨Nat.le_of_ble_eq_true rfl, Nat.le_of_ble_eq_true rfl⟩ (fun E hE => ?_) (fun hn => ?_)
  · have hm := hx E hE
    subst hE
    simp only [List.mem_cons, List.not_mem_nil, or_false] at hm
    rcases hm with rfl | rfl
    · refine k9_catch (tgt := 12) X (by decide +kernel) [] ⟨0, 9, 12, 15⟩ [⟨0, 9, 15, 17⟩] (by rw [htab]; rfl) (fun z hz => absurd hz List.not_mem_nil) rfl (by decide) cl_L_append.1 rfl (fun q => ?_)
      refine k9_astore_n (i := 3) X dL_append_12 rfl (by decide) [0] rfl ?_
      refine k9_iconst (v := 1) X dL_append_13 (by decide) ?_
      exact HR _ _ _ _ _ _ (Nat.le_of_ble_eq_true rfl) (Nat.le_of_ble_eq_true rfl) (Or.inr ⟨fun z => (by cases z), rfl, rfl⟩) dL_append_14
    · refine k9_catch (tgt := 15) X (by decide +kernel) [⟨0, 9, 12, 15⟩] ⟨0, 9, 15, 17⟩ [] (by rw [htab]; rfl) (fun z hz => by rw [List.mem_singleton] at hz; subst hz; exact ⟨(by decide), _, cl_L_append.1, (by decide +kernel)⟩) rfl (by decide) cl_L_append.2 rfl (fun q => ?_)
      refine k9_astore_n (i := 3) X dL_append_15 rfl (by decide) [0] rfl ?_
      refine k9_iconst (v := 2) X dL_append_16 (by decide) ?_
      exact HR _ _ _ _ _ _ (Nat.le_of_ble_eq_true rfl) (Nat.le_of_ble_eq_true rfl) (Or.inr ⟨fun z => (by cases z), rfl, rfl⟩) dL_append_17
  · refine k9_i2l X dL_append_7 ?_
    refine k9_lastO X dL_append_8 ?_
    have X2 : k9_X p rm_L_append s m args c A (k9_out G rv) 4 cL_append wsL_append RL rm_L_append := X
    refine k9_goto (tgt := 18) X2 dL_append_9 (by decide) ?_
    refine k9_iconst (v := 0) X2 dL_append_18 (by decide) ?_
    subst hn
    exact HR _ _ _ _ _ _ (Nat.le_of_ble_eq_true rfl) (Nat.le_of_ble_eq_true rfl) (Or.inl ⟨rfl, rfl, rfl⟩) dL_append_19
theorem cl_L_punchAll : Cond.classLink RL 15 m9_ia ∈ wsL_punchAll ∧ Cond.classLink RL 17 m9_is ∈ wsL_punchAll := ⟨by decide +kernel, by decide +kernel⟩
set_option maxRecDepth 20000 in
theorem ct_L_punchAll (l : Launch) (G : k9_G) (M : k9_Mem) {x : Option String} {rv : Int32} {mv N : k9_Mem} (hM : k9_Cyi l yX6_punchAll wsX6_punchAll rm_X6_punchAll 2 12 G M N [.ref (k9_ga G 0)] x rv mv) (hx : ∀ E, x = some E → E ∈ [m9_ia, m9_is]) : k9_L l yL_punchAll wsL_punchAll rm_L_punchAll 2 12 G M [.ref (k9_ga G 0), .ref (k9_ga G 89)] x (k9_code [m9_ia, m9_is] x) rv mv N := by
  refine k9_metW (by decide +kernel) rfl rfl (Nat.le_of_ble_eq_true rfl) ?_
  intro p e s m args below meth c A Q X htab HR
  refine k9_aload_n X dL_punchAll_0 rfl 1 rfl ?_
  refine k9_iconst (v := 0) X dL_punchAll_1 (by decide) ?_
  refine k9_aload_n X dL_punchAll_2 rfl 0 rfl ?_
  refine k9_callVyi0 X hM k9_ob_0 (cwV 0 X.2.2.2.2.1 gL_punchAll_X6_punchAll rfl rfl rfl (by decide +kernel) ⟨Nat.le_of_ble_eq_true rfl, Nat.le_of_ble_eq_true rfl⟩) (Nat.le_of_ble_eq_true rfl) dL_punchAll_3 ⟨Nat.le_of_ble_eq_true rfl, Nat.le_of_ble_eq_true rfl⟩ (fun E hE => ?_) (fun hn => ?_)
  · have hm := hx E hE
    subst hE
    simp only [List.mem_cons, List.not_mem_nil, or_false] at hm
    rcases hm with rfl | rfl
    · refine k9_catch (tgt := 11) X (by decide +kernel) [] ⟨0, 8, 11, 15⟩ [⟨0, 8, 14, 17⟩] (by rw [htab]; rfl) (fun z hz => absurd hz List.not_mem_nil) rfl (by decide) cl_L_punchAll.1 rfl (fun q => ?_)
      refine k9_astore_n (i := 2) X dL_punchAll_11 rfl (by decide) [0] rfl ?_
      refine k9_iconst (v := 1) X dL_punchAll_12 (by decide) ?_
      exact HR _ _ _ _ _ _ (Nat.le_of_ble_eq_true rfl) (Nat.le_of_ble_eq_true rfl) (Or.inr ⟨fun z => (by cases z), rfl, rfl⟩) dL_punchAll_13
    · refine k9_catch (tgt := 14) X (by decide +kernel) [⟨0, 8, 11, 15⟩] ⟨0, 8, 14, 17⟩ [] (by rw [htab]; rfl) (fun z hz => by rw [List.mem_singleton] at hz; subst hz; exact ⟨(by decide), _, cl_L_punchAll.1, (by decide +kernel)⟩) rfl (by decide) cl_L_punchAll.2 rfl (fun q => ?_)
      refine k9_astore_n (i := 2) X dL_punchAll_14 rfl (by decide) [0] rfl ?_
      refine k9_iconst (v := 2) X dL_punchAll_15 (by decide) ?_
      exact HR _ _ _ _ _ _ (Nat.le_of_ble_eq_true rfl) (Nat.le_of_ble_eq_true rfl) (Or.inr ⟨fun z => (by cases z), rfl, rfl⟩) dL_punchAll_16
  · refine k9_i2l X dL_punchAll_6 ?_
    refine k9_lastO X dL_punchAll_7 ?_
    have X2 : k9_X p rm_L_punchAll s m args c A (k9_out G rv) 3 cL_punchAll wsL_punchAll RL rm_L_punchAll := X
    refine k9_goto (tgt := 17) X2 dL_punchAll_8 (by decide) ?_
    refine k9_iconst (v := 0) X2 dL_punchAll_17 (by decide) ?_
    subst hn
    exact HR _ _ _ _ _ _ (Nat.le_of_ble_eq_true rfl) (Nat.le_of_ble_eq_true rfl) (Or.inl ⟨rfl, rfl, rfl⟩) dL_punchAll_18
theorem cl_L_undo : Cond.classLink RL 17 m9_is ∈ wsL_undo := by decide +kernel
set_option maxRecDepth 20000 in
theorem ct_L_undo (l : Launch) (G : k9_G) (M : k9_Mem) {x : Option String} {rv : Int32} {mv : k9_Mem} (hM : k9_Cxi l yX6_undo wsX6_undo rm_X6_undo 1 6 G M [.ref (k9_ga G 0)] x rv mv) (hx : ∀ E, x = some E → E ∈ [m9_is]) : k9_L l yL_undo wsL_undo rm_L_undo 1 6 G M [.ref (k9_ga G 0), .ref (k9_ga G 89)] x (k9_code [m9_is] x) rv mv M := by
  refine k9_metW (by decide +kernel) rfl rfl (Nat.le_of_ble_eq_true rfl) ?_
  intro p e s m args below meth c A Q X htab HR
  refine k9_aload_n X dL_undo_0 rfl 1 rfl ?_
  refine k9_iconst (v := 0) X dL_undo_1 (by decide) ?_
  refine k9_aload_n X dL_undo_2 rfl 0 rfl ?_
  refine k9_callVxi0 X hM k9_ob_0 (cwV 0 X.2.2.2.2.1 gL_undo_X6_undo rfl rfl rfl (by decide +kernel) ⟨Nat.le_of_ble_eq_true rfl, Nat.le_of_ble_eq_true rfl⟩) (Nat.le_of_ble_eq_true rfl) dL_undo_3 ⟨Nat.le_of_ble_eq_true rfl, Nat.le_of_ble_eq_true rfl⟩ (fun E hE => ?_) (fun hn => ?_)
  · have hm := hx E hE
    subst hE
    simp only [List.mem_cons, List.not_mem_nil, or_false] at hm
    subst hm
    refine k9_catch (tgt := 11) X (by decide +kernel) [] ⟨0, 8, 11, 17⟩ [] (by rw [htab]; rfl) (fun z hz => absurd hz List.not_mem_nil) rfl (by decide) cl_L_undo rfl (fun q => ?_)
    refine k9_astore_n (i := 2) X dL_undo_11 rfl (by decide) [0] rfl ?_
    refine k9_iconst (v := 1) X dL_undo_12 (by decide) ?_
    exact HR _ _ _ _ _ _ (Nat.le_of_ble_eq_true rfl) (Nat.le_of_ble_eq_true rfl) (Or.inr ⟨fun z => (by cases z), rfl, rfl⟩) dL_undo_13
  · refine k9_i2l X dL_undo_6 ?_
    refine k9_lastO X dL_undo_7 ?_
    have X2 : k9_X p rm_L_undo s m args c A (k9_out G rv) 3 cL_undo wsL_undo RL rm_L_undo := X
    refine k9_goto (tgt := 14) X2 dL_undo_8 (by decide) ?_
    refine k9_iconst (v := 0) X2 dL_undo_14 (by decide) ?_
    subst hn
    exact HR _ _ _ _ _ _ (Nat.le_of_ble_eq_true rfl) (Nat.le_of_ble_eq_true rfl) (Or.inl ⟨rfl, rfl, rfl⟩) dL_undo_15
theorem cl_L_place : Cond.classLink RL 13 m9_io ∈ wsL_place ∧ Cond.classLink RL 15 m9_ia ∈ wsL_place := ⟨by decide +kernel, by decide +kernel⟩
set_option maxRecDepth 20000 in
theorem ct_L_place (l : Launch) (G : k9_G) (M : k9_Mem) (a b n : Int32) {x : Option String} {rv : Int32} {mv : k9_Mem} (hM : k9_Cxi l yX6_place wsX6_place rm_X6_place 3 18 G M [.ref (k9_ga G 0), .int a, .int b, .int n] x rv mv) (hx : ∀ E, x = some E → E ∈ [m9_io, m9_ia]) : k9_L l yL_place wsL_place rm_L_place 3 18 G M [.ref (k9_ga G 0), .int a, .int b, .int n, .ref (k9_ga G 89)] x (k9_code [m9_io, m9_ia] x) rv mv M := by
  refine k9_metW (by decide +kernel) rfl rfl (Nat.le_of_ble_eq_true rfl) ?_
  intro p e s m args below meth c A Q X htab HR
  refine k9_aload X dL_place_0 4 rfl ?_
  refine k9_iconst (v := 0) X dL_place_2 (by decide) ?_
  refine k9_aload_n X dL_place_3 rfl 0 rfl ?_
  refine k9_iload_n X dL_place_4 rfl 1 rfl ?_
  refine k9_iload_n X dL_place_5 rfl 2 rfl ?_
  refine k9_iload_n X dL_place_6 rfl 3 rfl ?_
  refine k9_callVxi3 X hM k9_ob_0 (cwV 3 X.2.2.2.2.1 gL_place_X6_place rfl rfl rfl (by decide +kernel) ⟨Nat.le_of_ble_eq_true rfl, Nat.le_of_ble_eq_true rfl⟩) (Nat.le_of_ble_eq_true rfl) dL_place_7 ⟨Nat.le_of_ble_eq_true rfl, Nat.le_of_ble_eq_true rfl⟩ (fun E hE => ?_) (fun hn => ?_)
  · have hm := hx E hE
    subst hE
    simp only [List.mem_cons, List.not_mem_nil, or_false] at hm
    rcases hm with rfl | rfl
    · refine k9_catch (tgt := 15) X (by decide +kernel) [] ⟨0, 12, 15, 13⟩ [⟨0, 12, 19, 15⟩] (by rw [htab]; rfl) (fun z hz => absurd hz List.not_mem_nil) rfl (by decide) cl_L_place.1 rfl (fun q => ?_)
      refine k9_astore (i := 5) X dL_place_15 (by decide) [0] rfl ?_
      refine k9_iconst (v := 1) X dL_place_17 (by decide) ?_
      exact HR _ _ _ _ _ _ (Nat.le_of_ble_eq_true rfl) (Nat.le_of_ble_eq_true rfl) (Or.inr ⟨fun z => (by cases z), rfl, rfl⟩) dL_place_18
    · refine k9_catch (tgt := 19) X (by decide +kernel) [⟨0, 12, 15, 13⟩] ⟨0, 12, 19, 15⟩ [] (by rw [htab]; rfl) (fun z hz => by rw [List.mem_singleton] at hz; subst hz; exact ⟨(by decide), _, cl_L_place.1, (by decide +kernel)⟩) rfl (by decide) cl_L_place.2 rfl (fun q => ?_)
      refine k9_astore (i := 5) X dL_place_19 (by decide) [0] rfl ?_
      refine k9_iconst (v := 2) X dL_place_21 (by decide) ?_
      exact HR _ _ _ _ _ _ (Nat.le_of_ble_eq_true rfl) (Nat.le_of_ble_eq_true rfl) (Or.inr ⟨fun z => (by cases z), rfl, rfl⟩) dL_place_22
  · refine k9_i2l X dL_place_10 ?_
    refine k9_lastO X dL_place_11 ?_
    have X2 : k9_X p rm_L_place s m args c A (k9_out G rv) 6 cL_place wsL_place RL rm_L_place := X
    refine k9_goto (tgt := 23) X2 dL_place_12 (by decide) ?_
    refine k9_iconst (v := 0) X2 dL_place_23 (by decide) ?_
    subst hn
    exact HR _ _ _ _ _ _ (Nat.le_of_ble_eq_true rfl) (Nat.le_of_ble_eq_true rfl) (Or.inl ⟨rfl, rfl, rfl⟩) dL_place_24
theorem cl_L_step : Cond.classLink RL 13 m9_io ∈ wsL_step ∧ Cond.classLink RL 15 m9_ia ∈ wsL_step := ⟨by decide +kernel, by decide +kernel⟩
set_option maxRecDepth 20000 in
theorem ct_L_step (l : Launch) (G : k9_G) (M : k9_Mem) (a b : Int32) {x : Option String} {rv : Int32} {mv : k9_Mem} (hM : k9_Cxi l yX6_step wsX6_step rm_X6_step 2 12 G M [.ref (k9_ga G 0), .int a, .int b] x rv mv) (hx : ∀ E, x = some E → E ∈ [m9_io, m9_ia]) : k9_L l yL_step wsL_step rm_L_step 2 12 G M [.ref (k9_ga G 0), .int a, .int b, .ref (k9_ga G 89)] x (k9_code [m9_io, m9_ia] x) rv mv M := by
  refine k9_metW (by decide +kernel) rfl rfl (Nat.le_of_ble_eq_true rfl) ?_
  intro p e s m args below meth c A Q X htab HR
  refine k9_aload_n X dL_step_0 rfl 3 rfl ?_
  refine k9_iconst (v := 0) X dL_step_1 (by decide) ?_
  refine k9_aload_n X dL_step_2 rfl 0 rfl ?_
  refine k9_iload_n X dL_step_3 rfl 1 rfl ?_
  refine k9_iload_n X dL_step_4 rfl 2 rfl ?_
  refine k9_callVxi2 X hM k9_ob_0 (cwV 2 X.2.2.2.2.1 gL_step_X6_step rfl rfl rfl (by decide +kernel) ⟨Nat.le_of_ble_eq_true rfl, Nat.le_of_ble_eq_true rfl⟩) (Nat.le_of_ble_eq_true rfl) dL_step_5 ⟨Nat.le_of_ble_eq_true rfl, Nat.le_of_ble_eq_true rfl⟩ (fun E hE => ?_) (fun hn => ?_)
  · have hm := hx E hE
    subst hE
    simp only [List.mem_cons, List.not_mem_nil, or_false] at hm
    rcases hm with rfl | rfl
    · refine k9_catch (tgt := 13) X (by decide +kernel) [] ⟨0, 10, 13, 13⟩ [⟨0, 10, 17, 15⟩] (by rw [htab]; rfl) (fun z hz => absurd hz List.not_mem_nil) rfl (by decide) cl_L_step.1 rfl (fun q => ?_)
      refine k9_astore (i := 4) X dL_step_13 (by decide) [0] rfl ?_
      refine k9_iconst (v := 1) X dL_step_15 (by decide) ?_
      exact HR _ _ _ _ _ _ (Nat.le_of_ble_eq_true rfl) (Nat.le_of_ble_eq_true rfl) (Or.inr ⟨fun z => (by cases z), rfl, rfl⟩) dL_step_16
    · refine k9_catch (tgt := 17) X (by decide +kernel) [⟨0, 10, 13, 13⟩] ⟨0, 10, 17, 15⟩ [] (by rw [htab]; rfl) (fun z hz => by rw [List.mem_singleton] at hz; subst hz; exact ⟨(by decide), _, cl_L_step.1, (by decide +kernel)⟩) rfl (by decide) cl_L_step.2 rfl (fun q => ?_)
      refine k9_astore (i := 4) X dL_step_17 (by decide) [0] rfl ?_
      refine k9_iconst (v := 2) X dL_step_19 (by decide) ?_
      exact HR _ _ _ _ _ _ (Nat.le_of_ble_eq_true rfl) (Nat.le_of_ble_eq_true rfl) (Or.inr ⟨fun z => (by cases z), rfl, rfl⟩) dL_step_20
  · refine k9_i2l X dL_step_8 ?_
    refine k9_lastO X dL_step_9 ?_
    have X2 : k9_X p rm_L_step s m args c A (k9_out G rv) 5 cL_step wsL_step RL rm_L_step := X
    refine k9_goto (tgt := 21) X2 dL_step_10 (by decide) ?_
    refine k9_iconst (v := 0) X2 dL_step_21 (by decide) ?_
    subst hn
    exact HR _ _ _ _ _ _ (Nat.le_of_ble_eq_true rfl) (Nat.le_of_ble_eq_true rfl) (Or.inl ⟨rfl, rfl, rfl⟩) dL_step_22
theorem cl_L_played : Cond.classLink RL 13 m9_io ∈ wsL_played ∧ Cond.classLink RL 15 m9_ia ∈ wsL_played := ⟨by decide +kernel, by decide +kernel⟩
set_option maxRecDepth 20000 in
theorem ct_L_played (l : Launch) (G : k9_G) (M : k9_Mem) (a b : Int32) {x : Option String} {rv : Int32} {mv : k9_Mem} (hM : k9_Cxi l yX6_played wsX6_played rm_X6_played 2 12 G M [.ref (k9_ga G 0), .int a, .int b] x rv mv) (hx : ∀ E, x = some E → E ∈ [m9_io, m9_ia]) : k9_L l yL_played wsL_played rm_L_played 2 12 G M [.ref (k9_ga G 0), .int a, .int b, .ref (k9_ga G 89)] x (k9_code [m9_io, m9_ia] x) rv mv M := by
  refine k9_metW (by decide +kernel) rfl rfl (Nat.le_of_ble_eq_true rfl) ?_
  intro p e s m args below meth c A Q X htab HR
  refine k9_aload_n X dL_played_0 rfl 3 rfl ?_
  refine k9_iconst (v := 0) X dL_played_1 (by decide) ?_
  refine k9_aload_n X dL_played_2 rfl 0 rfl ?_
  refine k9_iload_n X dL_played_3 rfl 1 rfl ?_
  refine k9_iload_n X dL_played_4 rfl 2 rfl ?_
  refine k9_callVxi2 X hM k9_ob_0 (cwV 2 X.2.2.2.2.1 gL_played_X6_played rfl rfl rfl (by decide +kernel) ⟨Nat.le_of_ble_eq_true rfl, Nat.le_of_ble_eq_true rfl⟩) (Nat.le_of_ble_eq_true rfl) dL_played_5 ⟨Nat.le_of_ble_eq_true rfl, Nat.le_of_ble_eq_true rfl⟩ (fun E hE => ?_) (fun hn => ?_)
  · have hm := hx E hE
    subst hE
    simp only [List.mem_cons, List.not_mem_nil, or_false] at hm
    rcases hm with rfl | rfl
    · refine k9_catch (tgt := 13) X (by decide +kernel) [] ⟨0, 10, 13, 13⟩ [⟨0, 10, 17, 15⟩] (by rw [htab]; rfl) (fun z hz => absurd hz List.not_mem_nil) rfl (by decide) cl_L_played.1 rfl (fun q => ?_)
      refine k9_astore (i := 4) X dL_played_13 (by decide) [0] rfl ?_
      refine k9_iconst (v := 1) X dL_played_15 (by decide) ?_
      exact HR _ _ _ _ _ _ (Nat.le_of_ble_eq_true rfl) (Nat.le_of_ble_eq_true rfl) (Or.inr ⟨fun z => (by cases z), rfl, rfl⟩) dL_played_16
    · refine k9_catch (tgt := 17) X (by decide +kernel) [⟨0, 10, 13, 13⟩] ⟨0, 10, 17, 15⟩ [] (by rw [htab]; rfl) (fun z hz => by rw [List.mem_singleton] at hz; subst hz; exact ⟨(by decide), _, cl_L_played.1, (by decide +kernel)⟩) rfl (by decide) cl_L_played.2 rfl (fun q => ?_)
      refine k9_astore (i := 4) X dL_played_17 (by decide) [0] rfl ?_
      refine k9_iconst (v := 2) X dL_played_19 (by decide) ?_
      exact HR _ _ _ _ _ _ (Nat.le_of_ble_eq_true rfl) (Nat.le_of_ble_eq_true rfl) (Or.inr ⟨fun z => (by cases z), rfl, rfl⟩) dL_played_20
  · refine k9_i2l X dL_played_8 ?_
    refine k9_lastO X dL_played_9 ?_
    have X2 : k9_X p rm_L_played s m args c A (k9_out G rv) 5 cL_played wsL_played RL rm_L_played := X
    refine k9_goto (tgt := 21) X2 dL_played_10 (by decide) ?_
    refine k9_iconst (v := 0) X2 dL_played_21 (by decide) ?_
    subst hn
    exact HR _ _ _ _ _ _ (Nat.le_of_ble_eq_true rfl) (Nat.le_of_ble_eq_true rfl) (Or.inl ⟨rfl, rfl, rfl⟩) dL_played_22
theorem cl_L_tune : Cond.classLink RL 13 m9_io ∈ wsL_tune ∧ Cond.classLink RL 15 m9_ia ∈ wsL_tune := ⟨by decide +kernel, by decide +kernel⟩
set_option maxRecDepth 20000 in
theorem ct_L_tune (l : Launch) (G : k9_G) (M : k9_Mem) (a b : Int32) {x : Option String} {rv : Int32} {mv : k9_Mem} (hM : k9_Cxi l yX6_tune wsX6_tune rm_X6_tune 2 12 G M [.ref (k9_ga G 0), .int a, .int b] x rv mv) (hx : ∀ E, x = some E → E ∈ [m9_io, m9_ia]) : k9_L l yL_tune wsL_tune rm_L_tune 2 12 G M [.ref (k9_ga G 0), .int a, .int b, .ref (k9_ga G 89)] x (k9_code [m9_io, m9_ia] x) rv mv M := by
  refine k9_metW (by decide +kernel) rfl rfl (Nat.le_of_ble_eq_true rfl) ?_
  intro p e s m args below meth c A Q X htab HR
  refine k9_aload_n X dL_tune_0 rfl 3 rfl ?_
  refine k9_iconst (v := 0) X dL_tune_1 (by decide) ?_
  refine k9_aload_n X dL_tune_2 rfl 0 rfl ?_
  refine k9_iload_n X dL_tune_3 rfl 1 rfl ?_
  refine k9_iload_n X dL_tune_4 rfl 2 rfl ?_
  refine k9_callVxi2 X hM k9_ob_0 (cwV 2 X.2.2.2.2.1 gL_tune_X6_tune rfl rfl rfl (by decide +kernel) ⟨Nat.le_of_ble_eq_true rfl, Nat.le_of_ble_eq_true rfl⟩) (Nat.le_of_ble_eq_true rfl) dL_tune_5 ⟨Nat.le_of_ble_eq_true rfl, Nat.le_of_ble_eq_true rfl⟩ (fun E hE => ?_) (fun hn => ?_)
  · have hm := hx E hE
    subst hE
    simp only [List.mem_cons, List.not_mem_nil, or_false] at hm
    rcases hm with rfl | rfl
    · refine k9_catch (tgt := 13) X (by decide +kernel) [] ⟨0, 10, 13, 13⟩ [⟨0, 10, 17, 15⟩] (by rw [htab]; rfl) (fun z hz => absurd hz List.not_mem_nil) rfl (by decide) cl_L_tune.1 rfl (fun q => ?_)
      refine k9_astore (i := 4) X dL_tune_13 (by decide) [0] rfl ?_
      refine k9_iconst (v := 1) X dL_tune_15 (by decide) ?_
      exact HR _ _ _ _ _ _ (Nat.le_of_ble_eq_true rfl) (Nat.le_of_ble_eq_true rfl) (Or.inr ⟨fun z => (by cases z), rfl, rfl⟩) dL_tune_16
    · refine k9_catch (tgt := 17) X (by decide +kernel) [⟨0, 10, 13, 13⟩] ⟨0, 10, 17, 15⟩ [] (by rw [htab]; rfl) (fun z hz => by rw [List.mem_singleton] at hz; subst hz; exact ⟨(by decide), _, cl_L_tune.1, (by decide +kernel)⟩) rfl (by decide) cl_L_tune.2 rfl (fun q => ?_)
      refine k9_astore (i := 4) X dL_tune_17 (by decide) [0] rfl ?_
      refine k9_iconst (v := 2) X dL_tune_19 (by decide) ?_
      exact HR _ _ _ _ _ _ (Nat.le_of_ble_eq_true rfl) (Nat.le_of_ble_eq_true rfl) (Or.inr ⟨fun z => (by cases z), rfl, rfl⟩) dL_tune_20
  · refine k9_i2l X dL_tune_8 ?_
    refine k9_lastO X dL_tune_9 ?_
    have X2 : k9_X p rm_L_tune s m args c A (k9_out G rv) 5 cL_tune wsL_tune RL rm_L_tune := X
    refine k9_goto (tgt := 21) X2 dL_tune_10 (by decide) ?_
    refine k9_iconst (v := 0) X2 dL_tune_21 (by decide) ?_
    subst hn
    exact HR _ _ _ _ _ _ (Nat.le_of_ble_eq_true rfl) (Nat.le_of_ble_eq_true rfl) (Or.inl ⟨rfl, rfl, rfl⟩) dL_tune_22
theorem cl_L_count : Cond.classLink RL 15 m9_ia ∈ wsL_count := by decide +kernel
set_option maxRecDepth 20000 in
theorem ct_L_count (l : Launch) (G : k9_G) (M : k9_Mem) (a : Int32) {x : Option String} {rv : Int32} {mv : k9_Mem} (hM : k9_Cxi l yX6_count wsX6_count rm_X6_count 1 6 G M [.ref (k9_ga G 0), .int a] x rv mv) (hx : ∀ E, x = some E → E ∈ [m9_ia]) : k9_L l yL_count wsL_count rm_L_count 1 6 G M [.ref (k9_ga G 0), .int a, .ref (k9_ga G 89)] x (k9_code [m9_ia] x) rv mv M := by
  refine k9_metW (by decide +kernel) rfl rfl (Nat.le_of_ble_eq_true rfl) ?_
  intro p e s m args below meth c A Q X htab HR
  refine k9_aload_n X dL_count_0 rfl 2 rfl ?_
  refine k9_iconst (v := 0) X dL_count_1 (by decide) ?_
  refine k9_aload_n X dL_count_2 rfl 0 rfl ?_
  refine k9_iload_n X dL_count_3 rfl 1 rfl ?_
  refine k9_callVxi1 X hM k9_ob_0 (cwV 1 X.2.2.2.2.1 gL_count_X6_count rfl rfl rfl (by decide +kernel) ⟨Nat.le_of_ble_eq_true rfl, Nat.le_of_ble_eq_true rfl⟩) (Nat.le_of_ble_eq_true rfl) dL_count_4 ⟨Nat.le_of_ble_eq_true rfl, Nat.le_of_ble_eq_true rfl⟩ (fun E hE => ?_) (fun hn => ?_)
  · have hm := hx E hE
    subst hE
    simp only [List.mem_cons, List.not_mem_nil, or_false] at hm
    subst hm
    refine k9_catch (tgt := 12) X (by decide +kernel) [] ⟨0, 9, 12, 15⟩ [] (by rw [htab]; rfl) (fun z hz => absurd hz List.not_mem_nil) rfl (by decide) cl_L_count rfl (fun q => ?_)
    refine k9_astore_n (i := 3) X dL_count_12 rfl (by decide) [0] rfl ?_
    refine k9_iconst (v := 1) X dL_count_13 (by decide) ?_
    exact HR _ _ _ _ _ _ (Nat.le_of_ble_eq_true rfl) (Nat.le_of_ble_eq_true rfl) (Or.inr ⟨fun z => (by cases z), rfl, rfl⟩) dL_count_14
  · refine k9_i2l X dL_count_7 ?_
    refine k9_lastO X dL_count_8 ?_
    have X2 : k9_X p rm_L_count s m args c A (k9_out G rv) 4 cL_count wsL_count RL rm_L_count := X
    refine k9_goto (tgt := 15) X2 dL_count_9 (by decide) ?_
    refine k9_iconst (v := 0) X2 dL_count_15 (by decide) ?_
    subst hn
    exact HR _ _ _ _ _ _ (Nat.le_of_ble_eq_true rfl) (Nat.le_of_ble_eq_true rfl) (Or.inl ⟨rfl, rfl, rfl⟩) dL_count_16
theorem cl_L_setting : Cond.classLink RL 13 m9_io ∈ wsL_setting := by decide +kernel
set_option maxRecDepth 20000 in
theorem ct_L_setting (l : Launch) (G : k9_G) (M : k9_Mem) (a : Int32) {x : Option String} {rv : Int32} {mv : k9_Mem} (hM : k9_Cxi l yX6_setting wsX6_setting rm_X6_setting 1 6 G M [.ref (k9_ga G 0), .int a] x rv mv) (hx : ∀ E, x = some E → E ∈ [m9_io]) : k9_L l yL_setting wsL_setting rm_L_setting 1 6 G M [.ref (k9_ga G 0), .int a, .ref (k9_ga G 89)] x (k9_code [m9_io] x) rv mv M := by
  refine k9_metW (by decide +kernel) rfl rfl (Nat.le_of_ble_eq_true rfl) ?_
  intro p e s m args below meth c A Q X htab HR
  refine k9_aload_n X dL_setting_0 rfl 2 rfl ?_
  refine k9_iconst (v := 0) X dL_setting_1 (by decide) ?_
  refine k9_aload_n X dL_setting_2 rfl 0 rfl ?_
  refine k9_iload_n X dL_setting_3 rfl 1 rfl ?_
  refine k9_callVxi1 X hM k9_ob_0 (cwV 1 X.2.2.2.2.1 gL_setting_X6_setting rfl rfl rfl (by decide +kernel) ⟨Nat.le_of_ble_eq_true rfl, Nat.le_of_ble_eq_true rfl⟩) (Nat.le_of_ble_eq_true rfl) dL_setting_4 ⟨Nat.le_of_ble_eq_true rfl, Nat.le_of_ble_eq_true rfl⟩ (fun E hE => ?_) (fun hn => ?_)
  · have hm := hx E hE
    subst hE
    simp only [List.mem_cons, List.not_mem_nil, or_false] at hm
    subst hm
    refine k9_catch (tgt := 12) X (by decide +kernel) [] ⟨0, 9, 12, 13⟩ [] (by rw [htab]; rfl) (fun z hz => absurd hz List.not_mem_nil) rfl (by decide) cl_L_setting rfl (fun q => ?_)
    refine k9_astore_n (i := 3) X dL_setting_12 rfl (by decide) [0] rfl ?_
    refine k9_iconst (v := 1) X dL_setting_13 (by decide) ?_
    exact HR _ _ _ _ _ _ (Nat.le_of_ble_eq_true rfl) (Nat.le_of_ble_eq_true rfl) (Or.inr ⟨fun z => (by cases z), rfl, rfl⟩) dL_setting_14
  · refine k9_i2l X dL_setting_7 ?_
    refine k9_lastO X dL_setting_8 ?_
    have X2 : k9_X p rm_L_setting s m args c A (k9_out G rv) 4 cL_setting wsL_setting RL rm_L_setting := X
    refine k9_goto (tgt := 15) X2 dL_setting_9 (by decide) ?_
    refine k9_iconst (v := 0) X2 dL_setting_15 (by decide) ?_
    subst hn
    exact HR _ _ _ _ _ _ (Nat.le_of_ble_eq_true rfl) (Nat.le_of_ble_eq_true rfl) (Or.inl ⟨rfl, rfl, rfl⟩) dL_setting_16
theorem cl_L_bestSteer : Cond.classLink RL 13 m9_io ∈ wsL_bestSteer ∧ Cond.classLink RL 15 m9_ia ∈ wsL_bestSteer := ⟨by decide +kernel, by decide +kernel⟩
set_option maxRecDepth 20000 in
theorem ct_L_bestSteer (l : Launch) (G : k9_G) (M : k9_Mem) (a b n : Int32) {x : Option String} {rv : Int32} {mv : k9_Mem} (hM : k9_Cxi l yX6_bestSteer wsX6_bestSteer rm_X6_bestSteer 3 18 G M [.ref (k9_ga G 0), .int a, .int b, .int n] x rv mv) (hx : ∀ E, x = some E → E ∈ [m9_io, m9_ia]) : k9_L l yL_bestSteer wsL_bestSteer rm_L_bestSteer 3 18 G M [.ref (k9_ga G 0), .int a, .int b, .int n, .ref (k9_ga G 89)] x (k9_code [m9_io, m9_ia] x) rv mv M := by
  refine k9_metW (by decide +kernel) rfl rfl (Nat.le_of_ble_eq_true rfl) ?_
  intro p e s m args below meth c A Q X htab HR
  refine k9_aload X dL_bestSteer_0 4 rfl ?_
  refine k9_iconst (v := 0) X dL_bestSteer_2 (by decide) ?_
  refine k9_aload_n X dL_bestSteer_3 rfl 0 rfl ?_
  refine k9_iload_n X dL_bestSteer_4 rfl 1 rfl ?_
  refine k9_iload_n X dL_bestSteer_5 rfl 2 rfl ?_
  refine k9_iload_n X dL_bestSteer_6 rfl 3 rfl ?_
  refine k9_callVxi3 X hM k9_ob_0 (cwV 3 X.2.2.2.2.1 gL_bestSteer_X6_bestSteer rfl rfl rfl (by decide +kernel) ⟨Nat.le_of_ble_eq_true rfl, Nat.le_of_ble_eq_true rfl⟩) (Nat.le_of_ble_eq_true rfl) dL_bestSteer_7 ⟨Nat.le_of_ble_eq_true rfl, Nat.le_of_ble_eq_true rfl⟩ (fun E hE => ?_) (fun hn => ?_)
  · have hm := hx E hE
    subst hE
    simp only [List.mem_cons, List.not_mem_nil, or_false] at hm
    rcases hm with rfl | rfl
    · refine k9_catch (tgt := 15) X (by decide +kernel) [] ⟨0, 12, 15, 13⟩ [⟨0, 12, 19, 15⟩] (by rw [htab]; rfl) (fun z hz => absurd hz List.not_mem_nil) rfl (by decide) cl_L_bestSteer.1 rfl (fun q => ?_)
      refine k9_astore (i := 5) X dL_bestSteer_15 (by decide) [0] rfl ?_
      refine k9_iconst (v := 1) X dL_bestSteer_17 (by decide) ?_
      exact HR _ _ _ _ _ _ (Nat.le_of_ble_eq_true rfl) (Nat.le_of_ble_eq_true rfl) (Or.inr ⟨fun z => (by cases z), rfl, rfl⟩) dL_bestSteer_18
    · refine k9_catch (tgt := 19) X (by decide +kernel) [⟨0, 12, 15, 13⟩] ⟨0, 12, 19, 15⟩ [] (by rw [htab]; rfl) (fun z hz => by rw [List.mem_singleton] at hz; subst hz; exact ⟨(by decide), _, cl_L_bestSteer.1, (by decide +kernel)⟩) rfl (by decide) cl_L_bestSteer.2 rfl (fun q => ?_)
      refine k9_astore (i := 5) X dL_bestSteer_19 (by decide) [0] rfl ?_
      refine k9_iconst (v := 2) X dL_bestSteer_21 (by decide) ?_
      exact HR _ _ _ _ _ _ (Nat.le_of_ble_eq_true rfl) (Nat.le_of_ble_eq_true rfl) (Or.inr ⟨fun z => (by cases z), rfl, rfl⟩) dL_bestSteer_22
  · refine k9_i2l X dL_bestSteer_10 ?_
    refine k9_lastO X dL_bestSteer_11 ?_
    have X2 : k9_X p rm_L_bestSteer s m args c A (k9_out G rv) 6 cL_bestSteer wsL_bestSteer RL rm_L_bestSteer := X
    refine k9_goto (tgt := 23) X2 dL_bestSteer_12 (by decide) ?_
    refine k9_iconst (v := 0) X2 dL_bestSteer_23 (by decide) ?_
    subst hn
    exact HR _ _ _ _ _ _ (Nat.le_of_ble_eq_true rfl) (Nat.le_of_ble_eq_true rfl) (Or.inl ⟨rfl, rfl, rfl⟩) dL_bestSteer_24
theorem cl_L_bestBreak : Cond.classLink RL 15 m9_ia ∈ wsL_bestBreak := by decide +kernel
set_option maxRecDepth 20000 in
theorem ct_L_bestBreak (l : Launch) (G : k9_G) (M : k9_Mem) (a b : Int32) {x : Option String} {rv : Int32} {mv : k9_Mem} (hM : k9_Cxi l yX6_bestBreak wsX6_bestBreak rm_X6_bestBreak 2 12 G M [.ref (k9_ga G 0), .int a, .int b] x rv mv) (hx : ∀ E, x = some E → E ∈ [m9_ia]) : k9_L l yL_bestBreak wsL_bestBreak rm_L_bestBreak 2 12 G M [.ref (k9_ga G 0), .int a, .int b, .ref (k9_ga G 89)] x (k9_code [m9_ia] x) rv mv M := by
  refine k9_metW (by decide +kernel) rfl rfl (Nat.le_of_ble_eq_true rfl) ?_
  intro p e s m args below meth c A Q X htab HR
  refine k9_aload_n X dL_bestBreak_0 rfl 3 rfl ?_
  refine k9_iconst (v := 0) X dL_bestBreak_1 (by decide) ?_
  refine k9_aload_n X dL_bestBreak_2 rfl 0 rfl ?_
  refine k9_iload_n X dL_bestBreak_3 rfl 1 rfl ?_
  refine k9_iload_n X dL_bestBreak_4 rfl 2 rfl ?_
  refine k9_callVxi2 X hM k9_ob_0 (cwV 2 X.2.2.2.2.1 gL_bestBreak_X6_bestBreak rfl rfl rfl (by decide +kernel) ⟨Nat.le_of_ble_eq_true rfl, Nat.le_of_ble_eq_true rfl⟩) (Nat.le_of_ble_eq_true rfl) dL_bestBreak_5 ⟨Nat.le_of_ble_eq_true rfl, Nat.le_of_ble_eq_true rfl⟩ (fun E hE => ?_) (fun hn => ?_)
  · have hm := hx E hE
    subst hE
    simp only [List.mem_cons, List.not_mem_nil, or_false] at hm
    subst hm
    refine k9_catch (tgt := 13) X (by decide +kernel) [] ⟨0, 10, 13, 15⟩ [] (by rw [htab]; rfl) (fun z hz => absurd hz List.not_mem_nil) rfl (by decide) cl_L_bestBreak rfl (fun q => ?_)
    refine k9_astore (i := 4) X dL_bestBreak_13 (by decide) [0] rfl ?_
    refine k9_iconst (v := 1) X dL_bestBreak_15 (by decide) ?_
    exact HR _ _ _ _ _ _ (Nat.le_of_ble_eq_true rfl) (Nat.le_of_ble_eq_true rfl) (Or.inr ⟨fun z => (by cases z), rfl, rfl⟩) dL_bestBreak_16
  · refine k9_i2l X dL_bestBreak_8 ?_
    refine k9_lastO X dL_bestBreak_9 ?_
    have X2 : k9_X p rm_L_bestBreak s m args c A (k9_out G rv) 5 cL_bestBreak wsL_bestBreak RL rm_L_bestBreak := X
    refine k9_goto (tgt := 17) X2 dL_bestBreak_10 (by decide) ?_
    refine k9_iconst (v := 0) X2 dL_bestBreak_17 (by decide) ?_
    subst hn
    exact HR _ _ _ _ _ _ (Nat.le_of_ble_eq_true rfl) (Nat.le_of_ble_eq_true rfl) (Or.inl ⟨rfl, rfl, rfl⟩) dL_bestBreak_18
theorem cl_L_holesFor : Cond.classLink RL 15 m9_ia ∈ wsL_holesFor := by decide +kernel
set_option maxRecDepth 20000 in
theorem ct_L_holesFor (l : Launch) (G : k9_G) (M : k9_Mem) (a : Int32) {x : Option String} {rv : Int32} {mv : k9_Mem} (hM : k9_Cxi l yX6_holesFor wsX6_holesFor rm_X6_holesFor 1 6 G M [.ref (k9_ga G 0), .int a] x rv mv) (hx : ∀ E, x = some E → E ∈ [m9_ia]) : k9_L l yL_holesFor wsL_holesFor rm_L_holesFor 1 6 G M [.ref (k9_ga G 0), .int a, .ref (k9_ga G 89)] x (k9_code [m9_ia] x) rv mv M := by
  refine k9_metW (by decide +kernel) rfl rfl (Nat.le_of_ble_eq_true rfl) ?_
  intro p e s m args below meth c A Q X htab HR
  refine k9_aload_n X dL_holesFor_0 rfl 2 rfl ?_
  refine k9_iconst (v := 0) X dL_holesFor_1 (by decide) ?_
  refine k9_aload_n X dL_holesFor_2 rfl 0 rfl ?_
  refine k9_iload_n X dL_holesFor_3 rfl 1 rfl ?_
  refine k9_callVxi1 X hM k9_ob_0 (cwV 1 X.2.2.2.2.1 gL_holesFor_X6_holesFor rfl rfl rfl (by decide +kernel) ⟨Nat.le_of_ble_eq_true rfl, Nat.le_of_ble_eq_true rfl⟩) (Nat.le_of_ble_eq_true rfl) dL_holesFor_4 ⟨Nat.le_of_ble_eq_true rfl, Nat.le_of_ble_eq_true rfl⟩ (fun E hE => ?_) (fun hn => ?_)
  · have hm := hx E hE
    subst hE
    simp only [List.mem_cons, List.not_mem_nil, or_false] at hm
    subst hm
    refine k9_catch (tgt := 12) X (by decide +kernel) [] ⟨0, 9, 12, 15⟩ [] (by rw [htab]; rfl) (fun z hz => absurd hz List.not_mem_nil) rfl (by decide) cl_L_holesFor rfl (fun q => ?_)
    refine k9_astore_n (i := 3) X dL_holesFor_12 rfl (by decide) [0] rfl ?_
    refine k9_iconst (v := 1) X dL_holesFor_13 (by decide) ?_
    exact HR _ _ _ _ _ _ (Nat.le_of_ble_eq_true rfl) (Nat.le_of_ble_eq_true rfl) (Or.inr ⟨fun z => (by cases z), rfl, rfl⟩) dL_holesFor_14
  · refine k9_i2l X dL_holesFor_7 ?_
    refine k9_lastO X dL_holesFor_8 ?_
    have X2 : k9_X p rm_L_holesFor s m args c A (k9_out G rv) 4 cL_holesFor wsL_holesFor RL rm_L_holesFor := X
    refine k9_goto (tgt := 15) X2 dL_holesFor_9 (by decide) ?_
    refine k9_iconst (v := 0) X2 dL_holesFor_15 (by decide) ?_
    subst hn
    exact HR _ _ _ _ _ _ (Nat.le_of_ble_eq_true rfl) (Nat.le_of_ble_eq_true rfl) (Or.inl ⟨rfl, rfl, rfl⟩) dL_holesFor_16
