/-! The law's body: one lemma a call. -/
section LAW
variable {p : Program} {l : Launch} {e : Env} {R : Room} {s : State} {m : MethodId} {args : Array Value} {below : List Frame} {meth : Method} {c : Code} {Q : State → Prop} {A : Nat → Prop} {G : k9_G} {nL cells slots : Nat} {M : k9_Mem} {pc : Nat} {lv lv' : List (Nat × Value)} {st : List Value} {cc : ByteArray} {Ts : List Cond} {own : String} {rm : Room}
theorem k9_D_gv {v : Nat} (h : va_D A (k9_wl G M)) (M' : k9_Mem) : va_D A (k9_wl (k9_gv G v) M') := by
  refine ⟨fun i j p q hi hj hpq => ?_, fun k q hk => ?_⟩
  · obtain ⟨h1, rfl⟩ := k9_wl_at _ M' hi
    obtain ⟨h2, rfl⟩ := k9_wl_at _ M' hj
    have h3 : k9_ga (k9_gv G v) i = k9_ga (k9_gv G v) j := hpq
    rw [k9_gv_ga G v (by omega), k9_gv_ga G v (by omega)] at h3
    exact h.1 i j (k9_ga G i, k9_ce G (M i) i) (k9_ga G j, k9_ce G (M j) j) (k9_wl_get G M h1) (k9_wl_get G M h2) h3
  · obtain ⟨h1, rfl⟩ := k9_wl_at _ M' hk
    have h2 : A (k9_ga G k) := h.2 k (k9_ga G k, k9_ce G (M k) k) (k9_wl_get G M h1)
    show A (k9_ga (k9_gv G v) k)
    rw [k9_gv_ga G v (by omega)]
    exact h2
theorem k9_callL (X : k9_X p R s m args c A G nL cc Ts own rm) {y : MethodName} {ws : List Cond} {rm2 : Room} {idx maxL mc ms n : Nat} {bytes : ByteArray} {ret : Option FieldType} {hh : List (Nat × Nat × Nat × Nat)} {As stk : List Value} {x : Option String} {cd rv : Int32} {mv mx : k9_Mem} (hM : k9_L l y ws rm2 mc ms G M As x cd rv mv mx) (cw : vx_CSW rm s args own idx y bytes maxL ret hh ws rm2 mc ms n) (hn : As.length = n) (hst : stk = As.reverse ++ st) (hW : (st.map fun v => v.category).sum ≤ 8) (d : decode cc pc = .ok (.invokestatic idx, 3)) (hr : cells + mc ≤ rm.cells ∧ slots + ms ≤ rm.slots) (kn : x = none → k9_U p l e R s m args below meth c Q A (k9_out G rv) nL (cells + mc) (slots + ms) mv (pc + 3) lv (.int cd :: st)) (kx : x ≠ none → k9_U p l e R s m args below meth c Q A G nL (cells + mc) (slots + ms) mx (pc + 3) lv (.int cd :: st)) : k9_U p l e R s m args below meth c Q A G nL cells slots M pc lv stk := by
  obtain ⟨hx, hb, hml, hown, hts, hK, hA, hSK, rfl⟩ := X
  intro H locs ls hP hD hS h
  refine va_calli (vx_runSW (As := As) (rest := st) ⟨hx, hb, hml, hown, hts⟩ (hM H.size) cw ⟨k9_blind, k9_pre hK hA hSK hP hD hS⟩ rfl hn h.1 hst (lv_room hW) d hr) hS (fun z _ hz => k9_A_in hD hA hS.1 z hz) (k9_A_in hD hA hS.1) (fun r u t H1 locs1 ht hvm hw hB hz1 hk1 hS1 => ?_)
  obtain ⟨rfl, hu⟩ := hw
  rcases hu with ⟨h1, rfl⟩ | ⟨h1, rfl⟩
  · exact kn h1 H1 locs1 ls (by rw [← ht]; exact hB) (k9_D_gv hD _) hS1 h
  · exact kx h1 H1 locs1 ls (by rw [← ht]; exact hB) (k9_D hD _) hS1 h
theorem k9_lald {rv : Int32} (X : k9_X p R s m args c A (k9_out G rv) nL cc Ts own rm) (d : decode cc pc = .ok (.laload, 1)) (kk : k9_U p l e R s m args below meth c Q A (k9_out G rv) nL cells slots M (pc + 1) lv (.long rv.toInt64 :: st)) : k9_U p l e R s m args below meth c Q A (k9_out G rv) nL cells slots M pc lv (.int 0 :: .ref (k9_ga (k9_out G rv) 89) :: st) := by
  intro H locs ls hP hD hS h
  have hw : (k9_wl (k9_out G rv) M)[89]? = some (k9_ga (k9_out G rv) 89, .inl ((k9_out G rv).2.2.2.2.1, 1, .inr (.inl (fun j => if j = 0 then Int64.ofBitVec (BitVec.ofNat 64 (k9_ga (k9_out G rv) 90)) else 0)))) := by
    rw [k9_wl_get _ M (by decide)]
    rfl
  refine va_lald X.1 X.2.1 X.2.2.2.2.2.1 hP 89 2 hw rfl (k9_inL (j := 0) (by decide) (by decide) (by decide)) d ?_
  have e1 : Int64.ofBitVec (BitVec.ofNat 64 (k9_ga (k9_out G rv) 90)) = rv.toInt64 := by
    show Int64.ofBitVec (BitVec.ofNat 64 (k9_ga (k9_gv G rv.toInt64.toBitVec.toNat) 90)) = rv.toInt64
    rw [k9_gv_90, BitVec.ofNat_toNat, BitVec.setWidth_eq]
    rfl
  have e0 : (0 : Int32).toNatClampNeg = 0 := by decide
  rw [e0, if_pos rfl, e1]
  exact kk H locs ls hP hD hS h
theorem k9_sld (X : k9_X p R s m args c A G nL cc Ts own rm) {b L : Nat} {xs : Nat → Int32} (hX : va_X b L xs s s.heap) (hbl : b < s.heap.size) (hbA : ¬ A b) {i : Int32} {j : Nat} (hi : i = nI j) (hj : j < L) (hL : L ≤ 2048) (d : decode cc pc = .ok (.iaload, 1)) (kk : k9_U p l e R s m args below meth c Q A G nL cells slots M (pc + 1) lv (.int (xs j) :: st)) : k9_U p l e R s m args below meth c Q A G nL cells slots M pc lv (.int i :: .ref b :: st) := by
  subst hi
  intro H locs ls hP hD hS h
  refine va_sld X.1 X.2.1 hX hbl hbA hS (m9_in hj (by omega)) d ?_
  rw [m9_cl (by omega)]
  exact kk H locs ls hP hD hS h
theorem k9_slen (X : k9_X p R s m args c A G nL cc Ts own rm) {b L : Nat} {xs : Nat → Int32} (hX : va_X b L xs s s.heap) (hbl : b < s.heap.size) (hbA : ¬ A b) (d : decode cc pc = .ok (.arraylength, 1)) (kk : k9_U p l e R s m args below meth c Q A G nL cells slots M (pc + 1) lv (.int (nI L) :: st)) : k9_U p l e R s m args below meth c Q A G nL cells slots M pc lv (.ref b :: st) := fun H locs ls hP hD hS h => va_slen X.1 X.2.1 hX hbl hbA hS d (kk H locs ls hP hD hS h)
end LAW
def lw_lv (G : k9_G) (b i : Nat) : List (Nat × Value) := [(0, .ref b), (1, .ref (k9_ga G 0)), (2, .ref (k9_ga G 76)), (3, .ref (k9_ga G 89)), (4, .int (nI i))]
theorem lw_pe {x y : Int32} {t : Nat} (h : x = nI t) (h2 : y = nI 0) : x + y = nI t := by subst h; subst h2; exact nI_add t 0
section LB
variable {p : Program} {l : Launch} {e : Env} {s : State} {m : MethodId} {args : Array Value} {below : List Frame} {meth : Method} {c : Code} {Q : State → Prop} {A : Nat → Prop} {G : k9_G} {cells slots : Nat} {M mx : k9_Mem} {b L i : Nat} {xs : Nat → Int32}
set_option maxRecDepth 20000 in
theorem lb_punch (X : k9_X p room_1 s m args c A G 9 cL_law wsL_law RL room_1) (hX : va_X b L xs s s.heap) (hbl : b < s.heap.size) (hbA : ¬ A b) (hi : i + 4 ≤ L) (hL : L ≤ 2048) (hrm : cells + 4 ≤ 601024 ∧ slots + 24 ≤ 7293034) (h : op_A l yX6_punch wsX6_punch rm_X6_punch 3 18 yX7_punch wsX7_punch rm_X7_punch (fun G => [.ref (k9_ga G 0), .int (xs (i + 1)), .int (xs (i + 2)), .int (xs (i + 3))]) (fun G => [.ref (k9_ga G 76), .int (xs (i + 1)), .int (xs (i + 2)), .int (xs (i + 3))]) [m9_io, m9_ia, m9_is] M M) (K : ∀ (v : Nat) (M2 : k9_Mem), (∃ B R F U, q9_rel M2 B R F U) → k9_U p l e room_1 s m args below meth c Q A (k9_gv G v) 9 (cells + 4) (slots + 24) M2 1527 (lw_lv G b i) []) : k9_U p l e room_1 s m args below meth c Q A G 9 cells slots M 152 (lw_lv G b i) [] := by
  obtain ⟨x, rv, mv, hC, hx, hn, hs⟩ := h
  refine k9_aload_n X dL_law_152 rfl 1 rfl ?_
  refine k9_aload_n X dL_law_153 rfl 0 rfl ?_
  refine k9_iload X dL_law_154 4 rfl ?_
  refine k9_iconst (v := nI 1) X dL_law_156 (by decide) ?_
  refine k9_iadd X dL_law_157 ?_
  refine k9_sld X hX hbl hbA (j := i + 1) (nI_add i 1) (by omega) hL dL_law_158 ?_
  refine k9_aload_n X dL_law_159 rfl 0 rfl ?_
  refine k9_iload X dL_law_160 4 rfl ?_
  refine k9_iconst (v := nI 2) X dL_law_162 (by decide) ?_
  refine k9_iadd X dL_law_163 ?_
  refine k9_sld X hX hbl hbA (j := i + 2) (nI_add i 2) (by omega) hL dL_law_164 ?_
  refine k9_aload_n X dL_law_165 rfl 0 rfl ?_
  refine k9_iload X dL_law_166 4 rfl ?_
  refine k9_iconst (v := nI 3) X dL_law_168 (by decide) ?_
  refine k9_iadd X dL_law_169 ?_
  refine k9_sld X hX hbl hbA (j := i + 3) (nI_add i 3) (by omega) hL dL_law_170 ?_
  refine k9_aload_n X dL_law_171 rfl 3 rfl ?_
  refine k9_callL (st := []) X (ct_L_punch l G M (xs (i + 1)) (xs (i + 2)) (xs (i + 3)) (hC G) hx) (vx_cwSW 5 X.2.2.2.2.1 gL_law_L_punch rfl rfl rfl (by decide +kernel) ⟨Nat.le_of_ble_eq_true rfl, Nat.le_of_ble_eq_true rfl⟩) rfl rfl (Nat.le_of_ble_eq_true rfl) dL_law_172 ⟨by show cells + 3 ≤ 601024; omega, by show slots + 18 ≤ 7293034; omega⟩ (fun hxn => ?_) (fun hxn => ?_)
  · obtain ⟨m2, hR, h5, hrel⟩ := hn hxn
    have X2 : k9_X p room_1 s m args c A (k9_out G rv) 9 cL_law wsL_law RL room_1 := X
    have e0 : k9_code [m9_io, m9_ia, m9_is] x = 0 := by rw [hxn]; rfl
    rw [e0]
    refine k9_istore (i := 5) X2 dL_law_175 (by decide) [1, 2, 3, 4, 5, 0] rfl ?_
    refine k9_aload_n X2 dL_law_177 rfl 2 rfl ?_
    refine k9_aload_n X2 dL_law_178 rfl 0 rfl ?_
    refine k9_iload X2 dL_law_179 4 rfl ?_
    refine k9_iconst (v := nI 1) X2 dL_law_181 (by decide) ?_
    refine k9_iadd X2 dL_law_182 ?_
    refine k9_sld X2 hX hbl hbA (j := i + 1) (nI_add i 1) (by omega) hL dL_law_183 ?_
    refine k9_aload_n X2 dL_law_184 rfl 0 rfl ?_
    refine k9_iload X2 dL_law_185 4 rfl ?_
    refine k9_iconst (v := nI 2) X2 dL_law_187 (by decide) ?_
    refine k9_iadd X2 dL_law_188 ?_
    refine k9_sld X2 hX hbl hbA (j := i + 2) (nI_add i 2) (by omega) hL dL_law_189 ?_
    refine k9_aload_n X2 dL_law_190 rfl 0 rfl ?_
    refine k9_iload X2 dL_law_191 4 rfl ?_
    refine k9_iconst (v := nI 3) X2 dL_law_193 (by decide) ?_
    refine k9_iadd X2 dL_law_194 ?_
    refine k9_sld X2 hX hbl hbA (j := i + 3) (nI_add i 3) (by omega) hL dL_law_195 ?_
    refine k9_callVi3 X2 (hR (k9_out G rv)) k9_ob_76 (cwV 3 X.2.2.2.2.1 gL_law_X7_punch rfl rfl rfl (by decide +kernel) ⟨Nat.le_of_ble_eq_true rfl, Nat.le_of_ble_eq_true rfl⟩) (Nat.le_of_ble_eq_true rfl) dL_law_196 ⟨by show cells + 3 ≤ 601024; omega, by show slots + 18 ≤ 7293034; omega⟩ ?_
    refine k9_istore (i := 6) X2 dL_law_199 (by decide) [1, 2, 3, 4, 5, 6, 0] rfl ?_
    refine k9_aload_n X2 dL_law_201 rfl 2 rfl ?_
    refine k9_callVi0 X2 (ct_X7_thrown l (k9_out G rv) m2) k9_ob_76 (cwV 0 X.2.2.2.2.1 gL_law_X7_thrown rfl rfl rfl (by decide +kernel) ⟨Nat.le_of_ble_eq_true rfl, Nat.le_of_ble_eq_true rfl⟩) (Nat.le_of_ble_eq_true rfl) dL_law_202 ⟨by show cells + 3 ≤ 601024; omega, by show slots + 18 ≤ 7293034; omega⟩ ?_
    refine k9_iload X2 dL_law_205 5 rfl ?_
    refine k9_icmp_eq (tgt := 212) X2 dL_law_207 (by decide) (fun _ => ?_) (fun c1 => absurd h5 c1)
    refine k9_iload X2 dL_law_212 5 rfl ?_
    refine k9_if_ne (tgt := 229) X2 dL_law_214 (by decide) (fun c1 => absurd rfl c1) (fun _ => ?_)
    refine k9_aload_n X2 dL_law_217 rfl 3 rfl ?_
    refine k9_iconst (v := 0) X2 dL_law_218 (by decide) ?_
    refine k9_lald X2 dL_law_219 ?_
    refine k9_iload X2 dL_law_220 6 rfl ?_
    refine k9_i2l X2 dL_law_222 ?_
    refine k9_lcmp X2 dL_law_223 ?_
    refine k9_if_eq (tgt := 229) X2 dL_law_224 (by decide) (fun _ => ?_) (fun c1 => absurd ((lg_cmp_eq _ _).mpr rfl) c1)
    refine k9_goto (tgt := 1527) X2 dL_law_229 (by decide) ?_
    refine k9_sub [0, 1, 2, 3, 4] rfl ?_
    refine k9_widen (k := cells + 4) (n := slots + 24) (by omega) (by omega) ?_
    exact K _ m2 hrel
  · obtain ⟨E, hE⟩ : ∃ E, x = some E := by
      cases x with
      | none => exact absurd rfl hxn
      | some E => exact ⟨E, rfl⟩
    obtain ⟨bv, m2, hR, h5, hrel⟩ := hs E hE
    have e0 : ¬ k9_code [m9_io, m9_ia, m9_is] x = 0 := by rw [hE]; exact op_cne (hx E hE) (by decide)
    refine k9_istore (i := 5) X dL_law_175 (by decide) [1, 2, 3, 4, 5, 0] rfl ?_
    refine k9_aload_n X dL_law_177 rfl 2 rfl ?_
    refine k9_aload_n X dL_law_178 rfl 0 rfl ?_
    refine k9_iload X dL_law_179 4 rfl ?_
    refine k9_iconst (v := nI 1) X dL_law_181 (by decide) ?_
    refine k9_iadd X dL_law_182 ?_
    refine k9_sld X hX hbl hbA (j := i + 1) (nI_add i 1) (by omega) hL dL_law_183 ?_
    refine k9_aload_n X dL_law_184 rfl 0 rfl ?_
    refine k9_iload X dL_law_185 4 rfl ?_
    refine k9_iconst (v := nI 2) X dL_law_187 (by decide) ?_
    refine k9_iadd X dL_law_188 ?_
    refine k9_sld X hX hbl hbA (j := i + 2) (nI_add i 2) (by omega) hL dL_law_189 ?_
    refine k9_aload_n X dL_law_190 rfl 0 rfl ?_
    refine k9_iload X dL_law_191 4 rfl ?_
    refine k9_iconst (v := nI 3) X dL_law_193 (by decide) ?_
    refine k9_iadd X dL_law_194 ?_
    refine k9_sld X hX hbl hbA (j := i + 3) (nI_add i 3) (by omega) hL dL_law_195 ?_
    refine k9_callVi3 X (hR G) k9_ob_76 (cwV 3 X.2.2.2.2.1 gL_law_X7_punch rfl rfl rfl (by decide +kernel) ⟨Nat.le_of_ble_eq_true rfl, Nat.le_of_ble_eq_true rfl⟩) (Nat.le_of_ble_eq_true rfl) dL_law_196 ⟨by show cells + 3 ≤ 601024; omega, by show slots + 18 ≤ 7293034; omega⟩ ?_
    refine k9_istore (i := 6) X dL_law_199 (by decide) [1, 2, 3, 4, 5, 6, 0] rfl ?_
    refine k9_aload_n X dL_law_201 rfl 2 rfl ?_
    refine k9_callVi0 X (ct_X7_thrown l G m2) k9_ob_76 (cwV 0 X.2.2.2.2.1 gL_law_X7_thrown rfl rfl rfl (by decide +kernel) ⟨Nat.le_of_ble_eq_true rfl, Nat.le_of_ble_eq_true rfl⟩) (Nat.le_of_ble_eq_true rfl) dL_law_202 ⟨by show cells + 3 ≤ 601024; omega, by show slots + 18 ≤ 7293034; omega⟩ ?_
    refine k9_iload X dL_law_205 5 rfl ?_
    refine k9_icmp_eq (tgt := 212) X dL_law_207 (by decide) (fun _ => ?_) (fun c1 => absurd h5 c1)
    refine k9_iload X dL_law_212 5 rfl ?_
    refine k9_if_ne (tgt := 229) X dL_law_214 (by decide) (fun _ => ?_) (fun c1 => absurd c1 e0)
    refine k9_goto (tgt := 1527) X dL_law_229 (by decide) ?_
    refine k9_sub [0, 1, 2, 3, 4] rfl ?_
    refine k9_widen (k := cells + 4) (n := slots + 24) (by omega) (by omega) ?_
    have h9 := K (k9_ga G 90) m2 hrel
    rw [k9_gv_self] at h9
    exact h9
set_option maxRecDepth 20000 in
theorem lb_patch (X : k9_X p room_1 s m args c A G 9 cL_law wsL_law RL room_1) (hX : va_X b L xs s s.heap) (hbl : b < s.heap.size) (hbA : ¬ A b) (hi : i + 4 ≤ L) (hL : L ≤ 2048) (hrm : cells + 4 ≤ 601024 ∧ slots + 24 ≤ 7293034) (h : op_A l yX6_patch wsX6_patch rm_X6_patch 3 18 yX7_patch wsX7_patch rm_X7_patch (fun G => [.ref (k9_ga G 0), .int (xs (i + 1)), .int (xs (i + 2)), .int (xs (i + 3))]) (fun G => [.ref (k9_ga G 76), .int (xs (i + 1)), .int (xs (i + 2)), .int (xs (i + 3))]) [m9_io, m9_ia] M M) (K : ∀ (v : Nat) (M2 : k9_Mem), (∃ B R F U, q9_rel M2 B R F U) → k9_U p l e room_1 s m args below meth c Q A (k9_gv G v) 9 (cells + 4) (slots + 24) M2 1527 (lw_lv G b i) []) : k9_U p l e room_1 s m args below meth c Q A G 9 cells slots M 232 (lw_lv G b i) [] := by
  obtain ⟨x, rv, mv, hC, hx, hn, hs⟩ := h
  refine k9_aload_n X dL_law_232 rfl 1 rfl ?_
  refine k9_aload_n X dL_law_233 rfl 0 rfl ?_
  refine k9_iload X dL_law_234 4 rfl ?_
  refine k9_iconst (v := nI 1) X dL_law_236 (by decide) ?_
  refine k9_iadd X dL_law_237 ?_
  refine k9_sld X hX hbl hbA (j := i + 1) (nI_add i 1) (by omega) hL dL_law_238 ?_
  refine k9_aload_n X dL_law_239 rfl 0 rfl ?_
  refine k9_iload X dL_law_240 4 rfl ?_
  refine k9_iconst (v := nI 2) X dL_law_242 (by decide) ?_
  refine k9_iadd X dL_law_243 ?_
  refine k9_sld X hX hbl hbA (j := i + 2) (nI_add i 2) (by omega) hL dL_law_244 ?_
  refine k9_aload_n X dL_law_245 rfl 0 rfl ?_
  refine k9_iload X dL_law_246 4 rfl ?_
  refine k9_iconst (v := nI 3) X dL_law_248 (by decide) ?_
  refine k9_iadd X dL_law_249 ?_
  refine k9_sld X hX hbl hbA (j := i + 3) (nI_add i 3) (by omega) hL dL_law_250 ?_
  refine k9_aload_n X dL_law_251 rfl 3 rfl ?_
  refine k9_callL (st := []) X (ct_L_patch l G M (xs (i + 1)) (xs (i + 2)) (xs (i + 3)) (hC G) hx) (vx_cwSW 5 X.2.2.2.2.1 gL_law_L_patch rfl rfl rfl (by decide +kernel) ⟨Nat.le_of_ble_eq_true rfl, Nat.le_of_ble_eq_true rfl⟩) rfl rfl (Nat.le_of_ble_eq_true rfl) dL_law_252 ⟨by show cells + 3 ≤ 601024; omega, by show slots + 18 ≤ 7293034; omega⟩ (fun hxn => ?_) (fun hxn => ?_)
  · obtain ⟨m2, hR, h5, hrel⟩ := hn hxn
    have X2 : k9_X p room_1 s m args c A (k9_out G rv) 9 cL_law wsL_law RL room_1 := X
    have e0 : k9_code [m9_io, m9_ia] x = 0 := by rw [hxn]; rfl
    rw [e0]
    refine k9_istore (i := 5) X2 dL_law_255 (by decide) [1, 2, 3, 4, 5, 0] rfl ?_
    refine k9_aload_n X2 dL_law_257 rfl 2 rfl ?_
    refine k9_aload_n X2 dL_law_258 rfl 0 rfl ?_
    refine k9_iload X2 dL_law_259 4 rfl ?_
    refine k9_iconst (v := nI 1) X2 dL_law_261 (by decide) ?_
    refine k9_iadd X2 dL_law_262 ?_
    refine k9_sld X2 hX hbl hbA (j := i + 1) (nI_add i 1) (by omega) hL dL_law_263 ?_
    refine k9_aload_n X2 dL_law_264 rfl 0 rfl ?_
    refine k9_iload X2 dL_law_265 4 rfl ?_
    refine k9_iconst (v := nI 2) X2 dL_law_267 (by decide) ?_
    refine k9_iadd X2 dL_law_268 ?_
    refine k9_sld X2 hX hbl hbA (j := i + 2) (nI_add i 2) (by omega) hL dL_law_269 ?_
    refine k9_aload_n X2 dL_law_270 rfl 0 rfl ?_
    refine k9_iload X2 dL_law_271 4 rfl ?_
    refine k9_iconst (v := nI 3) X2 dL_law_273 (by decide) ?_
    refine k9_iadd X2 dL_law_274 ?_
    refine k9_sld X2 hX hbl hbA (j := i + 3) (nI_add i 3) (by omega) hL dL_law_275 ?_
    refine k9_callVi3 X2 (hR (k9_out G rv)) k9_ob_76 (cwV 3 X.2.2.2.2.1 gL_law_X7_patch rfl rfl rfl (by decide +kernel) ⟨Nat.le_of_ble_eq_true rfl, Nat.le_of_ble_eq_true rfl⟩) (Nat.le_of_ble_eq_true rfl) dL_law_276 ⟨by show cells + 3 ≤ 601024; omega, by show slots + 18 ≤ 7293034; omega⟩ ?_
    refine k9_istore (i := 6) X2 dL_law_279 (by decide) [1, 2, 3, 4, 5, 6, 0] rfl ?_
    refine k9_aload_n X2 dL_law_281 rfl 2 rfl ?_
    refine k9_callVi0 X2 (ct_X7_thrown l (k9_out G rv) m2) k9_ob_76 (cwV 0 X.2.2.2.2.1 gL_law_X7_thrown rfl rfl rfl (by decide +kernel) ⟨Nat.le_of_ble_eq_true rfl, Nat.le_of_ble_eq_true rfl⟩) (Nat.le_of_ble_eq_true rfl) dL_law_282 ⟨by show cells + 3 ≤ 601024; omega, by show slots + 18 ≤ 7293034; omega⟩ ?_
    refine k9_iload X2 dL_law_285 5 rfl ?_
    refine k9_icmp_eq (tgt := 292) X2 dL_law_287 (by decide) (fun _ => ?_) (fun c1 => absurd h5 c1)
    refine k9_iload X2 dL_law_292 5 rfl ?_
    refine k9_if_ne (tgt := 309) X2 dL_law_294 (by decide) (fun c1 => absurd rfl c1) (fun _ => ?_)
    refine k9_aload_n X2 dL_law_297 rfl 3 rfl ?_
    refine k9_iconst (v := 0) X2 dL_law_298 (by decide) ?_
    refine k9_lald X2 dL_law_299 ?_
    refine k9_iload X2 dL_law_300 6 rfl ?_
    refine k9_i2l X2 dL_law_302 ?_
    refine k9_lcmp X2 dL_law_303 ?_
    refine k9_if_eq (tgt := 309) X2 dL_law_304 (by decide) (fun _ => ?_) (fun c1 => absurd ((lg_cmp_eq _ _).mpr rfl) c1)
    refine k9_goto (tgt := 1527) X2 dL_law_309 (by decide) ?_
    refine k9_sub [0, 1, 2, 3, 4] rfl ?_
    refine k9_widen (k := cells + 4) (n := slots + 24) (by omega) (by omega) ?_
    exact K _ m2 hrel
  · obtain ⟨E, hE⟩ : ∃ E, x = some E := by
      cases x with
      | none => exact absurd rfl hxn
      | some E => exact ⟨E, rfl⟩
    obtain ⟨bv, m2, hR, h5, hrel⟩ := hs E hE
    have e0 : ¬ k9_code [m9_io, m9_ia] x = 0 := by rw [hE]; exact op_cne (hx E hE) (by decide)
    refine k9_istore (i := 5) X dL_law_255 (by decide) [1, 2, 3, 4, 5, 0] rfl ?_
    refine k9_aload_n X dL_law_257 rfl 2 rfl ?_
    refine k9_aload_n X dL_law_258 rfl 0 rfl ?_
    refine k9_iload X dL_law_259 4 rfl ?_
    refine k9_iconst (v := nI 1) X dL_law_261 (by decide) ?_
    refine k9_iadd X dL_law_262 ?_
    refine k9_sld X hX hbl hbA (j := i + 1) (nI_add i 1) (by omega) hL dL_law_263 ?_
    refine k9_aload_n X dL_law_264 rfl 0 rfl ?_
    refine k9_iload X dL_law_265 4 rfl ?_
    refine k9_iconst (v := nI 2) X dL_law_267 (by decide) ?_
    refine k9_iadd X dL_law_268 ?_
    refine k9_sld X hX hbl hbA (j := i + 2) (nI_add i 2) (by omega) hL dL_law_269 ?_
    refine k9_aload_n X dL_law_270 rfl 0 rfl ?_
    refine k9_iload X dL_law_271 4 rfl ?_
    refine k9_iconst (v := nI 3) X dL_law_273 (by decide) ?_
    refine k9_iadd X dL_law_274 ?_
    refine k9_sld X hX hbl hbA (j := i + 3) (nI_add i 3) (by omega) hL dL_law_275 ?_
    refine k9_callVi3 X (hR G) k9_ob_76 (cwV 3 X.2.2.2.2.1 gL_law_X7_patch rfl rfl rfl (by decide +kernel) ⟨Nat.le_of_ble_eq_true rfl, Nat.le_of_ble_eq_true rfl⟩) (Nat.le_of_ble_eq_true rfl) dL_law_276 ⟨by show cells + 3 ≤ 601024; omega, by show slots + 18 ≤ 7293034; omega⟩ ?_
    refine k9_istore (i := 6) X dL_law_279 (by decide) [1, 2, 3, 4, 5, 6, 0] rfl ?_
    refine k9_aload_n X dL_law_281 rfl 2 rfl ?_
    refine k9_callVi0 X (ct_X7_thrown l G m2) k9_ob_76 (cwV 0 X.2.2.2.2.1 gL_law_X7_thrown rfl rfl rfl (by decide +kernel) ⟨Nat.le_of_ble_eq_true rfl, Nat.le_of_ble_eq_true rfl⟩) (Nat.le_of_ble_eq_true rfl) dL_law_282 ⟨by show cells + 3 ≤ 601024; omega, by show slots + 18 ≤ 7293034; omega⟩ ?_
    refine k9_iload X dL_law_285 5 rfl ?_
    refine k9_icmp_eq (tgt := 292) X dL_law_287 (by decide) (fun _ => ?_) (fun c1 => absurd h5 c1)
    refine k9_iload X dL_law_292 5 rfl ?_
    refine k9_if_ne (tgt := 309) X dL_law_294 (by decide) (fun _ => ?_) (fun c1 => absurd c1 e0)
    refine k9_goto (tgt := 1527) X dL_law_309 (by decide) ?_
    refine k9_sub [0, 1, 2, 3, 4] rfl ?_
    refine k9_widen (k := cells + 4) (n := slots + 24) (by omega) (by omega) ?_
    have h9 := K (k9_ga G 90) m2 hrel
    rw [k9_gv_self] at h9
    exact h9
set_option maxRecDepth 20000 in
theorem lb_peel (X : k9_X p room_1 s m args c A G 9 cL_law wsL_law RL room_1) (hX : va_X b L xs s s.heap) (hbl : b < s.heap.size) (hbA : ¬ A b) (hi : i + 4 ≤ L) (hL : L ≤ 2048) (hrm : cells + 4 ≤ 601024 ∧ slots + 24 ≤ 7293034) (h : op_A l yX6_peel wsX6_peel rm_X6_peel 3 18 yX7_peel wsX7_peel rm_X7_peel (fun G => [.ref (k9_ga G 0), .int (xs (i + 1)), .int (xs (i + 2)), .int (xs (i + 3))]) (fun G => [.ref (k9_ga G 76), .int (xs (i + 1)), .int (xs (i + 2)), .int (xs (i + 3))]) [m9_io, m9_ia] M M) (K : ∀ (v : Nat) (M2 : k9_Mem), (∃ B R F U, q9_rel M2 B R F U) → k9_U p l e room_1 s m args below meth c Q A (k9_gv G v) 9 (cells + 4) (slots + 24) M2 1527 (lw_lv G b i) []) : k9_U p l e room_1 s m args below meth c Q A G 9 cells slots M 312 (lw_lv G b i) [] := by
  obtain ⟨x, rv, mv, hC, hx, hn, hs⟩ := h
  refine k9_aload_n X dL_law_312 rfl 1 rfl ?_
  refine k9_aload_n X dL_law_313 rfl 0 rfl ?_
  refine k9_iload X dL_law_314 4 rfl ?_
  refine k9_iconst (v := nI 1) X dL_law_316 (by decide) ?_
  refine k9_iadd X dL_law_317 ?_
  refine k9_sld X hX hbl hbA (j := i + 1) (nI_add i 1) (by omega) hL dL_law_318 ?_
  refine k9_aload_n X dL_law_319 rfl 0 rfl ?_
  refine k9_iload X dL_law_320 4 rfl ?_
  refine k9_iconst (v := nI 2) X dL_law_322 (by decide) ?_
  refine k9_iadd X dL_law_323 ?_
  refine k9_sld X hX hbl hbA (j := i + 2) (nI_add i 2) (by omega) hL dL_law_324 ?_
  refine k9_aload_n X dL_law_325 rfl 0 rfl ?_
  refine k9_iload X dL_law_326 4 rfl ?_
  refine k9_iconst (v := nI 3) X dL_law_328 (by decide) ?_
  refine k9_iadd X dL_law_329 ?_
  refine k9_sld X hX hbl hbA (j := i + 3) (nI_add i 3) (by omega) hL dL_law_330 ?_
  refine k9_aload_n X dL_law_331 rfl 3 rfl ?_
  refine k9_callL (st := []) X (ct_L_peel l G M (xs (i + 1)) (xs (i + 2)) (xs (i + 3)) (hC G) hx) (vx_cwSW 5 X.2.2.2.2.1 gL_law_L_peel rfl rfl rfl (by decide +kernel) ⟨Nat.le_of_ble_eq_true rfl, Nat.le_of_ble_eq_true rfl⟩) rfl rfl (Nat.le_of_ble_eq_true rfl) dL_law_332 ⟨by show cells + 3 ≤ 601024; omega, by show slots + 18 ≤ 7293034; omega⟩ (fun hxn => ?_) (fun hxn => ?_)
  · obtain ⟨m2, hR, h5, hrel⟩ := hn hxn
    have X2 : k9_X p room_1 s m args c A (k9_out G rv) 9 cL_law wsL_law RL room_1 := X
    have e0 : k9_code [m9_io, m9_ia] x = 0 := by rw [hxn]; rfl
    rw [e0]
    refine k9_istore (i := 5) X2 dL_law_335 (by decide) [1, 2, 3, 4, 5, 0] rfl ?_
    refine k9_aload_n X2 dL_law_337 rfl 2 rfl ?_
    refine k9_aload_n X2 dL_law_338 rfl 0 rfl ?_
    refine k9_iload X2 dL_law_339 4 rfl ?_
    refine k9_iconst (v := nI 1) X2 dL_law_341 (by decide) ?_
    refine k9_iadd X2 dL_law_342 ?_
    refine k9_sld X2 hX hbl hbA (j := i + 1) (nI_add i 1) (by omega) hL dL_law_343 ?_
    refine k9_aload_n X2 dL_law_344 rfl 0 rfl ?_
    refine k9_iload X2 dL_law_345 4 rfl ?_
    refine k9_iconst (v := nI 2) X2 dL_law_347 (by decide) ?_
    refine k9_iadd X2 dL_law_348 ?_
    refine k9_sld X2 hX hbl hbA (j := i + 2) (nI_add i 2) (by omega) hL dL_law_349 ?_
    refine k9_aload_n X2 dL_law_350 rfl 0 rfl ?_
    refine k9_iload X2 dL_law_351 4 rfl ?_
    refine k9_iconst (v := nI 3) X2 dL_law_353 (by decide) ?_
    refine k9_iadd X2 dL_law_354 ?_
    refine k9_sld X2 hX hbl hbA (j := i + 3) (nI_add i 3) (by omega) hL dL_law_355 ?_
    refine k9_callVi3 X2 (hR (k9_out G rv)) k9_ob_76 (cwV 3 X.2.2.2.2.1 gL_law_X7_peel rfl rfl rfl (by decide +kernel) ⟨Nat.le_of_ble_eq_true rfl, Nat.le_of_ble_eq_true rfl⟩) (Nat.le_of_ble_eq_true rfl) dL_law_356 ⟨by show cells + 3 ≤ 601024; omega, by show slots + 18 ≤ 7293034; omega⟩ ?_
    refine k9_istore (i := 6) X2 dL_law_359 (by decide) [1, 2, 3, 4, 5, 6, 0] rfl ?_
    refine k9_aload_n X2 dL_law_361 rfl 2 rfl ?_
    refine k9_callVi0 X2 (ct_X7_thrown l (k9_out G rv) m2) k9_ob_76 (cwV 0 X.2.2.2.2.1 gL_law_X7_thrown rfl rfl rfl (by decide +kernel) ⟨Nat.le_of_ble_eq_true rfl, Nat.le_of_ble_eq_true rfl⟩) (Nat.le_of_ble_eq_true rfl) dL_law_362 ⟨by show cells + 3 ≤ 601024; omega, by show slots + 18 ≤ 7293034; omega⟩ ?_
    refine k9_iload X2 dL_law_365 5 rfl ?_
    refine k9_icmp_eq (tgt := 372) X2 dL_law_367 (by decide) (fun _ => ?_) (fun c1 => absurd h5 c1)
    refine k9_iload X2 dL_law_372 5 rfl ?_
    refine k9_if_ne (tgt := 389) X2 dL_law_374 (by decide) (fun c1 => absurd rfl c1) (fun _ => ?_)
    refine k9_aload_n X2 dL_law_377 rfl 3 rfl ?_
    refine k9_iconst (v := 0) X2 dL_law_378 (by decide) ?_
    refine k9_lald X2 dL_law_379 ?_
    refine k9_iload X2 dL_law_380 6 rfl ?_
    refine k9_i2l X2 dL_law_382 ?_
    refine k9_lcmp X2 dL_law_383 ?_
    refine k9_if_eq (tgt := 389) X2 dL_law_384 (by decide) (fun _ => ?_) (fun c1 => absurd ((lg_cmp_eq _ _).mpr rfl) c1)
    refine k9_goto (tgt := 1527) X2 dL_law_389 (by decide) ?_
    refine k9_sub [0, 1, 2, 3, 4] rfl ?_
    refine k9_widen (k := cells + 4) (n := slots + 24) (by omega) (by omega) ?_
    exact K _ m2 hrel
  · obtain ⟨E, hE⟩ : ∃ E, x = some E := by
      cases x with
      | none => exact absurd rfl hxn
      | some E => exact ⟨E, rfl⟩
    obtain ⟨bv, m2, hR, h5, hrel⟩ := hs E hE
    have e0 : ¬ k9_code [m9_io, m9_ia] x = 0 := by rw [hE]; exact op_cne (hx E hE) (by decide)
    refine k9_istore (i := 5) X dL_law_335 (by decide) [1, 2, 3, 4, 5, 0] rfl ?_
    refine k9_aload_n X dL_law_337 rfl 2 rfl ?_
    refine k9_aload_n X dL_law_338 rfl 0 rfl ?_
    refine k9_iload X dL_law_339 4 rfl ?_
    refine k9_iconst (v := nI 1) X dL_law_341 (by decide) ?_
    refine k9_iadd X dL_law_342 ?_
    refine k9_sld X hX hbl hbA (j := i + 1) (nI_add i 1) (by omega) hL dL_law_343 ?_
    refine k9_aload_n X dL_law_344 rfl 0 rfl ?_
    refine k9_iload X dL_law_345 4 rfl ?_
    refine k9_iconst (v := nI 2) X dL_law_347 (by decide) ?_
    refine k9_iadd X dL_law_348 ?_
    refine k9_sld X hX hbl hbA (j := i + 2) (nI_add i 2) (by omega) hL dL_law_349 ?_
    refine k9_aload_n X dL_law_350 rfl 0 rfl ?_
    refine k9_iload X dL_law_351 4 rfl ?_
    refine k9_iconst (v := nI 3) X dL_law_353 (by decide) ?_
    refine k9_iadd X dL_law_354 ?_
    refine k9_sld X hX hbl hbA (j := i + 3) (nI_add i 3) (by omega) hL dL_law_355 ?_
    refine k9_callVi3 X (hR G) k9_ob_76 (cwV 3 X.2.2.2.2.1 gL_law_X7_peel rfl rfl rfl (by decide +kernel) ⟨Nat.le_of_ble_eq_true rfl, Nat.le_of_ble_eq_true rfl⟩) (Nat.le_of_ble_eq_true rfl) dL_law_356 ⟨by show cells + 3 ≤ 601024; omega, by show slots + 18 ≤ 7293034; omega⟩ ?_
    refine k9_istore (i := 6) X dL_law_359 (by decide) [1, 2, 3, 4, 5, 6, 0] rfl ?_
    refine k9_aload_n X dL_law_361 rfl 2 rfl ?_
    refine k9_callVi0 X (ct_X7_thrown l G m2) k9_ob_76 (cwV 0 X.2.2.2.2.1 gL_law_X7_thrown rfl rfl rfl (by decide +kernel) ⟨Nat.le_of_ble_eq_true rfl, Nat.le_of_ble_eq_true rfl⟩) (Nat.le_of_ble_eq_true rfl) dL_law_362 ⟨by show cells + 3 ≤ 601024; omega, by show slots + 18 ≤ 7293034; omega⟩ ?_
    refine k9_iload X dL_law_365 5 rfl ?_
    refine k9_icmp_eq (tgt := 372) X dL_law_367 (by decide) (fun _ => ?_) (fun c1 => absurd h5 c1)
    refine k9_iload X dL_law_372 5 rfl ?_
    refine k9_if_ne (tgt := 389) X dL_law_374 (by decide) (fun _ => ?_) (fun c1 => absurd c1 e0)
    refine k9_goto (tgt := 1527) X dL_law_389 (by decide) ?_
    refine k9_sub [0, 1, 2, 3, 4] rfl ?_
    refine k9_widen (k := cells + 4) (n := slots + 24) (by omega) (by omega) ?_
    have h9 := K (k9_ga G 90) m2 hrel
    rw [k9_gv_self] at h9
    exact h9
set_option maxRecDepth 20000 in
theorem lb_shift (X : k9_X p room_1 s m args c A G 9 cL_law wsL_law RL room_1) (hX : va_X b L xs s s.heap) (hbl : b < s.heap.size) (hbA : ¬ A b) (hi : i + 4 ≤ L) (hL : L ≤ 2048) (hrm : cells + 4 ≤ 601024 ∧ slots + 24 ≤ 7293034) (h : op_A l yX6_shift wsX6_shift rm_X6_shift 2 12 yX7_shift wsX7_shift rm_X7_shift (fun G => [.ref (k9_ga G 0), .int (xs (i + 1))]) (fun G => [.ref (k9_ga G 76), .int (xs (i + 1))]) [m9_ia, m9_is] M M) (K : ∀ (v : Nat) (M2 : k9_Mem), (∃ B R F U, q9_rel M2 B R F U) → k9_U p l e room_1 s m args below meth c Q A (k9_gv G v) 9 (cells + 4) (slots + 24) M2 1527 (lw_lv G b i) []) : k9_U p l e room_1 s m args below meth c Q A G 9 cells slots M 392 (lw_lv G b i) [] := by
  obtain ⟨x, rv, mv, hC, hx, hn, hs⟩ := h
  refine k9_aload_n X dL_law_392 rfl 1 rfl ?_
  refine k9_aload_n X dL_law_393 rfl 0 rfl ?_
  refine k9_iload X dL_law_394 4 rfl ?_
  refine k9_iconst (v := nI 1) X dL_law_396 (by decide) ?_
  refine k9_iadd X dL_law_397 ?_
  refine k9_sld X hX hbl hbA (j := i + 1) (nI_add i 1) (by omega) hL dL_law_398 ?_
  refine k9_aload_n X dL_law_399 rfl 3 rfl ?_
  refine k9_callL (st := []) X (ct_L_shift l G M (xs (i + 1)) (hC G) hx) (vx_cwSW 3 X.2.2.2.2.1 gL_law_L_shift rfl rfl rfl (by decide +kernel) ⟨Nat.le_of_ble_eq_true rfl, Nat.le_of_ble_eq_true rfl⟩) rfl rfl (Nat.le_of_ble_eq_true rfl) dL_law_400 ⟨by show cells + 2 ≤ 601024; omega, by show slots + 12 ≤ 7293034; omega⟩ (fun hxn => ?_) (fun hxn => ?_)
  · obtain ⟨m2, hR, h5, hrel⟩ := hn hxn
    have X2 : k9_X p room_1 s m args c A (k9_out G rv) 9 cL_law wsL_law RL room_1 := X
    have e0 : k9_code [m9_ia, m9_is] x = 0 := by rw [hxn]; rfl
    rw [e0]
    refine k9_istore (i := 5) X2 dL_law_403 (by decide) [1, 2, 3, 4, 5, 0] rfl ?_
    refine k9_aload_n X2 dL_law_405 rfl 2 rfl ?_
    refine k9_aload_n X2 dL_law_406 rfl 0 rfl ?_
    refine k9_iload X2 dL_law_407 4 rfl ?_
    refine k9_iconst (v := nI 1) X2 dL_law_409 (by decide) ?_
    refine k9_iadd X2 dL_law_410 ?_
    refine k9_sld X2 hX hbl hbA (j := i + 1) (nI_add i 1) (by omega) hL dL_law_411 ?_
    refine k9_callVi1 X2 (hR (k9_out G rv)) k9_ob_76 (cwV 1 X.2.2.2.2.1 gL_law_X7_shift rfl rfl rfl (by decide +kernel) ⟨Nat.le_of_ble_eq_true rfl, Nat.le_of_ble_eq_true rfl⟩) (Nat.le_of_ble_eq_true rfl) dL_law_412 ⟨by show cells + 2 ≤ 601024; omega, by show slots + 12 ≤ 7293034; omega⟩ ?_
    refine k9_istore (i := 6) X2 dL_law_415 (by decide) [1, 2, 3, 4, 5, 6, 0] rfl ?_
    refine k9_aload_n X2 dL_law_417 rfl 2 rfl ?_
    refine k9_callVi0 X2 (ct_X7_thrown l (k9_out G rv) m2) k9_ob_76 (cwV 0 X.2.2.2.2.1 gL_law_X7_thrown rfl rfl rfl (by decide +kernel) ⟨Nat.le_of_ble_eq_true rfl, Nat.le_of_ble_eq_true rfl⟩) (Nat.le_of_ble_eq_true rfl) dL_law_418 ⟨by show cells + 2 ≤ 601024; omega, by show slots + 12 ≤ 7293034; omega⟩ ?_
    refine k9_iload X2 dL_law_421 5 rfl ?_
    refine k9_icmp_eq (tgt := 428) X2 dL_law_423 (by decide) (fun _ => ?_) (fun c1 => absurd h5 c1)
    refine k9_iload X2 dL_law_428 5 rfl ?_
    refine k9_if_ne (tgt := 445) X2 dL_law_430 (by decide) (fun c1 => absurd rfl c1) (fun _ => ?_)
    refine k9_aload_n X2 dL_law_433 rfl 3 rfl ?_
    refine k9_iconst (v := 0) X2 dL_law_434 (by decide) ?_
    refine k9_lald X2 dL_law_435 ?_
    refine k9_iload X2 dL_law_436 6 rfl ?_
    refine k9_i2l X2 dL_law_438 ?_
    refine k9_lcmp X2 dL_law_439 ?_
    refine k9_if_eq (tgt := 445) X2 dL_law_440 (by decide) (fun _ => ?_) (fun c1 => absurd ((lg_cmp_eq _ _).mpr rfl) c1)
    refine k9_goto (tgt := 1527) X2 dL_law_445 (by decide) ?_
    refine k9_sub [0, 1, 2, 3, 4] rfl ?_
    refine k9_widen (k := cells + 4) (n := slots + 24) (by omega) (by omega) ?_
    exact K _ m2 hrel
  · obtain ⟨E, hE⟩ : ∃ E, x = some E := by
      cases x with
      | none => exact absurd rfl hxn
      | some E => exact ⟨E, rfl⟩
    obtain ⟨bv, m2, hR, h5, hrel⟩ := hs E hE
    have e0 : ¬ k9_code [m9_ia, m9_is] x = 0 := by rw [hE]; exact op_cne (hx E hE) (by decide)
    refine k9_istore (i := 5) X dL_law_403 (by decide) [1, 2, 3, 4, 5, 0] rfl ?_
    refine k9_aload_n X dL_law_405 rfl 2 rfl ?_
    refine k9_aload_n X dL_law_406 rfl 0 rfl ?_
    refine k9_iload X dL_law_407 4 rfl ?_
    refine k9_iconst (v := nI 1) X dL_law_409 (by decide) ?_
    refine k9_iadd X dL_law_410 ?_
    refine k9_sld X hX hbl hbA (j := i + 1) (nI_add i 1) (by omega) hL dL_law_411 ?_
    refine k9_callVi1 X (hR G) k9_ob_76 (cwV 1 X.2.2.2.2.1 gL_law_X7_shift rfl rfl rfl (by decide +kernel) ⟨Nat.le_of_ble_eq_true rfl, Nat.le_of_ble_eq_true rfl⟩) (Nat.le_of_ble_eq_true rfl) dL_law_412 ⟨by show cells + 2 ≤ 601024; omega, by show slots + 12 ≤ 7293034; omega⟩ ?_
    refine k9_istore (i := 6) X dL_law_415 (by decide) [1, 2, 3, 4, 5, 6, 0] rfl ?_
    refine k9_aload_n X dL_law_417 rfl 2 rfl ?_
    refine k9_callVi0 X (ct_X7_thrown l G m2) k9_ob_76 (cwV 0 X.2.2.2.2.1 gL_law_X7_thrown rfl rfl rfl (by decide +kernel) ⟨Nat.le_of_ble_eq_true rfl, Nat.le_of_ble_eq_true rfl⟩) (Nat.le_of_ble_eq_true rfl) dL_law_418 ⟨by show cells + 2 ≤ 601024; omega, by show slots + 12 ≤ 7293034; omega⟩ ?_
    refine k9_iload X dL_law_421 5 rfl ?_
    refine k9_icmp_eq (tgt := 428) X dL_law_423 (by decide) (fun _ => ?_) (fun c1 => absurd h5 c1)
    refine k9_iload X dL_law_428 5 rfl ?_
    refine k9_if_ne (tgt := 445) X dL_law_430 (by decide) (fun _ => ?_) (fun c1 => absurd c1 e0)
    refine k9_goto (tgt := 1527) X dL_law_445 (by decide) ?_
    refine k9_sub [0, 1, 2, 3, 4] rfl ?_
    refine k9_widen (k := cells + 4) (n := slots + 24) (by omega) (by omega) ?_
    have h9 := K (k9_ga G 90) m2 hrel
    rw [k9_gv_self] at h9
    exact h9
set_option maxRecDepth 20000 in
theorem lb_tear (X : k9_X p room_1 s m args c A G 9 cL_law wsL_law RL room_1) (hX : va_X b L xs s s.heap) (hbl : b < s.heap.size) (hbA : ¬ A b) (hi : i + 4 ≤ L) (hL : L ≤ 2048) (hrm : cells + 4 ≤ 601024 ∧ slots + 24 ≤ 7293034) (h : op_A l yX6_tear wsX6_tear rm_X6_tear 4 24 yX7_tear wsX7_tear rm_X7_tear (fun G => [.ref (k9_ga G 0), .int (xs (i + 1)), .int (xs (i + 2)), .int (xs (i + 3))]) (fun G => [.ref (k9_ga G 76), .int (xs (i + 1)), .int (xs (i + 2)), .int (xs (i + 3))]) [m9_io, m9_ia, m9_is] M M) (K : ∀ (v : Nat) (M2 : k9_Mem), (∃ B R F U, q9_rel M2 B R F U) → k9_U p l e room_1 s m args below meth c Q A (k9_gv G v) 9 (cells + 4) (slots + 24) M2 1527 (lw_lv G b i) []) : k9_U p l e room_1 s m args below meth c Q A G 9 cells slots M 448 (lw_lv G b i) [] := by
  obtain ⟨x, rv, mv, hC, hx, hn, hs⟩ := h
  refine k9_aload_n X dL_law_448 rfl 1 rfl ?_
  refine k9_aload_n X dL_law_449 rfl 0 rfl ?_
  refine k9_iload X dL_law_450 4 rfl ?_
  refine k9_iconst (v := nI 1) X dL_law_452 (by decide) ?_
  refine k9_iadd X dL_law_453 ?_
  refine k9_sld X hX hbl hbA (j := i + 1) (nI_add i 1) (by omega) hL dL_law_454 ?_
  refine k9_aload_n X dL_law_455 rfl 0 rfl ?_
  refine k9_iload X dL_law_456 4 rfl ?_
  refine k9_iconst (v := nI 2) X dL_law_458 (by decide) ?_
  refine k9_iadd X dL_law_459 ?_
  refine k9_sld X hX hbl hbA (j := i + 2) (nI_add i 2) (by omega) hL dL_law_460 ?_
  refine k9_aload_n X dL_law_461 rfl 0 rfl ?_
  refine k9_iload X dL_law_462 4 rfl ?_
  refine k9_iconst (v := nI 3) X dL_law_464 (by decide) ?_
  refine k9_iadd X dL_law_465 ?_
  refine k9_sld X hX hbl hbA (j := i + 3) (nI_add i 3) (by omega) hL dL_law_466 ?_
  refine k9_aload_n X dL_law_467 rfl 3 rfl ?_
  refine k9_callL (st := []) X (ct_L_tear l G M (xs (i + 1)) (xs (i + 2)) (xs (i + 3)) (hC G) hx) (vx_cwSW 5 X.2.2.2.2.1 gL_law_L_tear rfl rfl rfl (by decide +kernel) ⟨Nat.le_of_ble_eq_true rfl, Nat.le_of_ble_eq_true rfl⟩) rfl rfl (Nat.le_of_ble_eq_true rfl) dL_law_468 ⟨by show cells + 4 ≤ 601024; omega, by show slots + 24 ≤ 7293034; omega⟩ (fun hxn => ?_) (fun hxn => ?_)
  · obtain ⟨m2, hR, h5, hrel⟩ := hn hxn
    have X2 : k9_X p room_1 s m args c A (k9_out G rv) 9 cL_law wsL_law RL room_1 := X
    have e0 : k9_code [m9_io, m9_ia, m9_is] x = 0 := by rw [hxn]; rfl
    rw [e0]
    refine k9_istore (i := 5) X2 dL_law_471 (by decide) [1, 2, 3, 4, 5, 0] rfl ?_
    refine k9_aload_n X2 dL_law_473 rfl 2 rfl ?_
    refine k9_aload_n X2 dL_law_474 rfl 0 rfl ?_
    refine k9_iload X2 dL_law_475 4 rfl ?_
    refine k9_iconst (v := nI 1) X2 dL_law_477 (by decide) ?_
    refine k9_iadd X2 dL_law_478 ?_
    refine k9_sld X2 hX hbl hbA (j := i + 1) (nI_add i 1) (by omega) hL dL_law_479 ?_
    refine k9_aload_n X2 dL_law_480 rfl 0 rfl ?_
    refine k9_iload X2 dL_law_481 4 rfl ?_
    refine k9_iconst (v := nI 2) X2 dL_law_483 (by decide) ?_
    refine k9_iadd X2 dL_law_484 ?_
    refine k9_sld X2 hX hbl hbA (j := i + 2) (nI_add i 2) (by omega) hL dL_law_485 ?_
    refine k9_aload_n X2 dL_law_486 rfl 0 rfl ?_
    refine k9_iload X2 dL_law_487 4 rfl ?_
    refine k9_iconst (v := nI 3) X2 dL_law_489 (by decide) ?_
    refine k9_iadd X2 dL_law_490 ?_
    refine k9_sld X2 hX hbl hbA (j := i + 3) (nI_add i 3) (by omega) hL dL_law_491 ?_
    refine k9_callVi3 X2 (hR (k9_out G rv)) k9_ob_76 (cwV 3 X.2.2.2.2.1 gL_law_X7_tear rfl rfl rfl (by decide +kernel) ⟨Nat.le_of_ble_eq_true rfl, Nat.le_of_ble_eq_true rfl⟩) (Nat.le_of_ble_eq_true rfl) dL_law_492 ⟨by show cells + 4 ≤ 601024; omega, by show slots + 24 ≤ 7293034; omega⟩ ?_
    refine k9_istore (i := 6) X2 dL_law_495 (by decide) [1, 2, 3, 4, 5, 6, 0] rfl ?_
    refine k9_aload_n X2 dL_law_497 rfl 2 rfl ?_
    refine k9_callVi0 X2 (ct_X7_thrown l (k9_out G rv) m2) k9_ob_76 (cwV 0 X.2.2.2.2.1 gL_law_X7_thrown rfl rfl rfl (by decide +kernel) ⟨Nat.le_of_ble_eq_true rfl, Nat.le_of_ble_eq_true rfl⟩) (Nat.le_of_ble_eq_true rfl) dL_law_498 ⟨by show cells + 4 ≤ 601024; omega, by show slots + 24 ≤ 7293034; omega⟩ ?_
    refine k9_iload X2 dL_law_501 5 rfl ?_
    refine k9_icmp_eq (tgt := 508) X2 dL_law_503 (by decide) (fun _ => ?_) (fun c1 => absurd h5 c1)
    refine k9_iload X2 dL_law_508 5 rfl ?_
    refine k9_if_ne (tgt := 525) X2 dL_law_510 (by decide) (fun c1 => absurd rfl c1) (fun _ => ?_)
    refine k9_aload_n X2 dL_law_513 rfl 3 rfl ?_
    refine k9_iconst (v := 0) X2 dL_law_514 (by decide) ?_
    refine k9_lald X2 dL_law_515 ?_
    refine k9_iload X2 dL_law_516 6 rfl ?_
    refine k9_i2l X2 dL_law_518 ?_
    refine k9_lcmp X2 dL_law_519 ?_
    refine k9_if_eq (tgt := 525) X2 dL_law_520 (by decide) (fun _ => ?_) (fun c1 => absurd ((lg_cmp_eq _ _).mpr rfl) c1)
    refine k9_goto (tgt := 1527) X2 dL_law_525 (by decide) ?_
    refine k9_sub [0, 1, 2, 3, 4] rfl ?_
    refine k9_widen (k := cells + 4) (n := slots + 24) (by omega) (by omega) ?_
    exact K _ m2 hrel
  · obtain ⟨E, hE⟩ : ∃ E, x = some E := by
      cases x with
      | none => exact absurd rfl hxn
      | some E => exact ⟨E, rfl⟩
    obtain ⟨bv, m2, hR, h5, hrel⟩ := hs E hE
    have e0 : ¬ k9_code [m9_io, m9_ia, m9_is] x = 0 := by rw [hE]; exact op_cne (hx E hE) (by decide)
    refine k9_istore (i := 5) X dL_law_471 (by decide) [1, 2, 3, 4, 5, 0] rfl ?_
    refine k9_aload_n X dL_law_473 rfl 2 rfl ?_
    refine k9_aload_n X dL_law_474 rfl 0 rfl ?_
    refine k9_iload X dL_law_475 4 rfl ?_
    refine k9_iconst (v := nI 1) X dL_law_477 (by decide) ?_
    refine k9_iadd X dL_law_478 ?_
    refine k9_sld X hX hbl hbA (j := i + 1) (nI_add i 1) (by omega) hL dL_law_479 ?_
    refine k9_aload_n X dL_law_480 rfl 0 rfl ?_
    refine k9_iload X dL_law_481 4 rfl ?_
    refine k9_iconst (v := nI 2) X dL_law_483 (by decide) ?_
    refine k9_iadd X dL_law_484 ?_
    refine k9_sld X hX hbl hbA (j := i + 2) (nI_add i 2) (by omega) hL dL_law_485 ?_
    refine k9_aload_n X dL_law_486 rfl 0 rfl ?_
    refine k9_iload X dL_law_487 4 rfl ?_
    refine k9_iconst (v := nI 3) X dL_law_489 (by decide) ?_
    refine k9_iadd X dL_law_490 ?_
    refine k9_sld X hX hbl hbA (j := i + 3) (nI_add i 3) (by omega) hL dL_law_491 ?_
    refine k9_callVi3 X (hR G) k9_ob_76 (cwV 3 X.2.2.2.2.1 gL_law_X7_tear rfl rfl rfl (by decide +kernel) ⟨Nat.le_of_ble_eq_true rfl, Nat.le_of_ble_eq_true rfl⟩) (Nat.le_of_ble_eq_true rfl) dL_law_492 ⟨by show cells + 4 ≤ 601024; omega, by show slots + 24 ≤ 7293034; omega⟩ ?_
    refine k9_istore (i := 6) X dL_law_495 (by decide) [1, 2, 3, 4, 5, 6, 0] rfl ?_
    refine k9_aload_n X dL_law_497 rfl 2 rfl ?_
    refine k9_callVi0 X (ct_X7_thrown l G m2) k9_ob_76 (cwV 0 X.2.2.2.2.1 gL_law_X7_thrown rfl rfl rfl (by decide +kernel) ⟨Nat.le_of_ble_eq_true rfl, Nat.le_of_ble_eq_true rfl⟩) (Nat.le_of_ble_eq_true rfl) dL_law_498 ⟨by show cells + 4 ≤ 601024; omega, by show slots + 24 ≤ 7293034; omega⟩ ?_
    refine k9_iload X dL_law_501 5 rfl ?_
    refine k9_icmp_eq (tgt := 508) X dL_law_503 (by decide) (fun _ => ?_) (fun c1 => absurd h5 c1)
    refine k9_iload X dL_law_508 5 rfl ?_
    refine k9_if_ne (tgt := 525) X dL_law_510 (by decide) (fun _ => ?_) (fun c1 => absurd c1 e0)
    refine k9_goto (tgt := 1527) X dL_law_525 (by decide) ?_
    refine k9_sub [0, 1, 2, 3, 4] rfl ?_
    refine k9_widen (k := cells + 4) (n := slots + 24) (by omega) (by omega) ?_
    have h9 := K (k9_ga G 90) m2 hrel
    rw [k9_gv_self] at h9
    exact h9
set_option maxRecDepth 20000 in
theorem lb_steer (X : k9_X p room_1 s m args c A G 9 cL_law wsL_law RL room_1) (hX : va_X b L xs s s.heap) (hbl : b < s.heap.size) (hbA : ¬ A b) (hi : i + 4 ≤ L) (hL : L ≤ 2048) (hrm : cells + 4 ≤ 601024 ∧ slots + 24 ≤ 7293034) (h : op_A l yX6_steer wsX6_steer rm_X6_steer 3 18 yX7_steer wsX7_steer rm_X7_steer (fun G => [.ref (k9_ga G 0), .int (xs (i + 1)), .int (xs (i + 2)), .int (xs (i + 3))]) (fun G => [.ref (k9_ga G 76), .int (xs (i + 1)), .int (xs (i + 2)), .int (xs (i + 3))]) [m9_io, m9_ia] M M) (K : ∀ (v : Nat) (M2 : k9_Mem), (∃ B R F U, q9_rel M2 B R F U) → k9_U p l e room_1 s m args below meth c Q A (k9_gv G v) 9 (cells + 4) (slots + 24) M2 1527 (lw_lv G b i) []) : k9_U p l e room_1 s m args below meth c Q A G 9 cells slots M 528 (lw_lv G b i) [] := by
  obtain ⟨x, rv, mv, hC, hx, hn, hs⟩ := h
  refine k9_aload_n X dL_law_528 rfl 1 rfl ?_
  refine k9_aload_n X dL_law_529 rfl 0 rfl ?_
  refine k9_iload X dL_law_530 4 rfl ?_
  refine k9_iconst (v := nI 1) X dL_law_532 (by decide) ?_
  refine k9_iadd X dL_law_533 ?_
  refine k9_sld X hX hbl hbA (j := i + 1) (nI_add i 1) (by omega) hL dL_law_534 ?_
  refine k9_aload_n X dL_law_535 rfl 0 rfl ?_
  refine k9_iload X dL_law_536 4 rfl ?_
  refine k9_iconst (v := nI 2) X dL_law_538 (by decide) ?_
  refine k9_iadd X dL_law_539 ?_
  refine k9_sld X hX hbl hbA (j := i + 2) (nI_add i 2) (by omega) hL dL_law_540 ?_
  refine k9_aload_n X dL_law_541 rfl 0 rfl ?_
  refine k9_iload X dL_law_542 4 rfl ?_
  refine k9_iconst (v := nI 3) X dL_law_544 (by decide) ?_
  refine k9_iadd X dL_law_545 ?_
  refine k9_sld X hX hbl hbA (j := i + 3) (nI_add i 3) (by omega) hL dL_law_546 ?_
  refine k9_aload_n X dL_law_547 rfl 3 rfl ?_
  refine k9_callL (st := []) X (ct_L_steer l G M (xs (i + 1)) (xs (i + 2)) (xs (i + 3)) (hC G) hx) (vx_cwSW 5 X.2.2.2.2.1 gL_law_L_steer rfl rfl rfl (by decide +kernel) ⟨Nat.le_of_ble_eq_true rfl, Nat.le_of_ble_eq_true rfl⟩) rfl rfl (Nat.le_of_ble_eq_true rfl) dL_law_548 ⟨by show cells + 3 ≤ 601024; omega, by show slots + 18 ≤ 7293034; omega⟩ (fun hxn => ?_) (fun hxn => ?_)
  · obtain ⟨m2, hR, h5, hrel⟩ := hn hxn
    have X2 : k9_X p room_1 s m args c A (k9_out G rv) 9 cL_law wsL_law RL room_1 := X
    have e0 : k9_code [m9_io, m9_ia] x = 0 := by rw [hxn]; rfl
    rw [e0]
    refine k9_istore (i := 5) X2 dL_law_551 (by decide) [1, 2, 3, 4, 5, 0] rfl ?_
    refine k9_aload_n X2 dL_law_553 rfl 2 rfl ?_
    refine k9_aload_n X2 dL_law_554 rfl 0 rfl ?_
    refine k9_iload X2 dL_law_555 4 rfl ?_
    refine k9_iconst (v := nI 1) X2 dL_law_557 (by decide) ?_
    refine k9_iadd X2 dL_law_558 ?_
    refine k9_sld X2 hX hbl hbA (j := i + 1) (nI_add i 1) (by omega) hL dL_law_559 ?_
    refine k9_aload_n X2 dL_law_560 rfl 0 rfl ?_
    refine k9_iload X2 dL_law_561 4 rfl ?_
    refine k9_iconst (v := nI 2) X2 dL_law_563 (by decide) ?_
    refine k9_iadd X2 dL_law_564 ?_
    refine k9_sld X2 hX hbl hbA (j := i + 2) (nI_add i 2) (by omega) hL dL_law_565 ?_
    refine k9_aload_n X2 dL_law_566 rfl 0 rfl ?_
    refine k9_iload X2 dL_law_567 4 rfl ?_
    refine k9_iconst (v := nI 3) X2 dL_law_569 (by decide) ?_
    refine k9_iadd X2 dL_law_570 ?_
    refine k9_sld X2 hX hbl hbA (j := i + 3) (nI_add i 3) (by omega) hL dL_law_571 ?_
    refine k9_callVi3 X2 (hR (k9_out G rv)) k9_ob_76 (cwV 3 X.2.2.2.2.1 gL_law_X7_steer rfl rfl rfl (by decide +kernel) ⟨Nat.le_of_ble_eq_true rfl, Nat.le_of_ble_eq_true rfl⟩) (Nat.le_of_ble_eq_true rfl) dL_law_572 ⟨by show cells + 3 ≤ 601024; omega, by show slots + 18 ≤ 7293034; omega⟩ ?_
    refine k9_istore (i := 6) X2 dL_law_575 (by decide) [1, 2, 3, 4, 5, 6, 0] rfl ?_
    refine k9_aload_n X2 dL_law_577 rfl 2 rfl ?_
    refine k9_callVi0 X2 (ct_X7_thrown l (k9_out G rv) m2) k9_ob_76 (cwV 0 X.2.2.2.2.1 gL_law_X7_thrown rfl rfl rfl (by decide +kernel) ⟨Nat.le_of_ble_eq_true rfl, Nat.le_of_ble_eq_true rfl⟩) (Nat.le_of_ble_eq_true rfl) dL_law_578 ⟨by show cells + 3 ≤ 601024; omega, by show slots + 18 ≤ 7293034; omega⟩ ?_
    refine k9_iload X2 dL_law_581 5 rfl ?_
    refine k9_icmp_eq (tgt := 588) X2 dL_law_583 (by decide) (fun _ => ?_) (fun c1 => absurd h5 c1)
    refine k9_iload X2 dL_law_588 5 rfl ?_
    refine k9_if_ne (tgt := 605) X2 dL_law_590 (by decide) (fun c1 => absurd rfl c1) (fun _ => ?_)
    refine k9_aload_n X2 dL_law_593 rfl 3 rfl ?_
    refine k9_iconst (v := 0) X2 dL_law_594 (by decide) ?_
    refine k9_lald X2 dL_law_595 ?_
    refine k9_iload X2 dL_law_596 6 rfl ?_
    refine k9_i2l X2 dL_law_598 ?_
    refine k9_lcmp X2 dL_law_599 ?_
    refine k9_if_eq (tgt := 605) X2 dL_law_600 (by decide) (fun _ => ?_) (fun c1 => absurd ((lg_cmp_eq _ _).mpr rfl) c1)
    refine k9_goto (tgt := 1527) X2 dL_law_605 (by decide) ?_
    refine k9_sub [0, 1, 2, 3, 4] rfl ?_
    refine k9_widen (k := cells + 4) (n := slots + 24) (by omega) (by omega) ?_
    exact K _ m2 hrel
  · obtain ⟨E, hE⟩ : ∃ E, x = some E := by
      cases x with
      | none => exact absurd rfl hxn
      | some E => exact ⟨E, rfl⟩
    obtain ⟨bv, m2, hR, h5, hrel⟩ := hs E hE
    have e0 : ¬ k9_code [m9_io, m9_ia] x = 0 := by rw [hE]; exact op_cne (hx E hE) (by decide)
    refine k9_istore (i := 5) X dL_law_551 (by decide) [1, 2, 3, 4, 5, 0] rfl ?_
    refine k9_aload_n X dL_law_553 rfl 2 rfl ?_
    refine k9_aload_n X dL_law_554 rfl 0 rfl ?_
    refine k9_iload X dL_law_555 4 rfl ?_
    refine k9_iconst (v := nI 1) X dL_law_557 (by decide) ?_
    refine k9_iadd X dL_law_558 ?_
    refine k9_sld X hX hbl hbA (j := i + 1) (nI_add i 1) (by omega) hL dL_law_559 ?_
    refine k9_aload_n X dL_law_560 rfl 0 rfl ?_
    refine k9_iload X dL_law_561 4 rfl ?_
    refine k9_iconst (v := nI 2) X dL_law_563 (by decide) ?_
    refine k9_iadd X dL_law_564 ?_
    refine k9_sld X hX hbl hbA (j := i + 2) (nI_add i 2) (by omega) hL dL_law_565 ?_
    refine k9_aload_n X dL_law_566 rfl 0 rfl ?_
    refine k9_iload X dL_law_567 4 rfl ?_
    refine k9_iconst (v := nI 3) X dL_law_569 (by decide) ?_
    refine k9_iadd X dL_law_570 ?_
    refine k9_sld X hX hbl hbA (j := i + 3) (nI_add i 3) (by omega) hL dL_law_571 ?_
    refine k9_callVi3 X (hR G) k9_ob_76 (cwV 3 X.2.2.2.2.1 gL_law_X7_steer rfl rfl rfl (by decide +kernel) ⟨Nat.le_of_ble_eq_true rfl, Nat.le_of_ble_eq_true rfl⟩) (Nat.le_of_ble_eq_true rfl) dL_law_572 ⟨by show cells + 3 ≤ 601024; omega, by show slots + 18 ≤ 7293034; omega⟩ ?_
    refine k9_istore (i := 6) X dL_law_575 (by decide) [1, 2, 3, 4, 5, 6, 0] rfl ?_
    refine k9_aload_n X dL_law_577 rfl 2 rfl ?_
    refine k9_callVi0 X (ct_X7_thrown l G m2) k9_ob_76 (cwV 0 X.2.2.2.2.1 gL_law_X7_thrown rfl rfl rfl (by decide +kernel) ⟨Nat.le_of_ble_eq_true rfl, Nat.le_of_ble_eq_true rfl⟩) (Nat.le_of_ble_eq_true rfl) dL_law_578 ⟨by show cells + 3 ≤ 601024; omega, by show slots + 18 ≤ 7293034; omega⟩ ?_
    refine k9_iload X dL_law_581 5 rfl ?_
    refine k9_icmp_eq (tgt := 588) X dL_law_583 (by decide) (fun _ => ?_) (fun c1 => absurd h5 c1)
    refine k9_iload X dL_law_588 5 rfl ?_
    refine k9_if_ne (tgt := 605) X dL_law_590 (by decide) (fun _ => ?_) (fun c1 => absurd c1 e0)
    refine k9_goto (tgt := 1527) X dL_law_605 (by decide) ?_
    refine k9_sub [0, 1, 2, 3, 4] rfl ?_
    refine k9_widen (k := cells + 4) (n := slots + 24) (by omega) (by omega) ?_
    have h9 := K (k9_ga G 90) m2 hrel
    rw [k9_gv_self] at h9
    exact h9
set_option maxRecDepth 20000 in
theorem lb_set (X : k9_X p room_1 s m args c A G 9 cL_law wsL_law RL room_1) (hX : va_X b L xs s s.heap) (hbl : b < s.heap.size) (hbA : ¬ A b) (hi : i + 4 ≤ L) (hL : L ≤ 2048) (hrm : cells + 4 ≤ 601024 ∧ slots + 24 ≤ 7293034) (h : op_A l yX6_set wsX6_set rm_X6_set 2 12 yX7_set wsX7_set rm_X7_set (fun G => [.ref (k9_ga G 0), .int (xs (i + 1)), .int (xs (i + 2))]) (fun G => [.ref (k9_ga G 76), .int (xs (i + 1)), .int (xs (i + 2))]) [m9_io, m9_ia] M M) (K : ∀ (v : Nat) (M2 : k9_Mem), (∃ B R F U, q9_rel M2 B R F U) → k9_U p l e room_1 s m args below meth c Q A (k9_gv G v) 9 (cells + 4) (slots + 24) M2 1527 (lw_lv G b i) []) : k9_U p l e room_1 s m args below meth c Q A G 9 cells slots M 608 (lw_lv G b i) [] := by
  obtain ⟨x, rv, mv, hC, hx, hn, hs⟩ := h
  refine k9_aload_n X dL_law_608 rfl 1 rfl ?_
  refine k9_aload_n X dL_law_609 rfl 0 rfl ?_
  refine k9_iload X dL_law_610 4 rfl ?_
  refine k9_iconst (v := nI 1) X dL_law_612 (by decide) ?_
  refine k9_iadd X dL_law_613 ?_
  refine k9_sld X hX hbl hbA (j := i + 1) (nI_add i 1) (by omega) hL dL_law_614 ?_
  refine k9_aload_n X dL_law_615 rfl 0 rfl ?_
  refine k9_iload X dL_law_616 4 rfl ?_
  refine k9_iconst (v := nI 2) X dL_law_618 (by decide) ?_
  refine k9_iadd X dL_law_619 ?_
  refine k9_sld X hX hbl hbA (j := i + 2) (nI_add i 2) (by omega) hL dL_law_620 ?_
  refine k9_aload_n X dL_law_621 rfl 3 rfl ?_
  refine k9_callL (st := []) X (ct_L_set l G M (xs (i + 1)) (xs (i + 2)) (hC G) hx) (vx_cwSW 4 X.2.2.2.2.1 gL_law_L_set rfl rfl rfl (by decide +kernel) ⟨Nat.le_of_ble_eq_true rfl, Nat.le_of_ble_eq_true rfl⟩) rfl rfl (Nat.le_of_ble_eq_true rfl) dL_law_622 ⟨by show cells + 2 ≤ 601024; omega, by show slots + 12 ≤ 7293034; omega⟩ (fun hxn => ?_) (fun hxn => ?_)
  · obtain ⟨m2, hR, h5, hrel⟩ := hn hxn
    have X2 : k9_X p room_1 s m args c A (k9_out G rv) 9 cL_law wsL_law RL room_1 := X
    have e0 : k9_code [m9_io, m9_ia] x = 0 := by rw [hxn]; rfl
    rw [e0]
    refine k9_istore (i := 5) X2 dL_law_625 (by decide) [1, 2, 3, 4, 5, 0] rfl ?_
    refine k9_aload_n X2 dL_law_627 rfl 2 rfl ?_
    refine k9_aload_n X2 dL_law_628 rfl 0 rfl ?_
    refine k9_iload X2 dL_law_629 4 rfl ?_
    refine k9_iconst (v := nI 1) X2 dL_law_631 (by decide) ?_
    refine k9_iadd X2 dL_law_632 ?_
    refine k9_sld X2 hX hbl hbA (j := i + 1) (nI_add i 1) (by omega) hL dL_law_633 ?_
    refine k9_aload_n X2 dL_law_634 rfl 0 rfl ?_
    refine k9_iload X2 dL_law_635 4 rfl ?_
    refine k9_iconst (v := nI 2) X2 dL_law_637 (by decide) ?_
    refine k9_iadd X2 dL_law_638 ?_
    refine k9_sld X2 hX hbl hbA (j := i + 2) (nI_add i 2) (by omega) hL dL_law_639 ?_
    refine k9_callVi2 X2 (hR (k9_out G rv)) k9_ob_76 (cwV 2 X.2.2.2.2.1 gL_law_X7_set rfl rfl rfl (by decide +kernel) ⟨Nat.le_of_ble_eq_true rfl, Nat.le_of_ble_eq_true rfl⟩) (Nat.le_of_ble_eq_true rfl) dL_law_640 ⟨by show cells + 2 ≤ 601024; omega, by show slots + 12 ≤ 7293034; omega⟩ ?_
    refine k9_istore (i := 6) X2 dL_law_643 (by decide) [1, 2, 3, 4, 5, 6, 0] rfl ?_
    refine k9_aload_n X2 dL_law_645 rfl 2 rfl ?_
    refine k9_callVi0 X2 (ct_X7_thrown l (k9_out G rv) m2) k9_ob_76 (cwV 0 X.2.2.2.2.1 gL_law_X7_thrown rfl rfl rfl (by decide +kernel) ⟨Nat.le_of_ble_eq_true rfl, Nat.le_of_ble_eq_true rfl⟩) (Nat.le_of_ble_eq_true rfl) dL_law_646 ⟨by show cells + 2 ≤ 601024; omega, by show slots + 12 ≤ 7293034; omega⟩ ?_
    refine k9_iload X2 dL_law_649 5 rfl ?_
    refine k9_icmp_eq (tgt := 656) X2 dL_law_651 (by decide) (fun _ => ?_) (fun c1 => absurd h5 c1)
    refine k9_iload X2 dL_law_656 5 rfl ?_
    refine k9_if_ne (tgt := 673) X2 dL_law_658 (by decide) (fun c1 => absurd rfl c1) (fun _ => ?_)
    refine k9_aload_n X2 dL_law_661 rfl 3 rfl ?_
    refine k9_iconst (v := 0) X2 dL_law_662 (by decide) ?_
    refine k9_lald X2 dL_law_663 ?_
    refine k9_iload X2 dL_law_664 6 rfl ?_
    refine k9_i2l X2 dL_law_666 ?_
    refine k9_lcmp X2 dL_law_667 ?_
    refine k9_if_eq (tgt := 673) X2 dL_law_668 (by decide) (fun _ => ?_) (fun c1 => absurd ((lg_cmp_eq _ _).mpr rfl) c1)
    refine k9_goto (tgt := 1527) X2 dL_law_673 (by decide) ?_
    refine k9_sub [0, 1, 2, 3, 4] rfl ?_
    refine k9_widen (k := cells + 4) (n := slots + 24) (by omega) (by omega) ?_
    exact K _ m2 hrel
  · obtain ⟨E, hE⟩ : ∃ E, x = some E := by
      cases x with
      | none => exact absurd rfl hxn
      | some E => exact ⟨E, rfl⟩
    obtain ⟨bv, m2, hR, h5, hrel⟩ := hs E hE
    have e0 : ¬ k9_code [m9_io, m9_ia] x = 0 := by rw [hE]; exact op_cne (hx E hE) (by decide)
    refine k9_istore (i := 5) X dL_law_625 (by decide) [1, 2, 3, 4, 5, 0] rfl ?_
    refine k9_aload_n X dL_law_627 rfl 2 rfl ?_
    refine k9_aload_n X dL_law_628 rfl 0 rfl ?_
    refine k9_iload X dL_law_629 4 rfl ?_
    refine k9_iconst (v := nI 1) X dL_law_631 (by decide) ?_
    refine k9_iadd X dL_law_632 ?_
    refine k9_sld X hX hbl hbA (j := i + 1) (nI_add i 1) (by omega) hL dL_law_633 ?_
    refine k9_aload_n X dL_law_634 rfl 0 rfl ?_
    refine k9_iload X dL_law_635 4 rfl ?_
    refine k9_iconst (v := nI 2) X dL_law_637 (by decide) ?_
    refine k9_iadd X dL_law_638 ?_
    refine k9_sld X hX hbl hbA (j := i + 2) (nI_add i 2) (by omega) hL dL_law_639 ?_
    refine k9_callVi2 X (hR G) k9_ob_76 (cwV 2 X.2.2.2.2.1 gL_law_X7_set rfl rfl rfl (by decide +kernel) ⟨Nat.le_of_ble_eq_true rfl, Nat.le_of_ble_eq_true rfl⟩) (Nat.le_of_ble_eq_true rfl) dL_law_640 ⟨by show cells + 2 ≤ 601024; omega, by show slots + 12 ≤ 7293034; omega⟩ ?_
    refine k9_istore (i := 6) X dL_law_643 (by decide) [1, 2, 3, 4, 5, 6, 0] rfl ?_
    refine k9_aload_n X dL_law_645 rfl 2 rfl ?_
    refine k9_callVi0 X (ct_X7_thrown l G m2) k9_ob_76 (cwV 0 X.2.2.2.2.1 gL_law_X7_thrown rfl rfl rfl (by decide +kernel) ⟨Nat.le_of_ble_eq_true rfl, Nat.le_of_ble_eq_true rfl⟩) (Nat.le_of_ble_eq_true rfl) dL_law_646 ⟨by show cells + 2 ≤ 601024; omega, by show slots + 12 ≤ 7293034; omega⟩ ?_
    refine k9_iload X dL_law_649 5 rfl ?_
    refine k9_icmp_eq (tgt := 656) X dL_law_651 (by decide) (fun _ => ?_) (fun c1 => absurd h5 c1)
    refine k9_iload X dL_law_656 5 rfl ?_
    refine k9_if_ne (tgt := 673) X dL_law_658 (by decide) (fun _ => ?_) (fun c1 => absurd c1 e0)
    refine k9_goto (tgt := 1527) X dL_law_673 (by decide) ?_
    refine k9_sub [0, 1, 2, 3, 4] rfl ?_
    refine k9_widen (k := cells + 4) (n := slots + 24) (by omega) (by omega) ?_
    have h9 := K (k9_ga G 90) m2 hrel
    rw [k9_gv_self] at h9
    exact h9
set_option maxRecDepth 20000 in
theorem lb_learn (X : k9_X p room_1 s m args c A G 9 cL_law wsL_law RL room_1) (hrm : cells + 4 ≤ 601024 ∧ slots + 24 ≤ 7293034) (h : op_B l yX6_learn wsX6_learn rm_X6_learn yX7_learn wsX7_learn rm_X7_learn M) (K : ∀ (v : Nat) (M2 : k9_Mem), (∃ B R F U, q9_rel M2 B R F U) → k9_U p l e room_1 s m args below meth c Q A (k9_gv G v) 9 (cells + 4) (slots + 24) M2 1527 (lw_lv G b i) []) : k9_U p l e room_1 s m args below meth c Q A G 9 cells slots M 676 (lw_lv G b i) [] := by
  obtain ⟨rv, mv, m2, hC, hR, hrel⟩ := h
  refine k9_aload_n X dL_law_676 rfl 1 rfl ?_
  refine k9_callVi0 X (hC G) k9_ob_0 (cwV 0 X.2.2.2.2.1 gL_law_X6_learn rfl rfl rfl (by decide +kernel) ⟨Nat.le_of_ble_eq_true rfl, Nat.le_of_ble_eq_true rfl⟩) (Nat.le_of_ble_eq_true rfl) dL_law_677 ⟨by show cells ≤ 601024; omega, by show slots ≤ 7293034; omega⟩ ?_
  refine k9_aload_n X dL_law_680 rfl 2 rfl ?_
  refine k9_callVi0 X (hR G) k9_ob_76 (cwV 0 X.2.2.2.2.1 gL_law_X7_learn rfl rfl rfl (by decide +kernel) ⟨Nat.le_of_ble_eq_true rfl, Nat.le_of_ble_eq_true rfl⟩) (Nat.le_of_ble_eq_true rfl) dL_law_681 ⟨by show cells ≤ 601024; omega, by show slots ≤ 7293034; omega⟩ ?_
  refine k9_icmp_eq (tgt := 1527) X dL_law_684 (by decide) (fun _ => ?_) (fun c1 => absurd rfl c1)
  refine k9_sub [0, 1, 2, 3, 4] rfl ?_
  refine k9_widen (k := cells + 4) (n := slots + 24) (by omega) (by omega) ?_
  have h9 := K (k9_ga G 90) m2 hrel
  rw [k9_gv_self] at h9
  exact h9
set_option maxRecDepth 20000 in
theorem lb_append (X : k9_X p room_1 s m args c A G 9 cL_law wsL_law RL room_1) (hX : va_X b L xs s s.heap) (hbl : b < s.heap.size) (hbA : ¬ A b) (hi : i + 4 ≤ L) (hL : L ≤ 2048) (hrm : cells + 4 ≤ 601024 ∧ slots + 24 ≤ 7293034) (h : op_A l yX6_append wsX6_append rm_X6_append 2 12 yX7_append wsX7_append rm_X7_append (fun G => [.ref (k9_ga G 0), .int (xs (i + 1))]) (fun G => [.ref (k9_ga G 76), .int (xs (i + 1))]) [m9_ia, m9_is] M M) (K : ∀ (v : Nat) (M2 : k9_Mem), (∃ B R F U, q9_rel M2 B R F U) → k9_U p l e room_1 s m args below meth c Q A (k9_gv G v) 9 (cells + 4) (slots + 24) M2 1527 (lw_lv G b i) []) : k9_U p l e room_1 s m args below meth c Q A G 9 cells slots M 689 (lw_lv G b i) [] := by
  obtain ⟨x, rv, mv, hC, hx, hn, hs⟩ := h
  refine k9_aload_n X dL_law_689 rfl 1 rfl ?_
  refine k9_aload_n X dL_law_690 rfl 0 rfl ?_
  refine k9_iload X dL_law_691 4 rfl ?_
  refine k9_iconst (v := nI 1) X dL_law_693 (by decide) ?_
  refine k9_iadd X dL_law_694 ?_
  refine k9_sld X hX hbl hbA (j := i + 1) (nI_add i 1) (by omega) hL dL_law_695 ?_
  refine k9_aload_n X dL_law_696 rfl 3 rfl ?_
  refine k9_callL (st := []) X (ct_L_append l G M (xs (i + 1)) (hC G) hx) (vx_cwSW 3 X.2.2.2.2.1 gL_law_L_append rfl rfl rfl (by decide +kernel) ⟨Nat.le_of_ble_eq_true rfl, Nat.le_of_ble_eq_true rfl⟩) rfl rfl (Nat.le_of_ble_eq_true rfl) dL_law_697 ⟨by show cells + 2 ≤ 601024; omega, by show slots + 12 ≤ 7293034; omega⟩ (fun hxn => ?_) (fun hxn => ?_)
  · obtain ⟨m2, hR, h5, hrel⟩ := hn hxn
    have X2 : k9_X p room_1 s m args c A (k9_out G rv) 9 cL_law wsL_law RL room_1 := X
    have e0 : k9_code [m9_ia, m9_is] x = 0 := by rw [hxn]; rfl
    rw [e0]
    refine k9_istore (i := 5) X2 dL_law_700 (by decide) [1, 2, 3, 4, 5, 0] rfl ?_
    refine k9_aload_n X2 dL_law_702 rfl 2 rfl ?_
    refine k9_aload_n X2 dL_law_703 rfl 0 rfl ?_
    refine k9_iload X2 dL_law_704 4 rfl ?_
    refine k9_iconst (v := nI 1) X2 dL_law_706 (by decide) ?_
    refine k9_iadd X2 dL_law_707 ?_
    refine k9_sld X2 hX hbl hbA (j := i + 1) (nI_add i 1) (by omega) hL dL_law_708 ?_
    refine k9_callVi1 X2 (hR (k9_out G rv)) k9_ob_76 (cwV 1 X.2.2.2.2.1 gL_law_X7_append rfl rfl rfl (by decide +kernel) ⟨Nat.le_of_ble_eq_true rfl, Nat.le_of_ble_eq_true rfl⟩) (Nat.le_of_ble_eq_true rfl) dL_law_709 ⟨by show cells + 2 ≤ 601024; omega, by show slots + 12 ≤ 7293034; omega⟩ ?_
    refine k9_istore (i := 6) X2 dL_law_712 (by decide) [1, 2, 3, 4, 5, 6, 0] rfl ?_
    refine k9_aload_n X2 dL_law_714 rfl 2 rfl ?_
    refine k9_callVi0 X2 (ct_X7_thrown l (k9_out G rv) m2) k9_ob_76 (cwV 0 X.2.2.2.2.1 gL_law_X7_thrown rfl rfl rfl (by decide +kernel) ⟨Nat.le_of_ble_eq_true rfl, Nat.le_of_ble_eq_true rfl⟩) (Nat.le_of_ble_eq_true rfl) dL_law_715 ⟨by show cells + 2 ≤ 601024; omega, by show slots + 12 ≤ 7293034; omega⟩ ?_
    refine k9_iload X2 dL_law_718 5 rfl ?_
    refine k9_icmp_eq (tgt := 725) X2 dL_law_720 (by decide) (fun _ => ?_) (fun c1 => absurd h5 c1)
    refine k9_iload X2 dL_law_725 5 rfl ?_
    refine k9_if_ne (tgt := 742) X2 dL_law_727 (by decide) (fun c1 => absurd rfl c1) (fun _ => ?_)
    refine k9_aload_n X2 dL_law_730 rfl 3 rfl ?_
    refine k9_iconst (v := 0) X2 dL_law_731 (by decide) ?_
    refine k9_lald X2 dL_law_732 ?_
    refine k9_iload X2 dL_law_733 6 rfl ?_
    refine k9_i2l X2 dL_law_735 ?_
    refine k9_lcmp X2 dL_law_736 ?_
    refine k9_if_eq (tgt := 742) X2 dL_law_737 (by decide) (fun _ => ?_) (fun c1 => absurd ((lg_cmp_eq _ _).mpr rfl) c1)
    refine k9_goto (tgt := 1527) X2 dL_law_742 (by decide) ?_
    refine k9_sub [0, 1, 2, 3, 4] rfl ?_
    refine k9_widen (k := cells + 4) (n := slots + 24) (by omega) (by omega) ?_
    exact K _ m2 hrel
  · obtain ⟨E, hE⟩ : ∃ E, x = some E := by
      cases x with
      | none => exact absurd rfl hxn
      | some E => exact ⟨E, rfl⟩
    obtain ⟨bv, m2, hR, h5, hrel⟩ := hs E hE
    have e0 : ¬ k9_code [m9_ia, m9_is] x = 0 := by rw [hE]; exact op_cne (hx E hE) (by decide)
    refine k9_istore (i := 5) X dL_law_700 (by decide) [1, 2, 3, 4, 5, 0] rfl ?_
    refine k9_aload_n X dL_law_702 rfl 2 rfl ?_
    refine k9_aload_n X dL_law_703 rfl 0 rfl ?_
    refine k9_iload X dL_law_704 4 rfl ?_
    refine k9_iconst (v := nI 1) X dL_law_706 (by decide) ?_
    refine k9_iadd X dL_law_707 ?_
    refine k9_sld X hX hbl hbA (j := i + 1) (nI_add i 1) (by omega) hL dL_law_708 ?_
    refine k9_callVi1 X (hR G) k9_ob_76 (cwV 1 X.2.2.2.2.1 gL_law_X7_append rfl rfl rfl (by decide +kernel) ⟨Nat.le_of_ble_eq_true rfl, Nat.le_of_ble_eq_true rfl⟩) (Nat.le_of_ble_eq_true rfl) dL_law_709 ⟨by show cells + 2 ≤ 601024; omega, by show slots + 12 ≤ 7293034; omega⟩ ?_
    refine k9_istore (i := 6) X dL_law_712 (by decide) [1, 2, 3, 4, 5, 6, 0] rfl ?_
    refine k9_aload_n X dL_law_714 rfl 2 rfl ?_
    refine k9_callVi0 X (ct_X7_thrown l G m2) k9_ob_76 (cwV 0 X.2.2.2.2.1 gL_law_X7_thrown rfl rfl rfl (by decide +kernel) ⟨Nat.le_of_ble_eq_true rfl, Nat.le_of_ble_eq_true rfl⟩) (Nat.le_of_ble_eq_true rfl) dL_law_715 ⟨by show cells + 2 ≤ 601024; omega, by show slots + 12 ≤ 7293034; omega⟩ ?_
    refine k9_iload X dL_law_718 5 rfl ?_
    refine k9_icmp_eq (tgt := 725) X dL_law_720 (by decide) (fun _ => ?_) (fun c1 => absurd h5 c1)
    refine k9_iload X dL_law_725 5 rfl ?_
    refine k9_if_ne (tgt := 742) X dL_law_727 (by decide) (fun _ => ?_) (fun c1 => absurd c1 e0)
    refine k9_goto (tgt := 1527) X dL_law_742 (by decide) ?_
    refine k9_sub [0, 1, 2, 3, 4] rfl ?_
    refine k9_widen (k := cells + 4) (n := slots + 24) (by omega) (by omega) ?_
    have h9 := K (k9_ga G 90) m2 hrel
    rw [k9_gv_self] at h9
    exact h9
set_option maxRecDepth 20000 in
theorem lb_clearBuffer (X : k9_X p room_1 s m args c A G 9 cL_law wsL_law RL room_1) (hrm : cells + 4 ≤ 601024 ∧ slots + 24 ≤ 7293034) (h : op_B l yX6_clearBuffer wsX6_clearBuffer rm_X6_clearBuffer yX7_clearBuffer wsX7_clearBuffer rm_X7_clearBuffer M) (K : ∀ (v : Nat) (M2 : k9_Mem), (∃ B R F U, q9_rel M2 B R F U) → k9_U p l e room_1 s m args below meth c Q A (k9_gv G v) 9 (cells + 4) (slots + 24) M2 1527 (lw_lv G b i) []) : k9_U p l e room_1 s m args below meth c Q A G 9 cells slots M 745 (lw_lv G b i) [] := by
  obtain ⟨rv, mv, m2, hC, hR, hrel⟩ := h
  refine k9_aload_n X dL_law_745 rfl 1 rfl ?_
  refine k9_callVi0 X (hC G) k9_ob_0 (cwV 0 X.2.2.2.2.1 gL_law_X6_clearBuffer rfl rfl rfl (by decide +kernel) ⟨Nat.le_of_ble_eq_true rfl, Nat.le_of_ble_eq_true rfl⟩) (Nat.le_of_ble_eq_true rfl) dL_law_746 ⟨by show cells ≤ 601024; omega, by show slots ≤ 7293034; omega⟩ ?_
  refine k9_aload_n X dL_law_749 rfl 2 rfl ?_
  refine k9_callVi0 X (hR G) k9_ob_76 (cwV 0 X.2.2.2.2.1 gL_law_X7_clearBuffer rfl rfl rfl (by decide +kernel) ⟨Nat.le_of_ble_eq_true rfl, Nat.le_of_ble_eq_true rfl⟩) (Nat.le_of_ble_eq_true rfl) dL_law_750 ⟨by show cells ≤ 601024; omega, by show slots ≤ 7293034; omega⟩ ?_
  refine k9_icmp_eq (tgt := 1527) X dL_law_753 (by decide) (fun _ => ?_) (fun c1 => absurd rfl c1)
  refine k9_sub [0, 1, 2, 3, 4] rfl ?_
  refine k9_widen (k := cells + 4) (n := slots + 24) (by omega) (by omega) ?_
  have h9 := K (k9_ga G 90) m2 hrel
  rw [k9_gv_self] at h9
  exact h9
set_option maxRecDepth 20000 in
theorem lb_firstError (X : k9_X p room_1 s m args c A G 9 cL_law wsL_law RL room_1) (hrm : cells + 4 ≤ 601024 ∧ slots + 24 ≤ 7293034) (h : op_B l yX6_firstError wsX6_firstError rm_X6_firstError yX7_firstError wsX7_firstError rm_X7_firstError M) (K : ∀ (v : Nat) (M2 : k9_Mem), (∃ B R F U, q9_rel M2 B R F U) → k9_U p l e room_1 s m args below meth c Q A (k9_gv G v) 9 (cells + 4) (slots + 24) M2 1527 (lw_lv G b i) []) : k9_U p l e room_1 s m args below meth c Q A G 9 cells slots M 758 (lw_lv G b i) [] := by
  obtain ⟨rv, mv, m2, hC, hR, hrel⟩ := h
  refine k9_aload_n X dL_law_758 rfl 1 rfl ?_
  refine k9_callVi0 X (hC G) k9_ob_0 (cwV 0 X.2.2.2.2.1 gL_law_X6_firstError rfl rfl rfl (by decide +kernel) ⟨Nat.le_of_ble_eq_true rfl, Nat.le_of_ble_eq_true rfl⟩) (Nat.le_of_ble_eq_true rfl) dL_law_759 ⟨by show cells ≤ 601024; omega, by show slots ≤ 7293034; omega⟩ ?_
  refine k9_aload_n X dL_law_762 rfl 2 rfl ?_
  refine k9_callVi0 X (hR G) k9_ob_76 (cwV 0 X.2.2.2.2.1 gL_law_X7_firstError rfl rfl rfl (by decide +kernel) ⟨Nat.le_of_ble_eq_true rfl, Nat.le_of_ble_eq_true rfl⟩) (Nat.le_of_ble_eq_true rfl) dL_law_763 ⟨by show cells ≤ 601024; omega, by show slots ≤ 7293034; omega⟩ ?_
  refine k9_icmp_eq (tgt := 1527) X dL_law_766 (by decide) (fun _ => ?_) (fun c1 => absurd rfl c1)
  refine k9_sub [0, 1, 2, 3, 4] rfl ?_
  refine k9_widen (k := cells + 4) (n := slots + 24) (by omega) (by omega) ?_
  have h9 := K (k9_ga G 90) m2 hrel
  rw [k9_gv_self] at h9
  exact h9
set_option maxRecDepth 20000 in
theorem lb_punchAll (X : k9_X p room_1 s m args c A G 9 cL_law wsL_law RL room_1) (hX : va_X b L xs s s.heap) (hbl : b < s.heap.size) (hbA : ¬ A b) (hi : i + 4 ≤ L) (hL : L ≤ 2048) (hrm : cells + 4 ≤ 601024 ∧ slots + 24 ≤ 7293034) (h : op_A l yX6_punchAll wsX6_punchAll rm_X6_punchAll 2 12 yX7_punchAll wsX7_punchAll rm_X7_punchAll (fun G => [.ref (k9_ga G 0)]) (fun G => [.ref (k9_ga G 76)]) [m9_ia, m9_is] M mx) (K : ∀ (v : Nat) (M2 : k9_Mem), (∃ B R F U, q9_rel M2 B R F U) → k9_U p l e room_1 s m args below meth c Q A (k9_gv G v) 9 (cells + 4) (slots + 24) M2 1527 (lw_lv G b i) []) : k9_U p l e room_1 s m args below meth c Q A G 9 cells slots M 771 (lw_lv G b i) [] := by
  obtain ⟨x, rv, mv, hC, hx, hn, hs⟩ := h
  refine k9_aload_n X dL_law_771 rfl 1 rfl ?_
  refine k9_aload_n X dL_law_772 rfl 3 rfl ?_
  refine k9_callL (st := []) X (ct_L_punchAll l G M (hC G) hx) (vx_cwSW 2 X.2.2.2.2.1 gL_law_L_punchAll rfl rfl rfl (by decide +kernel) ⟨Nat.le_of_ble_eq_true rfl, Nat.le_of_ble_eq_true rfl⟩) rfl rfl (Nat.le_of_ble_eq_true rfl) dL_law_773 ⟨by show cells + 2 ≤ 601024; omega, by show slots + 12 ≤ 7293034; omega⟩ (fun hxn => ?_) (fun hxn => ?_)
  · obtain ⟨m2, hR, h5, hrel⟩ := hn hxn
    have X2 : k9_X p room_1 s m args c A (k9_out G rv) 9 cL_law wsL_law RL room_1 := X
    have e0 : k9_code [m9_ia, m9_is] x = 0 := by rw [hxn]; rfl
    rw [e0]
    refine k9_istore (i := 5) X2 dL_law_776 (by decide) [1, 2, 3, 4, 5, 0] rfl ?_
    refine k9_aload_n X2 dL_law_778 rfl 2 rfl ?_
    refine k9_callVi0 X2 (hR (k9_out G rv)) k9_ob_76 (cwV 0 X.2.2.2.2.1 gL_law_X7_punchAll rfl rfl rfl (by decide +kernel) ⟨Nat.le_of_ble_eq_true rfl, Nat.le_of_ble_eq_true rfl⟩) (Nat.le_of_ble_eq_true rfl) dL_law_779 ⟨by show cells + 2 ≤ 601024; omega, by show slots + 12 ≤ 7293034; omega⟩ ?_
    refine k9_istore (i := 6) X2 dL_law_782 (by decide) [1, 2, 3, 4, 5, 6, 0] rfl ?_
    refine k9_aload_n X2 dL_law_784 rfl 2 rfl ?_
    refine k9_callVi0 X2 (ct_X7_thrown l (k9_out G rv) m2) k9_ob_76 (cwV 0 X.2.2.2.2.1 gL_law_X7_thrown rfl rfl rfl (by decide +kernel) ⟨Nat.le_of_ble_eq_true rfl, Nat.le_of_ble_eq_true rfl⟩) (Nat.le_of_ble_eq_true rfl) dL_law_785 ⟨by show cells + 2 ≤ 601024; omega, by show slots + 12 ≤ 7293034; omega⟩ ?_
    refine k9_iload X2 dL_law_788 5 rfl ?_
    refine k9_icmp_eq (tgt := 795) X2 dL_law_790 (by decide) (fun _ => ?_) (fun c1 => absurd h5 c1)
    refine k9_iload X2 dL_law_795 5 rfl ?_
    refine k9_if_ne (tgt := 812) X2 dL_law_797 (by decide) (fun c1 => absurd rfl c1) (fun _ => ?_)
    refine k9_aload_n X2 dL_law_800 rfl 3 rfl ?_
    refine k9_iconst (v := 0) X2 dL_law_801 (by decide) ?_
    refine k9_lald X2 dL_law_802 ?_
    refine k9_iload X2 dL_law_803 6 rfl ?_
    refine k9_i2l X2 dL_law_805 ?_
    refine k9_lcmp X2 dL_law_806 ?_
    refine k9_if_eq (tgt := 812) X2 dL_law_807 (by decide) (fun _ => ?_) (fun c1 => absurd ((lg_cmp_eq _ _).mpr rfl) c1)
    refine k9_goto (tgt := 1527) X2 dL_law_812 (by decide) ?_
    refine k9_sub [0, 1, 2, 3, 4] rfl ?_
    refine k9_widen (k := cells + 4) (n := slots + 24) (by omega) (by omega) ?_
    exact K _ m2 hrel
  · obtain ⟨E, hE⟩ : ∃ E, x = some E := by
      cases x with
      | none => exact absurd rfl hxn
      | some E => exact ⟨E, rfl⟩
    obtain ⟨bv, m2, hR, h5, hrel⟩ := hs E hE
    have e0 : ¬ k9_code [m9_ia, m9_is] x = 0 := by rw [hE]; exact op_cne (hx E hE) (by decide)
    refine k9_istore (i := 5) X dL_law_776 (by decide) [1, 2, 3, 4, 5, 0] rfl ?_
    refine k9_aload_n X dL_law_778 rfl 2 rfl ?_
    refine k9_callVi0 X (hR G) k9_ob_76 (cwV 0 X.2.2.2.2.1 gL_law_X7_punchAll rfl rfl rfl (by decide +kernel) ⟨Nat.le_of_ble_eq_true rfl, Nat.le_of_ble_eq_true rfl⟩) (Nat.le_of_ble_eq_true rfl) dL_law_779 ⟨by show cells + 2 ≤ 601024; omega, by show slots + 12 ≤ 7293034; omega⟩ ?_
    refine k9_istore (i := 6) X dL_law_782 (by decide) [1, 2, 3, 4, 5, 6, 0] rfl ?_
    refine k9_aload_n X dL_law_784 rfl 2 rfl ?_
    refine k9_callVi0 X (ct_X7_thrown l G m2) k9_ob_76 (cwV 0 X.2.2.2.2.1 gL_law_X7_thrown rfl rfl rfl (by decide +kernel) ⟨Nat.le_of_ble_eq_true rfl, Nat.le_of_ble_eq_true rfl⟩) (Nat.le_of_ble_eq_true rfl) dL_law_785 ⟨by show cells + 2 ≤ 601024; omega, by show slots + 12 ≤ 7293034; omega⟩ ?_
    refine k9_iload X dL_law_788 5 rfl ?_
    refine k9_icmp_eq (tgt := 795) X dL_law_790 (by decide) (fun _ => ?_) (fun c1 => absurd h5 c1)
    refine k9_iload X dL_law_795 5 rfl ?_
    refine k9_if_ne (tgt := 812) X dL_law_797 (by decide) (fun _ => ?_) (fun c1 => absurd c1 e0)
    refine k9_goto (tgt := 1527) X dL_law_812 (by decide) ?_
    refine k9_sub [0, 1, 2, 3, 4] rfl ?_
    refine k9_widen (k := cells + 4) (n := slots + 24) (by omega) (by omega) ?_
    have h9 := K (k9_ga G 90) m2 hrel
    rw [k9_gv_self] at h9
    exact h9
set_option maxRecDepth 20000 in
theorem lb_undo (X : k9_X p room_1 s m args c A G 9 cL_law wsL_law RL room_1) (hX : va_X b L xs s s.heap) (hbl : b < s.heap.size) (hbA : ¬ A b) (hi : i + 4 ≤ L) (hL : L ≤ 2048) (hrm : cells + 4 ≤ 601024 ∧ slots + 24 ≤ 7293034) (h : op_A l yX6_undo wsX6_undo rm_X6_undo 1 6 yX7_undo wsX7_undo rm_X7_undo (fun G => [.ref (k9_ga G 0)]) (fun G => [.ref (k9_ga G 76)]) [m9_is] M M) (K : ∀ (v : Nat) (M2 : k9_Mem), (∃ B R F U, q9_rel M2 B R F U) → k9_U p l e room_1 s m args below meth c Q A (k9_gv G v) 9 (cells + 4) (slots + 24) M2 1527 (lw_lv G b i) []) : k9_U p l e room_1 s m args below meth c Q A G 9 cells slots M 815 (lw_lv G b i) [] := by
  obtain ⟨x, rv, mv, hC, hx, hn, hs⟩ := h
  refine k9_aload_n X dL_law_815 rfl 1 rfl ?_
  refine k9_aload_n X dL_law_816 rfl 3 rfl ?_
  refine k9_callL (st := []) X (ct_L_undo l G M (hC G) hx) (vx_cwSW 2 X.2.2.2.2.1 gL_law_L_undo rfl rfl rfl (by decide +kernel) ⟨Nat.le_of_ble_eq_true rfl, Nat.le_of_ble_eq_true rfl⟩) rfl rfl (Nat.le_of_ble_eq_true rfl) dL_law_817 ⟨by show cells + 1 ≤ 601024; omega, by show slots + 6 ≤ 7293034; omega⟩ (fun hxn => ?_) (fun hxn => ?_)
  · obtain ⟨m2, hR, h5, hrel⟩ := hn hxn
    have X2 : k9_X p room_1 s m args c A (k9_out G rv) 9 cL_law wsL_law RL room_1 := X
    have e0 : k9_code [m9_is] x = 0 := by rw [hxn]; rfl
    rw [e0]
    refine k9_istore (i := 5) X2 dL_law_820 (by decide) [1, 2, 3, 4, 5, 0] rfl ?_
    refine k9_aload_n X2 dL_law_822 rfl 2 rfl ?_
    refine k9_callVi0 X2 (hR (k9_out G rv)) k9_ob_76 (cwV 0 X.2.2.2.2.1 gL_law_X7_undo rfl rfl rfl (by decide +kernel) ⟨Nat.le_of_ble_eq_true rfl, Nat.le_of_ble_eq_true rfl⟩) (Nat.le_of_ble_eq_true rfl) dL_law_823 ⟨by show cells + 1 ≤ 601024; omega, by show slots + 6 ≤ 7293034; omega⟩ ?_
    refine k9_istore (i := 6) X2 dL_law_826 (by decide) [1, 2, 3, 4, 5, 6, 0] rfl ?_
    refine k9_aload_n X2 dL_law_828 rfl 2 rfl ?_
    refine k9_callVi0 X2 (ct_X7_thrown l (k9_out G rv) m2) k9_ob_76 (cwV 0 X.2.2.2.2.1 gL_law_X7_thrown rfl rfl rfl (by decide +kernel) ⟨Nat.le_of_ble_eq_true rfl, Nat.le_of_ble_eq_true rfl⟩) (Nat.le_of_ble_eq_true rfl) dL_law_829 ⟨by show cells + 1 ≤ 601024; omega, by show slots + 6 ≤ 7293034; omega⟩ ?_
    refine k9_iload X2 dL_law_832 5 rfl ?_
    refine k9_icmp_eq (tgt := 839) X2 dL_law_834 (by decide) (fun _ => ?_) (fun c1 => absurd h5 c1)
    refine k9_iload X2 dL_law_839 5 rfl ?_
    refine k9_if_ne (tgt := 856) X2 dL_law_841 (by decide) (fun c1 => absurd rfl c1) (fun _ => ?_)
    refine k9_aload_n X2 dL_law_844 rfl 3 rfl ?_
    refine k9_iconst (v := 0) X2 dL_law_845 (by decide) ?_
    refine k9_lald X2 dL_law_846 ?_
    refine k9_iload X2 dL_law_847 6 rfl ?_
    refine k9_i2l X2 dL_law_849 ?_
    refine k9_lcmp X2 dL_law_850 ?_
    refine k9_if_eq (tgt := 856) X2 dL_law_851 (by decide) (fun _ => ?_) (fun c1 => absurd ((lg_cmp_eq _ _).mpr rfl) c1)
    refine k9_goto (tgt := 1527) X2 dL_law_856 (by decide) ?_
    refine k9_sub [0, 1, 2, 3, 4] rfl ?_
    refine k9_widen (k := cells + 4) (n := slots + 24) (by omega) (by omega) ?_
    exact K _ m2 hrel
  · obtain ⟨E, hE⟩ : ∃ E, x = some E := by
      cases x with
      | none => exact absurd rfl hxn
      | some E => exact ⟨E, rfl⟩
    obtain ⟨bv, m2, hR, h5, hrel⟩ := hs E hE
    have e0 : ¬ k9_code [m9_is] x = 0 := by rw [hE]; exact op_cne (hx E hE) (by decide)
    refine k9_istore (i := 5) X dL_law_820 (by decide) [1, 2, 3, 4, 5, 0] rfl ?_
    refine k9_aload_n X dL_law_822 rfl 2 rfl ?_
    refine k9_callVi0 X (hR G) k9_ob_76 (cwV 0 X.2.2.2.2.1 gL_law_X7_undo rfl rfl rfl (by decide +kernel) ⟨Nat.le_of_ble_eq_true rfl, Nat.le_of_ble_eq_true rfl⟩) (Nat.le_of_ble_eq_true rfl) dL_law_823 ⟨by show cells + 1 ≤ 601024; omega, by show slots + 6 ≤ 7293034; omega⟩ ?_
    refine k9_istore (i := 6) X dL_law_826 (by decide) [1, 2, 3, 4, 5, 6, 0] rfl ?_
    refine k9_aload_n X dL_law_828 rfl 2 rfl ?_
    refine k9_callVi0 X (ct_X7_thrown l G m2) k9_ob_76 (cwV 0 X.2.2.2.2.1 gL_law_X7_thrown rfl rfl rfl (by decide +kernel) ⟨Nat.le_of_ble_eq_true rfl, Nat.le_of_ble_eq_true rfl⟩) (Nat.le_of_ble_eq_true rfl) dL_law_829 ⟨by show cells + 1 ≤ 601024; omega, by show slots + 6 ≤ 7293034; omega⟩ ?_
    refine k9_iload X dL_law_832 5 rfl ?_
    refine k9_icmp_eq (tgt := 839) X dL_law_834 (by decide) (fun _ => ?_) (fun c1 => absurd h5 c1)
    refine k9_iload X dL_law_839 5 rfl ?_
    refine k9_if_ne (tgt := 856) X dL_law_841 (by decide) (fun _ => ?_) (fun c1 => absurd c1 e0)
    refine k9_goto (tgt := 1527) X dL_law_856 (by decide) ?_
    refine k9_sub [0, 1, 2, 3, 4] rfl ?_
    refine k9_widen (k := cells + 4) (n := slots + 24) (by omega) (by omega) ?_
    have h9 := K (k9_ga G 90) m2 hrel
    rw [k9_gv_self] at h9
    exact h9
set_option maxRecDepth 20000 in
theorem lb_place (X : k9_X p room_1 s m args c A G 9 cL_law wsL_law RL room_1) (hX : va_X b L xs s s.heap) (hbl : b < s.heap.size) (hbA : ¬ A b) (hi : i + 4 ≤ L) (hL : L ≤ 2048) (hrm : cells + 4 ≤ 601024 ∧ slots + 24 ≤ 7293034) (h : op_A l yX6_place wsX6_place rm_X6_place 3 18 yX7_place wsX7_place rm_X7_place (fun G => [.ref (k9_ga G 0), .int (xs (i + 1)), .int (xs (i + 2)), .int (xs (i + 3))]) (fun G => [.ref (k9_ga G 76), .int (xs (i + 1)), .int (xs (i + 2)), .int (xs (i + 3))]) [m9_io, m9_ia] M M) (K : ∀ (v : Nat) (M2 : k9_Mem), (∃ B R F U, q9_rel M2 B R F U) → k9_U p l e room_1 s m args below meth c Q A (k9_gv G v) 9 (cells + 4) (slots + 24) M2 1527 (lw_lv G b i) []) : k9_U p l e room_1 s m args below meth c Q A G 9 cells slots M 859 (lw_lv G b i) [] := by
  obtain ⟨x, rv, mv, hC, hx, hn, hs⟩ := h
  refine k9_aload_n X dL_law_859 rfl 1 rfl ?_
  refine k9_aload_n X dL_law_860 rfl 0 rfl ?_
  refine k9_iload X dL_law_861 4 rfl ?_
  refine k9_iconst (v := nI 1) X dL_law_863 (by decide) ?_
  refine k9_iadd X dL_law_864 ?_
  refine k9_sld X hX hbl hbA (j := i + 1) (nI_add i 1) (by omega) hL dL_law_865 ?_
  refine k9_aload_n X dL_law_866 rfl 0 rfl ?_
  refine k9_iload X dL_law_867 4 rfl ?_
  refine k9_iconst (v := nI 2) X dL_law_869 (by decide) ?_
  refine k9_iadd X dL_law_870 ?_
  refine k9_sld X hX hbl hbA (j := i + 2) (nI_add i 2) (by omega) hL dL_law_871 ?_
  refine k9_aload_n X dL_law_872 rfl 0 rfl ?_
  refine k9_iload X dL_law_873 4 rfl ?_
  refine k9_iconst (v := nI 3) X dL_law_875 (by decide) ?_
  refine k9_iadd X dL_law_876 ?_
  refine k9_sld X hX hbl hbA (j := i + 3) (nI_add i 3) (by omega) hL dL_law_877 ?_
  refine k9_aload_n X dL_law_878 rfl 3 rfl ?_
  refine k9_callL (st := []) X (ct_L_place l G M (xs (i + 1)) (xs (i + 2)) (xs (i + 3)) (hC G) hx) (vx_cwSW 5 X.2.2.2.2.1 gL_law_L_place rfl rfl rfl (by decide +kernel) ⟨Nat.le_of_ble_eq_true rfl, Nat.le_of_ble_eq_true rfl⟩) rfl rfl (Nat.le_of_ble_eq_true rfl) dL_law_879 ⟨by show cells + 3 ≤ 601024; omega, by show slots + 18 ≤ 7293034; omega⟩ (fun hxn => ?_) (fun hxn => ?_)
  · obtain ⟨m2, hR, h5, hrel⟩ := hn hxn
    have X2 : k9_X p room_1 s m args c A (k9_out G rv) 9 cL_law wsL_law RL room_1 := X
    have e0 : k9_code [m9_io, m9_ia] x = 0 := by rw [hxn]; rfl
    rw [e0]
    refine k9_istore (i := 5) X2 dL_law_882 (by decide) [1, 2, 3, 4, 5, 0] rfl ?_
    refine k9_aload_n X2 dL_law_884 rfl 2 rfl ?_
    refine k9_aload_n X2 dL_law_885 rfl 0 rfl ?_
    refine k9_iload X2 dL_law_886 4 rfl ?_
    refine k9_iconst (v := nI 1) X2 dL_law_888 (by decide) ?_
    refine k9_iadd X2 dL_law_889 ?_
    refine k9_sld X2 hX hbl hbA (j := i + 1) (nI_add i 1) (by omega) hL dL_law_890 ?_
    refine k9_aload_n X2 dL_law_891 rfl 0 rfl ?_
    refine k9_iload X2 dL_law_892 4 rfl ?_
    refine k9_iconst (v := nI 2) X2 dL_law_894 (by decide) ?_
    refine k9_iadd X2 dL_law_895 ?_
    refine k9_sld X2 hX hbl hbA (j := i + 2) (nI_add i 2) (by omega) hL dL_law_896 ?_
    refine k9_aload_n X2 dL_law_897 rfl 0 rfl ?_
    refine k9_iload X2 dL_law_898 4 rfl ?_
    refine k9_iconst (v := nI 3) X2 dL_law_900 (by decide) ?_
    refine k9_iadd X2 dL_law_901 ?_
    refine k9_sld X2 hX hbl hbA (j := i + 3) (nI_add i 3) (by omega) hL dL_law_902 ?_
    refine k9_callVi3 X2 (hR (k9_out G rv)) k9_ob_76 (cwV 3 X.2.2.2.2.1 gL_law_X7_place rfl rfl rfl (by decide +kernel) ⟨Nat.le_of_ble_eq_true rfl, Nat.le_of_ble_eq_true rfl⟩) (Nat.le_of_ble_eq_true rfl) dL_law_903 ⟨by show cells + 3 ≤ 601024; omega, by show slots + 18 ≤ 7293034; omega⟩ ?_
    refine k9_istore (i := 6) X2 dL_law_906 (by decide) [1, 2, 3, 4, 5, 6, 0] rfl ?_
    refine k9_aload_n X2 dL_law_908 rfl 2 rfl ?_
    refine k9_callVi0 X2 (ct_X7_thrown l (k9_out G rv) m2) k9_ob_76 (cwV 0 X.2.2.2.2.1 gL_law_X7_thrown rfl rfl rfl (by decide +kernel) ⟨Nat.le_of_ble_eq_true rfl, Nat.le_of_ble_eq_true rfl⟩) (Nat.le_of_ble_eq_true rfl) dL_law_909 ⟨by show cells + 3 ≤ 601024; omega, by show slots + 18 ≤ 7293034; omega⟩ ?_
    refine k9_iload X2 dL_law_912 5 rfl ?_
    refine k9_icmp_eq (tgt := 919) X2 dL_law_914 (by decide) (fun _ => ?_) (fun c1 => absurd h5 c1)
    refine k9_iload X2 dL_law_919 5 rfl ?_
    refine k9_if_ne (tgt := 936) X2 dL_law_921 (by decide) (fun c1 => absurd rfl c1) (fun _ => ?_)
    refine k9_aload_n X2 dL_law_924 rfl 3 rfl ?_
    refine k9_iconst (v := 0) X2 dL_law_925 (by decide) ?_
    refine k9_lald X2 dL_law_926 ?_
    refine k9_iload X2 dL_law_927 6 rfl ?_
    refine k9_i2l X2 dL_law_929 ?_
    refine k9_lcmp X2 dL_law_930 ?_
    refine k9_if_eq (tgt := 936) X2 dL_law_931 (by decide) (fun _ => ?_) (fun c1 => absurd ((lg_cmp_eq _ _).mpr rfl) c1)
    refine k9_goto (tgt := 1527) X2 dL_law_936 (by decide) ?_
    refine k9_sub [0, 1, 2, 3, 4] rfl ?_
    refine k9_widen (k := cells + 4) (n := slots + 24) (by omega) (by omega) ?_
    exact K _ m2 hrel
  · obtain ⟨E, hE⟩ : ∃ E, x = some E := by
      cases x with
      | none => exact absurd rfl hxn
      | some E => exact ⟨E, rfl⟩
    obtain ⟨bv, m2, hR, h5, hrel⟩ := hs E hE
    have e0 : ¬ k9_code [m9_io, m9_ia] x = 0 := by rw [hE]; exact op_cne (hx E hE) (by decide)
    refine k9_istore (i := 5) X dL_law_882 (by decide) [1, 2, 3, 4, 5, 0] rfl ?_
    refine k9_aload_n X dL_law_884 rfl 2 rfl ?_
    refine k9_aload_n X dL_law_885 rfl 0 rfl ?_
    refine k9_iload X dL_law_886 4 rfl ?_
    refine k9_iconst (v := nI 1) X dL_law_888 (by decide) ?_
    refine k9_iadd X dL_law_889 ?_
    refine k9_sld X hX hbl hbA (j := i + 1) (nI_add i 1) (by omega) hL dL_law_890 ?_
    refine k9_aload_n X dL_law_891 rfl 0 rfl ?_
    refine k9_iload X dL_law_892 4 rfl ?_
    refine k9_iconst (v := nI 2) X dL_law_894 (by decide) ?_
    refine k9_iadd X dL_law_895 ?_
    refine k9_sld X hX hbl hbA (j := i + 2) (nI_add i 2) (by omega) hL dL_law_896 ?_
    refine k9_aload_n X dL_law_897 rfl 0 rfl ?_
    refine k9_iload X dL_law_898 4 rfl ?_
    refine k9_iconst (v := nI 3) X dL_law_900 (by decide) ?_
    refine k9_iadd X dL_law_901 ?_
    refine k9_sld X hX hbl hbA (j := i + 3) (nI_add i 3) (by omega) hL dL_law_902 ?_
    refine k9_callVi3 X (hR G) k9_ob_76 (cwV 3 X.2.2.2.2.1 gL_law_X7_place rfl rfl rfl (by decide +kernel) ⟨Nat.le_of_ble_eq_true rfl, Nat.le_of_ble_eq_true rfl⟩) (Nat.le_of_ble_eq_true rfl) dL_law_903 ⟨by show cells + 3 ≤ 601024; omega, by show slots + 18 ≤ 7293034; omega⟩ ?_
    refine k9_istore (i := 6) X dL_law_906 (by decide) [1, 2, 3, 4, 5, 6, 0] rfl ?_
    refine k9_aload_n X dL_law_908 rfl 2 rfl ?_
    refine k9_callVi0 X (ct_X7_thrown l G m2) k9_ob_76 (cwV 0 X.2.2.2.2.1 gL_law_X7_thrown rfl rfl rfl (by decide +kernel) ⟨Nat.le_of_ble_eq_true rfl, Nat.le_of_ble_eq_true rfl⟩) (Nat.le_of_ble_eq_true rfl) dL_law_909 ⟨by show cells + 3 ≤ 601024; omega, by show slots + 18 ≤ 7293034; omega⟩ ?_
    refine k9_iload X dL_law_912 5 rfl ?_
    refine k9_icmp_eq (tgt := 919) X dL_law_914 (by decide) (fun _ => ?_) (fun c1 => absurd h5 c1)
    refine k9_iload X dL_law_919 5 rfl ?_
    refine k9_if_ne (tgt := 936) X dL_law_921 (by decide) (fun _ => ?_) (fun c1 => absurd c1 e0)
    refine k9_goto (tgt := 1527) X dL_law_936 (by decide) ?_
    refine k9_sub [0, 1, 2, 3, 4] rfl ?_
    refine k9_widen (k := cells + 4) (n := slots + 24) (by omega) (by omega) ?_
    have h9 := K (k9_ga G 90) m2 hrel
    rw [k9_gv_self] at h9
    exact h9
set_option maxRecDepth 20000 in
theorem lb_step (X : k9_X p room_1 s m args c A G 9 cL_law wsL_law RL room_1) (hX : va_X b L xs s s.heap) (hbl : b < s.heap.size) (hbA : ¬ A b) (hi : i + 4 ≤ L) (hL : L ≤ 2048) (hrm : cells + 4 ≤ 601024 ∧ slots + 24 ≤ 7293034) (h : op_A l yX6_step wsX6_step rm_X6_step 2 12 yX7_step wsX7_step rm_X7_step (fun G => [.ref (k9_ga G 0), .int (xs (i + 1)), .int (xs (i + 2))]) (fun G => [.ref (k9_ga G 76), .int (xs (i + 1)), .int (xs (i + 2))]) [m9_io, m9_ia] M M) (K : ∀ (v : Nat) (M2 : k9_Mem), (∃ B R F U, q9_rel M2 B R F U) → k9_U p l e room_1 s m args below meth c Q A (k9_gv G v) 9 (cells + 4) (slots + 24) M2 1527 (lw_lv G b i) []) : k9_U p l e room_1 s m args below meth c Q A G 9 cells slots M 939 (lw_lv G b i) [] := by
  obtain ⟨x, rv, mv, hC, hx, hn, hs⟩ := h
  refine k9_aload_n X dL_law_939 rfl 1 rfl ?_
  refine k9_aload_n X dL_law_940 rfl 0 rfl ?_
  refine k9_iload X dL_law_941 4 rfl ?_
  refine k9_iconst (v := nI 1) X dL_law_943 (by decide) ?_
  refine k9_iadd X dL_law_944 ?_
  refine k9_sld X hX hbl hbA (j := i + 1) (nI_add i 1) (by omega) hL dL_law_945 ?_
  refine k9_aload_n X dL_law_946 rfl 0 rfl ?_
  refine k9_iload X dL_law_947 4 rfl ?_
  refine k9_iconst (v := nI 2) X dL_law_949 (by decide) ?_
  refine k9_iadd X dL_law_950 ?_
  refine k9_sld X hX hbl hbA (j := i + 2) (nI_add i 2) (by omega) hL dL_law_951 ?_
  refine k9_aload_n X dL_law_952 rfl 3 rfl ?_
  refine k9_callL (st := []) X (ct_L_step l G M (xs (i + 1)) (xs (i + 2)) (hC G) hx) (vx_cwSW 4 X.2.2.2.2.1 gL_law_L_step rfl rfl rfl (by decide +kernel) ⟨Nat.le_of_ble_eq_true rfl, Nat.le_of_ble_eq_true rfl⟩) rfl rfl (Nat.le_of_ble_eq_true rfl) dL_law_953 ⟨by show cells + 2 ≤ 601024; omega, by show slots + 12 ≤ 7293034; omega⟩ (fun hxn => ?_) (fun hxn => ?_)
  · obtain ⟨m2, hR, h5, hrel⟩ := hn hxn
    have X2 : k9_X p room_1 s m args c A (k9_out G rv) 9 cL_law wsL_law RL room_1 := X
    have e0 : k9_code [m9_io, m9_ia] x = 0 := by rw [hxn]; rfl
    rw [e0]
    refine k9_istore (i := 5) X2 dL_law_956 (by decide) [1, 2, 3, 4, 5, 0] rfl ?_
    refine k9_aload_n X2 dL_law_958 rfl 2 rfl ?_
    refine k9_aload_n X2 dL_law_959 rfl 0 rfl ?_
    refine k9_iload X2 dL_law_960 4 rfl ?_
    refine k9_iconst (v := nI 1) X2 dL_law_962 (by decide) ?_
    refine k9_iadd X2 dL_law_963 ?_
    refine k9_sld X2 hX hbl hbA (j := i + 1) (nI_add i 1) (by omega) hL dL_law_964 ?_
    refine k9_aload_n X2 dL_law_965 rfl 0 rfl ?_
    refine k9_iload X2 dL_law_966 4 rfl ?_
    refine k9_iconst (v := nI 2) X2 dL_law_968 (by decide) ?_
    refine k9_iadd X2 dL_law_969 ?_
    refine k9_sld X2 hX hbl hbA (j := i + 2) (nI_add i 2) (by omega) hL dL_law_970 ?_
    refine k9_callVi2 X2 (hR (k9_out G rv)) k9_ob_76 (cwV 2 X.2.2.2.2.1 gL_law_X7_step rfl rfl rfl (by decide +kernel) ⟨Nat.le_of_ble_eq_true rfl, Nat.le_of_ble_eq_true rfl⟩) (Nat.le_of_ble_eq_true rfl) dL_law_971 ⟨by show cells + 2 ≤ 601024; omega, by show slots + 12 ≤ 7293034; omega⟩ ?_
    refine k9_istore (i := 6) X2 dL_law_974 (by decide) [1, 2, 3, 4, 5, 6, 0] rfl ?_
    refine k9_aload_n X2 dL_law_976 rfl 2 rfl ?_
    refine k9_callVi0 X2 (ct_X7_thrown l (k9_out G rv) m2) k9_ob_76 (cwV 0 X.2.2.2.2.1 gL_law_X7_thrown rfl rfl rfl (by decide +kernel) ⟨Nat.le_of_ble_eq_true rfl, Nat.le_of_ble_eq_true rfl⟩) (Nat.le_of_ble_eq_true rfl) dL_law_977 ⟨by show cells + 2 ≤ 601024; omega, by show slots + 12 ≤ 7293034; omega⟩ ?_
    refine k9_iload X2 dL_law_980 5 rfl ?_
    refine k9_icmp_eq (tgt := 987) X2 dL_law_982 (by decide) (fun _ => ?_) (fun c1 => absurd h5 c1)
    refine k9_iload X2 dL_law_987 5 rfl ?_
    refine k9_if_ne (tgt := 1004) X2 dL_law_989 (by decide) (fun c1 => absurd rfl c1) (fun _ => ?_)
    refine k9_aload_n X2 dL_law_992 rfl 3 rfl ?_
    refine k9_iconst (v := 0) X2 dL_law_993 (by decide) ?_
    refine k9_lald X2 dL_law_994 ?_
    refine k9_iload X2 dL_law_995 6 rfl ?_
    refine k9_i2l X2 dL_law_997 ?_
    refine k9_lcmp X2 dL_law_998 ?_
    refine k9_if_eq (tgt := 1004) X2 dL_law_999 (by decide) (fun _ => ?_) (fun c1 => absurd ((lg_cmp_eq _ _).mpr rfl) c1)
    refine k9_goto (tgt := 1527) X2 dL_law_1004 (by decide) ?_
    refine k9_sub [0, 1, 2, 3, 4] rfl ?_
    refine k9_widen (k := cells + 4) (n := slots + 24) (by omega) (by omega) ?_
    exact K _ m2 hrel
  · obtain ⟨E, hE⟩ : ∃ E, x = some E := by
      cases x with
      | none => exact absurd rfl hxn
      | some E => exact ⟨E, rfl⟩
    obtain ⟨bv, m2, hR, h5, hrel⟩ := hs E hE
    have e0 : ¬ k9_code [m9_io, m9_ia] x = 0 := by rw [hE]; exact op_cne (hx E hE) (by decide)
    refine k9_istore (i := 5) X dL_law_956 (by decide) [1, 2, 3, 4, 5, 0] rfl ?_
    refine k9_aload_n X dL_law_958 rfl 2 rfl ?_
    refine k9_aload_n X dL_law_959 rfl 0 rfl ?_
    refine k9_iload X dL_law_960 4 rfl ?_
    refine k9_iconst (v := nI 1) X dL_law_962 (by decide) ?_
    refine k9_iadd X dL_law_963 ?_
    refine k9_sld X hX hbl hbA (j := i + 1) (nI_add i 1) (by omega) hL dL_law_964 ?_
    refine k9_aload_n X dL_law_965 rfl 0 rfl ?_
    refine k9_iload X dL_law_966 4 rfl ?_
    refine k9_iconst (v := nI 2) X dL_law_968 (by decide) ?_
    refine k9_iadd X dL_law_969 ?_
    refine k9_sld X hX hbl hbA (j := i + 2) (nI_add i 2) (by omega) hL dL_law_970 ?_
    refine k9_callVi2 X (hR G) k9_ob_76 (cwV 2 X.2.2.2.2.1 gL_law_X7_step rfl rfl rfl (by decide +kernel) ⟨Nat.le_of_ble_eq_true rfl, Nat.le_of_ble_eq_true rfl⟩) (Nat.le_of_ble_eq_true rfl) dL_law_971 ⟨by show cells + 2 ≤ 601024; omega, by show slots + 12 ≤ 7293034; omega⟩ ?_
    refine k9_istore (i := 6) X dL_law_974 (by decide) [1, 2, 3, 4, 5, 6, 0] rfl ?_
    refine k9_aload_n X dL_law_976 rfl 2 rfl ?_
    refine k9_callVi0 X (ct_X7_thrown l G m2) k9_ob_76 (cwV 0 X.2.2.2.2.1 gL_law_X7_thrown rfl rfl rfl (by decide +kernel) ⟨Nat.le_of_ble_eq_true rfl, Nat.le_of_ble_eq_true rfl⟩) (Nat.le_of_ble_eq_true rfl) dL_law_977 ⟨by show cells + 2 ≤ 601024; omega, by show slots + 12 ≤ 7293034; omega⟩ ?_
    refine k9_iload X dL_law_980 5 rfl ?_
    refine k9_icmp_eq (tgt := 987) X dL_law_982 (by decide) (fun _ => ?_) (fun c1 => absurd h5 c1)
    refine k9_iload X dL_law_987 5 rfl ?_
    refine k9_if_ne (tgt := 1004) X dL_law_989 (by decide) (fun _ => ?_) (fun c1 => absurd c1 e0)
    refine k9_goto (tgt := 1527) X dL_law_1004 (by decide) ?_
    refine k9_sub [0, 1, 2, 3, 4] rfl ?_
    refine k9_widen (k := cells + 4) (n := slots + 24) (by omega) (by omega) ?_
    have h9 := K (k9_ga G 90) m2 hrel
    rw [k9_gv_self] at h9
    exact h9
set_option maxRecDepth 20000 in
theorem lb_played (X : k9_X p room_1 s m args c A G 9 cL_law wsL_law RL room_1) (hX : va_X b L xs s s.heap) (hbl : b < s.heap.size) (hbA : ¬ A b) (hi : i + 4 ≤ L) (hL : L ≤ 2048) (hrm : cells + 4 ≤ 601024 ∧ slots + 24 ≤ 7293034) (h : op_A l yX6_played wsX6_played rm_X6_played 2 12 yX7_played wsX7_played rm_X7_played (fun G => [.ref (k9_ga G 0), .int (xs (i + 1)), .int (xs (i + 2))]) (fun G => [.ref (k9_ga G 76), .int (xs (i + 1)), .int (xs (i + 2))]) [m9_io, m9_ia] M M) (K : ∀ (v : Nat) (M2 : k9_Mem), (∃ B R F U, q9_rel M2 B R F U) → k9_U p l e room_1 s m args below meth c Q A (k9_gv G v) 9 (cells + 4) (slots + 24) M2 1527 (lw_lv G b i) []) : k9_U p l e room_1 s m args below meth c Q A G 9 cells slots M 1007 (lw_lv G b i) [] := by
  obtain ⟨x, rv, mv, hC, hx, hn, hs⟩ := h
  refine k9_aload_n X dL_law_1007 rfl 1 rfl ?_
  refine k9_aload_n X dL_law_1008 rfl 0 rfl ?_
  refine k9_iload X dL_law_1009 4 rfl ?_
  refine k9_iconst (v := nI 1) X dL_law_1011 (by decide) ?_
  refine k9_iadd X dL_law_1012 ?_
  refine k9_sld X hX hbl hbA (j := i + 1) (nI_add i 1) (by omega) hL dL_law_1013 ?_
  refine k9_aload_n X dL_law_1014 rfl 0 rfl ?_
  refine k9_iload X dL_law_1015 4 rfl ?_
  refine k9_iconst (v := nI 2) X dL_law_1017 (by decide) ?_
  refine k9_iadd X dL_law_1018 ?_
  refine k9_sld X hX hbl hbA (j := i + 2) (nI_add i 2) (by omega) hL dL_law_1019 ?_
  refine k9_aload_n X dL_law_1020 rfl 3 rfl ?_
  refine k9_callL (st := []) X (ct_L_played l G M (xs (i + 1)) (xs (i + 2)) (hC G) hx) (vx_cwSW 4 X.2.2.2.2.1 gL_law_L_played rfl rfl rfl (by decide +kernel) ⟨Nat.le_of_ble_eq_true rfl, Nat.le_of_ble_eq_true rfl⟩) rfl rfl (Nat.le_of_ble_eq_true rfl) dL_law_1021 ⟨by show cells + 2 ≤ 601024; omega, by show slots + 12 ≤ 7293034; omega⟩ (fun hxn => ?_) (fun hxn => ?_)
  · obtain ⟨m2, hR, h5, hrel⟩ := hn hxn
    have X2 : k9_X p room_1 s m args c A (k9_out G rv) 9 cL_law wsL_law RL room_1 := X
    have e0 : k9_code [m9_io, m9_ia] x = 0 := by rw [hxn]; rfl
    rw [e0]
    refine k9_istore (i := 5) X2 dL_law_1024 (by decide) [1, 2, 3, 4, 5, 0] rfl ?_
    refine k9_aload_n X2 dL_law_1026 rfl 2 rfl ?_
    refine k9_aload_n X2 dL_law_1027 rfl 0 rfl ?_
    refine k9_iload X2 dL_law_1028 4 rfl ?_
    refine k9_iconst (v := nI 1) X2 dL_law_1030 (by decide) ?_
    refine k9_iadd X2 dL_law_1031 ?_
    refine k9_sld X2 hX hbl hbA (j := i + 1) (nI_add i 1) (by omega) hL dL_law_1032 ?_
    refine k9_aload_n X2 dL_law_1033 rfl 0 rfl ?_
    refine k9_iload X2 dL_law_1034 4 rfl ?_
    refine k9_iconst (v := nI 2) X2 dL_law_1036 (by decide) ?_
    refine k9_iadd X2 dL_law_1037 ?_
    refine k9_sld X2 hX hbl hbA (j := i + 2) (nI_add i 2) (by omega) hL dL_law_1038 ?_
    refine k9_callVi2 X2 (hR (k9_out G rv)) k9_ob_76 (cwV 2 X.2.2.2.2.1 gL_law_X7_played rfl rfl rfl (by decide +kernel) ⟨Nat.le_of_ble_eq_true rfl, Nat.le_of_ble_eq_true rfl⟩) (Nat.le_of_ble_eq_true rfl) dL_law_1039 ⟨by show cells + 2 ≤ 601024; omega, by show slots + 12 ≤ 7293034; omega⟩ ?_
    refine k9_istore (i := 6) X2 dL_law_1042 (by decide) [1, 2, 3, 4, 5, 6, 0] rfl ?_
    refine k9_aload_n X2 dL_law_1044 rfl 2 rfl ?_
    refine k9_callVi0 X2 (ct_X7_thrown l (k9_out G rv) m2) k9_ob_76 (cwV 0 X.2.2.2.2.1 gL_law_X7_thrown rfl rfl rfl (by decide +kernel) ⟨Nat.le_of_ble_eq_true rfl, Nat.le_of_ble_eq_true rfl⟩) (Nat.le_of_ble_eq_true rfl) dL_law_1045 ⟨by show cells + 2 ≤ 601024; omega, by show slots + 12 ≤ 7293034; omega⟩ ?_
    refine k9_iload X2 dL_law_1048 5 rfl ?_
    refine k9_icmp_eq (tgt := 1055) X2 dL_law_1050 (by decide) (fun _ => ?_) (fun c1 => absurd h5 c1)
    refine k9_iload X2 dL_law_1055 5 rfl ?_
    refine k9_if_ne (tgt := 1072) X2 dL_law_1057 (by decide) (fun c1 => absurd rfl c1) (fun _ => ?_)
    refine k9_aload_n X2 dL_law_1060 rfl 3 rfl ?_
    refine k9_iconst (v := 0) X2 dL_law_1061 (by decide) ?_
    refine k9_lald X2 dL_law_1062 ?_
    refine k9_iload X2 dL_law_1063 6 rfl ?_
    refine k9_i2l X2 dL_law_1065 ?_
    refine k9_lcmp X2 dL_law_1066 ?_
    refine k9_if_eq (tgt := 1072) X2 dL_law_1067 (by decide) (fun _ => ?_) (fun c1 => absurd ((lg_cmp_eq _ _).mpr rfl) c1)
    refine k9_goto (tgt := 1527) X2 dL_law_1072 (by decide) ?_
    refine k9_sub [0, 1, 2, 3, 4] rfl ?_
    refine k9_widen (k := cells + 4) (n := slots + 24) (by omega) (by omega) ?_
    exact K _ m2 hrel
  · obtain ⟨E, hE⟩ : ∃ E, x = some E := by
      cases x with
      | none => exact absurd rfl hxn
      | some E => exact ⟨E, rfl⟩
    obtain ⟨bv, m2, hR, h5, hrel⟩ := hs E hE
    have e0 : ¬ k9_code [m9_io, m9_ia] x = 0 := by rw [hE]; exact op_cne (hx E hE) (by decide)
    refine k9_istore (i := 5) X dL_law_1024 (by decide) [1, 2, 3, 4, 5, 0] rfl ?_
    refine k9_aload_n X dL_law_1026 rfl 2 rfl ?_
    refine k9_aload_n X dL_law_1027 rfl 0 rfl ?_
    refine k9_iload X dL_law_1028 4 rfl ?_
    refine k9_iconst (v := nI 1) X dL_law_1030 (by decide) ?_
    refine k9_iadd X dL_law_1031 ?_
    refine k9_sld X hX hbl hbA (j := i + 1) (nI_add i 1) (by omega) hL dL_law_1032 ?_
    refine k9_aload_n X dL_law_1033 rfl 0 rfl ?_
    refine k9_iload X dL_law_1034 4 rfl ?_
    refine k9_iconst (v := nI 2) X dL_law_1036 (by decide) ?_
    refine k9_iadd X dL_law_1037 ?_
    refine k9_sld X hX hbl hbA (j := i + 2) (nI_add i 2) (by omega) hL dL_law_1038 ?_
    refine k9_callVi2 X (hR G) k9_ob_76 (cwV 2 X.2.2.2.2.1 gL_law_X7_played rfl rfl rfl (by decide +kernel) ⟨Nat.le_of_ble_eq_true rfl, Nat.le_of_ble_eq_true rfl⟩) (Nat.le_of_ble_eq_true rfl) dL_law_1039 ⟨by show cells + 2 ≤ 601024; omega, by show slots + 12 ≤ 7293034; omega⟩ ?_
    refine k9_istore (i := 6) X dL_law_1042 (by decide) [1, 2, 3, 4, 5, 6, 0] rfl ?_
    refine k9_aload_n X dL_law_1044 rfl 2 rfl ?_
    refine k9_callVi0 X (ct_X7_thrown l G m2) k9_ob_76 (cwV 0 X.2.2.2.2.1 gL_law_X7_thrown rfl rfl rfl (by decide +kernel) ⟨Nat.le_of_ble_eq_true rfl, Nat.le_of_ble_eq_true rfl⟩) (Nat.le_of_ble_eq_true rfl) dL_law_1045 ⟨by show cells + 2 ≤ 601024; omega, by show slots + 12 ≤ 7293034; omega⟩ ?_
    refine k9_iload X dL_law_1048 5 rfl ?_
    refine k9_icmp_eq (tgt := 1055) X dL_law_1050 (by decide) (fun _ => ?_) (fun c1 => absurd h5 c1)
    refine k9_iload X dL_law_1055 5 rfl ?_
    refine k9_if_ne (tgt := 1072) X dL_law_1057 (by decide) (fun _ => ?_) (fun c1 => absurd c1 e0)
    refine k9_goto (tgt := 1527) X dL_law_1072 (by decide) ?_
    refine k9_sub [0, 1, 2, 3, 4] rfl ?_
    refine k9_widen (k := cells + 4) (n := slots + 24) (by omega) (by omega) ?_
    have h9 := K (k9_ga G 90) m2 hrel
    rw [k9_gv_self] at h9
    exact h9
set_option maxRecDepth 20000 in
theorem lb_tune (X : k9_X p room_1 s m args c A G 9 cL_law wsL_law RL room_1) (hX : va_X b L xs s s.heap) (hbl : b < s.heap.size) (hbA : ¬ A b) (hi : i + 4 ≤ L) (hL : L ≤ 2048) (hrm : cells + 4 ≤ 601024 ∧ slots + 24 ≤ 7293034) (h : op_A l yX6_tune wsX6_tune rm_X6_tune 2 12 yX7_tune wsX7_tune rm_X7_tune (fun G => [.ref (k9_ga G 0), .int (xs (i + 1)), .int (xs (i + 2))]) (fun G => [.ref (k9_ga G 76), .int (xs (i + 1)), .int (xs (i + 2))]) [m9_io, m9_ia] M M) (K : ∀ (v : Nat) (M2 : k9_Mem), (∃ B R F U, q9_rel M2 B R F U) → k9_U p l e room_1 s m args below meth c Q A (k9_gv G v) 9 (cells + 4) (slots + 24) M2 1527 (lw_lv G b i) []) : k9_U p l e room_1 s m args below meth c Q A G 9 cells slots M 1075 (lw_lv G b i) [] := by
  obtain ⟨x, rv, mv, hC, hx, hn, hs⟩ := h
  refine k9_aload_n X dL_law_1075 rfl 1 rfl ?_
  refine k9_aload_n X dL_law_1076 rfl 0 rfl ?_
  refine k9_iload X dL_law_1077 4 rfl ?_
  refine k9_iconst (v := nI 1) X dL_law_1079 (by decide) ?_
  refine k9_iadd X dL_law_1080 ?_
  refine k9_sld X hX hbl hbA (j := i + 1) (nI_add i 1) (by omega) hL dL_law_1081 ?_
  refine k9_aload_n X dL_law_1082 rfl 0 rfl ?_
  refine k9_iload X dL_law_1083 4 rfl ?_
  refine k9_iconst (v := nI 2) X dL_law_1085 (by decide) ?_
  refine k9_iadd X dL_law_1086 ?_
  refine k9_sld X hX hbl hbA (j := i + 2) (nI_add i 2) (by omega) hL dL_law_1087 ?_
  refine k9_aload_n X dL_law_1088 rfl 3 rfl ?_
  refine k9_callL (st := []) X (ct_L_tune l G M (xs (i + 1)) (xs (i + 2)) (hC G) hx) (vx_cwSW 4 X.2.2.2.2.1 gL_law_L_tune rfl rfl rfl (by decide +kernel) ⟨Nat.le_of_ble_eq_true rfl, Nat.le_of_ble_eq_true rfl⟩) rfl rfl (Nat.le_of_ble_eq_true rfl) dL_law_1089 ⟨by show cells + 2 ≤ 601024; omega, by show slots + 12 ≤ 7293034; omega⟩ (fun hxn => ?_) (fun hxn => ?_)
  · obtain ⟨m2, hR, h5, hrel⟩ := hn hxn
    have X2 : k9_X p room_1 s m args c A (k9_out G rv) 9 cL_law wsL_law RL room_1 := X
    have e0 : k9_code [m9_io, m9_ia] x = 0 := by rw [hxn]; rfl
    rw [e0]
    refine k9_istore (i := 5) X2 dL_law_1092 (by decide) [1, 2, 3, 4, 5, 0] rfl ?_
    refine k9_aload_n X2 dL_law_1094 rfl 2 rfl ?_
    refine k9_aload_n X2 dL_law_1095 rfl 0 rfl ?_
    refine k9_iload X2 dL_law_1096 4 rfl ?_
    refine k9_iconst (v := nI 1) X2 dL_law_1098 (by decide) ?_
    refine k9_iadd X2 dL_law_1099 ?_
    refine k9_sld X2 hX hbl hbA (j := i + 1) (nI_add i 1) (by omega) hL dL_law_1100 ?_
    refine k9_aload_n X2 dL_law_1101 rfl 0 rfl ?_
    refine k9_iload X2 dL_law_1102 4 rfl ?_
    refine k9_iconst (v := nI 2) X2 dL_law_1104 (by decide) ?_
    refine k9_iadd X2 dL_law_1105 ?_
    refine k9_sld X2 hX hbl hbA (j := i + 2) (nI_add i 2) (by omega) hL dL_law_1106 ?_
    refine k9_callVi2 X2 (hR (k9_out G rv)) k9_ob_76 (cwV 2 X.2.2.2.2.1 gL_law_X7_tune rfl rfl rfl (by decide +kernel) ⟨Nat.le_of_ble_eq_true rfl, Nat.le_of_ble_eq_true rfl⟩) (Nat.le_of_ble_eq_true rfl) dL_law_1107 ⟨by show cells + 2 ≤ 601024; omega, by show slots + 12 ≤ 7293034; omega⟩ ?_
    refine k9_istore (i := 6) X2 dL_law_1110 (by decide) [1, 2, 3, 4, 5, 6, 0] rfl ?_
    refine k9_aload_n X2 dL_law_1112 rfl 2 rfl ?_
    refine k9_callVi0 X2 (ct_X7_thrown l (k9_out G rv) m2) k9_ob_76 (cwV 0 X.2.2.2.2.1 gL_law_X7_thrown rfl rfl rfl (by decide +kernel) ⟨Nat.le_of_ble_eq_true rfl, Nat.le_of_ble_eq_true rfl⟩) (Nat.le_of_ble_eq_true rfl) dL_law_1113 ⟨by show cells + 2 ≤ 601024; omega, by show slots + 12 ≤ 7293034; omega⟩ ?_
    refine k9_iload X2 dL_law_1116 5 rfl ?_
    refine k9_icmp_eq (tgt := 1123) X2 dL_law_1118 (by decide) (fun _ => ?_) (fun c1 => absurd h5 c1)
    refine k9_iload X2 dL_law_1123 5 rfl ?_
    refine k9_if_ne (tgt := 1140) X2 dL_law_1125 (by decide) (fun c1 => absurd rfl c1) (fun _ => ?_)
    refine k9_aload_n X2 dL_law_1128 rfl 3 rfl ?_
    refine k9_iconst (v := 0) X2 dL_law_1129 (by decide) ?_
    refine k9_lald X2 dL_law_1130 ?_
    refine k9_iload X2 dL_law_1131 6 rfl ?_
    refine k9_i2l X2 dL_law_1133 ?_
    refine k9_lcmp X2 dL_law_1134 ?_
    refine k9_if_eq (tgt := 1140) X2 dL_law_1135 (by decide) (fun _ => ?_) (fun c1 => absurd ((lg_cmp_eq _ _).mpr rfl) c1)
    refine k9_goto (tgt := 1527) X2 dL_law_1140 (by decide) ?_
    refine k9_sub [0, 1, 2, 3, 4] rfl ?_
    refine k9_widen (k := cells + 4) (n := slots + 24) (by omega) (by omega) ?_
    exact K _ m2 hrel
  · obtain ⟨E, hE⟩ : ∃ E, x = some E := by
      cases x with
      | none => exact absurd rfl hxn
      | some E => exact ⟨E, rfl⟩
    obtain ⟨bv, m2, hR, h5, hrel⟩ := hs E hE
    have e0 : ¬ k9_code [m9_io, m9_ia] x = 0 := by rw [hE]; exact op_cne (hx E hE) (by decide)
    refine k9_istore (i := 5) X dL_law_1092 (by decide) [1, 2, 3, 4, 5, 0] rfl ?_
    refine k9_aload_n X dL_law_1094 rfl 2 rfl ?_
    refine k9_aload_n X dL_law_1095 rfl 0 rfl ?_
    refine k9_iload X dL_law_1096 4 rfl ?_
    refine k9_iconst (v := nI 1) X dL_law_1098 (by decide) ?_
    refine k9_iadd X dL_law_1099 ?_
    refine k9_sld X hX hbl hbA (j := i + 1) (nI_add i 1) (by omega) hL dL_law_1100 ?_
    refine k9_aload_n X dL_law_1101 rfl 0 rfl ?_
    refine k9_iload X dL_law_1102 4 rfl ?_
    refine k9_iconst (v := nI 2) X dL_law_1104 (by decide) ?_
    refine k9_iadd X dL_law_1105 ?_
    refine k9_sld X hX hbl hbA (j := i + 2) (nI_add i 2) (by omega) hL dL_law_1106 ?_
    refine k9_callVi2 X (hR G) k9_ob_76 (cwV 2 X.2.2.2.2.1 gL_law_X7_tune rfl rfl rfl (by decide +kernel) ⟨Nat.le_of_ble_eq_true rfl, Nat.le_of_ble_eq_true rfl⟩) (Nat.le_of_ble_eq_true rfl) dL_law_1107 ⟨by show cells + 2 ≤ 601024; omega, by show slots + 12 ≤ 7293034; omega⟩ ?_
    refine k9_istore (i := 6) X dL_law_1110 (by decide) [1, 2, 3, 4, 5, 6, 0] rfl ?_
    refine k9_aload_n X dL_law_1112 rfl 2 rfl ?_
    refine k9_callVi0 X (ct_X7_thrown l G m2) k9_ob_76 (cwV 0 X.2.2.2.2.1 gL_law_X7_thrown rfl rfl rfl (by decide +kernel) ⟨Nat.le_of_ble_eq_true rfl, Nat.le_of_ble_eq_true rfl⟩) (Nat.le_of_ble_eq_true rfl) dL_law_1113 ⟨by show cells + 2 ≤ 601024; omega, by show slots + 12 ≤ 7293034; omega⟩ ?_
    refine k9_iload X dL_law_1116 5 rfl ?_
    refine k9_icmp_eq (tgt := 1123) X dL_law_1118 (by decide) (fun _ => ?_) (fun c1 => absurd h5 c1)
    refine k9_iload X dL_law_1123 5 rfl ?_
    refine k9_if_ne (tgt := 1140) X dL_law_1125 (by decide) (fun _ => ?_) (fun c1 => absurd c1 e0)
    refine k9_goto (tgt := 1527) X dL_law_1140 (by decide) ?_
    refine k9_sub [0, 1, 2, 3, 4] rfl ?_
    refine k9_widen (k := cells + 4) (n := slots + 24) (by omega) (by omega) ?_
    have h9 := K (k9_ga G 90) m2 hrel
    rw [k9_gv_self] at h9
    exact h9
set_option maxRecDepth 20000 in
theorem lb_count (X : k9_X p room_1 s m args c A G 9 cL_law wsL_law RL room_1) (hX : va_X b L xs s s.heap) (hbl : b < s.heap.size) (hbA : ¬ A b) (hi : i + 4 ≤ L) (hL : L ≤ 2048) (hrm : cells + 4 ≤ 601024 ∧ slots + 24 ≤ 7293034) (h : op_A l yX6_count wsX6_count rm_X6_count 1 6 yX7_count wsX7_count rm_X7_count (fun G => [.ref (k9_ga G 0), .int (xs (i + 1))]) (fun G => [.ref (k9_ga G 76), .int (xs (i + 1))]) [m9_ia] M M) (K : ∀ (v : Nat) (M2 : k9_Mem), (∃ B R F U, q9_rel M2 B R F U) → k9_U p l e room_1 s m args below meth c Q A (k9_gv G v) 9 (cells + 4) (slots + 24) M2 1527 (lw_lv G b i) []) : k9_U p l e room_1 s m args below meth c Q A G 9 cells slots M 1143 (lw_lv G b i) [] := by
  obtain ⟨x, rv, mv, hC, hx, hn, hs⟩ := h
  refine k9_aload_n X dL_law_1143 rfl 1 rfl ?_
  refine k9_aload_n X dL_law_1144 rfl 0 rfl ?_
  refine k9_iload X dL_law_1145 4 rfl ?_
  refine k9_iconst (v := nI 1) X dL_law_1147 (by decide) ?_
  refine k9_iadd X dL_law_1148 ?_
  refine k9_sld X hX hbl hbA (j := i + 1) (nI_add i 1) (by omega) hL dL_law_1149 ?_
  refine k9_aload_n X dL_law_1150 rfl 3 rfl ?_
  refine k9_callL (st := []) X (ct_L_count l G M (xs (i + 1)) (hC G) hx) (vx_cwSW 3 X.2.2.2.2.1 gL_law_L_count rfl rfl rfl (by decide +kernel) ⟨Nat.le_of_ble_eq_true rfl, Nat.le_of_ble_eq_true rfl⟩) rfl rfl (Nat.le_of_ble_eq_true rfl) dL_law_1151 ⟨by show cells + 1 ≤ 601024; omega, by show slots + 6 ≤ 7293034; omega⟩ (fun hxn => ?_) (fun hxn => ?_)
  · obtain ⟨m2, hR, h5, hrel⟩ := hn hxn
    have X2 : k9_X p room_1 s m args c A (k9_out G rv) 9 cL_law wsL_law RL room_1 := X
    have e0 : k9_code [m9_ia] x = 0 := by rw [hxn]; rfl
    rw [e0]
    refine k9_istore (i := 5) X2 dL_law_1154 (by decide) [1, 2, 3, 4, 5, 0] rfl ?_
    refine k9_aload_n X2 dL_law_1156 rfl 2 rfl ?_
    refine k9_aload_n X2 dL_law_1157 rfl 0 rfl ?_
    refine k9_iload X2 dL_law_1158 4 rfl ?_
    refine k9_iconst (v := nI 1) X2 dL_law_1160 (by decide) ?_
    refine k9_iadd X2 dL_law_1161 ?_
    refine k9_sld X2 hX hbl hbA (j := i + 1) (nI_add i 1) (by omega) hL dL_law_1162 ?_
    refine k9_callVi1 X2 (hR (k9_out G rv)) k9_ob_76 (cwV 1 X.2.2.2.2.1 gL_law_X7_count rfl rfl rfl (by decide +kernel) ⟨Nat.le_of_ble_eq_true rfl, Nat.le_of_ble_eq_true rfl⟩) (Nat.le_of_ble_eq_true rfl) dL_law_1163 ⟨by show cells + 1 ≤ 601024; omega, by show slots + 6 ≤ 7293034; omega⟩ ?_
    refine k9_istore (i := 6) X2 dL_law_1166 (by decide) [1, 2, 3, 4, 5, 6, 0] rfl ?_
    refine k9_aload_n X2 dL_law_1168 rfl 2 rfl ?_
    refine k9_callVi0 X2 (ct_X7_thrown l (k9_out G rv) m2) k9_ob_76 (cwV 0 X.2.2.2.2.1 gL_law_X7_thrown rfl rfl rfl (by decide +kernel) ⟨Nat.le_of_ble_eq_true rfl, Nat.le_of_ble_eq_true rfl⟩) (Nat.le_of_ble_eq_true rfl) dL_law_1169 ⟨by show cells + 1 ≤ 601024; omega, by show slots + 6 ≤ 7293034; omega⟩ ?_
    refine k9_iload X2 dL_law_1172 5 rfl ?_
    refine k9_icmp_eq (tgt := 1179) X2 dL_law_1174 (by decide) (fun _ => ?_) (fun c1 => absurd h5 c1)
    refine k9_iload X2 dL_law_1179 5 rfl ?_
    refine k9_if_ne (tgt := 1196) X2 dL_law_1181 (by decide) (fun c1 => absurd rfl c1) (fun _ => ?_)
    refine k9_aload_n X2 dL_law_1184 rfl 3 rfl ?_
    refine k9_iconst (v := 0) X2 dL_law_1185 (by decide) ?_
    refine k9_lald X2 dL_law_1186 ?_
    refine k9_iload X2 dL_law_1187 6 rfl ?_
    refine k9_i2l X2 dL_law_1189 ?_
    refine k9_lcmp X2 dL_law_1190 ?_
    refine k9_if_eq (tgt := 1196) X2 dL_law_1191 (by decide) (fun _ => ?_) (fun c1 => absurd ((lg_cmp_eq _ _).mpr rfl) c1)
    refine k9_goto (tgt := 1527) X2 dL_law_1196 (by decide) ?_
    refine k9_sub [0, 1, 2, 3, 4] rfl ?_
    refine k9_widen (k := cells + 4) (n := slots + 24) (by omega) (by omega) ?_
    exact K _ m2 hrel
  · obtain ⟨E, hE⟩ : ∃ E, x = some E := by
      cases x with
      | none => exact absurd rfl hxn
      | some E => exact ⟨E, rfl⟩
    obtain ⟨bv, m2, hR, h5, hrel⟩ := hs E hE
    have e0 : ¬ k9_code [m9_ia] x = 0 := by rw [hE]; exact op_cne (hx E hE) (by decide)
    refine k9_istore (i := 5) X dL_law_1154 (by decide) [1, 2, 3, 4, 5, 0] rfl ?_
    refine k9_aload_n X dL_law_1156 rfl 2 rfl ?_
    refine k9_aload_n X dL_law_1157 rfl 0 rfl ?_
    refine k9_iload X dL_law_1158 4 rfl ?_
    refine k9_iconst (v := nI 1) X dL_law_1160 (by decide) ?_
    refine k9_iadd X dL_law_1161 ?_
    refine k9_sld X hX hbl hbA (j := i + 1) (nI_add i 1) (by omega) hL dL_law_1162 ?_
    refine k9_callVi1 X (hR G) k9_ob_76 (cwV 1 X.2.2.2.2.1 gL_law_X7_count rfl rfl rfl (by decide +kernel) ⟨Nat.le_of_ble_eq_true rfl, Nat.le_of_ble_eq_true rfl⟩) (Nat.le_of_ble_eq_true rfl) dL_law_1163 ⟨by show cells + 1 ≤ 601024; omega, by show slots + 6 ≤ 7293034; omega⟩ ?_
    refine k9_istore (i := 6) X dL_law_1166 (by decide) [1, 2, 3, 4, 5, 6, 0] rfl ?_
    refine k9_aload_n X dL_law_1168 rfl 2 rfl ?_
    refine k9_callVi0 X (ct_X7_thrown l G m2) k9_ob_76 (cwV 0 X.2.2.2.2.1 gL_law_X7_thrown rfl rfl rfl (by decide +kernel) ⟨Nat.le_of_ble_eq_true rfl, Nat.le_of_ble_eq_true rfl⟩) (Nat.le_of_ble_eq_true rfl) dL_law_1169 ⟨by show cells + 1 ≤ 601024; omega, by show slots + 6 ≤ 7293034; omega⟩ ?_
    refine k9_iload X dL_law_1172 5 rfl ?_
    refine k9_icmp_eq (tgt := 1179) X dL_law_1174 (by decide) (fun _ => ?_) (fun c1 => absurd h5 c1)
    refine k9_iload X dL_law_1179 5 rfl ?_
    refine k9_if_ne (tgt := 1196) X dL_law_1181 (by decide) (fun _ => ?_) (fun c1 => absurd c1 e0)
    refine k9_goto (tgt := 1527) X dL_law_1196 (by decide) ?_
    refine k9_sub [0, 1, 2, 3, 4] rfl ?_
    refine k9_widen (k := cells + 4) (n := slots + 24) (by omega) (by omega) ?_
    have h9 := K (k9_ga G 90) m2 hrel
    rw [k9_gv_self] at h9
    exact h9
set_option maxRecDepth 20000 in
theorem lb_setting (X : k9_X p room_1 s m args c A G 9 cL_law wsL_law RL room_1) (hX : va_X b L xs s s.heap) (hbl : b < s.heap.size) (hbA : ¬ A b) (hi : i + 4 ≤ L) (hL : L ≤ 2048) (hrm : cells + 4 ≤ 601024 ∧ slots + 24 ≤ 7293034) (h : op_A l yX6_setting wsX6_setting rm_X6_setting 1 6 yX7_setting wsX7_setting rm_X7_setting (fun G => [.ref (k9_ga G 0), .int (xs (i + 1))]) (fun G => [.ref (k9_ga G 76), .int (xs (i + 1))]) [m9_io] M M) (K : ∀ (v : Nat) (M2 : k9_Mem), (∃ B R F U, q9_rel M2 B R F U) → k9_U p l e room_1 s m args below meth c Q A (k9_gv G v) 9 (cells + 4) (slots + 24) M2 1527 (lw_lv G b i) []) : k9_U p l e room_1 s m args below meth c Q A G 9 cells slots M 1199 (lw_lv G b i) [] := by
  obtain ⟨x, rv, mv, hC, hx, hn, hs⟩ := h
  refine k9_aload_n X dL_law_1199 rfl 1 rfl ?_
  refine k9_aload_n X dL_law_1200 rfl 0 rfl ?_
  refine k9_iload X dL_law_1201 4 rfl ?_
  refine k9_iconst (v := nI 1) X dL_law_1203 (by decide) ?_
  refine k9_iadd X dL_law_1204 ?_
  refine k9_sld X hX hbl hbA (j := i + 1) (nI_add i 1) (by omega) hL dL_law_1205 ?_
  refine k9_aload_n X dL_law_1206 rfl 3 rfl ?_
  refine k9_callL (st := []) X (ct_L_setting l G M (xs (i + 1)) (hC G) hx) (vx_cwSW 3 X.2.2.2.2.1 gL_law_L_setting rfl rfl rfl (by decide +kernel) ⟨Nat.le_of_ble_eq_true rfl, Nat.le_of_ble_eq_true rfl⟩) rfl rfl (Nat.le_of_ble_eq_true rfl) dL_law_1207 ⟨by show cells + 1 ≤ 601024; omega, by show slots + 6 ≤ 7293034; omega⟩ (fun hxn => ?_) (fun hxn => ?_)
  · obtain ⟨m2, hR, h5, hrel⟩ := hn hxn
    have X2 : k9_X p room_1 s m args c A (k9_out G rv) 9 cL_law wsL_law RL room_1 := X
    have e0 : k9_code [m9_io] x = 0 := by rw [hxn]; rfl
    rw [e0]
    refine k9_istore (i := 5) X2 dL_law_1210 (by decide) [1, 2, 3, 4, 5, 0] rfl ?_
    refine k9_aload_n X2 dL_law_1212 rfl 2 rfl ?_
    refine k9_aload_n X2 dL_law_1213 rfl 0 rfl ?_
    refine k9_iload X2 dL_law_1214 4 rfl ?_
    refine k9_iconst (v := nI 1) X2 dL_law_1216 (by decide) ?_
    refine k9_iadd X2 dL_law_1217 ?_
    refine k9_sld X2 hX hbl hbA (j := i + 1) (nI_add i 1) (by omega) hL dL_law_1218 ?_
    refine k9_callVi1 X2 (hR (k9_out G rv)) k9_ob_76 (cwV 1 X.2.2.2.2.1 gL_law_X7_setting rfl rfl rfl (by decide +kernel) ⟨Nat.le_of_ble_eq_true rfl, Nat.le_of_ble_eq_true rfl⟩) (Nat.le_of_ble_eq_true rfl) dL_law_1219 ⟨by show cells + 1 ≤ 601024; omega, by show slots + 6 ≤ 7293034; omega⟩ ?_
    refine k9_istore (i := 6) X2 dL_law_1222 (by decide) [1, 2, 3, 4, 5, 6, 0] rfl ?_
    refine k9_aload_n X2 dL_law_1224 rfl 2 rfl ?_
    refine k9_callVi0 X2 (ct_X7_thrown l (k9_out G rv) m2) k9_ob_76 (cwV 0 X.2.2.2.2.1 gL_law_X7_thrown rfl rfl rfl (by decide +kernel) ⟨Nat.le_of_ble_eq_true rfl, Nat.le_of_ble_eq_true rfl⟩) (Nat.le_of_ble_eq_true rfl) dL_law_1225 ⟨by show cells + 1 ≤ 601024; omega, by show slots + 6 ≤ 7293034; omega⟩ ?_
    refine k9_iload X2 dL_law_1228 5 rfl ?_
    refine k9_icmp_eq (tgt := 1235) X2 dL_law_1230 (by decide) (fun _ => ?_) (fun c1 => absurd h5 c1)
    refine k9_iload X2 dL_law_1235 5 rfl ?_
    refine k9_if_ne (tgt := 1252) X2 dL_law_1237 (by decide) (fun c1 => absurd rfl c1) (fun _ => ?_)
    refine k9_aload_n X2 dL_law_1240 rfl 3 rfl ?_
    refine k9_iconst (v := 0) X2 dL_law_1241 (by decide) ?_
    refine k9_lald X2 dL_law_1242 ?_
    refine k9_iload X2 dL_law_1243 6 rfl ?_
    refine k9_i2l X2 dL_law_1245 ?_
    refine k9_lcmp X2 dL_law_1246 ?_
    refine k9_if_eq (tgt := 1252) X2 dL_law_1247 (by decide) (fun _ => ?_) (fun c1 => absurd ((lg_cmp_eq _ _).mpr rfl) c1)
    refine k9_goto (tgt := 1527) X2 dL_law_1252 (by decide) ?_
    refine k9_sub [0, 1, 2, 3, 4] rfl ?_
    refine k9_widen (k := cells + 4) (n := slots + 24) (by omega) (by omega) ?_
    exact K _ m2 hrel
  · obtain ⟨E, hE⟩ : ∃ E, x = some E := by
      cases x with
      | none => exact absurd rfl hxn
      | some E => exact ⟨E, rfl⟩
    obtain ⟨bv, m2, hR, h5, hrel⟩ := hs E hE
    have e0 : ¬ k9_code [m9_io] x = 0 := by rw [hE]; exact op_cne (hx E hE) (by decide)
    refine k9_istore (i := 5) X dL_law_1210 (by decide) [1, 2, 3, 4, 5, 0] rfl ?_
    refine k9_aload_n X dL_law_1212 rfl 2 rfl ?_
    refine k9_aload_n X dL_law_1213 rfl 0 rfl ?_
    refine k9_iload X dL_law_1214 4 rfl ?_
    refine k9_iconst (v := nI 1) X dL_law_1216 (by decide) ?_
    refine k9_iadd X dL_law_1217 ?_
    refine k9_sld X hX hbl hbA (j := i + 1) (nI_add i 1) (by omega) hL dL_law_1218 ?_
    refine k9_callVi1 X (hR G) k9_ob_76 (cwV 1 X.2.2.2.2.1 gL_law_X7_setting rfl rfl rfl (by decide +kernel) ⟨Nat.le_of_ble_eq_true rfl, Nat.le_of_ble_eq_true rfl⟩) (Nat.le_of_ble_eq_true rfl) dL_law_1219 ⟨by show cells + 1 ≤ 601024; omega, by show slots + 6 ≤ 7293034; omega⟩ ?_
    refine k9_istore (i := 6) X dL_law_1222 (by decide) [1, 2, 3, 4, 5, 6, 0] rfl ?_
    refine k9_aload_n X dL_law_1224 rfl 2 rfl ?_
    refine k9_callVi0 X (ct_X7_thrown l G m2) k9_ob_76 (cwV 0 X.2.2.2.2.1 gL_law_X7_thrown rfl rfl rfl (by decide +kernel) ⟨Nat.le_of_ble_eq_true rfl, Nat.le_of_ble_eq_true rfl⟩) (Nat.le_of_ble_eq_true rfl) dL_law_1225 ⟨by show cells + 1 ≤ 601024; omega, by show slots + 6 ≤ 7293034; omega⟩ ?_
    refine k9_iload X dL_law_1228 5 rfl ?_
    refine k9_icmp_eq (tgt := 1235) X dL_law_1230 (by decide) (fun _ => ?_) (fun c1 => absurd h5 c1)
    refine k9_iload X dL_law_1235 5 rfl ?_
    refine k9_if_ne (tgt := 1252) X dL_law_1237 (by decide) (fun _ => ?_) (fun c1 => absurd c1 e0)
    refine k9_goto (tgt := 1527) X dL_law_1252 (by decide) ?_
    refine k9_sub [0, 1, 2, 3, 4] rfl ?_
    refine k9_widen (k := cells + 4) (n := slots + 24) (by omega) (by omega) ?_
    have h9 := K (k9_ga G 90) m2 hrel
    rw [k9_gv_self] at h9
    exact h9
set_option maxRecDepth 20000 in
theorem lb_bestSteer (X : k9_X p room_1 s m args c A G 9 cL_law wsL_law RL room_1) (hX : va_X b L xs s s.heap) (hbl : b < s.heap.size) (hbA : ¬ A b) (hi : i + 4 ≤ L) (hL : L ≤ 2048) (hrm : cells + 4 ≤ 601024 ∧ slots + 24 ≤ 7293034) (h : op_A l yX6_bestSteer wsX6_bestSteer rm_X6_bestSteer 3 18 yX7_bestSteer wsX7_bestSteer rm_X7_bestSteer (fun G => [.ref (k9_ga G 0), .int (xs (i + 1)), .int (xs (i + 2)), .int (xs (i + 3))]) (fun G => [.ref (k9_ga G 76), .int (xs (i + 1)), .int (xs (i + 2)), .int (xs (i + 3))]) [m9_io, m9_ia] M M) (K : ∀ (v : Nat) (M2 : k9_Mem), (∃ B R F U, q9_rel M2 B R F U) → k9_U p l e room_1 s m args below meth c Q A (k9_gv G v) 9 (cells + 4) (slots + 24) M2 1527 (lw_lv G b i) []) : k9_U p l e room_1 s m args below meth c Q A G 9 cells slots M 1255 (lw_lv G b i) [] := by
  obtain ⟨x, rv, mv, hC, hx, hn, hs⟩ := h
  refine k9_aload_n X dL_law_1255 rfl 1 rfl ?_
  refine k9_aload_n X dL_law_1256 rfl 0 rfl ?_
  refine k9_iload X dL_law_1257 4 rfl ?_
  refine k9_iconst (v := nI 1) X dL_law_1259 (by decide) ?_
  refine k9_iadd X dL_law_1260 ?_
  refine k9_sld X hX hbl hbA (j := i + 1) (nI_add i 1) (by omega) hL dL_law_1261 ?_
  refine k9_aload_n X dL_law_1262 rfl 0 rfl ?_
  refine k9_iload X dL_law_1263 4 rfl ?_
  refine k9_iconst (v := nI 2) X dL_law_1265 (by decide) ?_
  refine k9_iadd X dL_law_1266 ?_
  refine k9_sld X hX hbl hbA (j := i + 2) (nI_add i 2) (by omega) hL dL_law_1267 ?_
  refine k9_aload_n X dL_law_1268 rfl 0 rfl ?_
  refine k9_iload X dL_law_1269 4 rfl ?_
  refine k9_iconst (v := nI 3) X dL_law_1271 (by decide) ?_
  refine k9_iadd X dL_law_1272 ?_
  refine k9_sld X hX hbl hbA (j := i + 3) (nI_add i 3) (by omega) hL dL_law_1273 ?_
  refine k9_aload_n X dL_law_1274 rfl 3 rfl ?_
  refine k9_callL (st := []) X (ct_L_bestSteer l G M (xs (i + 1)) (xs (i + 2)) (xs (i + 3)) (hC G) hx) (vx_cwSW 5 X.2.2.2.2.1 gL_law_L_bestSteer rfl rfl rfl (by decide +kernel) ⟨Nat.le_of_ble_eq_true rfl, Nat.le_of_ble_eq_true rfl⟩) rfl rfl (Nat.le_of_ble_eq_true rfl) dL_law_1275 ⟨by show cells + 3 ≤ 601024; omega, by show slots + 18 ≤ 7293034; omega⟩ (fun hxn => ?_) (fun hxn => ?_)
  · obtain ⟨m2, hR, h5, hrel⟩ := hn hxn
    have X2 : k9_X p room_1 s m args c A (k9_out G rv) 9 cL_law wsL_law RL room_1 := X
    have e0 : k9_code [m9_io, m9_ia] x = 0 := by rw [hxn]; rfl
    rw [e0]
    refine k9_istore (i := 5) X2 dL_law_1278 (by decide) [1, 2, 3, 4, 5, 0] rfl ?_
    refine k9_aload_n X2 dL_law_1280 rfl 2 rfl ?_
    refine k9_aload_n X2 dL_law_1281 rfl 0 rfl ?_
    refine k9_iload X2 dL_law_1282 4 rfl ?_
    refine k9_iconst (v := nI 1) X2 dL_law_1284 (by decide) ?_
    refine k9_iadd X2 dL_law_1285 ?_
    refine k9_sld X2 hX hbl hbA (j := i + 1) (nI_add i 1) (by omega) hL dL_law_1286 ?_
    refine k9_aload_n X2 dL_law_1287 rfl 0 rfl ?_
    refine k9_iload X2 dL_law_1288 4 rfl ?_
    refine k9_iconst (v := nI 2) X2 dL_law_1290 (by decide) ?_
    refine k9_iadd X2 dL_law_1291 ?_
    refine k9_sld X2 hX hbl hbA (j := i + 2) (nI_add i 2) (by omega) hL dL_law_1292 ?_
    refine k9_aload_n X2 dL_law_1293 rfl 0 rfl ?_
    refine k9_iload X2 dL_law_1294 4 rfl ?_
    refine k9_iconst (v := nI 3) X2 dL_law_1296 (by decide) ?_
    refine k9_iadd X2 dL_law_1297 ?_
    refine k9_sld X2 hX hbl hbA (j := i + 3) (nI_add i 3) (by omega) hL dL_law_1298 ?_
    refine k9_callVi3 X2 (hR (k9_out G rv)) k9_ob_76 (cwV 3 X.2.2.2.2.1 gL_law_X7_bestSteer rfl rfl rfl (by decide +kernel) ⟨Nat.le_of_ble_eq_true rfl, Nat.le_of_ble_eq_true rfl⟩) (Nat.le_of_ble_eq_true rfl) dL_law_1299 ⟨by show cells + 3 ≤ 601024; omega, by show slots + 18 ≤ 7293034; omega⟩ ?_
    refine k9_istore (i := 6) X2 dL_law_1302 (by decide) [1, 2, 3, 4, 5, 6, 0] rfl ?_
    refine k9_aload_n X2 dL_law_1304 rfl 2 rfl ?_
    refine k9_callVi0 X2 (ct_X7_thrown l (k9_out G rv) m2) k9_ob_76 (cwV 0 X.2.2.2.2.1 gL_law_X7_thrown rfl rfl rfl (by decide +kernel) ⟨Nat.le_of_ble_eq_true rfl, Nat.le_of_ble_eq_true rfl⟩) (Nat.le_of_ble_eq_true rfl) dL_law_1305 ⟨by show cells + 3 ≤ 601024; omega, by show slots + 18 ≤ 7293034; omega⟩ ?_
    refine k9_iload X2 dL_law_1308 5 rfl ?_
    refine k9_icmp_eq (tgt := 1315) X2 dL_law_1310 (by decide) (fun _ => ?_) (fun c1 => absurd h5 c1)
    refine k9_iload X2 dL_law_1315 5 rfl ?_
    refine k9_if_ne (tgt := 1332) X2 dL_law_1317 (by decide) (fun c1 => absurd rfl c1) (fun _ => ?_)
    refine k9_aload_n X2 dL_law_1320 rfl 3 rfl ?_
    refine k9_iconst (v := 0) X2 dL_law_1321 (by decide) ?_
    refine k9_lald X2 dL_law_1322 ?_
    refine k9_iload X2 dL_law_1323 6 rfl ?_
    refine k9_i2l X2 dL_law_1325 ?_
    refine k9_lcmp X2 dL_law_1326 ?_
    refine k9_if_eq (tgt := 1332) X2 dL_law_1327 (by decide) (fun _ => ?_) (fun c1 => absurd ((lg_cmp_eq _ _).mpr rfl) c1)
    refine k9_goto (tgt := 1527) X2 dL_law_1332 (by decide) ?_
    refine k9_sub [0, 1, 2, 3, 4] rfl ?_
    refine k9_widen (k := cells + 4) (n := slots + 24) (by omega) (by omega) ?_
    exact K _ m2 hrel
  · obtain ⟨E, hE⟩ : ∃ E, x = some E := by
      cases x with
      | none => exact absurd rfl hxn
      | some E => exact ⟨E, rfl⟩
    obtain ⟨bv, m2, hR, h5, hrel⟩ := hs E hE
    have e0 : ¬ k9_code [m9_io, m9_ia] x = 0 := by rw [hE]; exact op_cne (hx E hE) (by decide)
    refine k9_istore (i := 5) X dL_law_1278 (by decide) [1, 2, 3, 4, 5, 0] rfl ?_
    refine k9_aload_n X dL_law_1280 rfl 2 rfl ?_
    refine k9_aload_n X dL_law_1281 rfl 0 rfl ?_
    refine k9_iload X dL_law_1282 4 rfl ?_
    refine k9_iconst (v := nI 1) X dL_law_1284 (by decide) ?_
    refine k9_iadd X dL_law_1285 ?_
    refine k9_sld X hX hbl hbA (j := i + 1) (nI_add i 1) (by omega) hL dL_law_1286 ?_
    refine k9_aload_n X dL_law_1287 rfl 0 rfl ?_
    refine k9_iload X dL_law_1288 4 rfl ?_
    refine k9_iconst (v := nI 2) X dL_law_1290 (by decide) ?_
    refine k9_iadd X dL_law_1291 ?_
    refine k9_sld X hX hbl hbA (j := i + 2) (nI_add i 2) (by omega) hL dL_law_1292 ?_
    refine k9_aload_n X dL_law_1293 rfl 0 rfl ?_
    refine k9_iload X dL_law_1294 4 rfl ?_
    refine k9_iconst (v := nI 3) X dL_law_1296 (by decide) ?_
    refine k9_iadd X dL_law_1297 ?_
    refine k9_sld X hX hbl hbA (j := i + 3) (nI_add i 3) (by omega) hL dL_law_1298 ?_
    refine k9_callVi3 X (hR G) k9_ob_76 (cwV 3 X.2.2.2.2.1 gL_law_X7_bestSteer rfl rfl rfl (by decide +kernel) ⟨Nat.le_of_ble_eq_true rfl, Nat.le_of_ble_eq_true rfl⟩) (Nat.le_of_ble_eq_true rfl) dL_law_1299 ⟨by show cells + 3 ≤ 601024; omega, by show slots + 18 ≤ 7293034; omega⟩ ?_
    refine k9_istore (i := 6) X dL_law_1302 (by decide) [1, 2, 3, 4, 5, 6, 0] rfl ?_
    refine k9_aload_n X dL_law_1304 rfl 2 rfl ?_
    refine k9_callVi0 X (ct_X7_thrown l G m2) k9_ob_76 (cwV 0 X.2.2.2.2.1 gL_law_X7_thrown rfl rfl rfl (by decide +kernel) ⟨Nat.le_of_ble_eq_true rfl, Nat.le_of_ble_eq_true rfl⟩) (Nat.le_of_ble_eq_true rfl) dL_law_1305 ⟨by show cells + 3 ≤ 601024; omega, by show slots + 18 ≤ 7293034; omega⟩ ?_
    refine k9_iload X dL_law_1308 5 rfl ?_
    refine k9_icmp_eq (tgt := 1315) X dL_law_1310 (by decide) (fun _ => ?_) (fun c1 => absurd h5 c1)
    refine k9_iload X dL_law_1315 5 rfl ?_
    refine k9_if_ne (tgt := 1332) X dL_law_1317 (by decide) (fun _ => ?_) (fun c1 => absurd c1 e0)
    refine k9_goto (tgt := 1527) X dL_law_1332 (by decide) ?_
    refine k9_sub [0, 1, 2, 3, 4] rfl ?_
    refine k9_widen (k := cells + 4) (n := slots + 24) (by omega) (by omega) ?_
    have h9 := K (k9_ga G 90) m2 hrel
    rw [k9_gv_self] at h9
    exact h9
set_option maxRecDepth 20000 in
theorem lb_bestBridge (X : k9_X p room_1 s m args c A G 9 cL_law wsL_law RL room_1) (hrm : cells + 4 ≤ 601024 ∧ slots + 24 ≤ 7293034) (h : op_B l yX6_bestBridge wsX6_bestBridge rm_X6_bestBridge yX7_bestBridge wsX7_bestBridge rm_X7_bestBridge M) (K : ∀ (v : Nat) (M2 : k9_Mem), (∃ B R F U, q9_rel M2 B R F U) → k9_U p l e room_1 s m args below meth c Q A (k9_gv G v) 9 (cells + 4) (slots + 24) M2 1527 (lw_lv G b i) []) : k9_U p l e room_1 s m args below meth c Q A G 9 cells slots M 1335 (lw_lv G b i) [] := by
  obtain ⟨rv, mv, m2, hC, hR, hrel⟩ := h
  refine k9_aload_n X dL_law_1335 rfl 1 rfl ?_
  refine k9_callVi0 X (hC G) k9_ob_0 (cwV 0 X.2.2.2.2.1 gL_law_X6_bestBridge rfl rfl rfl (by decide +kernel) ⟨Nat.le_of_ble_eq_true rfl, Nat.le_of_ble_eq_true rfl⟩) (Nat.le_of_ble_eq_true rfl) dL_law_1336 ⟨by show cells ≤ 601024; omega, by show slots ≤ 7293034; omega⟩ ?_
  refine k9_aload_n X dL_law_1339 rfl 2 rfl ?_
  refine k9_callVi0 X (hR G) k9_ob_76 (cwV 0 X.2.2.2.2.1 gL_law_X7_bestBridge rfl rfl rfl (by decide +kernel) ⟨Nat.le_of_ble_eq_true rfl, Nat.le_of_ble_eq_true rfl⟩) (Nat.le_of_ble_eq_true rfl) dL_law_1340 ⟨by show cells ≤ 601024; omega, by show slots ≤ 7293034; omega⟩ ?_
  refine k9_icmp_eq (tgt := 1527) X dL_law_1343 (by decide) (fun _ => ?_) (fun c1 => absurd rfl c1)
  refine k9_sub [0, 1, 2, 3, 4] rfl ?_
  refine k9_widen (k := cells + 4) (n := slots + 24) (by omega) (by omega) ?_
  have h9 := K (k9_ga G 90) m2 hrel
  rw [k9_gv_self] at h9
  exact h9
set_option maxRecDepth 20000 in
theorem lb_bestBreak (X : k9_X p room_1 s m args c A G 9 cL_law wsL_law RL room_1) (hX : va_X b L xs s s.heap) (hbl : b < s.heap.size) (hbA : ¬ A b) (hi : i + 4 ≤ L) (hL : L ≤ 2048) (hrm : cells + 4 ≤ 601024 ∧ slots + 24 ≤ 7293034) (h : op_A l yX6_bestBreak wsX6_bestBreak rm_X6_bestBreak 2 12 yX7_bestBreak wsX7_bestBreak rm_X7_bestBreak (fun G => [.ref (k9_ga G 0), .int (xs (i + 1)), .int (xs (i + 2))]) (fun G => [.ref (k9_ga G 76), .int (xs (i + 1)), .int (xs (i + 2))]) [m9_ia] M M) (K : ∀ (v : Nat) (M2 : k9_Mem), (∃ B R F U, q9_rel M2 B R F U) → k9_U p l e room_1 s m args below meth c Q A (k9_gv G v) 9 (cells + 4) (slots + 24) M2 1527 (lw_lv G b i) []) : k9_U p l e room_1 s m args below meth c Q A G 9 cells slots M 1348 (lw_lv G b i) [] := by
  obtain ⟨x, rv, mv, hC, hx, hn, hs⟩ := h
  refine k9_aload_n X dL_law_1348 rfl 1 rfl ?_
  refine k9_aload_n X dL_law_1349 rfl 0 rfl ?_
  refine k9_iload X dL_law_1350 4 rfl ?_
  refine k9_iconst (v := nI 1) X dL_law_1352 (by decide) ?_
  refine k9_iadd X dL_law_1353 ?_
  refine k9_sld X hX hbl hbA (j := i + 1) (nI_add i 1) (by omega) hL dL_law_1354 ?_
  refine k9_aload_n X dL_law_1355 rfl 0 rfl ?_
  refine k9_iload X dL_law_1356 4 rfl ?_
  refine k9_iconst (v := nI 2) X dL_law_1358 (by decide) ?_
  refine k9_iadd X dL_law_1359 ?_
  refine k9_sld X hX hbl hbA (j := i + 2) (nI_add i 2) (by omega) hL dL_law_1360 ?_
  refine k9_aload_n X dL_law_1361 rfl 3 rfl ?_
  refine k9_callL (st := []) X (ct_L_bestBreak l G M (xs (i + 1)) (xs (i + 2)) (hC G) hx) (vx_cwSW 4 X.2.2.2.2.1 gL_law_L_bestBreak rfl rfl rfl (by decide +kernel) ⟨Nat.le_of_ble_eq_true rfl, Nat.le_of_ble_eq_true rfl⟩) rfl rfl (Nat.le_of_ble_eq_true rfl) dL_law_1362 ⟨by show cells + 2 ≤ 601024; omega, by show slots + 12 ≤ 7293034; omega⟩ (fun hxn => ?_) (fun hxn => ?_)
  · obtain ⟨m2, hR, h5, hrel⟩ := hn hxn
    have X2 : k9_X p room_1 s m args c A (k9_out G rv) 9 cL_law wsL_law RL room_1 := X
    have e0 : k9_code [m9_ia] x = 0 := by rw [hxn]; rfl
    rw [e0]
    refine k9_istore (i := 5) X2 dL_law_1365 (by decide) [1, 2, 3, 4, 5, 0] rfl ?_
    refine k9_aload_n X2 dL_law_1367 rfl 2 rfl ?_
    refine k9_aload_n X2 dL_law_1368 rfl 0 rfl ?_
    refine k9_iload X2 dL_law_1369 4 rfl ?_
    refine k9_iconst (v := nI 1) X2 dL_law_1371 (by decide) ?_
    refine k9_iadd X2 dL_law_1372 ?_
    refine k9_sld X2 hX hbl hbA (j := i + 1) (nI_add i 1) (by omega) hL dL_law_1373 ?_
    refine k9_aload_n X2 dL_law_1374 rfl 0 rfl ?_
    refine k9_iload X2 dL_law_1375 4 rfl ?_
    refine k9_iconst (v := nI 2) X2 dL_law_1377 (by decide) ?_
    refine k9_iadd X2 dL_law_1378 ?_
    refine k9_sld X2 hX hbl hbA (j := i + 2) (nI_add i 2) (by omega) hL dL_law_1379 ?_
    refine k9_callVi2 X2 (hR (k9_out G rv)) k9_ob_76 (cwV 2 X.2.2.2.2.1 gL_law_X7_bestBreak rfl rfl rfl (by decide +kernel) ⟨Nat.le_of_ble_eq_true rfl, Nat.le_of_ble_eq_true rfl⟩) (Nat.le_of_ble_eq_true rfl) dL_law_1380 ⟨by show cells + 2 ≤ 601024; omega, by show slots + 12 ≤ 7293034; omega⟩ ?_
    refine k9_istore (i := 6) X2 dL_law_1383 (by decide) [1, 2, 3, 4, 5, 6, 0] rfl ?_
    refine k9_aload_n X2 dL_law_1385 rfl 2 rfl ?_
    refine k9_callVi0 X2 (ct_X7_thrown l (k9_out G rv) m2) k9_ob_76 (cwV 0 X.2.2.2.2.1 gL_law_X7_thrown rfl rfl rfl (by decide +kernel) ⟨Nat.le_of_ble_eq_true rfl, Nat.le_of_ble_eq_true rfl⟩) (Nat.le_of_ble_eq_true rfl) dL_law_1386 ⟨by show cells + 2 ≤ 601024; omega, by show slots + 12 ≤ 7293034; omega⟩ ?_
    refine k9_iload X2 dL_law_1389 5 rfl ?_
    refine k9_icmp_eq (tgt := 1396) X2 dL_law_1391 (by decide) (fun _ => ?_) (fun c1 => absurd h5 c1)
    refine k9_iload X2 dL_law_1396 5 rfl ?_
    refine k9_if_ne (tgt := 1413) X2 dL_law_1398 (by decide) (fun c1 => absurd rfl c1) (fun _ => ?_)
    refine k9_aload_n X2 dL_law_1401 rfl 3 rfl ?_
    refine k9_iconst (v := 0) X2 dL_law_1402 (by decide) ?_
    refine k9_lald X2 dL_law_1403 ?_
    refine k9_iload X2 dL_law_1404 6 rfl ?_
    refine k9_i2l X2 dL_law_1406 ?_
    refine k9_lcmp X2 dL_law_1407 ?_
    refine k9_if_eq (tgt := 1413) X2 dL_law_1408 (by decide) (fun _ => ?_) (fun c1 => absurd ((lg_cmp_eq _ _).mpr rfl) c1)
    refine k9_goto (tgt := 1527) X2 dL_law_1413 (by decide) ?_
    refine k9_sub [0, 1, 2, 3, 4] rfl ?_
    refine k9_widen (k := cells + 4) (n := slots + 24) (by omega) (by omega) ?_
    exact K _ m2 hrel
  · obtain ⟨E, hE⟩ : ∃ E, x = some E := by
      cases x with
      | none => exact absurd rfl hxn
      | some E => exact ⟨E, rfl⟩
    obtain ⟨bv, m2, hR, h5, hrel⟩ := hs E hE
    have e0 : ¬ k9_code [m9_ia] x = 0 := by rw [hE]; exact op_cne (hx E hE) (by decide)
    refine k9_istore (i := 5) X dL_law_1365 (by decide) [1, 2, 3, 4, 5, 0] rfl ?_
    refine k9_aload_n X dL_law_1367 rfl 2 rfl ?_
    refine k9_aload_n X dL_law_1368 rfl 0 rfl ?_
    refine k9_iload X dL_law_1369 4 rfl ?_
    refine k9_iconst (v := nI 1) X dL_law_1371 (by decide) ?_
    refine k9_iadd X dL_law_1372 ?_
    refine k9_sld X hX hbl hbA (j := i + 1) (nI_add i 1) (by omega) hL dL_law_1373 ?_
    refine k9_aload_n X dL_law_1374 rfl 0 rfl ?_
    refine k9_iload X dL_law_1375 4 rfl ?_
    refine k9_iconst (v := nI 2) X dL_law_1377 (by decide) ?_
    refine k9_iadd X dL_law_1378 ?_
    refine k9_sld X hX hbl hbA (j := i + 2) (nI_add i 2) (by omega) hL dL_law_1379 ?_
    refine k9_callVi2 X (hR G) k9_ob_76 (cwV 2 X.2.2.2.2.1 gL_law_X7_bestBreak rfl rfl rfl (by decide +kernel) ⟨Nat.le_of_ble_eq_true rfl, Nat.le_of_ble_eq_true rfl⟩) (Nat.le_of_ble_eq_true rfl) dL_law_1380 ⟨by show cells + 2 ≤ 601024; omega, by show slots + 12 ≤ 7293034; omega⟩ ?_
    refine k9_istore (i := 6) X dL_law_1383 (by decide) [1, 2, 3, 4, 5, 6, 0] rfl ?_
    refine k9_aload_n X dL_law_1385 rfl 2 rfl ?_
    refine k9_callVi0 X (ct_X7_thrown l G m2) k9_ob_76 (cwV 0 X.2.2.2.2.1 gL_law_X7_thrown rfl rfl rfl (by decide +kernel) ⟨Nat.le_of_ble_eq_true rfl, Nat.le_of_ble_eq_true rfl⟩) (Nat.le_of_ble_eq_true rfl) dL_law_1386 ⟨by show cells + 2 ≤ 601024; omega, by show slots + 12 ≤ 7293034; omega⟩ ?_
    refine k9_iload X dL_law_1389 5 rfl ?_
    refine k9_icmp_eq (tgt := 1396) X dL_law_1391 (by decide) (fun _ => ?_) (fun c1 => absurd h5 c1)
    refine k9_iload X dL_law_1396 5 rfl ?_
    refine k9_if_ne (tgt := 1413) X dL_law_1398 (by decide) (fun _ => ?_) (fun c1 => absurd c1 e0)
    refine k9_goto (tgt := 1527) X dL_law_1413 (by decide) ?_
    refine k9_sub [0, 1, 2, 3, 4] rfl ?_
    refine k9_widen (k := cells + 4) (n := slots + 24) (by omega) (by omega) ?_
    have h9 := K (k9_ga G 90) m2 hrel
    rw [k9_gv_self] at h9
    exact h9
set_option maxRecDepth 20000 in
theorem lb_holesFor (X : k9_X p room_1 s m args c A G 9 cL_law wsL_law RL room_1) (hX : va_X b L xs s s.heap) (hbl : b < s.heap.size) (hbA : ¬ A b) (hi : i + 4 ≤ L) (hL : L ≤ 2048) (hrm : cells + 4 ≤ 601024 ∧ slots + 24 ≤ 7293034) (h : op_A l yX6_holesFor wsX6_holesFor rm_X6_holesFor 1 6 yX7_holesFor wsX7_holesFor rm_X7_holesFor (fun G => [.ref (k9_ga G 0), .int (xs (i + 1))]) (fun G => [.ref (k9_ga G 76), .int (xs (i + 1))]) [m9_ia] M M) (K : ∀ (v : Nat) (M2 : k9_Mem), (∃ B R F U, q9_rel M2 B R F U) → k9_U p l e room_1 s m args below meth c Q A (k9_gv G v) 9 (cells + 4) (slots + 24) M2 1527 (lw_lv G b i) []) : k9_U p l e room_1 s m args below meth c Q A G 9 cells slots M 1416 (lw_lv G b i) [] := by
  obtain ⟨x, rv, mv, hC, hx, hn, hs⟩ := h
  refine k9_aload_n X dL_law_1416 rfl 1 rfl ?_
  refine k9_aload_n X dL_law_1417 rfl 0 rfl ?_
  refine k9_iload X dL_law_1418 4 rfl ?_
  refine k9_iconst (v := nI 1) X dL_law_1420 (by decide) ?_
  refine k9_iadd X dL_law_1421 ?_
  refine k9_sld X hX hbl hbA (j := i + 1) (nI_add i 1) (by omega) hL dL_law_1422 ?_
  refine k9_aload_n X dL_law_1423 rfl 3 rfl ?_
  refine k9_callL (st := []) X (ct_L_holesFor l G M (xs (i + 1)) (hC G) hx) (vx_cwSW 3 X.2.2.2.2.1 gL_law_L_holesFor rfl rfl rfl (by decide +kernel) ⟨Nat.le_of_ble_eq_true rfl, Nat.le_of_ble_eq_true rfl⟩) rfl rfl (Nat.le_of_ble_eq_true rfl) dL_law_1424 ⟨by show cells + 1 ≤ 601024; omega, by show slots + 6 ≤ 7293034; omega⟩ (fun hxn => ?_) (fun hxn => ?_)
  · obtain ⟨m2, hR, h5, hrel⟩ := hn hxn
    have X2 : k9_X p room_1 s m args c A (k9_out G rv) 9 cL_law wsL_law RL room_1 := X
    have e0 : k9_code [m9_ia] x = 0 := by rw [hxn]; rfl
    rw [e0]
    refine k9_istore (i := 5) X2 dL_law_1427 (by decide) [1, 2, 3, 4, 5, 0] rfl ?_
    refine k9_aload_n X2 dL_law_1429 rfl 2 rfl ?_
    refine k9_aload_n X2 dL_law_1430 rfl 0 rfl ?_
    refine k9_iload X2 dL_law_1431 4 rfl ?_
    refine k9_iconst (v := nI 1) X2 dL_law_1433 (by decide) ?_
    refine k9_iadd X2 dL_law_1434 ?_
    refine k9_sld X2 hX hbl hbA (j := i + 1) (nI_add i 1) (by omega) hL dL_law_1435 ?_
    refine k9_callVi1 X2 (hR (k9_out G rv)) k9_ob_76 (cwV 1 X.2.2.2.2.1 gL_law_X7_holesFor rfl rfl rfl (by decide +kernel) ⟨Nat.le_of_ble_eq_true rfl, Nat.le_of_ble_eq_true rfl⟩) (Nat.le_of_ble_eq_true rfl) dL_law_1436 ⟨by show cells + 1 ≤ 601024; omega, by show slots + 6 ≤ 7293034; omega⟩ ?_
    refine k9_istore (i := 6) X2 dL_law_1439 (by decide) [1, 2, 3, 4, 5, 6, 0] rfl ?_
    refine k9_aload_n X2 dL_law_1441 rfl 2 rfl ?_
    refine k9_callVi0 X2 (ct_X7_thrown l (k9_out G rv) m2) k9_ob_76 (cwV 0 X.2.2.2.2.1 gL_law_X7_thrown rfl rfl rfl (by decide +kernel) ⟨Nat.le_of_ble_eq_true rfl, Nat.le_of_ble_eq_true rfl⟩) (Nat.le_of_ble_eq_true rfl) dL_law_1442 ⟨by show cells + 1 ≤ 601024; omega, by show slots + 6 ≤ 7293034; omega⟩ ?_
    refine k9_iload X2 dL_law_1445 5 rfl ?_
    refine k9_icmp_eq (tgt := 1452) X2 dL_law_1447 (by decide) (fun _ => ?_) (fun c1 => absurd h5 c1)
    refine k9_iload X2 dL_law_1452 5 rfl ?_
    refine k9_if_ne (tgt := 1469) X2 dL_law_1454 (by decide) (fun c1 => absurd rfl c1) (fun _ => ?_)
    refine k9_aload_n X2 dL_law_1457 rfl 3 rfl ?_
    refine k9_iconst (v := 0) X2 dL_law_1458 (by decide) ?_
    refine k9_lald X2 dL_law_1459 ?_
    refine k9_iload X2 dL_law_1460 6 rfl ?_
    refine k9_i2l X2 dL_law_1462 ?_
    refine k9_lcmp X2 dL_law_1463 ?_
    refine k9_if_eq (tgt := 1469) X2 dL_law_1464 (by decide) (fun _ => ?_) (fun c1 => absurd ((lg_cmp_eq _ _).mpr rfl) c1)
    refine k9_goto (tgt := 1527) X2 dL_law_1469 (by decide) ?_
    refine k9_sub [0, 1, 2, 3, 4] rfl ?_
    refine k9_widen (k := cells + 4) (n := slots + 24) (by omega) (by omega) ?_
    exact K _ m2 hrel
  · obtain ⟨E, hE⟩ : ∃ E, x = some E := by
      cases x with
      | none => exact absurd rfl hxn
      | some E => exact ⟨E, rfl⟩
    obtain ⟨bv, m2, hR, h5, hrel⟩ := hs E hE
    have e0 : ¬ k9_code [m9_ia] x = 0 := by rw [hE]; exact op_cne (hx E hE) (by decide)
    refine k9_istore (i := 5) X dL_law_1427 (by decide) [1, 2, 3, 4, 5, 0] rfl ?_
    refine k9_aload_n X dL_law_1429 rfl 2 rfl ?_
    refine k9_aload_n X dL_law_1430 rfl 0 rfl ?_
    refine k9_iload X dL_law_1431 4 rfl ?_
    refine k9_iconst (v := nI 1) X dL_law_1433 (by decide) ?_
    refine k9_iadd X dL_law_1434 ?_
    refine k9_sld X hX hbl hbA (j := i + 1) (nI_add i 1) (by omega) hL dL_law_1435 ?_
    refine k9_callVi1 X (hR G) k9_ob_76 (cwV 1 X.2.2.2.2.1 gL_law_X7_holesFor rfl rfl rfl (by decide +kernel) ⟨Nat.le_of_ble_eq_true rfl, Nat.le_of_ble_eq_true rfl⟩) (Nat.le_of_ble_eq_true rfl) dL_law_1436 ⟨by show cells + 1 ≤ 601024; omega, by show slots + 6 ≤ 7293034; omega⟩ ?_
    refine k9_istore (i := 6) X dL_law_1439 (by decide) [1, 2, 3, 4, 5, 6, 0] rfl ?_
    refine k9_aload_n X dL_law_1441 rfl 2 rfl ?_
    refine k9_callVi0 X (ct_X7_thrown l G m2) k9_ob_76 (cwV 0 X.2.2.2.2.1 gL_law_X7_thrown rfl rfl rfl (by decide +kernel) ⟨Nat.le_of_ble_eq_true rfl, Nat.le_of_ble_eq_true rfl⟩) (Nat.le_of_ble_eq_true rfl) dL_law_1442 ⟨by show cells + 1 ≤ 601024; omega, by show slots + 6 ≤ 7293034; omega⟩ ?_
    refine k9_iload X dL_law_1445 5 rfl ?_
    refine k9_icmp_eq (tgt := 1452) X dL_law_1447 (by decide) (fun _ => ?_) (fun c1 => absurd h5 c1)
    refine k9_iload X dL_law_1452 5 rfl ?_
    refine k9_if_ne (tgt := 1469) X dL_law_1454 (by decide) (fun _ => ?_) (fun c1 => absurd c1 e0)
    refine k9_goto (tgt := 1527) X dL_law_1469 (by decide) ?_
    refine k9_sub [0, 1, 2, 3, 4] rfl ?_
    refine k9_widen (k := cells + 4) (n := slots + 24) (by omega) (by omega) ?_
    have h9 := K (k9_ga G 90) m2 hrel
    rw [k9_gv_self] at h9
    exact h9
set_option maxRecDepth 20000 in
theorem lb_tuneShare (X : k9_X p room_1 s m args c A G 9 cL_law wsL_law RL room_1) (hrm : cells + 4 ≤ 601024 ∧ slots + 24 ≤ 7293034) (h : ∃ (rv : UInt64) (m2 : k9_Mem), (∀ G, k9_Cd l yX6_tuneShare wsX6_tuneShare rm_X6_tuneShare G M [.ref (k9_ga G 0)] rv M) ∧ (∀ G, k9_Cd l yX7_tuneShare wsX7_tuneShare rm_X7_tuneShare G M [.ref (k9_ga G 76)] rv m2) ∧ ∃ B R F U, q9_rel m2 B R F U) (K : ∀ (v : Nat) (M2 : k9_Mem), (∃ B R F U, q9_rel M2 B R F U) → k9_U p l e room_1 s m args below meth c Q A (k9_gv G v) 9 (cells + 4) (slots + 24) M2 1527 (lw_lv G b i) []) : k9_U p l e room_1 s m args below meth c Q A G 9 cells slots M 1472 (lw_lv G b i) [] := by
  obtain ⟨rv, m2, hC, hR, hrel⟩ := h
  refine k9_aload_n X dL_law_1472 rfl 1 rfl ?_
  refine k9_callVd0 X (hC G) k9_ob_0 (cwV 0 X.2.2.2.2.1 gL_law_X6_tuneShare rfl rfl rfl (by decide +kernel) ⟨Nat.le_of_ble_eq_true rfl, Nat.le_of_ble_eq_true rfl⟩) (Nat.le_of_ble_eq_true rfl) dL_law_1473 ⟨by show cells ≤ 601024; omega, by show slots ≤ 7293034; omega⟩ ?_
  refine k9_dstore (i := 5) X dL_law_1476 (by decide) [1, 2, 3, 4, 5, 0] rfl ?_
  refine k9_aload_n X dL_law_1478 rfl 2 rfl ?_
  refine k9_callVd0 X (hR G) k9_ob_76 (cwV 0 X.2.2.2.2.1 gL_law_X7_tuneShare rfl rfl rfl (by decide +kernel) ⟨Nat.le_of_ble_eq_true rfl, Nat.le_of_ble_eq_true rfl⟩) (Nat.le_of_ble_eq_true rfl) dL_law_1479 ⟨by show cells ≤ 601024; omega, by show slots ≤ 7293034; omega⟩ ?_
  refine k9_dstore (i := 7) X dL_law_1482 (by decide) [1, 2, 3, 4, 5, 6, 0] rfl ?_
  have fin : k9_U p l e room_1 s m args below meth c Q A G 9 cells slots m2 1510 [(0, .ref b), (1, .ref (k9_ga G 0)), (2, .ref (k9_ga G 76)), (3, .ref (k9_ga G 89)), (4, .int (nI i)), (5, .double rv), (7, .double rv)] [] := by
    refine k9_goto (tgt := 1527) X dL_law_1510 (by decide) ?_
    refine k9_sub [0, 1, 2, 3, 4] rfl ?_
    refine k9_widen (k := cells + 4) (n := slots + 24) (by omega) (by omega) ?_
    have h9 := K (k9_ga G 90) m2 hrel
    rw [k9_gv_self] at h9
    exact h9
  refine k9_dload X dL_law_1484 5 rfl ?_
  refine k9_dload X dL_law_1486 6 rfl ?_
  refine k9_dcmp X dL_law_1488 ?_
  refine k9_if_eq (tgt := 1510) X dL_law_1489 (by decide) (fun _ => fin) (fun c1 => ?_)
  refine k9_dload X dL_law_1492 5 rfl ?_
  refine k9_dload X dL_law_1494 5 rfl ?_
  refine k9_dcmp X dL_law_1496 ?_
  refine k9_if_eq (tgt := 1508) X dL_law_1497 (by decide) (fun c2 => absurd c2 c1) (fun _ => ?_)
  refine k9_dload X dL_law_1500 6 rfl ?_
  refine k9_dload X dL_law_1502 6 rfl ?_
  refine k9_dcmp X dL_law_1504 ?_
  refine k9_if_ne (tgt := 1510) X dL_law_1505 (by decide) (fun _ => fin) (fun c2 => absurd c2 c1)
set_option maxRecDepth 20000 in
theorem lb_digest (X : k9_X p room_1 s m args c A G 9 cL_law wsL_law RL room_1) (hrm : cells + 4 ≤ 601024 ∧ slots + 24 ≤ 7293034) (h : ∃ (rv : Int64) (mv m2 : k9_Mem), (∀ G, k9_Cl l yX6_digest wsX6_digest rm_X6_digest G M [.ref (k9_ga G 0)] rv mv) ∧ (∀ G, k9_Cl l yX7_digest wsX7_digest rm_X7_digest G mv [.ref (k9_ga G 76)] rv m2) ∧ ∃ B R F U, q9_rel m2 B R F U) (K : ∀ (v : Nat) (M2 : k9_Mem), (∃ B R F U, q9_rel M2 B R F U) → k9_U p l e room_1 s m args below meth c Q A (k9_gv G v) 9 (cells + 4) (slots + 24) M2 1527 (lw_lv G b i) []) : k9_U p l e room_1 s m args below meth c Q A G 9 cells slots M 1513 (lw_lv G b i) [] := by
  obtain ⟨rv, mv, m2, hC, hR, hrel⟩ := h
  refine k9_aload_n X dL_law_1513 rfl 1 rfl ?_
  refine k9_callVl0 X (hC G) k9_ob_0 (cwV 0 X.2.2.2.2.1 gL_law_X6_digest rfl rfl rfl (by decide +kernel) ⟨Nat.le_of_ble_eq_true rfl, Nat.le_of_ble_eq_true rfl⟩) (Nat.le_of_ble_eq_true rfl) dL_law_1514 ⟨by show cells ≤ 601024; omega, by show slots ≤ 7293034; omega⟩ ?_
  refine k9_aload_n X dL_law_1517 rfl 2 rfl ?_
  refine k9_callVl0 X (hR G) k9_ob_76 (cwV 0 X.2.2.2.2.1 gL_law_X7_digest rfl rfl rfl (by decide +kernel) ⟨Nat.le_of_ble_eq_true rfl, Nat.le_of_ble_eq_true rfl⟩) (Nat.le_of_ble_eq_true rfl) dL_law_1518 ⟨by show cells ≤ 601024; omega, by show slots ≤ 7293034; omega⟩ ?_
  refine k9_lcmp X dL_law_1521 ?_
  refine k9_if_eq (tgt := 1527) X dL_law_1522 (by decide) (fun _ => ?_) (fun c1 => absurd ((lg_cmp_eq _ _).mpr rfl) c1)
  refine k9_sub [0, 1, 2, 3, 4] rfl ?_
  refine k9_widen (k := cells + 4) (n := slots + 24) (by omega) (by omega) ?_
  have h9 := K (k9_ga G 90) m2 hrel
  rw [k9_gv_self] at h9
  exact h9
end LB
