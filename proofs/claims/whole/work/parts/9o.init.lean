/-! The constructors. -/
def rg_X0 : Room := { frames := 1, cells := 2, slots := 192, locals := 12 }
def rg_X1 : Room := { frames := 2, cells := 6, slots := 482, locals := 32 }
def rg_X2 : Room := { frames := 1, cells := 4, slots := 240, locals := 12 }
def rg_X3 : Room := { frames := 2, cells := 7, slots := 578, locals := 32 }
def rg_X4 : Room := { frames := 3, cells := 49, slots := 3516, locals := 52 }
def rg_X5 : Room := { frames := 2, cells := 4, slots := 290, locals := 32 }
def rg_X6 : Room := { frames := 4, cells := 75, slots := 5133, locals := 73 }
def rg_X7 : Room := { frames := 1, cells := 12, slots := 7502, locals := 12 }
def g9_row (t : g9_T) (n : Nat) : va_E := .inl (t.1, n, .inl (fun _ => 0))
def g9_blk (n p : Nat) (v w : Nat → Nat) : Nat → Nat := fun k => if k < n then (if k = 0 then p else v k) else w (k - n)
def g9_cat (L : List Nat) (v : Nat → Nat) : Nat → Nat := fun k => if k < L.length then L.getD k 0 else v (k - L.length)
def g9_w0 (t : g9_T) (h : Nat) (u : Nat → Nat) : va_W := [(h, .inr (0, [.ref (u 1), .ref (u 2)])), (u 1, .inl (t.1, 96, .inl (fun _ => 0))), (u 2, .inl (t.1, 96, .inl (fun _ => 0)))]
def g9_w1 (t : g9_T) (h : Nat) (u : Nat → Nat) : va_W := [(h, .inr (1, [.ref (u 1), .ref (u 2), .ref (u 5), .ref (u 6)])), (u 1, .inl (t.1, 96, .inl (fun _ => 0))), (u 5, .inl (t.1, 96, .inl (fun _ => 0))), (u 6, .inl (t.1, 96, .inl (fun _ => 0)))] ++ (g9_w0 t (u 2) (fun k => u (2 + k)) ++ [])
def g9_w2 (t : g9_T) (h : Nat) (u : Nat → Nat) : va_W := [(h, .inr (2, [.ref (u 1), .int 0, .ref (u 2), .ref (u 3), .ref (u 4), .int 0, .int 0, .int (-1), .int 0, .int 0])), (u 1, .inl (t.1, 60, .inl (fun _ => 0))), (u 2, .inl (t.1, 60, .inl (fun _ => 0))), (u 3, .inl (t.1, 60, .inl (fun _ => 0))), (u 4, .inl (t.1, 60, .inl (fun _ => 0)))]
def g9_w3 (t : g9_T) (h : Nat) (u : Nat → Nat) : va_W := [(h, .inr (3, [.ref (u 1), .ref (u 2), .ref (u 3), .ref (u 4), .ref (u 5), .int 1, .int 2])), (u 1, .inl (t.1, 96, .inl (fun _ => 0))), (u 2, .inl (t.1, 96, .inl (fun _ => 0))), (u 3, .inl (t.1, 96, .inl (fun _ => 0))), (u 4, .inl (t.1, 96, .inl (fun _ => 0)))] ++ (g9_w0 t (u 5) (fun k => u (5 + k)) ++ [])
def g9_w5 (t : g9_T) (h : Nat) (u : Nat → Nat) : va_W := [(h, .inr (5, [.ref (u 1), .ref (u 2), .int 0, .int (-1)])), (u 1, .inl (t.1, 96, .inl (fun _ => 0)))] ++ (g9_w0 t (u 2) (fun k => u (2 + k)) ++ [])
def g9_f : Nat → (Nat → Nat) → Nat → Option Nat
  | 0, _ => fun _ => none
  | n + 1, u => va_up (g9_f n u) n (some (u (2 + 8 * n)))
def g9_p4 (t : g9_T) (u : Nat → Nat) : Nat → va_W
  | 0 => []
  | n + 1 => g9_w3 t (u (2 + 8 * n)) (fun k => u (2 + 8 * n + k)) ++ g9_p4 t u n
def g9_w4 (t : g9_T) (h : Nat) (u : Nat → Nat) : va_W := [(h, .inr (4, [.ref (u 1), .int 0])), (u 1, .inl (t.2.1, 6, .inr (.inr (.inr (.inr (g9_f 6 u))))))] ++ g9_p4 t u 6
def g9_w6 (t : g9_T) (h : Nat) (u : Nat → Nat) : va_W := [(h, .inr (6, [.ref (u 1), .ref (u 57), .ref (u 64), .ref (u 66), .ref (u 71)]))] ++ (g9_w5 t (u 71) (fun k => u (71 + k)) ++ (g9_w2 t (u 66) (fun k => u (66 + k)) ++ (g9_w4 t (u 64) (fun k => u (if k < 2 then 64 + k else 7 + k)) ++ (g9_w1 t (u 57) (fun k => u (57 + k)) ++ (g9_w3 t (u 1) (fun k => u (1 + k)) ++ [])))))
def g9_z0 : Nat → Int32 := upd (upd (fun _ => 0) 384 1) 385 2
def g9_w7 (t : g9_T) (h : Nat) (u : Nat → Nat) : va_W := [(h, .inr (7, [.ref (u 1), .int 0, .ref (u 2), .int 0, .ref (u 3), .int 0, .ref (u 4), .ref (u 5), .ref (u 6), .ref (u 7), .ref (u 8), .ref (u 9), .ref (u 10), .int 0, .ref (u 11), .int 0, .int 0, .ref (u 12), .long 0])), (u 1, .inl (t.1, 578, .inl g9_z0)), (u 2, .inl (t.1, 3468, .inl (fun _ => 0))), (u 3, .inl (t.1, 60, .inl (fun _ => 0))), (u 4, .inl (t.1, 96, .inl (fun _ => 0))), (u 5, .inl (t.1, 96, .inl (fun _ => 0))), (u 6, .inl (t.1, 96, .inl (fun _ => 0))), (u 7, .inl (t.1, 96, .inl (fun _ => 0))), (u 8, .inl (t.1, 960, .inl (fun _ => 0))), (u 9, .inl (t.1, 960, .inl (fun _ => 0))), (u 10, .inl (t.1, 960, .inl (fun _ => 0))), (u 11, .inl (t.1, 36, .inl (fun _ => 0))), (u 12, .inl (t.1, 96, .inl (fun _ => 0)))]
theorem in_X0_init_X0 : ∀ w ∈ u_ws RX0 TX0 2, w ∈ wsX0_init := by decide +kernel
theorem fl_X0_init_9 : Cond.fieldLink RX0 9 (TX0 0).1 (TX0 0).2.1 (TX0 0).2.2.1 ∈ wsX0_init := by decide +kernel
theorem fl_X0_init_15 : Cond.fieldLink RX0 15 (TX0 1).1 (TX0 1).2.1 (TX0 1).2.2.1 ∈ wsX0_init := by decide +kernel
theorem oi_X0_init : Cond.methodLink RX0 3 objectInit ∈ wsX0_init ∧ Cond.instanceMethod objectInit ∈ wsX0_init ∧ Cond.code objectInit ⟨#[0xb1]⟩ 1 none ∈ wsX0_init ∧ Cond.arrayClass .int ∈ wsX0_init := ⟨by decide +kernel, by decide +kernel, by decide +kernel, by decide +kernel⟩
theorem in_X1_init_X1 : ∀ w ∈ u_ws RX1 TX1 4, w ∈ wsX1_init := by decide +kernel
theorem fl_X1_init_9 : Cond.fieldLink RX1 9 (TX1 0).1 (TX1 0).2.1 (TX1 0).2.2.1 ∈ wsX1_init := by decide +kernel
theorem fl_X1_init_18 : Cond.fieldLink RX1 18 (TX1 1).1 (TX1 1).2.1 (TX1 1).2.2.1 ∈ wsX1_init := by decide +kernel
theorem fl_X1_init_22 : Cond.fieldLink RX1 22 (TX1 2).1 (TX1 2).2.1 (TX1 2).2.2.1 ∈ wsX1_init := by decide +kernel
theorem fl_X1_init_25 : Cond.fieldLink RX1 25 (TX1 3).1 (TX1 3).2.1 (TX1 3).2.2.1 ∈ wsX1_init := by decide +kernel
theorem nw_X1_init_15 : (∀ w ∈ u_ws RX0 TX0 2, w ∈ wsX1_init) ∧ Cond.classLink RX1 15 RX0 ∈ wsX1_init ∧ Cond.instantiable RX0 2 ∈ wsX1_init ∧ Cond.initialized RX0 ∈ wsX1_init ∧ Cond.instanceMethod yX0_init ∈ wsX1_init := ⟨by decide +kernel, by decide +kernel, by decide +kernel, by decide +kernel, by decide +kernel⟩
theorem oi_X1_init : Cond.methodLink RX1 3 objectInit ∈ wsX1_init ∧ Cond.instanceMethod objectInit ∈ wsX1_init ∧ Cond.code objectInit ⟨#[0xb1]⟩ 1 none ∈ wsX1_init ∧ Cond.arrayClass .int ∈ wsX1_init := ⟨by decide +kernel, by decide +kernel, by decide +kernel, by decide +kernel⟩
theorem in_X2_init_X2 : ∀ w ∈ u_ws RX2 TX2 10, w ∈ wsX2_init := by decide +kernel
theorem fl_X2_init_9 : Cond.fieldLink RX2 9 (TX2 0).1 (TX2 0).2.1 (TX2 0).2.2.1 ∈ wsX2_init := by decide +kernel
theorem fl_X2_init_15 : Cond.fieldLink RX2 15 (TX2 1).1 (TX2 1).2.1 (TX2 1).2.2.1 ∈ wsX2_init := by decide +kernel
theorem fl_X2_init_19 : Cond.fieldLink RX2 19 (TX2 2).1 (TX2 2).2.1 (TX2 2).2.2.1 ∈ wsX2_init := by decide +kernel
theorem fl_X2_init_22 : Cond.fieldLink RX2 22 (TX2 3).1 (TX2 3).2.1 (TX2 3).2.2.1 ∈ wsX2_init := by decide +kernel
theorem fl_X2_init_25 : Cond.fieldLink RX2 25 (TX2 4).1 (TX2 4).2.1 (TX2 4).2.2.1 ∈ wsX2_init := by decide +kernel
theorem fl_X2_init_28 : Cond.fieldLink RX2 28 (TX2 5).1 (TX2 5).2.1 (TX2 5).2.2.1 ∈ wsX2_init := by decide +kernel
theorem fl_X2_init_31 : Cond.fieldLink RX2 31 (TX2 6).1 (TX2 6).2.1 (TX2 6).2.2.1 ∈ wsX2_init := by decide +kernel
theorem fl_X2_init_34 : Cond.fieldLink RX2 34 (TX2 7).1 (TX2 7).2.1 (TX2 7).2.2.1 ∈ wsX2_init := by decide +kernel
theorem fl_X2_init_37 : Cond.fieldLink RX2 37 (TX2 8).1 (TX2 8).2.1 (TX2 8).2.2.1 ∈ wsX2_init := by decide +kernel
theorem fl_X2_init_40 : Cond.fieldLink RX2 40 (TX2 9).1 (TX2 9).2.1 (TX2 9).2.2.1 ∈ wsX2_init := by decide +kernel
theorem oi_X2_init : Cond.methodLink RX2 3 objectInit ∈ wsX2_init ∧ Cond.instanceMethod objectInit ∈ wsX2_init ∧ Cond.code objectInit ⟨#[0xb1]⟩ 1 none ∈ wsX2_init ∧ Cond.arrayClass .int ∈ wsX2_init := ⟨by decide +kernel, by decide +kernel, by decide +kernel, by decide +kernel⟩
theorem in_X3_init_X3 : ∀ w ∈ u_ws RX3 TX3 7, w ∈ wsX3_init := by decide +kernel
theorem fl_X3_init_9 : Cond.fieldLink RX3 9 (TX3 0).1 (TX3 0).2.1 (TX3 0).2.2.1 ∈ wsX3_init := by decide +kernel
theorem fl_X3_init_15 : Cond.fieldLink RX3 15 (TX3 1).1 (TX3 1).2.1 (TX3 1).2.2.1 ∈ wsX3_init := by decide +kernel
theorem fl_X3_init_18 : Cond.fieldLink RX3 18 (TX3 2).1 (TX3 2).2.1 (TX3 2).2.2.1 ∈ wsX3_init := by decide +kernel
theorem fl_X3_init_21 : Cond.fieldLink RX3 21 (TX3 3).1 (TX3 3).2.1 (TX3 3).2.2.1 ∈ wsX3_init := by decide +kernel
theorem fl_X3_init_27 : Cond.fieldLink RX3 27 (TX3 4).1 (TX3 4).2.1 (TX3 4).2.2.1 ∈ wsX3_init := by decide +kernel
theorem fl_X3_init_31 : Cond.fieldLink RX3 31 (TX3 5).1 (TX3 5).2.1 (TX3 5).2.2.1 ∈ wsX3_init := by decide +kernel
theorem fl_X3_init_35 : Cond.fieldLink RX3 35 (TX3 6).1 (TX3 6).2.1 (TX3 6).2.2.1 ∈ wsX3_init := by decide +kernel
theorem nw_X3_init_24 : (∀ w ∈ u_ws RX0 TX0 2, w ∈ wsX3_init) ∧ Cond.classLink RX3 24 RX0 ∈ wsX3_init ∧ Cond.instantiable RX0 2 ∈ wsX3_init ∧ Cond.initialized RX0 ∈ wsX3_init ∧ Cond.instanceMethod yX0_init ∈ wsX3_init := ⟨by decide +kernel, by decide +kernel, by decide +kernel, by decide +kernel, by decide +kernel⟩
theorem oi_X3_init : Cond.methodLink RX3 3 objectInit ∈ wsX3_init ∧ Cond.instanceMethod objectInit ∈ wsX3_init ∧ Cond.code objectInit ⟨#[0xb1]⟩ 1 none ∈ wsX3_init ∧ Cond.arrayClass .int ∈ wsX3_init := ⟨by decide +kernel, by decide +kernel, by decide +kernel, by decide +kernel⟩
theorem in_X4_init_X4 : ∀ w ∈ u_ws RX4 TX4 2, w ∈ wsX4_init := by decide +kernel
theorem fl_X4_init_11 : Cond.fieldLink RX4 11 (TX4 0).1 (TX4 0).2.1 (TX4 0).2.2.1 ∈ wsX4_init := by decide +kernel
theorem fl_X4_init_17 : Cond.fieldLink RX4 17 (TX4 1).1 (TX4 1).2.1 (TX4 1).2.2.1 ∈ wsX4_init := by decide +kernel
theorem nw_X4_init_9 : (∀ w ∈ u_ws RX3 TX3 7, w ∈ wsX4_init) ∧ Cond.classLink RX4 9 RX3 ∈ wsX4_init ∧ Cond.instantiable RX3 7 ∈ wsX4_init ∧ Cond.initialized RX3 ∈ wsX4_init ∧ Cond.instanceMethod yX3_init ∈ wsX4_init := ⟨by decide +kernel, by decide +kernel, by decide +kernel, by decide +kernel, by decide +kernel⟩
theorem oi_X4_init : Cond.methodLink RX4 3 objectInit ∈ wsX4_init ∧ Cond.instanceMethod objectInit ∈ wsX4_init ∧ Cond.code objectInit ⟨#[0xb1]⟩ 1 none ∈ wsX4_init := ⟨by decide +kernel, by decide +kernel, by decide +kernel⟩
theorem in_X5_init_X5 : ∀ w ∈ u_ws RX5 TX5 4, w ∈ wsX5_init := by decide +kernel
theorem fl_X5_init_9 : Cond.fieldLink RX5 9 (TX5 0).1 (TX5 0).2.1 (TX5 0).2.2.1 ∈ wsX5_init := by decide +kernel
theorem fl_X5_init_18 : Cond.fieldLink RX5 18 (TX5 1).1 (TX5 1).2.1 (TX5 1).2.2.1 ∈ wsX5_init := by decide +kernel
theorem fl_X5_init_22 : Cond.fieldLink RX5 22 (TX5 2).1 (TX5 2).2.1 (TX5 2).2.2.1 ∈ wsX5_init := by decide +kernel
theorem fl_X5_init_26 : Cond.fieldLink RX5 26 (TX5 3).1 (TX5 3).2.1 (TX5 3).2.2.1 ∈ wsX5_init := by decide +kernel
theorem nw_X5_init_15 : (∀ w ∈ u_ws RX0 TX0 2, w ∈ wsX5_init) ∧ Cond.classLink RX5 15 RX0 ∈ wsX5_init ∧ Cond.instantiable RX0 2 ∈ wsX5_init ∧ Cond.initialized RX0 ∈ wsX5_init ∧ Cond.instanceMethod yX0_init ∈ wsX5_init := ⟨by decide +kernel, by decide +kernel, by decide +kernel, by decide +kernel, by decide +kernel⟩
theorem oi_X5_init : Cond.methodLink RX5 3 objectInit ∈ wsX5_init ∧ Cond.instanceMethod objectInit ∈ wsX5_init ∧ Cond.code objectInit ⟨#[0xb1]⟩ 1 none ∈ wsX5_init ∧ Cond.arrayClass .int ∈ wsX5_init := ⟨by decide +kernel, by decide +kernel, by decide +kernel, by decide +kernel⟩
theorem in_X6_init_X6 : ∀ w ∈ u_ws RX6 TX6 5, w ∈ wsX6_init := by decide +kernel
theorem fl_X6_init_12 : Cond.fieldLink RX6 12 (TX6 0).1 (TX6 0).2.1 (TX6 0).2.2.1 ∈ wsX6_init := by decide +kernel
theorem fl_X6_init_19 : Cond.fieldLink RX6 19 (TX6 1).1 (TX6 1).2.1 (TX6 1).2.2.1 ∈ wsX6_init := by decide +kernel
theorem fl_X6_init_26 : Cond.fieldLink RX6 26 (TX6 2).1 (TX6 2).2.1 (TX6 2).2.2.1 ∈ wsX6_init := by decide +kernel
theorem fl_X6_init_33 : Cond.fieldLink RX6 33 (TX6 3).1 (TX6 3).2.1 (TX6 3).2.2.1 ∈ wsX6_init := by decide +kernel
theorem fl_X6_init_40 : Cond.fieldLink RX6 40 (TX6 4).1 (TX6 4).2.1 (TX6 4).2.2.1 ∈ wsX6_init := by decide +kernel
theorem nw_X6_init_9 : (∀ w ∈ u_ws RX3 TX3 7, w ∈ wsX6_init) ∧ Cond.classLink RX6 9 RX3 ∈ wsX6_init ∧ Cond.instantiable RX3 7 ∈ wsX6_init ∧ Cond.initialized RX3 ∈ wsX6_init ∧ Cond.instanceMethod yX3_init ∈ wsX6_init := ⟨by decide +kernel, by decide +kernel, by decide +kernel, by decide +kernel, by decide +kernel⟩
theorem nw_X6_init_16 : (∀ w ∈ u_ws RX1 TX1 4, w ∈ wsX6_init) ∧ Cond.classLink RX6 16 RX1 ∈ wsX6_init ∧ Cond.instantiable RX1 4 ∈ wsX6_init ∧ Cond.initialized RX1 ∈ wsX6_init ∧ Cond.instanceMethod yX1_init ∈ wsX6_init := ⟨by decide +kernel, by decide +kernel, by decide +kernel, by decide +kernel, by decide +kernel⟩
theorem nw_X6_init_23 : (∀ w ∈ u_ws RX4 TX4 2, w ∈ wsX6_init) ∧ Cond.classLink RX6 23 RX4 ∈ wsX6_init ∧ Cond.instantiable RX4 2 ∈ wsX6_init ∧ Cond.initialized RX4 ∈ wsX6_init ∧ Cond.instanceMethod yX4_init ∈ wsX6_init := ⟨by decide +kernel, by decide +kernel, by decide +kernel, by decide +kernel, by decide +kernel⟩
theorem nw_X6_init_30 : (∀ w ∈ u_ws RX2 TX2 10, w ∈ wsX6_init) ∧ Cond.classLink RX6 30 RX2 ∈ wsX6_init ∧ Cond.instantiable RX2 10 ∈ wsX6_init ∧ Cond.initialized RX2 ∈ wsX6_init ∧ Cond.instanceMethod yX2_init ∈ wsX6_init := ⟨by decide +kernel, by decide +kernel, by decide +kernel, by decide +kernel, by decide +kernel⟩
theorem nw_X6_init_37 : (∀ w ∈ u_ws RX5 TX5 4, w ∈ wsX6_init) ∧ Cond.classLink RX6 37 RX5 ∈ wsX6_init ∧ Cond.instantiable RX5 4 ∈ wsX6_init ∧ Cond.initialized RX5 ∈ wsX6_init ∧ Cond.instanceMethod yX5_init ∈ wsX6_init := ⟨by decide +kernel, by decide +kernel, by decide +kernel, by decide +kernel, by decide +kernel⟩
theorem oi_X6_init : Cond.methodLink RX6 3 objectInit ∈ wsX6_init ∧ Cond.instanceMethod objectInit ∈ wsX6_init ∧ Cond.code objectInit ⟨#[0xb1]⟩ 1 none ∈ wsX6_init := ⟨by decide +kernel, by decide +kernel, by decide +kernel⟩
theorem in_X7_init_X7 : ∀ w ∈ u_ws RX7 TX7 19, w ∈ wsX7_init := by decide +kernel
theorem fl_X7_init_7 : Cond.fieldLink RX7 7 (TX7 0).1 (TX7 0).2.1 (TX7 0).2.2.1 ∈ wsX7_init := by decide +kernel
theorem fl_X7_init_13 : Cond.fieldLink RX7 13 (TX7 2).1 (TX7 2).2.1 (TX7 2).2.2.1 ∈ wsX7_init := by decide +kernel
theorem fl_X7_init_16 : Cond.fieldLink RX7 16 (TX7 4).1 (TX7 4).2.1 (TX7 4).2.2.1 ∈ wsX7_init := by decide +kernel
theorem fl_X7_init_19 : Cond.fieldLink RX7 19 (TX7 6).1 (TX7 6).2.1 (TX7 6).2.2.1 ∈ wsX7_init := by decide +kernel
theorem fl_X7_init_22 : Cond.fieldLink RX7 22 (TX7 7).1 (TX7 7).2.1 (TX7 7).2.2.1 ∈ wsX7_init := by decide +kernel
theorem fl_X7_init_25 : Cond.fieldLink RX7 25 (TX7 8).1 (TX7 8).2.1 (TX7 8).2.2.1 ∈ wsX7_init := by decide +kernel
theorem fl_X7_init_28 : Cond.fieldLink RX7 28 (TX7 9).1 (TX7 9).2.1 (TX7 9).2.2.1 ∈ wsX7_init := by decide +kernel
theorem fl_X7_init_31 : Cond.fieldLink RX7 31 (TX7 10).1 (TX7 10).2.1 (TX7 10).2.2.1 ∈ wsX7_init := by decide +kernel
theorem fl_X7_init_34 : Cond.fieldLink RX7 34 (TX7 11).1 (TX7 11).2.1 (TX7 11).2.2.1 ∈ wsX7_init := by decide +kernel
theorem fl_X7_init_37 : Cond.fieldLink RX7 37 (TX7 12).1 (TX7 12).2.1 (TX7 12).2.2.1 ∈ wsX7_init := by decide +kernel
theorem fl_X7_init_40 : Cond.fieldLink RX7 40 (TX7 14).1 (TX7 14).2.1 (TX7 14).2.2.1 ∈ wsX7_init := by decide +kernel
theorem fl_X7_init_43 : Cond.fieldLink RX7 43 (TX7 17).1 (TX7 17).2.1 (TX7 17).2.2.1 ∈ wsX7_init := by decide +kernel
theorem oi_X7_init : Cond.methodLink RX7 1 objectInit ∈ wsX7_init ∧ Cond.instanceMethod objectInit ∈ wsX7_init ∧ Cond.code objectInit ⟨#[0xb1]⟩ 1 none ∈ wsX7_init ∧ Cond.arrayClass .int ∈ wsX7_init := ⟨by decide +kernel, by decide +kernel, by decide +kernel, by decide +kernel⟩
set_option maxHeartbeats 4000000 in
set_option maxRecDepth 20000 in
theorem g9_c_X0 (l : Launch) (D : va_G) (t : g9_T) : g9_C l yX0_init wsX0_init rg_X0 2 192 D t (.inr (0, [.null, .null])) (g9_w0 t) := by
  refine g9_met (own := RX0) (cc := cX0_init) (maxL := 1) (by decide +kernel) rfl rfl (by decide) rfl ?_
  intro p e s m args below meth c A Q h0 X hi HR
  refine g9_aload_n X dX0_init_0 rfl 0 rfl ?_
  refine g9_objInit X oi_X0_init.1 oi_X0_init.2.1 oi_X0_init.2.2.1 dX0_init_1 ⟨Nat.le_of_ble_eq_true rfl, Nat.le_of_ble_eq_true rfl⟩ ?_
  refine g9_aload_n X dX0_init_4 rfl 0 rfl ?_
  refine g9_bipush (v := 96) X dX0_init_5 (by decide) ?_
  refine g9_newa (N := 96) X oi_X0_init.2.2.2 (by decide) (by decide) (Nat.le_of_ble_eq_true rfl) ⟨Nat.le_of_ble_eq_true rfl, Nat.le_of_ble_eq_true rfl⟩ dX0_init_7 (fun q0 => ?_)
  refine g9_putF (q0 := 0) (ci := 0) (C := RX0) (T := TX0) (N := 2) (k := 0) (ty0 := tyX0) (ws' := [(h0, .inr (0, [.ref q0, .null])), (q0, .inl (t.1, 96, .inl (fun _ => 0)))]) X hi rfl rfl (by decide) tyX0_ok nmX0 in_X0_init_X0 fl_X0_init_9 rfl rfl (tyX0_ok 0 (by decide)) rfl rfl (Nat.le_of_ble_eq_true rfl) rfl dX0_init_9 ?_
  refine g9_aload_n X dX0_init_12 rfl 0 rfl ?_
  refine g9_bipush (v := 96) X dX0_init_13 (by decide) ?_
  refine g9_newa (N := 96) X oi_X0_init.2.2.2 (by decide) (by decide) (Nat.le_of_ble_eq_true rfl) ⟨Nat.le_of_ble_eq_true rfl, Nat.le_of_ble_eq_true rfl⟩ dX0_init_15 (fun q1 => ?_)
  refine g9_putF (q0 := 0) (ci := 0) (C := RX0) (T := TX0) (N := 2) (k := 1) (ty0 := tyX0) (ws' := [(h0, .inr (0, [.ref q0, .ref q1])), (q0, .inl (t.1, 96, .inl (fun _ => 0))), (q1, .inl (t.1, 96, .inl (fun _ => 0)))]) X hi rfl rfl (by decide) tyX0_ok nmX0 in_X0_init_X0 fl_X0_init_15 rfl rfl (tyX0_ok 1 (by decide)) rfl rfl (Nat.le_of_ble_eq_true rfl) rfl dX0_init_17 ?_
  refine g9_widen (k := 2) (n := 192) (Nat.le_of_ble_eq_true rfl) (Nat.le_of_ble_eq_true rfl) ?_
  exact HR (g9_cat [h0, q0, q1] (fun _ => 0)) _ _ _ _ rfl dX0_init_20
set_option maxHeartbeats 4000000 in
set_option maxRecDepth 20000 in
theorem g9_c_X1 (l : Launch) (D : va_G) (t : g9_T) : g9_C l yX1_init wsX1_init rg_X1 6 482 D t (.inr (1, [.null, .null, .null, .null])) (g9_w1 t) := by
  refine g9_met (own := RX1) (cc := cX1_init) (maxL := 1) (by decide +kernel) rfl rfl (by decide) rfl ?_
  intro p e s m args below meth c A Q h0 X hi HR
  refine g9_aload_n X dX1_init_0 rfl 0 rfl ?_
  refine g9_objInit X oi_X1_init.1 oi_X1_init.2.1 oi_X1_init.2.2.1 dX1_init_1 ⟨Nat.le_of_ble_eq_true rfl, Nat.le_of_ble_eq_true rfl⟩ ?_
  refine g9_aload_n X dX1_init_4 rfl 0 rfl ?_
  refine g9_bipush (v := 96) X dX1_init_5 (by decide) ?_
  refine g9_newa (N := 96) X oi_X1_init.2.2.2 (by decide) (by decide) (Nat.le_of_ble_eq_true rfl) ⟨Nat.le_of_ble_eq_true rfl, Nat.le_of_ble_eq_true rfl⟩ dX1_init_7 (fun q0 => ?_)
  refine g9_putF (q0 := 0) (ci := 1) (C := RX1) (T := TX1) (N := 4) (k := 0) (ty0 := tyX1) (ws' := [(h0, .inr (1, [.ref q0, .null, .null, .null])), (q0, .inl (t.1, 96, .inl (fun _ => 0)))]) X hi rfl rfl (by decide) tyX1_ok nmX1 in_X1_init_X1 fl_X1_init_9 rfl rfl (tyX1_ok 0 (by decide)) rfl rfl (Nat.le_of_ble_eq_true rfl) rfl dX1_init_9 ?_
  refine g9_aload_n X dX1_init_12 rfl 0 rfl ?_
  refine g9_new (ci := 0) (fs := [.null, .null]) (C := RX0) (T := TX0) (N := 2) (ty := tyX0) X nw_X1_init_15.1 tyX0_ok nw_X1_init_15.2.1 nw_X1_init_15.2.2.1 nw_X1_init_15.2.2.2.1 rfl (fun j hj => by rcases (show j = 0 ∨ j = 1 by omega) with rfl | rfl <;> rfl) ⟨Nat.le_of_ble_eq_true rfl, Nat.le_of_ble_eq_true rfl⟩ dX1_init_13 (fun q1 => ?_)
  refine g9_dup X dX1_init_16 rfl ?_
  refine g9_callN (host := "RollPunch") X (g9_c_X0 l D t) (by decide +kernel) (fun hl => ⟨va_cnB 0 X.2.2.2.2.1 gX1_init_X0_init_n17 rfl rfl rfl hl (X.2.2.2.2.1 _ nw_X1_init_15.2.2.2.1) (by decide +kernel) ⟨Nat.le_of_ble_eq_true rfl, Nat.le_of_ble_eq_true rfl⟩, rfl, X.2.2.2.2.1 _ nw_X1_init_15.2.2.2.2⟩) (Nat.le_of_ble_eq_true rfl) dX1_init_17 ⟨Nat.le_of_ble_eq_true rfl, Nat.le_of_ble_eq_true rfl⟩ (fun u1 => ?_)
  refine g9_putF (q0 := 0) (ci := 1) (C := RX1) (T := TX1) (N := 4) (k := 1) (ty0 := tyX1) (ws' := [(h0, .inr (1, [.ref q0, .ref q1, .null, .null])), (q0, .inl (t.1, 96, .inl (fun _ => 0)))]) X hi rfl rfl (by decide) tyX1_ok nmX1 in_X1_init_X1 fl_X1_init_18 rfl rfl (tyX1_ok 1 (by decide)) rfl rfl (Nat.le_of_ble_eq_true rfl) rfl dX1_init_20 ?_
  refine g9_aload_n X dX1_init_23 rfl 0 rfl ?_
  refine g9_bipush (v := 96) X dX1_init_24 (by decide) ?_
  refine g9_newa (N := 96) X oi_X1_init.2.2.2 (by decide) (by decide) (Nat.le_of_ble_eq_true rfl) ⟨Nat.le_of_ble_eq_true rfl, Nat.le_of_ble_eq_true rfl⟩ dX1_init_26 (fun q2 => ?_)
  refine g9_putF (q0 := 0) (ci := 1) (C := RX1) (T := TX1) (N := 4) (k := 2) (ty0 := tyX1) (ws' := [(h0, .inr (1, [.ref q0, .ref q1, .ref q2, .null])), (q0, .inl (t.1, 96, .inl (fun _ => 0))), (q2, .inl (t.1, 96, .inl (fun _ => 0)))]) X hi rfl rfl (by decide) tyX1_ok nmX1 in_X1_init_X1 fl_X1_init_22 rfl rfl (tyX1_ok 2 (by decide)) rfl rfl (Nat.le_of_ble_eq_true rfl) rfl dX1_init_28 ?_
  refine g9_aload_n X dX1_init_31 rfl 0 rfl ?_
  refine g9_bipush (v := 96) X dX1_init_32 (by decide) ?_
  refine g9_newa (N := 96) X oi_X1_init.2.2.2 (by decide) (by decide) (Nat.le_of_ble_eq_true rfl) ⟨Nat.le_of_ble_eq_true rfl, Nat.le_of_ble_eq_true rfl⟩ dX1_init_34 (fun q3 => ?_)
  refine g9_putF (q0 := 0) (ci := 1) (C := RX1) (T := TX1) (N := 4) (k := 3) (ty0 := tyX1) (ws' := [(h0, .inr (1, [.ref q0, .ref q1, .ref q2, .ref q3])), (q0, .inl (t.1, 96, .inl (fun _ => 0))), (q2, .inl (t.1, 96, .inl (fun _ => 0))), (q3, .inl (t.1, 96, .inl (fun _ => 0)))]) X hi rfl rfl (by decide) tyX1_ok nmX1 in_X1_init_X1 fl_X1_init_25 rfl rfl (tyX1_ok 3 (by decide)) rfl rfl (Nat.le_of_ble_eq_true rfl) rfl dX1_init_36 ?_
  refine g9_widen (k := 6) (n := 482) (Nat.le_of_ble_eq_true rfl) (Nat.le_of_ble_eq_true rfl) ?_
  exact HR (g9_cat [h0, q0] (g9_blk 3 q1 u1 (g9_cat [q2, q3] (fun _ => 0)))) _ _ _ _ rfl dX1_init_39
set_option maxHeartbeats 4000000 in
set_option maxRecDepth 20000 in
theorem g9_c_X2 (l : Launch) (D : va_G) (t : g9_T) : g9_C l yX2_init wsX2_init rg_X2 4 240 D t (.inr (2, [.null, .int 0, .null, .null, .null, .int 0, .int 0, .int 0, .int 0, .int 0])) (g9_w2 t) := by
  refine g9_met (own := RX2) (cc := cX2_init) (maxL := 1) (by decide +kernel) rfl rfl (by decide) rfl ?_
  intro p e s m args below meth c A Q h0 X hi HR
  refine g9_aload_n X dX2_init_0 rfl 0 rfl ?_
  refine g9_objInit X oi_X2_init.1 oi_X2_init.2.1 oi_X2_init.2.2.1 dX2_init_1 ⟨Nat.le_of_ble_eq_true rfl, Nat.le_of_ble_eq_true rfl⟩ ?_
  refine g9_aload_n X dX2_init_4 rfl 0 rfl ?_
  refine g9_bipush (v := 60) X dX2_init_5 (by decide) ?_
  refine g9_newa (N := 60) X oi_X2_init.2.2.2 (by decide) (by decide) (Nat.le_of_ble_eq_true rfl) ⟨Nat.le_of_ble_eq_true rfl, Nat.le_of_ble_eq_true rfl⟩ dX2_init_7 (fun q0 => ?_)
  refine g9_putF (q0 := 0) (ci := 2) (C := RX2) (T := TX2) (N := 10) (k := 0) (ty0 := tyX2) (ws' := [(h0, .inr (2, [.ref q0, .int 0, .null, .null, .null, .int 0, .int 0, .int 0, .int 0, .int 0])), (q0, .inl (t.1, 60, .inl (fun _ => 0)))]) X hi rfl rfl (by decide) tyX2_ok nmX2 in_X2_init_X2 fl_X2_init_9 rfl rfl (tyX2_ok 0 (by decide)) rfl rfl (Nat.le_of_ble_eq_true rfl) rfl dX2_init_9 ?_
  refine g9_aload_n X dX2_init_12 rfl 0 rfl ?_
  refine g9_iconst (v := 0) X dX2_init_13 (by decide) ?_
  refine g9_put (q0 := 0) (ci := 2) (C := RX2) (T := TX2) (N := 10) (k := 1) (ty0 := tyX2) (ws' := [(h0, .inr (2, [.ref q0, .int 0, .null, .null, .null, .int 0, .int 0, .int 0, .int 0, .int 0])), (q0, .inl (t.1, 60, .inl (fun _ => 0)))]) X rfl rfl (by decide) tyX2_ok nmX2 in_X2_init_X2 fl_X2_init_15 rfl (tyX2_ok 1 (by decide)) rfl rfl (Nat.le_of_ble_eq_true rfl) rfl dX2_init_14 ?_
  refine g9_aload_n X dX2_init_17 rfl 0 rfl ?_
  refine g9_bipush (v := 60) X dX2_init_18 (by decide) ?_
  refine g9_newa (N := 60) X oi_X2_init.2.2.2 (by decide) (by decide) (Nat.le_of_ble_eq_true rfl) ⟨Nat.le_of_ble_eq_true rfl, Nat.le_of_ble_eq_true rfl⟩ dX2_init_20 (fun q1 => ?_)
  refine g9_putF (q0 := 0) (ci := 2) (C := RX2) (T := TX2) (N := 10) (k := 2) (ty0 := tyX2) (ws' := [(h0, .inr (2, [.ref q0, .int 0, .ref q1, .null, .null, .int 0, .int 0, .int 0, .int 0, .int 0])), (q0, .inl (t.1, 60, .inl (fun _ => 0))), (q1, .inl (t.1, 60, .inl (fun _ => 0)))]) X hi rfl rfl (by decide) tyX2_ok nmX2 in_X2_init_X2 fl_X2_init_19 rfl rfl (tyX2_ok 2 (by decide)) rfl rfl (Nat.le_of_ble_eq_true rfl) rfl dX2_init_22 ?_
  refine g9_aload_n X dX2_init_25 rfl 0 rfl ?_
  refine g9_bipush (v := 60) X dX2_init_26 (by decide) ?_
  refine g9_newa (N := 60) X oi_X2_init.2.2.2 (by decide) (by decide) (Nat.le_of_ble_eq_true rfl) ⟨Nat.le_of_ble_eq_true rfl, Nat.le_of_ble_eq_true rfl⟩ dX2_init_28 (fun q2 => ?_)
  refine g9_putF (q0 := 0) (ci := 2) (C := RX2) (T := TX2) (N := 10) (k := 3) (ty0 := tyX2) (ws' := [(h0, .inr (2, [.ref q0, .int 0, .ref q1, .ref q2, .null, .int 0, .int 0, .int 0, .int 0, .int 0])), (q0, .inl (t.1, 60, .inl (fun _ => 0))), (q1, .inl (t.1, 60, .inl (fun _ => 0))), (q2, .inl (t.1, 60, .inl (fun _ => 0)))]) X hi rfl rfl (by decide) tyX2_ok nmX2 in_X2_init_X2 fl_X2_init_22 rfl rfl (tyX2_ok 3 (by decide)) rfl rfl (Nat.le_of_ble_eq_true rfl) rfl dX2_init_30 ?_
  refine g9_aload_n X dX2_init_33 rfl 0 rfl ?_
  refine g9_bipush (v := 60) X dX2_init_34 (by decide) ?_
  refine g9_newa (N := 60) X oi_X2_init.2.2.2 (by decide) (by decide) (Nat.le_of_ble_eq_true rfl) ⟨Nat.le_of_ble_eq_true rfl, Nat.le_of_ble_eq_true rfl⟩ dX2_init_36 (fun q3 => ?_)
  refine g9_putF (q0 := 0) (ci := 2) (C := RX2) (T := TX2) (N := 10) (k := 4) (ty0 := tyX2) (ws' := [(h0, .inr (2, [.ref q0, .int 0, .ref q1, .ref q2, .ref q3, .int 0, .int 0, .int 0, .int 0, .int 0])), (q0, .inl (t.1, 60, .inl (fun _ => 0))), (q1, .inl (t.1, 60, .inl (fun _ => 0))), (q2, .inl (t.1, 60, .inl (fun _ => 0))), (q3, .inl (t.1, 60, .inl (fun _ => 0)))]) X hi rfl rfl (by decide) tyX2_ok nmX2 in_X2_init_X2 fl_X2_init_25 rfl rfl (tyX2_ok 4 (by decide)) rfl rfl (Nat.le_of_ble_eq_true rfl) rfl dX2_init_38 ?_
  refine g9_aload_n X dX2_init_41 rfl 0 rfl ?_
  refine g9_iconst (v := 0) X dX2_init_42 (by decide) ?_
  refine g9_put (q0 := 0) (ci := 2) (C := RX2) (T := TX2) (N := 10) (k := 5) (ty0 := tyX2) (ws' := [(h0, .inr (2, [.ref q0, .int 0, .ref q1, .ref q2, .ref q3, .int 0, .int 0, .int 0, .int 0, .int 0])), (q0, .inl (t.1, 60, .inl (fun _ => 0))), (q1, .inl (t.1, 60, .inl (fun _ => 0))), (q2, .inl (t.1, 60, .inl (fun _ => 0))), (q3, .inl (t.1, 60, .inl (fun _ => 0)))]) X rfl rfl (by decide) tyX2_ok nmX2 in_X2_init_X2 fl_X2_init_28 rfl (tyX2_ok 5 (by decide)) rfl rfl (Nat.le_of_ble_eq_true rfl) rfl dX2_init_43 ?_
  refine g9_aload_n X dX2_init_46 rfl 0 rfl ?_
  refine g9_iconst (v := 0) X dX2_init_47 (by decide) ?_
  refine g9_put (q0 := 0) (ci := 2) (C := RX2) (T := TX2) (N := 10) (k := 6) (ty0 := tyX2) (ws' := [(h0, .inr (2, [.ref q0, .int 0, .ref q1, .ref q2, .ref q3, .int 0, .int 0, .int 0, .int 0, .int 0])), (q0, .inl (t.1, 60, .inl (fun _ => 0))), (q1, .inl (t.1, 60, .inl (fun _ => 0))), (q2, .inl (t.1, 60, .inl (fun _ => 0))), (q3, .inl (t.1, 60, .inl (fun _ => 0)))]) X rfl rfl (by decide) tyX2_ok nmX2 in_X2_init_X2 fl_X2_init_31 rfl (tyX2_ok 6 (by decide)) rfl rfl (Nat.le_of_ble_eq_true rfl) rfl dX2_init_48 ?_
  refine g9_aload_n X dX2_init_51 rfl 0 rfl ?_
  refine g9_iconst (v := (-1)) X dX2_init_52 (by decide) ?_
  refine g9_put (q0 := 0) (ci := 2) (C := RX2) (T := TX2) (N := 10) (k := 7) (ty0 := tyX2) (ws' := [(h0, .inr (2, [.ref q0, .int 0, .ref q1, .ref q2, .ref q3, .int 0, .int 0, .int (-1), .int 0, .int 0])), (q0, .inl (t.1, 60, .inl (fun _ => 0))), (q1, .inl (t.1, 60, .inl (fun _ => 0))), (q2, .inl (t.1, 60, .inl (fun _ => 0))), (q3, .inl (t.1, 60, .inl (fun _ => 0)))]) X rfl rfl (by decide) tyX2_ok nmX2 in_X2_init_X2 fl_X2_init_34 rfl (tyX2_ok 7 (by decide)) rfl rfl (Nat.le_of_ble_eq_true rfl) rfl dX2_init_53 ?_
  refine g9_aload_n X dX2_init_56 rfl 0 rfl ?_
  refine g9_iconst (v := 0) X dX2_init_57 (by decide) ?_
  refine g9_put (q0 := 0) (ci := 2) (C := RX2) (T := TX2) (N := 10) (k := 8) (ty0 := tyX2) (ws' := [(h0, .inr (2, [.ref q0, .int 0, .ref q1, .ref q2, .ref q3, .int 0, .int 0, .int (-1), .int 0, .int 0])), (q0, .inl (t.1, 60, .inl (fun _ => 0))), (q1, .inl (t.1, 60, .inl (fun _ => 0))), (q2, .inl (t.1, 60, .inl (fun _ => 0))), (q3, .inl (t.1, 60, .inl (fun _ => 0)))]) X rfl rfl (by decide) tyX2_ok nmX2 in_X2_init_X2 fl_X2_init_37 rfl (tyX2_ok 8 (by decide)) rfl rfl (Nat.le_of_ble_eq_true rfl) rfl dX2_init_58 ?_
  refine g9_aload_n X dX2_init_61 rfl 0 rfl ?_
  refine g9_iconst (v := 0) X dX2_init_62 (by decide) ?_
  refine g9_put (q0 := 0) (ci := 2) (C := RX2) (T := TX2) (N := 10) (k := 9) (ty0 := tyX2) (ws' := [(h0, .inr (2, [.ref q0, .int 0, .ref q1, .ref q2, .ref q3, .int 0, .int 0, .int (-1), .int 0, .int 0])), (q0, .inl (t.1, 60, .inl (fun _ => 0))), (q1, .inl (t.1, 60, .inl (fun _ => 0))), (q2, .inl (t.1, 60, .inl (fun _ => 0))), (q3, .inl (t.1, 60, .inl (fun _ => 0)))]) X rfl rfl (by decide) tyX2_ok nmX2 in_X2_init_X2 fl_X2_init_40 rfl (tyX2_ok 9 (by decide)) rfl rfl (Nat.le_of_ble_eq_true rfl) rfl dX2_init_63 ?_
  refine g9_widen (k := 4) (n := 240) (Nat.le_of_ble_eq_true rfl) (Nat.le_of_ble_eq_true rfl) ?_
  exact HR (g9_cat [h0, q0, q1, q2, q3] (fun _ => 0)) _ _ _ _ rfl dX2_init_66
set_option maxHeartbeats 4000000 in
set_option maxRecDepth 20000 in
theorem g9_c_X3 (l : Launch) (D : va_G) (t : g9_T) : g9_C l yX3_init wsX3_init rg_X3 7 578 D t (.inr (3, [.null, .null, .null, .null, .null, .int 0, .int 0])) (g9_w3 t) := by
  refine g9_met (own := RX3) (cc := cX3_init) (maxL := 1) (by decide +kernel) rfl rfl (by decide) rfl ?_
  intro p e s m args below meth c A Q h0 X hi HR
  refine g9_aload_n X dX3_init_0 rfl 0 rfl ?_
  refine g9_objInit X oi_X3_init.1 oi_X3_init.2.1 oi_X3_init.2.2.1 dX3_init_1 ⟨Nat.le_of_ble_eq_true rfl, Nat.le_of_ble_eq_true rfl⟩ ?_
  refine g9_aload_n X dX3_init_4 rfl 0 rfl ?_
  refine g9_bipush (v := 96) X dX3_init_5 (by decide) ?_
  refine g9_newa (N := 96) X oi_X3_init.2.2.2 (by decide) (by decide) (Nat.le_of_ble_eq_true rfl) ⟨Nat.le_of_ble_eq_true rfl, Nat.le_of_ble_eq_true rfl⟩ dX3_init_7 (fun q0 => ?_)
  refine g9_putF (q0 := 0) (ci := 3) (C := RX3) (T := TX3) (N := 7) (k := 0) (ty0 := tyX3) (ws' := [(h0, .inr (3, [.ref q0, .null, .null, .null, .null, .int 0, .int 0])), (q0, .inl (t.1, 96, .inl (fun _ => 0)))]) X hi rfl rfl (by decide) tyX3_ok nmX3 in_X3_init_X3 fl_X3_init_9 rfl rfl (tyX3_ok 0 (by decide)) rfl rfl (Nat.le_of_ble_eq_true rfl) rfl dX3_init_9 ?_
  refine g9_aload_n X dX3_init_12 rfl 0 rfl ?_
  refine g9_bipush (v := 96) X dX3_init_13 (by decide) ?_
  refine g9_newa (N := 96) X oi_X3_init.2.2.2 (by decide) (by decide) (Nat.le_of_ble_eq_true rfl) ⟨Nat.le_of_ble_eq_true rfl, Nat.le_of_ble_eq_true rfl⟩ dX3_init_15 (fun q1 => ?_)
  refine g9_putF (q0 := 0) (ci := 3) (C := RX3) (T := TX3) (N := 7) (k := 1) (ty0 := tyX3) (ws' := [(h0, .inr (3, [.ref q0, .ref q1, .null, .null, .null, .int 0, .int 0])), (q0, .inl (t.1, 96, .inl (fun _ => 0))), (q1, .inl (t.1, 96, .inl (fun _ => 0)))]) X hi rfl rfl (by decide) tyX3_ok nmX3 in_X3_init_X3 fl_X3_init_15 rfl rfl (tyX3_ok 1 (by decide)) rfl rfl (Nat.le_of_ble_eq_true rfl) rfl dX3_init_17 ?_
  refine g9_aload_n X dX3_init_20 rfl 0 rfl ?_
  refine g9_bipush (v := 96) X dX3_init_21 (by decide) ?_
  refine g9_newa (N := 96) X oi_X3_init.2.2.2 (by decide) (by decide) (Nat.le_of_ble_eq_true rfl) ⟨Nat.le_of_ble_eq_true rfl, Nat.le_of_ble_eq_true rfl⟩ dX3_init_23 (fun q2 => ?_)
  refine g9_putF (q0 := 0) (ci := 3) (C := RX3) (T := TX3) (N := 7) (k := 2) (ty0 := tyX3) (ws' := [(h0, .inr (3, [.ref q0, .ref q1, .ref q2, .null, .null, .int 0, .int 0])), (q0, .inl (t.1, 96, .inl (fun _ => 0))), (q1, .inl (t.1, 96, .inl (fun _ => 0))), (q2, .inl (t.1, 96, .inl (fun _ => 0)))]) X hi rfl rfl (by decide) tyX3_ok nmX3 in_X3_init_X3 fl_X3_init_18 rfl rfl (tyX3_ok 2 (by decide)) rfl rfl (Nat.le_of_ble_eq_true rfl) rfl dX3_init_25 ?_
  refine g9_aload_n X dX3_init_28 rfl 0 rfl ?_
  refine g9_bipush (v := 96) X dX3_init_29 (by decide) ?_
  refine g9_newa (N := 96) X oi_X3_init.2.2.2 (by decide) (by decide) (Nat.le_of_ble_eq_true rfl) ⟨Nat.le_of_ble_eq_true rfl, Nat.le_of_ble_eq_true rfl⟩ dX3_init_31 (fun q3 => ?_)
  refine g9_putF (q0 := 0) (ci := 3) (C := RX3) (T := TX3) (N := 7) (k := 3) (ty0 := tyX3) (ws' := [(h0, .inr (3, [.ref q0, .ref q1, .ref q2, .ref q3, .null, .int 0, .int 0])), (q0, .inl (t.1, 96, .inl (fun _ => 0))), (q1, .inl (t.1, 96, .inl (fun _ => 0))), (q2, .inl (t.1, 96, .inl (fun _ => 0))), (q3, .inl (t.1, 96, .inl (fun _ => 0)))]) X hi rfl rfl (by decide) tyX3_ok nmX3 in_X3_init_X3 fl_X3_init_21 rfl rfl (tyX3_ok 3 (by decide)) rfl rfl (Nat.le_of_ble_eq_true rfl) rfl dX3_init_33 ?_
  refine g9_aload_n X dX3_init_36 rfl 0 rfl ?_
  refine g9_new (ci := 0) (fs := [.null, .null]) (C := RX0) (T := TX0) (N := 2) (ty := tyX0) X nw_X3_init_24.1 tyX0_ok nw_X3_init_24.2.1 nw_X3_init_24.2.2.1 nw_X3_init_24.2.2.2.1 rfl (fun j hj => by rcases (show j = 0 ∨ j = 1 by omega) with rfl | rfl <;> rfl) ⟨Nat.le_of_ble_eq_true rfl, Nat.le_of_ble_eq_true rfl⟩ dX3_init_37 (fun q4 => ?_)
  refine g9_dup X dX3_init_40 rfl ?_
  refine g9_callN (host := "RollPunch") X (g9_c_X0 l D t) (by decide +kernel) (fun hl => ⟨va_cnB 0 X.2.2.2.2.1 gX3_init_X0_init_n26 rfl rfl rfl hl (X.2.2.2.2.1 _ nw_X3_init_24.2.2.2.1) (by decide +kernel) ⟨Nat.le_of_ble_eq_true rfl, Nat.le_of_ble_eq_true rfl⟩, rfl, X.2.2.2.2.1 _ nw_X3_init_24.2.2.2.2⟩) (Nat.le_of_ble_eq_true rfl) dX3_init_41 ⟨Nat.le_of_ble_eq_true rfl, Nat.le_of_ble_eq_true rfl⟩ (fun u4 => ?_)
  refine g9_putF (q0 := 0) (ci := 3) (C := RX3) (T := TX3) (N := 7) (k := 4) (ty0 := tyX3) (ws' := [(h0, .inr (3, [.ref q0, .ref q1, .ref q2, .ref q3, .ref q4, .int 0, .int 0])), (q0, .inl (t.1, 96, .inl (fun _ => 0))), (q1, .inl (t.1, 96, .inl (fun _ => 0))), (q2, .inl (t.1, 96, .inl (fun _ => 0))), (q3, .inl (t.1, 96, .inl (fun _ => 0)))]) X hi rfl rfl (by decide) tyX3_ok nmX3 in_X3_init_X3 fl_X3_init_27 rfl rfl (tyX3_ok 4 (by decide)) rfl rfl (Nat.le_of_ble_eq_true rfl) rfl dX3_init_44 ?_
  refine g9_aload_n X dX3_init_47 rfl 0 rfl ?_
  refine g9_iconst (v := 1) X dX3_init_48 (by decide) ?_
  refine g9_put (q0 := 0) (ci := 3) (C := RX3) (T := TX3) (N := 7) (k := 5) (ty0 := tyX3) (ws' := [(h0, .inr (3, [.ref q0, .ref q1, .ref q2, .ref q3, .ref q4, .int 1, .int 0])), (q0, .inl (t.1, 96, .inl (fun _ => 0))), (q1, .inl (t.1, 96, .inl (fun _ => 0))), (q2, .inl (t.1, 96, .inl (fun _ => 0))), (q3, .inl (t.1, 96, .inl (fun _ => 0)))]) X rfl rfl (by decide) tyX3_ok nmX3 in_X3_init_X3 fl_X3_init_31 rfl (tyX3_ok 5 (by decide)) rfl rfl (Nat.le_of_ble_eq_true rfl) rfl dX3_init_49 ?_
  refine g9_aload_n X dX3_init_52 rfl 0 rfl ?_
  refine g9_iconst (v := 2) X dX3_init_53 (by decide) ?_
  refine g9_put (q0 := 0) (ci := 3) (C := RX3) (T := TX3) (N := 7) (k := 6) (ty0 := tyX3) (ws' := [(h0, .inr (3, [.ref q0, .ref q1, .ref q2, .ref q3, .ref q4, .int 1, .int 2])), (q0, .inl (t.1, 96, .inl (fun _ => 0))), (q1, .inl (t.1, 96, .inl (fun _ => 0))), (q2, .inl (t.1, 96, .inl (fun _ => 0))), (q3, .inl (t.1, 96, .inl (fun _ => 0)))]) X rfl rfl (by decide) tyX3_ok nmX3 in_X3_init_X3 fl_X3_init_35 rfl (tyX3_ok 6 (by decide)) rfl rfl (Nat.le_of_ble_eq_true rfl) rfl dX3_init_54 ?_
  refine g9_widen (k := 7) (n := 578) (Nat.le_of_ble_eq_true rfl) (Nat.le_of_ble_eq_true rfl) ?_
  exact HR (g9_cat [h0, q0, q1, q2, q3] (g9_blk 3 q4 u4 (fun _ => 0))) _ _ _ _ rfl dX3_init_57
set_option maxHeartbeats 4000000 in
set_option maxRecDepth 20000 in
theorem g9_c_X5 (l : Launch) (D : va_G) (t : g9_T) : g9_C l yX5_init wsX5_init rg_X5 4 290 D t (.inr (5, [.null, .null, .int 0, .int 0])) (g9_w5 t) := by
  refine g9_met (own := RX5) (cc := cX5_init) (maxL := 1) (by decide +kernel) rfl rfl (by decide) rfl ?_
  intro p e s m args below meth c A Q h0 X hi HR
  refine g9_aload_n X dX5_init_0 rfl 0 rfl ?_
  refine g9_objInit X oi_X5_init.1 oi_X5_init.2.1 oi_X5_init.2.2.1 dX5_init_1 ⟨Nat.le_of_ble_eq_true rfl, Nat.le_of_ble_eq_true rfl⟩ ?_
  refine g9_aload_n X dX5_init_4 rfl 0 rfl ?_
  refine g9_bipush (v := 96) X dX5_init_5 (by decide) ?_
  refine g9_newa (N := 96) X oi_X5_init.2.2.2 (by decide) (by decide) (Nat.le_of_ble_eq_true rfl) ⟨Nat.le_of_ble_eq_true rfl, Nat.le_of_ble_eq_true rfl⟩ dX5_init_7 (fun q0 => ?_)
  refine g9_putF (q0 := 0) (ci := 5) (C := RX5) (T := TX5) (N := 4) (k := 0) (ty0 := tyX5) (ws' := [(h0, .inr (5, [.ref q0, .null, .int 0, .int 0])), (q0, .inl (t.1, 96, .inl (fun _ => 0)))]) X hi rfl rfl (by decide) tyX5_ok nmX5 in_X5_init_X5 fl_X5_init_9 rfl rfl (tyX5_ok 0 (by decide)) rfl rfl (Nat.le_of_ble_eq_true rfl) rfl dX5_init_9 ?_
  refine g9_aload_n X dX5_init_12 rfl 0 rfl ?_
  refine g9_new (ci := 0) (fs := [.null, .null]) (C := RX0) (T := TX0) (N := 2) (ty := tyX0) X nw_X5_init_15.1 tyX0_ok nw_X5_init_15.2.1 nw_X5_init_15.2.2.1 nw_X5_init_15.2.2.2.1 rfl (fun j hj => by rcases (show j = 0 ∨ j = 1 by omega) with rfl | rfl <;> rfl) ⟨Nat.le_of_ble_eq_true rfl, Nat.le_of_ble_eq_true rfl⟩ dX5_init_13 (fun q1 => ?_)
  refine g9_dup X dX5_init_16 rfl ?_
  refine g9_callN (host := "RollPunch") X (g9_c_X0 l D t) (by decide +kernel) (fun hl => ⟨va_cnB 0 X.2.2.2.2.1 gX5_init_X0_init_n17 rfl rfl rfl hl (X.2.2.2.2.1 _ nw_X5_init_15.2.2.2.1) (by decide +kernel) ⟨Nat.le_of_ble_eq_true rfl, Nat.le_of_ble_eq_true rfl⟩, rfl, X.2.2.2.2.1 _ nw_X5_init_15.2.2.2.2⟩) (Nat.le_of_ble_eq_true rfl) dX5_init_17 ⟨Nat.le_of_ble_eq_true rfl, Nat.le_of_ble_eq_true rfl⟩ (fun u1 => ?_)
  refine g9_putF (q0 := 0) (ci := 5) (C := RX5) (T := TX5) (N := 4) (k := 1) (ty0 := tyX5) (ws' := [(h0, .inr (5, [.ref q0, .ref q1, .int 0, .int 0])), (q0, .inl (t.1, 96, .inl (fun _ => 0)))]) X hi rfl rfl (by decide) tyX5_ok nmX5 in_X5_init_X5 fl_X5_init_18 rfl rfl (tyX5_ok 1 (by decide)) rfl rfl (Nat.le_of_ble_eq_true rfl) rfl dX5_init_20 ?_
  refine g9_aload_n X dX5_init_23 rfl 0 rfl ?_
  refine g9_iconst (v := 0) X dX5_init_24 (by decide) ?_
  refine g9_put (q0 := 0) (ci := 5) (C := RX5) (T := TX5) (N := 4) (k := 2) (ty0 := tyX5) (ws' := [(h0, .inr (5, [.ref q0, .ref q1, .int 0, .int 0])), (q0, .inl (t.1, 96, .inl (fun _ => 0)))]) X rfl rfl (by decide) tyX5_ok nmX5 in_X5_init_X5 fl_X5_init_22 rfl (tyX5_ok 2 (by decide)) rfl rfl (Nat.le_of_ble_eq_true rfl) rfl dX5_init_25 ?_
  refine g9_aload_n X dX5_init_28 rfl 0 rfl ?_
  refine g9_iconst (v := (-1)) X dX5_init_29 (by decide) ?_
  refine g9_put (q0 := 0) (ci := 5) (C := RX5) (T := TX5) (N := 4) (k := 3) (ty0 := tyX5) (ws' := [(h0, .inr (5, [.ref q0, .ref q1, .int 0, .int (-1)])), (q0, .inl (t.1, 96, .inl (fun _ => 0)))]) X rfl rfl (by decide) tyX5_ok nmX5 in_X5_init_X5 fl_X5_init_26 rfl (tyX5_ok 3 (by decide)) rfl rfl (Nat.le_of_ble_eq_true rfl) rfl dX5_init_30 ?_
  refine g9_widen (k := 4) (n := 290) (Nat.le_of_ble_eq_true rfl) (Nat.le_of_ble_eq_true rfl) ?_
  exact HR (g9_cat [h0, q0] (g9_blk 3 q1 u1 (fun _ => 0))) _ _ _ _ rfl dX5_init_33
/-- one saved Paper more -/
theorem g9_f_c : ∀ n (u v : Nat → Nat), (∀ i, i < n → u (2 + 8 * i) = v (2 + 8 * i)) → g9_f n u = g9_f n v
  | 0, _, _, _ => rfl
  | n + 1, u, v, h => by
    show va_up (g9_f n u) n (some (u (2 + 8 * n))) = va_up (g9_f n v) n (some (v (2 + 8 * n)))
    rw [g9_f_c n u v (fun i hi => h i (by omega)), h n (by omega)]
theorem g9_w3_c (t : g9_T) (h : Nat) {u v : Nat → Nat} (e : ∀ k, 1 ≤ k → k < 8 → u k = v k) : g9_w3 t h u = g9_w3 t h v := by
  unfold g9_w3 g9_w0
  simp only [e 1 (by decide) (by decide), e 2 (by decide) (by decide), e 3 (by decide) (by decide), e 4 (by decide) (by decide), e 5 (by decide) (by decide), e 6 (by decide) (by decide), e 7 (by decide) (by decide), Nat.reduceAdd]
theorem g9_p4_c (t : g9_T) : ∀ n (u v : Nat → Nat), (∀ i, 2 ≤ i → i < 2 + 8 * n → u i = v i) → g9_p4 t u n = g9_p4 t v n
  | 0, _, _, _ => rfl
  | n + 1, u, v, h => by
    show g9_w3 t (u (2 + 8 * n)) (fun k => u (2 + 8 * n + k)) ++ g9_p4 t u n = g9_w3 t (v (2 + 8 * n)) (fun k => v (2 + 8 * n + k)) ++ g9_p4 t v n
    rw [g9_p4_c t n u v (fun i h1 h2 => h i h1 (by omega)), h (2 + 8 * n) (by omega) (by omega), g9_w3_c t _ (u := fun k => u (2 + 8 * n + k)) (v := fun k => v (2 + 8 * n + k)) (fun k h1 h2 => h (2 + 8 * n + k) (by omega) (by omega))]
def g9_put8 (n p : Nat) (v u : Nat → Nat) : Nat → Nat := fun k => if k < 2 + 8 * n then u k else if k = 2 + 8 * n then p else v (k - (2 + 8 * n))
theorem g9_put8_lo {n p k : Nat} {v u : Nat → Nat} (h : k < 2 + 8 * n) : g9_put8 n p v u k = u k := if_pos h
theorem g9_put8_at (n p : Nat) (v u : Nat → Nat) : g9_put8 n p v u (2 + 8 * n) = p := by
  unfold g9_put8
  rw [if_neg (by omega), if_pos rfl]
theorem g9_put8_hi {n p k : Nat} {v u : Nat → Nat} (h : 1 ≤ k) : g9_put8 n p v u (2 + 8 * n + k) = v k := by
  unfold g9_put8
  rw [if_neg (by omega), if_neg (by omega), show 2 + 8 * n + k - (2 + 8 * n) = k from by omega]
theorem g9_put8_p (t : g9_T) (n p : Nat) (v u : Nat → Nat) : g9_p4 t (g9_put8 n p v u) (n + 1) = g9_w3 t p v ++ g9_p4 t u n := by
  show g9_w3 t (g9_put8 n p v u (2 + 8 * n)) (fun k => g9_put8 n p v u (2 + 8 * n + k)) ++ g9_p4 t (g9_put8 n p v u) n = _
  rw [g9_put8_at, g9_p4_c t n (g9_put8 n p v u) u (fun i _ h => g9_put8_lo h), g9_w3_c t p (u := fun k => g9_put8 n p v u (2 + 8 * n + k)) (v := v) (fun k h _ => g9_put8_hi h)]
theorem g9_put8_f (n p : Nat) (v u : Nat → Nat) : g9_f (n + 1) (g9_put8 n p v u) = va_up (g9_f n u) n (some p) := by
  show va_up (g9_f n (g9_put8 n p v u)) n (some (g9_put8 n p v u (2 + 8 * n))) = _
  rw [g9_put8_at, g9_f_c n (g9_put8 n p v u) u (fun i hi => g9_put8_lo (by omega))]
set_option maxHeartbeats 4000000 in
set_option maxRecDepth 20000 in
theorem g9_c_X4 (l : Launch) (D : va_G) (t : g9_T) : g9_C l yX4_init wsX4_init rg_X4 49 3516 D t (.inr (4, [.null, .int 0])) (g9_w4 t) := by
  refine g9_met (own := RX4) (cc := cX4_init) (maxL := 2) (by decide +kernel) rfl rfl (by decide) rfl ?_
  intro p e s m args below meth c A Q h0 X hi HR
  have loop : ∀ (q0 : Nat) i, i ≤ 6 → ∀ u : Nat → Nat, u 1 = q0 → g9_U p l e rg_X4 s m args below meth c Q A D 2 (1 + 8 * i) (6 + 585 * i) [(h0, .inr (4, [.ref q0, .int 0])), (q0, .inl (t.2.1, 6, .inr (.inr (.inr (.inr (g9_f i u))))))] (g9_p4 t u i) 20 [(0, .ref h0), (1, .int (nI i))] [] := by
    intro q0
    refine m9_down 6 (fun i hi6 next => ?_)
    intro u hu
    refine g9_iload_n X dX4_init_20 rfl 1 rfl ?_
    refine g9_aload_n X dX4_init_21 rfl 0 rfl ?_
    refine g9_get (q0 := 0) (ci := 4) (C := RX4) (T := TX4) (N := 2) (k := 0) X rfl rfl (by decide) in_X4_init_X4 fl_X4_init_11 rfl dX4_init_22 ?_
    refine g9_alen (q0 := 1) (t0 := 1) (cA := t.2.1) (ty := .int) (x := 0) (v := 6) X rfl rfl dX4_init_25 ?_
    refine g9_icmp_ge (tgt := 48) X dX4_init_26 (by decide) (fun c1 => ?_) (fun c1 => ?_)
    · have hi2 : i = 6 := m9_ex (N := 6) (by decide) hi6 c1
      subst hi2
      refine HR u _ _ _ _ ?_ dX4_init_48
      show _ = [(h0, .inr (4, [.ref (u 1), .int 0])), (u 1, .inl (t.2.1, 6, .inr (.inr (.inr (.inr (g9_f 6 u))))))] ++ g9_p4 t u 6
      rw [hu]
    · have hlt : i < 6 := m9_go (N := 6) (by decide) hi6 c1
      refine g9_aload_n X dX4_init_29 rfl 0 rfl ?_
      refine g9_get (q0 := 0) (ci := 4) (C := RX4) (T := TX4) (N := 2) (k := 0) X rfl rfl (by decide) in_X4_init_X4 fl_X4_init_11 rfl dX4_init_30 ?_
      refine g9_iload_n X dX4_init_33 rfl 1 rfl ?_
      refine g9_new (ci := 3) (fs := [.null, .null, .null, .null, .null, .int 0, .int 0]) (C := RX3) (T := TX3) (N := 7) (ty := tyX3) X nw_X4_init_9.1 tyX3_ok nw_X4_init_9.2.1 nw_X4_init_9.2.2.1 nw_X4_init_9.2.2.2.1 rfl (fun j hj => by rcases (show j = 0 ∨ j = 1 ∨ j = 2 ∨ j = 3 ∨ j = 4 ∨ j = 5 ∨ j = 6 by omega) with rfl | rfl | rfl | rfl | rfl | rfl | rfl <;> rfl) ⟨by show 1 + 8 * i + 1 ≤ 49; omega, by show 6 + 585 * i + 7 ≤ 3516; omega⟩ dX4_init_34 (fun q1 => ?_)
      refine g9_dup X dX4_init_37 rfl ?_
      refine g9_callN (host := "RollPunch") X (g9_c_X3 l D t) (by decide +kernel) (fun hl => ⟨va_cnB 0 X.2.2.2.2.1 gX4_init_X3_init_n21 rfl rfl rfl hl (X.2.2.2.2.1 _ nw_X4_init_9.2.2.2.1) (by decide +kernel) ⟨Nat.le_of_ble_eq_true rfl, Nat.le_of_ble_eq_true rfl⟩, rfl, X.2.2.2.2.1 _ nw_X4_init_9.2.2.2.2⟩) (Nat.le_of_ble_eq_true rfl) dX4_init_38 ⟨by show 1 + 8 * i + 1 + 7 ≤ 49; omega, by show 6 + 585 * i + 7 + 578 ≤ 3516; omega⟩ (fun u1 => ?_)
      refine g9_aast (q0 := 1) (qk := 2) (j := i) (n := 6) (f := g9_f i u) (ws' := [(h0, .inr (4, [.ref q0, .int 0])), (q0, .inl (t.2.1, 6, .inr (.inr (.inr (.inr (va_up (g9_f i u) i (some q1)))))))]) X rfl rfl (m9_in (by omega) (by decide)) rfl (m9_cl (by omega)) dX4_init_41 ?_
      refine g9_iinc (k := 1) (v := nI (i + 1)) X dX4_init_42 rfl (nI_1 i) (by decide) [1, 0] rfl ?_
      refine g9_goto (tgt := 20) X dX4_init_45 (by decide) ?_
      have h9 := next hlt (g9_put8 i q1 u1 u) (by rw [g9_put8_lo (by omega)]; exact hu)
      rw [g9_put8_f, g9_put8_p] at h9
      exact g9_widen (by omega) (by omega) h9
  refine g9_aload_n X dX4_init_0 rfl 0 rfl ?_
  refine g9_objInit X oi_X4_init.1 oi_X4_init.2.1 oi_X4_init.2.2 dX4_init_1 ⟨Nat.le_of_ble_eq_true rfl, Nat.le_of_ble_eq_true rfl⟩ ?_
  refine g9_aload_n X dX4_init_4 rfl 0 rfl ?_
  refine g9_bipush (v := 6) X dX4_init_5 (by decide) ?_
  refine g9_newq (N := 6) X nw_X4_init_9.2.1 (by decide) (by decide) (Nat.le_of_ble_eq_true rfl) ⟨Nat.le_of_ble_eq_true rfl, Nat.le_of_ble_eq_true rfl⟩ dX4_init_7 (fun q0 => ?_)
  refine g9_putF (q0 := 0) (ci := 4) (C := RX4) (T := TX4) (N := 2) (k := 0) (ty0 := tyX4) (ws' := [(h0, .inr (4, [.ref q0, .int 0])), (q0, .inl (t.2.1, 6, .inr (.inr (.inr (.inr (fun _ => none))))))]) X hi rfl rfl (by decide) tyX4_ok nmX4 in_X4_init_X4 fl_X4_init_11 rfl rfl (tyX4_ok 0 (by decide)) rfl rfl (Nat.le_of_ble_eq_true rfl) rfl dX4_init_10 ?_
  refine g9_aload_n X dX4_init_13 rfl 0 rfl ?_
  refine g9_iconst (v := 0) X dX4_init_14 (by decide) ?_
  refine g9_put (q0 := 0) (ci := 4) (C := RX4) (T := TX4) (N := 2) (k := 1) (ty0 := tyX4) (ws' := [(h0, .inr (4, [.ref q0, .int 0])), (q0, .inl (t.2.1, 6, .inr (.inr (.inr (.inr (fun _ => none))))))]) X rfl rfl (by decide) tyX4_ok nmX4 in_X4_init_X4 fl_X4_init_17 rfl (tyX4_ok 1 (by decide)) rfl rfl (Nat.le_of_ble_eq_true rfl) rfl dX4_init_15 ?_
  refine g9_iconst (v := 0) X dX4_init_18 (by decide) ?_
  refine g9_istore_n (i := 1) X dX4_init_19 rfl (by decide) [1, 0] rfl ?_
  exact g9_widen (Nat.le_of_ble_eq_true rfl) (Nat.le_of_ble_eq_true rfl) (loop q0 0 (by decide) (fun k => if k = 1 then q0 else 0) rfl)
set_option maxHeartbeats 4000000 in
set_option maxRecDepth 20000 in
theorem g9_c_X6 (l : Launch) (D : va_G) (t : g9_T) : g9_C l yX6_init wsX6_init rg_X6 75 5133 D t (.inr (6, [.null, .null, .null, .null, .null])) (g9_w6 t) := by
  refine g9_met (own := RX6) (cc := cX6_init) (maxL := 1) (by decide +kernel) rfl rfl (by decide) rfl ?_
  intro p e s m args below meth c A Q h0 X hi HR
  refine g9_aload_n X dX6_init_0 rfl 0 rfl ?_
  refine g9_objInit X oi_X6_init.1 oi_X6_init.2.1 oi_X6_init.2.2 dX6_init_1 ⟨Nat.le_of_ble_eq_true rfl, Nat.le_of_ble_eq_true rfl⟩ ?_
  refine g9_aload_n X dX6_init_4 rfl 0 rfl ?_
  refine g9_new (ci := 3) (fs := [.null, .null, .null, .null, .null, .int 0, .int 0]) (C := RX3) (T := TX3) (N := 7) (ty := tyX3) X nw_X6_init_9.1 tyX3_ok nw_X6_init_9.2.1 nw_X6_init_9.2.2.1 nw_X6_init_9.2.2.2.1 rfl (fun j hj => by rcases (show j = 0 ∨ j = 1 ∨ j = 2 ∨ j = 3 ∨ j = 4 ∨ j = 5 ∨ j = 6 by omega) with rfl | rfl | rfl | rfl | rfl | rfl | rfl <;> rfl) ⟨Nat.le_of_ble_eq_true rfl, Nat.le_of_ble_eq_true rfl⟩ dX6_init_5 (fun q0 => ?_)
  refine g9_dup X dX6_init_8 rfl ?_
  refine g9_callN (host := "RollPunch") X (g9_c_X3 l D t) (by decide +kernel) (fun hl => ⟨va_cnB 0 X.2.2.2.2.1 gX6_init_X3_init_n11 rfl rfl rfl hl (X.2.2.2.2.1 _ nw_X6_init_9.2.2.2.1) (by decide +kernel) ⟨Nat.le_of_ble_eq_true rfl, Nat.le_of_ble_eq_true rfl⟩, rfl, X.2.2.2.2.1 _ nw_X6_init_9.2.2.2.2⟩) (Nat.le_of_ble_eq_true rfl) dX6_init_9 ⟨Nat.le_of_ble_eq_true rfl, Nat.le_of_ble_eq_true rfl⟩ (fun u0 => ?_)
  refine g9_putF (q0 := 0) (ci := 6) (C := RX6) (T := TX6) (N := 5) (k := 0) (ty0 := tyX6) (ws' := [(h0, .inr (6, [.ref q0, .null, .null, .null, .null]))]) X hi rfl rfl (by decide) tyX6_ok nmX6 in_X6_init_X6 fl_X6_init_12 rfl rfl (tyX6_ok 0 (by decide)) rfl rfl (Nat.le_of_ble_eq_true rfl) rfl dX6_init_12 ?_
  refine g9_aload_n X dX6_init_15 rfl 0 rfl ?_
  refine g9_new (ci := 1) (fs := [.null, .null, .null, .null]) (C := RX1) (T := TX1) (N := 4) (ty := tyX1) X nw_X6_init_16.1 tyX1_ok nw_X6_init_16.2.1 nw_X6_init_16.2.2.1 nw_X6_init_16.2.2.2.1 rfl (fun j hj => by rcases (show j = 0 ∨ j = 1 ∨ j = 2 ∨ j = 3 by omega) with rfl | rfl | rfl | rfl <;> rfl) ⟨Nat.le_of_ble_eq_true rfl, Nat.le_of_ble_eq_true rfl⟩ dX6_init_16 (fun q1 => ?_)
  refine g9_dup X dX6_init_19 rfl ?_
  refine g9_callN (host := "RollPunch") X (g9_c_X1 l D t) (by decide +kernel) (fun hl => ⟨va_cnB 0 X.2.2.2.2.1 gX6_init_X1_init_n18 rfl rfl rfl hl (X.2.2.2.2.1 _ nw_X6_init_16.2.2.2.1) (by decide +kernel) ⟨Nat.le_of_ble_eq_true rfl, Nat.le_of_ble_eq_true rfl⟩, rfl, X.2.2.2.2.1 _ nw_X6_init_16.2.2.2.2⟩) (Nat.le_of_ble_eq_true rfl) dX6_init_20 ⟨Nat.le_of_ble_eq_true rfl, Nat.le_of_ble_eq_true rfl⟩ (fun u1 => ?_)
  refine g9_putF (q0 := 0) (ci := 6) (C := RX6) (T := TX6) (N := 5) (k := 1) (ty0 := tyX6) (ws' := [(h0, .inr (6, [.ref q0, .ref q1, .null, .null, .null]))]) X hi rfl rfl (by decide) tyX6_ok nmX6 in_X6_init_X6 fl_X6_init_19 rfl rfl (tyX6_ok 1 (by decide)) rfl rfl (Nat.le_of_ble_eq_true rfl) rfl dX6_init_23 ?_
  refine g9_aload_n X dX6_init_26 rfl 0 rfl ?_
  refine g9_new (ci := 4) (fs := [.null, .int 0]) (C := RX4) (T := TX4) (N := 2) (ty := tyX4) X nw_X6_init_23.1 tyX4_ok nw_X6_init_23.2.1 nw_X6_init_23.2.2.1 nw_X6_init_23.2.2.2.1 rfl (fun j hj => by rcases (show j = 0 ∨ j = 1 by omega) with rfl | rfl <;> rfl) ⟨Nat.le_of_ble_eq_true rfl, Nat.le_of_ble_eq_true rfl⟩ dX6_init_27 (fun q2 => ?_)
  refine g9_dup X dX6_init_30 rfl ?_
  refine g9_callI X (g9_c_X4 l D t) (cwI 0 X.2.2.2.2.1 gX6_init_X4_init rfl rfl rfl (X.2.2.2.2.1 _ nw_X6_init_23.2.2.2.1) (X.2.2.2.2.1 (.methodLink RX6 25 yX4_init) (by decide +kernel)) (X.2.2.2.2.1 _ nw_X6_init_23.2.2.2.2) rfl (by decide +kernel) ⟨Nat.le_of_ble_eq_true rfl, Nat.le_of_ble_eq_true rfl⟩) (Nat.le_of_ble_eq_true rfl) dX6_init_31 ⟨Nat.le_of_ble_eq_true rfl, Nat.le_of_ble_eq_true rfl⟩ (fun u2 => ?_)
  refine g9_putF (q0 := 0) (ci := 6) (C := RX6) (T := TX6) (N := 5) (k := 2) (ty0 := tyX6) (ws' := [(h0, .inr (6, [.ref q0, .ref q1, .ref q2, .null, .null]))]) X hi rfl rfl (by decide) tyX6_ok nmX6 in_X6_init_X6 fl_X6_init_26 rfl rfl (tyX6_ok 2 (by decide)) rfl rfl (Nat.le_of_ble_eq_true rfl) rfl dX6_init_34 ?_
  refine g9_aload_n X dX6_init_37 rfl 0 rfl ?_
  refine g9_new (ci := 2) (fs := [.null, .int 0, .null, .null, .null, .int 0, .int 0, .int 0, .int 0, .int 0]) (C := RX2) (T := TX2) (N := 10) (ty := tyX2) X nw_X6_init_30.1 tyX2_ok nw_X6_init_30.2.1 nw_X6_init_30.2.2.1 nw_X6_init_30.2.2.2.1 rfl (fun j hj => by rcases (show j = 0 ∨ j = 1 ∨ j = 2 ∨ j = 3 ∨ j = 4 ∨ j = 5 ∨ j = 6 ∨ j = 7 ∨ j = 8 ∨ j = 9 by omega) with rfl | rfl | rfl | rfl | rfl | rfl | rfl | rfl | rfl | rfl <;> rfl) ⟨Nat.le_of_ble_eq_true rfl, Nat.le_of_ble_eq_true rfl⟩ dX6_init_38 (fun q3 => ?_)
  refine g9_dup X dX6_init_41 rfl ?_
  refine g9_callN (host := "RollPunch") X (g9_c_X2 l D t) (by decide +kernel) (fun hl => ⟨va_cnB 0 X.2.2.2.2.1 gX6_init_X2_init_n32 rfl rfl rfl hl (X.2.2.2.2.1 _ nw_X6_init_30.2.2.2.1) (by decide +kernel) ⟨Nat.le_of_ble_eq_true rfl, Nat.le_of_ble_eq_true rfl⟩, rfl, X.2.2.2.2.1 _ nw_X6_init_30.2.2.2.2⟩) (Nat.le_of_ble_eq_true rfl) dX6_init_42 ⟨Nat.le_of_ble_eq_true rfl, Nat.le_of_ble_eq_true rfl⟩ (fun u3 => ?_)
  refine g9_putF (q0 := 0) (ci := 6) (C := RX6) (T := TX6) (N := 5) (k := 3) (ty0 := tyX6) (ws' := [(h0, .inr (6, [.ref q0, .ref q1, .ref q2, .ref q3, .null]))]) X hi rfl rfl (by decide) tyX6_ok nmX6 in_X6_init_X6 fl_X6_init_33 rfl rfl (tyX6_ok 3 (by decide)) rfl rfl (Nat.le_of_ble_eq_true rfl) rfl dX6_init_45 ?_
  refine g9_aload_n X dX6_init_48 rfl 0 rfl ?_
  refine g9_new (ci := 5) (fs := [.null, .null, .int 0, .int 0]) (C := RX5) (T := TX5) (N := 4) (ty := tyX5) X nw_X6_init_37.1 tyX5_ok nw_X6_init_37.2.1 nw_X6_init_37.2.2.1 nw_X6_init_37.2.2.2.1 rfl (fun j hj => by rcases (show j = 0 ∨ j = 1 ∨ j = 2 ∨ j = 3 by omega) with rfl | rfl | rfl | rfl <;> rfl) ⟨Nat.le_of_ble_eq_true rfl, Nat.le_of_ble_eq_true rfl⟩ dX6_init_49 (fun q4 => ?_)
  refine g9_dup X dX6_init_52 rfl ?_
  refine g9_callN (host := "RollPunch") X (g9_c_X5 l D t) (by decide +kernel) (fun hl => ⟨va_cnB 0 X.2.2.2.2.1 gX6_init_X5_init_n39 rfl rfl rfl hl (X.2.2.2.2.1 _ nw_X6_init_37.2.2.2.1) (by decide +kernel) ⟨Nat.le_of_ble_eq_true rfl, Nat.le_of_ble_eq_true rfl⟩, rfl, X.2.2.2.2.1 _ nw_X6_init_37.2.2.2.2⟩) (Nat.le_of_ble_eq_true rfl) dX6_init_53 ⟨Nat.le_of_ble_eq_true rfl, Nat.le_of_ble_eq_true rfl⟩ (fun u4 => ?_)
  refine g9_putF (q0 := 0) (ci := 6) (C := RX6) (T := TX6) (N := 5) (k := 4) (ty0 := tyX6) (ws' := [(h0, .inr (6, [.ref q0, .ref q1, .ref q2, .ref q3, .ref q4]))]) X hi rfl rfl (by decide) tyX6_ok nmX6 in_X6_init_X6 fl_X6_init_40 rfl rfl (tyX6_ok 4 (by decide)) rfl rfl (Nat.le_of_ble_eq_true rfl) rfl dX6_init_56 ?_
  refine g9_widen (k := 75) (n := 5133) (Nat.le_of_ble_eq_true rfl) (Nat.le_of_ble_eq_true rfl) ?_
  exact HR (fun k => if k < 1 then h0 else if k < 9 then (if k = 1 then q0 else u0 (k - 1)) else if k < 57 then u2 (k - 7) else if k < 64 then (if k = 57 then q1 else u1 (k - 57)) else if k < 66 then (if k = 64 then q2 else u2 (k - 64)) else if k < 71 then (if k = 66 then q3 else u3 (k - 66)) else (if k = 71 then q4 else u4 (k - 71))) _ _ _ _ rfl dX6_init_59
set_option maxHeartbeats 4000000 in
set_option maxRecDepth 20000 in
theorem g9_c_X7 (l : Launch) (D : va_G) (t : g9_T) : g9_C l yX7_init wsX7_init rg_X7 12 7502 D t (.inr (7, [.null, .int 0, .null, .int 0, .null, .int 0, .null, .null, .null, .null, .null, .null, .null, .int 0, .null, .int 0, .int 0, .null, .long 0])) (g9_w7 t) := by
  refine g9_met (own := RX7) (cc := cX7_init) (maxL := 1) (by decide +kernel) rfl rfl (by decide) rfl ?_
  intro p e s m args below meth c A Q h0 X hi HR
  refine g9_aload_n X dX7_init_0 rfl 0 rfl ?_
  refine g9_objInit X oi_X7_init.1 oi_X7_init.2.1 oi_X7_init.2.2.1 dX7_init_1 ⟨Nat.le_of_ble_eq_true rfl, Nat.le_of_ble_eq_true rfl⟩ ?_
  refine g9_aload_n X dX7_init_4 rfl 0 rfl ?_
  refine g9_sipush (v := 578) X dX7_init_5 (by decide) ?_
  refine g9_newa (N := 578) X oi_X7_init.2.2.2 (by decide) (by decide) (Nat.le_of_ble_eq_true rfl) ⟨Nat.le_of_ble_eq_true rfl, Nat.le_of_ble_eq_true rfl⟩ dX7_init_8 (fun q0 => ?_)
  refine g9_putF (q0 := 0) (ci := 7) (C := RX7) (T := TX7) (N := 19) (k := 0) (ty0 := tyX7) (ws' := [(h0, .inr (7, [.ref q0, .int 0, .null, .int 0, .null, .int 0, .null, .null, .null, .null, .null, .null, .null, .int 0, .null, .int 0, .int 0, .null, .long 0])), (q0, .inl (t.1, 578, .inl (fun _ => 0)))]) X hi rfl rfl (by decide) tyX7_ok nmX7 in_X7_init_X7 fl_X7_init_7 rfl rfl (tyX7_ok 0 (by decide)) rfl rfl (Nat.le_of_ble_eq_true rfl) rfl dX7_init_10 ?_
  refine g9_aload_n X dX7_init_13 rfl 0 rfl ?_
  refine g9_sipush (v := 3468) X dX7_init_14 (by decide) ?_
  refine g9_newa (N := 3468) X oi_X7_init.2.2.2 (by decide) (by decide) (Nat.le_of_ble_eq_true rfl) ⟨Nat.le_of_ble_eq_true rfl, Nat.le_of_ble_eq_true rfl⟩ dX7_init_17 (fun q1 => ?_)
  refine g9_putF (q0 := 0) (ci := 7) (C := RX7) (T := TX7) (N := 19) (k := 2) (ty0 := tyX7) (ws' := [(h0, .inr (7, [.ref q0, .int 0, .ref q1, .int 0, .null, .int 0, .null, .null, .null, .null, .null, .null, .null, .int 0, .null, .int 0, .int 0, .null, .long 0])), (q0, .inl (t.1, 578, .inl (fun _ => 0))), (q1, .inl (t.1, 3468, .inl (fun _ => 0)))]) X hi rfl rfl (by decide) tyX7_ok nmX7 in_X7_init_X7 fl_X7_init_13 rfl rfl (tyX7_ok 2 (by decide)) rfl rfl (Nat.le_of_ble_eq_true rfl) rfl dX7_init_19 ?_
  refine g9_aload_n X dX7_init_22 rfl 0 rfl ?_
  refine g9_bipush (v := 60) X dX7_init_23 (by decide) ?_
  refine g9_newa (N := 60) X oi_X7_init.2.2.2 (by decide) (by decide) (Nat.le_of_ble_eq_true rfl) ⟨Nat.le_of_ble_eq_true rfl, Nat.le_of_ble_eq_true rfl⟩ dX7_init_25 (fun q2 => ?_)
  refine g9_putF (q0 := 0) (ci := 7) (C := RX7) (T := TX7) (N := 19) (k := 4) (ty0 := tyX7) (ws' := [(h0, .inr (7, [.ref q0, .int 0, .ref q1, .int 0, .ref q2, .int 0, .null, .null, .null, .null, .null, .null, .null, .int 0, .null, .int 0, .int 0, .null, .long 0])), (q0, .inl (t.1, 578, .inl (fun _ => 0))), (q1, .inl (t.1, 3468, .inl (fun _ => 0))), (q2, .inl (t.1, 60, .inl (fun _ => 0)))]) X hi rfl rfl (by decide) tyX7_ok nmX7 in_X7_init_X7 fl_X7_init_16 rfl rfl (tyX7_ok 4 (by decide)) rfl rfl (Nat.le_of_ble_eq_true rfl) rfl dX7_init_27 ?_
  refine g9_aload_n X dX7_init_30 rfl 0 rfl ?_
  refine g9_bipush (v := 96) X dX7_init_31 (by decide) ?_
  refine g9_newa (N := 96) X oi_X7_init.2.2.2 (by decide) (by decide) (Nat.le_of_ble_eq_true rfl) ⟨Nat.le_of_ble_eq_true rfl, Nat.le_of_ble_eq_true rfl⟩ dX7_init_33 (fun q3 => ?_)
  refine g9_putF (q0 := 0) (ci := 7) (C := RX7) (T := TX7) (N := 19) (k := 6) (ty0 := tyX7) (ws' := [(h0, .inr (7, [.ref q0, .int 0, .ref q1, .int 0, .ref q2, .int 0, .ref q3, .null, .null, .null, .null, .null, .null, .int 0, .null, .int 0, .int 0, .null, .long 0])), (q0, .inl (t.1, 578, .inl (fun _ => 0))), (q1, .inl (t.1, 3468, .inl (fun _ => 0))), (q2, .inl (t.1, 60, .inl (fun _ => 0))), (q3, .inl (t.1, 96, .inl (fun _ => 0)))]) X hi rfl rfl (by decide) tyX7_ok nmX7 in_X7_init_X7 fl_X7_init_19 rfl rfl (tyX7_ok 6 (by decide)) rfl rfl (Nat.le_of_ble_eq_true rfl) rfl dX7_init_35 ?_
  refine g9_aload_n X dX7_init_38 rfl 0 rfl ?_
  refine g9_bipush (v := 96) X dX7_init_39 (by decide) ?_
  refine g9_newa (N := 96) X oi_X7_init.2.2.2 (by decide) (by decide) (Nat.le_of_ble_eq_true rfl) ⟨Nat.le_of_ble_eq_true rfl, Nat.le_of_ble_eq_true rfl⟩ dX7_init_41 (fun q4 => ?_)
  refine g9_putF (q0 := 0) (ci := 7) (C := RX7) (T := TX7) (N := 19) (k := 7) (ty0 := tyX7) (ws' := [(h0, .inr (7, [.ref q0, .int 0, .ref q1, .int 0, .ref q2, .int 0, .ref q3, .ref q4, .null, .null, .null, .null, .null, .int 0, .null, .int 0, .int 0, .null, .long 0])), (q0, .inl (t.1, 578, .inl (fun _ => 0))), (q1, .inl (t.1, 3468, .inl (fun _ => 0))), (q2, .inl (t.1, 60, .inl (fun _ => 0))), (q3, .inl (t.1, 96, .inl (fun _ => 0))), (q4, .inl (t.1, 96, .inl (fun _ => 0)))]) X hi rfl rfl (by decide) tyX7_ok nmX7 in_X7_init_X7 fl_X7_init_22 rfl rfl (tyX7_ok 7 (by decide)) rfl rfl (Nat.le_of_ble_eq_true rfl) rfl dX7_init_43 ?_
  refine g9_aload_n X dX7_init_46 rfl 0 rfl ?_
  refine g9_bipush (v := 96) X dX7_init_47 (by decide) ?_
  refine g9_newa (N := 96) X oi_X7_init.2.2.2 (by decide) (by decide) (Nat.le_of_ble_eq_true rfl) ⟨Nat.le_of_ble_eq_true rfl, Nat.le_of_ble_eq_true rfl⟩ dX7_init_49 (fun q5 => ?_)
  refine g9_putF (q0 := 0) (ci := 7) (C := RX7) (T := TX7) (N := 19) (k := 8) (ty0 := tyX7) (ws' := [(h0, .inr (7, [.ref q0, .int 0, .ref q1, .int 0, .ref q2, .int 0, .ref q3, .ref q4, .ref q5, .null, .null, .null, .null, .int 0, .null, .int 0, .int 0, .null, .long 0])), (q0, .inl (t.1, 578, .inl (fun _ => 0))), (q1, .inl (t.1, 3468, .inl (fun _ => 0))), (q2, .inl (t.1, 60, .inl (fun _ => 0))), (q3, .inl (t.1, 96, .inl (fun _ => 0))), (q4, .inl (t.1, 96, .inl (fun _ => 0))), (q5, .inl (t.1, 96, .inl (fun _ => 0)))]) X hi rfl rfl (by decide) tyX7_ok nmX7 in_X7_init_X7 fl_X7_init_25 rfl rfl (tyX7_ok 8 (by decide)) rfl rfl (Nat.le_of_ble_eq_true rfl) rfl dX7_init_51 ?_
  refine g9_aload_n X dX7_init_54 rfl 0 rfl ?_
  refine g9_bipush (v := 96) X dX7_init_55 (by decide) ?_
  refine g9_newa (N := 96) X oi_X7_init.2.2.2 (by decide) (by decide) (Nat.le_of_ble_eq_true rfl) ⟨Nat.le_of_ble_eq_true rfl, Nat.le_of_ble_eq_true rfl⟩ dX7_init_57 (fun q6 => ?_)
  refine g9_putF (q0 := 0) (ci := 7) (C := RX7) (T := TX7) (N := 19) (k := 9) (ty0 := tyX7) (ws' := [(h0, .inr (7, [.ref q0, .int 0, .ref q1, .int 0, .ref q2, .int 0, .ref q3, .ref q4, .ref q5, .ref q6, .null, .null, .null, .int 0, .null, .int 0, .int 0, .null, .long 0])), (q0, .inl (t.1, 578, .inl (fun _ => 0))), (q1, .inl (t.1, 3468, .inl (fun _ => 0))), (q2, .inl (t.1, 60, .inl (fun _ => 0))), (q3, .inl (t.1, 96, .inl (fun _ => 0))), (q4, .inl (t.1, 96, .inl (fun _ => 0))), (q5, .inl (t.1, 96, .inl (fun _ => 0))), (q6, .inl (t.1, 96, .inl (fun _ => 0)))]) X hi rfl rfl (by decide) tyX7_ok nmX7 in_X7_init_X7 fl_X7_init_28 rfl rfl (tyX7_ok 9 (by decide)) rfl rfl (Nat.le_of_ble_eq_true rfl) rfl dX7_init_59 ?_
  refine g9_aload_n X dX7_init_62 rfl 0 rfl ?_
  refine g9_sipush (v := 960) X dX7_init_63 (by decide) ?_
  refine g9_newa (N := 960) X oi_X7_init.2.2.2 (by decide) (by decide) (Nat.le_of_ble_eq_true rfl) ⟨Nat.le_of_ble_eq_true rfl, Nat.le_of_ble_eq_true rfl⟩ dX7_init_66 (fun q7 => ?_)
  refine g9_putF (q0 := 0) (ci := 7) (C := RX7) (T := TX7) (N := 19) (k := 10) (ty0 := tyX7) (ws' := [(h0, .inr (7, [.ref q0, .int 0, .ref q1, .int 0, .ref q2, .int 0, .ref q3, .ref q4, .ref q5, .ref q6, .ref q7, .null, .null, .int 0, .null, .int 0, .int 0, .null, .long 0])), (q0, .inl (t.1, 578, .inl (fun _ => 0))), (q1, .inl (t.1, 3468, .inl (fun _ => 0))), (q2, .inl (t.1, 60, .inl (fun _ => 0))), (q3, .inl (t.1, 96, .inl (fun _ => 0))), (q4, .inl (t.1, 96, .inl (fun _ => 0))), (q5, .inl (t.1, 96, .inl (fun _ => 0))), (q6, .inl (t.1, 96, .inl (fun _ => 0))), (q7, .inl (t.1, 960, .inl (fun _ => 0)))]) X hi rfl rfl (by decide) tyX7_ok nmX7 in_X7_init_X7 fl_X7_init_31 rfl rfl (tyX7_ok 10 (by decide)) rfl rfl (Nat.le_of_ble_eq_true rfl) rfl dX7_init_68 ?_
  refine g9_aload_n X dX7_init_71 rfl 0 rfl ?_
  refine g9_sipush (v := 960) X dX7_init_72 (by decide) ?_
  refine g9_newa (N := 960) X oi_X7_init.2.2.2 (by decide) (by decide) (Nat.le_of_ble_eq_true rfl) ⟨Nat.le_of_ble_eq_true rfl, Nat.le_of_ble_eq_true rfl⟩ dX7_init_75 (fun q8 => ?_)
  refine g9_putF (q0 := 0) (ci := 7) (C := RX7) (T := TX7) (N := 19) (k := 11) (ty0 := tyX7) (ws' := [(h0, .inr (7, [.ref q0, .int 0, .ref q1, .int 0, .ref q2, .int 0, .ref q3, .ref q4, .ref q5, .ref q6, .ref q7, .ref q8, .null, .int 0, .null, .int 0, .int 0, .null, .long 0])), (q0, .inl (t.1, 578, .inl (fun _ => 0))), (q1, .inl (t.1, 3468, .inl (fun _ => 0))), (q2, .inl (t.1, 60, .inl (fun _ => 0))), (q3, .inl (t.1, 96, .inl (fun _ => 0))), (q4, .inl (t.1, 96, .inl (fun _ => 0))), (q5, .inl (t.1, 96, .inl (fun _ => 0))), (q6, .inl (t.1, 96, .inl (fun _ => 0))), (q7, .inl (t.1, 960, .inl (fun _ => 0))), (q8, .inl (t.1, 960, .inl (fun _ => 0)))]) X hi rfl rfl (by decide) tyX7_ok nmX7 in_X7_init_X7 fl_X7_init_34 rfl rfl (tyX7_ok 11 (by decide)) rfl rfl (Nat.le_of_ble_eq_true rfl) rfl dX7_init_77 ?_
  refine g9_aload_n X dX7_init_80 rfl 0 rfl ?_
  refine g9_sipush (v := 960) X dX7_init_81 (by decide) ?_
  refine g9_newa (N := 960) X oi_X7_init.2.2.2 (by decide) (by decide) (Nat.le_of_ble_eq_true rfl) ⟨Nat.le_of_ble_eq_true rfl, Nat.le_of_ble_eq_true rfl⟩ dX7_init_84 (fun q9 => ?_)
  refine g9_putF (q0 := 0) (ci := 7) (C := RX7) (T := TX7) (N := 19) (k := 12) (ty0 := tyX7) (ws' := [(h0, .inr (7, [.ref q0, .int 0, .ref q1, .int 0, .ref q2, .int 0, .ref q3, .ref q4, .ref q5, .ref q6, .ref q7, .ref q8, .ref q9, .int 0, .null, .int 0, .int 0, .null, .long 0])), (q0, .inl (t.1, 578, .inl (fun _ => 0))), (q1, .inl (t.1, 3468, .inl (fun _ => 0))), (q2, .inl (t.1, 60, .inl (fun _ => 0))), (q3, .inl (t.1, 96, .inl (fun _ => 0))), (q4, .inl (t.1, 96, .inl (fun _ => 0))), (q5, .inl (t.1, 96, .inl (fun _ => 0))), (q6, .inl (t.1, 96, .inl (fun _ => 0))), (q7, .inl (t.1, 960, .inl (fun _ => 0))), (q8, .inl (t.1, 960, .inl (fun _ => 0))), (q9, .inl (t.1, 960, .inl (fun _ => 0)))]) X hi rfl rfl (by decide) tyX7_ok nmX7 in_X7_init_X7 fl_X7_init_37 rfl rfl (tyX7_ok 12 (by decide)) rfl rfl (Nat.le_of_ble_eq_true rfl) rfl dX7_init_86 ?_
  refine g9_aload_n X dX7_init_89 rfl 0 rfl ?_
  refine g9_bipush (v := 36) X dX7_init_90 (by decide) ?_
  refine g9_newa (N := 36) X oi_X7_init.2.2.2 (by decide) (by decide) (Nat.le_of_ble_eq_true rfl) ⟨Nat.le_of_ble_eq_true rfl, Nat.le_of_ble_eq_true rfl⟩ dX7_init_92 (fun q10 => ?_)
  refine g9_putF (q0 := 0) (ci := 7) (C := RX7) (T := TX7) (N := 19) (k := 14) (ty0 := tyX7) (ws' := [(h0, .inr (7, [.ref q0, .int 0, .ref q1, .int 0, .ref q2, .int 0, .ref q3, .ref q4, .ref q5, .ref q6, .ref q7, .ref q8, .ref q9, .int 0, .ref q10, .int 0, .int 0, .null, .long 0])), (q0, .inl (t.1, 578, .inl (fun _ => 0))), (q1, .inl (t.1, 3468, .inl (fun _ => 0))), (q2, .inl (t.1, 60, .inl (fun _ => 0))), (q3, .inl (t.1, 96, .inl (fun _ => 0))), (q4, .inl (t.1, 96, .inl (fun _ => 0))), (q5, .inl (t.1, 96, .inl (fun _ => 0))), (q6, .inl (t.1, 96, .inl (fun _ => 0))), (q7, .inl (t.1, 960, .inl (fun _ => 0))), (q8, .inl (t.1, 960, .inl (fun _ => 0))), (q9, .inl (t.1, 960, .inl (fun _ => 0))), (q10, .inl (t.1, 36, .inl (fun _ => 0)))]) X hi rfl rfl (by decide) tyX7_ok nmX7 in_X7_init_X7 fl_X7_init_40 rfl rfl (tyX7_ok 14 (by decide)) rfl rfl (Nat.le_of_ble_eq_true rfl) rfl dX7_init_94 ?_
  refine g9_aload_n X dX7_init_97 rfl 0 rfl ?_
  refine g9_bipush (v := 96) X dX7_init_98 (by decide) ?_
  refine g9_newa (N := 96) X oi_X7_init.2.2.2 (by decide) (by decide) (Nat.le_of_ble_eq_true rfl) ⟨Nat.le_of_ble_eq_true rfl, Nat.le_of_ble_eq_true rfl⟩ dX7_init_100 (fun q11 => ?_)
  refine g9_putF (q0 := 0) (ci := 7) (C := RX7) (T := TX7) (N := 19) (k := 17) (ty0 := tyX7) (ws' := [(h0, .inr (7, [.ref q0, .int 0, .ref q1, .int 0, .ref q2, .int 0, .ref q3, .ref q4, .ref q5, .ref q6, .ref q7, .ref q8, .ref q9, .int 0, .ref q10, .int 0, .int 0, .ref q11, .long 0])), (q0, .inl (t.1, 578, .inl (fun _ => 0))), (q1, .inl (t.1, 3468, .inl (fun _ => 0))), (q2, .inl (t.1, 60, .inl (fun _ => 0))), (q3, .inl (t.1, 96, .inl (fun _ => 0))), (q4, .inl (t.1, 96, .inl (fun _ => 0))), (q5, .inl (t.1, 96, .inl (fun _ => 0))), (q6, .inl (t.1, 96, .inl (fun _ => 0))), (q7, .inl (t.1, 960, .inl (fun _ => 0))), (q8, .inl (t.1, 960, .inl (fun _ => 0))), (q9, .inl (t.1, 960, .inl (fun _ => 0))), (q10, .inl (t.1, 36, .inl (fun _ => 0))), (q11, .inl (t.1, 96, .inl (fun _ => 0)))]) X hi rfl rfl (by decide) tyX7_ok nmX7 in_X7_init_X7 fl_X7_init_43 rfl rfl (tyX7_ok 17 (by decide)) rfl rfl (Nat.le_of_ble_eq_true rfl) rfl dX7_init_102 ?_
  refine g9_aload_n X dX7_init_105 rfl 0 rfl ?_
  refine g9_get (q0 := 0) (ci := 7) (C := RX7) (T := TX7) (N := 19) (k := 0) X rfl rfl (by decide) in_X7_init_X7 fl_X7_init_7 rfl dX7_init_106 ?_
  refine g9_sipush (v := 384) X dX7_init_109 (by decide) ?_
  refine g9_iconst (v := 1) X dX7_init_112 (by decide) ?_
  refine g9_iast (q0 := 1) (j := 384) (n := 578) (f := (fun _ => 0)) (ws' := [(h0, .inr (7, [.ref q0, .int 0, .ref q1, .int 0, .ref q2, .int 0, .ref q3, .ref q4, .ref q5, .ref q6, .ref q7, .ref q8, .ref q9, .int 0, .ref q10, .int 0, .int 0, .ref q11, .long 0])), (q0, .inl (t.1, 578, .inl (upd (fun _ => 0) 384 1))), (q1, .inl (t.1, 3468, .inl (fun _ => 0))), (q2, .inl (t.1, 60, .inl (fun _ => 0))), (q3, .inl (t.1, 96, .inl (fun _ => 0))), (q4, .inl (t.1, 96, .inl (fun _ => 0))), (q5, .inl (t.1, 96, .inl (fun _ => 0))), (q6, .inl (t.1, 96, .inl (fun _ => 0))), (q7, .inl (t.1, 960, .inl (fun _ => 0))), (q8, .inl (t.1, 960, .inl (fun _ => 0))), (q9, .inl (t.1, 960, .inl (fun _ => 0))), (q10, .inl (t.1, 36, .inl (fun _ => 0))), (q11, .inl (t.1, 96, .inl (fun _ => 0)))]) X rfl (k9_inL (j := 384) (by decide) (by decide) (by decide)) rfl (by decide) dX7_init_113 ?_
  refine g9_aload_n X dX7_init_114 rfl 0 rfl ?_
  refine g9_get (q0 := 0) (ci := 7) (C := RX7) (T := TX7) (N := 19) (k := 0) X rfl rfl (by decide) in_X7_init_X7 fl_X7_init_7 rfl dX7_init_115 ?_
  refine g9_sipush (v := 385) X dX7_init_118 (by decide) ?_
  refine g9_iconst (v := 2) X dX7_init_121 (by decide) ?_
  refine g9_iast (q0 := 1) (j := 385) (n := 578) (f := (upd (fun _ => 0) 384 1)) (ws' := [(h0, .inr (7, [.ref q0, .int 0, .ref q1, .int 0, .ref q2, .int 0, .ref q3, .ref q4, .ref q5, .ref q6, .ref q7, .ref q8, .ref q9, .int 0, .ref q10, .int 0, .int 0, .ref q11, .long 0])), (q0, .inl (t.1, 578, .inl (upd (upd (fun _ => 0) 384 1) 385 2))), (q1, .inl (t.1, 3468, .inl (fun _ => 0))), (q2, .inl (t.1, 60, .inl (fun _ => 0))), (q3, .inl (t.1, 96, .inl (fun _ => 0))), (q4, .inl (t.1, 96, .inl (fun _ => 0))), (q5, .inl (t.1, 96, .inl (fun _ => 0))), (q6, .inl (t.1, 96, .inl (fun _ => 0))), (q7, .inl (t.1, 960, .inl (fun _ => 0))), (q8, .inl (t.1, 960, .inl (fun _ => 0))), (q9, .inl (t.1, 960, .inl (fun _ => 0))), (q10, .inl (t.1, 36, .inl (fun _ => 0))), (q11, .inl (t.1, 96, .inl (fun _ => 0)))]) X rfl (k9_inL (j := 385) (by decide) (by decide) (by decide)) rfl (by decide) dX7_init_122 ?_
  refine g9_widen (k := 12) (n := 7502) (Nat.le_of_ble_eq_true rfl) (Nat.le_of_ble_eq_true rfl) ?_
  exact HR (g9_cat [h0, q0, q1, q2, q3, q4, q5, q6, q7, q8, q9, q10, q11] (fun _ => 0)) _ _ _ _ rfl dX7_init_123
