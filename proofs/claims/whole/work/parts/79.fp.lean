/-! Doubles: whole numbers, quotients, what is left over one. -/
theorem fd_norm {n : Nat} (h0 : n ≠ 0) (h : n < 4503599627370496) : 4503599627370496 ≤ n * 2 ^ (52 - n.log2) ∧ n * 2 ^ (52 - n.log2) < 9007199254740992 ∧ n.log2 ≤ 51 := by
  have h1 := Nat.log2_self_le h0
  have h2 : n.log2 < 52 := (Nat.log2_lt h0).mpr h
  have h3 : n < 2 ^ (n.log2 + 1) := Nat.lt_log2_self
  have e1 : 2 ^ n.log2 * 2 ^ (52 - n.log2) = 4503599627370496 := by rw [← Nat.pow_add, show n.log2 + (52 - n.log2) = 52 from by omega]
  have e2 : 2 ^ (n.log2 + 1) * 2 ^ (52 - n.log2) = 9007199254740992 := by rw [← Nat.pow_add, show n.log2 + 1 + (52 - n.log2) = 53 from by omega]
  refine ⟨?_, ?_, by omega⟩
  · rw [← e1]; exact Nat.mul_le_mul_right _ h1
  · rw [← e2]; exact Nat.mul_lt_mul_of_pos_right h3 (Nat.two_pow_pos _)
theorem fd_whole {n : Nat} (h0 : n ≠ 0) (h : n < 4503599627370496) {E : Int} (hE1 : -1000 ≤ E) (hE2 : E ≤ 800) : FP.Core.roundRatio FP.Core.b64 false n 1 E = .fin false (n * 2 ^ (52 - n.log2)) ((n.log2 : Int) + E - 52) := by
  obtain ⟨h1, h2, h3⟩ := fd_norm h0 h
  refine fd_round h0 rfl (by omega) (by omega) ?_ h2
  rw [show (E - ((n.log2 : Int) + E - 52)).toNat = 52 - n.log2 from by omega, show ((n.log2 : Int) + E - 52 - E).toNat = 0 from by omega, Nat.pow_zero, Nat.mul_one]
theorem fd_i2d {n : Nat} (h0 : n ≠ 0) (h : n < 2147483648) : FP.Core.decode FP.Core.b64 (FP.i2d (nI n)).toNat = .fin false (n * 2 ^ (52 - n.log2)) ((n.log2 : Int) - 52) := by
  obtain ⟨h1, h2, h3⟩ := fd_norm h0 (by omega)
  have e : FP.i2d (nI n) = fd_x (n.log2 + 1023) (n * 2 ^ (52 - n.log2) - 4503599627370496) := by
    show UInt64.ofNat (FP.Core.encode FP.Core.b64 (FP.Core.round FP.Core.b64 (FP.Core.ofInt (nI n).toInt))) = _
    rw [nI_toInt h]
    have e1 : FP.Core.ofInt (n : Int) = .fin false n 0 := by
      unfold FP.Core.ofInt
      rw [show decide ((n : Int) < 0) = false from decide_eq_false (by omega), Int.natAbs_natCast]
    rw [e1]
    show UInt64.ofNat (FP.Core.encode FP.Core.b64 (FP.Core.roundRatio FP.Core.b64 false n 1 0)) = _
    rw [fd_whole h0 (by omega) (by decide) (by decide), fd_enc h1 (by omega), show ((n.log2 : Int) + 0 - 52 + 1075).toNat = n.log2 + 1023 from by omega]
  rw [e, fd_x_dec (by omega) (by omega) (by omega), show 4503599627370496 + (n * 2 ^ (52 - n.log2) - 4503599627370496) = n * 2 ^ (52 - n.log2) from by omega, show ((n.log2 + 1023 : Nat) : Int) - 1075 = (n.log2 : Int) - 52 from by omega]
theorem fd_i2d0 : FP.Core.decode FP.Core.b64 (FP.i2d (nI 0)).toNat = .fin false 0 (-1074) := by decide +kernel
theorem fd_near2 {n d : Nat} (hd : 0 < d) {A : Nat} (h1 : A * d ≤ n) (h2 : n < (2 * A) * d) : A ≤ FP.Core.nearest n d ∧ FP.Core.nearest n d ≤ 2 * A := by
  have q1 : A ≤ n / d := (Nat.le_div_iff_mul_le hd).mpr h1
  have q2 : n / d < 2 * A := (Nat.div_lt_iff_lt_mul hd).mpr h2
  unfold FP.Core.nearest
  split
  · omega
  · split
    · omega
    · have : n / d % 2 < 2 := Nat.mod_lt _ (by decide)
      omega
theorem fd_settle {N : Nat} {Q : Int} (h1 : 4503599627370496 ≤ N) (h2 : N ≤ 9007199254740992) (h3 : -1000 ≤ Q) (h4 : Q ≤ 900) : UInt64.ofNat (FP.Core.encode FP.Core.b64 (FP.Core.settle FP.Core.b64 false N Q)) = if N < 9007199254740992 then fd_x (Q + 1075).toNat (N - 4503599627370496) else fd_x (Q + 1076).toNat 0 := by
  unfold FP.Core.settle FP.Core.bound
  rw [fd_pp, fd_qmax, fd_tails]
  by_cases c : N < 9007199254740992
  · rw [if_pos c, if_pos c, if_pos (by omega), fd_enc h1 (by omega)]
  · rw [if_neg c, if_neg c, if_pos (by omega), fd_enc (by omega) (by omega), show (Q + 1 + 1075) = Q + 1076 from by omega]
theorem fd_log_le {r a : Nat} (h0 : r ≠ 0) (h : r ≤ a) : r.log2 ≤ a.log2 := (Nat.le_log2 (by omega)).mpr (Nat.le_trans (Nat.log2_self_le h0) h)
/-- a share is 0 or a double from 2^-123 on up to 1 -/
theorem fd_share {r a : Nat} (h1 : 1 ≤ r) (h2 : r ≤ a) (h3 : a < 1000000) : ∃ e t, 900 ≤ e ∧ e ≤ 1023 ∧ t < 4503599627370496 ∧ FP.ddiv (FP.i2d (nI r)) (FP.i2d (nI a)) = fd_x e t := by
  have r0 : r ≠ 0 := by omega
  have a0 : a ≠ 0 := by omega
  obtain ⟨c1, c2, c3⟩ := fd_norm r0 (by omega)
  obtain ⟨d1, d2, d3⟩ := fd_norm a0 (by omega)
  have hl : r.log2 ≤ a.log2 := fd_log_le r0 h2
  have hla : a.log2 < 20 := (Nat.log2_lt a0).mpr (by omega)
  have hcd : r.log2 = a.log2 → r * 2 ^ (52 - r.log2) ≤ a * 2 ^ (52 - a.log2) := fun e => by rw [e]; exact Nat.mul_le_mul_right _ h2
  have e0 : FP.ddiv (FP.i2d (nI r)) (FP.i2d (nI a)) = UInt64.ofNat (FP.Core.encode FP.Core.b64 (FP.Core.quotient FP.Core.b64 (.fin false (r * 2 ^ (52 - r.log2)) ((r.log2 : Int) - 52)) (.fin false (a * 2 ^ (52 - a.log2)) ((a.log2 : Int) - 52)))) := by
    show UInt64.ofNat (FP.Core.encode FP.Core.b64 (FP.Core.quotient FP.Core.b64 (FP.Core.decode FP.Core.b64 (FP.i2d (nI r)).toNat) (FP.Core.decode FP.Core.b64 (FP.i2d (nI a)).toNat))) = _
    rw [fd_i2d r0 (by omega), fd_i2d a0 (by omega)]
  obtain ⟨c, hc⟩ : ∃ c, c = r * 2 ^ (52 - r.log2) := ⟨_, rfl⟩
  obtain ⟨d, hd⟩ : ∃ d, d = a * 2 ^ (52 - a.log2) := ⟨_, rfl⟩
  obtain ⟨x, hx⟩ : ∃ x, x = r.log2 := ⟨_, rfl⟩
  obtain ⟨y, hy⟩ : ∃ y, y = a.log2 := ⟨_, rfl⟩
  simp only [← hc, ← hd] at *
  simp only [← hx, ← hy] at *
  have cl : c.log2 = 52 := (Nat.log2_eq_iff (by omega)).mpr ⟨by omega, by omega⟩
  have dl : d.log2 = 52 := (Nat.log2_eq_iff (by omega)).mpr ⟨by omega, by omega⟩
  have hlead : FP.Core.leading c d = if d ≤ c then 0 else -1 := by
    show (if d * 2 ^ ((c.log2 : Int) - (d.log2 : Int)).toNat ≤ c * 2 ^ (-((c.log2 : Int) - (d.log2 : Int))).toNat then ((c.log2 : Int) - (d.log2 : Int)) else ((c.log2 : Int) - (d.log2 : Int)) - 1) = _
    rw [cl, dl, show (((52 : Nat) : Int) - ((52 : Nat) : Int)) = 0 from by decide, show (0 : Int).toNat = 0 from rfl, show (-(0 : Int)).toNat = 0 from rfl, Nat.pow_zero, Nat.mul_one, Nat.mul_one]
    rfl
  have hE : ((x : Int) - 52 - ((y : Int) - 52)) = (x : Int) - (y : Int) := by omega
  rw [e0]
  have e1 : FP.Core.quotient FP.Core.b64 (.fin false c ((x : Int) - 52)) (.fin false d ((y : Int) - 52)) = FP.Core.roundAt FP.Core.b64 false c d ((x : Int) - (y : Int)) (FP.Core.quantum FP.Core.b64 c d ((x : Int) - (y : Int))) := by
    show (if d = 0 then (if c = 0 then FP.Core.Datum.nan else FP.Core.Datum.inf false) else FP.Core.roundRatio FP.Core.b64 false c d ((x : Int) - 52 - ((y : Int) - 52))) = _
    rw [if_neg (by omega), hE]
    unfold FP.Core.roundRatio
    rw [if_neg (by omega)]
  rw [e1]
  by_cases g : d ≤ c
  · have hQ : FP.Core.quantum FP.Core.b64 c d ((x : Int) - (y : Int)) = (x : Int) - (y : Int) - 52 := by
      unfold FP.Core.quantum
      rw [hlead, if_pos g, fd_qmin, fd_p1]
      omega
    have hU : FP.Core.unitsNum c ((x : Int) - (y : Int)) ((x : Int) - (y : Int) - 52) = c * 4503599627370496 := by
      unfold FP.Core.unitsNum
      rw [show ((x : Int) - (y : Int) - ((x : Int) - (y : Int) - 52)).toNat = 52 from by omega]
    have hD : FP.Core.unitsDen d ((x : Int) - (y : Int)) ((x : Int) - (y : Int) - 52) = d := by
      unfold FP.Core.unitsDen
      rw [show ((x : Int) - (y : Int) - 52 - ((x : Int) - (y : Int))).toNat = 0 from by omega, Nat.pow_zero, Nat.mul_one]
    unfold FP.Core.roundAt
    rw [hQ, hU, hD]
    obtain ⟨n1, n2⟩ := fd_near2 (n := c * 4503599627370496) (d := d) (by omega) (A := 4503599627370496) (by omega) (by omega)
    rw [fd_settle n1 (by omega) (by omega) (by omega)]
    by_cases k : x = y
    · have k2 : c = d := by have := hcd k; omega
      have k3 : FP.Core.nearest (c * 4503599627370496) d = 4503599627370496 := by rw [← k2, Nat.mul_comm]; exact fd_near (by omega)
      rw [k3, if_pos (by decide)]
      exact ⟨_, _, by omega, by omega, by omega, rfl⟩
    · split
      · exact ⟨_, _, by omega, by omega, by omega, rfl⟩
      · exact ⟨_, _, by omega, by omega, by omega, rfl⟩
  · have hQ : FP.Core.quantum FP.Core.b64 c d ((x : Int) - (y : Int)) = (x : Int) - (y : Int) - 53 := by
      unfold FP.Core.quantum
      rw [hlead, if_neg g, fd_qmin, fd_p1]
      omega
    have hU : FP.Core.unitsNum c ((x : Int) - (y : Int)) ((x : Int) - (y : Int) - 53) = c * 9007199254740992 := by
      unfold FP.Core.unitsNum
      rw [show ((x : Int) - (y : Int) - ((x : Int) - (y : Int) - 53)).toNat = 53 from by omega]
    have hD : FP.Core.unitsDen d ((x : Int) - (y : Int)) ((x : Int) - (y : Int) - 53) = d := by
      unfold FP.Core.unitsDen
      rw [show ((x : Int) - (y : Int) - 53 - ((x : Int) - (y : Int))).toNat = 0 from by omega, Nat.pow_zero, Nat.mul_one]
    unfold FP.Core.roundAt
    rw [hQ, hU, hD]
    obtain ⟨n1, n2⟩ := fd_near2 (n := c * 9007199254740992) (d := d) (by omega) (A := 4503599627370496) (by omega) (by omega)
    rw [fd_settle n1 (by omega) (by omega) (by omega)]
    split
    · exact ⟨_, _, by omega, by omega, by omega, rfl⟩
    · exact ⟨_, _, by omega, by omega, by omega, rfl⟩
theorem fd_share0 {a : Nat} (h : 1 ≤ a) (h3 : a < 1000000) : FP.ddiv (FP.i2d (nI 0)) (FP.i2d (nI a)) = FP.dconst0 := by
  obtain ⟨d1, d2, d3⟩ := fd_norm (n := a) (by omega) (by omega)
  show UInt64.ofNat (FP.Core.encode FP.Core.b64 (FP.Core.quotient FP.Core.b64 (FP.Core.decode FP.Core.b64 (FP.i2d (nI 0)).toNat) (FP.Core.decode FP.Core.b64 (FP.i2d (nI a)).toNat))) = _
  rw [fd_i2d0, fd_i2d (by omega) (by omega)]
  have e1 : FP.Core.quotient FP.Core.b64 (.fin false 0 (-1074)) (.fin false (a * 2 ^ (52 - a.log2)) ((a.log2 : Int) - 52)) = .fin false 0 (-1074) := by
    show (if a * 2 ^ (52 - a.log2) = 0 then (if 0 = 0 then FP.Core.Datum.nan else FP.Core.Datum.inf false) else FP.Core.roundRatio FP.Core.b64 false 0 (a * 2 ^ (52 - a.log2)) ((-1074 : Int) - ((a.log2 : Int) - 52))) = _
    rw [if_neg (by omega)]
    unfold FP.Core.roundRatio
    rw [if_pos rfl, fd_qmin]
  rw [e1]
  decide +kernel
theorem fd_exs {t : Nat} : FP.Core.exactSum (.fin false (4503599627370496 + t) (-52)) (.fin true 4503599627370496 (-52)) = .fin false t (-52) := by
  have hV : FP.Core.sumUnits false (4503599627370496 + t) (-52) true 4503599627370496 (-52) (min (-52) (-52)) = (t : Int) := by
    show (((4503599627370496 + t) * 2 ^ ((-52 : Int) - min (-52) (-52)).toNat : Nat) : Int) + -((4503599627370496 * 2 ^ ((-52 : Int) - min (-52) (-52)).toNat : Nat) : Int) = _
    rw [show ((-52 : Int) - min (-52) (-52)).toNat = 0 from by decide, Nat.pow_zero, Nat.mul_one, Nat.mul_one]
    omega
  show FP.Core.Datum.fin (FP.Core.sumSign false true (FP.Core.sumUnits false (4503599627370496 + t) (-52) true 4503599627370496 (-52) (min (-52) (-52)))) (FP.Core.sumUnits false (4503599627370496 + t) (-52) true 4503599627370496 (-52) (min (-52) (-52))).natAbs (min (-52) (-52)) = _
  rw [hV, Int.natAbs_natCast]
  have hs : FP.Core.sumSign false true (t : Int) = false := by
    unfold FP.Core.sumSign
    split
    · rfl
    · exact decide_eq_false (by omega)
  rw [hs]
  rfl
theorem fd_sub_e {t : Nat} (ht : t < 4503599627370496) : FP.dsub (fd_x 1023 t) FP.dconst1 = UInt64.ofNat (FP.Core.encode FP.Core.b64 (FP.Core.roundRatio FP.Core.b64 false t 1 (-52))) := by
  show UInt64.ofNat (FP.Core.encode FP.Core.b64 (FP.Core.round FP.Core.b64 (FP.Core.exactSum (FP.Core.decode FP.Core.b64 (fd_x 1023 t).toNat) (FP.Core.negate (FP.Core.decode FP.Core.b64 FP.dconst1.toNat))))) = _
  rw [fd_x_dec (by omega) (by omega) ht, fd_c1, show ((1023 : Nat) : Int) - 1075 = -52 from by decide]
  show UInt64.ofNat (FP.Core.encode FP.Core.b64 (FP.Core.round FP.Core.b64 (FP.Core.exactSum (.fin false (4503599627370496 + t) (-52)) (.fin true 4503599627370496 (-52))))) = _
  rw [fd_exs]
  rfl
theorem fd_sub0 : FP.dsub (fd_x 1023 0) FP.dconst1 = 0 := by
  rw [fd_sub_e (by decide)]
  decide +kernel
theorem fd_sub1 {t : Nat} (h0 : t ≠ 0) (ht : t < 4503599627370496) : FP.dsub (fd_x 1023 t) FP.dconst1 = fd_x (t.log2 + 971) (t * 2 ^ (52 - t.log2) - 4503599627370496) := by
  obtain ⟨h1, h2, h3⟩ := fd_norm h0 ht
  rw [fd_sub_e ht, fd_whole h0 ht (by decide) (by decide), fd_enc h1 (by omega), show ((t.log2 : Int) + -52 - 52 + 1075).toNat = t.log2 + 971 from by omega]
/-- what is left over one, as a whole number -/
theorem fd_frac {t : Nat} (ht : t < 4503599627370496) : vf_n64 (FP.dsub (fd_x 1023 t) FP.dconst1) ∧ vf_n64 (FP.dmul (FP.dsub (fd_x 1023 t) FP.dconst1) (4841369599423283200 : UInt64)) ∧ FP.d2l (FP.dmul (FP.dsub (fd_x 1023 t) FP.dconst1) (4841369599423283200 : UInt64)) = lN t := by
  by_cases h0 : t = 0
  · subst h0
    rw [fd_sub0]
    have e : FP.dmul 0 (4841369599423283200 : UInt64) = 0 := by decide +kernel
    rw [e]
    refine ⟨fd_n64 (by decide), fd_n64 (by decide), ?_⟩
    decide +kernel
  · obtain ⟨h1, h2, h3⟩ := fd_norm h0 ht
    rw [fd_sub1 h0 ht]
    have e : FP.dmul (fd_x (t.log2 + 971) (t * 2 ^ (52 - t.log2) - 4503599627370496)) (4841369599423283200 : UInt64) = fd_x (t.log2 + 1023) (t * 2 ^ (52 - t.log2) - 4503599627370496) := by
      rw [fd_mul (fd_x_dec (by omega) (by omega) (by omega)) fd_p52 (by omega) (by omega) (by omega) (by omega), show (((t.log2 + 971 : Nat) : Int) - 1075 + 0 + 52 + 1075).toNat = t.log2 + 1023 from by omega, show 4503599627370496 + (t * 2 ^ (52 - t.log2) - 4503599627370496) - 4503599627370496 = t * 2 ^ (52 - t.log2) - 4503599627370496 from by omega]
    rw [e]
    refine ⟨fd_x_64 (by omega) (by omega), fd_x_64 (by omega) (by omega), ?_⟩
    show FP.Core.toL (FP.Core.decode FP.Core.b64 (fd_x (t.log2 + 1023) (t * 2 ^ (52 - t.log2) - 4503599627370496)).toNat) = _
    rw [fd_x_dec (by omega) (by omega) (by omega), show 4503599627370496 + (t * 2 ^ (52 - t.log2) - 4503599627370496) = t * 2 ^ (52 - t.log2) from by omega, show ((t.log2 + 1023 : Nat) : Int) - 1075 = (t.log2 : Int) - 52 from by omega]
    have ht2 : FP.Core.truncate false (t * 2 ^ (52 - t.log2)) ((t.log2 : Int) - 52) = (t : Int) := by
      show (((t * 2 ^ (52 - t.log2)) * 2 ^ ((t.log2 : Int) - 52).toNat / 2 ^ (-((t.log2 : Int) - 52)).toNat : Nat) : Int) = _
      rw [show ((t.log2 : Int) - 52).toNat = 0 from by omega, show (-((t.log2 : Int) - 52)).toNat = 52 - t.log2 from by omega, Nat.pow_zero, Nat.mul_one, Nat.mul_div_cancel _ (Nat.two_pow_pos _)]
    show Int64.ofInt (max (-2 ^ 63) (min (2 ^ 63 - 1) (FP.Core.truncate false (t * 2 ^ (52 - t.log2)) ((t.log2 : Int) - 52)))) = lN t
    rw [ht2, show max (-2 ^ 63 : Int) (min (2 ^ 63 - 1) (t : Int)) = (t : Int) from by omega]
    exact Int64.ofInt_eq_ofNat
