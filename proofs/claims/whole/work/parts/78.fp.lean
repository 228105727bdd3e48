/-! Doubles: quotients from 0 to 1, doubled, and their bits. -/
theorem fd_tails : FP.Core.b64.tails = 4503599627370496 := by decide +kernel
theorem fd_exps : FP.Core.b64.exps = 2048 := by decide +kernel
theorem fd_qmin : FP.Core.b64.qmin = -1074 := by decide +kernel
theorem fd_qmax : FP.Core.b64.qmax = 971 := by decide +kernel
theorem fd_pp : (2 : Nat) ^ FP.Core.b64.p = 9007199254740992 := by decide +kernel
theorem fd_p1 : ((FP.Core.b64.p : Nat) : Int) - 1 = 52 := by decide +kernel
theorem fd_dec {e t : Nat} (h1 : 1 ≤ e) (h2 : e ≤ 2046) (ht : t < 4503599627370496) : FP.Core.decode FP.Core.b64 (e * 4503599627370496 + t) = .fin false (4503599627370496 + t) ((e : Int) - 1075) := by
  have q1 : (e * 4503599627370496 + t) / 4503599627370496 = e := by omega
  have q2 : (e * 4503599627370496 + t) % 4503599627370496 = t := by omega
  have hE : FP.Core.fieldE FP.Core.b64 (e * 4503599627370496 + t) = e := by
    unfold FP.Core.fieldE
    rw [fd_tails, fd_exps, q1, Nat.mod_eq_of_lt (by omega)]
  have hT : FP.Core.fieldT FP.Core.b64 (e * 4503599627370496 + t) = t := by
    unfold FP.Core.fieldT
    rw [fd_tails, q2]
  have hS : FP.Core.fieldS FP.Core.b64 (e * 4503599627370496 + t) = false := by
    unfold FP.Core.fieldS
    rw [fd_tails, fd_exps, q1, Nat.div_eq_of_lt (by omega)]
    rfl
  unfold FP.Core.decode
  rw [hE, hT, hS, fd_exps, fd_tails, fd_qmin, if_neg (by omega), if_neg (by omega)]
  rw [show (-1074 : Int) + ((e : Int) - 1) = (e : Int) - 1075 from by omega]
theorem fd_lead {n : Nat} (h : n ≠ 0) : FP.Core.leading n 1 = (n.log2 : Int) := by
  have h1 : (1 : Nat).log2 = 0 := by decide +kernel
  have h2 := Nat.log2_self_le h
  show (if 1 * 2 ^ ((n.log2 : Int) - ((1 : Nat).log2 : Int)).toNat ≤ n * 2 ^ (-((n.log2 : Int) - ((1 : Nat).log2 : Int))).toNat then ((n.log2 : Int) - ((1 : Nat).log2 : Int)) else ((n.log2 : Int) - ((1 : Nat).log2 : Int)) - 1) = _
  rw [h1, show ((n.log2 : Int) - ((0 : Nat) : Int)) = (n.log2 : Int) from by omega, show ((n.log2 : Int)).toNat = n.log2 from by omega, show (-(n.log2 : Int)).toNat = 0 from by omega, if_pos (by rw [Nat.one_mul, Nat.pow_zero, Nat.mul_one]; exact h2)]
theorem fd_near {m k : Nat} (hk : 0 < k) : FP.Core.nearest (m * k) k = m := by
  unfold FP.Core.nearest
  rw [Nat.mul_mod_left, Nat.mul_div_cancel _ hk, if_pos (by omega)]
theorem fd_round {n m : Nat} {E Q : Int} (h0 : n ≠ 0) (hL : (n.log2 : Int) + E - 52 = Q) (hq : -1074 ≤ Q) (hq2 : Q ≤ 971) (hm : n * 2 ^ (E - Q).toNat = m * 2 ^ (Q - E).toNat) (hm2 : m < 9007199254740992) : FP.Core.roundRatio FP.Core.b64 false n 1 E = .fin false m Q := by
  have hQ : FP.Core.quantum FP.Core.b64 n 1 E = Q := by
    unfold FP.Core.quantum
    rw [fd_lead h0, fd_qmin, fd_p1]
    omega
  have hN : FP.Core.nearest (FP.Core.unitsNum n E Q) (FP.Core.unitsDen 1 E Q) = m := by
    unfold FP.Core.unitsNum FP.Core.unitsDen
    rw [hm, Nat.one_mul]
    exact fd_near (Nat.two_pow_pos _)
  unfold FP.Core.roundRatio
  rw [if_neg h0, hQ]
  unfold FP.Core.roundAt
  rw [hN]
  unfold FP.Core.settle
  rw [fd_pp, if_pos hm2]
  unfold FP.Core.bound
  rw [fd_qmax, if_pos hq2]
/-- the double with these fields -/
def fd_x (e t : Nat) : UInt64 := UInt64.ofNat (e * 4503599627370496 + t)
theorem fd_x_n {e t : Nat} (h : e ≤ 2046) (ht : t < 4503599627370496) : (fd_x e t).toNat = e * 4503599627370496 + t := by
  unfold fd_x
  rw [UInt64.toNat_ofNat']
  exact Nat.mod_eq_of_lt (by omega)
theorem fd_x_dec {e t : Nat} (h1 : 1 ≤ e) (h : e ≤ 2046) (ht : t < 4503599627370496) : FP.Core.decode FP.Core.b64 (fd_x e t).toNat = .fin false (4503599627370496 + t) ((e : Int) - 1075) := by rw [fd_x_n h ht, fd_dec h1 h ht]
theorem fd_n64 {x : UInt64} (h : x.toNat ≤ 9218868437227405312) : vf_n64 x := by
  unfold vf_n64
  rw [UInt64.le_iff_toNat_le, UInt64.toNat_and]
  exact Nat.le_trans Nat.and_le_left h
theorem fd_x_64 {e t : Nat} (h : e ≤ 2046) (ht : t < 4503599627370496) : vf_n64 (fd_x e t) := fd_n64 (by rw [fd_x_n h ht]; omega)
theorem fd_enc {c : Nat} {q : Int} (h1 : 4503599627370496 ≤ c) (h3 : -1074 ≤ q) : UInt64.ofNat (FP.Core.encode FP.Core.b64 (.fin false c q)) = fd_x (q + 1075).toNat (c - 4503599627370496) := by
  show UInt64.ofNat (if c < FP.Core.b64.tails then FP.Core.assemble FP.Core.b64 false 0 c else FP.Core.assemble FP.Core.b64 false ((q - FP.Core.b64.qmin).toNat + 1) (c - FP.Core.b64.tails)) = _
  rw [fd_tails, if_neg (by omega), fd_qmin]
  unfold FP.Core.assemble fd_x
  rw [fd_tails, fd_exps, show (false.toNat * 2048 + ((q - -1074).toNat + 1)) = (q + 1075).toNat from by show 0 * 2048 + ((q - -1074).toNat + 1) = _; omega]
theorem fd_mul {x y : UInt64} {c : Nat} {q k : Int} (hx : FP.Core.decode FP.Core.b64 x.toNat = .fin false c q) (hy : FP.Core.decode FP.Core.b64 y.toNat = .fin false 4503599627370496 k) (h1 : 4503599627370496 ≤ c) (h2 : c < 9007199254740992) (h3 : -1074 ≤ q + k + 52) (h4 : q + k + 52 ≤ 971) : FP.dmul x y = fd_x (q + k + 52 + 1075).toNat (c - 4503599627370496) := by
  show UInt64.ofNat (FP.Core.encode FP.Core.b64 (FP.Core.round FP.Core.b64 (FP.Core.exactProduct (FP.Core.decode FP.Core.b64 x.toNat) (FP.Core.decode FP.Core.b64 y.toNat)))) = _
  rw [hx, hy]
  show UInt64.ofNat (FP.Core.encode FP.Core.b64 (FP.Core.roundRatio FP.Core.b64 false (c * 4503599627370496) 1 (q + k))) = _
  have hn : c * 4503599627370496 ≠ 0 := by omega
  have hl : (c * 4503599627370496).log2 = 104 := (Nat.log2_eq_iff hn).mpr ⟨by omega, by omega⟩
  have hm : c * 4503599627370496 * 2 ^ (q + k - (q + k + 52)).toNat = c * 2 ^ (q + k + 52 - (q + k)).toNat := by
    rw [show (q + k - (q + k + 52)).toNat = 0 from by omega, show (q + k + 52 - (q + k)).toNat = 52 from by omega]
    omega
  rw [fd_round (m := c) (Q := q + k + 52) hn (by rw [hl]; omega) h3 h4 hm h2, fd_enc h1 h3]
theorem fd_two : FP.Core.decode FP.Core.b64 (4611686018427387904 : UInt64).toNat = .fin false 4503599627370496 (-51) := by decide +kernel
theorem fd_p52 : FP.Core.decode FP.Core.b64 (4841369599423283200 : UInt64).toNat = .fin false 4503599627370496 0 := by decide +kernel
theorem fd_c1 : FP.Core.decode FP.Core.b64 FP.dconst1.toNat = .fin false 4503599627370496 (-52) := by decide +kernel
theorem fd_c0 : FP.Core.decode FP.Core.b64 FP.dconst0.toNat = .fin false 0 (-1074) := by decide +kernel
theorem fd_dbl {e t : Nat} (h1 : 1 ≤ e) (h2 : e ≤ 1022) (ht : t < 4503599627370496) : FP.dmul (fd_x e t) (4611686018427387904 : UInt64) = fd_x (e + 1) t := by
  rw [fd_mul (fd_x_dec h1 (by omega) ht) fd_two (by omega) (by omega) (by omega) (by omega), show ((e : Int) - 1075 + -51 + 52 + 1075).toNat = e + 1 from by omega, show 4503599627370496 + t - 4503599627370496 = t from by omega]
theorem fd_cl {a b : Int} (h : a < b) : compare a b = .lt := by
  simp only [compare, compareOfLessAndEq]
  simp [h]
theorem fd_cg {a b : Int} (h : b ≤ a) : compare a b = .eq ∨ compare a b = .gt := by
  simp only [compare, compareOfLessAndEq]
  have h2 : ¬ a < b := by omega
  by_cases h3 : a = b
  · left; simp [h3]
  · right; simp [h2, h3]
theorem fd_cgt {a b : Int} (h : b < a) : compare a b = .gt := by
  simp only [compare, compareOfLessAndEq]
  have h2 : ¬ a < b := by omega
  have h3 : ¬ a = b := by omega
  simp [h2, h3]
theorem fd_sg (n : Nat) : FP.Core.signed false n = (n : Int) := rfl
theorem fd_cmp1 {e t : Nat} (h1 : 1 ≤ e) (h2 : e ≤ 1022) (ht : t < 4503599627370496) : FP.dcmp (fd_x e t) FP.dconst1 = some .lt := by
  show FP.Core.order (FP.Core.decode FP.Core.b64 (fd_x e t).toNat) (FP.Core.decode FP.Core.b64 FP.dconst1.toNat) = _
  rw [fd_x_dec h1 (by omega) ht, fd_c1]
  unfold FP.Core.order FP.Core.inUnits
  simp only [fd_sg]
  have hmn : min ((e : Int) - 1075) (-52) = (e : Int) - 1075 := by omega
  rw [hmn, show ((e : Int) - 1075 - ((e : Int) - 1075)).toNat = 0 from by omega, show ((-52 : Int) - ((e : Int) - 1075)).toNat = 1023 - e from by omega]
  obtain ⟨P, hP⟩ : ∃ P, P = 2 ^ (1023 - e) := ⟨_, rfl⟩
  have hP2 : 2 ≤ P := by
    rw [hP]
    exact Nat.pow_le_pow_right (n := 2) (i := 1) (by decide) (by omega)
  rw [← hP, fd_cl (by omega)]
theorem fd_cmp1g {t : Nat} (ht : t < 4503599627370496) : FP.dcmp (fd_x 1023 t) FP.dconst1 = some .eq ∨ FP.dcmp (fd_x 1023 t) FP.dconst1 = some .gt := by
  have h : FP.dcmp (fd_x 1023 t) FP.dconst1 = some (compare (((4503599627370496 + t : Nat)) : Int) ((4503599627370496 : Nat) : Int)) := by
    show FP.Core.order (FP.Core.decode FP.Core.b64 (fd_x 1023 t).toNat) (FP.Core.decode FP.Core.b64 FP.dconst1.toNat) = _
    rw [fd_x_dec (by omega) (by omega) ht, fd_c1]
    unfold FP.Core.order FP.Core.inUnits
    simp only [fd_sg]
    rw [show min (((1023 : Nat) : Int) - 1075) (-52) = -52 from by decide, show (((1023 : Nat) : Int) - 1075 - (-52)).toNat = 0 from by decide, show ((-52 : Int) - (-52)).toNat = 0 from by decide, Nat.pow_zero, Nat.mul_one, Nat.mul_one]
  rw [h]
  rcases fd_cg (a := (((4503599627370496 + t : Nat)) : Int)) (b := ((4503599627370496 : Nat) : Int)) (by omega) with q | q
  · left; rw [q]
  · right; rw [q]
theorem fd_cmp0 {e t : Nat} (h1 : 1 ≤ e) (h2 : e ≤ 2046) (ht : t < 4503599627370496) : FP.dcmp (fd_x e t) FP.dconst0 = some .gt := by
  show FP.Core.order (FP.Core.decode FP.Core.b64 (fd_x e t).toNat) (FP.Core.decode FP.Core.b64 FP.dconst0.toNat) = _
  rw [fd_x_dec h1 (by omega) ht, fd_c0]
  unfold FP.Core.order FP.Core.inUnits
  simp only [fd_sg]
  have hmn : min ((e : Int) - 1075) (-1074) = -1074 := by omega
  have hp : 0 < 2 ^ ((e : Int) - 1075 - -1074).toNat := Nat.two_pow_pos _
  rw [hmn, Nat.zero_mul, fd_cgt (by
    have : 0 < (4503599627370496 + t) * 2 ^ ((e : Int) - 1075 - -1074).toNat := Nat.mul_pos (by omega) hp
    omega)]
