/-! The number of bits: Integer.bitCount's numbers. -/
def m9_pcn : Nat → Nat → Nat
  | 0, _ => 0
  | w + 1, n => n % 2 + m9_pcn w (n / 2)
def m9_dg (k : Nat) (f : Nat → Nat) : Nat → Nat → Nat
  | 0, _ => 0
  | w + 1, n => f (n % 2 ^ k) + 2 ^ k * m9_dg k f w (n / 2 ^ k)
theorem m9_land {k a c : Nat} (b d : Nat) (ha : a < 2 ^ k) (hc : c < 2 ^ k) : (a + 2 ^ k * b) &&& (c + 2 ^ k * d) = (a &&& c) + 2 ^ k * (b &&& d) := by
  have hac : a &&& c < 2 ^ k := Nat.and_lt_two_pow _ hc
  apply Nat.eq_of_testBit_eq
  intro i
  rw [Nat.testBit_and, Nat.add_comm a, Nat.add_comm c, Nat.add_comm (a &&& c), Nat.testBit_two_pow_mul_add _ ha, Nat.testBit_two_pow_mul_add _ hc, Nat.testBit_two_pow_mul_add _ hac, Nat.testBit_and, Nat.testBit_and]
  by_cases h : i < k <;> simp [h]
theorem m9_dg_id (k : Nat) : ∀ w n, n < 2 ^ (k * w) → m9_dg k (fun d => d) w n = n
  | 0, n, h => by
    have : n = 0 := by simpa using h
    rw [this]; rfl
  | w + 1, n, h => by
    have h1 : n / 2 ^ k < 2 ^ (k * w) := by
      rw [Nat.div_lt_iff_lt_mul (Nat.two_pow_pos k), ← Nat.pow_add]
      rw [Nat.mul_succ] at h
      exact h
    show n % 2 ^ k + 2 ^ k * m9_dg k (fun d => d) w (n / 2 ^ k) = n
    rw [m9_dg_id k w _ h1]
    exact Nat.mod_add_div n (2 ^ k)
theorem m9_dg_lt {k : Nat} {f : Nat → Nat} (hf : ∀ d, d < 2 ^ k → f d < 2 ^ k) : ∀ w n, m9_dg k f w n < 2 ^ (k * w)
  | 0, n => by show 0 < _; exact Nat.two_pow_pos _
  | w + 1, n => by
    have h1 := hf (n % 2 ^ k) (Nat.mod_lt _ (Nat.two_pow_pos k))
    have h2 := m9_dg_lt hf w (n / 2 ^ k)
    show f (n % 2 ^ k) + 2 ^ k * m9_dg k f w (n / 2 ^ k) < 2 ^ (k * (w + 1))
    rw [Nat.mul_succ, Nat.pow_add, Nat.mul_comm (2 ^ (k * w))]
    have h3 : 2 ^ k * (m9_dg k f w (n / 2 ^ k) + 1) ≤ 2 ^ k * 2 ^ (k * w) := Nat.mul_le_mul_left _ h2
    rw [Nat.mul_succ] at h3
    omega
theorem m9_dg_add (k : Nat) (f g : Nat → Nat) : ∀ w n, m9_dg k f w n + m9_dg k g w n = m9_dg k (fun d => f d + g d) w n
  | 0, _ => rfl
  | w + 1, n => by
    show f _ + 2 ^ k * m9_dg k f w _ + (g _ + 2 ^ k * m9_dg k g w _) = f _ + g _ + 2 ^ k * m9_dg k (fun d => f d + g d) w _
    rw [← m9_dg_add k f g w, Nat.mul_add]
    omega
theorem m9_dg_c {k : Nat} {f g : Nat → Nat} (h : ∀ d, d < 2 ^ k → f d = g d) : ∀ w n, m9_dg k f w n = m9_dg k g w n
  | 0, _ => rfl
  | w + 1, n => by
    show f _ + 2 ^ k * m9_dg k f w _ = g _ + 2 ^ k * m9_dg k g w _
    rw [h _ (Nat.mod_lt _ (Nat.two_pow_pos k)), m9_dg_c h w]
/-- the low half of each digit, by a mask -/
theorem m9_dg_lo (k mk : Nat) (lo : Nat → Nat) (hm : mk < 2 ^ k) (hlo : ∀ d, d < 2 ^ k → d &&& mk = lo d) : ∀ w n, n &&& m9_dg k (fun _ => mk) w 0 = m9_dg k lo w n
  | 0, n => by show n &&& 0 = 0; exact Nat.and_zero n
  | w + 1, n => by
    have h := Nat.mod_add_div n (2 ^ k)
    have h1 := Nat.mod_lt n (Nat.two_pow_pos k)
    show n &&& (mk + 2 ^ k * m9_dg k (fun _ => mk) w (0 / 2 ^ k)) = lo (n % 2 ^ k) + 2 ^ k * m9_dg k lo w (n / 2 ^ k)
    rw [Nat.zero_div]
    conv => lhs; rw [← h]
    rw [m9_land _ _ h1 hm, hlo _ h1, m9_dg_lo k mk lo hm hlo w]
/-- the high half of each digit, by a shift and a mask: digits of 2j bits, shifted by j -/
theorem m9_dg_hi (j mk : Nat) (hi : Nat → Nat) (hm : mk < 2 ^ j) (hhi : ∀ d, d < 2 ^ j → d &&& mk = hi d) : ∀ w n, n / 2 ^ j &&& m9_dg (2 * j) (fun _ => mk) w 0 = m9_dg (2 * j) (fun d => hi (d / 2 ^ j)) w n
  | 0, n => by show n / 2 ^ j &&& 0 = 0; exact Nat.and_zero _
  | w + 1, n => by
    have e : 2 ^ (2 * j) = 2 ^ j * 2 ^ j := by rw [← Nat.pow_add]; congr 1; omega
    have hp := Nat.two_pow_pos j
    have hm2 : mk < 2 ^ (2 * j) := by rw [e]; exact Nat.lt_of_lt_of_le hm (Nat.le_mul_of_pos_left _ hp)
    -- n = d + 2^2j m
    have h := Nat.mod_add_div n (2 ^ (2 * j))
    generalize hd : n % 2 ^ (2 * j) = d at h
    generalize hmm : n / 2 ^ (2 * j) = mm at h
    have hdl : d < 2 ^ j * 2 ^ j := by rw [← hd, ← e]; exact Nat.mod_lt _ (Nat.two_pow_pos _)
    have hdq : d / 2 ^ j < 2 ^ j := Nat.div_lt_of_lt_mul hdl
    have h1 : n / 2 ^ j = d / 2 ^ j + 2 ^ j * mm := by
      rw [← h, e, Nat.mul_assoc, Nat.add_mul_div_left _ _ hp]
    have h2 : 2 ^ j * mm = 2 ^ j * (mm % 2 ^ j) + 2 ^ (2 * j) * (mm / 2 ^ j) := by
      rw [e, Nat.mul_assoc, ← Nat.mul_add, Nat.mod_add_div]
    have h3 : d / 2 ^ j + 2 ^ j * (mm % 2 ^ j) < 2 ^ (2 * j) := by
      rw [e]
      have h4 := Nat.mod_lt mm hp
      have h5 : 2 ^ j * (mm % 2 ^ j + 1) ≤ 2 ^ j * 2 ^ j := Nat.mul_le_mul_left _ h4
      rw [Nat.mul_succ] at h5
      omega
    show n / 2 ^ j &&& (mk + 2 ^ (2 * j) * m9_dg (2 * j) (fun _ => mk) w (0 / 2 ^ (2 * j))) = hi (n % 2 ^ (2 * j) / 2 ^ j) + 2 ^ (2 * j) * m9_dg (2 * j) (fun d => hi (d / 2 ^ j)) w (n / 2 ^ (2 * j))
    rw [Nat.zero_div, hd, hmm, h1, h2, ← Nat.add_assoc, m9_land _ _ h3 hm2, m9_dg_hi j mk hi hm hhi w mm]
    congr 1
    have h6 := m9_land (k := j) (mm % 2 ^ j) 0 hdq hm
    rw [Nat.mul_zero, Nat.add_zero, Nat.and_zero, Nat.mul_zero, Nat.add_zero] at h6
    rw [h6, hhi _ hdq]
theorem m9_dg_sub {k : Nat} {f : Nat → Nat} (hf : ∀ d, d < 2 ^ k → f d ≤ d) : ∀ w n, n < 2 ^ (k * w) → n - m9_dg k f w n = m9_dg k (fun d => d - f d) w n := by
  intro w n hn
  have h := m9_dg_add k f (fun d => d - f d) w n
  rw [m9_dg_c (f := fun d => f d + (d - f d)) (g := fun d => d) (fun d hd => by have := hf d hd; show f d + (d - f d) = d; omega) w n, m9_dg_id k w n hn] at h
  omega
/-- digits of digits -/
theorem m9_dg_two (j : Nat) (f : Nat → Nat) (hf : ∀ d, d < 2 ^ j → f d < 2 ^ j) : ∀ w n, m9_dg j f (2 * w) n = m9_dg (2 * j) (fun d => f (d % 2 ^ j) + 2 ^ j * f (d / 2 ^ j)) w n
  | 0, _ => rfl
  | w + 1, n => by
    have e : 2 ^ (2 * j) = 2 ^ j * 2 ^ j := by rw [← Nat.pow_add]; congr 1; omega
    show m9_dg j f (2 * w + 1 + 1) n = f (n % 2 ^ (2 * j) % 2 ^ j) + 2 ^ j * f (n % 2 ^ (2 * j) / 2 ^ j) + 2 ^ (2 * j) * m9_dg (2 * j) _ w (n / 2 ^ (2 * j))
    rw [← m9_dg_two j f hf w]
    show f (n % 2 ^ j) + 2 ^ j * (f (n / 2 ^ j % 2 ^ j) + 2 ^ j * m9_dg j f (2 * w) (n / 2 ^ j / 2 ^ j)) = _
    rw [e, Nat.mod_mul_right_mod, Nat.mod_mul_right_div_self, Nat.div_div_eq_div_mul, Nat.mul_add, Nat.mul_assoc, Nat.add_assoc]
theorem m9_dg_mod {k : Nat} {h : Nat → Nat} (hh : ∀ d, d < 2 ^ k → h d < 2 ^ k) (g : Nat → Nat) : ∀ w n, m9_dg k g w (m9_dg k h w n) = m9_dg k (fun d => g (h d)) w n
  | 0, _ => rfl
  | w + 1, n => by
    have h1 := hh _ (Nat.mod_lt n (Nat.two_pow_pos k))
    show g ((h (n % 2 ^ k) + 2 ^ k * m9_dg k h w (n / 2 ^ k)) % 2 ^ k) + 2 ^ k * m9_dg k g w ((h (n % 2 ^ k) + 2 ^ k * m9_dg k h w (n / 2 ^ k)) / 2 ^ k) = g (h (n % 2 ^ k)) + 2 ^ k * m9_dg k (fun d => g (h d)) w (n / 2 ^ k)
    rw [Nat.add_mul_mod_self_left, Nat.mod_eq_of_lt h1, Nat.add_mul_div_left _ _ (Nat.two_pow_pos k), Nat.div_eq_of_lt h1, Nat.zero_add, m9_dg_mod hh g w]
def m9_p2 (d : Nat) : Nat := d - d / 2
def m9_p4 (d : Nat) : Nat := m9_p2 (d % 4) + m9_p2 (d / 4)
theorem m9_s1 (n : Nat) (h : n < 2 ^ 32) : n - (n / 2 &&& 1431655765) = m9_dg 2 m9_p2 16 n := by
  have e : (1431655765 : Nat) = m9_dg (2 * 1) (fun _ => 1) 16 0 := by decide
  have h1 := m9_dg_hi 1 1 (fun d => d) (by decide) (by decide) 16 n
  rw [← e] at h1
  rw [show n / 2 = n / 2 ^ 1 from rfl, h1]
  exact m9_dg_sub (k := 2) (by decide) 16 n h
theorem m9_s2 (n : Nat) : (m9_dg 2 m9_p2 16 n &&& 858993459) + (m9_dg 2 m9_p2 16 n / 4 &&& 858993459) = m9_dg 4 m9_p4 8 n := by
  have e : (858993459 : Nat) = m9_dg (2 * 2) (fun _ => 3) 8 0 := by decide
  have e2 := m9_dg_two 2 m9_p2 (by decide) 8 n
  rw [show (2 * 8 : Nat) = 16 from rfl] at e2
  rw [e2]
  generalize hx : m9_dg (2 * 2) (fun d => m9_p2 (d % 2 ^ 2) + 2 ^ 2 * m9_p2 (d / 2 ^ 2)) 8 n = x
  have h1 := m9_dg_lo (2 * 2) 3 (fun d => d % 4) (by decide) (by decide) 8 x
  have h2 := m9_dg_hi 2 3 (fun d => d) (by decide) (by decide) 8 x
  rw [← e] at h1 h2
  rw [h1, show x / 4 = x / 2 ^ 2 from rfl, h2, m9_dg_add, ← hx, m9_dg_mod (by decide)]
  exact m9_dg_c (k := 4) (by decide) 8 n
theorem m9_p4_le : ∀ d, d < 16 → m9_p4 d ≤ 4 ∧ m9_p4 d = d % 2 + (d / 2 % 2 + (d / 2 / 2 % 2 + d / 2 / 2 / 2 % 2)) := by decide
theorem m9_pcn_4 (w n : Nat) : m9_pcn (w + 4) n = m9_p4 (n % 16) + m9_pcn w (n / 16) := by
  have h := (m9_p4_le (n % 16) (Nat.mod_lt _ (by decide))).2
  show n % 2 + (n / 2 % 2 + (n / 2 / 2 % 2 + (n / 2 / 2 / 2 % 2 + m9_pcn w (n / 2 / 2 / 2 / 2)))) = _
  have e : n / 2 / 2 / 2 / 2 = n / 16 := by omega
  rw [e, h]
  omega
theorem m9_s3 (a0 a1 a2 a3 a4 a5 a6 a7 : Nat) (h0 : a0 ≤ 4) (h1 : a1 ≤ 4) (h2 : a2 ≤ 4) (h3 : a3 ≤ 4) (h4 : a4 ≤ 4) (h5 : a5 ≤ 4) (h6 : a6 ≤ 4) (h7 : a7 ≤ 4) (y : Nat) (hy : y = a0 + 16 * (a1 + 16 * (a2 + 16 * (a3 + 16 * (a4 + 16 * (a5 + 16 * (a6 + 16 * a7))))))) :
    (y + y / 16) &&& 252645135 = (a0 + a1) + 256 * ((a2 + a3) + 256 * ((a4 + a5) + 256 * (a6 + a7))) := by
  have e : (252645135 : Nat) = m9_dg 8 (fun _ => 15) 4 0 := by decide
  have hy16 : y / 16 = a1 + 16 * (a2 + 16 * (a3 + 16 * (a4 + 16 * (a5 + 16 * (a6 + 16 * a7))))) := by omega
  have hz : y + y / 16 = ((a0 + a1) + 16 * (a1 + a2)) + 256 * (((a2 + a3) + 16 * (a3 + a4)) + 256 * (((a4 + a5) + 16 * (a5 + a6)) + 256 * ((a6 + a7) + 16 * a7))) := by omega
  have hl : ∀ d, d < 2 ^ 8 → d &&& 15 = d % 16 := by decide +kernel
  rw [e, m9_dg_lo 8 15 (fun d => d % 16) (by decide) hl 4, hz]
  generalize hu : ((a4 + a5) + 16 * (a5 + a6)) + 256 * ((a6 + a7) + 16 * a7) = u
  generalize hv : ((a2 + a3) + 16 * (a3 + a4)) + 256 * u = v
  have q0 : (a0 + a1 + 16 * (a1 + a2) + 256 * v) % 256 % 16 = a0 + a1 := by omega
  have r0 : (a0 + a1 + 16 * (a1 + a2) + 256 * v) / 256 = v := by omega
  have q1 : v % 256 % 16 = a2 + a3 := by omega
  have r1 : v / 256 = u := by omega
  have q2 : u % 256 % 16 = a4 + a5 := by omega
  have r2 : u / 256 = (a6 + a7) + 16 * a7 := by omega
  have q3 : ((a6 + a7) + 16 * a7) % 256 % 16 = a6 + a7 := by omega
  show (a0 + a1 + 16 * (a1 + a2) + 256 * v) % 256 % 16 + 256 * (((a0 + a1 + 16 * (a1 + a2) + 256 * v) / 256) % 256 % 16 + 256 * (((a0 + a1 + 16 * (a1 + a2) + 256 * v) / 256) / 256 % 256 % 16 + 256 * (((a0 + a1 + 16 * (a1 + a2) + 256 * v) / 256) / 256 / 256 % 256 % 16 + 256 * 0))) = _
  rw [q0, r0, q1, r1, q2, r2, q3, Nat.mul_zero, Nat.add_zero]
theorem m9_s4a (c0 c1 c2 c3 : Nat) (h0 : c0 ≤ 16) (h1 : c1 ≤ 16) : (c0 + 256 * (c1 + 256 * (c2 + 256 * c3))) / 65536 = c2 + 256 * c3 := by omega
theorem m9_s4b (c0 c1 c2 c3 : Nat) (h : c0 + c2 < 64) : (c0 + 256 * (c1 + 256 * (c2 + 256 * c3)) + (c2 + 256 * c3)) % 64 = c0 + c2 := by omega
theorem m9_s4c (b0 b1 b2 b3 : Nat) (h0 : b0 ≤ 8) : (b0 + 256 * (b1 + 256 * (b2 + 256 * b3))) / 256 = b1 + 256 * (b2 + 256 * b3) := by omega
theorem m9_s4 (b0 b1 b2 b3 t : Nat) (h0 : b0 ≤ 8) (h1 : b1 ≤ 8) (h2 : b2 ≤ 8) (h3 : b3 ≤ 8) (ht : t = b0 + 256 * (b1 + 256 * (b2 + 256 * b3))) : ((t + t / 256) + (t + t / 256) / 65536) % 64 = b0 + b1 + b2 + b3 := by
  subst ht
  rw [m9_s4c b0 b1 b2 b3 h0]
  have e2 : b0 + 256 * (b1 + 256 * (b2 + 256 * b3)) + (b1 + 256 * (b2 + 256 * b3)) = (b0 + b1) + 256 * ((b1 + b2) + 256 * ((b2 + b3) + 256 * b3)) := by omega
  rw [e2, m9_s4a _ _ _ _ (by omega) (by omega), m9_s4b _ _ _ _ (by omega)]
  omega
theorem m9_bd1 {a0 : Nat} {a1 : Nat} {a2 : Nat} {a3 : Nat} {a4 : Nat} {a5 : Nat} {a6 : Nat} {a7 : Nat} (h0 : a0 ≤ 4) (h1 : a1 ≤ 4) (h2 : a2 ≤ 4) (h3 : a3 ≤ 4) (h4 : a4 ≤ 4) (h5 : a5 ≤ 4) (h6 : a6 ≤ 4) (h7 : a7 ≤ 4) : a0 + 16 * (a1 + 16 * (a2 + 16 * (a3 + 16 * (a4 + 16 * (a5 + 16 * (a6 + 16 * a7)))))) < 4294967296 := by omega
theorem m9_bd0 {a0 : Nat} {a1 : Nat} {a2 : Nat} {a3 : Nat} {a4 : Nat} {a5 : Nat} {a6 : Nat} {a7 : Nat} (h0 : a0 ≤ 4) (h1 : a1 ≤ 4) (h2 : a2 ≤ 4) (h3 : a3 ≤ 4) (h4 : a4 ≤ 4) (h5 : a5 ≤ 4) (h6 : a6 ≤ 4) (h7 : a7 ≤ 4) : a0 + 16 * (a1 + 16 * (a2 + 16 * (a3 + 16 * (a4 + 16 * (a5 + 16 * (a6 + 16 * a7)))))) ≤ 1145324612 := by omega
theorem m9_bd2 {a0 : Nat} {a1 : Nat} {a2 : Nat} {a3 : Nat} {a4 : Nat} {a5 : Nat} {a6 : Nat} {a7 : Nat} (h0 : a0 ≤ 4) (h1 : a1 ≤ 4) (h2 : a2 ≤ 4) (h3 : a3 ≤ 4) (h4 : a4 ≤ 4) (h5 : a5 ≤ 4) (h6 : a6 ≤ 4) (h7 : a7 ≤ 4) : (a0 + 16 * (a1 + 16 * (a2 + 16 * (a3 + 16 * (a4 + 16 * (a5 + 16 * (a6 + 16 * a7))))))) + (a0 + 16 * (a1 + 16 * (a2 + 16 * (a3 + 16 * (a4 + 16 * (a5 + 16 * (a6 + 16 * a7))))))) / 16 < 4294967296 := by
  have := m9_bd0 h0 h1 h2 h3 h4 h5 h6 h7
  generalize a0 + 16 * (a1 + 16 * (a2 + 16 * (a3 + 16 * (a4 + 16 * (a5 + 16 * (a6 + 16 * a7)))))) = y at *
  clear h0 h1 h2 h3 h4 h5 h6 h7
  omega
theorem m9_bd6 {a0 : Nat} {a1 : Nat} {a2 : Nat} {a3 : Nat} {a4 : Nat} {a5 : Nat} {a6 : Nat} {a7 : Nat} (h0 : a0 ≤ 4) (h1 : a1 ≤ 4) (h2 : a2 ≤ 4) (h3 : a3 ≤ 4) (h4 : a4 ≤ 4) (h5 : a5 ≤ 4) (h6 : a6 ≤ 4) (h7 : a7 ≤ 4) : (a0 + a1) + 256 * ((a2 + a3) + 256 * ((a4 + a5) + 256 * (a6 + a7))) ≤ 134744072 := by omega
theorem m9_bd3 {a0 : Nat} {a1 : Nat} {a2 : Nat} {a3 : Nat} {a4 : Nat} {a5 : Nat} {a6 : Nat} {a7 : Nat} (h0 : a0 ≤ 4) (h1 : a1 ≤ 4) (h2 : a2 ≤ 4) (h3 : a3 ≤ 4) (h4 : a4 ≤ 4) (h5 : a5 ≤ 4) (h6 : a6 ≤ 4) (h7 : a7 ≤ 4) : (a0 + a1) + 256 * ((a2 + a3) + 256 * ((a4 + a5) + 256 * (a6 + a7))) < 4294967296 := by omega
theorem m9_bd4 {a0 : Nat} {a1 : Nat} {a2 : Nat} {a3 : Nat} {a4 : Nat} {a5 : Nat} {a6 : Nat} {a7 : Nat} (h0 : a0 ≤ 4) (h1 : a1 ≤ 4) (h2 : a2 ≤ 4) (h3 : a3 ≤ 4) (h4 : a4 ≤ 4) (h5 : a5 ≤ 4) (h6 : a6 ≤ 4) (h7 : a7 ≤ 4) : ((a0 + a1) + 256 * ((a2 + a3) + 256 * ((a4 + a5) + 256 * (a6 + a7)))) + ((a0 + a1) + 256 * ((a2 + a3) + 256 * ((a4 + a5) + 256 * (a6 + a7)))) / 256 < 4294967296 := by
  have := m9_bd6 h0 h1 h2 h3 h4 h5 h6 h7
  generalize (a0 + a1) + 256 * ((a2 + a3) + 256 * ((a4 + a5) + 256 * (a6 + a7))) = y at *
  clear h0 h1 h2 h3 h4 h5 h6 h7
  omega
theorem m9_bd5 {a0 : Nat} {a1 : Nat} {a2 : Nat} {a3 : Nat} {a4 : Nat} {a5 : Nat} {a6 : Nat} {a7 : Nat} (h0 : a0 ≤ 4) (h1 : a1 ≤ 4) (h2 : a2 ≤ 4) (h3 : a3 ≤ 4) (h4 : a4 ≤ 4) (h5 : a5 ≤ 4) (h6 : a6 ≤ 4) (h7 : a7 ≤ 4) : ((a0 + a1) + 256 * ((a2 + a3) + 256 * ((a4 + a5) + 256 * (a6 + a7)))) + ((a0 + a1) + 256 * ((a2 + a3) + 256 * ((a4 + a5) + 256 * (a6 + a7)))) / 256 + (((a0 + a1) + 256 * ((a2 + a3) + 256 * ((a4 + a5) + 256 * (a6 + a7)))) + ((a0 + a1) + 256 * ((a2 + a3) + 256 * ((a4 + a5) + 256 * (a6 + a7)))) / 256) / 65536 < 4294967296 := by
  have := m9_bd6 h0 h1 h2 h3 h4 h5 h6 h7
  generalize (a0 + a1) + 256 * ((a2 + a3) + 256 * ((a4 + a5) + 256 * (a6 + a7))) = y at *
  clear h0 h1 h2 h3 h4 h5 h6 h7
  omega
/-- Integer.bitCount's number -/
def m9_bc (x : Int32) : Int32 := nI (m9_pcn 32 x.toBitVec.toNat)
theorem m9_bc_nI {n : Nat} (h : n < 4294967296) : m9_bc (nI n) = nI (m9_pcn 32 n) := by
  unfold m9_bc
  rw [pk_tn h]
theorem m9_ush {n : Nat} (hn : n < 4294967296) (k : Nat) (s : Int32) (hs : ((s.toUInt32 &&& Int32.toUInt32 31).toBitVec % 32).toNat = k) : ((nI n).toUInt32 >>> (s.toUInt32 &&& Int32.toUInt32 31)).toInt32 = nI (n / 2 ^ k) := pk_ushrN hn s k hs
theorem m9_bc_nat (n : Nat) (h : n < 4294967296) : ∃ y t : Nat, y < 4294967296 ∧ t < 4294967296 ∧ (m9_dg 2 m9_p2 16 n) < 4294967296 ∧ (m9_dg 2 m9_p2 16 n &&& 858993459) + (m9_dg 2 m9_p2 16 n / 4 &&& 858993459) = y ∧ y + y / 16 < 4294967296 ∧ (y + y / 16) &&& 252645135 = t ∧ t + t / 256 < 4294967296 ∧ t + t / 256 + (t + t / 256) / 65536 < 4294967296 ∧ ((t + t / 256) + (t + t / 256) / 65536) % 64 = m9_pcn 32 n := by
  have e : m9_dg 4 m9_p4 8 n = m9_p4 (n % 16) + 16 * (m9_p4 (n / 16 % 16) + 16 * (m9_p4 (n / 16 / 16 % 16) + 16 * (m9_p4 (n / 16 / 16 / 16 % 16) + 16 * (m9_p4 (n / 16 / 16 / 16 / 16 % 16) + 16 * (m9_p4 (n / 16 / 16 / 16 / 16 / 16 % 16) + 16 * (m9_p4 (n / 16 / 16 / 16 / 16 / 16 / 16 % 16) + 16 * m9_p4 (n / 16 / 16 / 16 / 16 / 16 / 16 / 16 % 16))))))) := rfl
  have ep : m9_pcn 32 n = m9_p4 (n % 16) + (m9_p4 (n / 16 % 16) + (m9_p4 (n / 16 / 16 % 16) + (m9_p4 (n / 16 / 16 / 16 % 16) + (m9_p4 (n / 16 / 16 / 16 / 16 % 16) + (m9_p4 (n / 16 / 16 / 16 / 16 / 16 % 16) + (m9_p4 (n / 16 / 16 / 16 / 16 / 16 / 16 % 16) + (m9_p4 (n / 16 / 16 / 16 / 16 / 16 / 16 / 16 % 16) + 0))))))) := by
    rw [m9_pcn_4 28, m9_pcn_4 24, m9_pcn_4 20, m9_pcn_4 16, m9_pcn_4 12, m9_pcn_4 8, m9_pcn_4 4, m9_pcn_4 0]
    rfl
  have b : ∀ d, m9_p4 (d % 16) ≤ 4 := fun d => (m9_p4_le _ (Nat.mod_lt _ (by decide))).1
  have b0 := b n
  have b1 := b (n / 16)
  have b2 := b (n / 16 / 16)
  have b3 := b (n / 16 / 16 / 16)
  have b4 := b (n / 16 / 16 / 16 / 16)
  have b5 := b (n / 16 / 16 / 16 / 16 / 16)
  have b6 := b (n / 16 / 16 / 16 / 16 / 16 / 16)
  have b7 := b (n / 16 / 16 / 16 / 16 / 16 / 16 / 16)
  have hs := m9_dg_lt (k := 2) (f := m9_p2) (by decide) 16 n
  generalize m9_p4 (n % 16) = a0 at *
  generalize m9_p4 (n / 16 % 16) = a1 at *
  generalize m9_p4 (n / 16 / 16 % 16) = a2 at *
  generalize m9_p4 (n / 16 / 16 / 16 % 16) = a3 at *
  generalize m9_p4 (n / 16 / 16 / 16 / 16 % 16) = a4 at *
  generalize m9_p4 (n / 16 / 16 / 16 / 16 / 16 % 16) = a5 at *
  generalize m9_p4 (n / 16 / 16 / 16 / 16 / 16 / 16 % 16) = a6 at *
  generalize m9_p4 (n / 16 / 16 / 16 / 16 / 16 / 16 / 16 % 16) = a7 at *
  refine ⟨m9_dg 4 m9_p4 8 n, (a0 + a1) + 256 * ((a2 + a3) + 256 * ((a4 + a5) + 256 * (a6 + a7))), by rw [e]; exact m9_bd1 b0 b1 b2 b3 b4 b5 b6 b7, m9_bd3 b0 b1 b2 b3 b4 b5 b6 b7, hs, m9_s2 n, by rw [e]; exact m9_bd2 b0 b1 b2 b3 b4 b5 b6 b7, m9_s3 a0 a1 a2 a3 a4 a5 a6 a7 b0 b1 b2 b3 b4 b5 b6 b7 _ e, m9_bd4 b0 b1 b2 b3 b4 b5 b6 b7, m9_bd5 b0 b1 b2 b3 b4 b5 b6 b7, ?_⟩
  rw [m9_s4 (a0 + a1) (a2 + a3) (a4 + a5) (a6 + a7) _ (by omega) (by omega) (by omega) (by omega) rfl, ep]
  omega
