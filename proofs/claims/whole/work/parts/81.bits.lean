/-! Plain mathematics: bits of numbers, sums as whole numbers. -/
theorem q9_sm (n : Nat) (h : n < 32) : ((nI n &&& 31).toBitVec.smod 32).toNat = n := by
  have : ∀ n, n < 32 → ((nI n &&& 31).toBitVec.smod 32).toNat = n := by decide +kernel
  exact this n h
theorem q9_shl (x : Int32) {n i : Nat} (h : n < 32) (hi : i < 32) : m9_b (x <<< (nI n &&& 31)) i = (decide (n ≤ i) && m9_b x (i - n)) := by
  unfold m9_b
  rw [Int32.toBitVec_shiftLeft, BitVec.shiftLeft_eq', BitVec.getLsbD_shiftLeft, q9_sm n h]
  by_cases c : n ≤ i
  · have c2 : ¬ i < n := by omega
    simp [c, c2, hi]
  · have c2 : i < n := by omega
    simp [c, c2, hi]
theorem q9_shr (x : Int32) {n i : Nat} (h : n < 32) (hi : i < 32) : m9_b (x >>> (nI n &&& 31)) i = if n + i < 32 then m9_b x (n + i) else m9_b x 31 := by
  unfold m9_b
  rw [Int32.toBitVec_shiftRight]
  show (BitVec.sshiftRight x.toBitVec ((nI n &&& 31).toBitVec.smod 32).toNat).getLsbD i = _
  rw [BitVec.getLsbD_sshiftRight, q9_sm n h]
  have c2 : ¬ 32 ≤ i := by omega
  simp only [c2, decide_false, Bool.not_false, Bool.true_and]
  by_cases c : n + i < 32
  · rw [if_pos c, if_pos c]
  · rw [if_neg c, if_neg c, BitVec.msb_eq_getLsbD_last]
theorem q9_nIb (m : Nat) {i : Nat} (hi : i < 32) : m9_b (nI m) i = m.testBit i := by
  unfold m9_b
  show (BitVec.ofNat 32 m).getLsbD i = _
  rw [BitVec.getLsbD_ofNat]
  simp [hi]
theorem q9_1b {i : Nat} (hi : i < 32) : m9_b 1 i = decide (i = 0) := by
  have : ∀ i, i < 32 → m9_b 1 i = decide (i = 0) := by decide +kernel
  exact this i hi
theorem q9_tkb {n i : Nat} (h : n < 32) (hi : i < 32) : m9_b (m9_tk (nI n)) i = decide (i = n) := by
  unfold m9_tk
  rw [q9_shl 1 h hi]
  by_cases c : n ≤ i
  · rw [q9_1b (by omega)]
    by_cases c2 : i = n
    · subst c2; simp
    · have : ¬ i - n = 0 := by omega
      simp [c, c2, this]
  · have : ¬ i = n := by omega
    simp [c, this]
theorem q9_and1 (x : Int32) : x &&& 1 = if m9_b x 0 then 1 else 0 := by
  apply m9_b_ext
  intro i hi
  rw [m9_b_and, q9_1b hi]
  by_cases c : i = 0
  · subst c
    cases h : m9_b x 0 <;> simp [m9_b_0, q9_1b]
  · simp only [c, decide_false, Bool.and_false]
    cases h : m9_b x 0 <;> simp [m9_b_0, q9_1b hi, c]
theorem q9_bit (x : Int32) {n : Nat} (h : n < 32) : (x >>> (nI n &&& 31)) &&& 1 = if m9_b x n then 1 else 0 := by
  have e : m9_b (x >>> (nI n &&& 31)) 0 = m9_b x n := by
    rw [q9_shr x h (by decide), if_pos (by omega)]; rfl
  rw [q9_and1, e]
theorem q9_one (x : Int32) {n : Nat} (h : n < 32) : m9_one x n ↔ m9_b x n = true := by
  unfold m9_one
  rw [q9_bit x h]
  cases m9_b x n <;> simp
theorem q9_at (x : Int32) {n : Nat} (h : n < 32) : m9_at x (nI n) ↔ m9_b x n = true := by
  unfold m9_at
  rw [q9_bit x h]
  cases m9_b x n <;> simp
theorem q9_at0 (x : Int32) {n : Nat} (h : n < 32) : (x >>> (nI n &&& 31)) &&& 1 = 0 ↔ m9_b x n = false := by
  rw [q9_bit x h]
  cases m9_b x n <;> simp
/-- a row of bits as a number of ones -/
theorem q9_pcn : ∀ w n, m9_pcn w n = fb_ct (fun i => n.testBit i) w
  | 0, _ => rfl
  | w + 1, n => by
    show n % 2 + m9_pcn w (n / 2) = _
    rw [q9_pcn w (n / 2), Nat.add_comm w 1, fb_ct_split (fun i => n.testBit i) 1 w]
    have e1 : fb_ct (fun i => n.testBit i) 1 = n % 2 := by
      show 0 + (if n.testBit 0 then 1 else 0) = n % 2
      rw [Nat.testBit_zero]
      rcases Nat.mod_two_eq_zero_or_one n with h | h <;> simp [h]
    rw [e1]
    congr 1
    apply fb_ct_cong
    intro k _
    rw [Nat.add_comm 1 k, Nat.testBit_add_one]
theorem q9_bc (x : Int32) : m9_bc x = nI (fb_ct (m9_b x) 32) := by
  unfold m9_bc
  rw [q9_pcn]
  rfl
theorem q9_sum {f : Nat → Int32} {g : Nat → Nat} (h : ∀ k, f k = nI (g k)) : ∀ n, m9_sum f n = nI (fb_sm g n)
  | 0 => rfl
  | n + 1 => by rw [m9_sum_s, q9_sum h n, h n, nI_add]; rfl
theorem q9_sum' {f : Nat → Int32} {g : Nat → Nat} : ∀ {n}, (∀ k, k < n → f k = nI (g k)) → m9_sum f n = nI (fb_sm g n)
  | 0, _ => rfl
  | n + 1, h => by rw [m9_sum_s, q9_sum' (fun k hk => h k (by omega)), h n (by omega), nI_add]; rfl
theorem q9_sm1 (p : Nat → Bool) : ∀ n, fb_sm (fun k => if p k then 1 else 0) n = fb_ct p n
  | 0 => rfl
  | n + 1 => by
    show fb_sm _ n + _ = fb_ct p n + _
    rw [q9_sm1 p n]
theorem q9_on (x : Int32) : m9_on x = nI (fb_ct (m9_b x) 26) := by
  unfold m9_on
  rw [q9_sum' (g := fun k => if m9_b x k then 1 else 0) (fun k hk => by rw [q9_bit x (by omega)]; cases m9_b x k <;> rfl), q9_sm1]
theorem q9_bi (P : Prop) [Decidable P] (b : Bool) (h : P ↔ b = true) : m9_bi P = nI (if b then 1 else 0) := by
  cases b
  · rw [m9_bi_f (fun z => by have := h.mp z; exact absurd this (by decide))]; rfl
  · rw [m9_bi_t (h.mpr rfl)]; rfl
/-- ones beyond a place don't count -/
theorem q9_ct_cut {p : Nat → Bool} {a : Nat} (h : ∀ i, a ≤ i → p i = false) : ∀ d, fb_ct p (a + d) = fb_ct p a
  | 0 => rfl
  | d + 1 => by
    show fb_ct p (a + d) + (if p (a + d) then 1 else 0) = _
    rw [q9_ct_cut h d, h (a + d) (by omega)]
    simp
/-- notes' bits: 1 to 20 -/
theorem q9_mask {i : Nat} (hi : i < 32) : m9_b 2097150 i = decide (1 ≤ i ∧ i ≤ 20) := by
  have : ∀ i, i < 32 → m9_b 2097150 i = decide (1 ≤ i ∧ i ≤ 20) := by decide +kernel
  exact this i hi
theorem q9_mask0 {i : Nat} (hi : i < 32) : m9_b 1048575 i = decide (i < 20) := by
  have : ∀ i, i < 32 → m9_b 1048575 i = decide (i < 20) := by decide +kernel
  exact this i hi
theorem q9_maskV {i : Nat} (hi : i < 32) : m9_b 2097151 i = decide (i < 21) := by
  have : ∀ i, i < 32 → m9_b 2097151 i = decide (i < 21) := by decide +kernel
  exact this i hi
theorem q9_maskT {i : Nat} (hi : i < 32) : m9_b 67108863 i = decide (i < 26) := by
  have : ∀ i, i < 32 → m9_b 67108863 i = decide (i < 26) := by decide +kernel
  exact this i hi
theorem q9_bcm (x : Int32) : m9_bc (x &&& 2097150) = nI (fb_ct (fun n => m9_b x (n + 1)) 20) := by
  rw [q9_bc]
  congr 1
  have e : fb_ct (m9_b (x &&& 2097150)) 32 = fb_ct (fun i => m9_b x i && decide (1 ≤ i ∧ i ≤ 20)) 32 := by
    apply fb_ct_cong
    intro k hk
    rw [m9_b_and, q9_mask hk]
  rw [e, show (32 : Nat) = 21 + 11 from rfl, q9_ct_cut (p := fun i => m9_b x i && decide (1 ≤ i ∧ i ≤ 20)) (a := 21) (fun i hi => by
    have : ¬ i ≤ 20 := by omega
    simp [this]) 11, show (21 : Nat) = 1 + 20 from rfl, fb_ct_split (fun i => m9_b x i && decide (1 ≤ i ∧ i ≤ 20)) 1 20]
  have e1 : fb_ct (fun i => m9_b x i && decide (1 ≤ i ∧ i ≤ 20)) 1 = 0 := by
    show 0 + (if (m9_b x 0 && decide (1 ≤ 0 ∧ 0 ≤ 20)) then 1 else 0) = 0
    simp
  rw [e1, Nat.zero_add]
  apply fb_ct_cong
  intro k hk
  have : (1 ≤ 1 + k ∧ 1 + k ≤ 20) := by omega
  show (m9_b x (1 + k) && decide (1 ≤ 1 + k ∧ 1 + k ≤ 20)) = m9_b x (k + 1)
  rw [decide_eq_true this, Bool.and_true, Nat.add_comm 1 k]
theorem q9_bin (f : Nat → Int32) : m9_bin f 2097150 = nI (fb_sm (fun s => fb_ct (fun n => m9_b (f s) (n + 1)) 20) 96) := q9_sum (fun _ => q9_bcm _) 96
theorem q9_bc1 (x : Int32) : m9_bc (x &&& 1) = nI (if m9_b x 0 then 1 else 0) := by
  rw [q9_and1]
  cases m9_b x 0 <;> decide +kernel
