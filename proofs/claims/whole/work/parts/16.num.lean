/-! Numbers, rows of numbers, and the shape of a loop. -/
theorem m9_down {P : Nat → Prop} (N : Nat) (h : ∀ i, i ≤ N → (i < N → P (i + 1)) → P i) : ∀ i, i ≤ N → P i := by
  intro i hi
  obtain ⟨d, hd⟩ : ∃ d, d + i = N := ⟨N - i, by omega⟩
  induction d generalizing i with
  | zero => exact h i hi (fun q => by omega)
  | succ d ih => exact h i hi (fun q => ih (i + 1) (by omega) (by omega))
theorem m9_le {a b : Nat} (ha : a < 2147483648) (hb : b < 2147483648) : nI a ≤ nI b ↔ a ≤ b := nI_leI ha hb
theorem m9_lt {a b : Nat} (ha : a < 2147483648) (hb : b < 2147483648) : nI a < nI b ↔ a < b := nI_ltI ha hb
theorem m9_eq {a b : Nat} (ha : a < 2147483648) (hb : b < 2147483648) : nI a = nI b ↔ a = b := nI_eq ha hb
theorem m9_cl {a : Nat} (ha : a < 2147483648) : (nI a).toNatClampNeg = a := nI_clamp ha
theorem m9_in {a n : Nat} (h : a < n) (hn : n < 2147483648) : vp_in (nI a) n := vp_in_nI h hn
/-- an exit of a loop that runs to N -/
theorem m9_ex {N i : Nat} (hN : N < 2147483648) (hi : i ≤ N) (c : nI N ≤ nI i) : i = N := by
  have := (m9_le hN (by omega)).mp c
  omega
theorem m9_go {N i : Nat} (hN : N < 2147483648) (hi : i ≤ N) (c : ¬ nI N ≤ nI i) : i < N := by
  rcases Nat.lt_or_ge i N with h | h
  · exact h
  · exact absurd ((m9_le hN (by omega)).mpr h) c
theorem m9_exg {N i : Nat} (hN : N < 2147483647) (hi : i ≤ N + 1) (c : nI N < nI i) : i = N + 1 := by
  have := (m9_lt (by omega) (by omega)).mp c
  omega
theorem m9_gog {N i : Nat} (hN : N < 2147483647) (hi : i ≤ N + 1) (c : ¬ nI N < nI i) : i < N + 1 := by
  rcases Nat.lt_or_ge i (N + 1) with h | h
  · exact h
  · exact absurd ((m9_lt (by omega) (by omega)).mpr h) c
/-- a row that is filled up to i -/
def m9_fl (f g : Nat → Int32) (i : Nat) : Nat → Int32 := fun j => if j < i then f j else g j
theorem m9_fl_0 (f g : Nat → Int32) : m9_fl f g 0 = g := rfl
theorem m9_fl_in {f g : Nat → Int32} {i j : Nat} (h : j < i) : m9_fl f g i j = f j := if_pos h
theorem m9_fl_out {f g : Nat → Int32} {i j : Nat} (h : ¬ j < i) : m9_fl f g i j = g j := if_neg h
theorem m9_fl_succ (f g : Nat → Int32) (i : Nat) : upd (m9_fl f g i) i (f i) = m9_fl f g (i + 1) := by
  funext j
  unfold upd m9_fl
  by_cases h : j = i
  · subst h; simp
  · by_cases h2 : j < i
    · rw [if_neg h, if_pos h2, if_pos (by omega)]
    · rw [if_neg h, if_neg h2, if_neg (by omega)]
theorem m9_upd_same {f : Nat → Int32} {i : Nat} {v : Int32} (h : f i = v) : upd f i v = f := by
  funext j
  unfold upd
  by_cases hj : j = i
  · subst hj; rw [if_pos rfl, h]
  · rw [if_neg hj]
theorem m9_sc_same {M : k9_Mem} {k : Nat} {f : Nat → Int32} (h : M k = f) : k9_sc M k f = M := by
  funext a
  unfold k9_sc
  by_cases ha : a = k
  · subst ha; rw [if_pos rfl, h]
  · rw [if_neg ha]
theorem m9_sc_sc (M : k9_Mem) (k : Nat) (f g : Nat → Int32) : k9_sc (k9_sc M k f) k g = k9_sc M k g := by
  funext a
  unfold k9_sc
  by_cases ha : a = k <;> simp [ha]
theorem m9_sc_comm (M : k9_Mem) {k j : Nat} (h : k ≠ j) (f g : Nat → Int32) : k9_sc (k9_sc M k f) j g = k9_sc (k9_sc M j g) k f := by
  funext a
  unfold k9_sc
  by_cases ha : a = k
  · subst ha; simp [h]
  · by_cases hb : a = j
    · subst hb; simp [ha]
    · simp [ha, hb]
/-- a store into a row that was laid -/
theorem m9_st_sc (M : k9_Mem) (k j : Nat) (f : Nat → Int32) (v : Int32) : k9_st (k9_sc M k f) k j v = k9_sc M k (upd f j v) := by
  unfold k9_st
  rw [k9_sc_eq, m9_sc_sc]
theorem m9_st_at (M : k9_Mem) (k j : Nat) (v : Int32) : k9_st M k j v k = upd (M k) j v := k9_sc_eq _ _ _
theorem m9_st_ne (M : k9_Mem) {k a : Nat} (j : Nat) (v : Int32) (h : a ≠ k) : k9_st M k j v a = M a := k9_sc_ne _ _ h
theorem m9_upd_at (f : Nat → Int32) (i : Nat) (v : Int32) : upd f i v i = v := if_pos rfl
theorem m9_upd_ne (f : Nat → Int32) {i j : Nat} (v : Int32) (h : j ≠ i) : upd f i v j = f j := if_neg h
/-- sums -/
def m9_sum (f : Nat → Int32) : Nat → Int32
  | 0 => 0
  | n + 1 => m9_sum f n + f n
theorem m9_sum_0 (f : Nat → Int32) : m9_sum f 0 = 0 := rfl
theorem m9_sum_s (f : Nat → Int32) (n : Nat) : m9_sum f (n + 1) = m9_sum f n + f n := rfl
theorem m9_sum_c {f g : Nat → Int32} : ∀ {n : Nat}, (∀ k, k < n → f k = g k) → m9_sum f n = m9_sum g n
  | 0, _ => rfl
  | n + 1, h => by rw [m9_sum_s, m9_sum_s, m9_sum_c (fun k hk => h k (by omega)), h n (by omega)]
/-- bits of a number -/
def m9_b (x : Int32) (i : Nat) : Bool := x.toBitVec.getLsbD i
theorem m9_b_ext {x y : Int32} (h : ∀ i, i < 32 → m9_b x i = m9_b y i) : x = y := Int32.toBitVec_inj.mp (BitVec.eq_of_getLsbD_eq h)
theorem m9_b_or (x y : Int32) (i : Nat) : m9_b (x ||| y) i = (m9_b x i || m9_b y i) := by simp [m9_b]
theorem m9_b_and (x y : Int32) (i : Nat) : m9_b (x &&& y) i = (m9_b x i && m9_b y i) := by simp [m9_b]
theorem m9_b_xor (x y : Int32) (i : Nat) : m9_b (x ^^^ y) i = (m9_b x i ^^ m9_b y i) := by simp [m9_b]
theorem m9_b_big {x : Int32} {i : Nat} (h : 32 ≤ i) : m9_b x i = false := BitVec.getLsbD_of_ge _ _ h
theorem m9_b_0 (i : Nat) : m9_b 0 i = false := by simp [m9_b]
theorem m9_b_m1 {i : Nat} (h : i < 32) : m9_b (-1) i = true := by
  have : ∀ j, j < 32 → m9_b (-1) j = true := by decide
  exact this i h
theorem m9_b_not (x : Int32) {i : Nat} (h : i < 32) : m9_b (x ^^^ (-1)) i = !m9_b x i := by rw [m9_b_xor, m9_b_m1 h]; cases m9_b x i <;> rfl
theorem wb_of32 (x : Int32) : ∃ n, n < 2 ^ 32 ∧ x = nI n := ⟨x.toBitVec.toNat, x.toBitVec.isLt, Int32.toBitVec_inj.mp (by show _ = BitVec.ofNat 32 _; simp)⟩
