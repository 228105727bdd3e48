/-! Plain mathematics: what is laid; what is read. -/
theorem q9_st_c {p q : Nat → Bool} {B s : Nat} (h : ∀ i, i < 96 → p i = q i) (hs : s < 96) : q9_st p B s ↔ q9_st q B s := by
  unfold q9_st
  rw [h s hs]
  constructor
  · rintro ⟨h1, h2⟩
    exact ⟨h1, fun j a b c => by rw [← h (s - j) (by omega)]; exact h2 j a b c⟩
  · rintro ⟨h1, h2⟩
    exact ⟨h1, fun j a b c => by rw [h (s - j) (by omega)]; exact h2 j a b c⟩
theorem q9_en_c {p q : Nat → Bool} {B s : Nat} (h : ∀ i, i < 96 → p i = q i) (hs : s < 96) : q9_en p B s ↔ q9_en q B s := by
  unfold q9_en
  rw [h s hs]
  constructor
  · rintro ⟨h1, h2⟩
    exact ⟨h1, fun j a b c => by rw [← h (s + j) c]; exact h2 j a b c⟩
  · rintro ⟨h1, h2⟩
    exact ⟨h1, fun j a b c => by rw [h (s + j) c]; exact h2 j a b c⟩
theorem q9_pl_c {S E S2 E2 : Nat → Prop} {s : Nat} (h : ∀ i, i < 96 → (S i ↔ S2 i) ∧ (E i ↔ E2 i)) (hs : s < 96) : q9_pl S E s ↔ q9_pl S2 E2 s := by
  unfold q9_pl
  constructor
  · rintro ⟨a, h1, h2, h3⟩
    exact ⟨a, h1, (h a (by omega)).1.mp h2, fun j x y z => h3 j x y ((h j (by omega)).2.mpr z)⟩
  · rintro ⟨a, h1, h2, h3⟩
    exact ⟨a, h1, (h a (by omega)).1.mpr h2, fun j x y z => h3 j x y ((h j (by omega)).2.mp z)⟩
theorem q9_y1 (M : k9_Mem) : ∀ i, i ≤ 96 → ∀ s, s < i → m9_y1 M i 80 s = m9_zr (M 77) s 21 ∧ m9_y1 M i 81 s = 0 ∧ m9_y1 M i 82 s = 0 ∧ m9_y1 M i 83 s = 0
  | 0, _ => fun s h => by omega
  | i + 1, hi => fun s hs => by
    have ih := q9_y1 M i (by omega)
    show m9_l0 (m9_y1 M i) i (m9_zr (M 77) i 21) 80 s = _ ∧ m9_l0 (m9_y1 M i) i (m9_zr (M 77) i 21) 81 s = 0 ∧ m9_l0 (m9_y1 M i) i (m9_zr (M 77) i 21) 82 s = 0 ∧ m9_l0 (m9_y1 M i) i (m9_zr (M 77) i 21) 83 s = 0
    unfold m9_l0
    have a80 : ∀ x y z w : Int32, k9_st (k9_st (k9_st (k9_st (m9_y1 M i) 80 i x) 81 i y) 82 i z) 83 i w 80 = upd (m9_y1 M i 80) i x := fun x y z w => by
      rw [m9_st_ne _ _ _ (by decide), m9_st_ne _ _ _ (by decide), m9_st_ne _ _ _ (by decide), m9_st_at]
    have a81 : ∀ x y z w : Int32, k9_st (k9_st (k9_st (k9_st (m9_y1 M i) 80 i x) 81 i y) 82 i z) 83 i w 81 = upd (m9_y1 M i 81) i y := fun x y z w => by
      rw [m9_st_ne _ _ _ (by decide), m9_st_ne _ _ _ (by decide), m9_st_at, m9_st_ne _ _ _ (by decide)]
    have a82 : ∀ x y z w : Int32, k9_st (k9_st (k9_st (k9_st (m9_y1 M i) 80 i x) 81 i y) 82 i z) 83 i w 82 = upd (m9_y1 M i 82) i z := fun x y z w => by
      rw [m9_st_ne _ _ _ (by decide), m9_st_at, m9_st_ne _ _ _ (by decide), m9_st_ne _ _ _ (by decide)]
    have a83 : ∀ x y z w : Int32, k9_st (k9_st (k9_st (k9_st (m9_y1 M i) 80 i x) 81 i y) 82 i z) 83 i w 83 = upd (m9_y1 M i 83) i w := fun x y z w => by
      rw [m9_st_at, m9_st_ne _ _ _ (by decide), m9_st_ne _ _ _ (by decide), m9_st_ne _ _ _ (by decide)]
    rw [a80, a81, a82, a83]
    by_cases c : s = i
    · subst c
      rw [m9_upd_at, m9_upd_at, m9_upd_at, m9_upd_at]
      exact ⟨rfl, rfl, rfl, rfl⟩
    · rw [m9_upd_ne _ _ c, m9_upd_ne _ _ c, m9_upd_ne _ _ c, m9_upd_ne _ _ c]
      exact ih s (by omega)
/-- what is read for a note, step by step -/
def q9_zp (Z : Nat → Int32) (k : Nat) : Nat → Bool := fun i => m9_b (m9_zr Z i 21) k
theorem q9_y2 (M : k9_Mem) (B : Nat) : ∀ n, n ≤ 21 → ∀ s k, s < 96 → k < 32 →
    (m9_b (m9_y2 M B n 81 s) k = true ↔ k < n ∧ q9_st (q9_zp (M 77) k) B s) ∧
    (m9_b (m9_y2 M B n 82 s) k = true ↔ k < n ∧ q9_en (q9_zp (M 77) k) B s) ∧
    (m9_b (m9_y2 M B n 83 s) k = true ↔ k < n ∧ q9_pl (q9_st (q9_zp (M 77) k) B) (q9_en (q9_zp (M 77) k) B) s)
  | 0, _ => fun s k hs hk => by
    obtain ⟨h0, h1, h2, h3⟩ := q9_y1 M 96 (Nat.le_refl _) s hs
    show (m9_b (m9_y1 M 96 81 s) k = true ↔ _) ∧ (m9_b (m9_y1 M 96 82 s) k = true ↔ _) ∧ (m9_b (m9_y1 M 96 83 s) k = true ↔ _)
    rw [h1, h2, h3, m9_b_0]
    refine ⟨?_, ?_, ?_⟩
    · constructor
      · intro h; cases h
      · rintro ⟨h, _⟩; omega
    · constructor
      · intro h; cases h
      · rintro ⟨h, _⟩; omega
    · constructor
      · intro h; cases h
      · rintro ⟨h, _⟩; omega
  | n + 1, hn => fun s k hs hk => by
    obtain ⟨i1, i2, i3⟩ := q9_y2 M B n (by omega) s k hs hk
    obtain ⟨l1, l2, l3⟩ := q9_lnF (m9_y2 M B n) B (show n < 32 by omega) s k hs hk
    have hp : ∀ i, i < 96 → (fun i => m9_b (m9_y2 M B n 80 i) n) i = q9_zp (M 77) n i := fun i hi => by
      show m9_b (m9_y2 M B n 80 i) n = m9_b (m9_zr (M 77) i 21) n
      rw [m9_y2_ne M B (by decide) (by decide) (by decide), (q9_y1 M 96 (Nat.le_refl _) i hi).1]
    rw [q9_st_c hp hs] at l1
    rw [q9_en_c hp hs] at l2
    rw [q9_pl_c (fun i hi => ⟨q9_st_c hp hi, q9_en_c hp hi⟩) hs] at l3
    rw [i1] at l1
    rw [i2] at l2
    rw [i3] at l3
    show (m9_b (m9_lnF (m9_y2 M B n) n B 81 s) k = true ↔ _) ∧ (m9_b (m9_lnF (m9_y2 M B n) n B 82 s) k = true ↔ _) ∧ (m9_b (m9_lnF (m9_y2 M B n) n B 83 s) k = true ↔ _)
    rw [l1, l2, l3]
    have fin : ∀ Q : Nat → Prop, ((k < n ∧ Q k) ∨ (k = n ∧ s < 96 ∧ Q n)) ↔ (k < n + 1 ∧ Q k) := fun Q => by
      constructor
      · rintro (⟨a, b⟩ | ⟨a, _, b⟩)
        · exact ⟨by omega, b⟩
        · subst a; exact ⟨by omega, b⟩
      · rintro ⟨a, b⟩
        by_cases c : k = n
        · subst c; exact Or.inr ⟨rfl, hs, b⟩
        · exact Or.inl ⟨by omega, b⟩
    exact ⟨fin (fun k => q9_st (q9_zp (M 77) k) B s), fin (fun k => q9_en (q9_zp (M 77) k) B s), fin (fun k => q9_pl (q9_st (q9_zp (M 77) k) B) (q9_en (q9_zp (M 77) k) B) s)⟩
/-- aside, as a whole number -/
abbrev q9_side (x : Int32) : Prop := -3 ≤ x.toInt ∧ x.toInt ≤ 3
theorem q9_zb (Z : Nat → Int32) (i : Nat) {n k : Nat} (hn : n < 32) (hk : k < 32) : m9_b (m9_zb Z i n) k = true ↔ k = n ∧ m9_wn (m9_zt Z i n) 0 25 ∧ m9_b (m9_zo Z i) (m9_zt Z i n).toNatClampNeg = true := by
  unfold m9_zb
  by_cases c : m9_wn (m9_zt Z i n) 0 25
  · rw [if_pos c]
    obtain ⟨t, ht, e⟩ := nI_of c.1
    have ht : t < 2147483648 := ht
    have t25 : t ≤ 25 := by
      have h2 := c.2
      rw [e] at h2
      have := m9_lt (a := 25) (b := t) (by decide) ht
      rcases Nat.lt_or_ge 25 t with q | q
      · exact absurd (this.mpr q) h2
      · exact q
    rw [e, m9_cl ht, q9_shl _ hn hk, q9_bit _ (show t < 32 by omega)]
    rw [e] at c
    cases hb : m9_b (m9_zo Z i) t
    · simp [m9_b_0]
    · simp only [if_true, Bool.and_eq_true, decide_eq_true_iff]
      rw [q9_1b (by omega), decide_eq_true_iff]
      constructor
      · rintro ⟨a, b⟩; exact ⟨by omega, c, trivial⟩
      · rintro ⟨a, b⟩; omega
  · rw [if_neg c, m9_b_0]
    constructor
    · intro h; cases h
    · rintro ⟨_, h, _⟩; exact absurd h c
theorem q9_zr (Z : Nat → Int32) (i : Nat) {k : Nat} (hk : k < 32) : ∀ n, n ≤ 21 → (m9_b (m9_zr Z i n) k = true ↔ k < n ∧ m9_wn (m9_zt Z i k) 0 25 ∧ m9_b (m9_zo Z i) (m9_zt Z i k).toNatClampNeg = true)
  | 0, _ => by
    rw [show m9_zr Z i 0 = 0 from rfl, m9_b_0]
    constructor
    · intro h; cases h
    · rintro ⟨h, _⟩; omega
  | n + 1, hn => by
    show m9_b (m9_zr Z i n ||| m9_zb Z i n) k = true ↔ _
    rw [m9_b_or, Bool.or_eq_true, q9_zr Z i hk n (by omega), q9_zb Z i (show n < 32 by omega) hk]
    constructor
    · rintro (⟨a, b⟩ | ⟨a, b⟩)
      · exact ⟨by omega, b⟩
      · subst a; exact ⟨by omega, b⟩
    · rintro ⟨a, b⟩
      by_cases c : k = n
      · subst c; exact Or.inr ⟨rfl, b⟩
      · exact Or.inl ⟨by omega, b⟩
/-- the voice of a note: 20 is the pedal -/
def q9_cv (k : Nat) : Nat := if k = 20 then 0 else k + 1
theorem q9_mv (x y : Int32) {i : Nat} (hi : i < 26) (hx : ∀ j, 26 ≤ j → m9_b x j = false) (h1 : -26 < y.toInt) (h2 : y.toInt ≤ 6) : m9_b (m9_mv x y) i = true ↔ ∃ j : Nat, j < 26 ∧ (i : Int) = (j : Int) + y.toInt ∧ m9_b x j = true := by
  unfold m9_mv
  by_cases c : y < 0
  · have c' : y.toInt < 0 := by rw [fa_lt] at c; exact c
    have hn : (-y).toInt = -y.toInt := fb_negI (by omega)
    obtain ⟨d, hd⟩ : ∃ d : Nat, (d : Int) = -y.toInt := ⟨(-y.toInt).toNat, by omega⟩
    have hyd : -y = nI d := by rw [fa_eq, hn, nI_toInt (by omega), hd]
    rw [if_pos c, hyd, q9_shr _ (by omega) (by omega)]
    constructor
    · intro h
      by_cases q : d + i < 32
      · rw [if_pos q] at h
        rcases Nat.lt_or_ge (d + i) 26 with z | z
        · exact ⟨d + i, z, by omega, h⟩
        · rw [hx _ z] at h; cases h
      · rw [if_neg q, hx 31 (by decide)] at h; cases h
    · rintro ⟨j, j1, j2, j3⟩
      have : d + i = j := by omega
      rw [if_pos (by omega), this]; exact j3
  · have c' : ¬ y.toInt < 0 := by rw [fa_lt] at c; exact c
    obtain ⟨d, hd⟩ : ∃ d : Nat, (d : Int) = y.toInt := ⟨y.toInt.toNat, by omega⟩
    have hyd : y = nI d := by rw [fa_eq, nI_toInt (by omega), hd]
    have hy2 : y.toInt = (d : Int) := hd.symm
    rw [if_neg c, hyd, q9_shl _ (by omega) (by omega), nI_toInt (by omega)]
    rw [Bool.and_eq_true, decide_eq_true_iff]
    constructor
    · rintro ⟨a, b⟩
      rcases Nat.lt_or_ge (i - d) 26 with z | z
      · exact ⟨i - d, z, by omega, b⟩
      · rw [hx _ z] at b; cases b
    · rintro ⟨j, j1, j2, j3⟩
      have : i - d = j := by omega
      rw [this]; exact ⟨by omega, j3⟩
