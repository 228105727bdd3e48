/-! Plain mathematics: chains of one voice, as the class finds them. -/
def q9_st (p : Nat → Bool) (B s : Nat) : Prop := p s = true ∧ ∀ j, 1 ≤ j → j ≤ B + 1 → j ≤ s → p (s - j) = false
def q9_en (p : Nat → Bool) (B s : Nat) : Prop := p s = true ∧ ∀ j, 1 ≤ j → j ≤ B + 1 → s + j < 96 → p (s + j) = false
theorem q9_nt {b : Bool} (h : ¬ b = true) : b = false := by cases b <;> simp_all
theorem q9_tn {b : Bool} (h : b = false) : ¬ b = true := by rw [h]; decide
theorem q9_orb (f : Nat → Int32) (s v : Nat) : ∀ n, m9_b (m9_orb f s n) v = true ↔ ∃ j, 1 ≤ j ∧ j ≤ n ∧ j ≤ s ∧ m9_b (f (s - j)) v = true
  | 0 => by
    constructor
    · intro h
      rw [show m9_orb f s 0 = 0 from rfl, m9_b_0] at h
      cases h
    · rintro ⟨j, h1, h2, _⟩
      omega
  | n + 1 => by
    show m9_b (m9_orb f s n ||| (if n + 1 ≤ s then f (s - (n + 1)) else 0)) v = true ↔ _
    rw [m9_b_or, Bool.or_eq_true, q9_orb f s v n]
    constructor
    · rintro (⟨j, h1, h2, h3, h4⟩ | h)
      · exact ⟨j, h1, by omega, h3, h4⟩
      · by_cases c : n + 1 ≤ s
        · rw [if_pos c] at h
          exact ⟨n + 1, by omega, by omega, c, h⟩
        · rw [if_neg c, m9_b_0] at h
          cases h
    · rintro ⟨j, h1, h2, h3, h4⟩
      by_cases c : j = n + 1
      · subst c
        right
        rw [if_pos h3]; exact h4
      · exact Or.inl ⟨j, h1, by omega, h3, h4⟩
theorem q9_ora (f : Nat → Int32) (s v : Nat) : ∀ n, m9_b (m9_ora f s n) v = true ↔ ∃ j, 1 ≤ j ∧ j ≤ n ∧ s + j < 96 ∧ m9_b (f (s + j)) v = true
  | 0 => by
    constructor
    · intro h
      rw [show m9_ora f s 0 = 0 from rfl, m9_b_0] at h
      cases h
    · rintro ⟨j, h1, h2, _⟩
      omega
  | n + 1 => by
    show m9_b (m9_ora f s n ||| (if s + (n + 1) < 96 then f (s + (n + 1)) else 0)) v = true ↔ _
    rw [m9_b_or, Bool.or_eq_true, q9_ora f s v n]
    constructor
    · rintro (⟨j, h1, h2, h3, h4⟩ | h)
      · exact ⟨j, h1, by omega, h3, h4⟩
      · by_cases c : s + (n + 1) < 96
        · rw [if_pos c] at h
          exact ⟨n + 1, by omega, by omega, c, h⟩
        · rw [if_neg c, m9_b_0] at h
          cases h
    · rintro ⟨j, h1, h2, h3, h4⟩
      by_cases c : j = n + 1
      · subst c
        right
        rw [if_pos h3]; exact h4
      · exact Or.inl ⟨j, h1, by omega, h3, h4⟩
theorem q9_lkS (f : Nat → Int32) (B s : Nat) {v : Nat} (hv : v < 32) : m9_b (m9_lkS f B s) v = true ↔ q9_st (fun i => m9_b (f i) v) B s := by
  unfold m9_lkS q9_st
  rw [m9_b_and, m9_b_not _ hv, Bool.and_eq_true]
  have h := q9_orb f s v (B + 1)
  constructor
  · rintro ⟨h1, h2⟩
    refine ⟨h1, fun j j1 j2 j3 => ?_⟩
    show m9_b (f (s - j)) v = false
    refine q9_nt (fun q => ?_)
    have := h.mpr ⟨j, j1, j2, j3, q⟩
    rw [this] at h2
    cases h2
  · rintro ⟨h1, h2⟩
    refine ⟨h1, ?_⟩
    have : m9_b (m9_orb f s (B + 1)) v = false := q9_nt (fun q => by
      obtain ⟨j, j1, j2, j3, j4⟩ := h.mp q
      exact q9_tn (h2 j j1 j2 j3) j4)
    rw [this]; rfl
theorem q9_lkE (f : Nat → Int32) (B s : Nat) {v : Nat} (hv : v < 32) : m9_b (m9_lkE f B s) v = true ↔ q9_en (fun i => m9_b (f i) v) B s := by
  unfold m9_lkE q9_en
  rw [m9_b_and, m9_b_not _ hv, Bool.and_eq_true]
  have h := q9_ora f s v (B + 1)
  constructor
  · rintro ⟨h1, h2⟩
    refine ⟨h1, fun j j1 j2 j3 => ?_⟩
    show m9_b (f (s + j)) v = false
    refine q9_nt (fun q => ?_)
    have := h.mpr ⟨j, j1, j2, j3, q⟩
    rw [this] at h2
    cases h2
  · rintro ⟨h1, h2⟩
    refine ⟨h1, ?_⟩
    have : m9_b (m9_ora f s (B + 1)) v = false := q9_nt (fun q => by
      obtain ⟨j, j1, j2, j3, j4⟩ := h.mp q
      exact q9_tn (h2 j j1 j2 j3) j4)
    rw [this]; rfl
/-- a chain goes on at a step -/
def q9_pl (S E : Nat → Prop) (s : Nat) : Prop := ∃ a, a ≤ s ∧ S a ∧ ∀ j, a ≤ j → j < s → ¬ E j
theorem q9_la (S E : Nat → Int32) {v : Nat} (hv : v < 32) : ∀ i, m9_b (m9_la S E i) v = true ↔ ∃ a, a < i ∧ m9_b (S a) v = true ∧ ∀ j, a ≤ j → j < i → ¬ m9_b (E j) v = true
  | 0 => by
    constructor
    · intro h
      rw [show m9_la S E 0 = 0 from rfl, m9_b_0] at h
      cases h
    · rintro ⟨a, h1, _⟩
      omega
  | i + 1 => by
    show m9_b ((m9_la S E i ||| S i) &&& (E i ^^^ (-1))) v = true ↔ _
    rw [m9_b_and, m9_b_or, m9_b_not _ hv, Bool.and_eq_true, Bool.or_eq_true, q9_la S E hv i]
    constructor
    · rintro ⟨h1, h2⟩
      have hE : ¬ m9_b (E i) v = true := fun z => by
        rw [z] at h2
        cases h2
      rcases h1 with ⟨a, a1, a2, a3⟩ | h1
      · refine ⟨a, by omega, a2, fun j j1 j2 => ?_⟩
        by_cases c : j = i
        · subst c; exact hE
        · exact a3 j j1 (by omega)
      · refine ⟨i, by omega, h1, fun j j1 j2 => ?_⟩
        have : j = i := by omega
        subst this; exact hE
    · rintro ⟨a, a1, a2, a3⟩
      refine ⟨?_, ?_⟩
      · by_cases c : a = i
        · subst c; exact Or.inr a2
        · exact Or.inl ⟨a, by omega, a2, fun j j1 j2 => a3 j j1 (by omega)⟩
      · rw [q9_nt (a3 i (by omega) (by omega))]; rfl
theorem q9_plb (S E : Nat → Int32) {v : Nat} (hv : v < 32) (i : Nat) : m9_b (m9_pl S E i) v = true ↔ q9_pl (fun s => m9_b (S s) v = true) (fun s => m9_b (E s) v = true) i := by
  unfold m9_pl q9_pl
  rw [m9_b_or, Bool.or_eq_true, q9_la S E hv i]
  constructor
  · rintro (⟨a, a1, a2, a3⟩ | h)
    · exact ⟨a, by omega, a2, a3⟩
    · exact ⟨i, Nat.le_refl _, h, fun j j1 j2 => by omega⟩
  · rintro ⟨a, a1, a2, a3⟩
    by_cases c : a = i
    · subst c; exact Or.inr a2
    · exact Or.inl ⟨a, by omega, a2, a3⟩
theorem q9_a10 (x : Int32) : x &&& 1 = 0 ↔ m9_b x 0 = false := by
  rw [q9_and1]
  cases m9_b x 0 <;> simp
theorem q9_he (P E : Nat → Int32) {v : Nat} : ∀ i, m9_b (m9_he P E i) v = true ↔ ∃ e, e < i ∧ m9_b (E e) v = true ∧ ∀ j, e ≤ j → j < i → m9_b (P j) 0 = true ∧ ¬ m9_b (E j) 0 = true
  | 0 => by
    constructor
    · intro h
      rw [show m9_he P E 0 = 0 from rfl, m9_b_0] at h
      cases h
    · rintro ⟨a, h1, _⟩
      omega
  | i + 1 => by
    show m9_b (if (P i &&& (E i ^^^ (-1))) &&& 1 = 0 then 0 else m9_he P E i ||| E i) v = true ↔ _
    have hc : (P i &&& (E i ^^^ (-1))) &&& 1 = 0 ↔ ¬ (m9_b (P i) 0 = true ∧ ¬ m9_b (E i) 0 = true) := by
      rw [q9_a10, m9_b_and, m9_b_not _ (by decide)]
      cases m9_b (P i) 0 <;> cases m9_b (E i) 0 <;> simp
    by_cases c : m9_b (P i) 0 = true ∧ ¬ m9_b (E i) 0 = true
    · rw [if_neg (fun z => hc.mp z c), m9_b_or, Bool.or_eq_true, q9_he P E i]
      constructor
      · rintro (⟨a, a1, a2, a3⟩ | h)
        · refine ⟨a, by omega, a2, fun j j1 j2 => ?_⟩
          by_cases d : j = i
          · subst d; exact c
          · exact a3 j j1 (by omega)
        · refine ⟨i, by omega, h, fun j j1 j2 => ?_⟩
          have : j = i := by omega
          subst this; exact c
      · rintro ⟨a, a1, a2, a3⟩
        by_cases d : a = i
        · subst d; exact Or.inr a2
        · exact Or.inl ⟨a, by omega, a2, fun j j1 j2 => a3 j j1 (by omega)⟩
    · rw [if_pos (hc.mpr c), m9_b_0]
      constructor
      · intro h; cases h
      · rintro ⟨a, a1, a2, a3⟩
        exact absurd (a3 i (by omega) (by omega)) c
theorem q9_tg (S E S' E' : Nat → Int32) {v : Nat} (hv : v < 32) : ∀ i, m9_b (m9_tg S E S' E' i) v = true ↔ (1 ≤ v ∧ v ≤ 20) ∧ ∃ a, a < i ∧ (m9_b (S a) v = true ∧ m9_b (S' a) v = true) ∧ ∀ j, a ≤ j → j < i → ¬ m9_b (E j) v = true ∧ ¬ m9_b (E' j) v = true
  | 0 => by
    constructor
    · intro h
      rw [show m9_tg S E S' E' 0 = 0 from rfl, m9_b_0] at h
      cases h
    · rintro ⟨_, a, h1, _⟩
      omega
  | i + 1 => by
    show m9_b ((m9_tg S E S' E' i ||| ((S i &&& S' i) &&& 2097150)) &&& ((E i ||| E' i) ^^^ (-1))) v = true ↔ _
    rw [m9_b_and, m9_b_or, m9_b_and, m9_b_and, q9_mask hv, m9_b_not _ hv, m9_b_or, Bool.and_eq_true, Bool.or_eq_true, q9_tg S E S' E' hv i, Bool.and_eq_true, Bool.and_eq_true, decide_eq_true_iff]
    constructor
    · rintro ⟨h1, h2⟩
      have hE : ¬ m9_b (E i) v = true ∧ ¬ m9_b (E' i) v = true := by
        revert h2
        cases m9_b (E i) v <;> cases m9_b (E' i) v <;> simp
      rcases h1 with ⟨hm, a, a1, a2, a3⟩ | ⟨h1, hm⟩
      · refine ⟨hm, a, by omega, a2, fun j j1 j2 => ?_⟩
        by_cases c : j = i
        · subst c; exact hE
        · exact a3 j j1 (by omega)
      · refine ⟨hm, i, by omega, h1, fun j j1 j2 => ?_⟩
        have : j = i := by omega
        subst this; exact hE
    · rintro ⟨hm, a, a1, a2, a3⟩
      refine ⟨?_, ?_⟩
      · by_cases c : a = i
        · subst c; exact Or.inr ⟨a2, hm⟩
        · exact Or.inl ⟨hm, a, by omega, a2, fun j j1 j2 => a3 j j1 (by omega)⟩
      · have h9 := a3 i (by omega) (by omega)
        rw [q9_nt h9.1, q9_nt h9.2]; rfl
