/-! Plain mathematics: chains of one note, as the reference lays them. -/
theorem q9_lc81 (N : k9_Mem) {n f g s k : Nat} (hn : n < 32) (hk : k < 32) : m9_b (m9_lc N n f g 81 s) k = true ↔ m9_b (N 81 s) k = true ∨ (k = n ∧ s = f) := by
  have e : m9_lc N n f g 81 s = upd (N 81) f (N 81 f ||| m9_tk (nI n)) s := by
    rw [m9_lc, k9_sc_ne _ _ (by decide), m9_st_ne _ _ _ (by decide), m9_st_at]
  rw [e]
  by_cases c : s = f
  · subst c
    rw [m9_upd_at, m9_b_or, Bool.or_eq_true, q9_tkb hn hk, decide_eq_true_iff]
    simp
  · rw [m9_upd_ne _ _ c]
    simp [c]
theorem q9_lc82 (N : k9_Mem) {n f g s k : Nat} (hn : n < 32) (hk : k < 32) : m9_b (m9_lc N n f g 82 s) k = true ↔ m9_b (N 82 s) k = true ∨ (k = n ∧ s = g) := by
  have e : m9_lc N n f g 82 s = upd (N 82) g (N 82 g ||| m9_tk (nI n)) s := by
    rw [m9_lc, k9_sc_ne _ _ (by decide), m9_st_at, m9_st_ne _ _ _ (by decide)]
  rw [e]
  by_cases c : s = g
  · subst c
    rw [m9_upd_at, m9_b_or, Bool.or_eq_true, q9_tkb hn hk, decide_eq_true_iff]
    simp
  · rw [m9_upd_ne _ _ c]
    simp [c]
theorem q9_lc83 (N : k9_Mem) {n f g s k : Nat} (hn : n < 32) (hk : k < 32) : m9_b (m9_lc N n f g 83 s) k = true ↔ m9_b (N 83 s) k = true ∨ (k = n ∧ f ≤ s ∧ s ≤ g) := by
  have e : m9_lc N n f g 83 s = if f ≤ s ∧ s ≤ g then N 83 s ||| m9_tk (nI n) else N 83 s := by rw [m9_lc, k9_sc_eq]
  rw [e]
  by_cases c : f ≤ s ∧ s ≤ g
  · rw [if_pos c, m9_b_or, Bool.or_eq_true, q9_tkb hn hk, decide_eq_true_iff]
    simp [c]
  · rw [if_neg c]
    simp [c]
/-- what is laid of a note below a step -/
def q9_I (M N : k9_Mem) (n B F : Nat) : Prop := ∀ s k, s < 96 → k < 32 →
  (m9_b (N 81 s) k = true ↔ m9_b (M 81 s) k = true ∨ (k = n ∧ s < F ∧ q9_st (fun i => m9_b (M 80 i) n) B s)) ∧
  (m9_b (N 82 s) k = true ↔ m9_b (M 82 s) k = true ∨ (k = n ∧ s < F ∧ q9_en (fun i => m9_b (M 80 i) n) B s)) ∧
  (m9_b (N 83 s) k = true ↔ m9_b (M 83 s) k = true ∨ (k = n ∧ s < F ∧ q9_pl (q9_st (fun i => m9_b (M 80 i) n) B) (q9_en (fun i => m9_b (M 80 i) n) B) s))
/-- where the walk over a note stands -/
def q9_J (p : Nat → Bool) (B f g i : Nat) : Prop := f ≤ g ∧ g < i ∧ p g = true ∧ (∀ s, g < s → s < i → p s = false) ∧ q9_st p B f ∧ (∀ s, f < s → s ≤ g → ¬ q9_st p B s) ∧ (∀ s, f ≤ s → s < g → ¬ q9_en p B s)
theorem q9_close {M N : k9_Mem} {n B f g i : Nat} (hn : n < 32) (hJ : q9_J (fun i => m9_b (M 80 i) n) B f g i) (he : q9_en (fun i => m9_b (M 80 i) n) B g) (hi : i ≤ 96) (h : q9_I M N n B f) : q9_I M (m9_lc N n f g) n B i := by
  obtain ⟨j1, j2, j3, j4, j5, j6, j7⟩ := hJ
  obtain ⟨p, hp⟩ : ∃ p : Nat → Bool, p = fun i => m9_b (M 80 i) n := ⟨_, rfl⟩
  unfold q9_I at h ⊢
  rw [← hp] at h j3 j4 j5 j6 j7 he ⊢
  have sp : ∀ s, q9_st p B s → p s = true := fun s z => z.1
  have ep : ∀ s, q9_en p B s → p s = true := fun s z => z.1
  have gap : ∀ s, g < s → s < i → ¬ p s = true := fun s z1 z2 => q9_tn (j4 s z1 z2)
  intro s k hs hk
  obtain ⟨h1, h2, h3⟩ := h s k hs hk
  have aS : s < i → f ≤ s → (q9_st p B s ↔ s = f) := fun z1 z2 => by
    constructor
    · intro z
      by_cases c : s = f
      · exact c
      · by_cases c2 : s ≤ g
        · exact absurd z (j6 s (by omega) c2)
        · exact absurd (sp s z) (gap s (by omega) z1)
    · intro z
      subst z; exact j5
  have aE : s < i → f ≤ s → (q9_en p B s ↔ s = g) := fun z1 z2 => by
    constructor
    · intro z
      by_cases c : s < g
      · exact absurd z (j7 s z2 c)
      · by_cases c2 : s = g
        · exact c2
        · exact absurd (ep s z) (gap s (by omega) z1)
    · intro z
      subst z; exact he
  have aP : s < i → f ≤ s → (q9_pl (q9_st p B) (q9_en p B) s ↔ s ≤ g) := fun z1 z2 => by
    constructor
    · rintro ⟨a, a1, a2, a3⟩
      by_cases c : s ≤ g
      · exact c
      · exfalso
        by_cases c2 : a ≤ g
        · exact a3 g c2 (by omega) he
        · exact gap a (by omega) (by omega) (sp a a2)
    · intro z
      exact ⟨f, z2, j5, fun j y1 y2 => j7 j y1 (by omega)⟩
  refine ⟨?_, ?_, ?_⟩
  · rw [q9_lc81 N hn hk, h1]
    constructor
    · rintro ((z | ⟨z1, z2, z3⟩) | ⟨z1, z2⟩)
      · exact Or.inl z
      · exact Or.inr ⟨z1, by omega, z3⟩
      · exact Or.inr ⟨z1, by omega, (aS (by omega) (by omega)).mpr z2⟩
    · rintro (z | ⟨z1, z2, z3⟩)
      · exact Or.inl (Or.inl z)
      · by_cases c : s < f
        · exact Or.inl (Or.inr ⟨z1, c, z3⟩)
        · exact Or.inr ⟨z1, (aS z2 (by omega)).mp z3⟩
  · rw [q9_lc82 N hn hk, h2]
    constructor
    · rintro ((z | ⟨z1, z2, z3⟩) | ⟨z1, z2⟩)
      · exact Or.inl z
      · exact Or.inr ⟨z1, by omega, z3⟩
      · exact Or.inr ⟨z1, by omega, (aE (by omega) (by omega)).mpr z2⟩
    · rintro (z | ⟨z1, z2, z3⟩)
      · exact Or.inl (Or.inl z)
      · by_cases c : s < f
        · exact Or.inl (Or.inr ⟨z1, c, z3⟩)
        · exact Or.inr ⟨z1, (aE z2 (by omega)).mp z3⟩
  · rw [q9_lc83 N hn hk, h3]
    constructor
    · rintro ((z | ⟨z1, z2, z3⟩) | ⟨z1, z2, z3⟩)
      · exact Or.inl z
      · exact Or.inr ⟨z1, by omega, z3⟩
      · exact Or.inr ⟨z1, by omega, (aP (by omega) z2).mpr z3⟩
    · rintro (z | ⟨z1, z2, z3⟩)
      · exact Or.inl (Or.inl z)
      · by_cases c : s < f
        · exact Or.inl (Or.inr ⟨z1, c, z3⟩)
        · exact Or.inr ⟨z1, by omega, (aP z2 (by omega)).mp z3⟩
theorem q9_empty {M N : k9_Mem} {n B i : Nat} (hp : ∀ s, s < i → m9_b (M 80 s) n = false) (h : q9_I M N n B 0) : q9_I M N n B i := by
  intro s k hs hk
  obtain ⟨h1, h2, h3⟩ := h s k hs hk
  have no : s < i → ∀ a, a ≤ s → ¬ q9_st (fun i => m9_b (M 80 i) n) B a := fun z a za q => q9_tn (hp a (by omega)) q.1
  refine ⟨?_, ?_, ?_⟩
  · rw [h1]
    constructor
    · rintro (z | ⟨z1, z2, z3⟩)
      · exact Or.inl z
      · omega
    · rintro (z | ⟨z1, z2, z3⟩)
      · exact Or.inl z
      · exact absurd z3 (no z2 s (Nat.le_refl _))
  · rw [h2]
    constructor
    · rintro (z | ⟨z1, z2, z3⟩)
      · exact Or.inl z
      · omega
    · rintro (z | ⟨z1, z2, z3⟩)
      · exact Or.inl z
      · exact absurd z3.1 (q9_tn (hp s z2))
  · rw [h3]
    constructor
    · rintro (z | ⟨z1, z2, z3⟩)
      · exact Or.inl z
      · omega
    · rintro (z | ⟨z1, z2, a, a1, a2, a3⟩)
      · exact Or.inl z
      · exact absurd a2 (no z2 a a1)
/-- the walk over a note keeps what it must -/
theorem q9_walk (M : k9_Mem) {n : Nat} (B : Nat) (hn : n < 32) : ∀ i, i ≤ 96 → (match (m9_ln M n B i).2 with
    | none => (∀ s, s < i → m9_b (M 80 s) n = false) ∧ q9_I M (m9_ln M n B i).1 n B 0
    | some (f, g) => q9_J (fun i => m9_b (M 80 i) n) B f g i ∧ q9_I M (m9_ln M n B i).1 n B f)
  | 0, _ => by
    show (∀ s, s < 0 → m9_b (M 80 s) n = false) ∧ q9_I M M n B 0
    refine ⟨fun s hs => by omega, fun s k hs hk => ⟨?_, ?_, ?_⟩⟩
    · constructor
      · exact Or.inl
      · rintro (z | ⟨z1, z2, z3⟩)
        · exact z
        · omega
    · constructor
      · exact Or.inl
      · rintro (z | ⟨z1, z2, z3⟩)
        · exact z
        · omega
    · constructor
      · exact Or.inl
      · rintro (z | ⟨z1, z2, z3⟩)
        · exact z
        · omega
  | i + 1, hi => by
    have ih := q9_walk M B hn i (by omega)
    have e : m9_ln M n B (i + 1) = if m9_one (M 80 i) n then (match (m9_ln M n B i).2 with
      | none => ((m9_ln M n B i).1, some (i, i))
      | some (f, g) => if i - g ≤ B + 1 then ((m9_ln M n B i).1, some (f, i)) else (m9_lc (m9_ln M n B i).1 n f g, some (i, i)))
      else m9_ln M n B i := rfl
    by_cases c : m9_one (M 80 i) n
    · have pi : m9_b (M 80 i) n = true := (q9_one _ hn).mp c
      rw [e, if_pos c]
      match hm : (m9_ln M n B i).2 with
      | none =>
        rw [hm] at ih
        obtain ⟨h1, h2⟩ := ih
        show q9_J (fun i => m9_b (M 80 i) n) B i i (i + 1) ∧ q9_I M (m9_ln M n B i).1 n B i
        refine ⟨⟨Nat.le_refl _, by omega, pi, fun s z1 z2 => by omega, ⟨pi, fun j y1 y2 y3 => h1 (i - j) (by omega)⟩, fun s z1 z2 => by omega, fun s z1 z2 => by omega⟩, q9_empty h1 h2⟩
      | some (f, g) =>
        rw [hm] at ih
        obtain ⟨hJ, h2⟩ := ih
        have hJ2 := hJ
        obtain ⟨j1, j2, j3, j4, j5, j6, j7⟩ := hJ
        by_cases c2 : i - g ≤ B + 1
        · have e2 : (if i - g ≤ B + 1 then ((m9_ln M n B i).1, some (f, i)) else (m9_lc (m9_ln M n B i).1 n f g, some (i, i))) = ((m9_ln M n B i).1, some (f, i)) := if_pos c2
          show match (if i - g ≤ B + 1 then ((m9_ln M n B i).1, some (f, i)) else (m9_lc (m9_ln M n B i).1 n f g, some (i, i))).2 with
            | none => (∀ s, s < i + 1 → m9_b (M 80 s) n = false) ∧ q9_I M (if i - g ≤ B + 1 then ((m9_ln M n B i).1, some (f, i)) else (m9_lc (m9_ln M n B i).1 n f g, some (i, i))).1 n B 0
            | some (f_1, g_1) => q9_J (fun i => m9_b (M 80 i) n) B f_1 g_1 (i + 1) ∧ q9_I M (if i - g ≤ B + 1 then ((m9_ln M n B i).1, some (f, i)) else (m9_lc (m9_ln M n B i).1 n f g, some (i, i))).1 n B f_1
          rw [e2]
          show q9_J (fun i => m9_b (M 80 i) n) B f i (i + 1) ∧ q9_I M (m9_ln M n B i).1 n B f
          refine ⟨⟨by omega, by omega, pi, fun s z1 z2 => by omega, j5, fun s z1 z2 q => ?_, fun s z1 z2 q => ?_⟩, h2⟩
          · by_cases d : s ≤ g
            · exact j6 s z1 d q
            · by_cases d2 : s = i
              · subst d2
                have := q.2 (s - g) (by omega) c2 (by omega)
                rw [show s - (s - g) = g from by omega] at this
                exact q9_tn this j3
              · exact q9_tn (j4 s (by omega) (by omega)) q.1
          · by_cases d : s < g
            · exact j7 s z1 d q
            · by_cases d2 : s = g
              · subst d2
                have := q.2 (i - s) (by omega) c2 (by omega)
                rw [show s + (i - s) = i from by omega] at this
                exact q9_tn this pi
              · exact q9_tn (j4 s (by omega) (by omega)) q.1
        · have e2 : (if i - g ≤ B + 1 then ((m9_ln M n B i).1, some (f, i)) else (m9_lc (m9_ln M n B i).1 n f g, some (i, i))) = (m9_lc (m9_ln M n B i).1 n f g, some (i, i)) := if_neg c2
          show match (if i - g ≤ B + 1 then ((m9_ln M n B i).1, some (f, i)) else (m9_lc (m9_ln M n B i).1 n f g, some (i, i))).2 with
            | none => (∀ s, s < i + 1 → m9_b (M 80 s) n = false) ∧ q9_I M (if i - g ≤ B + 1 then ((m9_ln M n B i).1, some (f, i)) else (m9_lc (m9_ln M n B i).1 n f g, some (i, i))).1 n B 0
            | some (f_1, g_1) => q9_J (fun i => m9_b (M 80 i) n) B f_1 g_1 (i + 1) ∧ q9_I M (if i - g ≤ B + 1 then ((m9_ln M n B i).1, some (f, i)) else (m9_lc (m9_ln M n B i).1 n f g, some (i, i))).1 n B f_1
          rw [e2]
          show q9_J (fun i => m9_b (M 80 i) n) B i i (i + 1) ∧ q9_I M (m9_lc (m9_ln M n B i).1 n f g) n B i
          refine ⟨⟨Nat.le_refl _, by omega, pi, fun s z1 z2 => by omega, ⟨pi, fun j y1 y2 y3 => j4 (i - j) (by omega) (by omega)⟩, fun s z1 z2 => by omega, fun s z1 z2 => by omega⟩, ?_⟩
          exact q9_close hn hJ2 ⟨j3, fun j y1 y2 y3 => j4 (g + j) (by omega) (by omega)⟩ (by omega) h2
    · have pi : m9_b (M 80 i) n = false := q9_nt (fun z => c ((q9_one _ hn).mpr z))
      rw [e, if_neg c]
      match hm : (m9_ln M n B i).2 with
      | none =>
        rw [hm] at ih
        obtain ⟨h1, h2⟩ := ih
        show (∀ s, s < i + 1 → m9_b (M 80 s) n = false) ∧ q9_I M (m9_ln M n B i).1 n B 0
        refine ⟨fun s hs => ?_, h2⟩
        by_cases d : s = i
        · subst d; exact pi
        · exact h1 s (by omega)
      | some (f, g) =>
        rw [hm] at ih
        obtain ⟨⟨j1, j2, j3, j4, j5, j6, j7⟩, h2⟩ := ih
        show q9_J (fun i => m9_b (M 80 i) n) B f g (i + 1) ∧ q9_I M (m9_ln M n B i).1 n B f
        refine ⟨⟨j1, by omega, j3, fun s z1 z2 => ?_, j5, j6, j7⟩, h2⟩
        by_cases d : s = i
        · subst d; exact pi
        · exact j4 s z1 (by omega)
theorem q9_lnF (M : k9_Mem) {n : Nat} (B : Nat) (hn : n < 32) : q9_I M (m9_lnF M n B) n B 96 := by
  have h := q9_walk M B hn 96 (Nat.le_refl _)
  unfold m9_lnF
  match hm : (m9_ln M n B 96).2 with
  | none =>
    rw [hm] at h
    exact q9_empty h.1 h.2
  | some (f, g) =>
    rw [hm] at h
    obtain ⟨hJ, h2⟩ := h
    exact q9_close hn hJ ⟨hJ.2.2.1, fun j y1 y2 y3 => hJ.2.2.2.1 (g + j) (by omega) y3⟩ (Nat.le_refl _) h2
