/-! Plain mathematics: class and reference read alike. -/
theorem q9_own {k : Nat} (hk : k ≤ 20) : (if k = 20 then (2 : Int32) else nI k + 3) = nI (q9_cv k + 2) := by
  unfold q9_cv
  by_cases c : k = 20
  · rw [if_pos c, if_pos c]; rfl
  · rw [if_neg c, if_neg c, show (3 : Int32) = nI 3 from rfl, nI_add]
theorem q9_cv_lt {k : Nat} (hk : k ≤ 20) : q9_cv k < 21 := by
  unfold q9_cv
  split <;> omega
theorem q9_sub2 {y : Int32} (h1 : -6 ≤ y.toInt) (h2 : y.toInt ≤ 6) : (-2 - y).toInt = -2 - y.toInt := by
  have h : (-2 : Int32).toInt = -2 := rfl
  rw [fb_subI (by rw [h]; omega) (by rw [h]; omega), h]
theorem q9_read {op e x : Int32} {Z : Nat → Int32} {i k : Nat} (hk : k ≤ 20) (ho : m9_zo Z i = op) (hs : m9_zs Z i = e + x) (he : q9_side e) (hx : q9_side x) (hb : ∀ j, 26 ≤ j → m9_b op j = false) : m9_b (m9_vf op (e + x)) (q9_cv k) = m9_b (m9_zr Z i 21) k := by
  have hcv := q9_cv_lt hk
  have hy : (e + x).toInt = e.toInt + x.toInt := fb_addI (by have := he.1; have := hx.1; omega) (by have := he.2; have := hx.2; omega)
  have y1 : -6 ≤ (e + x).toInt := by rw [hy]; have := he.1; have := hx.1; omega
  have y2 : (e + x).toInt ≤ 6 := by rw [hy]; have := he.2; have := hx.2; omega
  have hz : (-2 - (e + x)).toInt = -2 - (e + x).toInt := q9_sub2 y1 y2
  have hn : (nI (q9_cv k + 2)).toInt = (q9_cv k : Int) + 2 := by rw [nI_toInt (by omega)]; omega
  have ht : (m9_zt Z i k).toInt = (q9_cv k : Int) + 2 + (e + x).toInt := by
    unfold m9_zt
    rw [q9_own hk, hs, fb_addI (by rw [hn]; omega) (by rw [hn]; omega), hn]
  rw [Bool.eq_iff_iff, q9_zr Z i (show k < 32 by omega) 21 (Nat.le_refl _), ho]
  unfold m9_vf
  rw [m9_b_and, Bool.and_eq_true, q9_maskV (by omega), decide_eq_true_iff, q9_mv op _ (show q9_cv k < 26 by omega) hb (by rw [hz]; omega) (by rw [hz]; omega), hz]
  constructor
  · rintro ⟨⟨j, j1, j2, j3⟩, _⟩
    have e1 : m9_zt Z i k = nI j := by rw [fa_eq, ht, nI_toInt (by omega)]; omega
    rw [e1, m9_cl (by omega)]
    refine ⟨by omega, ⟨nI_pos (by omega), fun z => ?_⟩, j3⟩
    have := (m9_lt (a := 25) (b := j) (by decide) (by omega)).mp z
    omega
  · rintro ⟨_, ⟨w1, w2⟩, h3⟩
    obtain ⟨t, t1, e1⟩ := nI_of w1
    have t1 : t < 2147483648 := t1
    rw [e1, m9_cl t1] at h3
    rw [e1] at w2
    have t25 : t < 26 := by
      rcases Nat.lt_or_ge t 26 with q | q
      · exact q
      · exact absurd ((m9_lt (a := 25) (b := t) (by decide) t1).mpr (by omega)) w2
    rw [e1, nI_toInt t1] at ht
    exact ⟨⟨t, t25, by omega, h3⟩, hcv⟩
theorem q9_vf_out (op y : Int32) {v : Nat} (hv : 21 ≤ v) : m9_b (m9_vf op y) v = false := by
  by_cases c : v < 32
  · unfold m9_vf
    rw [m9_b_and, q9_maskV c]
    have : ¬ v < 21 := by omega
    simp [this]
  · exact m9_b_big (by omega)
/-- a chain that begins ends; between two that begin one ends -/
theorem q9_some_end {p : Nat → Bool} (B : Nat) : ∀ d s, s + d = 95 → p s = true → ∃ e, s ≤ e ∧ e < 96 ∧ q9_en p B e := by
  intro d
  induction d using Nat.strongRecOn with
  | _ d ih =>
    intro s hs hp
    by_cases c : q9_en p B s
    · exact ⟨s, Nat.le_refl _, by omega, c⟩
    · have : ∃ j, 1 ≤ j ∧ j ≤ B + 1 ∧ s + j < 96 ∧ p (s + j) = true := by
        apply Classical.byContradiction
        intro hn
        refine c ⟨hp, fun j a b c => ?_⟩
        refine q9_nt (fun q => hn ⟨j, a, b, c, q⟩)
      obtain ⟨j, j1, j2, j3, j4⟩ := this
      obtain ⟨e, e1, e2, e3⟩ := ih (d - j) (by omega) (s + j) (by omega) j4
      exact ⟨e, by omega, e2, e3⟩
theorem q9_W1 {p : Nat → Bool} {B s : Nat} (hs : s < 96) (h : q9_st p B s) : ∃ e, s ≤ e ∧ e < 96 ∧ q9_en p B e := q9_some_end B (95 - s) s (by omega) h.1
theorem q9_W2 {p : Nat → Bool} {B a b : Nat} (hab : a < b) (hb : b < 96) (h1 : q9_st p B a) (h2 : q9_st p B b) : ∃ e, a ≤ e ∧ e < b ∧ q9_en p B e := by
  obtain ⟨e, e1, e2, e3⟩ := fb_last (p := fun i => p i = true) (n := b) ⟨a, hab, h1.1⟩
  have hae : a ≤ e := by
    rcases Nat.lt_or_ge e a with q | q
    · exact absurd h1.1 (e3 a q hab)
    · exact q
  refine ⟨e, hae, e1, e2, fun j j1 j2 j3 => ?_⟩
  have hg : B + 1 < b - e := by
    rcases Nat.lt_or_ge (B + 1) (b - e) with q | q
    · exact q
    · have := h2.2 (b - e) (by omega) q (by omega)
      rw [show b - (b - e) = e from by omega] at this
      exact absurd e2 (q9_tn this)
  exact q9_nt (e3 (e + j) (by omega) (by omega))
/-- two starts never stand side by side -/
theorem q9_W3 {p : Nat → Bool} {B s : Nat} (h1 : p s = true) (h2 : q9_st p B (s + 1)) : False := by
  have := h2.2 1 (Nat.le_refl _) (by omega) (by omega)
  rw [show s + 1 - 1 = s from by omega] at this
  exact q9_tn this h1
theorem q9_half {p : Nat → Bool} (h : ∀ s, p s = true → p (s + 1) = false) : ∀ m, fb_ct p (2 * m) ≤ m
  | 0 => Nat.le_refl _
  | m + 1 => by
    have ih := q9_half h m
    rw [show 2 * (m + 1) = 2 * m + 1 + 1 from by omega, fb_ct_succ, fb_ct_succ]
    cases c : p (2 * m)
    · cases p (2 * m + 1) <;> simp <;> omega
    · rw [h _ c]; simp; omega
/-- counts of what is matched -/
theorem q9_inj {Q : Nat → Bool} {e : Nat → Nat} {M : Nat} : ∀ (N : Nat) (P : Nat → Bool), (∀ a, a < N → Q a = true → e a < M ∧ P (e a) = true) → (∀ a b, a < N → b < N → Q a = true → Q b = true → e a = e b → a = b) → fb_ct Q N ≤ fb_ct P M
  | 0, P, _, _ => Nat.zero_le _
  | N + 1, P, h1, h2 => by
    by_cases c : Q N = true
    · obtain ⟨g1, g2⟩ := h1 N (by omega) c
      have hu := fb_ct_upd P false g1
      rw [g2, if_pos rfl, if_neg (by decide)] at hu
      have ih := q9_inj N (fun k => if k = e N then false else P k) (fun a ha qa => by
        obtain ⟨y1, y2⟩ := h1 a (by omega) qa
        refine ⟨y1, ?_⟩
        have hne : ¬ e a = e N := fun z => by
          have := h2 a N (by omega) (by omega) qa c z
          omega
        show (if e a = e N then false else P (e a)) = true
        rw [if_neg hne]; exact y2) (fun a b ha hb => h2 a b (by omega) (by omega))
      rw [fb_ct_succ, if_pos c]
      omega
    · rw [fb_ct_succ, if_neg c]
      exact q9_inj N P (fun a ha => h1 a (by omega)) (fun a b ha hb => h2 a b (by omega) (by omega))
theorem q9_bij {P Q : Nat → Bool} {e : Nat → Nat} {N M : Nat} (h1 : ∀ a, a < N → Q a = true → e a < M ∧ P (e a) = true) (h2 : ∀ a b, a < N → b < N → Q a = true → Q b = true → e a = e b → a = b) (h3 : ∀ s, s < M → P s = true → ∃ a, a < N ∧ Q a = true ∧ e a = s) : fb_ct P M = fb_ct Q N := by
  refine Nat.le_antisymm ?_ (q9_inj N P h1 h2)
  have ex : ∀ s, ∃ a, s < M → P s = true → a < N ∧ Q a = true ∧ e a = s := fun s => by
    by_cases c : s < M ∧ P s = true
    · obtain ⟨a, ha⟩ := h3 s c.1 c.2
      exact ⟨a, fun _ _ => ha⟩
    · exact ⟨0, fun x y => absurd ⟨x, y⟩ c⟩
  refine q9_inj (e := fun s => Classical.choose (ex s)) M Q (fun s hs ps => ?_) (fun s t hs ht ps pt z => ?_)
  · have h := Classical.choose_spec (ex s) hs ps
    exact ⟨h.1, h.2.1⟩
  · have a1 := Classical.choose_spec (ex s) hs ps
    have a2 := Classical.choose_spec (ex t) ht pt
    rw [← a1.2.2, ← a2.2.2]
    exact congrArg e z
theorem q9_swap (p : Nat → Nat → Bool) (B : Nat) : ∀ A, fb_sm (fun s => fb_ct (fun n => p s n) B) A = fb_sm (fun n => fb_ct (fun s => p s n) A) B
  | 0 => by
    have : ∀ n, fb_sm (fun n => fb_ct (fun s => p s n) 0) n = 0 := fun n => by
      induction n with
      | zero => rfl
      | succ n ih => rw [fb_sm_succ, ih]; rfl
    rw [this B]; rfl
  | A + 1 => by
    rw [fb_sm_succ, q9_swap p B A, ← q9_sm1 (fun n => p A n) B, ← fb_sm_add]
    rfl
theorem q9_blocks (g : Nat → Nat) (m : Nat) : ∀ A, fb_sm g (m * A) = fb_sm (fun s => fb_sm (fun n => g (m * s + n)) m) A
  | 0 => rfl
  | A + 1 => by
    rw [fb_sm_succ, ← q9_blocks g m A, Nat.mul_succ, fb_sm_split g (m * A) m]
theorem q9_ct20 {p : Nat → Bool} (h0 : p 0 = false) (h : ∀ i, 21 ≤ i → p i = false) : fb_ct p 32 = fb_ct (fun n => p (n + 1)) 20 := by
  rw [show (32 : Nat) = 21 + 11 from rfl, q9_ct_cut (a := 21) h 11, show (21 : Nat) = 1 + 20 from rfl, fb_ct_split p 1 20]
  have e1 : fb_ct p 1 = 0 := by
    show 0 + (if p 0 then 1 else 0) = 0
    rw [h0]; rfl
  rw [e1, Nat.zero_add]
  apply fb_ct_cong
  intro k _
  rw [Nat.add_comm 1 k]
theorem q9_places {p : Nat → Bool} {f : Nat → Int32} {h : Nat → Nat} : ∀ N, (∀ k, k < N → p k = true → f (fb_ct p k) = nI (h k)) → m9_sum f (fb_ct p N) = nI (fb_sm (fun k => if p k then h k else 0) N)
  | 0, _ => rfl
  | N + 1, hh => by
    have ih := q9_places N (fun k hk => hh k (by omega))
    rw [fb_ct_succ, fb_sm_succ]
    by_cases c : p N = true
    · rw [if_pos c, if_pos c, m9_sum_s, ih, hh N (by omega) c, nI_add]
    · rw [if_neg c, if_neg c, Nat.add_zero, Nat.add_zero, ih]
