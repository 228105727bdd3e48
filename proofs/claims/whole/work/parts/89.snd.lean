/-! Plain mathematics: what sounds. -/
theorem q9_W4 {p : Nat → Bool} {B e e' : Nat} (h : e < e') (hb : e' < 96) (h1 : q9_en p B e) (h2 : q9_en p B e') : ∃ a, e < a ∧ a ≤ e' ∧ q9_st p B a := by
  obtain ⟨a, a1, ⟨a2, a3⟩, a4⟩ := fb_first (p := fun i => e < i ∧ p i = true) (n := e' + 1) ⟨e', by omega, h, h2.1⟩
  refine ⟨a, a2, by omega, a3, fun j j1 j2 j3 => ?_⟩
  have hg : B + 1 < a - e := by
    rcases Nat.lt_or_ge (B + 1) (a - e) with q | q
    · exact q
    · have := h1.2 (a - e) (by omega) q (by omega)
      rw [show e + (a - e) = a from by omega] at this
      exact absurd a3 (q9_tn this)
  exact q9_nt (fun z => a4 (a - j) (by omega) ⟨by omega, z⟩)
theorem q9_W5 {p : Nat → Bool} (B : Nat) : ∀ s, s < 96 → p s = true → ∃ a, a ≤ s ∧ q9_st p B a ∧ ∀ j, a ≤ j → j < s → ¬ q9_en p B j := by
  intro s
  induction s using Nat.strongRecOn with
  | _ s ih =>
    intro hs hp
    by_cases c : q9_st p B s
    · exact ⟨s, Nat.le_refl _, c, fun j j1 j2 => by omega⟩
    · have : ∃ j, 1 ≤ j ∧ j ≤ B + 1 ∧ j ≤ s ∧ p (s - j) = true := by
        apply Classical.byContradiction
        intro hn
        refine c ⟨hp, fun j a b c => ?_⟩
        refine q9_nt (fun q => hn ⟨j, a, b, c, q⟩)
      obtain ⟨j, j1, j2, j3, j4⟩ := this
      obtain ⟨a, a1, a2, a3⟩ := ih (s - j) (by omega) (by omega) j4
      refine ⟨a, by omega, a2, fun i i1 i2 q => ?_⟩
      rcases Nat.lt_or_ge i (s - j) with z | z
      · exact a3 i i1 z q
      · have := q.2 (s - i) (by omega) (by omega) (by omega)
        rw [show i + (s - i) = s from by omega] at this
        exact q9_tn this hp
/-- how far a note sounds, in the reference -/
theorem q9_sto (S : k9_Mem) (B : Nat) {n e : Nat} (hn : n < 20) (he : e < 96) : e ≤ m9_sto (m9_lay S B) n e ∧ m9_sto (m9_lay S B) n e < 96 ∧ ∀ s, e < s → s < 96 → (s ≤ m9_sto (m9_lay S B) n e ↔ (∀ j, e ≤ j → j < s → m9_b (m9_y2 S B 21 83 j) 20 = true ∧ ¬ m9_b (m9_y2 S B 21 82 j) 20 = true) ∧ (∀ j, e < j → j ≤ s → ¬ m9_b (m9_y2 S B 21 81 j) n = true)) := by
  have e81 : m9_lay S B 81 = m9_y2 S B 21 81 := m9_y3_ne _ (by decide) (by decide) (by decide) (by decide) _
  have e82 : m9_lay S B 82 = m9_y2 S B 21 82 := m9_y3_ne _ (by decide) (by decide) (by decide) (by decide) _
  have e83 : m9_lay S B 83 = m9_y2 S B 21 83 := m9_y3_ne _ (by decide) (by decide) (by decide) (by decide) _
  unfold m9_sto
  rw [e81, e82, e83]
  by_cases c : m9_one (m9_y2 S B 21 83 e) 20
  · rw [if_pos c]
    have pe := (q9_one _ (by decide)).mp c
    obtain ⟨x, x1, x2, x3⟩ := q9_Yped S B he (show 20 < 21 by decide) pe
    obtain ⟨t1, t2, t3⟩ := q9_ef_of (r := m9_y2 S B 21 82) (n := 20) (by decide) x1 x2 x3
    have t0 := m9_ef_ge (m9_y2 S B 21 82) 20 e
    obtain ⟨to, hto⟩ : ∃ to, to = m9_ef (m9_y2 S B 21 82) 20 e := ⟨_, rfl⟩
    rw [← hto] at t0 t1 t2 t3 ⊢
    obtain ⟨d, hd⟩ : ∃ d, d = fa_first (fun j => decide (m9_one (m9_y2 S B 21 81 (e + 1 + j)) n)) (to - e) := ⟨_, rfl⟩
    have d1 : d ≤ to - e := by rw [hd]; exact fa_first_le _ _
    have d2 : ∀ j, j < d → ¬ m9_b (m9_y2 S B 21 81 (e + 1 + j)) n = true := fun j hj z => by
      rw [hd] at hj
      have := fa_first_no (fun j => decide (m9_one (m9_y2 S B 21 81 (e + 1 + j)) n)) (to - e) j hj
      exact of_decide_eq_false this ((q9_one _ (by omega)).mpr z)
    have d3 : d < to - e → m9_b (m9_y2 S B 21 81 (e + 1 + d)) n = true := fun hj => by
      rw [hd] at hj ⊢
      have := fa_first_yes (fun j => decide (m9_one (m9_y2 S B 21 81 (e + 1 + j)) n)) (to - e) hj
      exact (q9_one _ (by omega)).mp (of_decide_eq_true this)
    rw [← hd]
    have pp : ∀ k, e + k ≤ to → m9_b (m9_y2 S B 21 83 (e + k)) 20 = true := fun k => by
      induction k with
      | zero => exact fun _ => pe
      | succ k ih =>
        intro hk
        obtain ⟨a, a1, a2, a3⟩ := (q9_Y S B (show e + k < 96 by omega) (show 20 < 21 by decide)).2.2.mp (ih (by omega))
        refine (q9_Y S B (show e + (k + 1) < 96 by omega) (show 20 < 21 by decide)).2.2.mpr ⟨a, by omega, a2, fun j j1 j2 => ?_⟩
        by_cases z : j = e + k
        · subst z
          intro q
          exact q9_tn (t3 (e + k) (by omega) (by omega)) ((q9_Y S B (show e + k < 96 by omega) (show 20 < 21 by decide)).2.1.mpr q)
        · exact a3 j j1 (by omega)
    refine ⟨by omega, by omega, fun s s1 s2 => ?_⟩
    constructor
    · intro h
      refine ⟨fun j j1 j2 => ⟨?_, q9_tn (t3 j j1 (by omega))⟩, fun j j1 j2 => ?_⟩
      · have := pp (j - e) (by omega)
        rw [show e + (j - e) = j from by omega] at this
        exact this
      · have := d2 (j - (e + 1)) (by omega)
        rw [show e + 1 + (j - (e + 1)) = j from by omega] at this
        exact this
    · rintro ⟨h1, h2⟩
      rcases Nat.lt_or_ge (e + d) s with z | z
      · exfalso
        rcases Nat.lt_or_ge d (to - e) with y | y
        · exact h2 (e + 1 + d) (by omega) (by omega) (d3 y)
        · exact (h1 to t0 (by omega)).2 t2
      · exact z
  · rw [if_neg c]
    refine ⟨Nat.le_refl _, he, fun s s1 s2 => ?_⟩
    constructor
    · intro h; omega
    · rintro ⟨h1, _⟩
      exact absurd ((q9_one _ (by decide)).mpr (h1 e (Nat.le_refl _) s1).1) c
/-- what sounds, in the class -/
theorem q9_b63 {M S : k9_Mem} {B R : Nat} (hp : q9_P M 1 (S 77)) (hk : q9_ok (S 77) B R) (hH : q9_H M B) {s n : Nat} (hs : s < 96) (hn : n < 20) : m9_b (M 63 s) (n + 1) = true ↔ m9_b (m9_y2 S B 21 83 s) n = true ∨ ∃ e, e < s ∧ m9_b (m9_y2 S B 21 82 e) n = true ∧ ∀ j, e ≤ j → j < s → m9_b (m9_y2 S B 21 83 j) 20 = true ∧ ¬ m9_b (m9_y2 S B 21 82 j) 20 = true := by
  have h62 := q9_b62 hp hk hH hs (show n ≤ 20 by omega)
  rw [q9_cvn hn] at h62
  rw [(hH.2.2 s hs).2]
  unfold m9_so
  rw [m9_b_or, Bool.or_eq_true, h62, q9_he]
  refine or_congr Iff.rfl ?_
  have hc0 : q9_cv 20 = 0 := rfl
  constructor
  · rintro ⟨e, e1, e2, e3⟩
    have h61 := q9_b61 hp hk hH (show e < 96 by omega) (show n ≤ 20 by omega)
    rw [q9_cvn hn] at h61
    refine ⟨e, e1, by rw [← h61]; exact e2, fun j j1 j2 => ?_⟩
    have := e3 j j1 j2
    rw [← hc0, q9_b62 hp hk hH (show j < 96 by omega) (Nat.le_refl _), q9_b61 hp hk hH (show j < 96 by omega) (Nat.le_refl _)] at this
    exact this
  · rintro ⟨e, e1, e2, e3⟩
    have h61 := q9_b61 hp hk hH (show e < 96 by omega) (show n ≤ 20 by omega)
    rw [q9_cvn hn] at h61
    refine ⟨e, e1, by rw [h61]; exact e2, fun j j1 j2 => ?_⟩
    rw [← hc0, q9_b62 hp hk hH (show j < 96 by omega) (Nat.le_refl _), q9_b61 hp hk hH (show j < 96 by omega) (Nat.le_refl _)]
    exact e3 j j1 j2
/-- behind a note's end, where it doesn't begin again -/
theorem q9_behind (S : k9_Mem) (B : Nat) {n e s : Nat} (hn : n < 20) (hs : s < 96) (hes : e < s) (hE : m9_b (m9_y2 S B 21 82 e) n = true) (hno : ∀ j, e < j → j ≤ s → ¬ m9_b (m9_y2 S B 21 81 j) n = true) :
    (m9_b (m9_y2 S B 21 83 s) n = true ∨ ∃ e, e < s ∧ m9_b (m9_y2 S B 21 82 e) n = true ∧ ∀ j, e ≤ j → j < s → m9_b (m9_y2 S B 21 83 j) 20 = true ∧ ¬ m9_b (m9_y2 S B 21 82 j) 20 = true) ↔ ∀ j, e ≤ j → j < s → m9_b (m9_y2 S B 21 83 j) 20 = true ∧ ¬ m9_b (m9_y2 S B 21 82 j) 20 = true := by
  constructor
  · rintro (h | ⟨e', e1, e2, e3⟩)
    · exfalso
      obtain ⟨a, a1, a2, a3⟩ := (q9_Y S B hs (show n < 21 by omega)).2.2.mp h
      rcases Nat.lt_or_ge e a with z | z
      · exact hno a z a1 ((q9_Y S B (show a < 96 by omega) (show n < 21 by omega)).1.mpr a2)
      · exact a3 e z hes ((q9_Y S B (show e < 96 by omega) (show n < 21 by omega)).2.1.mp hE)
    · rcases Nat.lt_or_ge e e' with z | z
      · exfalso
        obtain ⟨a, a1, a2, a3⟩ := q9_W4 z (show e' < 96 by omega) ((q9_Y S B (show e < 96 by omega) (show n < 21 by omega)).2.1.mp hE) ((q9_Y S B (show e' < 96 by omega) (show n < 21 by omega)).2.1.mp e2)
        exact hno a a1 (by omega) ((q9_Y S B (show a < 96 by omega) (show n < 21 by omega)).1.mpr a3)
      · exact fun j j1 j2 => e3 j (by omega) j2
  · intro h
    exact Or.inr ⟨e, hes, hE, h⟩
/-- the walk of the class behind a note's end -/
theorem q9_ls (M : k9_Mem) {v e T : Nat} (hv : v < 32) (h1 : e ≤ T) (h2 : T < 96) (h3 : ∀ i, e < i → i ≤ T → m9_b (M 63 i) v = true ∧ ¬ m9_b (M 60 i) v = true) (h4 : T + 1 < 96 → ¬ (m9_b (M 63 (T + 1)) v = true ∧ ¬ m9_b (M 60 (T + 1)) v = true)) : ∀ i, i ≤ 96 → m9_ls M (nI v) (nI e) i = nI (if i ≤ e + 1 then e else if i ≤ T + 1 then i - 1 else T)
  | 0, _ => by
    rw [if_pos (by omega)]; rfl
  | i + 1, hi => by
    have ih := q9_ls M hv h1 h2 h3 h4 i (by omega)
    have bg : ¬ m9_begins M 59 (nI v) (nI i) ↔ ¬ m9_b (M 60 i) v = true := by
      unfold m9_begins
      rw [m9_cl (show i < 2147483648 by omega), q9_at _ hv]
      constructor
      · intro z q
        exact z ⟨m9_isS_nI (by omega), q⟩
      · intro z q
        exact z q.2
    show (if nI i = m9_ls M (nI v) (nI e) i + 1 ∧ m9_at (M 63 i) (nI v) ∧ ¬ m9_begins M 59 (nI v) (nI i) then nI i else m9_ls M (nI v) (nI e) i) = _
    rw [ih, nI_1]
    have eq : ∀ a : Nat, a < 200 → (nI i = nI a ↔ i = a) := fun a ha => m9_eq (by omega) (by omega)
    by_cases c1 : i ≤ e
    · rw [if_pos (show i ≤ e + 1 by omega), if_pos (show i + 1 ≤ e + 1 by omega), if_neg (fun z => by have := (eq (e + 1) (by omega)).mp z.1; omega)]
    · rw [if_neg (show ¬ i + 1 ≤ e + 1 by omega)]
      by_cases c2 : i ≤ T
      · obtain ⟨r1, r2⟩ := h3 i (by omega) c2
        rw [if_pos (show i + 1 ≤ T + 1 by omega), if_pos]
        · rfl
        · refine ⟨?_, (q9_at _ hv).mpr r1, bg.mpr r2⟩
          by_cases c3 : i ≤ e + 1
          · rw [if_pos c3, show i = e + 1 from by omega]
          · rw [if_neg c3, if_pos (by omega), show i - 1 + 1 = i from by omega]
      · rw [if_neg (show ¬ i + 1 ≤ T + 1 by omega)]
        by_cases c3 : i = T + 1
        · rw [if_neg]
          · by_cases c4 : i ≤ e + 1
            · rw [if_pos c4, show e = T from by omega]
            · rw [if_neg c4, if_pos (by omega), show i - 1 = T from by omega]
          · rintro ⟨_, z1, z2⟩
            rw [c3] at z1 z2 bg
            exact h4 (by omega) ⟨(q9_at _ hv).mp z1, bg.mp z2⟩
        · rw [if_neg (show ¬ i ≤ e + 1 by omega), if_neg (show ¬ i ≤ T + 1 by omega), if_neg (fun z => by have := (eq (T + 1) (by omega)).mp z.1; omega)]
theorem q9_ls_sto {M S : k9_Mem} {B R : Nat} (hp : q9_P M 1 (S 77)) (hk : q9_ok (S 77) B R) (hH : q9_H M B) {n e : Nat} (hn : n < 20) (he : e < 96) (hE : m9_b (m9_y2 S B 21 82 e) n = true) : m9_ls M (nI (n + 1)) (nI e) 96 = nI (m9_sto (m9_lay S B) n e) := by
  obtain ⟨T, hT⟩ : ∃ T, T = m9_sto (m9_lay S B) n e := ⟨_, rfl⟩
  obtain ⟨t1, t2, t3⟩ := q9_sto S B hn he
  rw [← hT] at t1 t2 t3 ⊢
  have h60 : ∀ i, i < 96 → m9_b (M 60 i) (n + 1) = m9_b (m9_y2 S B 21 81 i) n := fun i hi => by
    have := q9_b60 hp hk hH hi (show n ≤ 20 by omega)
    rw [q9_cvn hn] at this
    exact this
  rw [q9_ls M (v := n + 1) (e := e) (T := T) (by omega) t1 t2 (fun i i1 i2 => ?_) (fun i1 => ?_) 96 (Nat.le_refl _)]
  · congr 1
    by_cases c : 96 ≤ e + 1
    · rw [if_pos c]; omega
    · rw [if_neg c]
      by_cases c2 : 96 ≤ T + 1
      · rw [if_pos c2]; omega
      · rw [if_neg c2]
  · obtain ⟨u1, u2⟩ := (t3 i i1 (by omega)).mp i2
    rw [h60 i (by omega)]
    refine ⟨(q9_b63 hp hk hH (by omega) hn).mpr ((q9_behind S B hn (by omega) i1 hE u2).mpr u1), u2 i i1 (Nat.le_refl _)⟩
  · rintro ⟨z1, z2⟩
    rw [h60 _ i1] at z2
    have no : ∀ j, e < j → j ≤ T + 1 → ¬ m9_b (m9_y2 S B 21 81 j) n = true := fun j j1 j2 => by
      by_cases c : j = T + 1
      · subst c; exact z2
      · have h9 := ((t3 T (by omega) t2).mp (Nat.le_refl _)).2
        exact h9 j j1 (by omega)
    have h8 := (q9_behind S B hn i1 (by omega) hE no).mp ((q9_b63 hp hk hH i1 hn).mp z1)
    have := (t3 (T + 1) (by omega) i1).mpr ⟨h8, no⟩
    omega
