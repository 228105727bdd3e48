/-! Plain mathematics: a character of the text. -/
theorem q9_bi1 (P : Prop) [Decidable P] : m9_bi P = 1 ↔ P := by
  by_cases c : P
  · rw [m9_bi_t c]; exact ⟨fun _ => c, fun _ => rfl⟩
  · rw [m9_bi_f c]; exact ⟨fun z => absurd z (by decide), fun z => absurd z c⟩
/-- the first figure of a number -/
theorem q9_digF {C Z : k9_Mem} {g A hi lo : Nat} {x : Int32} (hx : x = nI (48 + g)) (hg : g ≤ 9) (h7 : C 66 7 = -1) (hl : m9_lrg (C 66 6) = nI hi) (hh : 9 ≤ hi) (hh2 : hi < 1000) (hlo : C 66 6 = 2 ∧ lo = 1 ∨ ¬ C 66 6 = 2 ∧ lo = 0) (hF : m9_fF Z) : (m9_dgo C (nI g) ↔ m9_fO Z A x (nI lo) (nI hi)) ∧ m9_tdv C (nI g) = nI g ∧ m9_fv Z A x = nI g := by
  refine ⟨?_, ?_, by rw [hx]; exact q9_fvF hF⟩
  · rw [q9_dgo1 h7 hl hg hh hh2, hx, q9_fO1 hF hg (by omega) (by omega)]
    rcases hlo with ⟨a, b⟩ | ⟨a, b⟩
    · rw [b]
      constructor
      · intro z
        have : ¬ g = 0 := fun q => z ⟨q, a⟩
        omega
      · rintro z ⟨z1, z2⟩
        omega
    · rw [b]
      exact ⟨fun _ => by omega, fun _ z => a z.2⟩
  · unfold m9_tdv
    rw [if_pos h7]
/-- a further figure -/
theorem q9_digN {C Z : k9_Mem} {g A hi lo v : Nat} {x : Int32} (hx : x = nI (48 + g)) (hg : g ≤ 9) (h7 : C 66 7 = nI v) (hv : v < 1000) (hz : Z 87 A = nI v) (hl : m9_lrg (C 66 6) = nI hi) (hh2 : hi < 1000) (hlo : lo ≤ 1) (hF : ¬ m9_fF Z) : (m9_dgo C (nI g) ↔ m9_fO Z A x (nI lo) (nI hi)) ∧ m9_tdv C (nI g) = nI (10 * v + g) ∧ m9_fv Z A x = nI (10 * v + g) ∧ (m9_dgo C (nI g) → v ≠ 0 ∧ 10 * v + g ≤ hi) := by
  obtain ⟨d1, d2⟩ := q9_dgo2 h7 hv hl hg hh2
  refine ⟨?_, d2, by rw [hx]; exact q9_fvN hF hz, d1.mp⟩
  rw [d1, hx, q9_fO2 hF hz hv hg (by omega) hh2]
  constructor
  · rintro ⟨a, b⟩
    exact ⟨⟨by omega, b⟩, a⟩
  · rintro ⟨⟨_, b⟩, a⟩
    exact ⟨a, b⟩
theorem q9_xne {g n : Nat} {x : Int32} (hx : x = nI (48 + g)) (hg : g ≤ 9) (hn : 57 < n ∨ n < 48) (hn2 : n < 1000) : ¬ x = nI n := fun z => by
  rw [hx] at z
  have := (m9_eq (show 48 + g < 2147483648 by omega) (by omega)).mp z
  omega
theorem q9_tkoD {C : k9_Mem} {g : Nat} {x : Int32} (hD : m9_isD x) (hx : x = nI (48 + g)) : m9_tko C x ↔ m9_dgo C (nI g) := by
  unfold m9_tko
  rw [if_pos hD, hx, q9_x48]
theorem q9_tkoN {C : k9_Mem} {x : Int32} (hD : ¬ m9_isD x) : (m9_tko C x ↔ if x = 112 then m9_peo C else m9_sio C x) ∧ m9_tkm C x = if x = 112 then m9_pem C else if m9_sio C x then m9_gom C else C := by
  refine ⟨?_, ?_⟩
  · unfold m9_tko
    rw [if_neg hD]
  · unfold m9_tkm
    rw [if_neg hD]
theorem q9_fON {Z : k9_Mem} {A : Nat} {x lo hi : Int32} (hD : ¬ m9_isD x) : ¬ m9_fO Z A x lo hi := fun z => hD z.1
/-- a sign behind the note or the step -/
theorem q9_sig {C Z C' : k9_Mem} {r d i d' : Nat} (h : q9_L C Z r d i) (hf : ∀ k, k ≠ 66 → C' k = C k) (h5 : C' 66 5 = C 66 5) (hmn : 6 * r + q9_mn d' ≤ i + 1) (hS : ∀ Z' : k9_Mem, Z' 87 = Z 87 → q9_S C' Z' r d') : q9_L C' (k9_st Z 76 16 (nI d')) r d' (i + 1) := by
  obtain ⟨h1, h2, h3, h4, h6, h7⟩ := h
  have z87 : k9_st Z 76 16 (nI d') 87 = Z 87 := m9_st_ne _ _ _ (by decide)
  refine ⟨?_, ?_, hmn, by rw [h5]; exact h4, fun p hp => ?_, hS _ z87⟩
  · rw [m9_st_at_ne _ _ (by decide)]; exact h1
  · rw [m9_st_at, m9_upd_at]
  · exact q9_pt_c (h6 p hp) (by rw [hf 68 (by decide)]) (by rw [hf 69 (by decide)]) (by rw [hf 70 (by decide)]) (fun j _ _ => by rw [z87])
/-- in the note -/
theorem q9_step0 {C Z : k9_Mem} {r i : Nat} (x : Int32) (h : q9_L C Z r 0 i) (s6 : C 66 6 = 0) (s7 : C 66 7 = -1) : (m9_tko C x ↔ m9_tv Z r 0 x = 1) ∧ (m9_tko C x → ∃ r' d', d' ≤ 6 ∧ q9_L (m9_tkm C x) (m9_tm Z r 0 x) r' d' (i + 1)) := by
  have hF : m9_fF Z := (q9_fF h.2.1 (by decide)).mpr (Or.inl rfl)
  have tv : m9_tv Z r 0 x = if x = 112 then 1 else m9_bi (m9_fO Z (3 * r) x (nI 0) (nI 19)) := rfl
  have tm : m9_tm Z r 0 x = if x = 112 then k9_st (k9_st Z 87 (3 * r) (-1)) 76 16 2 else m9_fM Z (3 * r) x (nI 0) (nI 19) := rfl
  by_cases hD : m9_isD x
  · obtain ⟨g, hg, hx⟩ := q9_digit hD
    have hn : ¬ x = 112 := q9_xne (n := 112) hx hg (by decide) (by decide)
    obtain ⟨f1, f2, f3⟩ := q9_digF (Z := Z) (A := 3 * r) (hi := 19) (lo := 0) hx hg s7 (by rw [s6]; rfl) (by decide) (by decide) (Or.inr ⟨by rw [s6]; decide, rfl⟩) hF
    rw [tv, tm, if_neg hn, if_neg hn, q9_bi1, q9_tkoD hD hx, f1]
    refine ⟨Iff.rfl, fun hO => ⟨r, 1, by decide, q9_dig h hx hO f3 f2 (f1.mpr hO) (Nat.le_refl _) (by rw [m9_bi_t hF, h.2.1]; rfl) (by have h3 : 6 * r + 0 ≤ i := h.2.2.1; show 6 * r + 1 ≤ i + 1; omega) (fun C' Z' a b c e => ?_)⟩⟩
    have hw := (q9_fO1 hF hg (lo := 0) (hi := 19) (by decide) (by decide)).mp (hx ▸ hO)
    exact Or.inr (Or.inl ⟨rfl, by rw [a 6 (by decide)]; exact s6, g, by omega, b, e⟩)
  · obtain ⟨k1, k2⟩ := q9_tkoN (C := C) hD
    rw [k1, k2, tv, tm]
    by_cases hp : x = 112
    · rw [if_pos hp, if_pos hp, if_pos hp, if_pos hp]
      have po : m9_peo C := ⟨s6, s7⟩
      refine ⟨⟨fun _ => rfl, fun _ => po⟩, fun _ => ⟨r, 2, by decide, ?_⟩⟩
      have e : m9_pem C = k9_st C 66 7 (-2) := if_pos po
      rw [e]
      obtain ⟨h1, h2, h3, h4, h5, h6⟩ := h
      have z87 : ∀ j, k9_st (k9_st Z 87 (3 * r) (-1)) 76 16 2 87 j = upd (Z 87) (3 * r) (-1) j := fun j => by
        rw [m9_st_ne _ _ _ (by decide), m9_st_at]
      refine ⟨?_, ?_, ?_, ?_, fun p hp => ?_, ?_⟩
      · rw [m9_st_at_ne _ _ (by decide), m9_st_ne _ _ _ (by decide)]; exact h1
      · rw [m9_st_at, m9_upd_at]; rfl
      · have h3 : 6 * r + 0 ≤ i := h3
        show 6 * r + 1 ≤ i + 1
        omega
      · rw [m9_st_at_ne _ _ (by decide)]; exact h4
      · refine q9_pt_c (h5 p hp) ?_ ?_ ?_ (fun j j1 j2 => ?_)
        · rw [m9_st_ne _ _ _ (by decide)]
        · rw [m9_st_ne _ _ _ (by decide)]
        · rw [m9_st_ne _ _ _ (by decide)]
        · rw [z87, m9_upd_ne _ _ (by omega)]
      · exact Or.inr (Or.inr (Or.inl ⟨rfl, by rw [m9_st_at_ne _ _ (by decide)]; exact s6, by rw [m9_st_at, m9_upd_at], by rw [z87, m9_upd_at]⟩))
    · rw [if_neg hp, if_neg hp, q9_bi1]
      have n1 : ¬ m9_sio C x := fun z => z.2 s7
      exact ⟨⟨fun z => absurd z n1, fun z => absurd z (q9_fON hD)⟩, fun z => absurd z n1⟩
theorem q9_step1 {C Z : k9_Mem} {r i v : Nat} (x : Int32) (h : q9_L C Z r 1 i) (s6 : C 66 6 = 0) (hv : v ≤ 19) (s7 : C 66 7 = nI v) (sz : Z 87 (3 * r) = nI v) : (m9_tko C x ↔ m9_tv Z r 1 x = 1) ∧ (m9_tko C x → ∃ r' d', d' ≤ 6 ∧ q9_L (m9_tkm C x) (m9_tm Z r 1 x) r' d' (i + 1)) := by
  have hF : ¬ m9_fF Z := fun z => by have := (q9_fF h.2.1 (by decide)).mp z; omega
  have tv : m9_tv Z r 1 x = if x = 64 then 1 else m9_bi (m9_fO Z (3 * r) x (nI 0) (nI 19)) := rfl
  have tm : m9_tm Z r 1 x = if x = 64 then k9_st Z 76 16 3 else m9_fM Z (3 * r) x (nI 0) (nI 19) := rfl
  have s7n : ¬ C 66 7 = -1 := by rw [s7]; exact q9_nI_m1 (by omega)
  by_cases hD : m9_isD x
  · obtain ⟨g, hg, hx⟩ := q9_digit hD
    have hn : ¬ x = 64 := q9_xne (n := 64) hx hg (by decide) (by decide)
    obtain ⟨f1, f2, f3, f4⟩ := q9_digN (Z := Z) (A := 3 * r) (hi := 19) (lo := 0) hx hg s7 (by omega) sz (by rw [s6]; rfl) (by decide) (by decide) hF
    rw [tv, tm, if_neg hn, if_neg hn, q9_bi1, q9_tkoD hD hx, f1]
    refine ⟨Iff.rfl, fun hO => ⟨r, 1, by decide, q9_dig h hx hO f3 f2 (f1.mpr hO) (Nat.le_refl _) (by rw [m9_bi_f hF, h.2.1]; rfl) (by have := h.2.2.1; omega) (fun C' Z' a b c e => ?_)⟩⟩
    have hw := f4 (f1.mpr hO)
    exact Or.inr (Or.inl ⟨rfl, by rw [a 6 (by decide)]; exact s6, 10 * v + g, hw.2, b, e⟩)
  · obtain ⟨k1, k2⟩ := q9_tkoN (C := C) hD
    rw [k1, k2, tv, tm]
    by_cases hp : x = 112
    · have hn : ¬ x = 64 := by rw [hp]; decide
      rw [if_pos hp, if_pos hp, if_neg hn, if_neg hn, q9_bi1]
      have n1 : ¬ m9_peo C := fun z => s7n z.2
      exact ⟨⟨fun z => absurd z n1, fun z => absurd z (q9_fON hD)⟩, fun z => absurd z n1⟩
    · rw [if_neg hp, if_neg hp]
      by_cases ha : x = 64
      · have so : m9_sio C x := ⟨by rw [s6, ha]; rfl, s7n⟩
        rw [if_pos so, if_pos ha, if_pos ha]
        refine ⟨⟨fun _ => rfl, fun _ => so⟩, fun _ => ⟨r, 3, by decide, ?_⟩⟩
        have e : m9_gom C = k9_st (k9_st (k9_st C 66 8 (if C 66 7 = -2 then 0 else C 66 7 + 1)) 66 6 1) 66 7 (-1) := if_pos s6
        have n2 : ¬ C 66 7 = -2 := fun z => by
          rw [s7] at z
          have := (fa_eq _ _).mp z
          rw [nI_toInt (by omega), show (-2 : Int32).toInt = -2 from rfl] at this
          omega
        rw [e, if_neg n2]
        refine q9_sig (d' := 3) h (fun k hk => ?_) ?_ (by have h3 : 6 * r + 1 ≤ i := h.2.2.1; show 6 * r + 2 ≤ i + 1; omega) (fun Z' hz => Or.inr (Or.inr (Or.inr (Or.inl ⟨rfl, ?_, ?_, ?_, ?_⟩))))
        · rw [m9_st_ne _ _ _ hk, m9_st_ne _ _ _ hk, m9_st_ne _ _ _ hk]
        · rw [m9_st_at_ne _ _ (by decide), m9_st_at_ne _ _ (by decide), m9_st_at_ne _ _ (by decide)]
        · rw [m9_st_at_ne _ _ (by decide), m9_st_at, m9_upd_at]
        · rw [m9_st_at, m9_upd_at]
        · rw [m9_st_at_ne _ _ (by decide), m9_st_at_ne _ _ (by decide), m9_st_at, m9_upd_at, hz, sz, s7]
        · rw [hz]
          exact Or.inr ⟨v, by omega, sz⟩
      · have n1 : ¬ m9_sio C x := fun z => ha (by have := z.1; rw [s6] at this; exact this)
        rw [if_neg ha, q9_bi1]
        exact ⟨⟨fun z => absurd z n1, fun z => absurd z (q9_fON hD)⟩, fun z => absurd z n1⟩
theorem q9_step2 {C Z : k9_Mem} {r i : Nat} (x : Int32) (h : q9_L C Z r 2 i) (s6 : C 66 6 = 0) (s7 : C 66 7 = -2) (sz : Z 87 (3 * r) = -1) : (m9_tko C x ↔ m9_tv Z r 2 x = 1) ∧ (m9_tko C x → ∃ r' d', d' ≤ 6 ∧ q9_L (m9_tkm C x) (m9_tm Z r 2 x) r' d' (i + 1)) := by
  have tv : m9_tv Z r 2 x = if x = 64 then 1 else 0 := rfl
  have tm : m9_tm Z r 2 x = if x = 64 then k9_st Z 76 16 3 else Z := rfl
  have s7n : ¬ C 66 7 = -1 := by rw [s7]; decide
  by_cases hD : m9_isD x
  · obtain ⟨g, hg, hx⟩ := q9_digit hD
    have hn : ¬ x = 64 := q9_xne (n := 64) hx hg (by decide) (by decide)
    have n1 : ¬ m9_tko C x := fun z => ((q9_tkoD hD hx).mp z).2.1 s7
    rw [tv, if_neg hn]
    exact ⟨⟨fun z => absurd z n1, fun z => absurd z (by decide)⟩, fun z => absurd z n1⟩
  · obtain ⟨k1, k2⟩ := q9_tkoN (C := C) hD
    rw [k1, k2, tv, tm]
    by_cases hp : x = 112
    · have hn : ¬ x = 64 := by rw [hp]; decide
      rw [if_pos hp, if_pos hp, if_neg hn, if_neg hn]
      have n1 : ¬ m9_peo C := fun z => s7n z.2
      exact ⟨⟨fun z => absurd z n1, fun z => absurd z (by decide)⟩, fun z => absurd z n1⟩
    · rw [if_neg hp, if_neg hp]
      by_cases ha : x = 64
      · have so : m9_sio C x := ⟨by rw [s6, ha]; rfl, s7n⟩
        rw [if_pos so, if_pos ha, if_pos ha]
        refine ⟨⟨fun _ => rfl, fun _ => so⟩, fun _ => ⟨r, 3, by decide, ?_⟩⟩
        have e : m9_gom C = k9_st (k9_st (k9_st C 66 8 (if C 66 7 = -2 then 0 else C 66 7 + 1)) 66 6 1) 66 7 (-1) := if_pos s6
        rw [e, if_pos s7]
        refine q9_sig (d' := 3) h (fun k hk => ?_) ?_ (by have h3 : 6 * r + 1 ≤ i := h.2.2.1; show 6 * r + 2 ≤ i + 1; omega) (fun Z' hz => Or.inr (Or.inr (Or.inr (Or.inl ⟨rfl, ?_, ?_, ?_, ?_⟩))))
        · rw [m9_st_ne _ _ _ hk, m9_st_ne _ _ _ hk, m9_st_ne _ _ _ hk]
        · rw [m9_st_at_ne _ _ (by decide), m9_st_at_ne _ _ (by decide), m9_st_at_ne _ _ (by decide)]
        · rw [m9_st_at_ne _ _ (by decide), m9_st_at, m9_upd_at]
        · rw [m9_st_at, m9_upd_at]
        · rw [m9_st_at_ne _ _ (by decide), m9_st_at_ne _ _ (by decide), m9_st_at, m9_upd_at, hz, sz]; rfl
        · rw [hz]
          exact Or.inl sz
      · have n1 : ¬ m9_sio C x := fun z => ha (by have := z.1; rw [s6] at this; exact this)
        rw [if_neg ha]
        exact ⟨⟨fun z => absurd z n1, fun z => absurd z (by decide)⟩, fun z => absurd z n1⟩
