/-! Plain mathematics: the text, step and length; the whole text. -/
theorem q9_step3 {C Z : k9_Mem} {r i : Nat} (x : Int32) (h : q9_L C Z r 3 i) (s6 : C 66 6 = 1) (s7 : C 66 7 = -1) (sv : q9_tvo C Z r) : (m9_tko C x ↔ m9_tv Z r 3 x = 1) ∧ (m9_tko C x → ∃ r' d', d' ≤ 6 ∧ q9_L (m9_tkm C x) (m9_tm Z r 3 x) r' d' (i + 1)) := by
  have hF : m9_fF Z := (q9_fF h.2.1 (by decide)).mpr (Or.inr (Or.inl rfl))
  have tv : m9_tv Z r 3 x = m9_bi (m9_fO Z (3 * r + 1) x (nI 0) (nI 95)) := rfl
  have tm : m9_tm Z r 3 x = m9_fM Z (3 * r + 1) x (nI 0) (nI 95) := rfl
  by_cases hD : m9_isD x
  · obtain ⟨g, hg, hx⟩ := q9_digit hD
    obtain ⟨f1, f2, f3⟩ := q9_digF (Z := Z) (A := 3 * r + 1) (hi := 95) (lo := 0) hx hg s7 (by rw [s6]; rfl) (by decide) (by decide) (Or.inr ⟨by rw [s6]; decide, rfl⟩) hF
    rw [tv, tm, q9_bi1, q9_tkoD hD hx, f1]
    refine ⟨Iff.rfl, fun hO => ⟨r, 4, by decide, q9_dig h hx hO f3 f2 (f1.mpr hO) (Nat.le_add_right _ _) (by rw [m9_bi_t hF, h.2.1]; rfl) (by have h3 : 6 * r + 2 ≤ i := h.2.2.1; show 6 * r + 3 ≤ i + 1; omega) (fun C' Z' a b c e => ?_)⟩⟩
    exact Or.inr (Or.inr (Or.inr (Or.inr (Or.inl ⟨rfl, by rw [a 6 (by decide)]; exact s6, ⟨g, by omega, b, e⟩, q9_tvo_c sv (a 8 (by decide)) (c _ (by omega))⟩))))
  · obtain ⟨k1, k2⟩ := q9_tkoN (C := C) hD
    have n0 : ¬ m9_tko C x := fun z => by
      have z := k1.mp z
      by_cases hp : x = 112
      · rw [if_pos hp] at z
        have := z.1
        rw [s6] at this
        exact absurd this (by decide)
      · rw [if_neg hp] at z
        exact z.2 s7
    rw [tv, q9_bi1]
    exact ⟨⟨fun z => absurd z n0, fun z => absurd z (q9_fON hD)⟩, fun z => absurd z n0⟩
theorem q9_step5 {C Z : k9_Mem} {r i : Nat} (x : Int32) (h : q9_L C Z r 5 i) (s6 : C 66 6 = 2) (s7 : C 66 7 = -1) (sv : q9_tvo C Z r) (sf : q9_fi C Z r) : (m9_tko C x ↔ m9_tv Z r 5 x = 1) ∧ (m9_tko C x → ∃ r' d', d' ≤ 6 ∧ q9_L (m9_tkm C x) (m9_tm Z r 5 x) r' d' (i + 1)) := by
  have hF : m9_fF Z := (q9_fF h.2.1 (by decide)).mpr (Or.inr (Or.inr rfl))
  have tv : m9_tv Z r 5 x = m9_bi (m9_fO Z (3 * r + 2) x (nI 1) (nI 96)) := rfl
  have tm : m9_tm Z r 5 x = m9_fM Z (3 * r + 2) x (nI 1) (nI 96) := rfl
  by_cases hD : m9_isD x
  · obtain ⟨g, hg, hx⟩ := q9_digit hD
    obtain ⟨f1, f2, f3⟩ := q9_digF (Z := Z) (A := 3 * r + 2) (hi := 96) (lo := 1) hx hg s7 (by rw [s6]; rfl) (by decide) (by decide) (Or.inl ⟨s6, rfl⟩) hF
    rw [tv, tm, q9_bi1, q9_tkoD hD hx, f1]
    refine ⟨Iff.rfl, fun hO => ⟨r, 6, by decide, q9_dig h hx hO f3 f2 (f1.mpr hO) (Nat.le_add_right _ _) (by rw [m9_bi_t hF, h.2.1]; rfl) (by have h3 : 6 * r + 4 ≤ i := h.2.2.1; show 6 * r + 5 ≤ i + 1; omega) (fun C' Z' a b c e => ?_)⟩⟩
    have hw := (q9_fO1 hF hg (lo := 1) (hi := 96) (by decide) (by decide)).mp (hx ▸ hO)
    exact Or.inr (Or.inr (Or.inr (Or.inr (Or.inr (Or.inr ⟨rfl, by rw [a 6 (by decide)]; exact s6, ⟨g, by omega, by omega, b, e⟩, q9_tvo_c sv (a 8 (by decide)) (c _ (by omega)), q9_fi_c sf (a 9 (by decide)) (c _ (by omega))⟩)))))
  · obtain ⟨k1, k2⟩ := q9_tkoN (C := C) hD
    have n0 : ¬ m9_tko C x := fun z => by
      have z := k1.mp z
      by_cases hp : x = 112
      · rw [if_pos hp] at z
        have := z.1
        rw [s6] at this
        exact absurd this (by decide)
      · rw [if_neg hp] at z
        exact z.2 s7
    rw [tv, q9_bi1]
    exact ⟨⟨fun z => absurd z n0, fun z => absurd z (q9_fON hD)⟩, fun z => absurd z n0⟩
theorem q9_step4 {C Z : k9_Mem} {r i v : Nat} (x : Int32) (h : q9_L C Z r 4 i) (s6 : C 66 6 = 1) (hv : v ≤ 95) (s7 : C 66 7 = nI v) (sz : Z 87 (3 * r + 1) = nI v) (sv : q9_tvo C Z r) : (m9_tko C x ↔ m9_tv Z r 4 x = 1) ∧ (m9_tko C x → ∃ r' d', d' ≤ 6 ∧ q9_L (m9_tkm C x) (m9_tm Z r 4 x) r' d' (i + 1)) := by
  have hF : ¬ m9_fF Z := fun z => by have := (q9_fF h.2.1 (by decide)).mp z; omega
  have tv : m9_tv Z r 4 x = if x = 58 then 1 else m9_bi (m9_fO Z (3 * r + 1) x (nI 0) (nI 95)) := rfl
  have tm : m9_tm Z r 4 x = if x = 58 then k9_st Z 76 16 5 else m9_fM Z (3 * r + 1) x (nI 0) (nI 95) := rfl
  have s7n : ¬ C 66 7 = -1 := by rw [s7]; exact q9_nI_m1 (by omega)
  by_cases hD : m9_isD x
  · obtain ⟨g, hg, hx⟩ := q9_digit hD
    have hn : ¬ x = 58 := q9_xne (n := 58) hx hg (by decide) (by decide)
    obtain ⟨f1, f2, f3, f4⟩ := q9_digN (Z := Z) (A := 3 * r + 1) (hi := 95) (lo := 0) hx hg s7 (by omega) sz (by rw [s6]; rfl) (by decide) (by decide) hF
    rw [tv, tm, if_neg hn, if_neg hn, q9_bi1, q9_tkoD hD hx, f1]
    refine ⟨Iff.rfl, fun hO => ⟨r, 4, by decide, q9_dig h hx hO f3 f2 (f1.mpr hO) (Nat.le_add_right _ _) (by rw [m9_bi_f hF, h.2.1]; rfl) (by have := h.2.2.1; omega) (fun C' Z' a b c e => ?_)⟩⟩
    have hw := f4 (f1.mpr hO)
    exact Or.inr (Or.inr (Or.inr (Or.inr (Or.inl ⟨rfl, by rw [a 6 (by decide)]; exact s6, ⟨10 * v + g, hw.2, b, e⟩, q9_tvo_c sv (a 8 (by decide)) (c _ (by omega))⟩))))
  · obtain ⟨k1, k2⟩ := q9_tkoN (C := C) hD
    rw [k1, k2, tv, tm]
    by_cases hp : x = 112
    · have hn : ¬ x = 58 := by rw [hp]; decide
      rw [if_pos hp, if_pos hp, if_neg hn, if_neg hn, q9_bi1]
      have n1 : ¬ m9_peo C := fun z => s7n z.2
      exact ⟨⟨fun z => absurd z n1, fun z => absurd z (q9_fON hD)⟩, fun z => absurd z n1⟩
    · rw [if_neg hp, if_neg hp]
      by_cases ha : x = 58
      · have so : m9_sio C x := ⟨by rw [s6, ha]; rfl, s7n⟩
        rw [if_pos so, if_pos ha, if_pos ha]
        refine ⟨⟨fun _ => rfl, fun _ => so⟩, fun _ => ⟨r, 5, by decide, ?_⟩⟩
        have e : m9_gom C = k9_st (k9_st (k9_st C 66 9 (C 66 7)) 66 6 2) 66 7 (-1) := by
          unfold m9_gom
          rw [if_neg (by rw [s6]; decide), if_pos s6]
        rw [e]
        refine q9_sig (d' := 5) h (fun k hk => ?_) ?_ (by have h3 : 6 * r + 3 ≤ i := h.2.2.1; show 6 * r + 4 ≤ i + 1; omega) (fun Z' hz => Or.inr (Or.inr (Or.inr (Or.inr (Or.inr (Or.inl ⟨rfl, ?_, ?_, ?_, ?_⟩))))))
        · rw [m9_st_ne _ _ _ hk, m9_st_ne _ _ _ hk, m9_st_ne _ _ _ hk]
        · rw [m9_st_at_ne _ _ (by decide), m9_st_at_ne _ _ (by decide), m9_st_at_ne _ _ (by decide)]
        · rw [m9_st_at_ne _ _ (by decide), m9_st_at, m9_upd_at]
        · rw [m9_st_at, m9_upd_at]
        · exact q9_tvo_c sv (by rw [m9_st_at_ne _ _ (by decide), m9_st_at_ne _ _ (by decide), m9_st_at_ne _ _ (by decide)]) (by rw [hz])
        · exact ⟨v, by omega, by rw [m9_st_at_ne _ _ (by decide), m9_st_at_ne _ _ (by decide), m9_st_at, m9_upd_at]; exact s7, by rw [hz]; exact sz⟩
      · have n1 : ¬ m9_sio C x := fun z => ha (by have := z.1; rw [s6] at this; exact this)
        rw [if_neg ha, q9_bi1]
        exact ⟨⟨fun z => absurd z n1, fun z => absurd z (q9_fON hD)⟩, fun z => absurd z n1⟩
/-- a part that ends -/
theorem q9_kpm {C Z : k9_Mem} {r v : Nat} (hr : r < 60) (h5 : C 66 5 = nI r) (hv1 : 1 ≤ v) (hv : v ≤ 96) (s7 : C 66 7 = nI v) (sz : Z 87 (3 * r + 2) = nI v) (sv : q9_tvo C Z r) (sf : q9_fi C Z r) (hp : ∀ p, p < r → q9_pt C Z p) : m9_kpm C 66 5 = nI (r + 1) ∧ (∀ j, j ≠ 5 → m9_kpm C 66 j = C 66 j) ∧ (∀ p, p < r + 1 → q9_pt (m9_kpm C) Z p) := by
  have hn : ¬ (C 66 5 < 0 ∨ (60 : Int32) ≤ C 66 5) := by
    rw [h5]
    rintro (z | z)
    · exact nI_pos (by omega) z
    · have := (m9_le (a := 60) (b := r) (by decide) (by omega)).mp z
      omega
  have e : m9_kpm C = k9_st (k9_st (k9_st (k9_st C 68 r (C 66 8)) 69 r (C 66 9)) 70 r (C 66 7)) 66 5 (nI (r + 1)) := by
    unfold m9_kpm
    rw [if_neg hn, h5, m9_cl (by omega), nI_1]
  rw [e]
  refine ⟨by rw [m9_st_at, m9_upd_at], fun j hj => ?_, fun p hpr => ?_⟩
  · rw [m9_st_at_ne _ _ hj, m9_st_ne _ _ _ (by decide), m9_st_ne _ _ _ (by decide), m9_st_ne _ _ _ (by decide)]
  · have e68 : k9_st (k9_st (k9_st (k9_st C 68 r (C 66 8)) 69 r (C 66 9)) 70 r (C 66 7)) 66 5 (nI (r + 1)) 68 = upd (C 68) r (C 66 8) := by
      rw [m9_st_ne _ _ _ (by decide), m9_st_ne _ _ _ (by decide), m9_st_ne _ _ _ (by decide), m9_st_at]
    have e69 : k9_st (k9_st (k9_st (k9_st C 68 r (C 66 8)) 69 r (C 66 9)) 70 r (C 66 7)) 66 5 (nI (r + 1)) 69 = upd (C 69) r (C 66 9) := by
      rw [m9_st_ne _ _ _ (by decide), m9_st_ne _ _ _ (by decide), m9_st_at, m9_st_ne _ _ _ (by decide)]
    have e70 : k9_st (k9_st (k9_st (k9_st C 68 r (C 66 8)) 69 r (C 66 9)) 70 r (C 66 7)) 66 5 (nI (r + 1)) 70 = upd (C 70) r (C 66 7) := by
      rw [m9_st_ne _ _ _ (by decide), m9_st_at, m9_st_ne _ _ _ (by decide), m9_st_ne _ _ _ (by decide)]
    by_cases c : p = r
    · subst c
      obtain ⟨f, f1, f2, f3⟩ := sf
      exact ⟨by rw [e68, m9_upd_at]; exact sv.1, sv.2, f, v, f1, hv1, hv, by rw [e69, m9_upd_at]; exact f2, f3, by rw [e70, m9_upd_at]; exact s7, sz⟩
    · exact q9_pt_c (hp p (by omega)) (by rw [e68, m9_upd_ne _ _ c]) (by rw [e69, m9_upd_ne _ _ c]) (by rw [e70, m9_upd_ne _ _ c]) (fun _ _ _ => rfl)
theorem q9_step6 {C Z : k9_Mem} {r i v : Nat} (x : Int32) (hr : r < 60) (h : q9_L C Z r 6 i) (s6 : C 66 6 = 2) (hv1 : 1 ≤ v) (hv : v ≤ 96) (s7 : C 66 7 = nI v) (sz : Z 87 (3 * r + 2) = nI v) (sv : q9_tvo C Z r) (sf : q9_fi C Z r) : (m9_tko C x ↔ m9_tv Z r 6 x = 1) ∧ (m9_tko C x → ∃ r' d', d' ≤ 6 ∧ q9_L (m9_tkm C x) (m9_tm Z r 6 x) r' d' (i + 1)) := by
  have hF : ¬ m9_fF Z := fun z => by have := (q9_fF h.2.1 (by decide)).mp z; omega
  have tv : m9_tv Z r 6 x = if x = 44 then 1 else m9_bi (m9_fO Z (3 * r + 2) x (nI 1) (nI 96)) := rfl
  have tm : m9_tm Z r 6 x = if x = 44 then k9_st (k9_st Z 76 15 (nI (r + 1))) 76 16 0 else m9_fM Z (3 * r + 2) x (nI 1) (nI 96) := rfl
  have s7n : ¬ C 66 7 = -1 := by rw [s7]; exact q9_nI_m1 (by omega)
  by_cases hD : m9_isD x
  · obtain ⟨g, hg, hx⟩ := q9_digit hD
    have hn : ¬ x = 44 := q9_xne (n := 44) hx hg (by decide) (by decide)
    obtain ⟨f1, f2, f3, f4⟩ := q9_digN (Z := Z) (A := 3 * r + 2) (hi := 96) (lo := 1) hx hg s7 (by omega) sz (by rw [s6]; rfl) (by decide) (by decide) hF
    rw [tv, tm, if_neg hn, if_neg hn, q9_bi1, q9_tkoD hD hx, f1]
    refine ⟨Iff.rfl, fun hO => ⟨r, 6, by decide, q9_dig h hx hO f3 f2 (f1.mpr hO) (Nat.le_add_right _ _) (by rw [m9_bi_f hF, h.2.1]; rfl) (by have := h.2.2.1; omega) (fun C' Z' a b c e => ?_)⟩⟩
    have hw := f4 (f1.mpr hO)
    exact Or.inr (Or.inr (Or.inr (Or.inr (Or.inr (Or.inr ⟨rfl, by rw [a 6 (by decide)]; exact s6, ⟨10 * v + g, by omega, hw.2, b, e⟩, q9_tvo_c sv (a 8 (by decide)) (c _ (by omega)), q9_fi_c sf (a 9 (by decide)) (c _ (by omega))⟩)))))
  · obtain ⟨k1, k2⟩ := q9_tkoN (C := C) hD
    rw [k1, k2, tv, tm]
    by_cases hp : x = 112
    · have hn : ¬ x = 44 := by rw [hp]; decide
      rw [if_pos hp, if_pos hp, if_neg hn, if_neg hn, q9_bi1]
      have n1 : ¬ m9_peo C := fun z => s7n z.2
      exact ⟨⟨fun z => absurd z n1, fun z => absurd z (q9_fON hD)⟩, fun z => absurd z n1⟩
    · rw [if_neg hp, if_neg hp]
      by_cases ha : x = 44
      · have so : m9_sio C x := ⟨by rw [s6, ha]; rfl, s7n⟩
        rw [if_pos so, if_pos ha, if_pos ha]
        refine ⟨⟨fun _ => rfl, fun _ => so⟩, fun _ => ⟨r + 1, 0, by decide, ?_⟩⟩
        have e : m9_gom C = k9_st (k9_st (m9_kpm C) 66 6 0) 66 7 (-1) := by
          unfold m9_gom
          rw [if_neg (by rw [s6]; decide), if_neg (by rw [s6]; decide)]
        obtain ⟨h1, h2, h3, h4, h5, h6⟩ := h
        obtain ⟨g1, g2, g3⟩ := q9_kpm hr h4 hv1 hv s7 sz sv sf h5
        have z87 : k9_st (k9_st Z 76 15 (nI (r + 1))) 76 16 0 87 = Z 87 := by rw [m9_st_ne _ _ _ (by decide), m9_st_ne _ _ _ (by decide)]
        rw [e]
        refine ⟨?_, ?_, ?_, ?_, fun p hp2 => ?_, Or.inl ⟨rfl, ?_, ?_⟩⟩
        · rw [m9_st_at_ne _ _ (by decide), m9_st_at, m9_upd_at]
        · rw [m9_st_at, m9_upd_at]; rfl
        · have h3 : 6 * r + 5 ≤ i := h3
          show 6 * (r + 1) + 0 ≤ i + 1
          omega
        · rw [m9_st_at_ne _ _ (by decide), m9_st_at_ne _ _ (by decide)]; exact g1
        · exact q9_pt_c (g3 p hp2) (by rw [m9_st_ne _ _ _ (by decide), m9_st_ne _ _ _ (by decide)]) (by rw [m9_st_ne _ _ _ (by decide), m9_st_ne _ _ _ (by decide)]) (by rw [m9_st_ne _ _ _ (by decide), m9_st_ne _ _ _ (by decide)]) (fun _ _ _ => by rw [z87])
        · rw [m9_st_at_ne _ _ (by decide), m9_st_at, m9_upd_at]
        · rw [m9_st_at, m9_upd_at]
      · have n1 : ¬ m9_sio C x := fun z => ha (by have := z.1; rw [s6] at this; exact this)
        rw [if_neg ha, q9_bi1]
        exact ⟨⟨fun z => absurd z n1, fun z => absurd z (q9_fON hD)⟩, fun z => absurd z n1⟩
theorem q9_step {C Z : k9_Mem} {r d i : Nat} (x : Int32) (hi : i < 60) (h : q9_L C Z r d i) : (m9_tko C x ↔ m9_tv Z r d x = 1) ∧ (m9_tko C x → ∃ r' d', d' ≤ 6 ∧ q9_L (m9_tkm C x) (m9_tm Z r d x) r' d' (i + 1)) := by
  have hs := h.2.2.2.2.2
  have hr : r < 60 := by have := h.2.2.1; omega
  rcases hs with ⟨rfl, a, b⟩ | ⟨rfl, a, v, b, c, e⟩ | ⟨rfl, a, b, c⟩ | ⟨rfl, a, b, c⟩ | ⟨rfl, a, ⟨v, b, c, e⟩, f⟩ | ⟨rfl, a, b, c, e⟩ | ⟨rfl, a, ⟨v, b, c, e, f⟩, g, k⟩
  · exact q9_step0 x h a b
  · exact q9_step1 x h a b c e
  · exact q9_step2 x h a b c
  · exact q9_step3 x h a b c
  · exact q9_step4 x h a b c e f
  · exact q9_step5 x h a b c e
  · exact q9_step6 x hr h a b c e f g k
/-- the whole text -/
theorem q9_text {M N : k9_Mem} {U : Nat} (hU : U ≤ 60) (hM : M 66 1 = nI U) (hN : N 76 3 = nI U) (hc : ∀ i, i < U → M 67 i = N 79 i) : ∃ K, m9_raR M U K ∧ m9_rut N U K (q9_zrd N) (q9_zd N) ∧ ∃ r d, d ≤ 6 ∧ q9_L (m9_ra M K) (q9_z N K) r d K := by
  obtain ⟨K, k1, k2, k3⟩ : ∃ K, K ≤ U ∧ (∀ k, k < K → m9_tko (m9_ra M k) (M 67 k)) ∧ (K < U → ¬ m9_tko (m9_ra M K) (M 67 K)) := by
    by_cases c : ∃ k, k < U ∧ ¬ m9_tko (m9_ra M k) (M 67 k)
    · have dec : DecidablePred (fun k => ¬ m9_tko (m9_ra M k) (M 67 k)) := fun k => Classical.propDecidable _
      obtain ⟨K, a1, a2, a3⟩ := fb_first (p := fun k => ¬ m9_tko (m9_ra M k) (M 67 k)) (n := U) c
      exact ⟨K, by omega, fun k hk => Classical.byContradiction (a3 k hk), fun _ => a2⟩
    · exact ⟨U, Nat.le_refl _, fun k hk => Classical.byContradiction (fun z => c ⟨k, hk, z⟩), fun z => absurd z (Nat.lt_irrefl _)⟩
  have m67 : ∀ i, m9_ra M i 67 = M 67 := fun i => m9_ra_f M (by decide) (by decide) (by decide) (by decide) i
  have L : ∀ i, i ≤ K → ∃ r d, d ≤ 6 ∧ q9_L (m9_ra M i) (q9_z N i) r d i := fun i => by
    induction i with
    | zero =>
      intro _
      refine ⟨0, 0, by decide, ?_, ?_, Nat.le_refl _, ?_, fun p hp => by omega, Or.inl ⟨rfl, ?_, ?_⟩⟩
      · show k9_st (k9_st N 76 15 0) 76 16 0 76 15 = _
        rw [m9_st_at_ne _ _ (by decide), m9_st_at, m9_upd_at]; rfl
      · show k9_st (k9_st N 76 15 0) 76 16 0 76 16 = _
        rw [m9_st_at, m9_upd_at]; rfl
      · show k9_st (k9_st (k9_st M 66 5 0) 66 6 0) 66 7 (-1) 66 5 = _
        rw [m9_st_at_ne _ _ (by decide), m9_st_at_ne _ _ (by decide), m9_st_at, m9_upd_at]; rfl
      · show k9_st (k9_st (k9_st M 66 5 0) 66 6 0) 66 7 (-1) 66 6 = _
        rw [m9_st_at_ne _ _ (by decide), m9_st_at, m9_upd_at]
      · show k9_st (k9_st (k9_st M 66 5 0) 66 6 0) 66 7 (-1) 66 7 = _
        rw [m9_st_at, m9_upd_at]
    | succ i ih =>
      intro hi
      obtain ⟨r, d, d6, l⟩ := ih (by omega)
      obtain ⟨s1, s2⟩ := q9_step (M 67 i) (show i < 60 by omega) l
      obtain ⟨r', d', e1, e2⟩ := s2 (k2 i (by omega))
      have h6 := l.2.2.1
      refine ⟨r', d', e1, ?_⟩
      show q9_L (m9_tkm (m9_ra M i) (M 67 i)) (m9_tm (q9_z N i) (q9_z N i 76 15).toNatClampNeg (q9_z N i 76 16).toNatClampNeg (N 79 i)) r' d' (i + 1)
      rw [l.1, l.2.1, m9_cl (show r < 2147483648 by omega), m9_cl (show d < 2147483648 by omega), ← hc i (by omega)]
      exact e2
  refine ⟨K, ⟨k1, k2, k3⟩, ⟨hU, hN, k1, fun i hi hiU => ?_, fun i hi => ?_, fun hK => ?_⟩, L K (Nat.le_refl _)⟩
  · obtain ⟨r, d, d6, l⟩ := L i hi
    have h6 := l.2.2.1
    rw [q9_z_eq]
    unfold q9_zrd q9_zd
    rw [l.1, l.2.1, m9_cl (show r < 2147483648 by omega), m9_cl (show d < 2147483648 by omega)]
    refine ⟨rfl, ?_, rfl, d6⟩
    omega
  · obtain ⟨r, d, d6, l⟩ := L i (by omega)
    have h6 := l.2.2.1
    have s1 := (q9_step (M 67 i) (show i < 60 by omega) l).1
    rw [q9_z_eq]
    unfold q9_zrd q9_zd
    rw [l.1, l.2.1, m9_cl (show r < 2147483648 by omega), m9_cl (show d < 2147483648 by omega), ← hc i (by omega)]
    exact s1.mp (k2 i hi)
  · obtain ⟨r, d, d6, l⟩ := L K (Nat.le_refl _)
    have h6 := l.2.2.1
    have s1 := (q9_step (M 67 K) (show K < 60 by omega) l).1
    rw [q9_z_eq]
    unfold q9_zrd q9_zd
    rw [l.1, l.2.1, m9_cl (show r < 2147483648 by omega), m9_cl (show d < 2147483648 by omega), ← hc K hK]
    rcases m9_tv_01 (q9_z N K) r d (M 67 K) with z | z
    · exact z
    · exact absurd (s1.mpr z) (k3 hK)
