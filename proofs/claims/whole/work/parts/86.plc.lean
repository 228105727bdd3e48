/-! Plain mathematics: the places of what is laid. -/
theorem q9_ef_of {r : Nat → Int32} {n s e : Nat} (hn : n < 32) (h1 : s ≤ e) (h2 : e < 96) (h3 : m9_b (r e) n = true) : m9_ef r n s ≤ e ∧ m9_b (r (m9_ef r n s)) n = true ∧ ∀ j, s ≤ j → j < m9_ef r n s → m9_b (r j) n = false := by
  have no : ∀ j, s ≤ j → j < m9_ef r n s → m9_b (r j) n = false := fun j a b => (q9_at0 _ hn).mp (m9_ef_no j a b)
  have le : m9_ef r n s ≤ e := by
    rcases Nat.lt_or_ge e (m9_ef r n s) with q | q
    · exact absurd h3 (q9_tn (no e h1 q))
    · exact q
  have yes := m9_ef_yes (r := r) (n := n) (s := s) (by omega)
  exact ⟨le, (q9_at _ hn).mp yes, no⟩
theorem q9_ef_eq {r : Nat → Int32} {n s e : Nat} (hn : n < 32) (h1 : s ≤ e) (h2 : e < 96) (h3 : m9_b (r e) n = true) (h4 : ∀ j, s ≤ j → j < e → m9_b (r j) n = false) : m9_ef r n s = e := by
  obtain ⟨a, b, c⟩ := q9_ef_of hn h1 h2 h3
  have := m9_ef_ge r n s
  rcases Nat.lt_or_ge (m9_ef r n s) e with q | q
  · exact absurd b (q9_tn (h4 _ this q))
  · omega
theorem q9_put (N : k9_Mem) (c k : Nat) (c' : Nat) : m9_put N c k 84 c' = (if c' = c then nI (k % 20) else N 84 c') ∧ m9_put N c k 85 c' = (if c' = c then nI (k / 20) else N 85 c') ∧ m9_put N c k 86 c' = (if c' = c then nI (m9_ef (N 82) (k % 20) (k / 20)) else N 86 c') := by
  unfold m9_put
  refine ⟨?_, ?_, ?_⟩
  · rw [m9_st_ne _ _ _ (by decide), m9_st_ne _ _ _ (by decide), m9_st_ne _ _ _ (by decide), m9_st_at]; rfl
  · rw [m9_st_ne _ _ _ (by decide), m9_st_ne _ _ _ (by decide), m9_st_at, m9_st_ne _ _ _ (by decide)]; rfl
  · rw [m9_st_ne _ _ _ (by decide), m9_st_at, m9_st_ne _ _ _ (by decide), m9_st_ne _ _ _ (by decide)]; rfl
theorem q9_y3 (Y : k9_Mem) : ∀ K k, k < K → m9_bg (Y 81) k = true → m9_y3 Y K 84 (fb_ct (m9_bg (Y 81)) k) = nI (k % 20) ∧ m9_y3 Y K 85 (fb_ct (m9_bg (Y 81)) k) = nI (k / 20) ∧ m9_y3 Y K 86 (fb_ct (m9_bg (Y 81)) k) = nI (m9_ef (Y 82) (k % 20) (k / 20))
  | 0, _ => fun h => by omega
  | K + 1, k => fun hk hb => by
    have e82 : m9_y3 Y K 82 = Y 82 := m9_y3_ne Y (by decide) (by decide) (by decide) (by decide) K
    unfold m9_y3
    by_cases c : m9_bg (Y 81) K = true
    · rw [if_pos c]
      obtain ⟨p1, p2, p3⟩ := q9_put (m9_y3 Y K) (fb_ct (m9_bg (Y 81)) K) K (fb_ct (m9_bg (Y 81)) k)
      rw [p1, p2, p3, e82]
      by_cases d : k = K
      · subst d
        rw [if_pos rfl, if_pos rfl, if_pos rfl]
        exact ⟨rfl, rfl, rfl⟩
      · have hlt : fb_ct (m9_bg (Y 81)) k < fb_ct (m9_bg (Y 81)) K := by
          have h1 : fb_ct (m9_bg (Y 81)) (k + 1) ≤ fb_ct (m9_bg (Y 81)) K := fb_ct_mono _ (by omega)
          rw [fb_ct_succ, if_pos hb] at h1
          omega
        rw [if_neg (by omega), if_neg (by omega), if_neg (by omega)]
        exact q9_y3 Y K k (by omega) hb
    · rw [if_neg c]
      have d : k ≠ K := fun z => c (z ▸ hb)
      exact q9_y3 Y K k (by omega) hb
theorem q9_bg (r : Nat → Int32) (k : Nat) : m9_bg r k = m9_b (r (k / 20)) (k % 20) := by
  unfold m9_bg
  rw [Bool.eq_iff_iff, decide_eq_true_iff, q9_one _ (by omega)]
/-- a note of the tune that begins ends -/
def q9_tok (Z : Nat → Int32) : Prop := ∀ n, n < 20 → ∀ a, a < 96 → m9_b (Z (386 + a)) n = true → ∃ e, a ≤ e ∧ e < 96 ∧ m9_b (Z (482 + e)) n = true
theorem q9_tlo {Z : Nat → Int32} (h : q9_tok Z) {n i : Nat} (hn : n < 20) (hi : i < 96) : m9_tlo Z n i := fun c => by
  obtain ⟨e, e1, e2, e3⟩ := h n hn i hi ((q9_at _ (by omega)).mp c)
  have := (q9_ef_of (r := fun j => Z (482 + j)) (n := n) (s := i) (by omega) e1 e2 e3).1
  omega
/-- the bits of what is laid -/
theorem q9_Y (S : k9_Mem) (B : Nat) {s k : Nat} (hs : s < 96) (hk : k < 21) :
    (m9_b (m9_y2 S B 21 81 s) k = true ↔ q9_st (q9_zp (S 77) k) B s) ∧
    (m9_b (m9_y2 S B 21 82 s) k = true ↔ q9_en (q9_zp (S 77) k) B s) ∧
    (m9_b (m9_y2 S B 21 83 s) k = true ↔ q9_pl (q9_st (q9_zp (S 77) k) B) (q9_en (q9_zp (S 77) k) B) s) := by
  obtain ⟨h1, h2, h3⟩ := q9_y2 S B 21 (Nat.le_refl _) s k hs (by omega)
  rw [h1, h2, h3]
  simp [hk]
/-- a chain that begins has its end -/
theorem q9_Yend (S : k9_Mem) (B : Nat) {s k : Nat} (hs : s < 96) (hk : k < 21) (h : m9_b (m9_y2 S B 21 81 s) k = true) : ∃ e, s ≤ e ∧ e < 96 ∧ m9_b (m9_y2 S B 21 82 e) k = true := by
  obtain ⟨e, e1, e2, e3⟩ := q9_W1 hs ((q9_Y S B hs hk).1.mp h)
  exact ⟨e, e1, e2, (q9_Y S B e2 hk).2.1.mpr e3⟩
theorem q9_Yef (S : k9_Mem) (B : Nat) {s k : Nat} (hs : s < 96) (hk : k < 21) (h : m9_b (m9_y2 S B 21 81 s) k = true) : m9_ef (m9_y2 S B 21 82) k s < 96 := by
  obtain ⟨e, e1, e2, e3⟩ := q9_Yend S B hs hk h
  have := (q9_ef_of (r := m9_y2 S B 21 82) (n := k) (s := s) (by omega) e1 e2 e3).1
  omega
theorem q9_Yped (S : k9_Mem) (B : Nat) {s k : Nat} (hs : s < 96) (hk : k < 21) (h : m9_b (m9_y2 S B 21 83 s) k = true) : ∃ e, s ≤ e ∧ e < 96 ∧ m9_b (m9_y2 S B 21 82 e) k = true := by
  obtain ⟨a, a1, a2, a3⟩ := (q9_Y S B hs hk).2.2.mp h
  obtain ⟨e, e1, e2, e3⟩ := q9_W1 (show a < 96 by omega) a2
  refine ⟨e, ?_, e2, (q9_Y S B e2 hk).2.1.mpr e3⟩
  rcases Nat.lt_or_ge e s with q | q
  · exact absurd e3 (a3 e e1 q)
  · exact q
/-- how many notes are laid, by notes and steps -/
theorem q9_Cs (r : Nat → Int32) : fb_ct (m9_bg r) 1920 = fb_sm (fun s => fb_ct (fun n => m9_b (r s) n) 20) 96 := by
  rw [← q9_sm1 (m9_bg r) 1920, show (1920 : Nat) = 20 * 96 from rfl, q9_blocks (fun k => if m9_bg r k then 1 else 0) 20 96]
  apply fb_sm_cong
  intro s _
  show fb_sm (fun n => if m9_bg r (20 * s + n) then 1 else 0) 20 = _
  rw [← q9_sm1]
  apply fb_sm_cong
  intro n hn
  show (if m9_bg r (20 * s + n) then 1 else 0) = (if m9_b (r s) n then 1 else 0)
  rw [q9_bg, show (20 * s + n) / 20 = s from by omega, show (20 * s + n) % 20 = n from by omega]
theorem q9_C960 (S : k9_Mem) (B : Nat) : fb_ct (m9_bg (m9_y2 S B 21 81)) 1920 ≤ 960 := by
  rw [q9_Cs, q9_swap (fun s n => m9_b (m9_y2 S B 21 81 s) n) 20 96]
  have h : ∀ n, n < 20 → fb_ct (fun s => m9_b (m9_y2 S B 21 81 s) n) 96 ≤ 48 := fun n hn => by
    have e : fb_ct (fun s => m9_b (m9_y2 S B 21 81 s) n) 96 = fb_ct (fun s => decide (s < 96) && m9_b (m9_y2 S B 21 81 s) n) 96 := by
      apply fb_ct_cong
      intro k hk
      simp [hk]
    rw [e, show (96 : Nat) = 2 * 48 from rfl]
    refine q9_half (fun s hs => ?_) 48
    simp only [Bool.and_eq_true, decide_eq_true_iff] at hs
    refine q9_nt (fun q => ?_)
    simp only [Bool.and_eq_true, decide_eq_true_iff] at q
    have h1 := (q9_Y S B (show s < 96 by omega) (show n < 21 by omega)).1.mp hs.2
    have h2 := (q9_Y S B (show s + 1 < 96 by omega) (show n < 21 by omega)).1.mp q.2
    exact q9_W3 h1.1 h2
  exact fb_sm_bound (c := 48) (n := 20) h
/-- what is laid is as it must be -/
theorem q9_gd (S : k9_Mem) (B : Nat) (h : q9_tok (S 77)) : m9_gd S B := by
  obtain ⟨Y, hY⟩ : ∃ Y, Y = m9_y2 S B 21 := ⟨_, rfl⟩
  have hC : m9_C S B = fb_ct (m9_bg (Y 81)) 1920 := by rw [hY]; rfl
  have hC9 : m9_C S B ≤ 960 := by rw [hC, hY]; exact q9_C960 S B
  have hN : m9_lay S B = m9_y3 Y 1920 := by rw [hY]; rfl
  have e81 : m9_y3 Y 1920 81 = Y 81 := m9_y3_ne Y (by decide) (by decide) (by decide) (by decide) _
  have e82 : m9_y3 Y 1920 82 = Y 82 := m9_y3_ne Y (by decide) (by decide) (by decide) (by decide) _
  have e83 : m9_y3 Y 1920 83 = Y 83 := m9_y3_ne Y (by decide) (by decide) (by decide) (by decide) _
  have e77 : m9_y3 Y 1920 77 = S 77 := by rw [← hN]; exact m9_lay_77 S B
  have e13 : m9_y3 Y 1920 76 13 = nI (m9_C S B) := by rw [m9_y3_c, hC]
  have ends : ∀ k, k < 1920 → m9_bg (Y 81) k = true → m9_ef (Y 82) (k % 20) (k / 20) < 96 := fun k hk hb => by
    rw [q9_bg] at hb
    rw [hY] at hb ⊢
    exact q9_Yef S B (by omega) (by omega) hb
  have pl : ∀ c, c < m9_C S B → ∃ k, k < 1920 ∧ m9_bg (Y 81) k = true ∧ m9_y3 Y 1920 84 c = nI (k % 20) ∧ m9_y3 Y 1920 85 c = nI (k / 20) ∧ m9_y3 Y 1920 86 c = nI (m9_ef (Y 82) (k % 20) (k / 20)) := fun c hc => by
    rw [hC] at hc
    obtain ⟨k, k1, k2, k3⟩ := fb_ct_kth hc
    have := q9_y3 Y 1920 k k1 k2
    rw [k3] at this
    exact ⟨k, k1, k2, this⟩
  rw [m9_gd, hN]
  refine ⟨⟨by rw [← hY, ← hC]; exact hC9, by rw [← hY]; exact ends⟩, ⟨e13, hC9, fun c hc => ?_⟩, e13, hC9, fun c hc => ?_⟩
  · obtain ⟨k, k1, k2, k3, k4, k5⟩ := pl c hc
    exact ⟨k % 20, k / 20, k3, by omega, k4, by omega, by rw [e77]; exact q9_tlo h (by omega) (by omega)⟩
  · obtain ⟨k, k1, k2, k3, k4, k5⟩ := pl c hc
    refine ⟨k % 20, k / 20, m9_ef (Y 82) (k % 20) (k / 20), k3, by omega, k4, m9_ef_ge _ _ _, k5, ends k k1 k2, fun z => ?_⟩
    rw [e83] at z
    rw [e82]
    have z2 := (q9_one _ (by decide)).mp z
    rw [hY] at z2 ⊢
    obtain ⟨e, f1, f2, f3⟩ := q9_Yped S B (show m9_ef (m9_y2 S B 21 82) (k % 20) (k / 20) < 96 by rw [← hY]; exact ends k k1 k2) (show 20 < 21 by decide) z2
    have := (q9_ef_of (r := m9_y2 S B 21 82) (n := 20) (by decide) f1 f2 f3).1
    omega
