/-! The digest of the class, and that both digests agree. -/
def r9_h1 (M : k9_Mem) (R : Nat) : Nat → Int64 := m9_mix 2371 (fun w => (m9_cou M R (nI w)).toInt64)
def r9_h4 (M : k9_Mem) (R : Nat) : Int64 := m9_hst M R (31 * (31 * r9_h1 M R 15 + (M 1 5).toInt64) + (M 1 6).toInt64) 96
def r9_h6 (M : k9_Mem) (R : Nat) : Int64 := m9_hn M 6 (m9_oft M) 3 (m9_hn M 59 (m9_ofp M) 5 (r9_h4 M R) 96) 96
def r9_h8 (M : k9_Mem) (R B : Nat) : Int64 := 31 * m9_hbest M B (r9_h6 M R) + (m9_shr (m9_same M 59 6) (m9_bin (M 7) 2097150)).toInt64
def r9_h9 (M : k9_Mem) (R B U : Nat) : Nat → Int64 := m9_mix (31 * r9_h8 M R B + (nI U).toInt64) (fun i => (M 67 i).toInt64)
theorem r9_hs (M : k9_Mem) (R : Nat) : r9_h1 M R 0 = 2371 ∧ ∀ i, r9_h1 M R (i + 1) = 31 * r9_h1 M R i + (m9_cou M R (nI i)).toInt64 := by
  unfold r9_h1
  exact ⟨r9_mix0 _ _, fun i => r9_mixs _ _ i⟩
theorem ct_X6_digest (l : Launch) (G : k9_G) (M : k9_Mem) {B R F U : Nat} (hk : m9_okM M B R F U) (hsh : m9_shOk (m9_same M 59 6) (m9_bin (M 7) 2097150)) : k9_Cl l yX6_digest wsX6_digest rm_X6_digest G M [.ref (k9_ga G 0)] (r9_h9 M R B U U) (m9_bb6 M B) := by
  refine k9_metL (own := RX6) (by decide +kernel) rfl rfl (Nat.le_of_ble_eq_true rfl) ?_
  intro p e s m args below meth c A Q X HR
  obtain ⟨⟨hB, hB3⟩, ⟨hR, hR8⟩, hs, hU, hU6⟩ := hk
  have n : ∀ k, k ≠ 71 → k ≠ 74 → k ≠ 75 → k ≠ 72 → m9_bb6 M B k = M k := fun k a b c d => m9_bb6_ne M B a b c d
  have esame : m9_same (m9_bb6 M B) 59 6 = m9_same M 59 6 := by
    unfold m9_same
    rw [n (59 + 1) (by decide) (by decide) (by decide) (by decide), n (59 + 2) (by decide) (by decide) (by decide) (by decide), n (6 + 1) (by decide) (by decide) (by decide) (by decide), n (6 + 2) (by decide) (by decide) (by decide) (by decide)]
  have e7 : m9_bb6 M B 7 = M 7 := n 7 (by decide) (by decide) (by decide) (by decide)
  have e66 : m9_bb6 M B 66 = M 66 := n 66 (by decide) (by decide) (by decide) (by decide)
  have e67 : m9_bb6 M B 67 = M 67 := n 67 (by decide) (by decide) (by decide) (by decide)
  obtain ⟨z1, s1⟩ := r9_hs M R
  have hfin : r9_h9 M R B U U = m9_mix (31 * (31 * m9_hbest M B (r9_h6 M R) + (m9_shr (m9_same M 59 6) (m9_bin (M 7) 2097150)).toInt64) + (nI U).toInt64) (fun i => (M 67 i).toInt64) U := rfl
  rw [hfin] at HR
  have h6 : r9_h6 M R = m9_hn M 6 (m9_oft M) 3 (m9_hn M 59 (m9_ofp M) 5 (m9_hst M R (31 * (31 * r9_h1 M R 15 + (M 1 5).toInt64) + (M 1 6).toInt64) 96) 96) 96 := rfl
  rw [h6] at HR
  generalize r9_h1 M R = a1 at *
  have loop1 : ∀ i, i ≤ 15 → k9_U p l e rm_X6_digest s m args below meth c Q A G 4 0 0 M 6 [(0, .ref (k9_ga G 0)), (1, .long (a1 i)), (3, .int (nI i))] [] := by
    refine m9_down 15 (fun i hi next => ?_)
    have st := s1 i
    have hlt : (14 : Int32) < nI i ↔ 14 < i := m9_lt (a := 14) (by decide) (by omega)
    have go : ¬ (14 : Int32) < nI i → i < 15 := fun c1 => by
      rcases Nat.lt_or_ge i 15 with q | q
      · exact q
      · exact absurd (hlt.mpr (by omega)) c1
    refine bk_X6_digest_6 (rv1 := 31 * a1 i + (M 1 5).toInt64) (rv2 := 31 * (31 * a1 i + (M 1 5).toInt64) + (M 1 6).toInt64) (rv3 := m9_hst M R (31 * (31 * a1 i + (M 1 5).toInt64) + (M 1 6).toInt64) 96)
      (rv4 := m9_hn M 59 (m9_ofp M) 5 (m9_hst M R (31 * (31 * a1 i + (M 1 5).toInt64) + (M 1 6).toInt64) 96) 96) (rv5 := m9_hn M 6 (m9_oft M) 3 (m9_hn M 59 (m9_ofp M) 5 (m9_hst M R (31 * (31 * a1 i + (M 1 5).toInt64) + (M 1 6).toInt64) 96) 96) 96)
      (rv6 := m9_hbest M B (m9_hn M 6 (m9_oft M) 3 (m9_hn M 59 (m9_ofp M) 5 (m9_hst M R (31 * (31 * a1 i + (M 1 5).toInt64) + (M 1 6).toInt64) 96) 96) 96)) (mv6 := m9_bb6 M B) (rv7 := m9_shr (m9_same M 59 6) (m9_bin (M 7) 2097150)) (rv8 := (m9_shr (m9_same M 59 6) (m9_bin (M 7) 2097150)).toInt64)
      (rv9 := 31 * m9_hbest M B (m9_hn M 6 (m9_oft M) 3 (m9_hn M 59 (m9_ofp M) 5 (m9_hst M R (31 * (31 * a1 i + (M 1 5).toInt64) + (M 1 6).toInt64) 96) 96) 96) + (m9_shr (m9_same M 59 6) (m9_bin (M 7) 2097150)).toInt64)
      (rv10 := m9_mix (31 * (31 * m9_hbest M B (m9_hn M 6 (m9_oft M) 3 (m9_hn M 59 (m9_ofp M) 5 (m9_hst M R (31 * (31 * a1 i + (M 1 5).toInt64) + (M 1 6).toInt64) 96) 96) 96) + (m9_shr (m9_same M 59 6) (m9_bin (M 7) 2097150)).toInt64) + (nI U).toInt64) (fun i => (M 67 i).toInt64) U)
      (rv11 := m9_cou M R (nI i)) (rv12 := a1 (i + 1)) X
      (fun c1 => ct_X6_mixed l G M _ _) (fun c1 => ct_X6_mixed l G M _ _) (fun c1 => ct_X6_mixedSteps l G M (by omega) hR _) (fun c1 => ct_X6_mixedNotes_p l G M _) (fun c1 => ct_X6_mixedNotes_t l G M _) (fun c1 => ct_X6_mixedBest l G M (by omega) hB _)
      (fun c1 => ?_) (fun c1 => ct_X6_bitsOfShare l G _ (m9_shr_U hsh)) (fun c1 => ct_X6_mixed l G _ _ _) (fun c1 => ?_) (fun c1 => ?_) (fun c1 => ct_X6_counted l G M (by omega) hR (nI i)) (fun c1 => ?_) (fun c1 => ?_)
    · have ct := ct_X6_rightShare l G (m9_bb6 M B) (by rw [esame, e7]; exact hsh)
      rw [esame, e7] at ct
      exact ct
    · have ct := ct_X2_mixedInto l G (m9_bb6 M B) (U := U) hU6 (by rw [e66]; exact hU) (31 * m9_hbest M B (m9_hn M 6 (m9_oft M) 3 (m9_hn M 59 (m9_ofp M) 5 (m9_hst M R (31 * (31 * a1 i + (M 1 5).toInt64) + (M 1 6).toInt64) 96) 96) 96) + (m9_shr (m9_same M 59 6) (m9_bin (M 7) 2097150)).toInt64)
      rw [e67] at ct
      exact ct
    · have hi2 : i = 15 := by have := hlt.mp c1; omega
      subst hi2
      exact HR 101 [] dX6_digest_101
    · rw [st]
      exact ct_X6_mixed l G M _ _
    · rw [nI_1]
      exact next (go c1)
  have h9 := loop1 0 (by decide)
  rw [z1] at h9
  exact bk_X6_digest_0 X h9
/-- mixing row by row -/
theorem r9_mix_c {h : Int64} {f g : Nat → Int64} : ∀ n, (∀ k, k < n → f k = g k) → m9_mix h f n = m9_mix h g n
  | 0, _ => rfl
  | n + 1, hh => by rw [r9_mixs, r9_mixs, r9_mix_c n (fun k hk => hh k (by omega)), hh n (by omega)]
theorem r9_mix_add (h : Int64) (f : Nat → Int64) (a : Nat) : ∀ b, m9_mix h f (a + b) = m9_mix (m9_mix h f a) (fun k => f (a + k)) b
  | 0 => rfl
  | b + 1 => by rw [← Nat.add_assoc, r9_mixs, r9_mixs, r9_mix_add h f a b]
theorem r9_hst (M : k9_Mem) (R : Nat) (h : Int64) : ∀ n, m9_hst M R h n = m9_mix h (fun k => (m9_ofs M R (k / 7) (nI (k % 7))).toInt64) (7 * n)
  | 0 => rfl
  | n + 1 => by
    show m9_mix (m9_hst M R h n) (fun w => (m9_ofs M R n (nI w)).toInt64) 7 = _
    rw [r9_hst M R h n, Nat.mul_succ, r9_mix_add]
    refine r9_mix_c 7 (fun k hk => ?_)
    show (m9_ofs M R n (nI k)).toInt64 = (m9_ofs M R ((7 * n + k) / 7) (nI ((7 * n + k) % 7))).toInt64
    rw [show (7 * n + k) / 7 = n from by omega, show (7 * n + k) % 7 = k from by omega]
/-- the places of a row, one after the other -/
theorem r9_hnB {M : k9_Mem} {q : Nat} {r : Nat → Int32} (hr : ∀ s, s < 96 → ∀ n, n < 20 → m9_b (M (q + 1) s) (n + 1) = m9_b (r s) n) {s j : Nat} (hs : s < 96) (hj : j < 20) : m9_begins M q (nI (j + 1)) (nI s) ↔ m9_bg r (20 * s + j) = true := by
  unfold m9_begins
  rw [m9_cl (show s < 2147483648 by omega), q9_at _ (by omega), hr s hs j (by omega), q9_bg, show (20 * s + j) / 20 = s from by omega, show (20 * s + j) % 20 = j from by omega]
  exact ⟨fun z => z.2, fun z => ⟨m9_isS_nI hs, z⟩⟩
theorem r9_hnI_s (M : k9_Mem) (q : Nat) (val : Int32 → Int32 → Int32 → Int32) (L : Nat) (h : Int64) (s j : Nat) : m9_hnI M q val L h s (j + 1) = if m9_begins M q (nI (j + 1)) (nI s) then m9_mix (m9_hnI M q val L h s j) (fun w => (val (nI (j + 1)) (nI s) (nI w)).toInt64) (L + 1) else m9_hnI M q val L h s j := rfl
theorem r9_hn_s (M : k9_Mem) (q : Nat) (val : Int32 → Int32 → Int32 → Int32) (L : Nat) (h : Int64) (s : Nat) : m9_hn M q val L h (s + 1) = m9_hnI M q val L (m9_hn M q val L h s) s 20 := rfl
theorem r9_hnI {M : k9_Mem} {q : Nat} {r : Nat → Int32} {val : Int32 → Int32 → Int32 → Int32} {F : Nat → Int64} {L : Nat} (hr : ∀ s, s < 96 → ∀ n, n < 20 → m9_b (M (q + 1) s) (n + 1) = m9_b (r s) n) (hv : ∀ k, k < 1920 → m9_bg r k = true → ∀ w, w < L + 1 → (val (nI (k % 20 + 1)) (nI (k / 20)) (nI w)).toInt64 = F ((L + 1) * fb_ct (m9_bg r) k + w)) {s : Nat} (hs : s < 96) (h : Int64) : ∀ j, j ≤ 20 → m9_hnI M q val L (m9_mix h F ((L + 1) * fb_ct (m9_bg r) (20 * s))) s j = m9_mix h F ((L + 1) * fb_ct (m9_bg r) (20 * s + j))
  | 0, _ => rfl
  | j + 1, hj => by
    have ih := r9_hnI (val := val) hr hv hs h j (by omega)
    have hb := r9_hnB (q := q) hr hs (j := j) (by omega)
    have h9 := hv (20 * s + j) (by omega)
    rw [show (20 * s + j) / 20 = s from by omega, show (20 * s + j) % 20 = j from by omega] at h9
    rw [r9_hnI_s, ih, ← Nat.add_assoc, fb_ct_succ]
    by_cases c : m9_bg r (20 * s + j) = true
    · rw [if_pos (hb.mpr c), if_pos c, Nat.mul_succ (L + 1), r9_mix_add h F ((L + 1) * fb_ct (m9_bg r) (20 * s + j)) (L + 1)]
      exact r9_mix_c (f := fun w => (val (nI (j + 1)) (nI s) (nI w)).toInt64) (g := fun k => F ((L + 1) * fb_ct (m9_bg r) (20 * s + j) + k)) (L + 1) (fun w hw => h9 c w hw)
    · rw [if_neg (show ¬ m9_begins M q (nI (j + 1)) (nI s) from fun z => c (hb.mp z)), if_neg c]
      rfl
theorem r9_hn {M : k9_Mem} {q : Nat} {r : Nat → Int32} {val : Int32 → Int32 → Int32 → Int32} {F : Nat → Int64} {L : Nat} (hr : ∀ s, s < 96 → ∀ n, n < 20 → m9_b (M (q + 1) s) (n + 1) = m9_b (r s) n) (hv : ∀ k, k < 1920 → m9_bg r k = true → ∀ w, w < L + 1 → (val (nI (k % 20 + 1)) (nI (k / 20)) (nI w)).toInt64 = F ((L + 1) * fb_ct (m9_bg r) k + w)) (h : Int64) : ∀ s, s ≤ 96 → m9_hn M q val L h s = m9_mix h F ((L + 1) * fb_ct (m9_bg r) (20 * s))
  | 0, _ => rfl
  | s + 1, hs => by
    rw [r9_hn_s, r9_hn hr hv h s (by omega), r9_hnI hr hv (show s < 96 by omega) h 20 (Nat.le_refl _), Nat.mul_succ]
