/-! Plain mathematics: the calls over the text. -/
theorem q9_z_ne (N : k9_Mem) {k : Nat} (h1 : k ≠ 76) (h2 : k ≠ 87) : ∀ i, q9_z N i k = N k
  | 0 => by
    show k9_st (k9_st N 76 15 0) 76 16 0 k = _
    rw [m9_st_ne _ _ _ h1, m9_st_ne _ _ _ h1]
  | i + 1 => (m9_tm_f h1 h2).trans (q9_z_ne N h1 h2 i)
theorem q9_z_76 (N : k9_Mem) {j : Nat} (h1 : j ≠ 16) (h2 : j ≠ 15) : ∀ i, q9_z N i 76 j = N 76 j
  | 0 => by
    show k9_st (k9_st N 76 15 0) 76 16 0 76 j = _
    rw [m9_st_at_ne _ _ h1, m9_st_at_ne _ _ h2]
  | i + 1 => (m9_tm_3 h1 h2).trans (q9_z_76 N h1 h2 i)
/-- firstError -/
theorem q9_first {M : k9_Mem} {B R F U : Nat} (h : q9_rel M B R F U) : ∃ K, m9_raR M U K ∧ m9_rut (k9_st (m9_ra M K) 76 5 0) U K (q9_zrd (k9_st (m9_ra M K) 76 5 0)) (q9_zd (k9_st (m9_ra M K) 76 5 0)) ∧ m9_ra M K 76 = M 76 ∧ q9_rel (m9_xr (k9_st (m9_ra M K) 76 5 0) (q9_zrd (k9_st (m9_ra M K) 76 5 0)) (q9_zd (k9_st (m9_ra M K) 76 5 0)) K) B R F U := by
  obtain ⟨t1, t2, t3, t4⟩ := h.2.2.2.2
  have raf : ∀ i k, k ≠ 66 → k ≠ 68 → k ≠ 69 → k ≠ 70 → m9_ra M i k = M k := fun i k a b c d => m9_ra_f M a b c d i
  obtain ⟨K0, a1, -, -⟩ := q9_text (M := M) (N := M) t2 t1 t3 t4
  have e76 : ∀ i, m9_ra M i 76 = M 76 := fun i => raf i 76 (by decide) (by decide) (by decide) (by decide)
  obtain ⟨K, b1, b2, b3⟩ := q9_text (M := M) (N := k9_st (m9_ra M K0) 76 5 0) t2 t1 (by rw [m9_st_at_ne _ _ (by decide), e76]; exact t3) (fun i hi => by rw [m9_st_ne _ _ _ (by decide), raf K0 79 (by decide) (by decide) (by decide) (by decide)]; exact t4 i hi)
  have hKK : K = K0 := by
    rcases Nat.lt_trichotomy K K0 with q | q | q
    · exact absurd (a1.2.1 K q) (b1.2.2 (by have := a1.1; omega))
    · exact q
    · exact absurd (b1.2.1 K0 q) (a1.2.2 (by have := b1.1; omega))
  subst hKK
  refine ⟨K, b1, b2, e76 K, ?_⟩
  rw [q9_z_eq]
  refine q9_rel_c h (fun k hk => ?_) ?_ ?_ ?_
  · rw [q9_z_ne _ (by omega) (by omega), m9_st_ne _ _ _ (by omega), raf K k (by omega) (by omega) (by omega) (by omega)]
  · rw [q9_z_ne _ (by decide) (by decide), m9_st_ne _ _ _ (by decide)]
    exact m9_ra_1 M K
  · rw [q9_z_76 _ (by decide) (by decide), m9_st_at_ne _ _ (by decide), e76]
  · rw [q9_z_76 _ (by decide) (by decide), m9_st_at_ne _ _ (by decide), e76]
/-- the parts are cut alike -/
theorem q9_parts {Kp S : k9_Mem} {B R P : Nat} (hp : q9_P Kp 1 (S 77)) (hk : q9_ok (S 77) B R) (hpt : ∀ p, p < P → q9_pt Kp S p) (hfit : ∀ p, p < P → m9_fit7 S p) : ∀ i, i ≤ P → q9_P (m9_ca Kp B i) 1 (m9_pp S B i 77) ∧ q9_ok (m9_pp S B i 77) B R ∧ m9_can Kp B i = m9_ppn S B i
  | 0, _ => ⟨hp, hk, rfl⟩
  | i + 1, hi => by
    obtain ⟨h1, h2, h3⟩ := q9_parts hp hk hpt hfit i (by omega)
    obtain ⟨p1, p2, f, n, f1, n1, n2, e69, z1, e70, z2⟩ := hpt i (by omega)
    have hf := hfit i (by omega)
    have hfn : f + n ≤ 96 := by
      unfold m9_fit7 at hf
      rw [z1, z2, nI_add] at hf
      rcases Nat.lt_or_ge 96 (f + n) with q | q
      · exact absurd ((m9_lt (a := 96) (b := f + n) (by decide) (by omega)).mpr q) hf
      · exact q
    have etk : Kp 68 i + 2 = m9_tkn (S 87 (3 * i)) := by rw [p1, q9_tkn]
    have htk : ∃ t, t < 26 ∧ m9_tkn (S 87 (3 * i)) = nI t := by
      rw [q9_tkn]
      rcases p2 with q | ⟨v, v1, v2⟩
      · exact ⟨2, by decide, by rw [q]; rfl⟩
      · exact ⟨v + 1 + 2, by omega, by rw [v2, nI_1, show (2 : Int32) = nI 2 from rfl, nI_add]⟩
    obtain ⟨t, t1, t2⟩ := htk
    have g1 : (Kp 69 i).toNatClampNeg = f := by rw [e69, m9_cl (by omega)]
    have g2 : (Kp 70 i).toNatClampNeg = n := by rw [e70, m9_cl (by omega)]
    have g3 : (S 87 (3 * i + 1)).toNatClampNeg = f := by rw [z1, m9_cl (by omega)]
    have g4 : (S 87 (3 * i + 2)).toNatClampNeg = n := by rw [z2, m9_cl (by omega)]
    have ec : m9_ca Kp B (i + 1) = m9_ch (m9_ca Kp B i) (m9_tk (m9_tkn (S 87 (3 * i)))) f n B (f + n) := by
      show m9_ch (m9_ca Kp B i) (m9_tk (Kp 68 i + 2)) (Kp 69 i).toNatClampNeg (Kp 70 i).toNatClampNeg B ((Kp 69 i).toNatClampNeg + (Kp 70 i).toNatClampNeg) = _
      rw [etk, g1, g2]
    have ep : m9_pp S B (i + 1) 77 = m9_zc (m9_pp S B i 77) (m9_tk (m9_tkn (S 87 (3 * i)))) (m9_pe f n B) := by
      show k9_sc (m9_pp S B i) 77 (m9_zc (m9_pp S B i 77) (m9_tk (m9_tkn (S 87 (3 * i)))) (m9_pe (S 87 (3 * i + 1)).toNatClampNeg (S 87 (3 * i + 2)).toNatClampNeg B)) 77 = _
      rw [k9_sc_eq, g3, g4]
    have en : m9_can Kp B (i + 1) = m9_can Kp B i + m9_chn (m9_ca Kp B i) (m9_tk (m9_tkn (S 87 (3 * i)))) f n B (f + n) := by
      show m9_can Kp B i + m9_chn (m9_ca Kp B i) (m9_tk (Kp 68 i + 2)) (Kp 69 i).toNatClampNeg (Kp 70 i).toNatClampNeg B ((Kp 69 i).toNatClampNeg + (Kp 70 i).toNatClampNeg) = _
      rw [etk, g1, g2]
    have er : m9_ppn S B (i + 1) = m9_ppn S B i + m9_zn (m9_pp S B i 77) (m9_tk (m9_tkn (S 87 (3 * i)))) (m9_pe f n B) := by
      show m9_ppn S B i + m9_zn (m9_pp S B i 77) (m9_tk (m9_tkn (S 87 (3 * i)))) (m9_pe (S 87 (3 * i + 1)).toNatClampNeg (S 87 (3 * i + 2)).toNatClampNeg B) = _
      rw [g3, g4]
    rw [ec, ep, en, er, h3]
    refine ⟨q9_P_ch h1 _ _ _ _, q9_ok_zc h2 (by rw [t2]; exact q9_tkhi t1) _, ?_⟩
    rw [q9_chn (fun s hs => (h1.1 s hs).1) _ B hfn]
theorem q9_pun0 {C Z : k9_Mem} {r d i : Nat} (h : q9_L C Z r d i) : (C 66 6 = 2 ∧ ¬ C 66 7 = -1) ↔ d = 6 := by
  rcases h.2.2.2.2.2 with ⟨rfl, a, b⟩ | ⟨rfl, a, v, b, c, e⟩ | ⟨rfl, a, b, c⟩ | ⟨rfl, a, b, c⟩ | ⟨rfl, a, ⟨v, b, c, e⟩, f⟩ | ⟨rfl, a, b, c, e⟩ | ⟨rfl, a, ⟨v, b, c, e, f⟩, g, k⟩
  · rw [a]; exact ⟨fun z => absurd z.1 (by decide), fun z => absurd z (by decide)⟩
  · rw [a]; exact ⟨fun z => absurd z.1 (by decide), fun z => absurd z (by decide)⟩
  · rw [a]; exact ⟨fun z => absurd z.1 (by decide), fun z => absurd z (by decide)⟩
  · rw [a]; exact ⟨fun z => absurd z.1 (by decide), fun z => absurd z (by decide)⟩
  · rw [a]; exact ⟨fun z => absurd z.1 (by decide), fun z => absurd z (by decide)⟩
  · exact ⟨fun z => absurd b z.2, fun z => absurd z (by decide)⟩
  · exact ⟨fun _ => rfl, fun _ => ⟨a, by rw [e]; exact q9_nI_m1 (by omega)⟩⟩
/-- what punchAll finds -/
theorem q9_pa {M N : k9_Mem} {U : Nat} (hU : U ≤ 60) (hM : M 66 1 = nI U) (hN : N 76 3 = nI U) (hc : ∀ i, i < U → M 67 i = N 79 i) : ∃ K r, m9_raR M U K ∧ m9_rut N U K (q9_zrd N) (q9_zd N) ∧ q9_z N K 76 15 = nI r ∧ 3 * r + 2 < 36 ∧ (m9_row M U K ↔ K = U ∧ q9_z N K 76 16 = 6) ∧ (m9_row M U K → m9_rrm M U K 66 5 = nI (r + 1) ∧ ∀ p, p < r + 1 → q9_pt (m9_rrm M U K) (q9_z N K) p) := by
  obtain ⟨K, a1, a2, r, d, d6, l⟩ := q9_text hU hM hN hc
  have h6 := l.2.2.1
  have hK := a1.1
  have h16 : q9_z N K 76 16 = 6 ↔ d = 6 := by
    rw [l.2.1, show (6 : Int32) = nI 6 from rfl]
    exact m9_eq (by omega) (by omega)
  have hrow : m9_row M U K ↔ K = U ∧ q9_z N K 76 16 = 6 := by
    unfold m9_row
    rw [h16, q9_pun0 l]
  refine ⟨K, r, a1, a2, l.1, by omega, hrow, fun hr => ?_⟩
  have hd : d = 6 := h16.mp (hrow.mp hr).2
  have er : m9_rrm M U K = m9_kpm (m9_ra M K) := if_pos hr
  rw [er]
  subst hd
  rcases l.2.2.2.2.2 with ⟨z, _⟩ | ⟨z, _⟩ | ⟨z, _⟩ | ⟨z, _⟩ | ⟨z, _⟩ | ⟨z, _⟩ | ⟨_, a, ⟨v, b, c, e, f⟩, g, k⟩
  · exact absurd z (by decide)
  · exact absurd z (by decide)
  · exact absurd z (by decide)
  · exact absurd z (by decide)
  · exact absurd z (by decide)
  · exact absurd z (by decide)
  · obtain ⟨g1, g2, g3⟩ := q9_kpm (show r < 60 by omega) l.2.2.2.1 b c e f g k l.2.2.2.2.1
    exact ⟨g1, g3⟩
