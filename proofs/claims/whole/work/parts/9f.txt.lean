/-! Plain mathematics: punchAll. -/
/-- what is known of K characters and r parts -/
def q9_PA (M : k9_Mem) (U K r : Nat) : Prop := m9_raR M U K ∧ r ≤ 10 ∧ (m9_row M U K → m9_rrm M U K 66 5 = nI (r + 1) ∧ ∀ i, i < r + 1 → m9_prt0 (m9_rrm M U K) i) ∧ ∀ N : k9_Mem, N 76 3 = nI U → (∀ i, i < U → M 67 i = N 79 i) → m9_rut N U K (q9_zrd N) (q9_zd N) ∧ q9_z N K 76 15 = nI r ∧ (m9_row M U K ↔ K = U ∧ q9_z N K 76 16 = 6) ∧ (m9_row M U K → ∀ p, p < r + 1 → q9_pt (m9_rrm M U K) (q9_z N K) p)
theorem q9_PA_of {M : k9_Mem} {U : Nat} (hU : U ≤ 60) (hM : M 66 1 = nI U) : ∃ K r, q9_PA M U K r := by
  have gen : ∀ N : k9_Mem, N 76 3 = nI U → (∀ i, i < U → M 67 i = N 79 i) → ∃ K r, m9_raR M U K ∧ m9_rut N U K (q9_zrd N) (q9_zd N) ∧ q9_z N K 76 15 = nI r ∧ m9_ra M K 66 5 = nI r ∧ r ≤ 10 ∧ (m9_row M U K ↔ K = U ∧ q9_z N K 76 16 = 6) ∧ (m9_row M U K → m9_rrm M U K 66 5 = nI (r + 1) ∧ ∀ p, p < r + 1 → q9_pt (m9_rrm M U K) (q9_z N K) p) := fun N hN hc => by
    obtain ⟨K, a1, a2, r, d, d6, l⟩ := q9_text hU hM hN hc
    have h6 := l.2.2.1
    have hK := a1.1
    have h16 : q9_z N K 76 16 = 6 ↔ d = 6 := by
      rw [l.2.1, show (6 : Int32) = nI 6 from rfl]
      exact m9_eq (by omega) (by omega)
    have hrow : m9_row M U K ↔ K = U ∧ q9_z N K 76 16 = 6 := by
      unfold m9_row
      rw [h16, q9_pun0 l]
    refine ⟨K, r, a1, a2, l.1, l.2.2.2.1, by omega, hrow, fun hr => ?_⟩
    have hd : d = 6 := h16.mp (hrow.mp hr).2
    have er : m9_rrm M U K = m9_kpm (m9_ra M K) := if_pos hr
    rw [er]
    subst hd
    rcases l.2.2.2.2.2 with ⟨z, _⟩ | ⟨z, _⟩ | ⟨z, _⟩ | ⟨z, _⟩ | ⟨z, _⟩ | ⟨z, _⟩ | ⟨_, a, ⟨v, b, c, e, f⟩, g, k⟩
    · exact absurd z (by decide)
    · exact absurd z (by decide)
    · exact absurd z (by decide)
    · exact absurd z (by decide)
    · exact absurd z (by decide)
    · exact absurd z (by decide)
    · obtain ⟨g1, g2, g3⟩ := q9_kpm (show r < 60 by omega) l.2.2.2.1 b c e f g k l.2.2.2.2.1
      exact ⟨g1, g3⟩
  obtain ⟨K, r, b1, b2, b3, b4, b5, b6, b7⟩ := gen (k9_st (k9_sc M 79 (M 67)) 76 3 (nI U)) (by rw [m9_st_at, m9_upd_at]) (fun i _ => by rw [m9_st_ne _ _ _ (by decide), k9_sc_eq])
  refine ⟨K, r, b1, b5, fun hr => ⟨(b7 hr).1, fun i hi => ?_⟩, fun N hN hc => ?_⟩
  · obtain ⟨_, _, f, n, f1, n1, n2, e1, _, e2, _⟩ := (b7 hr).2 i hi
    exact ⟨f, n, e1, e2, f1, n1, n2⟩
  · obtain ⟨K', r', c1, c2, c3, c4, c5, c6, c7⟩ := gen N hN hc
    have hKK : K' = K := by
      rcases Nat.lt_trichotomy K' K with q | q | q
      · exact absurd (b1.2.1 K' q) (c1.2.2 (by have := b1.1; omega))
      · exact q
      · exact absurd (c1.2.1 K q) (b1.2.2 (by have := c1.1; omega))
    subst hKK
    have hrr : r' = r := by
      rw [b4] at c4
      exact ((m9_eq (by omega) (by omega)).mp c4).symm
    subst hrr
    exact ⟨c2, c3, c6, fun hr => (c7 hr).2⟩
theorem q9_fits {C Z : k9_Mem} {p : Nat} (h : q9_pt C Z p) : m9_fit C p ↔ m9_fit7 Z p := by
  obtain ⟨_, _, f, n, f1, n1, n2, e1, e2, e3, e4⟩ := h
  unfold m9_fit m9_fit7
  rw [e1, e2, e3, e4]
theorem q9_xPunchAll {M N : k9_Mem} {U K r : Nat} (h : q9_PA M U K r) (hN : N 76 3 = nI U) (hc : ∀ i, i < U → M 67 i = N 79 i) [Decidable (m9_allf (m9_rrm M U K) (r + 1))] [Decidable (∀ i, i < r + 1 → m9_fit7 (q9_z N K) i)] : q9_k2 (m9_xPunchAll M U K (r + 1)) = m9_rpa (q9_z N K) U K r := by
  obtain ⟨a1, a2, a3, a4⟩ := h
  obtain ⟨b1, b2, b3, b4⟩ := a4 N hN hc
  unfold m9_xPunchAll m9_rpa
  by_cases c : m9_row M U K
  · rw [if_pos c, if_neg (show ¬ ¬ (K = U ∧ q9_z N K 76 16 = 6) from fun z => z (b3.mp c))]
    have e : m9_allf (m9_rrm M U K) (r + 1) ↔ ∀ i, i < r + 1 → m9_fit7 (q9_z N K) i := forall_congr' (fun i => forall_congr' (fun hi => q9_fits (b4 c i hi)))
    by_cases d : m9_allf (m9_rrm M U K) (r + 1)
    · rw [if_pos d, if_pos (e.mp d)]; rfl
    · rw [if_neg d, if_neg (fun z => d (e.mpr z))]; exact q9_k2s
  · rw [if_neg c, if_pos (fun z => c (b3.mpr z))]; exact q9_k2a
theorem q9_rel_rrm {M : k9_Mem} {B R F U K : Nat} (h : q9_rel M B R F U) : q9_rel (m9_rrm M U K) B R F U := by
  refine q9_rel_c h (fun k hk => m9_rrm_f M U K (by omega) (by omega) (by omega) (by omega)) ?_ (by rw [m9_rrm_f M U K (by decide) (by decide) (by decide) (by decide)]) (by rw [m9_rrm_f M U K (by decide) (by decide) (by decide) (by decide)])
  unfold m9_rrm
  by_cases c : m9_row M U K
  · rw [if_pos c, m9_kpm_1]; exact m9_ra_1 M K
  · rw [if_neg c]; exact m9_ra_1 M K
theorem q9_paF {M : k9_Mem} {B R F U K r : Nat} (h : q9_rel M B R F U) {k : Nat} (hk : 66 ≤ k) (h66 : k ≠ 66) (h68 : k ≠ 68) (h69 : k ≠ 69) (h70 : k ≠ 70) : m9_paM M F B U K (r + 1) k = M k := by
  have h' := q9_rel_rrm (K := K) h
  unfold m9_paM
  rw [q9_hear_f _ _ (by omega) (by omega) (by omega) (by omega) (by omega), m9_st_ne _ _ _ h66, m9_ca_f _ _ (by omega) (by omega), m9_keep_f h'.2.2.2.1.1 (by omega), m9_rrm_f M U K h66 h68 h69 h70]
/-- where it throws -/
theorem q9_paThrow {M : k9_Mem} {B R F U K : Nat} (h : q9_rel M B R F U) (v : Int32) : q9_rel (k9_st (q9_z (m9_rrm M U K) K) 76 5 v) B R F U := by
  have h' := q9_rel_rrm (K := K) h
  refine q9_rel_c h' (fun k hk => ?_) ?_ ?_ ?_
  · rw [m9_st_ne _ _ _ (by omega), q9_z_ne _ (by omega) (by omega)]
  · rw [m9_st_ne _ _ _ (by decide), q9_z_ne _ (by decide) (by decide)]
  · rw [m9_st_at_ne _ _ (by decide), q9_z_76 _ (by decide) (by decide)]
  · rw [m9_st_at_ne _ _ (by decide), q9_z_76 _ (by decide) (by decide)]
/-- where it punches -/
theorem q9_paDone {M : k9_Mem} {B R F U K r : Nat} (h : q9_rel M B R F U) (ha : q9_PA M U K r) (hrow : m9_row M U K) (hfit : ∀ i, i < r + 1 → m9_fit7 (q9_z (m9_paM M F B U K (r + 1)) K) i) : m9_can (m9_keep (m9_rrm M U K) F) B (r + 1) = m9_ppn (m9_paS (q9_z (m9_paM M F B U K (r + 1)) K) F) B (r + 1) ∧ q9_rel (m9_pp (m9_paS (q9_z (m9_paM M F B U K (r + 1)) K) F) B (r + 1)) B R (q9_F F) 0 := by
  have h' := q9_rel_rrm (K := K) h
  have hs := h'.2.2.2.1.1
  have pf : ∀ k, 66 ≤ k → k ≠ 66 → k ≠ 68 → k ≠ 69 → k ≠ 70 → m9_paM M F B U K (r + 1) k = M k := fun k a b c d e => q9_paF h a b c d e
  obtain ⟨t1, t2, t3, t4⟩ := h.2.2.2.2
  obtain ⟨N, hN⟩ : ∃ N, N = m9_paM M F B U K (r + 1) := ⟨_, rfl⟩
  obtain ⟨-, -, -, a4⟩ := ha
  rw [← hN] at pf hfit ⊢
  have hrr := m9_rrm_f M U K (k := 67) (by decide) (by decide) (by decide) (by decide)
  obtain ⟨b1, b2, b3, b4⟩ := a4 N (by rw [pf 76 (by decide) (by decide) (by decide) (by decide) (by decide)]; exact t3) (fun i hi => by rw [pf 79 (by decide) (by decide) (by decide) (by decide) (by decide)]; exact t4 i hi)
  obtain ⟨Z, hZ⟩ : ∃ Z, Z = q9_z N K := ⟨_, rfl⟩
  have zk : ∀ k, k ≠ 76 → k ≠ 87 → Z k = N k := fun k a b => by rw [hZ]; exact q9_z_ne N a b K
  have z76 : ∀ j, j ≠ 16 → j ≠ 15 → Z 76 j = N 76 j := fun j a b => by rw [hZ]; exact q9_z_76 N a b K
  rw [← hZ] at hfit b4 ⊢
  obtain ⟨S, hS⟩ : ∃ S, S = m9_paS Z F := ⟨_, rfl⟩
  have sk : ∀ k, k ≠ 76 → k ≠ 78 → S k = Z k := fun k a b => by
    rw [hS]
    unfold m9_paS
    rw [m9_st_ne _ _ _ a, m9_save_ne _ _ a b, m9_st_ne _ _ _ a]
  have sv := q9_save (k9_st Z 76 5 0) F
  have n77 : N 77 = M 77 := pf 77 (by decide) (by decide) (by decide) (by decide) (by decide)
  have n78 : N 78 = M 78 := pf 78 (by decide) (by decide) (by decide) (by decide) (by decide)
  have s77 : S 77 = M 77 := by rw [sk 77 (by decide) (by decide), zk 77 (by decide) (by decide), n77]
  have s78 : S 78 = q9_h78 (M 78) (M 77) F := by
    rw [hS]
    unfold m9_paS
    rw [m9_st_ne _ _ _ (by decide), sv.1, m9_st_ne _ _ _ (by decide), m9_st_ne _ _ _ (by decide), zk 77 (by decide) (by decide), zk 78 (by decide) (by decide), n77, n78]
  have s1 : S 76 1 = nI (q9_F F) := by
    rw [hS]
    unfold m9_paS
    rw [m9_st_at_ne _ _ (by decide), sv.2]
  have s3 : S 76 3 = 0 := by
    rw [hS]
    unfold m9_paS
    rw [m9_st_at, m9_upd_at]
  rw [← hS]
  have r77 : m9_rrm M U K 77 = M 77 := m9_rrm_f M U K (by decide) (by decide) (by decide) (by decide)
  have r78 : m9_rrm M U K 78 = M 78 := m9_rrm_f M U K (by decide) (by decide) (by decide) (by decide)
  have keep6 : ∀ k, 66 ≤ k → m9_keep (m9_rrm M U K) F k = m9_rrm M U K k := fun k hk => m9_keep_f hs (by omega)
  have s87 : S 87 = Z 87 := sk 87 (by decide) (by decide)
  have main := q9_parts (Kp := m9_keep (m9_rrm M U K) F) (S := S) (B := B) (R := R) (P := r + 1) (by
    have := q9_kP h'
    rw [r77] at this
    rw [s77]; exact this) (by rw [s77]; exact h.2.1) (fun p hp => q9_pt_c (b4 hrow p hp) (by rw [keep6 68 (by decide)]) (by rw [keep6 69 (by decide)]) (by rw [keep6 70 (by decide)]) (fun j _ _ => by rw [s87])) (fun p hp => by
    unfold m9_fit7
    rw [s87]
    exact hfit p hp) (r + 1) (Nat.le_refl _)
  obtain ⟨m1, m2, m3⟩ := main
  refine ⟨m3, ?_⟩
  have pk : ∀ k, k ≠ 77 → m9_pp S B (r + 1) k = S k := fun k hk => m9_pp_ne S B hk (r + 1)
  refine q9_mut (M := m9_rrm M U K) (N := k9_st (m9_ca (m9_keep (m9_rrm M U K) F) B (r + 1)) 66 1 0) (B' := B) (R' := R) (Z' := m9_pp S B (r + 1) 77) h' (fun k hk => ?_) (fun k hk => ?_) rfl ?_ ?_ ?_ m2 ⟨?_, by decide, ?_, fun i hi => by omega⟩
  · rw [m9_st_ne _ _ _ (by omega), m9_ca_f _ _ (by omega) (by omega)]
  · rw [pk k (by omega), sk k (by omega) (by omega), zk k (by omega) (by omega), hN]
    rfl
  · rw [pk 78 (by decide), s78, r77, r78]
  · rw [pk 76 (by decide), s1]
  · refine q9_P_mem (M := m9_ca (m9_keep (m9_rrm M U K) F) B (r + 1)) (fun i hi => m9_st_ne _ _ _ (by omega)) m1
  · rw [pk 66 (by decide), sk 66 (by decide) (by decide), zk 66 (by decide) (by decide), hN]
    unfold m9_paM
    rw [q9_hear_f _ _ (by decide) (by decide) (by decide) (by decide) (by decide), m9_st_at, m9_upd_at]; rfl
  · rw [pk 76 (by decide), s3]; rfl
