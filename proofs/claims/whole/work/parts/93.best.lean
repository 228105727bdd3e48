/-! Plain mathematics: what would be. -/
theorem q9_tok_c {Z Z2 : Nat → Int32} (h : q9_tok Z) (he : ∀ j, 386 ≤ j → Z2 j = Z j) : q9_tok Z2 := fun n hn a ha hb => by
  rw [he _ (by omega)] at hb
  obtain ⟨e, e1, e2, e3⟩ := h n hn a ha hb
  exact ⟨e, e1, e2, by rw [he _ (by omega)]; exact e3⟩
theorem q9_tun_c {S' E' Z Z2 : Nat → Int32} (h : q9_tun S' E' Z) (he : ∀ j, 386 ≤ j → Z2 j = Z j) : q9_tun S' E' Z2 := fun s hs => by
  obtain ⟨h1, h2, h3⟩ := h s hs
  refine ⟨fun n hn => ?_, h2, h3⟩
  rw [he _ (by omega), he _ (by omega)]
  exact h1 n hn
theorem q9_lay_ne (S : k9_Mem) (B : Nat) {k : Nat} (h : k < 76 ∨ 87 ≤ k ∨ (77 ≤ k ∧ k ≤ 79)) : m9_lay S B k = S k := by
  have y1 : ∀ i, m9_y1 S i k = S k := fun i => by
    induction i with
    | zero => rfl
    | succ i ih =>
      show m9_l0 (m9_y1 S i) i (m9_zr (S 77) i 21) k = S k
      unfold m9_l0
      rw [m9_st_ne _ _ _ (by omega), m9_st_ne _ _ _ (by omega), m9_st_ne _ _ _ (by omega), m9_st_ne _ _ _ (by omega), ih]
  unfold m9_lay
  rw [m9_y3_ne _ (by omega) (by omega) (by omega) (by omega), m9_y2_ne S B (by omega) (by omega) (by omega), y1]
theorem q9_off (N : k9_Mem) (k B : Nat) (w : Int32) : m9_off N k B w 71 3 = (if m9_rt (N k) B (N 7) (N 8) ≤ N 71 3 then N 71 3 else m9_rt (N k) B (N 7) (N 8)) ∧ m9_off N k B w 71 2 = (if m9_rt (N k) B (N 7) (N 8) ≤ N 71 3 then N 71 2 else w) := by
  have e71 : m9_lk N 73 k B 96 71 = N 71 := m9_lk_ne N 73 k B 96 (by decide) (by decide)
  unfold m9_off
  by_cases c : m9_rt (N k) B (N 7) (N 8) ≤ N 71 3
  · rw [if_pos c, if_pos c, if_pos c, e71]
    exact ⟨rfl, rfl⟩
  · rw [if_neg c, if_neg c, if_neg c]
    refine ⟨?_, ?_⟩
    · rw [m9_st_at_ne _ _ (by decide), m9_st_at, m9_upd_at]
    · rw [m9_st_at, m9_upd_at]
theorem q9_nfi : ∀ k, k < 7 → q9_side (k9_nfi k) := by decide +kernel
/-- a number of right notes is none below 0 -/
theorem q9_rn_pos (S : k9_Mem) (B : Nat) (h : q9_tok (S 77)) : ¬ m9_rn S B ≤ -1 := by
  rw [q9_rn S B h]
  have hb : fb_sm (fun n => fb_ct (fun s => q9_Rb (m9_y2 S B 21) (S 77) n s) 96) 20 ≤ 20 * 96 := fb_sm_bound (c := 96) (n := 20) (fun k _ => fb_ct_le _ 96)
  rw [fa_le, nI_toInt (by omega), show (-1 : Int32).toInt = -1 from rfl]
  omega
/-- the best of some, as class and reference look for it -/
theorem q9_bm {rt val : Nat → Int32} {b m : Nat → Int32} {N : Nat} (h0 : m 0 = -1) (hs : ∀ i, i < N → m (i + 1) = (if rt i ≤ m i then m i else rt i) ∧ b (i + 1) = (if rt i ≤ m i then b i else val i)) (hpos : ¬ rt 0 ≤ -1) : ∀ i, i ≤ N → m i = (m9_bm rt val i).2 ∧ (1 ≤ i → b i = (m9_bm rt val i).1)
  | 0, _ => ⟨h0, fun h => by omega⟩
  | i + 1, hi => by
    obtain ⟨h1, h2⟩ := q9_bm h0 hs hpos i (by omega)
    obtain ⟨s1, s2⟩ := hs i (by omega)
    have e : m9_bm rt val (i + 1) = if rt i ≤ (m9_bm rt val i).2 then m9_bm rt val i else (val i, rt i) := rfl
    rw [e, s1, s2, h1]
    by_cases c : rt i ≤ (m9_bm rt val i).2
    · rw [if_pos c, if_pos c, if_pos c]
      refine ⟨rfl, fun _ => ?_⟩
      rcases Nat.eq_zero_or_pos i with z | z
      · subst z
        exact absurd c hpos
      · exact h2 z
    · rw [if_neg c, if_neg c, if_neg c]
      exact ⟨rfl, fun _ => rfl⟩
theorem q9_spu77 (M : k9_Mem) (B f g : Nat) : ∀ k, m9_spu (m9_snS M B f g k) f g k 77 = fb_put (M 77) (fun _ => k9_nfi k) (288 + f) (g + 1 - f)
  | 0 => by
    show k9_sc (m9_ksM M) 77 (fb_put (m9_ksM M 77) _ _ _) 77 = _
    rw [k9_sc_eq]
    unfold m9_ksM
    rw [k9_sc_ne _ _ (by decide)]
  | k + 1 => by
    have ih := q9_spu77 M B f g k
    have e : m9_snS M B f g (k + 1) 77 = fb_put (M 77) (fun _ => k9_nfi k) (288 + f) (g + 1 - f) := by
      show m9_lay (m9_spu (m9_snS M B f g k) f g k) B 77 = _
      rw [m9_lay_77, ih]
    show k9_sc (m9_snS M B f g (k + 1)) 77 (fb_put (m9_snS M B f g (k + 1) 77) _ _ _) 77 = _
    rw [k9_sc_eq, e]
    funext j
    unfold fb_put
    by_cases c : 288 + f ≤ j ∧ j < 288 + f + (g + 1 - f)
    · rw [if_pos c, if_pos c]
    · rw [if_neg c, if_neg c, if_neg c]
theorem q9_sr {M : k9_Mem} {Z : Nat → Int32} {B R : Nat} (hp : q9_P M 1 Z) (hk : q9_ok Z B R) (hH : q9_H M B) {f g k : Nat} (hk7 : k < 7) (hfg : f ≤ g) (hg : g < 96) {r : Nat → Int32} (hr : ∀ s, s < 96 → r s = m9_sr M (nI f) (nI g) (k9_nfi k) s) : q9_rd r (fb_put Z (fun _ => k9_nfi k) (288 + f) (g + 1 - f)) := fun s hs => by
  rw [hr s hs]
  unfold m9_sr
  have hz : m9_zo (fb_put Z (fun _ => k9_nfi k) (288 + f) (g + 1 - f)) s = m9_zo Z s := by
    unfold m9_zo
    rw [fb_put_out (by omega), fb_put_out (by omega)]
  have h192 : fb_put Z (fun _ => k9_nfi k) (288 + f) (g + 1 - f) (192 + s) = Z (192 + s) := fb_put_out (by omega)
  have rg : m9_rg (nI f) (nI g) s ↔ f ≤ s ∧ s ≤ g := by
    unfold m9_rg
    rw [m9_lt (by omega) (by omega), m9_lt (by omega) (by omega)]
    omega
  by_cases c : f ≤ s ∧ s ≤ g
  · rw [if_pos (rg.mpr c)]
    exact q9_va hp hk hs (q9_nfi k hk7) ⟨hz, h192, fb_put_in (by omega) (by omega)⟩
  · rw [if_neg (fun z => c (rg.mp z)), hH.1 s hs]
    unfold m9_rd
    rw [show M 5 s = Z (288 + s) from (hp.1 s hs).2.2.2]
    exact q9_va hp hk hs (hk.1 s hs).2.2 ⟨hz, h192, fb_put_out (by omega)⟩
theorem q9_bestS {M S : k9_Mem} {B R : Nat} (hp : q9_P M 1 (S 77)) (hk : q9_ok (S 77) B R) (hH : q9_H M B) {f g : Nat} (hfg : f ≤ g) (hg : g < 96) : m9_fsM M (nI f) (nI g) B 7 71 3 = (m9_bm (m9_snR S B f g) k9_nfi 7).2 ∧ m9_fsM M (nI f) (nI g) B 7 71 2 = (m9_bm (m9_snR S B f g) k9_nfi 7).1 := by
  have tk : ∀ k, q9_tok (m9_spu (m9_snS S B f g k) f g k 77) := fun k => by
    rw [q9_spu77]
    exact q9_tok_c hk.2.2.2.1 (fun j hj => fb_put_out (by omega))
  have hrt : ∀ k, k < 7 → m9_rt (m9_fsR (m9_fsM M (nI f) (nI g) B k) (nI f) (nI g) (k9_nfi k) 72) B (m9_fsR (m9_fsM M (nI f) (nI g) B k) (nI f) (nI g) (k9_nfi k) 7) (m9_fsR (m9_fsM M (nI f) (nI g) B k) (nI f) (nI g) (k9_nfi k) 8) = m9_snR S B f g k := fun k hk7 => by
    have ne : ∀ j, j ≠ 71 → j ≠ 74 → j ≠ 75 → j ≠ 72 → m9_fsM M (nI f) (nI g) B k j = M j := fun j a b c d => m9_fsM_ne M _ _ _ a b c d k
    have e7 : m9_fsR (m9_fsM M (nI f) (nI g) B k) (nI f) (nI g) (k9_nfi k) 7 = M 7 := by
      unfold m9_fsR
      rw [k9_sc_ne _ _ (by decide), ne 7 (by decide) (by decide) (by decide) (by decide)]
    have e8 : m9_fsR (m9_fsM M (nI f) (nI g) B k) (nI f) (nI g) (k9_nfi k) 8 = M 8 := by
      unfold m9_fsR
      rw [k9_sc_ne _ _ (by decide), ne 8 (by decide) (by decide) (by decide) (by decide)]
    have e72 : ∀ s, s < 96 → m9_fsR (m9_fsM M (nI f) (nI g) B k) (nI f) (nI g) (k9_nfi k) 72 s = m9_sr M (nI f) (nI g) (k9_nfi k) s := fun s hs => by
      unfold m9_fsR
      rw [k9_sc_eq, m9_fl_in hs]
      unfold m9_sr m9_va m9_op
      rw [ne 2 (by decide) (by decide) (by decide) (by decide), ne 3 (by decide) (by decide) (by decide) (by decide), ne 4 (by decide) (by decide) (by decide) (by decide), ne 58 (by decide) (by decide) (by decide) (by decide)]
    rw [e7, e8]
    unfold m9_snR
    refine q9_rights (m9_spu (m9_snS S B f g k) f g k) ?_ ?_ (tk k)
    · rw [q9_spu77]
      exact q9_sr hp hk hH hk7 hfg hg e72
    · rw [q9_spu77]
      exact q9_tun_c hp.2.2 (fun j hj => fb_put_out (by omega))
  have main := q9_bm (rt := m9_snR S B f g) (val := k9_nfi) (b := fun i => m9_fsM M (nI f) (nI g) B i 71 2) (m := fun i => m9_fsM M (nI f) (nI g) B i 71 3) (N := 7) (by
    show k9_st M 71 3 (-1) 71 3 = -1
    rw [m9_st_at, m9_upd_at]) (fun i hi => by
    obtain ⟨o1, o2⟩ := q9_off (m9_fsR (m9_fsM M (nI f) (nI g) B i) (nI f) (nI g) (k9_nfi i)) 72 B (k9_nfi i)
    have e71 : m9_fsR (m9_fsM M (nI f) (nI g) B i) (nI f) (nI g) (k9_nfi i) 71 = m9_fsM M (nI f) (nI g) B i 71 := by
      unfold m9_fsR
      rw [k9_sc_ne _ _ (by decide)]
    rw [hrt i hi, e71] at o1 o2
    exact ⟨o1, o2⟩) (q9_rn_pos _ _ (tk 0)) 7 (Nat.le_refl _)
  exact ⟨main.1, main.2 (by decide)⟩
/-- behind it the state of the reference is as it was -/
theorem q9_backS (M : k9_Mem) (B : Nat) {f g : Nat} (hfg : f ≤ g) (hg : g < 96) : m9_lbM (m9_snS M B f g 7) 77 = M 77 ∧ (∀ k, (k < 76 ∨ 89 ≤ k ∨ k = 78 ∨ k = 79 ∨ k = 87) → m9_lbM (m9_snS M B f g 7) k = M k) ∧ (∀ j, j ≠ 13 → m9_lbM (m9_snS M B f g 7) 76 j = M 76 j) := by
  have s88 : ∀ k, m9_snS M B f g k 88 = m9_ksM M 88 := fun k => by
    induction k with
    | zero => rfl
    | succ k ih =>
      show m9_lay (m9_spu (m9_snS M B f g k) f g k) B 88 = _
      rw [q9_lay_ne _ _ (by omega)]
      unfold m9_spu
      rw [k9_sc_ne _ _ (by decide), ih]
  have sk : ∀ k, (k < 76 ∨ 89 ≤ k ∨ k = 78 ∨ k = 79 ∨ k = 87) → ∀ i, m9_snS M B f g i k = M k := fun k hk i => by
    induction i with
    | zero =>
      show m9_ksM M k = M k
      unfold m9_ksM
      rw [k9_sc_ne _ _ (by omega)]
    | succ i ih =>
      show m9_lay (m9_spu (m9_snS M B f g i) f g i) B k = _
      rw [q9_lay_ne _ _ (by omega)]
      unfold m9_spu
      rw [k9_sc_ne _ _ (by omega), ih]
  have s76 : ∀ j, j ≠ 13 → ∀ i, m9_snS M B f g i 76 j = M 76 j := fun j hj i => by
    induction i with
    | zero =>
      show m9_ksM M 76 j = M 76 j
      unfold m9_ksM
      rw [k9_sc_ne _ _ (by decide)]
    | succ i ih =>
      show m9_lay (m9_spu (m9_snS M B f g i) f g i) B 76 j = _
      rw [q9_lay76 _ _ hj]
      unfold m9_spu
      rw [k9_sc_ne _ _ (by decide), ih]
  refine ⟨?_, fun k hk => ?_, fun j hj => ?_⟩
  · have e : m9_snS M B f g 7 77 = fb_put (M 77) (fun _ => k9_nfi 6) (288 + f) (g + 1 - f) := by
      show m9_lay (m9_spu (m9_snS M B f g 6) f g 6) B 77 = _
      rw [m9_lay_77, q9_spu77]
    unfold m9_lbM
    rw [k9_sc_eq, s88, e]
    funext j
    unfold fb_put m9_ksM
    rw [k9_sc_eq]
    by_cases c : 288 ≤ j ∧ j < 288 + 96
    · rw [if_pos c, m9_fl_in (by omega), show 288 + (j - 288) = j from by omega]
    · rw [if_neg c, if_neg (by omega)]
  · unfold m9_lbM
    rw [k9_sc_ne _ _ (by omega), sk k hk]
  · unfold m9_lbM
    rw [k9_sc_ne _ _ (by decide), s76 j hj]
