/-! Both digests agree. -/
theorem r9_dm (a b w : Nat) (h : w < a) : (a * b + w) / a = b ∧ (a * b + w) % a = w := by
  have ha : 0 < a := by omega
  rw [Nat.mul_add_div ha, Nat.div_eq_of_lt h, Nat.add_zero, Nat.mul_add_mod, Nat.mod_eq_of_lt h]
  exact ⟨rfl, rfl⟩
section R9A
variable {M N S : k9_Mem} {B R F U : Nat}
theorem r9_a1 (hp : q9_P M 1 (S 77)) (hk : q9_ok (S 77) B R) (hH : q9_H M B) (hF : M 64 1 = S 76 1) : r9_h1 M R 15 = m9_mix 2371 (fun w => (m9_rco (m9_lay S B) (m9_C S B) R (nI w)).toInt64) 15 := by
  unfold r9_h1
  exact r9_mix_c 15 (fun k _ => by rw [q9_cou hp hk hH hF])
theorem r9_a3 (hp : q9_P M 1 (S 77)) (hk : q9_ok (S 77) B R) (hH : q9_H M B) (h : Int64) : m9_hst M R h 96 = m9_mix h (fun k => (m9_stv (m9_lay S B) (m9_C S B) R (k / 7) (nI (k % 7))).toInt64) 672 := by
  rw [r9_hst M R h 96]
  exact r9_mix_c 672 (fun k hk2 => by rw [q9_ofs hp hk hH (by omega)])
theorem r9_a4 (hp : q9_P M 1 (S 77)) (hk : q9_ok (S 77) B R) (hH : q9_H M B) (h : Int64) : m9_hn M 59 (m9_ofp M) 5 h 96 = m9_mix h (fun k => (m9_pnv (m9_lay S B) (k / 6) (nI (k % 6))).toInt64) (6 * m9_C S B) := by
  refine (r9_hn (M := M) (q := 59) (r := m9_y2 S B 21 81) (val := m9_ofp M) (F := fun k => (m9_pnv (m9_lay S B) (k / 6) (nI (k % 6))).toInt64) (L := 5) (q9_row60 hp hk hH) (fun k hk2 hb w hw => ?_) h 96 (Nat.le_refl _)).trans rfl
  have hb2 := hb
  rw [q9_bg] at hb2
  rw [q9_ofp hp hk hH (by omega) (by omega) hb2]
  show (q9_pv S B (k % 20) (k / 20) (nI w)).toInt64 = (m9_pnv (m9_lay S B) ((6 * fb_ct (m9_bg (m9_y2 S B 21 81)) k + w) / 6) (nI ((6 * fb_ct (m9_bg (m9_y2 S B 21 81)) k + w) % 6))).toInt64
  obtain ⟨e1, e2⟩ := r9_dm 6 (fb_ct (m9_bg (m9_y2 S B 21 81)) k) w hw
  rw [e1, e2, q9_pnv S B hk.2.2.2.1 hk2 hb]
theorem r9_a5 (hp : q9_P M 1 (S 77)) (hk : q9_ok (S 77) B R) (hH : q9_H M B) {K : Nat → Nat} (hK : ∀ q, q < q9_T9 (S 77) → m9_tpl (S 77) q (K q)) (h : Int64) : m9_hn M 6 (m9_oft M) 3 h 96 = m9_mix h (fun k => (m9_tnv (m9_lay S B) (K (k / 4)) (nI (k % 4))).toInt64) (4 * q9_T9 (S 77)) := by
  refine (r9_hn (M := M) (q := 6) (r := fun j => S 77 (386 + j)) (val := m9_oft M) (F := fun k => (m9_tnv (m9_lay S B) (K (k / 4)) (nI (k % 4))).toInt64) (L := 3) (q9_row7 hp) (fun k hk2 hb w hw => ?_) h 96 (Nat.le_refl _)).trans rfl
  rw [q9_oft hp hk hH hk2 hb]
  show (m9_tnv (m9_lay S B) k (nI w)).toInt64 = (m9_tnv (m9_lay S B) (K ((4 * fb_ct (m9_bg (fun j => S 77 (386 + j))) k + w) / 4)) (nI ((4 * fb_ct (m9_bg (fun j => S 77 (386 + j))) k + w) % 4))).toInt64
  obtain ⟨e1, e2⟩ := r9_dm 4 (fb_ct (m9_bg (fun j => S 77 (386 + j))) k) w hw
  rw [e1, e2]
  have hlt : fb_ct (m9_bg (fun j => S 77 (386 + j))) k < q9_T9 (S 77) := by
    have := fb_ct_mono (m9_bg (fun j => S 77 (386 + j))) (show k + 1 ≤ 1920 by omega)
    rw [fb_ct_succ, if_pos hb] at this
    unfold q9_T9
    omega
  obtain ⟨k1, k2, k3⟩ := hK _ hlt
  rw [fb_ct_kth_one k2 hb k3]
theorem r9_aS (hp : q9_P M 1 (S 77)) (hk : q9_ok (S 77) B R) (hH : q9_H M B) (k : Nat) : r9_sv S B k = if k % 2 = 0 then m9_fsM M (nI (r9_f k)) (nI (r9_g k)) B 7 71 2 else m9_fsM M (nI (r9_f k)) (nI (r9_g k)) B 7 71 3 := by
  obtain ⟨a, b⟩ := r9_fg k
  obtain ⟨e3, e2⟩ := q9_bestS hp hk hH a b
  rw [e2, e3]
  unfold r9_sv m9_pick
  by_cases c : k % 2 = 0
  · rw [if_pos c, c, if_pos (show nI 0 = 0 from rfl)]
  · rw [if_neg c, show k % 2 = 1 from by omega, if_neg (show ¬ nI 1 = 0 by decide)]
theorem r9_aK (hp : q9_P M 1 (S 77)) (hk : q9_ok (S 77) B R) (hH : q9_H M B) (k : Nat) : r9_qv S B k = if k % 2 = 0 then (m9_bk (m9_bk0 M (r9_y k)) B 96).1 71 2 else (m9_bk (m9_bk0 M (r9_y k)) B 96).1 71 3 := by
  obtain ⟨e3, e2⟩ := q9_bestK hp hk hH (r9_y k)
  rw [e2, e3]
  unfold r9_qv m9_pick
  by_cases c : k % 2 = 0
  · rw [if_pos c, c, if_pos (show nI 0 = 0 from rfl)]
  · rw [if_neg c, show k % 2 = 1 from by omega, if_neg (show ¬ nI 1 = 0 by decide)]
theorem r9_h_1 (S : k9_Mem) (B k : Nat) : m9_hsh (r9_w1 S B (k + 1)) = 31 * m9_hsh (r9_w1 S B k) + (r9_sv (r9_w1 S B k) B k).toInt64 := by
  show m9_hsh (k9_sH (r9_s (r9_w1 S B k) B k) (31 * m9_hsh (r9_s (r9_w1 S B k) B k) + (r9_sv (r9_w1 S B k) B k).toInt64)) = _
  rw [r9_hsh, (r9_st_s (r9_w1 S B k) B k).2]
theorem r9_h_3 (S : k9_Mem) (B k : Nat) : m9_hsh (r9_w3 S B (k + 1)) = 31 * m9_hsh (r9_w3 S B k) + (r9_qv (r9_w3 S B k) B k).toInt64 := by
  show m9_hsh (k9_sH (r9_q (r9_w3 S B k) B k) (31 * m9_hsh (r9_q (r9_w3 S B k) B k) + (r9_qv (r9_w3 S B k) B k).toInt64)) = _
  rw [r9_hsh, (r9_st_q (r9_w3 S B k) B k).2]
theorem r9_h_2 (S : k9_Mem) {B : Nat} (hM : S 77 384 = nI B) : m9_hsh (r9_w2 S B) = 31 * m9_hsh S + ((m9_bm (m9_bnR S) (fun k => nI k) 4).1).toInt64 := by
  show m9_hsh (k9_sH (r9_b S B) (31 * m9_hsh (r9_b S B) + ((m9_bm (m9_bnR S) (fun k => nI k) 4).1).toInt64)) = _
  rw [r9_hsh, (r9_st_b S hM).2]
/-- two values of one best steer -/
theorem r9_aS2 (h : q9_rel M B R F U) {Y : k9_Mem} (hY : Y 77 = M 77) (k : Nat) (he : k % 2 = 0) (hg : r9_g (k + 1) = r9_g k) (hf : r9_f (k + 1) = r9_f k) : m9_hsh (r9_w1 Y B (k + 2)) = m9_two64 (m9_hsh (r9_w1 Y B k)) (m9_fsM M (nI (r9_f k)) (nI (r9_g k)) B 7) := by
  have y1 : r9_w1 Y B k 77 = M 77 := (r9_st_1 Y B k).1.trans hY
  have y2 : r9_w1 Y B (k + 1) 77 = M 77 := (r9_st_1 Y B (k + 1)).1.trans hY
  rw [r9_h_1, r9_h_1, r9_aS (M := M) (R := R) (S := r9_w1 Y B k) (by rw [y1]; exact h.1) (by rw [y1]; exact h.2.1) h.2.2.1, r9_aS (M := M) (R := R) (S := r9_w1 Y B (k + 1)) (by rw [y2]; exact h.1) (by rw [y2]; exact h.2.1) h.2.2.1, if_pos he, if_neg (show ¬ (k + 1) % 2 = 0 by omega), hg, hf]
  rfl
theorem r9_aK2 (h : q9_rel M B R F U) {Y : k9_Mem} (hY : Y 77 = M 77) (k : Nat) (he : k % 2 = 0) (hy : r9_y (k + 1) = r9_y k) : m9_hsh (r9_w3 Y B (k + 2)) = m9_two64 (m9_hsh (r9_w3 Y B k)) (m9_bk (m9_bk0 M (r9_y k)) B 96).1 := by
  have y1 : r9_w3 Y B k 77 = M 77 := (r9_st_3 Y B k).1.trans hY
  have y2 : r9_w3 Y B (k + 1) 77 = M 77 := (r9_st_3 Y B (k + 1)).1.trans hY
  rw [r9_h_3, r9_h_3, r9_aK (M := M) (R := R) (S := r9_w3 Y B k) (by rw [y1]; exact h.1) (by rw [y1]; exact h.2.1) h.2.2.1, r9_aK (M := M) (R := R) (S := r9_w3 Y B (k + 1)) (by rw [y2]; exact h.1) (by rw [y2]; exact h.2.1) h.2.2.1, if_pos he, if_neg (show ¬ (k + 1) % 2 = 0 by omega), hy]
  rfl
theorem r9_n (h : q9_rel M B R F U) : q9_rel (m9_bb1 M B) B R F U ∧ q9_rel (m9_bb2 M B) B R F U ∧ q9_rel (m9_bb3 M B) B R F U ∧ q9_rel (m9_bb4 M B) B R F U ∧ q9_rel (m9_bb5 M B) B R F U ∧ q9_rel (m9_bb6 M B) B R F U :=
  ⟨q9_rel_w h (fun k a b c d => m9_bb1_ne M B a c d b), q9_rel_w h (fun k a b c d => m9_bb2_ne M B a c d b), q9_rel_w h (fun k a b c d => m9_bb3_ne M B a c d b), q9_rel_w h (fun k a b c d => m9_bb4_ne M B a c d b), q9_rel_w h (fun k a b c d => m9_bb5_ne M B a c d b), q9_rel_w h (fun k a b c d => m9_bb6_ne M B a c d b)⟩
theorem r9_aX (h : q9_rel M B R F U) (hY : S 77 = M 77) : m9_hsh (r9_X S B) = m9_hbest M B (m9_hsh S) := by
  obtain ⟨n1, n2, n3, n4, n5, n6⟩ := r9_n h
  have n77 : ∀ {Q : k9_Mem}, (∀ k, k ≠ 71 → k ≠ 74 → k ≠ 75 → k ≠ 72 → Q k = M k) → S 77 = Q 77 := fun hq => by rw [hY, hq 77 (by decide) (by decide) (by decide) (by decide)]
  have a1 := r9_aS2 h hY 0 rfl rfl rfl
  have a2 := r9_aS2 n1 (Y := S) (n77 (fun k => m9_bb1_ne M B)) 2 rfl rfl rfl
  have a3 := r9_aS2 n2 (Y := S) (n77 (fun k => m9_bb2_ne M B)) 4 rfl rfl rfl
  have hM384 : r9_w1 S B 6 77 384 = nI B := by rw [(r9_st_1 S B 6).1, hY]; exact h.2.1.2.1.1
  have y6 : r9_w1 S B 6 77 = m9_bb3 M B 77 := (r9_st_1 S B 6).1.trans (n77 (fun k => m9_bb3_ne M B))
  have a4 := r9_h_2 (r9_w1 S B 6) hM384
  rw [← q9_bestBridge n3 y6] at a4
  have yw : ∀ {Q : k9_Mem}, S 77 = Q 77 → r9_w2 (r9_w1 S B 6) B 77 = Q 77 := fun hq => (r9_st_2 _ hM384).1.trans ((r9_st_1 S B 6).1.trans hq)
  have a5 := r9_aK2 n4 (Y := r9_w2 (r9_w1 S B 6) B) (yw (n77 (fun k => m9_bb4_ne M B))) 0 rfl rfl
  have a6 := r9_aK2 n5 (Y := r9_w2 (r9_w1 S B 6) B) (yw (n77 (fun k => m9_bb5_ne M B))) 2 rfl rfl
  unfold r9_X m9_hbest
  have b1 : m9_hsh (r9_w1 S B 2) = m9_two64 (m9_hsh S) (m9_bb1 M B) := a1
  have b2 : m9_hsh (r9_w1 S B 4) = m9_two64 (m9_hsh (r9_w1 S B 2)) (m9_bb2 M B) := a2
  have b3 : m9_hsh (r9_w1 S B 6) = m9_two64 (m9_hsh (r9_w1 S B 4)) (m9_bb3 M B) := a3
  have b4 : m9_hsh (r9_w2 (r9_w1 S B 6) B) = 31 * m9_hsh (r9_w1 S B 6) + (m9_bb4 M B 71 2).toInt64 := a4
  have b5 : m9_hsh (r9_w3 (r9_w2 (r9_w1 S B 6) B) B 2) = m9_two64 (m9_hsh (r9_w2 (r9_w1 S B 6) B)) (m9_bb5 M B) := a5
  have b6 : m9_hsh (r9_w3 (r9_w2 (r9_w1 S B 6) B) B 4) = m9_two64 (m9_hsh (r9_w3 (r9_w2 (r9_w1 S B 6) B) B 2)) (m9_bb6 M B) := a6
  rw [b6, b5, b4, b3, b2, b1]
theorem r9_aW (h : q9_rel M B R F U) (hY : S 77 = M 77) : m9_hsh (r9_W S B) = 31 * m9_hbest M B (m9_hsh S) + (m9_shr (m9_same M 59 6) (m9_bin (M 7) 2097150)).toInt64 ∧ m9_shOk (m9_rn (r9_X S B) B) (m9_tnn (S 77)) ∧ m9_shOk (m9_same M 59 6) (m9_bin (M 7) 2097150) := by
  have hM384 : S 77 384 = nI B := by rw [hY]; exact h.2.1.2.1.1
  have hX : r9_X S B 77 = M 77 := (r9_st_X S hM384).1.trans hY
  obtain ⟨s1, s2, s3⟩ := q9_shOk (M := M) (S := r9_X S B) (B := B) (R := R) (by rw [hX]; exact h.1) (by rw [hX]; exact h.2.1) h.2.2.1
  have e77 : S 77 = r9_X S B 77 := hY.trans hX.symm
  rw [e77, ← s2, ← s3]
  refine ⟨?_, s1, s1⟩
  have hl : m9_hsh (m9_lay (r9_X S B) B) = m9_hsh (r9_X S B) := r9_hc (fun j hj => q9_lay76 _ _ hj)
  show m9_hsh (k9_sH (m9_lay (r9_X S B) B) (31 * m9_hsh (m9_lay (r9_X S B) B) + (m9_shr (m9_rn (r9_X S B) B) (m9_tnn (S 77))).toInt64)) = _
  rw [r9_hsh, hl, r9_aX h hY, e77, ← s2, ← s3]
end R9A
theorem r9_digest {M : k9_Mem} {B R F U : Nat} (h : q9_rel M B R F U) {K : Nat → Nat} (hK : ∀ q, q < q9_T9 (M 77) → m9_tpl (M 77) q (K q)) :
    r9_h9 M R B U U = r9_g6 (m9_bb6 M B) B R (q9_T9 (M 77)) U K U ∧ m9_shOk (m9_same M 59 6) (m9_bin (M 7) 2097150) ∧
    m9_shOk (m9_rn (r9_X (k9_sH (r9_L (m9_bb6 M B) B) (r9_g5 (m9_bb6 M B) B R K (4 * q9_T9 (M 77)))) B) B) (m9_tnn (m9_bb6 M B 77)) ∧
    ∀ x, q9_rel (k9_sH (r9_Wd (m9_bb6 M B) B R (q9_T9 (M 77)) K) x) B R F U := by
  obtain ⟨N, hN⟩ : ∃ N, N = m9_bb6 M B := ⟨_, rfl⟩
  have hn : q9_rel N B R F U := by rw [hN]; exact (r9_n h).2.2.2.2.2
  have nk : ∀ k, k ≠ 71 → k ≠ 74 → k ≠ 75 → k ≠ 72 → N k = M k := fun k a b c d => by rw [hN]; exact m9_bb6_ne M B a b c d
  rw [← hN]
  have n77 : N 77 = M 77 := nk 77 (by decide) (by decide) (by decide) (by decide)
  obtain ⟨S, hS⟩ : ∃ S, S = k9_st N 76 5 0 := ⟨_, rfl⟩
  have s77 : S 77 = M 77 := by rw [hS, m9_st_ne _ _ _ (by decide), n77]
  have hp : q9_P M 1 (S 77) := by rw [s77]; exact h.1
  have hk : q9_ok (S 77) B R := by rw [s77]; exact h.2.1
  have hF : M 64 1 = S 76 1 := by
    rw [hS, m9_st_at_ne _ _ (by decide), nk 76 (by decide) (by decide) (by decide) (by decide), h.2.2.2.1.2.2.1, h.2.2.2.1.1.1]
  have eL : r9_L N B = m9_lay S B := by rw [hS]; rfl
  have eC : r9_C N B = m9_C S B := by rw [hS]; rfl
  have g1 : r9_g1 N B R 15 = r9_h1 M R 15 := by
    rw [r9_a1 hp hk h.2.2.1 hF]
    unfold r9_g1
    rw [eL, eC]
  have g2 : r9_g2 N B R = 31 * (31 * r9_h1 M R 15 + (M 1 5).toInt64) + (M 1 6).toInt64 := by
    unfold r9_g2
    rw [g1, n77, ← h.1.2.1.1, ← h.1.2.1.2]
  have g3 : r9_g3 N B R 672 = r9_h4 M R := by
    unfold r9_g3 r9_h4
    rw [g2, r9_a3 hp hk h.2.2.1, eL, eC]
  have g4 : r9_g4 N B R (6 * r9_C N B) = m9_hn M 59 (m9_ofp M) 5 (r9_h4 M R) 96 := by
    unfold r9_g4
    rw [r9_a4 hp hk h.2.2.1, g3, eL, eC]
  have g5 : r9_g5 N B R K (4 * q9_T9 (M 77)) = r9_h6 M R := by
    unfold r9_g5 r9_h6
    rw [r9_a5 hp hk h.2.2.1 (K := K) (by rw [s77]; exact hK), g4, eL, s77]
  obtain ⟨Y, hY⟩ : ∃ Y, Y = k9_sH (r9_L N B) (r9_g5 N B R K (4 * q9_T9 (M 77))) := ⟨_, rfl⟩
  have yh : m9_hsh Y = r9_h6 M R := by rw [hY, r9_hsh, g5]
  have y77 : Y 77 = M 77 := by rw [hY, r9_k _ _ (by decide), eL, m9_lay_77, s77]
  obtain ⟨w1, w2, w3⟩ := r9_aW h y77
  have eW : r9_Wd N B R (q9_T9 (M 77)) K = r9_W Y B := by rw [hY]; rfl
  have hM384 : Y 77 384 = nI B := by rw [y77]; exact h.2.1.2.1.1
  rw [← hY]
  refine ⟨?_, w3, ?_, fun x => ?_⟩
  · unfold r9_h9 r9_g6
    rw [eW, w1, yh, nk 79 (by decide) (by decide) (by decide) (by decide)]
    show m9_mix (31 * (31 * m9_hbest M B (r9_h6 M R) + (m9_shr (m9_same M 59 6) (m9_bin (M 7) 2097150)).toInt64) + (nI U).toInt64) (fun i => (M 67 i).toInt64) U = _
    exact r9_mix_c U (fun i hi => by rw [h.2.2.2.2.2.2.2 i hi])
  · rw [n77, ← y77]; exact w2
  · rw [eW]
    have hl : q9_rel (r9_L N B) B R F U := q9_rel_lay (q9_rel_th hn 0) B
    have st : r9_st (k9_sH (r9_W Y B) x) (r9_L N B) := r9_st_t (r9_st_H _ _) (r9_st_t (r9_st_W Y hM384) (by rw [hY]; exact r9_st_H _ _))
    refine q9_rel_c hl (fun k hk => ?_) (by rw [st.2.1 66 (by omega)]) (st.2.2 1 (by decide) (by decide) (by decide)) (st.2.2 3 (by decide) (by decide) (by decide))
    by_cases c : k = 77
    · subst c; exact st.1
    · exact st.2.1 k (by omega)
