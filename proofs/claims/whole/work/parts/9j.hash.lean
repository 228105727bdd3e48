/-! The reference: what would be, mixed into the hash. -/
theorem r9_tok {N L : k9_Mem} (h : r9_st N L) (ht : q9_tok (L 77)) : q9_tok (N 77) := by rw [h.1]; exact ht
theorem r9_384 {N L : k9_Mem} {B : Nat} (h : r9_st N L) (hM : L 77 384 = nI B) : N 77 384 = nI B := by rw [h.1]; exact hM
theorem r9_gdS (S : k9_Mem) (B : Nat) (ht : q9_tok (S 77)) {f g : Nat} (hfg : f ≤ g) (hg : g < 96) (k : Nat) : m9_gd (m9_spu (m9_snS S B f g k) f g k) B := q9_gd _ B (by
  rw [q9_spu77]
  exact q9_tok_c ht (fun j hj => fb_put_out (by omega)))
theorem r9_gdB (S : k9_Mem) (ht : q9_tok (S 77)) (k : Nat) : m9_gd (m9_bpu (m9_bnS S k) k) k := q9_gd _ k (by
  rw [q9_bpu77]
  exact q9_tok_c ht (fun j hj => m9_upd_ne _ _ (by omega)))
theorem r9_gdK (S : k9_Mem) (B : Nat) (ht : q9_tok (S 77)) (y : Int32) (k : Nat) : m9_gd (m9_kpu (m9_knS S B y k) y k) B := q9_gd _ B (by
  rw [q9_kpu77]
  exact q9_tok_c ht (fun j hj => fb_put_out (by omega)))
theorem r9_steer (l : Launch) (G : k9_G) (N : k9_Mem) {B k : Nat} (hB : B < 1000) (hM : N 77 384 = nI B) (ht : q9_tok (N 77)) {x z : Int32} (hx : x = nI (r9_f k)) (hz : z = nI (r9_g k)) : k9_Ci l yX7_steerNow wsX7_steerNow rm_X7_steerNow G N [.ref (k9_ga G 76), .int x, .int z, .int (nI (k % 2))] (r9_sv N B k) (r9_s N B k) := by
  subst hx
  subst hz
  obtain ⟨a, b⟩ := r9_fg k
  exact ct_X7_steerNow l G N hB hM a b (fun j _ => r9_gdS N B ht a b j) (nI (k % 2))
theorem r9_break (l : Launch) (G : k9_G) (N : k9_Mem) {B k : Nat} (hB : B < 1000) (hM : N 77 384 = nI B) (ht : q9_tok (N 77)) {y : Int32} (hy : y = r9_y k) : k9_Ci l yX7_breakNow wsX7_breakNow rm_X7_breakNow G N [.ref (k9_ga G 76), .int y, .int (nI (k % 2))] (r9_qv N B k) (r9_q N B k) := by
  subst hy
  exact ct_X7_breakNow l G N hB hM (r9_y k) (fun j _ => r9_gdK N B ht (r9_y k) j) (nI (k % 2))
theorem ct_X7_mixWouldBe (l : Launch) (G : k9_G) (N : k9_Mem) {B : Nat} (hB : B < 1000) (hM : N 77 384 = nI B) (ht : q9_tok (N 77)) (hsh : m9_shOk (m9_rn (r9_X N B) B) (m9_tnn (N 77))) : k9_Cv l yX7_mixWouldBe wsX7_mixWouldBe rm_X7_mixWouldBe G N [.ref (k9_ga G 76)] (r9_W N B) := by
  refine k9_metV (own := RX7) (by decide +kernel) rfl rfl (Nat.le_of_ble_eq_true rfl) ?_
  intro p e s m args below meth c A Q X HR
  have X77 : r9_X N B 77 = N 77 := (r9_st_X N hM).1
  have second : ∀ k, k ≤ 4 → k9_U p l e rm_X7_mixWouldBe s m args below meth c Q A G 4 0 0 (r9_w3 (r9_w2 (r9_w1 N B 6) B) B k) 69 [(0, .ref (k9_ga G 76)), (1, .int (nI k))] [] := by
    refine m9_down 4 (fun k hk next => ?_)
    obtain ⟨Y, hY⟩ : ∃ Y, Y = r9_w3 (r9_w2 (r9_w1 N B 6) B) B k := ⟨_, rfl⟩
    have hst : r9_st Y N := by
      rw [hY]
      exact r9_st_t (r9_st_3 _ B k) (r9_st_t (r9_st_2 _ (r9_384 (r9_st_1 N B 6) hM)) (r9_st_1 N B 6))
    have hYM := r9_384 hst hM
    have hYt := r9_tok hst ht
    have e2 : nI k - nI k / (2 : Int32) * (2 : Int32) = nI (k % 2) := pk_rem (d := 2) (by omega) (by decide) (by decide)
    have g4 : (4 : Int32) ≤ nI k ↔ 4 ≤ k := m9_le (a := 4) (by decide) (by omega)
    have g2 : (2 : Int32) ≤ nI k ↔ 2 ≤ k := m9_le (a := 2) (by decide) (by omega)
    have st : r9_w3 (r9_w2 (r9_w1 N B 6) B) B (k + 1) = k9_sH (r9_q Y B k) (31 * m9_hsh (r9_q Y B k) + (r9_qv Y B k).toInt64) := by rw [hY]; rfl
    rw [st] at next
    rw [← hY]
    have nx : k < 4 → k9_U p l e rm_X7_mixWouldBe s m args below meth c Q A G 4 0 0 (k9_sH (r9_q Y B k) (31 * m9_hsh (r9_q Y B k) + (r9_qv Y B k).toInt64)) 69 [(0, .ref (k9_ga G 76)), (1, .int (nI k + 1))] [] := fun h => by
      rw [nI_1]; exact next h
    have nl : ¬ (4 : Int32) ≤ nI k → k < 4 := fun c1 => by
      rcases Nat.lt_or_ge k 4 with q | q
      · exact q
      · exact absurd (g4.mpr q) c1
    refine bk_X7_mixWouldBe_69 (mv1 := m9_lay Y B) (rv2 := m9_shr (m9_rn Y B) (m9_tnn (N 77))) (rv3 := (m9_shr (m9_rn Y B) (m9_tnn (N 77))).toInt64) (mv4 := k9_sH (m9_lay Y B) (31 * m9_hsh (m9_lay Y B) + (m9_shr (m9_rn Y B) (m9_tnn (N 77))).toInt64))
      (rv5 := r9_qv Y B k) (mv5 := r9_q Y B k) (mv6 := k9_sH (r9_q Y B k) (31 * m9_hsh (r9_q Y B k) + (r9_qv Y B k).toInt64)) (rv7 := r9_qv Y B k) (mv7 := r9_q Y B k) (mv8 := k9_sH (r9_q Y B k) (31 * m9_hsh (r9_q Y B k) + (r9_qv Y B k).toInt64)) X
      (fun c1 => ?_) (fun c1 => ?_) (fun c1 => ?_) (fun c1 => ct_X7_mix l G _ _) (fun c1 => ?_) (fun c1 c2 => ?_) (fun c1 c2 => ct_X7_mix l G _ _) (fun c1 c2 => nx (nl c1)) (fun c1 c2 => ?_) (fun c1 c2 => ct_X7_mix l G _ _) (fun c1 c2 => nx (nl c1))
    · exact ct_X7_lay l G Y hB hYM (q9_gd Y B hYt).1
    · have hk4 : k = 4 := by have := g4.mp c1; omega
      have hYX : Y = r9_X N B := by rw [hY, hk4]; rfl
      have cs := ct_X7_share l G (m9_lay Y B) (q9_gd Y B hYt).2.1 (by rw [m9_lay_77, hst.1, hYX]; exact hsh)
      rw [m9_lay_77, hst.1] at cs
      exact cs
    · have hk4 : k = 4 := by have := g4.mp c1; omega
      have hYX : Y = r9_X N B := by rw [hY, hk4]; rfl
      exact ct_toLongBits l G _ (m9_shr_U (by rw [hYX]; exact hsh))
    · have hk4 : k = 4 := by have := g4.mp c1; omega
      have hYX : Y = r9_X N B := by rw [hY, hk4]; rfl
      have h9 := HR 117 [] dX7_mixWouldBe_117
      rw [hYX]; exact h9
    · rw [e2]
      exact r9_break l G Y hB hYM hYt (by
        unfold r9_y
        rw [if_neg (by have := g2.mp c2; omega)])
    · rw [e2]
      exact r9_break l G Y hB hYM hYt (by
        unfold r9_y
        rw [if_pos (by
          rcases Nat.lt_or_ge k 2 with q | q
          · exact q
          · exact absurd (g2.mpr q) c2)])
  have first : ∀ k, k ≤ 6 → k9_U p l e rm_X7_mixWouldBe s m args below meth c Q A G 4 0 0 (r9_w1 N B k) 2 [(0, .ref (k9_ga G 76)), (1, .int (nI k))] [] := by
    refine m9_down 6 (fun k hk next => ?_)
    obtain ⟨Y, hY⟩ : ∃ Y, Y = r9_w1 N B k := ⟨_, rfl⟩
    have hst : r9_st Y N := by rw [hY]; exact r9_st_1 N B k
    have hYM := r9_384 hst hM
    have hYt := r9_tok hst ht
    have e2 : nI k - nI k / (2 : Int32) * (2 : Int32) = nI (k % 2) := pk_rem (d := 2) (by omega) (by decide) (by decide)
    have g6 : (6 : Int32) ≤ nI k ↔ 6 ≤ k := m9_le (a := 6) (by decide) (by omega)
    have l3 : nI k ≤ (3 : Int32) ↔ k ≤ 3 := m9_le (b := 3) (by omega) (by decide)
    have l1 : nI k ≤ (1 : Int32) ↔ k ≤ 1 := m9_le (b := 1) (by omega) (by decide)
    have g4 : (4 : Int32) ≤ nI k ↔ 4 ≤ k := m9_le (a := 4) (by decide) (by omega)
    have st : r9_w1 N B (k + 1) = k9_sH (r9_s Y B k) (31 * m9_hsh (r9_s Y B k) + (r9_sv Y B k).toInt64) := by rw [hY]; rfl
    rw [st] at next
    rw [← hY]
    have nx : ¬ (6 : Int32) ≤ nI k → k9_U p l e rm_X7_mixWouldBe s m args below meth c Q A G 4 0 0 (k9_sH (r9_s Y B k) (31 * m9_hsh (r9_s Y B k) + (r9_sv Y B k).toInt64)) 2 [(0, .ref (k9_ga G 76)), (1, .int (nI k + 1))] [] := fun c1 => by
      rw [nI_1]
      refine next ?_
      rcases Nat.lt_or_ge k 6 with q | q
      · exact q
      · exact absurd (g6.mpr q) c1
    have kA : nI k ≤ (3 : Int32) → nI k ≤ (1 : Int32) → k9_Ci l yX7_steerNow wsX7_steerNow rm_X7_steerNow G Y [.ref (k9_ga G 76), .int 0, .int 95, .int (nI (k % 2))] (r9_sv Y B k) (r9_s Y B k) := fun c2 c3 =>
      r9_steer l G Y hB hYM hYt (by unfold r9_f; rw [if_pos (l3.mp c2)]; rfl) (by unfold r9_g; rw [if_neg (by have := l1.mp c3; omega)]; rfl)
    have kC : nI k ≤ (3 : Int32) → ¬ nI k ≤ (1 : Int32) → k9_Ci l yX7_steerNow wsX7_steerNow rm_X7_steerNow G Y [.ref (k9_ga G 76), .int 0, .int 47, .int (nI (k % 2))] (r9_sv Y B k) (r9_s Y B k) := fun c2 c3 => by
      have h1 : ¬ k ≤ 1 := fun z => c3 (l1.mpr z)
      have h3 := l3.mp c2
      exact r9_steer l G Y hB hYM hYt (by unfold r9_f; rw [if_pos h3]; rfl) (by unfold r9_g; rw [if_pos (by omega)]; rfl)
    have kE : ¬ nI k ≤ (3 : Int32) → k9_Ci l yX7_steerNow wsX7_steerNow rm_X7_steerNow G Y [.ref (k9_ga G 76), .int 48, .int 95, .int (nI (k % 2))] (r9_sv Y B k) (r9_s Y B k) := fun c2 => by
      have h3 : ¬ k ≤ 3 := fun z => c2 (l3.mpr z)
      exact r9_steer l G Y hB hYM hYt (by unfold r9_f; rw [if_neg h3]; rfl) (by unfold r9_g; rw [if_neg (by omega)]; rfl)
    have no1 : ∀ {P : Prop}, nI k ≤ (3 : Int32) → (4 : Int32) ≤ nI k → P := fun c2 c4 => by
      have := l3.mp c2
      have := g4.mp c4
      omega
    have no2 : ∀ {P : Prop}, ¬ nI k ≤ (3 : Int32) → nI k ≤ (1 : Int32) → P := fun c2 c3 => by
      exfalso
      have := l1.mp c3
      exact c2 (l3.mpr (by omega))
    have no3 : ∀ {P : Prop}, ¬ nI k ≤ (3 : Int32) → ¬ (4 : Int32) ≤ nI k → P := fun c2 c4 => by
      exfalso
      rcases Nat.lt_or_ge k 4 with q | q
      · exact c2 (l3.mpr (by omega))
      · exact c4 (g4.mpr q)
    refine bk_X7_mixWouldBe_2 (rv1 := (m9_bm (m9_bnR Y) (fun k => nI k) 4).1) (mv1 := r9_b Y B) (mv2 := r9_w2 Y B)
      (rv3 := r9_sv Y B k) (mv3 := r9_s Y B k) (mv4 := k9_sH (r9_s Y B k) (31 * m9_hsh (r9_s Y B k) + (r9_sv Y B k).toInt64)) (rv5 := r9_sv Y B k) (mv5 := r9_s Y B k) (mv6 := k9_sH (r9_s Y B k) (31 * m9_hsh (r9_s Y B k) + (r9_sv Y B k).toInt64)) (rv7 := r9_sv Y B k) (mv7 := r9_s Y B k) (mv8 := k9_sH (r9_s Y B k) (31 * m9_hsh (r9_s Y B k) + (r9_sv Y B k).toInt64))
      (rv9 := r9_sv Y B k) (mv9 := r9_s Y B k) (mv10 := k9_sH (r9_s Y B k) (31 * m9_hsh (r9_s Y B k) + (r9_sv Y B k).toInt64)) (rv11 := r9_sv Y B k) (mv11 := r9_s Y B k) (mv12 := k9_sH (r9_s Y B k) (31 * m9_hsh (r9_s Y B k) + (r9_sv Y B k).toInt64)) (rv13 := r9_sv Y B k) (mv13 := r9_s Y B k) (mv14 := k9_sH (r9_s Y B k) (31 * m9_hsh (r9_s Y B k) + (r9_sv Y B k).toInt64)) X
      (fun c1 => ct_X7_bridgeNow l G Y hYM (fun j _ => r9_gdB Y hYt j)) (fun c1 => ct_X7_mix l G _ _) (fun c1 => ?_)
      (fun c1 c2 c3 => ?_) (fun c1 c2 c3 => ct_X7_mix l G _ _) (fun c1 c2 c3 => nx c1)
      (fun c1 c2 c3 c4 => no1 c2 c4) (fun c1 c2 c3 c4 => no1 c2 c4) (fun c1 c2 c3 c4 => no1 c2 c4)
      (fun c1 c2 c3 c4 => ?_) (fun c1 c2 c3 c4 => ct_X7_mix l G _ _) (fun c1 c2 c3 c4 => nx c1)
      (fun c1 c2 c3 => no2 c2 c3) (fun c1 c2 c3 => no2 c2 c3) (fun c1 c2 c3 => no2 c2 c3)
      (fun c1 c2 c3 c4 => ?_) (fun c1 c2 c3 c4 => ct_X7_mix l G _ _) (fun c1 c2 c3 c4 => nx c1)
      (fun c1 c2 c3 c4 => no3 c2 c4) (fun c1 c2 c3 c4 => no3 c2 c4) (fun c1 c2 c3 c4 => no3 c2 c4)
    · have hk6 : k = 6 := by have := g6.mp c1; omega
      have h9 := second 0 (by decide)
      rw [hY, hk6]; exact h9
    · rw [e2]; exact kA c2 c3
    · rw [e2]; exact kC c2 c3
    · rw [e2]; exact kE c2
  exact bk_X7_mixWouldBe_0 X (first 0 (by decide))
