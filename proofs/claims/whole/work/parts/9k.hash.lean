/-! The digests. -/
theorem r9_mixC (l : Launch) (G : k9_G) (L : k9_Mem) (h v : Int64) : k9_Cv l yX7_mix wsX7_mix rm_X7_mix G (k9_sH L h) [.ref (k9_ga G 76), .long v] (k9_sH L (31 * h + v)) := by
  have c := ct_X7_mix l G (k9_sH L h) v
  rw [r9_hsh, r9_sH2] at c
  exact c
def r9_L (M : k9_Mem) (B : Nat) : k9_Mem := m9_lay (k9_st M 76 5 0) B
def r9_C (M : k9_Mem) (B : Nat) : Nat := m9_C (k9_st M 76 5 0) B
def r9_g1 (M : k9_Mem) (B R : Nat) : Nat → Int64 := m9_mix 2371 (fun w => (m9_rco (r9_L M B) (r9_C M B) R (nI w)).toInt64)
def r9_g2 (M : k9_Mem) (B R : Nat) : Int64 := 31 * (31 * r9_g1 M B R 15 + (M 77 384).toInt64) + (M 77 385).toInt64
def r9_g3 (M : k9_Mem) (B R : Nat) : Nat → Int64 := m9_mix (r9_g2 M B R) (fun k => (m9_stv (r9_L M B) (r9_C M B) R (k / 7) (nI (k % 7))).toInt64)
def r9_g4 (M : k9_Mem) (B R : Nat) : Nat → Int64 := m9_mix (r9_g3 M B R 672) (fun k => (m9_pnv (r9_L M B) (k / 6) (nI (k % 6))).toInt64)
def r9_g5 (M : k9_Mem) (B R : Nat) (K : Nat → Nat) : Nat → Int64 := m9_mix (r9_g4 M B R (6 * r9_C M B)) (fun k => (m9_tnv (r9_L M B) (K (k / 4)) (nI (k % 4))).toInt64)
def r9_Wd (M : k9_Mem) (B R T : Nat) (K : Nat → Nat) : k9_Mem := r9_W (k9_sH (r9_L M B) (r9_g5 M B R K (4 * T))) B
def r9_g6 (M : k9_Mem) (B R T U : Nat) (K : Nat → Nat) : Nat → Int64 := m9_mix (31 * m9_hsh (r9_Wd M B R T K) + (nI U).toInt64) (fun i => (M 79 i).toInt64)
theorem r9_mix0 (h : Int64) (f : Nat → Int64) : m9_mix h f 0 = h := rfl
theorem r9_mixs (h : Int64) (f : Nat → Int64) (n : Nat) : m9_mix h f (n + 1) = 31 * m9_mix h f n + f n := rfl
theorem r9_gs (M : k9_Mem) (B R T U : Nat) (K : Nat → Nat) : (r9_g1 M B R 0 = 2371 ∧ ∀ i, r9_g1 M B R (i + 1) = 31 * r9_g1 M B R i + (m9_rco (r9_L M B) (r9_C M B) R (nI i)).toInt64) ∧
    (r9_g3 M B R 0 = 31 * (31 * r9_g1 M B R 15 + (M 77 384).toInt64) + (M 77 385).toInt64 ∧ ∀ i, r9_g3 M B R (i + 1) = 31 * r9_g3 M B R i + (m9_stv (r9_L M B) (r9_C M B) R (i / 7) (nI (i % 7))).toInt64) ∧
    (r9_g4 M B R 0 = r9_g3 M B R 672 ∧ ∀ i, r9_g4 M B R (i + 1) = 31 * r9_g4 M B R i + (m9_pnv (r9_L M B) (i / 6) (nI (i % 6))).toInt64) ∧
    (r9_g5 M B R K 0 = r9_g4 M B R (6 * r9_C M B) ∧ ∀ i, r9_g5 M B R K (i + 1) = 31 * r9_g5 M B R K i + (m9_tnv (r9_L M B) (K (i / 4)) (nI (i % 4))).toInt64) ∧
    (r9_g6 M B R T U K 0 = 31 * m9_hsh (r9_Wd M B R T K) + (nI U).toInt64 ∧ ∀ i, r9_g6 M B R T U K (i + 1) = 31 * r9_g6 M B R T U K i + (M 79 i).toInt64) := by
  unfold r9_g6 r9_g5 r9_g4 r9_g3 r9_g2 r9_g1
  refine ⟨⟨r9_mix0 _ _, fun i => r9_mixs _ _ i⟩, ⟨r9_mix0 _ _, fun i => r9_mixs _ _ i⟩, ⟨r9_mix0 _ _, fun i => r9_mixs _ _ i⟩, ⟨r9_mix0 _ _, fun i => r9_mixs _ _ i⟩, ⟨r9_mix0 _ _, fun i => r9_mixs _ _ i⟩⟩
theorem ct_X7_digest (l : Launch) (G : k9_G) (M : k9_Mem) {B R T U : Nat} (hB : B < 1000) (hM : M 77 384 = nI B) (hR : R < 900) (hM2 : M 77 385 = nI R) (ht : q9_tok (M 77)) (hT : m9_tnn (M 77) = nI T) (hT2 : T ≤ 1920) (K : Nat → Nat) (hK : ∀ q, q < T → m9_tpl (M 77) q (K q)) (hU : U ≤ 60) (hM3 : M 76 3 = nI U) (hsh : m9_shOk (m9_rn (r9_X (k9_sH (r9_L M B) (r9_g5 M B R K (4 * T))) B) B) (m9_tnn (M 77))) : k9_Cl l yX7_digest wsX7_digest rm_X7_digest G M [.ref (k9_ga G 76)] (r9_g6 M B R T U K U) (k9_sH (r9_Wd M B R T K) (r9_g6 M B R T U K U)) := by
  refine k9_metL (own := RX7) (by decide +kernel) rfl rfl (Nat.le_of_ble_eq_true rfl) ?_
  intro p e s m args below meth c A Q X HR
  have z77 : k9_st M 76 5 0 77 = M 77 := m9_st_ne _ _ _ (by decide)
  have gd : m9_gd (k9_st M 76 5 0) B := q9_gd _ B (by rw [z77]; exact ht)
  obtain ⟨L, hL⟩ : ∃ L, L = r9_L M B := ⟨_, rfl⟩
  obtain ⟨C, hC⟩ : ∃ C, C = r9_C M B := ⟨_, rfl⟩
  have la : m9_laid L C := by rw [hL, hC]; exact gd.2.1
  have la2 : m9_lai2 L C := by rw [hL, hC]; exact gd.2.2
  have lays := gd.1
  have l77 : L 77 = M 77 := by rw [hL]; unfold r9_L; rw [m9_lay_77, z77]
  have l3 : L 76 3 = nI U := by rw [hL]; unfold r9_L; rw [q9_lay76 _ _ (by decide), m9_st_at_ne _ _ (by decide)]; exact hM3
  have l79 : L 79 = M 79 := by rw [hL]; unfold r9_L; rw [q9_lay_ne _ _ (by omega), m9_st_ne _ _ _ (by decide)]
  have l81 : L 81 = m9_y2 (k9_st M 76 5 0) B 21 81 := by rw [hL]; exact m9_y3_ne _ (by decide) (by decide) (by decide) (by decide) _
  have l82 : L 82 = m9_y2 (k9_st M 76 5 0) B 21 82 := by rw [hL]; exact m9_y3_ne _ (by decide) (by decide) (by decide) (by decide) _
  have hC9 : C ≤ 960 := la.2.1
  have al : ∀ h : Int64, ∀ k, k ≠ 76 → k9_sH L h k = L k := fun h k hk => r9_k L h hk
  have al2 : ∀ h : Int64, ∀ j, j ≠ 18 → j ≠ 19 → k9_sH L h 76 j = L 76 j := fun h j a b => r9_76 L h a b
  have x77 : ∀ h : Int64, k9_sH L h 77 = M 77 := fun h => by rw [al h 77 (by decide), l77]
  obtain ⟨W, hW⟩ : ∃ W, W = r9_Wd M B R T K := ⟨_, rfl⟩
  have cW : k9_Cv l yX7_mixWouldBe wsX7_mixWouldBe rm_X7_mixWouldBe G (k9_sH L (r9_g5 M B R K (4 * T))) [.ref (k9_ga G 76)] W := by
    rw [hW, hL]
    have x77' : k9_sH (r9_L M B) (r9_g5 M B R K (4 * T)) 77 = M 77 := by rw [← hL]; exact x77 _
    exact ct_X7_mixWouldBe l G _ hB (by rw [x77']; exact hM) (by rw [x77']; exact ht) (by rw [x77']; exact hsh)
  have stW : r9_st W (k9_sH L (r9_g5 M B R K (4 * T))) := by
    rw [hW, hL]
    have x77' : k9_sH (r9_L M B) (r9_g5 M B R K (4 * T)) 77 = M 77 := by rw [← hL]; exact x77 _
    exact r9_st_W _ (by rw [x77']; exact hM)
  have w3 : W 76 3 = nI U := by rw [stW.2.2 3 (by decide) (by decide) (by decide), al2 _ 3 (by decide) (by decide), l3]
  have w79 : W 79 = M 79 := by rw [stW.2.1 79 (by omega), al _ 79 (by decide), l79]
  obtain ⟨⟨z1, s1⟩, ⟨z3, s3⟩, ⟨z4, s4⟩, ⟨z5, s5⟩, ⟨z6, s6⟩⟩ := r9_gs M B R T U K
  rw [← hL, ← hC] at s1 s3
  rw [← hL] at s4 s5
  rw [← hC] at z5
  rw [← hW] at z6 HR
  generalize r9_g6 M B R T U K = a6 at *
  generalize r9_g5 M B R K = a5 at *
  generalize r9_g4 M B R = a4 at *
  generalize r9_g3 M B R = a3 at *
  generalize r9_g1 M B R = a1 at *
  have loop5 : ∀ i, i ≤ U → k9_U p l e rm_X7_digest s m args below meth c Q A G 3 0 0 (k9_sH W (a6 i)) 184 [(0, .ref (k9_ga G 76)), (2, .int (nI i))] [] := by
    refine m9_down U (fun i hi next => ?_)
    have e3 : k9_sH W (a6 i) 76 3 = nI U := by rw [r9_76 _ _ (by decide) (by decide), w3]
    have e79 : k9_sH W (a6 i) 79 = M 79 := by rw [r9_k _ _ (by decide), w79]
    have ei : (nI i).toNatClampNeg = i := m9_cl (by omega)
    have st := s6 i
    refine bk_X7_digest_184 (mv1 := k9_sH W (a6 (i + 1))) X (fun c1 => ?_) (fun c1 => ?_) (fun c1 => ?_) (fun c1 => ?_)
    · rw [e3] at c1
      have hi2 := m9_ex (N := U) (by omega) hi c1
      subst hi2
      have h9 := HR 213 [] dX7_digest_213
      refine k9_eq rfl ?_ h9
      have := r9_hsh W (a6 i)
      unfold m9_hsh at this
      rw [this]
    · rw [e3] at c1
      have := m9_go (N := U) (by omega) hi c1
      exact m9_in (by omega) (by decide)
    · rw [ei, e79, st]
      exact r9_mixC l G W _ _
    · rw [e3] at c1
      rw [nI_1]
      exact next (m9_go (N := U) (by omega) hi c1)
  have loop4 : ∀ i, i ≤ 4 * T → k9_U p l e rm_X7_digest s m args below meth c Q A G 3 0 0 (k9_sH L (a5 i)) 141 [(0, .ref (k9_ga G 76)), (1, .int (nI T)), (2, .int (nI i))] [] := by
    refine m9_down (4 * T) (fun i hi next => ?_)
    have e0 : (4 : Int32) * nI T = nI (4 * T) := by rw [show (4 : Int32) = nI 4 from rfl, pk_mul]
    have e1 : nI i / (4 : Int32) = nI (i / 4) := pk_div (d := 4) (by omega) (by decide) (by decide)
    have e2 : nI i - nI i / (4 : Int32) * (4 : Int32) = nI (i % 4) := pk_rem (d := 4) (by omega) (by decide) (by decide)
    have st := s5 i
    refine bk_X7_digest_141 (mv1 := W) (mv2 := k9_sH W (a6 0)) (rv3 := m9_tnv L (K (i / 4)) (nI (i % 4))) (mv4 := k9_sH L (a5 (i + 1))) X (fun c1 => ?_) (fun c1 => ?_) (fun c1 => ?_) (fun c1 => ?_) (fun c1 => ?_) (fun c1 => ?_)
    · rw [e0] at c1
      have hi2 := m9_ex (N := 4 * T) (by omega) hi c1
      rw [hi2]
      exact cW
    · rw [w3]
      have := ct_X7_mix l G W (nI U).toInt64
      rw [z6]
      exact this
    · exact loop5 0 (by omega)
    · rw [e0] at c1
      have hlt := m9_go (N := 4 * T) (by omega) hi c1
      have hq : i / 4 < T := by omega
      obtain ⟨k1, k2, k3⟩ := hK (i / 4) hq
      rw [e2, e1]
      have ct := ct_X7_tuneNow l G (k9_sH L (a5 i)) (q := i / 4) (K := K (i / 4)) (by rw [x77]; exact ⟨k1, k2, k3⟩) (fun q => by
        rw [al _ 81 (by decide), l81] at q
        rw [al _ 82 (by decide), l82]
        exact lays.2 (K (i / 4)) k1 (decide_eq_true_iff.mpr q)) (by rw [x77]; exact q9_tlo ht (by omega) (by omega)) (nI (i % 4))
      rw [r9_tnv (al _)] at ct
      exact ct
    · rw [st]
      exact r9_mixC l G L _ _
    · rw [e0] at c1
      rw [nI_1]
      exact next (m9_go (N := 4 * T) (by omega) hi c1)
  have loop3 : ∀ i, i ≤ 6 * C → k9_U p l e rm_X7_digest s m args below meth c Q A G 3 0 0 (k9_sH L (a4 i)) 100 [(0, .ref (k9_ga G 76)), (1, .int (nI i))] [] := by
    refine m9_down (6 * C) (fun i hi next => ?_)
    have e13 : k9_sH L (a4 i) 76 13 = nI C := by rw [al2 _ 13 (by decide) (by decide)]; exact la.1
    have e0 : (6 : Int32) * nI C = nI (6 * C) := by rw [show (6 : Int32) = nI 6 from rfl, pk_mul]
    have e1 : nI i / (6 : Int32) = nI (i / 6) := pk_div (d := 6) (by omega) (by decide) (by decide)
    have e2 : nI i - nI i / (6 : Int32) * (6 : Int32) = nI (i % 6) := pk_rem (d := 6) (by omega) (by decide) (by decide)
    have st := s4 i
    refine bk_X7_digest_100 (rv1 := nI T) (rv2 := m9_pnv L (i / 6) (nI (i % 6))) (mv3 := k9_sH L (a4 (i + 1))) X (fun c1 => ?_) (fun c1 => ?_) (fun c1 => ?_) (fun c1 => ?_) (fun c1 => ?_)
    · have ct := ct_X7_tuneNotes l G (k9_sH L (a4 i))
      rw [x77, hT] at ct
      exact ct
    · rw [e13, e0] at c1
      have hi2 := m9_ex (N := 6 * C) (by omega) hi c1
      have h9 := loop4 0 (by omega)
      rw [z5] at h9
      rw [hi2]
      exact h9
    · rw [e13, e0] at c1
      have hlt := m9_go (N := 6 * C) (by omega) hi c1
      have hq : i / 6 < C := by omega
      rw [e2, e1]
      have ct := ct_X7_playedNow l G (k9_sH L (a4 i)) (c9 := i / 6) (by omega) ((r9_laid (al _) (al2 _) la).2.2 _ hq) ((r9_lai2 (al _) (al2 _) la2).2.2 _ hq) (nI (i % 6))
      rw [q9_pnv_c (al _)] at ct
      exact ct
    · rw [st]
      exact r9_mixC l G L _ _
    · rw [e13, e0] at c1
      rw [nI_1]
      exact next (m9_go (N := 6 * C) (by omega) hi c1)
  have loop2 : ∀ i, i ≤ 672 → k9_U p l e rm_X7_digest s m args below meth c Q A G 3 0 0 (k9_sH L (a3 i)) 68 [(0, .ref (k9_ga G 76)), (1, .int (nI i))] [] := by
    refine m9_down 672 (fun i hi next => ?_)
    have e1 : nI i / (7 : Int32) = nI (i / 7) := pk_div (d := 7) (by omega) (by decide) (by decide)
    have e2 : nI i - nI i / (7 : Int32) * (7 : Int32) = nI (i % 7) := pk_rem (d := 7) (by omega) (by decide) (by decide)
    have st := s3 i
    refine bk_X7_digest_68 (rv1 := m9_stv L C R (i / 7) (nI (i % 7))) (mv2 := k9_sH L (a3 (i + 1))) X (fun c1 => ?_) (fun c1 => ?_) (fun c1 => ?_) (fun c1 => ?_)
    · have hi2 := m9_ex (N := 672) (by decide) hi c1
      have h9 := loop3 0 (by omega)
      rw [z4] at h9
      rw [hi2]
      exact h9
    · have hlt := m9_go (N := 672) (by decide) hi c1
      rw [e2, e1]
      have ct := ct_X7_stepNow l G (k9_sH L (a3 i)) (i := i / 7) (r9_lai2 (al _) (al2 _) la2) (by omega) hR (by rw [x77]; exact hM2) (nI (i % 7))
      rw [r9_stv (al _)] at ct
      exact ct
    · rw [st]
      exact r9_mixC l G L _ _
    · rw [nI_1]
      exact next (m9_go (N := 672) (by decide) hi c1)
  have loop1 : ∀ i, i ≤ 15 → k9_U p l e rm_X7_digest s m args below meth c Q A G 3 0 0 (k9_sH L (a1 i)) 18 [(0, .ref (k9_ga G 76)), (1, .int (nI i))] [] := by
    refine m9_down 15 (fun i hi next => ?_)
    have st := s1 i
    refine bk_X7_digest_18 (mv1 := k9_sH L (31 * a1 i + (M 77 384).toInt64)) (mv2 := k9_sH L (31 * (31 * a1 i + (M 77 384).toInt64) + (M 77 385).toInt64)) (rv3 := m9_rco L C R (nI i)) (mv4 := k9_sH L (a1 (i + 1))) X (fun c1 => ?_) (fun c1 => ?_) (fun c1 => ?_) (fun c1 => ?_) (fun c1 => ?_) (fun c1 => ?_)
    · rw [x77]
      exact r9_mixC l G L _ _
    · rw [x77]
      exact r9_mixC l G L _ _
    · have hi2 := m9_ex (N := 15) (by decide) hi c1
      have h9 := loop2 0 (by decide)
      rw [z3] at h9
      rw [hi2]
      exact h9
    · have ct := ct_X7_counted l G (k9_sH L (a1 i)) (r9_laid (al _) (al2 _) la) (r9_lai2 (al _) (al2 _) la2) hR (by rw [x77]; exact hM2) (nI i)
      rw [r9_rco (al _) (al2 _)] at ct
      exact ct
    · rw [st]
      exact r9_mixC l G L _ _
    · rw [nI_1]
      exact next (m9_go (N := 15) (by decide) hi c1)
  have h9 := loop1 0 (by decide)
  rw [z1] at h9
  refine bk_X7_digest_0 (mv1 := L) X ?_ h9
  rw [hL]
  exact ct_X7_lay l G _ hB (by rw [z77]; exact hM) gd.1
