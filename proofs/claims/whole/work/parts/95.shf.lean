/-! Plain mathematics: papers are copied, saved and given back. -/
theorem q9_P_mem {M N : k9_Mem} {q : Nat} {Z : Nat → Int32} (h : ∀ i, i < 8 → N (q + i) = M (q + i)) (hp : q9_P M q Z) : q9_P N q Z := by
  obtain ⟨h1, h2, h3⟩ := hp
  have e0 : N q = M q := h 0 (by decide)
  refine ⟨fun s hs => ?_, ?_, ?_⟩
  · rw [h 1 (by decide), h 2 (by decide), h 3 (by decide), h 4 (by decide)]; exact h1 s hs
  · rw [e0]; exact h2
  · rw [h 6 (by decide), h 7 (by decide)]; exact h3
theorem q9_P_row {M : k9_Mem} {q : Nat} {Z Z2 : Nat → Int32} (h : ∀ j, j < 578 → Z2 j = Z j) (hp : q9_P M q Z) : q9_P M q Z2 := by
  obtain ⟨h1, h2, h3⟩ := hp
  refine ⟨fun s hs => ?_, ?_, fun s hs => ?_⟩
  · rw [h s (by omega), h (96 + s) (by omega), h (192 + s) (by omega), h (288 + s) (by omega)]; exact h1 s hs
  · rw [h 384 (by omega), h 385 (by omega)]; exact h2
  · rw [h (386 + s) (by omega), h (482 + s) (by omega)]; exact h3 s hs
theorem q9_ok_row {Z Z2 : Nat → Int32} {B R : Nat} (h : ∀ j, j < 578 → Z2 j = Z j) (hk : q9_ok Z B R) : q9_ok Z2 B R := by
  obtain ⟨h1, h2, h3, h4, h5⟩ := hk
  refine ⟨fun s hs => ?_, ?_, ?_, fun n hn a ha hb => ?_, fun s hs => ?_⟩
  · rw [h s (by omega), h (96 + s) (by omega), h (192 + s) (by omega), h (288 + s) (by omega)]; exact h1 s hs
  · rw [h 384 (by omega)]; exact h2
  · rw [h 385 (by omega)]; exact h3
  · rw [h (386 + a) (by omega)] at hb
    obtain ⟨e, e1, e2, e3⟩ := h4 n hn a ha hb
    exact ⟨e, e1, e2, by rw [h (482 + e) (by omega)]; exact e3⟩
  · rw [h (386 + s) (by omega)]; exact h5 s hs
theorem q9_cr (M : k9_Mem) (q o j : Nat) {s : Nat} (hs : s < 96) : m9_cr M q o j s = M (o + j) s := by
  unfold m9_cr va_cpy
  rw [if_pos (by omega), show 0 + (s - 0) = s from by omega]
theorem q9_nb {x : Int32} : (∀ n, n < 20 → m9_b (x &&& 2097150) (n + 1) = m9_b x (n + 1)) ∧ m9_b (x &&& 2097150) 0 = false ∧ ∀ v, 21 ≤ v → m9_b (x &&& 2097150) v = false := by
  refine ⟨fun n hn => ?_, ?_, fun v hv => ?_⟩
  · rw [m9_b_and, q9_mask (by omega), decide_eq_true (by omega), Bool.and_true]
  · rw [m9_b_and, q9_mask (by decide), decide_eq_false (by omega), Bool.and_false]
  · by_cases c : v < 32
    · rw [m9_b_and, q9_mask c, decide_eq_false (by omega), Bool.and_false]
    · exact m9_b_big (by omega)
theorem q9_cp {M : k9_Mem} {q o : Nat} {Z : Nat → Int32} (hq : k9_isP q) (ho : k9_isP o) (hqo : q ≠ o) (hp : q9_P M o Z) : q9_P (m9_cp M q o) q Z := by
  have pap := m9_pap hq ho hqo
  obtain ⟨h1, h2, h3⟩ := hp
  have c1 : ∀ j, 1 ≤ j → j ≤ 4 → m9_cp M q o (q + j) = m9_cp1 M q o (q + j) := fun j j1 j2 => by
    unfold m9_cp
    rw [m9_st_ne _ _ _ (by omega), m9_st_ne _ _ _ (by omega), m9_cn_ne _ _ _ _ (by omega) (by omega)]
  have d1 : m9_cp1 M q o (q + 1) = m9_cr M q o 1 := by
    unfold m9_cp1
    rw [k9_sc_ne _ _ (by omega), k9_sc_ne _ _ (by omega), k9_sc_ne _ _ (by omega), k9_sc_eq]
  have d2 : m9_cp1 M q o (q + 2) = m9_cr M q o 2 := by
    unfold m9_cp1
    rw [k9_sc_ne _ _ (by omega), k9_sc_ne _ _ (by omega), k9_sc_eq]
  have d3 : m9_cp1 M q o (q + 3) = m9_cr M q o 3 := by
    unfold m9_cp1
    rw [k9_sc_ne _ _ (by omega), k9_sc_eq]
  have d4 : m9_cp1 M q o (q + 4) = m9_cr M q o 4 := by
    unfold m9_cp1
    rw [k9_sc_eq]
  have o6 : ∀ j, j < 8 → m9_cp1 M q o (o + j) = M (o + j) := fun j hj => by
    unfold m9_cp1
    rw [k9_sc_ne _ _ (pap j 4 hj (by decide)), k9_sc_ne _ _ (pap j 3 hj (by decide)), k9_sc_ne _ _ (pap j 2 hj (by decide)), k9_sc_ne _ _ (pap j 1 hj (by decide))]
  have c6 : ∀ s, s < 96 → m9_cp M q o (q + 6) s = M (o + 6) s &&& 2097150 := fun s hs => by
    have e : m9_cp M q o (q + 6) = m9_cn (m9_cp1 M q o) (q + 5) (o + 5) 96 (q + 6) := by
      unfold m9_cp
      rw [m9_st_ne _ _ _ (by omega), m9_st_ne _ _ _ (by omega)]
    rw [e]
    unfold m9_cn
    rw [k9_sc_ne _ _ (by omega), show q + 6 = q + 5 + 1 from rfl, k9_sc_eq, m9_fl_in hs]
    unfold m9_nbt
    rw [show o + 5 + 1 = o + 6 from rfl, o6 6 (by decide)]
  have c7 : ∀ s, s < 96 → m9_cp M q o (q + 7) s = M (o + 7) s &&& 2097150 := fun s hs => by
    have e : m9_cp M q o (q + 7) = m9_cn (m9_cp1 M q o) (q + 5) (o + 5) 96 (q + 7) := by
      unfold m9_cp
      rw [m9_st_ne _ _ _ (by omega), m9_st_ne _ _ _ (by omega)]
    rw [e]
    unfold m9_cn
    rw [show q + 7 = q + 5 + 2 from rfl, k9_sc_eq, m9_fl_in hs]
    unfold m9_nbt
    rw [show o + 5 + 2 = o + 7 from rfl, o6 7 (by decide)]
  refine ⟨fun s hs => ?_, ⟨?_, ?_⟩, fun s hs => ?_⟩
  · rw [c1 1 (by decide) (by decide), c1 2 (by decide) (by decide), c1 3 (by decide) (by decide), c1 4 (by decide) (by decide), d1, d2, d3, d4, q9_cr _ _ _ _ hs, q9_cr _ _ _ _ hs, q9_cr _ _ _ _ hs, q9_cr _ _ _ _ hs]
    exact h1 s hs
  · unfold m9_cp
    rw [m9_st_at_ne _ _ (by decide), m9_st_at, m9_upd_at]
    exact h2.1
  · unfold m9_cp
    rw [m9_st_at, m9_upd_at]
    exact h2.2
  · rw [c6 s hs, c7 s hs]
    obtain ⟨a1, a2, a3⟩ := q9_nb (x := M (o + 6) s)
    obtain ⟨b1, b2, b3⟩ := q9_nb (x := M (o + 7) s)
    refine ⟨fun n hn => ?_, ⟨a2, b2⟩, fun v hv => ⟨a3 v hv, b3 v hv⟩⟩
    rw [a1 n hn, b1 n hn]
    exact (h3 s hs).1 n hn
/-- the saved states -/
def q9_sv (M : k9_Mem) (F : Nat) : Prop := m9_sh M F ∧ (∀ i j, i < 6 → j < 6 → i ≠ j → k9_pc (M 65 i) ≠ k9_pc (M 65 j)) ∧ M 76 1 = nI F ∧ ∀ j, j < F → q9_P M (k9_pc (M 65 j)) (fun k => M 78 (578 * j + k)) ∧ ∃ B R, q9_ok (fun k => M 78 (578 * j + k)) B R
theorem q9_do65 (M : k9_Mem) {j : Nat} (hj : j < 6) : m9_do M 65 j = if j = 5 then M 65 0 else M 65 (j + 1) := by
  rw [m9_do, m9_st_ne _ _ _ (by decide), m9_st_at]
  by_cases c : j = 5
  · subst c; rw [m9_upd_at, if_pos rfl]
  · rw [m9_upd_ne _ _ c, k9_sc_eq, m9_fl_in (by omega), if_neg c]
def q9_F (F : Nat) : Nat := if F < 6 then F + 1 else 6
def q9_h78 (h z : Nat → Int32) (F : Nat) : Nat → Int32 := if F < 6 then fb_put h z (578 * F) 578 else fb_put (m9_fl (fun j => h (j + 578)) h 2890) z (578 * 5) 578
theorem q9_save (M : k9_Mem) (F : Nat) : m9_save M F 78 = q9_h78 (M 78) (M 77) F ∧ m9_save M F 76 1 = nI (q9_F F) := by
  unfold m9_save q9_h78 q9_F
  by_cases c : F < 6
  · rw [if_pos c, if_pos c, if_pos c]
    unfold m9_sv1
    rw [m9_st_ne _ _ _ (by decide), k9_sc_eq, m9_st_at, m9_upd_at]
    exact ⟨rfl, rfl⟩
  · rw [if_neg c, if_neg c, if_neg c]
    unfold m9_sv1
    have e77 : m9_sv0 M 77 = M 77 := m9_sv0_ne M (by decide) (by decide)
    have e78 : m9_sv0 M 78 = m9_fl (fun j => M 78 (j + 578)) (M 78) 2890 := by
      unfold m9_sv0
      rw [m9_st_ne _ _ _ (by decide), k9_sc_eq]
    rw [m9_st_ne _ _ _ (by decide), k9_sc_eq, m9_st_at, m9_upd_at, e77, e78]
    exact ⟨rfl, rfl⟩
/-- saving, in class and reference at once -/
theorem q9_keep {M N : k9_Mem} {F B R : Nat} (h : q9_sv M F) (hp : q9_P M 1 (M 77)) (hk : q9_ok (M 77) B R) (hc : ∀ k, (9 ≤ k ∧ k ≤ 56 ∨ k = 64 ∨ k = 65) → N k = m9_keep M F k) (h78 : N 78 = q9_h78 (M 78) (M 77) F) (h76 : N 76 1 = nI (q9_F F)) : q9_sv N (q9_F F) := by
  obtain ⟨hs, hd, h1, hj⟩ := h
  have hF := hs.2.1
  have e65 : N 65 = m9_keep M F 65 := hc 65 (by omega)
  have e64 : N 64 = m9_keep M F 64 := hc 64 (by omega)
  have pcell : ∀ q, k9_isP q → q ≠ 1 → ∀ i, i < 8 → N (q + i) = m9_keep M F (q + i) := fun q hq h1 i hi => by
    have := m9_isP_2 hq h1
    exact hc (q + i) (by omega)
  by_cases c : F < 6
  · have eF : q9_F F = F + 1 := if_pos c
    have ek : m9_keep M F = m9_kp1 M F := if_pos c
    have k65 : m9_keep M F 65 = M 65 := by
      have b := m9_isP_2 (hs.2.2 F c).1 (hs.2.2 F c).2
      rw [ek, m9_kp1, m9_st_ne _ _ _ (by decide), m9_cp_ne _ (fun j hj => by omega)]
    have k64 : m9_keep M F 64 1 = nI (F + 1) := by rw [ek, m9_kp1, m9_st_at, m9_upd_at]
    rw [eF] at h76 ⊢
    refine ⟨⟨by rw [e64, k64], by omega, fun j hj6 => by rw [e65, k65]; exact hs.2.2 j hj6⟩, fun i j hi hj6 hij => by rw [e65, k65]; exact hd i j hi hj6 hij, h76, fun j hjF => ?_⟩
    have isj := hs.2.2 j (by omega)
    have isF := hs.2.2 F c
    have e78 : N 78 = fb_put (M 78) (M 77) (578 * F) 578 := by rw [h78]; exact if_pos c
    rw [e65, k65]
    by_cases d : j = F
    · subst d
      have row : ∀ k, k < 578 → N 78 (578 * j + k) = M 77 k := fun k hk2 => by rw [e78, fb_put_in (by omega) (by omega), show 578 * j + k - 578 * j = k from by omega]
      refine ⟨q9_P_row (fun k hk2 => row k hk2) (q9_P_mem (M := m9_cp M (k9_pc (M 65 j)) 1) (fun i hi => ?_) (q9_cp isj.1 (by decide) isj.2 hp)), B, R, q9_ok_row (fun k hk2 => row k hk2) hk⟩
      have b := m9_isP_2 isj.1 isj.2
      rw [pcell _ isj.1 isj.2 i hi, ek, m9_kp1, m9_st_ne _ _ _ (by omega)]
    · have row : ∀ k, k < 578 → N 78 (578 * j + k) = M 78 (578 * j + k) := fun k hk2 => by rw [e78, fb_put_out (by omega)]
      obtain ⟨p1, B', R', p2⟩ := hj j (by omega)
      refine ⟨q9_P_row (fun k hk2 => row k hk2) (q9_P_mem (M := M) (fun i hi => ?_) p1), B', R', q9_ok_row (fun k hk2 => row k hk2) p2⟩
      have b := m9_isP_2 isj.1 isj.2
      have pap := m9_pap isF.1 isj.1 (hd F j c (by omega) (fun z => d z.symm))
      rw [pcell _ isj.1 isj.2 i hi, ek, m9_kp1, m9_st_ne _ _ _ (by omega), m9_cp_ne _ (fun j' hj' => pap i j' hi hj')]
  · have eF : q9_F F = 6 := if_neg c
    have hF6 : F = 6 := by omega
    have ek : m9_keep M F = m9_kp1 (m9_do M) 5 := if_neg c
    have hsd := m9_do_sh hs
    have is5 := hsd.2.2 5 (by decide)
    have b5 := m9_isP_2 is5.1 is5.2
    have k65 : m9_keep M F 65 = m9_do M 65 := by rw [ek, m9_kp1, m9_st_ne _ _ _ (by decide), m9_cp_ne _ (fun j hj => by omega)]
    have k64 : m9_keep M F 64 1 = nI 6 := by rw [ek, m9_kp1, m9_st_at, m9_upd_at]
    have dist : ∀ i j, i < 6 → j < 6 → i ≠ j → k9_pc (m9_do M 65 i) ≠ k9_pc (m9_do M 65 j) := fun i j hi hj6 hij => by
      rw [q9_do65 M hi, q9_do65 M hj6]
      by_cases c1 : i = 5
      · rw [if_pos c1, if_neg (by omega)]
        exact hd 0 (j + 1) (by decide) (by omega) (by omega)
      · rw [if_neg c1]
        by_cases c2 : j = 5
        · rw [if_pos c2]
          exact hd (i + 1) 0 (by omega) (by decide) (by omega)
        · rw [if_neg c2]
          exact hd (i + 1) (j + 1) (by omega) (by omega) (by omega)
    rw [eF] at h76 ⊢
    refine ⟨⟨by rw [e64, k64], by decide, fun j hj6 => by rw [e65, k65]; exact hsd.2.2 j hj6⟩, fun i j hi hj6 hij => by rw [e65, k65]; exact dist i j hi hj6 hij, h76, fun j hjF => ?_⟩
    have isj := hsd.2.2 j (by omega)
    have e78 : N 78 = fb_put (m9_fl (fun j => M 78 (j + 578)) (M 78) 2890) (M 77) (578 * 5) 578 := by rw [h78]; exact if_neg c
    rw [e65, k65]
    by_cases d : j = 5
    · subst d
      have row : ∀ k, k < 578 → N 78 (578 * 5 + k) = M 77 k := fun k hk2 => by rw [e78, fb_put_in (by omega) (by omega), show 578 * 5 + k - 578 * 5 = k from by omega]
      have hp2 : q9_P (m9_do M) 1 (M 77) := q9_P_mem (M := M) (fun i hi => m9_do_f M (by omega) (by omega)) hp
      refine ⟨q9_P_row (fun k hk2 => row k hk2) (q9_P_mem (M := m9_cp (m9_do M) (k9_pc (m9_do M 65 5)) 1) (fun i hi => ?_) (q9_cp isj.1 (by decide) isj.2 hp2)), B, R, q9_ok_row (fun k hk2 => row k hk2) hk⟩
      rw [pcell _ isj.1 isj.2 i hi, ek, m9_kp1, m9_st_ne _ _ _ (by omega)]
    · have row : ∀ k, k < 578 → N 78 (578 * j + k) = M 78 (578 * (j + 1) + k) := fun k hk2 => by
        rw [e78, fb_put_out (by omega), m9_fl_in (by omega), show 578 * j + k + 578 = 578 * (j + 1) + k from by omega]
      obtain ⟨p1, B', R', p2⟩ := hj (j + 1) (by omega)
      have ed : m9_do M 65 j = M 65 (j + 1) := by rw [q9_do65 M (by omega), if_neg d]
      have p1' : q9_P M (k9_pc (m9_do M 65 j)) (fun k => M 78 (578 * (j + 1) + k)) := by rw [ed]; exact p1
      refine ⟨q9_P_row (fun k hk2 => row k hk2) (q9_P_mem (M := M) (fun i hi => ?_) p1'), B', R', q9_ok_row (fun k hk2 => row k hk2) p2⟩
      have b := m9_isP_2 isj.1 isj.2
      have pap := m9_pap is5.1 isj.1 (dist 5 j (by decide) (by omega) (fun z => d z.symm))
      rw [pcell _ isj.1 isj.2 i hi, ek, m9_kp1, m9_st_ne _ _ _ (by omega), m9_cp_ne _ (fun j' hj' => pap i j' hi hj'), m9_do_f _ (by omega) (by omega)]
/-- giving back -/
theorem q9_give {M N : k9_Mem} {F : Nat} (h : q9_sv M F) (hF : 0 < F) (hc : ∀ k, (k < 57 ∨ k = 64 ∨ k = 65) → N k = m9_give M F k) (h78 : N 78 = M 78) (h76 : N 76 1 = nI (F - 1)) : q9_sv N (F - 1) ∧ q9_P N 1 (fun k => M 78 (578 * (F - 1) + k)) ∧ ∃ B R, q9_ok (fun k => M 78 (578 * (F - 1) + k)) B R := by
  obtain ⟨hs, hd, h1, hj⟩ := h
  have hF6 := hs.2.1
  have isF := hs.2.2 (F - 1) (by omega)
  have bF := m9_isP_2 isF.1 isF.2
  have g65 : m9_give M F 65 = M 65 := by
    unfold m9_give
    rw [m9_cp_ne _ (fun j hj => by omega), m9_st_ne _ _ _ (by decide)]
  have g64 : m9_give M F 64 1 = nI (F - 1) := by
    unfold m9_give
    rw [m9_cp_ne _ (fun j hj => by omega), m9_st_at, m9_upd_at]
  have gk : ∀ k, 9 ≤ k → k ≠ 64 → m9_give M F k = M k := fun k k1 k2 => by
    unfold m9_give
    rw [m9_cp_ne _ (fun j hj => by omega), m9_st_ne _ _ _ k2]
  have e65 : N 65 = M 65 := by rw [hc 65 (by omega), g65]
  have e64 : N 64 1 = nI (F - 1) := by rw [hc 64 (by omega), g64]
  obtain ⟨p1, B, R, p2⟩ := hj (F - 1) (by omega)
  refine ⟨⟨⟨e64, by omega, fun j hj6 => by rw [e65]; exact hs.2.2 j hj6⟩, fun i j hi hj6 hij => by rw [e65]; exact hd i j hi hj6 hij, h76, fun j hjF => ?_⟩, ?_, B, R, p2⟩
  · have isj := hs.2.2 j (by omega)
    have bj := m9_isP_2 isj.1 isj.2
    obtain ⟨y1, B', R', y2⟩ := hj j (by omega)
    rw [e65, h78]
    exact ⟨q9_P_mem (M := M) (fun i hi => by rw [hc _ (by omega), gk _ (by omega) (by omega)]) y1, B', R', y2⟩
  · have hp2 : q9_P (k9_st M 64 1 (nI (F - 1))) (k9_pc (M 65 (F - 1))) (fun k => M 78 (578 * (F - 1) + k)) := q9_P_mem (M := M) (fun i hi => m9_st_ne _ _ _ (by omega)) p1
    exact q9_P_mem (M := m9_cp (k9_st M 64 1 (nI (F - 1))) 1 (k9_pc (M 65 (F - 1)))) (fun i hi => hc _ (by omega)) (q9_cp (by decide) isF.1 (fun z => isF.2 z.symm) hp2)
