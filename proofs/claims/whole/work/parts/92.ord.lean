/-! Plain mathematics: all counts; the order of places; the tune. -/
theorem q9_hasP {M S : k9_Mem} {B R : Nat} (hp : q9_P M 1 (S 77)) (hk : q9_ok (S 77) B R) {n f : Nat} (hn : n < 20) (hf : f < 96) (hb : m9_b (m9_y2 S B 21 81 f) n = true) : m9_has M 6 (nI (n + 1)) (nI f) (nI (m9_ef (m9_y2 S B 21 82) n f)) ↔ q9_Rb (m9_y2 S B 21) (S 77) n f = true := by
  have he := q9_Yef S B hf (show n < 21 by omega) hb
  unfold m9_has m9_begins q9_Rb
  rw [m9_cl (show f < 2147483648 by omega), q9_at _ (by omega), hb, show M (6 + 1) = M 7 from rfl, show M (6 + 2) = M 8 from rfl, ((hp.2.2 f hf).1 n hn).1, Bool.true_and, Bool.and_eq_true, decide_eq_true_iff]
  have ht : m9_b (S 77 (386 + f)) n = true → m9_from (M 8) (nI (n + 1)) (nI f) 96 = nI (m9_ef (fun j => S 77 (482 + j)) n f) ∧ m9_ef (fun j => S 77 (482 + j)) n f < 96 := fun z => by
    have h9 := q9_tlo hk.2.2.2.1 hn hf (fun y => by rw [(q9_at0 _ (by omega)).mp y] at z; cases z)
    exact ⟨q9_from_ef (r2 := fun j => S 77 (482 + j)) hn (fun s hs => ((hp.2.2 s hs).1 n hn).2) h9, h9⟩
  constructor
  · rintro ⟨⟨_, z1⟩, z2⟩
    obtain ⟨t1, t2⟩ := ht z1
    rw [t1, m9_eq (by omega) (by omega)] at z2
    exact ⟨z1, z2.symm⟩
  · rintro ⟨z1, z2⟩
    obtain ⟨t1, t2⟩ := ht z1
    exact ⟨⟨m9_isS_nI hf, z1⟩, by rw [t1, z2]⟩
/-- open holes of the wrong notes -/
def q9_wh (S : k9_Mem) (B n f : Nat) : Nat := if q9_Rb (m9_y2 S B 21) (S 77) n f then 0 else fb_ct (fun j => m9_b (m9_zr (S 77) (f + j) 21) n) (m9_ef (m9_y2 S B 21 82) n f + 1 - f)
theorem q9_hv {M S : k9_Mem} {B R : Nat} (hp : q9_P M 1 (S 77)) (hk : q9_ok (S 77) B R) (hH : q9_H M B) {n f : Nat} (hn : n < 20) (hf : f < 96) : m9_hv M f (n + 1) = nI (if m9_b (m9_y2 S B 21 81 f) n then q9_wh S B n f else 0) := by
  have hb60 : m9_begins M 59 (nI (n + 1)) (nI f) ↔ m9_b (m9_y2 S B 21 81 f) n = true := by
    unfold m9_begins
    rw [m9_cl (show f < 2147483648 by omega), q9_at _ (by omega), show M (59 + 1) = M 60 from rfl, ← q9_cvn hn, q9_b60 hp hk hH hf (by omega)]
    exact ⟨fun z => z.2, fun z => ⟨m9_isS_nI hf, z⟩⟩
  unfold m9_hv
  by_cases c : m9_b (m9_y2 S B 21 81 f) n = true
  · have he := q9_Yef S B hf (show n < 21 by omega) c
    have e61 : m9_from (M 61) (nI (n + 1)) (nI f) 96 = nI (m9_ef (m9_y2 S B 21 82) n f) := q9_from_ef hn (fun s hs => by rw [← q9_cvn hn]; exact q9_b61 hp hk hH hs (by omega)) he
    have h6 := q9_hasP hp hk hn hf c
    rw [if_pos (hb60.mpr c), if_pos c, e61]
    unfold q9_wh
    by_cases d : q9_Rb (m9_y2 S B 21) (S 77) n f = true
    · rw [if_pos (h6.mpr d), if_pos d]; rfl
    · rw [if_neg (fun z => d (h6.mp z)), if_neg d, q9_hrE hp hk hH hn (m9_ef_ge _ _ _) he]
  · rw [if_neg (fun z => c (hb60.mp z)), if_neg c]; rfl
theorem q9_c11 {M S : k9_Mem} {B R : Nat} (hp : q9_P M 1 (S 77)) (hk : q9_ok (S 77) B R) (hH : q9_H M B) : m9_hw M = m9_who (m9_lay S B) (m9_C S B) := by
  have e1 : m9_hw M = nI (fb_sm (fun s => fb_sm (fun n => if m9_b (m9_y2 S B 21 81 s) n then q9_wh S B n s else 0) 20) 96) := by
    unfold m9_hw
    apply q9_sum'
    intro s hs
    unfold m9_hs
    apply q9_sum'
    intro n hn
    exact q9_hv hp hk hH hn hs
  have e2 : m9_who (m9_lay S B) (m9_C S B) = nI (fb_sm (fun k => if m9_bg (m9_y2 S B 21 81) k then q9_wh S B (k % 20) (k / 20) else 0) 1920) := by
    unfold m9_who m9_C
    apply q9_places
    intro k hk2 hb
    have h6 := q9_irP S B hk.2.2.2.1 hk2 hb
    obtain ⟨h1, h2, h3⟩ := q9_pl_c84 S B hk2 hb
    have hb2 := hb
    rw [q9_bg] at hb2
    have he := q9_Yef S B (show k / 20 < 96 by omega) (show k % 20 < 21 by omega) hb2
    have h5 := q9_holE S B (n := k % 20) (by omega) (m9_ef_ge (m9_y2 S B 21 82) (k % 20) (k / 20)) he
    unfold q9_wh
    by_cases d : q9_Rb (m9_y2 S B 21) (S 77) (k % 20) (k / 20) = true
    · rw [if_pos (h6.mpr d), if_pos d]; rfl
    · rw [if_neg (fun z => d (h6.mp z)), if_neg d]
      unfold m9_hoc
      rw [h1, h2, h3, m9_cl (show k % 20 < 2147483648 by omega), m9_cl (show k / 20 < 2147483648 by omega), m9_cl (show m9_ef (m9_y2 S B 21 82) (k % 20) (k / 20) < 2147483648 by omega), h5]
  rw [e1, e2]
  refine congrArg nI ?_
  rw [show (1920 : Nat) = 20 * 96 from rfl, q9_blocks _ 20 96]
  apply fb_sm_cong
  intro s _
  apply fb_sm_cong
  intro n hn
  show _ = (if m9_bg (m9_y2 S B 21 81) (20 * s + n) = true then q9_wh S B ((20 * s + n) % 20) ((20 * s + n) / 20) else 0)
  rw [q9_bg, show (20 * s + n) / 20 = s from by omega, show (20 * s + n) % 20 = n from by omega]
theorem q9_lay76 (S : k9_Mem) (B : Nat) {j : Nat} (h : j ≠ 13) : m9_lay S B 76 j = S 76 j := by
  have y1 : ∀ i, m9_y1 S i 76 = S 76 := fun i => by
    induction i with
    | zero => rfl
    | succ i ih =>
      show m9_l0 (m9_y1 S i) i (m9_zr (S 77) i 21) 76 = S 76
      unfold m9_l0
      rw [m9_st_ne _ _ _ (by decide), m9_st_ne _ _ _ (by decide), m9_st_ne _ _ _ (by decide), m9_st_ne _ _ _ (by decide), ih]
  unfold m9_lay
  rw [m9_y3_76 _ h, m9_y2_ne S B (by decide) (by decide) (by decide), y1]
/-- all counts -/
theorem q9_cou {M S : k9_Mem} {B R : Nat} (hp : q9_P M 1 (S 77)) (hk : q9_ok (S 77) B R) (hH : q9_H M B) (hF : M 64 1 = S 76 1) (w : Int32) : m9_cou M R w = m9_rco (m9_lay S B) (m9_C S B) R w := by
  have e13 : m9_lay S B 76 13 = nI (m9_C S B) := (q9_gd S B hk.2.2.2.1).2.1.1
  have e1 : m9_lay S B 76 1 = M 64 1 := by rw [q9_lay76 S B (by decide), hF]
  have er : m9_rig (m9_lay S B) (m9_C S B) = m9_rn S B := rfl
  unfold m9_cou m9_rco
  rw [m9_lay_77, e13, e1, er, q9_c0 hp hk, q9_c1 hp hk, q9_c2 hp hk, q9_c3 hp hk hH, q9_c4 hp hk, q9_c5 hp hk hH, q9_c8 hp hk hH R, q9_c9 hp hk hH R, q9_c10 hp hk hH R, q9_c11 hp hk hH, q9_c12 hp hk hH R, q9_c13 (S := S) (B := B) hp R]
/-- the order of places -/
theorem q9_cnt {F r : Nat → Int32} (h : ∀ s, s < 96 → ∀ n, n < 20 → m9_b (F s) (n + 1) = m9_b (r s) n) : ∀ i, i ≤ 96 → m9_cnt F i = nI (fb_ct (m9_bg r) (20 * i))
  | 0, _ => rfl
  | i + 1, hi => by
    show m9_cnt F i + m9_bc (F i &&& 2097150) = _
    rw [q9_cnt h i (by omega), q9_bcm, nI_add, Nat.mul_succ, fb_ct_split (m9_bg r) (20 * i) 20]
    refine congrArg nI ?_
    congr 1
    apply fb_ct_cong
    intro n hn
    rw [q9_bg, show (20 * i + n) / 20 = i from by omega, show (20 * i + n) % 20 = n from by omega]
    exact h i (by omega) n hn
theorem q9_ctlt (p : Nat → Bool) {n : Nat} (h : n ≤ 1920) : fb_ct p n < 2147483648 := by
  have := fb_ct_le p n
  omega
theorem q9_fs {F r : Nat → Int32} (h : ∀ s, s < 96 → ∀ n, n < 20 → m9_b (F s) (n + 1) = m9_b (r s) n) {K : Nat} (hK : K < 1920) (hb : m9_bg r K = true) : ∀ n, n ≤ 96 → 96 - n ≤ K / 20 → m9_fs F (nI (fb_ct (m9_bg r) K)) n = nI (K / 20)
  | 0, _, h2 => by omega
  | n + 1, hn, h2 => by
    show (if m9_cnt F (96 - n) ≤ nI (fb_ct (m9_bg r) K) then m9_fs F (nI (fb_ct (m9_bg r) K)) n else nI (95 - n)) = _
    rw [q9_cnt h (96 - n) (by omega)]
    have l1 := q9_ctlt (m9_bg r) (show 20 * (96 - n) ≤ 1920 by omega)
    have l2 := q9_ctlt (m9_bg r) (show K ≤ 1920 by omega)
    by_cases c : 95 - n = K / 20
    · have h3 : fb_ct (m9_bg r) (K + 1) ≤ fb_ct (m9_bg r) (20 * (96 - n)) := fb_ct_mono _ (by omega)
      rw [fb_ct_succ, if_pos hb] at h3
      rw [if_neg (fun z => by have := (m9_le l1 l2).mp z; omega), c]
    · have h3 : fb_ct (m9_bg r) (20 * (96 - n)) ≤ fb_ct (m9_bg r) K := fb_ct_mono _ (by omega)
      rw [if_pos ((m9_le l1 l2).mpr h3)]
      exact q9_fs h hK hb n (by omega) (by omega)
theorem q9_fs_no {F r : Nat → Int32} (h : ∀ s, s < 96 → ∀ n, n < 20 → m9_b (F s) (n + 1) = m9_b (r s) n) {q : Nat} (hq : q < 2147483648) (hC : fb_ct (m9_bg r) 1920 ≤ q) : ∀ n, n ≤ 96 → m9_fs F (nI q) n = -1
  | 0, _ => rfl
  | n + 1, hn => by
    show (if m9_cnt F (96 - n) ≤ nI q then m9_fs F (nI q) n else nI (95 - n)) = _
    rw [q9_cnt h (96 - n) (by omega)]
    have l1 := q9_ctlt (m9_bg r) (show 20 * (96 - n) ≤ 1920 by omega)
    have h3 : fb_ct (m9_bg r) (20 * (96 - n)) ≤ fb_ct (m9_bg r) 1920 := fb_ct_mono _ (by omega)
    rw [if_pos ((m9_le l1 hq).mpr (by omega))]
    exact q9_fs_no h hq hC n (by omega)
theorem q9_vo {M : k9_Mem} {qq : Nat} {r : Nat → Int32} (h : ∀ s, s < 96 → ∀ n, n < 20 → m9_b (M (qq + 1) s) (n + 1) = m9_b (r s) n) {K : Nat} (hK : K < 1920) (hb : m9_bg r K = true) : ∀ n, n ≤ 20 → 20 - n ≤ K % 20 → m9_vo M qq (nI (fb_ct (m9_bg r) K)) (nI (K / 20)) (nI (fb_ct (m9_bg r) (20 * (K / 20) + (20 - n)))) n = nI (K % 20 + 1)
  | 0, _, h2 => by omega
  | n + 1, hn, h2 => by
    have hbg : m9_begins M qq (nI (20 - n)) (nI (K / 20)) ↔ m9_bg r (20 * (K / 20) + (19 - n)) = true := by
      unfold m9_begins
      rw [m9_cl (show K / 20 < 2147483648 by omega), q9_at _ (by omega), show 20 - n = 19 - n + 1 from by omega, h _ (by omega) _ (by omega), q9_bg, show (20 * (K / 20) + (19 - n)) / 20 = K / 20 from by omega, show (20 * (K / 20) + (19 - n)) % 20 = 19 - n from by omega]
      exact ⟨fun z => z.2, fun z => ⟨m9_isS_nI (by omega), z⟩⟩
    have l1 := q9_ctlt (m9_bg r) (show 20 * (K / 20) + (20 - (n + 1)) ≤ 1920 by omega)
    have l2 := q9_ctlt (m9_bg r) (show K ≤ 1920 by omega)
    show (if m9_begins M qq (nI (20 - n)) (nI (K / 20)) then (if nI (fb_ct (m9_bg r) (20 * (K / 20) + (20 - (n + 1)))) = nI (fb_ct (m9_bg r) K) then nI (20 - n) else m9_vo M qq (nI (fb_ct (m9_bg r) K)) (nI (K / 20)) (nI (fb_ct (m9_bg r) (20 * (K / 20) + (20 - (n + 1)))) + 1) n) else m9_vo M qq (nI (fb_ct (m9_bg r) K)) (nI (K / 20)) (nI (fb_ct (m9_bg r) (20 * (K / 20) + (20 - (n + 1))))) n) = _
    by_cases c : 19 - n = K % 20
    · have e : 20 * (K / 20) + (20 - (n + 1)) = K := by omega
      have e2 : 20 * (K / 20) + (19 - n) = K := by omega
      rw [if_pos (hbg.mpr (by rw [e2]; exact hb)), e, if_pos rfl, show 20 - n = K % 20 + 1 from by omega]
    · have ih := q9_vo h hK hb n (by omega) (by omega)
      have e : 20 * (K / 20) + (20 - n) = 20 * (K / 20) + (20 - (n + 1)) + 1 := by omega
      have h3 : fb_ct (m9_bg r) (20 * (K / 20) + (20 - n)) ≤ fb_ct (m9_bg r) K := fb_ct_mono _ (by omega)
      rw [e] at ih h3
      rw [fb_ct_succ] at ih h3
      have e4 : 20 * (K / 20) + (20 - (n + 1)) = 20 * (K / 20) + (19 - n) := by omega
      by_cases d : m9_bg r (20 * (K / 20) + (20 - (n + 1))) = true
      · rw [if_pos d] at ih h3
        rw [if_pos (hbg.mpr (by rw [← e4]; exact d)), if_neg (fun z => by have := (m9_eq l1 l2).mp z; omega), nI_1]
        exact ih
      · rw [if_neg d, Nat.add_zero] at ih
        rw [if_neg (fun z => d (by rw [e4]; exact hbg.mp z))]
        exact ih
/-- a place is found by the class as the reference has it -/
theorem q9_order {M : k9_Mem} {qq : Nat} {r : Nat → Int32} (h : ∀ s, s < 96 → ∀ n, n < 20 → m9_b (M (qq + 1) s) (n + 1) = m9_b (r s) n) {K : Nat} (hK : K < 1920) (hb : m9_bg r K = true) : m9_fst (M (qq + 1)) (nI (fb_ct (m9_bg r) K)) = nI (K / 20) ∧ m9_voc M qq (nI (fb_ct (m9_bg r) K)) = nI (K % 20 + 1) := by
  have l2 := q9_ctlt (m9_bg r) (show K ≤ 1920 by omega)
  have h1 : m9_fst (M (qq + 1)) (nI (fb_ct (m9_bg r) K)) = nI (K / 20) := by
    unfold m9_fst
    rw [if_neg (nI_pos l2), q9_fs h hK hb 96 (Nat.le_refl _) (by omega)]
  refine ⟨h1, ?_⟩
  unfold m9_voc
  rw [h1, m9_cl (show K / 20 < 2147483648 by omega), q9_cnt h (K / 20) (by omega)]
  have := q9_vo h hK hb 20 (Nat.le_refl _) (by omega)
  rw [Nat.sub_self, Nat.add_zero] at this
  exact this
theorem q9_order_no {M : k9_Mem} {qq : Nat} {r : Nat → Int32} (h : ∀ s, s < 96 → ∀ n, n < 20 → m9_b (M (qq + 1) s) (n + 1) = m9_b (r s) n) {a : Int32} (ha : ¬ m9_wn a 0 (nI (fb_ct (m9_bg r) 1920) - 1)) : m9_fst (M (qq + 1)) a = -1 := by
  have l2 := q9_ctlt (m9_bg r) (Nat.le_refl 1920)
  rw [m9_wn_C l2] at ha
  unfold m9_fst
  by_cases c : a < 0
  · rw [if_pos c]
  · rw [if_neg c]
    obtain ⟨j, j1, j2⟩ := nI_of c
    have j1 : j < 2147483648 := j1
    rw [j2]
    refine q9_fs_no h j1 ?_ 96 (Nat.le_refl _)
    rw [j2, m9_cl j1] at ha
    rcases Nat.lt_or_ge j (fb_ct (m9_bg r) 1920) with q | q
    · exact absurd ⟨rfl, q⟩ ha
    · exact q
/-- the numbers of a note of the tune -/
theorem q9_oft {M S : k9_Mem} {B R : Nat} (hp : q9_P M 1 (S 77)) (hk : q9_ok (S 77) B R) (hH : q9_H M B) {K : Nat} (hK : K < 1920) (hb : m9_bg (fun j => S 77 (386 + j)) K = true) (w : Int32) : m9_oft M (nI (K % 20 + 1)) (nI (K / 20)) w = m9_tnv (m9_lay S B) K w := by
  have hn : K % 20 < 20 := Nat.mod_lt _ (by decide)
  have hf : K / 20 < 96 := by omega
  rw [q9_bg] at hb
  have hb : m9_b (S 77 (386 + K / 20)) (K % 20) = true := hb
  have e81 : m9_lay S B 81 = m9_y2 S B 21 81 := m9_y3_ne _ (by decide) (by decide) (by decide) (by decide) _
  have e82 : m9_lay S B 82 = m9_y2 S B 21 82 := m9_y3_ne _ (by decide) (by decide) (by decide) (by decide) _
  have h9 := q9_tlo hk.2.2.2.1 hn hf (fun y => by rw [(q9_at0 _ (by omega)).mp y] at hb; cases hb)
  have e8 : m9_from (M 8) (nI (K % 20 + 1)) (nI (K / 20)) 96 = nI (m9_ef (fun j => S 77 (482 + j)) (K % 20) (K / 20)) := q9_from_ef (r2 := fun j => S 77 (482 + j)) hn (fun s hs => ((hp.2.2 s hs).1 _ hn).2) h9
  have etl : m9_tl (S 77) (K % 20) (K / 20) = nI (m9_ef (fun j => S 77 (482 + j)) (K % 20) (K / 20)) := by rw [q9_tl hn, hb]; rfl
  have hb60 : m9_begins M 59 (nI (K % 20 + 1)) (nI (K / 20)) ↔ m9_b (m9_y2 S B 21 81 (K / 20)) (K % 20) = true := by
    unfold m9_begins
    rw [m9_cl (show K / 20 < 2147483648 by omega), q9_at _ (by omega), show M (59 + 1) = M 60 from rfl, ← q9_cvn hn, q9_b60 hp hk hH hf (by omega)]
    exact ⟨fun z => z.2, fun z => ⟨m9_isS_nI hf, z⟩⟩
  have h3 : ¬ m9_has M 59 (nI (K % 20 + 1)) (nI (K / 20)) (nI (m9_ef (fun j => S 77 (482 + j)) (K % 20) (K / 20))) ↔ m9_misP (m9_lay S B) (K % 20) (K / 20) := by
    unfold m9_has m9_misP
    rw [e81, e82, m9_lay_77, etl, q9_one _ (show K % 20 < 32 by omega), hb60, show M (59 + 2) = M 61 from rfl]
    refine not_congr (and_congr_right (fun z => ?_))
    have he := q9_Yef S B hf (show K % 20 < 21 by omega) z
    rw [q9_from_ef hn (fun s hs => by rw [← q9_cvn hn]; exact q9_b61 hp hk hH hs (by omega)) he]
  unfold m9_oft m9_tnv
  by_cases w0 : w = 0
  · rw [if_pos w0, if_pos w0, m9_sub1 (by omega), Nat.add_sub_cancel]
  · rw [if_neg w0, if_neg w0]
    by_cases w1 : w = 1
    · rw [if_pos w1, if_pos w1]
    · rw [if_neg w1, if_neg w1]
      by_cases w2 : w = 2
      · rw [if_pos w2, if_pos w2, e8, m9_lay_77, etl]
      · rw [if_neg w2, if_neg w2, e8]
        exact q9_biD _ h3
