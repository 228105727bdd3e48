/-! Plain mathematics: counts, and the numbers of a place. -/
theorem q9_eqS {M : k9_Mem} {Z : Nat → Int32} {B R : Nat} (hp : q9_P M 1 Z) (hk : q9_ok Z B R) : (∀ s, s < 96 → m9_b (M 2 s) = m9_b (Z s)) := fun s hs => by
  rw [show M 2 s = Z s from (hp.1 s hs).1]
theorem q9_ct26 {p : Nat → Bool} (h : ∀ i, 26 ≤ i → p i = false) : fb_ct p 32 = fb_ct p 26 := q9_ct_cut (a := 26) h 6
theorem q9_binT (f : Nat → Int32) (h : ∀ s, s < 96 → ∀ j, 26 ≤ j → m9_b (f s) j = false) : m9_bin f 67108863 = m9_sum (fun s => m9_on (f s)) 96 := by
  unfold m9_bin
  apply m9_sum_c
  intro s hs
  rw [q9_bc, q9_on]
  refine congrArg nI ?_
  rw [← q9_ct26 (h s hs)]
  apply fb_ct_cong
  intro j hj
  rw [m9_b_and, q9_maskT hj]
  by_cases c : j < 26
  · rw [decide_eq_true c, Bool.and_true]
  · rw [h s hs j (by omega)]; rfl
theorem q9_c0 {M : k9_Mem} {Z : Nat → Int32} {B R : Nat} (hp : q9_P M 1 Z) (hk : q9_ok Z B R) : m9_bin (M 2) 67108863 = m9_oin Z 0 := by
  rw [q9_binT (M 2) (fun s hs j hj => by rw [show M 2 s = Z s from (hp.1 s hs).1]; exact ((hk.1 s hs).1 j hj).1)]
  unfold m9_oin
  apply m9_sum_c
  intro s hs
  rw [show M 2 s = Z s from (hp.1 s hs).1, Nat.zero_add]
theorem q9_c2 {M : k9_Mem} {Z : Nat → Int32} {B R : Nat} (hp : q9_P M 1 Z) (hk : q9_ok Z B R) : m9_bin (M 3) 67108863 = m9_oin Z 96 := by
  rw [q9_binT (M 3) (fun s hs j hj => by rw [show M 3 s = Z (96 + s) from (hp.1 s hs).2.1]; exact ((hk.1 s hs).1 j hj).2)]
  unfold m9_oin
  apply m9_sum_c
  intro s hs
  rw [show M 3 s = Z (96 + s) from (hp.1 s hs).2.1]
theorem q9_c1 {M : k9_Mem} {Z : Nat → Int32} {B R : Nat} (hp : q9_P M 1 Z) (hk : q9_ok Z B R) : m9_oh M = m9_zoh Z := by
  unfold m9_oh m9_zoh
  apply m9_sum_c
  intro s hs
  rw [q9_op hp hs, q9_bc, q9_on, q9_ct26 (q9_zo_out hk hs)]
theorem q9_c3 {M S : k9_Mem} {B R : Nat} (hp : q9_P M 1 (S 77)) (hk : q9_ok (S 77) B R) (hH : q9_H M B) : m9_bin (M 60) 2097150 = nI (m9_C S B) := by
  rw [q9_bin]
  unfold m9_C
  rw [q9_Cs]
  refine congrArg nI ?_
  apply fb_sm_cong
  intro s hs
  apply fb_ct_cong
  intro n hn
  rw [← q9_cvn hn]; exact q9_b60 hp hk hH hs (by omega)
theorem q9_c4 {M : k9_Mem} {Z : Nat → Int32} {B R : Nat} (hp : q9_P M 1 Z) (hk : q9_ok Z B R) : m9_bin (M 7) 2097150 = m9_tnn Z := by
  rw [q9_bin]
  unfold m9_tnn
  rw [q9_sum (g := fun s => fb_ct (m9_b (Z (386 + s))) 26) (fun s => q9_on _)]
  refine congrArg nI ?_
  apply fb_sm_cong
  intro s hs
  rw [show (26 : Nat) = 20 + 6 from rfl, q9_ct_cut (a := 20) (hk.2.2.2.2 s hs) 6]
  apply fb_ct_cong
  intro n hn
  exact ((hp.2.2 s hs).1 n hn).1
theorem q9_c5 {M S : k9_Mem} {B R : Nat} (hp : q9_P M 1 (S 77)) (hk : q9_ok (S 77) B R) (hH : q9_H M B) : m9_same M 59 6 = m9_rn S B := by
  have e : m9_same M 59 6 = m9_rt (M 58) B (M 7) (M 8) := by
    unfold m9_same m9_rt
    exact m9_sn_c (fun i hi => ⟨(hH.2.1 i hi).1, (hH.2.1 i hi).2, rfl, rfl⟩)
  rw [e]
  exact q9_rights S (q9_rd58 hp hk hH.1) hp.2.2 hk.2.2.2.1
theorem q9_c8 {M S : k9_Mem} {B R : Nat} (hp : q9_P M 1 (S 77)) (hk : q9_ok (S 77) B R) (hH : q9_H M B) (r : Nat) : m9_bin (M 60) 1 = m9_sum (m9_sof (m9_lay S B) r 0) 96 := by
  have e81 : m9_lay S B 81 = m9_y2 S B 21 81 := m9_y3_ne _ (by decide) (by decide) (by decide) (by decide) _
  unfold m9_bin
  apply m9_sum_c
  intro s hs
  unfold m9_sof
  have := q9_b60 hp hk hH hs (Nat.le_refl 20)
  rw [show q9_cv 20 = 0 from rfl] at this
  rw [if_pos rfl, q9_bc1, this, q9_bit _ (by decide), e81]
  cases m9_b (m9_y2 S B 21 81 s) 20 <;> rfl
theorem q9_c9 {M S : k9_Mem} {B R : Nat} (hp : q9_P M 1 (S 77)) (hk : q9_ok (S 77) B R) (hH : q9_H M B) (r : Nat) : m9_bin (M 62) 1 = m9_sum (m9_sof (m9_lay S B) r 1) 96 := by
  have e83 : m9_lay S B 83 = m9_y2 S B 21 83 := m9_y3_ne _ (by decide) (by decide) (by decide) (by decide) _
  unfold m9_bin
  apply m9_sum_c
  intro s hs
  unfold m9_sof
  have := q9_b62 hp hk hH hs (Nat.le_refl 20)
  rw [show q9_cv 20 = 0 from rfl] at this
  rw [if_neg (by decide), if_pos rfl, q9_bc1, this, e83, q9_bi _ (m9_b (m9_y2 S B 21 83 s) 20) (q9_one _ (by decide))]
theorem q9_c10 {M S : k9_Mem} {B R : Nat} (hp : q9_P M 1 (S 77)) (hk : q9_ok (S 77) B R) (hH : q9_H M B) (r : Nat) : m9_ws M r = m9_sum (m9_sof (m9_lay S B) r 2) 96 := by
  unfold m9_ws
  apply m9_sum_c
  intro s hs
  unfold m9_sof
  rw [if_neg (by decide), if_neg (by decide), if_pos rfl]
  exact q9_biD _ (q9_wish hp hk hH hs)
/-- the bits of the voices, counted in another order -/
theorem q9_ct21 {p q : Nat → Bool} (h : ∀ k, k ≤ 20 → p (q9_cv k) = q k) : fb_ct p 21 = fb_ct q 21 := by
  rw [show (21 : Nat) = 1 + 20 from rfl, fb_ct_split p 1 20, Nat.add_comm 1 20, fb_ct_succ q 20]
  have e1 : fb_ct p 1 = (if q 20 then 1 else 0) := by
    show 0 + (if p 0 then 1 else 0) = _
    rw [← h 20 (Nat.le_refl _), show q9_cv 20 = 0 from rfl, Nat.zero_add]
  rw [e1, Nat.add_comm]
  congr 1
  apply fb_ct_cong
  intro k hk
  rw [← h k (by omega), q9_cvn hk, Nat.add_comm 1 k]
theorem q9_c12 {M S : k9_Mem} {B R : Nat} (hp : q9_P M 1 (S 77)) (hk : q9_ok (S 77) B R) (hH : q9_H M B) (r : Nat) : m9_bin (M 58) 2097151 = m9_sum (m9_sof (m9_lay S B) r 3) 96 := by
  have e80 : ∀ s, s < 96 → m9_lay S B 80 s = m9_zr (S 77) s 21 := fun s hs => by
    have : m9_lay S B 80 = m9_y2 S B 21 80 := m9_y3_ne _ (by decide) (by decide) (by decide) (by decide) _
    rw [this, m9_y2_ne S B (by decide) (by decide) (by decide), (q9_y1 S 96 (Nat.le_refl _) s hs).1]
  have hr := q9_rd58 hp hk hH.1
  unfold m9_bin
  apply m9_sum_c
  intro s hs
  unfold m9_sof
  rw [if_neg (by decide), if_neg (by decide), if_neg (by decide), if_pos rfl, e80 s hs, q9_bc, q9_on]
  refine congrArg nI ?_
  have e1 : fb_ct (m9_b (m9_zr (S 77) s 21)) 26 = fb_ct (m9_b (m9_zr (S 77) s 21)) 21 := by
    have h26 : ∀ d, d ≤ 5 → fb_ct (m9_b (m9_zr (S 77) s 21)) (21 + d) = fb_ct (m9_b (m9_zr (S 77) s 21)) 21 := fun d => by
      induction d with
      | zero => exact fun _ => rfl
      | succ d ih =>
        intro hd
        rw [← Nat.add_assoc, fb_ct_succ, ih (by omega), if_neg (fun z => by
          have := ((q9_zr (S 77) s (show 21 + d < 32 by omega) 21 (Nat.le_refl _)).mp z).1
          omega)]
        rfl
    exact h26 5 (Nat.le_refl _)
  rw [e1, show (32 : Nat) = 21 + 11 from rfl, q9_ct_cut (p := m9_b (M 58 s &&& 2097151)) (a := 21) (fun i hi => by rw [m9_b_and, (hr s hs).2 i hi, Bool.false_and]) 11]
  refine q9_ct21 (fun k hk2 => ?_)
  have := q9_cv_lt hk2
  rw [m9_b_and, (hr s hs).1 k hk2, q9_maskV (by omega), decide_eq_true this, Bool.and_true]
theorem q9_c13 {M S : k9_Mem} {B : Nat} (hp : q9_P M 1 (S 77)) (r : Nat) : m9_tn M = m9_sum (m9_sof (m9_lay S B) r 4) 96 := by
  unfold m9_tn
  apply m9_sum_c
  intro s hs
  unfold m9_sof
  rw [if_neg (by decide), if_neg (by decide), if_neg (by decide), if_neg (by decide), m9_lay_77, show M 4 s = S 77 (192 + s) from (hp.1 s hs).2.2.1]
/-- the last step of a chain, in the class -/
theorem q9_from {r : Nat → Int32} {v f e : Nat} (hv : v < 32) (h1 : f ≤ e) (h2 : e < 96) (h3 : m9_b (r e) v = true) (h4 : ∀ j, f ≤ j → j < e → m9_b (r j) v = false) : ∀ n, n ≤ 96 → 96 - n ≤ e → m9_from r (nI v) (nI f) n = nI e
  | 0, _, h => by omega
  | n + 1, hn, h => by
    show (if ¬ nI (95 - n) < nI f ∧ m9_at (r (95 - n)) (nI v) then nI (95 - n) else m9_from r (nI v) (nI f) n) = nI e
    have hlt : nI (95 - n) < nI f ↔ 95 - n < f := m9_lt (by omega) (by omega)
    by_cases c : 95 - n = e
    · rw [if_pos ⟨fun z => by have := hlt.mp z; omega, (q9_at _ hv).mpr (by rw [c]; exact h3)⟩, c]
    · rw [if_neg (fun z => by
        have a1 : ¬ 95 - n < f := fun y => z.1 (hlt.mpr y)
        exact q9_tn (h4 (95 - n) (by omega) (by omega)) ((q9_at _ hv).mp z.2))]
      exact q9_from hv h1 h2 h3 h4 n (by omega) (by omega)
/-- .. and where none is -/
theorem q9_from_ef {r r2 : Nat → Int32} {n f : Nat} (hn : n < 20) (hr : ∀ s, s < 96 → m9_b (r s) (n + 1) = m9_b (r2 s) n) (h : m9_ef r2 n f < 96) : m9_from r (nI (n + 1)) (nI f) 96 = nI (m9_ef r2 n f) := by
  refine q9_from (by omega) (m9_ef_ge _ _ _) h (by rw [hr _ h]; exact (q9_at _ (by omega)).mp (m9_ef_yes h)) (fun j j1 j2 => ?_) 96 (Nat.le_refl _) (by omega)
  rw [hr j (by omega)]
  exact (q9_at0 _ (by omega)).mp (m9_ef_no j j1 j2)
/-- open holes of a chain -/
theorem q9_hr {p : Nat → Nat} {f g : Nat} (hfg : f ≤ g + 1) (hg : g < 96) : fb_sm (fun i => if i < f then 0 else if g < i then 0 else p i) 96 = fb_sm (fun j => p (f + j)) (g + 1 - f) := by
  have e1 : (96 : Nat) = f + ((g + 1 - f) + (96 - (g + 1))) := by omega
  have z : ∀ (q : Nat → Nat) n, (∀ k, k < n → q k = 0) → fb_sm q n = 0 := fun q n h => by
    rw [fb_sm_cong h, fb_sm_const]; omega
  rw [e1, fb_sm_split _ f, fb_sm_split _ (g + 1 - f), z _ f (fun k hk => if_pos hk), z (fun k => _) (96 - (g + 1)) (fun k hk => by
    show (if f + (g + 1 - f + k) < f then 0 else if g < f + (g + 1 - f + k) then 0 else p (f + (g + 1 - f + k))) = 0
    rw [if_neg (by omega), if_pos (by omega)]), Nat.zero_add, Nat.add_zero]
  apply fb_sm_cong
  intro k hk
  show (if f + k < f then 0 else if g < f + k then 0 else p (f + k)) = p (f + k)
  rw [if_neg (by omega), if_neg (by omega)]
theorem q9_hrE {M S : k9_Mem} {B R : Nat} (hp : q9_P M 1 (S 77)) (hk : q9_ok (S 77) B R) (hH : q9_H M B) {n f g : Nat} (hn : n < 20) (hfg : f ≤ g) (hg : g < 96) : m9_hr (M 58) (nI (n + 1)) (nI f) (nI g) = nI (fb_ct (fun j => m9_b (m9_zr (S 77) (f + j) 21) n) (g + 1 - f)) := by
  have hr := q9_rd58 hp hk hH.1
  unfold m9_hr
  rw [q9_sum' (g := fun i => if i < f then 0 else if g < i then 0 else (if m9_b (m9_zr (S 77) i 21) n then 1 else 0)) (fun i hi => ?_)]
  · refine congrArg nI ?_
    rw [q9_hr (p := fun i => if m9_b (m9_zr (S 77) i 21) n then 1 else 0) (by omega) hg, q9_sm1 (fun j => m9_b (m9_zr (S 77) (f + j) 21) n)]
  · by_cases c : i < f
    · rw [if_pos ((m9_lt (by omega) (by omega)).mpr c), if_pos c]; rfl
    · rw [if_neg (fun z => c ((m9_lt (by omega) (by omega)).mp z)), if_neg c]
      by_cases d : g < i
      · rw [if_pos ((m9_lt (by omega) (by omega)).mpr d), if_pos d]; rfl
      · rw [if_neg (fun z => d ((m9_lt (by omega) (by omega)).mp z)), if_neg d, q9_bit _ (by omega), ← q9_cvn hn, (hr i hi).1 n (by omega)]
        cases m9_b (m9_zr (S 77) i 21) n <;> rfl
theorem q9_holE (S : k9_Mem) (B : Nat) {n f g : Nat} (hn : n < 20) (hfg : f ≤ g) (hg : g < 96) : m9_hol (m9_lay S B) n f g = nI (fb_ct (fun j => m9_b (m9_zr (S 77) (f + j) 21) n) (g + 1 - f)) := by
  have e80 : ∀ s, s < 96 → m9_lay S B 80 s = m9_zr (S 77) s 21 := fun s hs => by
    have : m9_lay S B 80 = m9_y2 S B 21 80 := m9_y3_ne _ (by decide) (by decide) (by decide) (by decide) _
    rw [this, m9_y2_ne S B (by decide) (by decide) (by decide), (q9_y1 S 96 (Nat.le_refl _) s hs).1]
  unfold m9_hol
  rw [q9_sum' (g := fun j => if m9_b (m9_zr (S 77) (f + j) 21) n then 1 else 0) (fun j hj => ?_), q9_sm1 (fun j => m9_b (m9_zr (S 77) (f + j) 21) n)]
  rw [e80 _ (by omega), q9_bit _ (by omega)]
  cases m9_b (m9_zr (S 77) (f + j) 21) n <;> rfl
/-- the numbers of a note that is played -/
def q9_pv (S : k9_Mem) (B n f : Nat) (w : Int32) : Int32 :=
  if w = 0 then nI n else if w = 1 then nI f else if w = 2 then nI (m9_ef (m9_y2 S B 21 82) n f) else if w = 3 then nI (m9_sto (m9_lay S B) n (m9_ef (m9_y2 S B 21 82) n f)) else if w = 4 then nI (fb_ct (fun j => m9_b (m9_zr (S 77) (f + j) 21) n) (m9_ef (m9_y2 S B 21 82) n f + 1 - f)) else nI (if q9_Rb (m9_y2 S B 21) (S 77) n f then 1 else 0)
theorem q9_pnv (S : k9_Mem) (B : Nat) (h : q9_tok (S 77)) {k : Nat} (hk : k < 1920) (hb : m9_bg (m9_y2 S B 21 81) k = true) (w : Int32) : m9_pnv (m9_lay S B) (fb_ct (m9_bg (m9_y2 S B 21 81)) k) w = q9_pv S B (k % 20) (k / 20) w := by
  obtain ⟨h1, h2, h3⟩ := q9_pl_c84 S B hk hb
  have hb2 := hb
  rw [q9_bg] at hb2
  have he := q9_Yef S B (show k / 20 < 96 by omega) (show k % 20 < 21 by omega) hb2
  have h4 := q9_stcE S B hk hb
  have h5 := q9_holE S B (n := k % 20) (by omega) (m9_ef_ge (m9_y2 S B 21 82) (k % 20) (k / 20)) he
  have h6 := q9_irP S B h hk hb
  unfold q9_pv
  obtain ⟨N, hN⟩ : ∃ N, N = m9_lay S B := ⟨_, rfl⟩
  rw [← hN] at h1 h2 h3 h4 h5 h6 ⊢
  obtain ⟨c, hc⟩ : ∃ c, c = fb_ct (m9_bg (m9_y2 S B 21 81)) k := ⟨_, rfl⟩
  rw [← hc] at h1 h2 h3 h4 h6 ⊢
  unfold m9_pnv m9_hoc
  rw [q9_bi _ _ h6, h4, h1, h2, h3, m9_cl (show k % 20 < 2147483648 by omega), m9_cl (show k / 20 < 2147483648 by omega), m9_cl (show m9_ef (m9_y2 S B 21 82) (k % 20) (k / 20) < 2147483648 by omega), h5]
theorem q9_ofp {M S : k9_Mem} {B R : Nat} (hp : q9_P M 1 (S 77)) (hk : q9_ok (S 77) B R) (hH : q9_H M B) {n f : Nat} (hn : n < 20) (hf : f < 96) (hb : m9_b (m9_y2 S B 21 81 f) n = true) (w : Int32) : m9_ofp M (nI (n + 1)) (nI f) w = q9_pv S B n f w := by
  have he := q9_Yef S B hf (show n < 21 by omega) hb
  have e61 : m9_from (M 61) (nI (n + 1)) (nI f) 96 = nI (m9_ef (m9_y2 S B 21 82) n f) := q9_from_ef hn (fun s hs => by rw [← q9_cvn hn]; exact q9_b61 hp hk hH hs (by omega)) he
  have hye := (q9_at _ (show n < 32 by omega)).mp (m9_ef_yes he)
  have hp6 : m9_has M 6 (nI (n + 1)) (nI f) (nI (m9_ef (m9_y2 S B 21 82) n f)) ↔ q9_Rb (m9_y2 S B 21) (S 77) n f = true := by
    unfold m9_has m9_begins q9_Rb
    rw [m9_cl (show f < 2147483648 by omega), q9_at _ (by omega), hb, show M (6 + 1) = M 7 from rfl, show M (6 + 2) = M 8 from rfl, ((hp.2.2 f hf).1 n hn).1, Bool.true_and, Bool.and_eq_true, decide_eq_true_iff]
    have ht : m9_b (S 77 (386 + f)) n = true → m9_from (M 8) (nI (n + 1)) (nI f) 96 = nI (m9_ef (fun j => S 77 (482 + j)) n f) ∧ m9_ef (fun j => S 77 (482 + j)) n f < 96 := fun z => by
      have h9 := q9_tlo hk.2.2.2.1 hn hf (fun y => by rw [(q9_at0 _ (by omega)).mp y] at z; cases z)
      exact ⟨q9_from_ef (r2 := fun j => S 77 (482 + j)) hn (fun s hs => ((hp.2.2 s hs).1 n hn).2) h9, h9⟩
    constructor
    · rintro ⟨⟨_, z1⟩, z2⟩
      obtain ⟨t1, t2⟩ := ht z1
      rw [t1, m9_eq (by omega) (by omega)] at z2
      exact ⟨z1, z2.symm⟩
    · rintro ⟨z1, z2⟩
      obtain ⟨t1, t2⟩ := ht z1
      exact ⟨⟨m9_isS_nI hf, z1⟩, by rw [t1, z2]⟩
  unfold m9_ofp q9_pv
  rw [e61, q9_ls_sto hp hk hH hn he hye, q9_hrE hp hk hH hn (m9_ef_ge _ _ _) he, q9_bi _ _ hp6, show (nI (n + 1) - 1 : Int32) = nI n from by rw [m9_sub1 (by omega), Nat.add_sub_cancel]]
