/-! Plain mathematics: punching, patches. -/
theorem q9_tkn (a : Int32) : m9_tkn a = a + 1 + 2 := by
  unfold m9_tkn
  by_cases c : a = -1
  · subst c; rfl
  · rw [if_neg c, Int32.add_assoc]; rfl
theorem q9_rpu0 {a b n : Int32} (h : m9_rpu a b n = 0) : (∃ t, t ≤ 22 ∧ a + 1 + 2 = nI t) ∧ b = nI b.toNatClampNeg ∧ b.toNatClampNeg < 96 ∧ n = nI n.toNatClampNeg ∧ 1 ≤ n.toNatClampNeg ∧ n.toNatClampNeg ≤ 96 ∧ b.toNatClampNeg + n.toNatClampNeg ≤ 96 := by
  unfold m9_rpu at h
  by_cases c1 : ¬ m9_wn a (-1) 19 ∨ ¬ m9_wn b 0 95
  · rw [if_pos c1] at h; exact absurd h (by decide)
  · rw [if_neg c1] at h
    have ha : m9_wn a (-1) 19 := Classical.byContradiction (fun z => c1 (Or.inl z))
    have hb : m9_wn b 0 95 := Classical.byContradiction (fun z => c1 (Or.inr z))
    by_cases c2 : ¬ m9_wn n 1 96
    · rw [if_pos c2] at h; exact absurd h (by decide)
    · rw [if_neg c2] at h
      have hn : m9_wn n 1 96 := Classical.byContradiction c2
      by_cases c3 : (96 : Int32) < b + n
      · rw [if_pos c3] at h; exact absurd h (by decide)
      · obtain ⟨b1, b2⟩ := m9_wn_rng hb
        obtain ⟨n1, n2, n3⟩ := m9_rng (lo := 1) (hi := 96) (by decide) hn.1 hn.2 (by decide)
        refine ⟨?_, b1, b2, n1, n2, n3, ?_⟩
        · have h1 : ¬ a.toInt < -1 := fun z => ha.1 (by rw [fa_lt]; exact z)
          have h2 : ¬ 19 < a.toInt := fun z => ha.2 (by rw [fa_lt]; exact z)
          refine ⟨(a.toInt + 3).toNat, by omega, ?_⟩
          have e1 : (a + 1).toInt = a.toInt + 1 := fb_addI (by rw [show (1 : Int32).toInt = 1 from rfl]; omega) (by rw [show (1 : Int32).toInt = 1 from rfl]; omega)
          rw [fa_eq, nI_toInt (by omega), fb_addI (by rw [e1, show (2 : Int32).toInt = 2 from rfl]; omega) (by rw [e1, show (2 : Int32).toInt = 2 from rfl]; omega), e1, show (2 : Int32).toInt = 2 from rfl]
          omega
        · rw [b1, n1, nI_add] at c3
          have := (m9_lt (a := 96) (b := b.toNatClampNeg + n.toNatClampNeg) (by decide) (by omega))
          rcases Nat.lt_or_ge 96 (b.toNatClampNeg + n.toNatClampNeg) with q | q
          · exact absurd (this.mpr q) c3
          · exact q
theorem q9_tkhi {t : Nat} (ht : t < 26) : ∀ j, 26 ≤ j → m9_b (m9_tk (nI t)) j = false := fun j hj => by
  by_cases c : j < 32
  · rw [q9_tkb (by omega) c, decide_eq_false (by omega)]
  · exact m9_b_big (by omega)
theorem q9_andtk (y : Int32) {t : Nat} (ht : t < 32) : y &&& m9_tk (nI t) = 0 ↔ m9_b y t = false := by
  constructor
  · intro h
    have : m9_b (y &&& m9_tk (nI t)) t = false := by rw [h, m9_b_0]
    rw [m9_b_and, q9_tkb ht ht, decide_eq_true rfl, Bool.and_true] at this
    exact this
  · intro h
    apply m9_b_ext
    intro i hi
    rw [m9_b_and, q9_tkb ht hi, m9_b_0]
    by_cases c : i = t
    · subst c; rw [h]; rfl
    · rw [decide_eq_false c, Bool.and_false]
theorem q9_ok_zc {Z : Nat → Int32} {B R : Nat} (hk : q9_ok Z B R) {x : Int32} (hx : ∀ j, 26 ≤ j → m9_b x j = false) (P : Nat → Bool) : q9_ok (m9_zc Z x P) B R := by
  obtain ⟨h1, h2, h3, h4, h5⟩ := hk
  refine ⟨fun s hs => ⟨fun j hj => ⟨?_, ?_⟩, ?_, ?_⟩, ?_, ?_, ?_, fun s hs => ?_⟩
  · rw [m9_zc_lo Z x P hs]
    by_cases c : P s = true
    · rw [if_pos c, m9_b_or, ((h1 s hs).1 j hj).1, hx j hj]; rfl
    · rw [if_neg c]; exact ((h1 s hs).1 j hj).1
  · rw [m9_zc_hi Z x P hs]
    by_cases c : P s = true
    · rw [if_pos c, m9_b_and, ((h1 s hs).1 j hj).2]; rfl
    · rw [if_neg c]; exact ((h1 s hs).1 j hj).2
  · rw [m9_zc_out _ _ _ (by omega)]; exact (h1 s hs).2.1
  · rw [m9_zc_out _ _ _ (by omega)]; exact (h1 s hs).2.2
  · rw [m9_zc_out _ _ _ (by omega)]; exact h2
  · rw [m9_zc_out _ _ _ (by omega)]; exact h3
  · exact q9_tok_c h4 (fun j hj => m9_zc_out _ _ _ (by omega))
  · rw [m9_zc_out _ _ _ (by omega)]; exact h5 s hs
theorem q9_P_ch {K : k9_Mem} {Z : Nat → Int32} (hp : q9_P K 1 Z) (x : Int32) (f l B : Nat) : q9_P (m9_ch K x f l B (f + l)) 1 (m9_zc Z x (m9_pe f l B)) := by
  obtain ⟨h1, h2, h3⟩ := hp
  have c2 : ∀ s, m9_ch K x f l B (f + l) 2 s = if s < f + l ∧ m9_cs f l B s then K 2 s ||| x else K 2 s := fun s => by
    unfold m9_ch
    rw [k9_sc_ne _ _ (by decide), k9_sc_eq]
  have c3 : ∀ s, m9_ch K x f l B (f + l) 3 s = if s < f + l ∧ m9_cs f l B s then K 3 s &&& (x ^^^ (-1)) else K 3 s := fun s => by
    unfold m9_ch
    rw [k9_sc_eq]
  have cf : ∀ k, k ≠ 2 → k ≠ 3 → m9_ch K x f l B (f + l) k = K k := fun k a b => m9_ch_f _ _ _ _ _ _ a b
  have pe : ∀ s, m9_pe f l B s = true ↔ s < f + l ∧ m9_cs f l B s := fun s => by
    unfold m9_pe
    rw [decide_eq_true_iff]
    exact ⟨fun z => ⟨z.2.1, z⟩, fun z => z.2⟩
  refine ⟨fun s hs => ?_, ?_, fun s hs => ?_⟩
  · obtain ⟨a1, a2, a3, a4⟩ := h1 s hs
    have a1 : K 2 s = Z s := a1
    have a2 : K 3 s = Z (96 + s) := a2
    refine ⟨?_, ?_, ?_, ?_⟩
    · show m9_ch K x f l B (f + l) 2 s = _
      rw [c2, m9_zc_lo Z x _ hs, a1]
      by_cases c : s < f + l ∧ m9_cs f l B s
      · rw [if_pos c, if_pos ((pe s).mpr c)]
      · rw [if_neg c, if_neg (fun z => c ((pe s).mp z))]
    · show m9_ch K x f l B (f + l) 3 s = _
      rw [c3, m9_zc_hi Z x _ hs, a2]
      by_cases c : s < f + l ∧ m9_cs f l B s
      · rw [if_pos c, if_pos ((pe s).mpr c)]
      · rw [if_neg c, if_neg (fun z => c ((pe s).mp z))]
    · rw [cf _ (by decide) (by decide), m9_zc_out _ _ _ (by omega)]; exact a3
    · rw [cf _ (by decide) (by decide), m9_zc_out _ _ _ (by omega)]; exact a4
  · rw [cf _ (by decide) (by decide), m9_zc_out _ _ _ (by omega), m9_zc_out _ _ _ (by omega)]; exact h2
  · rw [cf _ (by decide) (by decide), cf _ (by decide) (by decide), m9_zc_out _ _ _ (by omega), m9_zc_out _ _ _ (by omega)]; exact h3 s hs
theorem q9_sum_cut {g : Nat → Int32} {n : Nat} : ∀ d, (∀ k, n ≤ k → k < n + d → g k = 0) → m9_sum g (n + d) = m9_sum g n
  | 0, _ => rfl
  | d + 1, h => by
    rw [← Nat.add_assoc, m9_sum_s, q9_sum_cut d (fun k a b => h k a (by omega)), h (n + d) (by omega) (by omega), m9_add0]
theorem q9_chn {K : k9_Mem} {Z : Nat → Int32} (hK : ∀ s, s < 96 → K 2 s = Z s) (x : Int32) {f l : Nat} (B : Nat) (hfl : f + l ≤ 96) : m9_chn K x f l B (f + l) = m9_zn Z x (m9_pe f l B) := by
  unfold m9_chn m9_zn
  rw [show (96 : Nat) = f + l + (96 - (f + l)) from by omega, q9_sum_cut (n := f + l) (96 - (f + l)) (fun k a b => by
    have : ¬ m9_pe f l B k = true := fun z => by
      have h := decide_eq_true_iff.mp z
      have := h.2.1
      omega
    rw [if_neg this])]
  apply m9_sum_c
  intro s hs
  rw [hK s (by omega)]
  by_cases c : m9_cs f l B s
  · have d : m9_pe f l B s = true := decide_eq_true c
    rw [if_pos c, if_pos d]
  · have d : ¬ m9_pe f l B s = true := fun z => c (decide_eq_true_iff.mp z)
    rw [if_neg c, if_neg d]
theorem q9_M77 {M N : k9_Mem} {B R F U B' : Nat} (h : q9_rel M B R F U) (hN : ∀ k, 9 ≤ k → N k = m9_keep M F k) {k : Nat} (hk : 64 ≤ k) (h2 : k ≠ 64) (h3 : k ≠ 65) : m9_hear N B' k = M k := by
  rw [q9_hear_f N B' (by omega) (by omega) (by omega) (by omega) (by omega), hN k (by omega), m9_keep_f h.2.2.2.1.1 (by omega)]
/-- punch -/
theorem q9_punch {M : k9_Mem} {B R F U : Nat} (h : q9_rel M B R F U) (a b n : Int32) (h0 : m9_rpu a b n = 0) : m9_punM M F B a b n 77 = M 77 ∧ m9_punM M F B a b n 76 = M 76 ∧ m9_ruV (m9_punM M F B a b n) B a b n = m9_punV M F B a b n ∧ q9_rel (m9_ruM (m9_punM M F B a b n) F B a b n) B R (q9_F F) U := by
  obtain ⟨⟨t, ht, et⟩, b1, b2, n1, n2, n3, hbn⟩ := q9_rpu0 h0
  have hN : ∀ k, 9 ≤ k → m9_ch (m9_keep M F) (m9_tk (a + 1 + 2)) b.toNatClampNeg n.toNatClampNeg B (b.toNatClampNeg + n.toNatClampNeg) k = m9_keep M F k := fun k hk => m9_ch_f _ _ _ _ _ _ (by omega) (by omega)
  have e77 : m9_punM M F B a b n 77 = M 77 := q9_M77 h hN (by decide) (by decide) (by decide)
  have e76 : m9_punM M F B a b n 76 = M 76 := q9_M77 h hN (by decide) (by decide) (by decide)
  refine ⟨e77, e76, ?_, ?_⟩
  · unfold m9_ruV m9_punV
    rw [if_pos h0, e77, q9_tkn]
    exact (q9_chn (fun s hs => ((q9_kP h).1 s hs).1) _ B hbn).symm
  · unfold m9_ruM
    rw [if_pos h0, e77, q9_tkn]
    exact q9_mutS h hN (q9_P_ch (q9_kP h) _ _ _ _) (q9_ok_zc h.2.1 (by rw [et]; exact q9_tkhi (by omega)) _)
/-- a range of steps -/
theorem q9_rfr0 {z a b : Int32} (h : m9_rfr z a b = 0) : a = nI a.toNatClampNeg ∧ b = nI b.toNatClampNeg ∧ a.toNatClampNeg ≤ b.toNatClampNeg ∧ b.toNatClampNeg < 96 := by
  obtain ⟨h1, h2, h3, h4⟩ := m9_rfr_0 h
  exact ⟨(m9_wn_rng h2).1, (m9_wn_rng h3).1, m9_two_n h2 h3 h4, (m9_wn_rng h3).2⟩
theorem q9_rg {f g s : Nat} (hf : f < 96) (hg : g < 96) (hs : s < 96) : m9_rg (nI f) (nI g) s ↔ f ≤ s ∧ s ≤ g := by
  unfold m9_rg
  rw [m9_lt (by omega) (by omega), m9_lt (by omega) (by omega)]
  omega
/-- a number of open holes (patches) in a range -/
theorem q9_rgn {f g t : Nat} (hfg : f ≤ g) (hg : g < 96) (ht : t < 32) {y : Nat → Int32} {P : Nat → Int32} (hP : ∀ s, s < 96 → P s = if m9_rg (nI f) (nI g) s then m9_bi (¬ y s &&& m9_tk (nI t) = 0) else 0) : m9_sum P 96 = m9_sum (fun j => (y (f + j) >>> (nI t &&& 31)) &&& 1) (g + 1 - f) := by
  rw [q9_sum' (f := P) (g := fun s => if s < f then 0 else if g < s then 0 else (if m9_b (y s) t then 1 else 0)) (fun s hs => by
    rw [hP s hs]
    by_cases c : f ≤ s ∧ s ≤ g
    · rw [if_pos ((q9_rg (by omega) hg hs).mpr c), if_neg (by omega), if_neg (by omega)]
      refine q9_bi _ _ ?_
      rw [q9_andtk _ ht]
      cases m9_b (y s) t <;> simp
    · rw [if_neg (fun z => c ((q9_rg (by omega) hg hs).mp z))]
      by_cases d : s < f
      · rw [if_pos d]; rfl
      · rw [if_neg d, if_pos (by omega)]; rfl), q9_hr (p := fun s => if m9_b (y s) t then 1 else 0) (by omega) hg]
  rw [q9_sum' (f := fun j => (y (f + j) >>> (nI t &&& 31)) &&& 1) (g := fun j => if m9_b (y (f + j)) t then 1 else 0) (fun j _ => by
    rw [q9_bit _ ht]
    cases m9_b (y (f + j)) t <;> rfl)]
theorem q9_track {t : Int32} {z a b : Int32} (h : m9_rfr (m9_bi (m9_wn t 0 25)) a b = 0) : ∃ k, k < 26 ∧ t = nI k := by
  have h1 : m9_wn t 0 25 := m9_bi_1 (m9_rfr_0 h).1
  obtain ⟨n1, n2, n3⟩ := m9_rng (lo := 0) (hi := 25) (by decide) h1.1 h1.2 (by decide)
  exact ⟨t.toNatClampNeg, by omega, n1⟩
theorem q9_P_3 {K : k9_Mem} {Z : Nat → Int32} (hp : q9_P K 1 Z) {f g : Nat} (hfg : f ≤ g) (hg : g < 96) {r p : Nat → Int32} (hr : ∀ s, s < 96 → r s = if m9_rg (nI f) (nI g) s then p s else Z (96 + s)) : q9_P (k9_sc K 3 r) 1 (fb_put Z (fun j => p (f + j)) (96 + f) (g + 1 - f)) := by
  obtain ⟨h1, h2, h3⟩ := hp
  have out : ∀ j, (j < 96 ∨ 192 ≤ j) → fb_put Z (fun j => p (f + j)) (96 + f) (g + 1 - f) j = Z j := fun j hj => fb_put_out (by omega)
  refine ⟨fun s hs => ?_, ?_, fun s hs => ?_⟩
  · obtain ⟨a1, a2, a3, a4⟩ := h1 s hs
    refine ⟨?_, ?_, ?_, ?_⟩
    · rw [k9_sc_ne _ _ (by decide), out _ (by omega)]; exact a1
    · show k9_sc K 3 r 3 s = _
      rw [k9_sc_eq, hr s hs]
      by_cases c : f ≤ s ∧ s ≤ g
      · rw [if_pos ((q9_rg (by omega) hg hs).mpr c), fb_put_in (by omega) (by omega), show f + (96 + s - (96 + f)) = s from by omega]
      · rw [if_neg (fun z => c ((q9_rg (by omega) hg hs).mp z)), fb_put_out (by omega)]
    · rw [k9_sc_ne _ _ (by decide), out _ (by omega)]; exact a3
    · rw [k9_sc_ne _ _ (by decide), out _ (by omega)]; exact a4
  · rw [k9_sc_ne _ _ (by decide), out _ (by omega), out _ (by omega)]; exact h2
  · rw [k9_sc_ne _ _ (by decide), k9_sc_ne _ _ (by decide), out _ (by omega), out _ (by omega)]; exact h3 s hs
theorem q9_ok_3 {Z : Nat → Int32} {B R : Nat} (hk : q9_ok Z B R) {f g : Nat} (hfg : f ≤ g) (hg : g < 96) {p : Nat → Int32} (hp : ∀ s, s < 96 → ∀ j, 26 ≤ j → m9_b (p s) j = false) : q9_ok (fb_put Z (fun j => p (f + j)) (96 + f) (g + 1 - f)) B R := by
  obtain ⟨h1, h2, h3, h4, h5⟩ := hk
  have out : ∀ j, (j < 96 ∨ 192 ≤ j) → fb_put Z (fun j => p (f + j)) (96 + f) (g + 1 - f) j = Z j := fun j hj => fb_put_out (by omega)
  refine ⟨fun s hs => ⟨fun j hj => ⟨?_, ?_⟩, ?_, ?_⟩, ?_, ?_, q9_tok_c h4 (fun j hj => out j (by omega)), fun s hs => ?_⟩
  · rw [out _ (by omega)]; exact ((h1 s hs).1 j hj).1
  · by_cases c : f ≤ s ∧ s ≤ g
    · rw [fb_put_in (by omega) (by omega)]
      exact hp _ (by omega) j hj
    · rw [fb_put_out (by omega)]; exact ((h1 s hs).1 j hj).2
  · rw [out _ (by omega)]; exact (h1 s hs).2.1
  · rw [out _ (by omega)]; exact (h1 s hs).2.2
  · rw [out _ (by omega)]; exact h2
  · rw [out _ (by omega)]; exact h3
  · rw [out _ (by omega)]; exact h5 s hs
/-- patch -/
theorem q9_patch {M : k9_Mem} {B R F U : Nat} (h : q9_rel M B R F U) (t a b : Int32) (h0 : m9_rfr (m9_bi (m9_wn t 0 25)) a b = 0) : m9_patM M F B t a b 77 = M 77 ∧ m9_patM M F B t a b 76 = M 76 ∧ m9_rpV (m9_patM M F B t a b) t a b = m9_cvn (m9_keep M F) a b (m9_tk t) ∧ q9_rel (m9_rpM (m9_patM M F B t a b) F t a b) B R (q9_F F) U := by
  obtain ⟨a1, b1, hab, hb⟩ := q9_rfr0 h0
  obtain ⟨k, hk, et⟩ := q9_track (z := 0) h0
  have hp := q9_kP h
  have hN : ∀ k, 9 ≤ k → k9_sc (m9_keep M F) 3 (m9_fl (m9_cv (m9_keep M F) a b (m9_tk t)) (m9_keep M F 3) 96) k = m9_keep M F k := fun k hk => k9_sc_ne _ _ (by omega)
  have e77 : m9_patM M F B t a b 77 = M 77 := q9_M77 h hN (by decide) (by decide) (by decide)
  have e76 : m9_patM M F B t a b 76 = M 76 := q9_M77 h hN (by decide) (by decide) (by decide)
  have k3 : ∀ s, s < 96 → m9_keep M F 3 s = M 77 (96 + s) := fun s hs => (hp.1 s hs).2.1
  refine ⟨e77, e76, ?_, ?_⟩
  · unfold m9_rpV m9_pzv m9_cvn
    rw [if_pos h0, e77, a1, b1, et, m9_cl (show a.toNatClampNeg < 2147483648 by omega), m9_cl (show b.toNatClampNeg < 2147483648 by omega)]
    refine (q9_rgn (y := fun s => m9_zo (M 77) s) hab hb (show k < 32 by omega) (fun s hs => ?_)).symm
    rw [q9_op hp hs]
  · unfold m9_rpM
    rw [if_pos h0, e77]
    have e : m9_pz (M 77) t a.toNatClampNeg b.toNatClampNeg = fb_put (M 77) (fun j => M 77 (96 + (a.toNatClampNeg + j)) ||| m9_tk t) (96 + a.toNatClampNeg) (b.toNatClampNeg + 1 - a.toNatClampNeg) := by
      unfold m9_pz
      refine fb_put_cong (fun j _ => rfl) (fun j _ => ?_)
      rw [Nat.add_assoc]
    rw [e]
    refine q9_mutS h hN (q9_P_3 hp (p := fun s => M 77 (96 + s) ||| m9_tk t) hab hb (fun s hs => ?_)) (q9_ok_3 h.2.1 (p := fun s => M 77 (96 + s) ||| m9_tk t) hab hb (fun s hs j hj => ?_))
    · rw [m9_fl_in hs]
      unfold m9_cv
      rw [← a1, ← b1, k3 s hs]
    · rw [m9_b_or, ((h.2.1.1 s hs).1 j hj).2, et, q9_tkhi hk j hj]; rfl
/-- peel -/
theorem q9_peel {M : k9_Mem} {B R F U : Nat} (h : q9_rel M B R F U) (t a b : Int32) (h0 : m9_rfr (m9_bi (m9_wn t 0 25)) a b = 0) : m9_pelM M F B t a b 77 = M 77 ∧ m9_pelM M F B t a b 76 = M 76 ∧ m9_rlV (m9_pelM M F B t a b) t a b = m9_ucn (m9_keep M F) a b (m9_tk t) ∧ q9_rel (m9_rlM (m9_pelM M F B t a b) F t a b) B R (q9_F F) U := by
  obtain ⟨a1, b1, hab, hb⟩ := q9_rfr0 h0
  obtain ⟨k, hk, et⟩ := q9_track (z := 0) h0
  have hp := q9_kP h
  have hN : ∀ k, 9 ≤ k → k9_sc (m9_keep M F) 3 (m9_fl (m9_uc (m9_keep M F) a b (m9_tk t)) (m9_keep M F 3) 96) k = m9_keep M F k := fun k hk => k9_sc_ne _ _ (by omega)
  have e77 : m9_pelM M F B t a b 77 = M 77 := q9_M77 h hN (by decide) (by decide) (by decide)
  have e76 : m9_pelM M F B t a b 76 = M 76 := q9_M77 h hN (by decide) (by decide) (by decide)
  have k3 : ∀ s, s < 96 → m9_keep M F 3 s = M 77 (96 + s) := fun s hs => (hp.1 s hs).2.1
  refine ⟨e77, e76, ?_, ?_⟩
  · unfold m9_rlV m9_lzv m9_ucn
    rw [if_pos h0, e77, a1, b1, et, m9_cl (show a.toNatClampNeg < 2147483648 by omega), m9_cl (show b.toNatClampNeg < 2147483648 by omega)]
    refine Eq.trans ?_ (q9_rgn (y := fun s => M 77 (96 + s)) hab hb (show k < 32 by omega) (fun s hs => ?_)).symm
    · apply m9_sum_c
      intro j _
      rw [Nat.add_assoc]
    · rw [k3 s hs]
  · unfold m9_rlM
    rw [if_pos h0, e77]
    have e : m9_lz (M 77) t a.toNatClampNeg b.toNatClampNeg = fb_put (M 77) (fun j => M 77 (96 + (a.toNatClampNeg + j)) &&& (m9_tk t ^^^ (-1))) (96 + a.toNatClampNeg) (b.toNatClampNeg + 1 - a.toNatClampNeg) := by
      unfold m9_lz
      refine fb_put_cong (fun j _ => rfl) (fun j _ => ?_)
      rw [Nat.add_assoc]
    rw [e]
    refine q9_mutS h hN (q9_P_3 hp (p := fun s => M 77 (96 + s) &&& (m9_tk t ^^^ (-1))) hab hb (fun s hs => ?_)) (q9_ok_3 h.2.1 (p := fun s => M 77 (96 + s) &&& (m9_tk t ^^^ (-1))) hab hb (fun s hs j hj => ?_))
    · rw [m9_fl_in hs]
      unfold m9_uc
      rw [← a1, ← b1, k3 s hs]
    · rw [m9_b_and, ((h.2.1.1 s hs).1 j hj).2]; rfl
