/-! Plain mathematics: what would be, at states that stand alike. -/
theorem q9_xBestS (a b w : Int32) : q9_k3 (m9_xBestS a b w) = m9_rbs a b w := by
  have e1 := q9_xSteps a b
  have e2 : m9_xWhat w 1 = if m9_wn w 0 1 then none else some m9_ia := q9_what (n := 1)
  unfold m9_xBestS m9_rbs
  cases hx : m9_xSteps a b with
  | some E =>
    rw [hx] at e1
    have hn : ¬ m9_rfr 1 a b = 0 := fun z => by
      rw [z] at e1
      unfold m9_xSteps at hx
      by_cases c1 : ¬ m9_isS a ∨ ¬ m9_isS b
      · rw [if_pos c1] at hx
        cases hx
        rw [q9_k3o] at e1
        exact absurd e1 (by decide)
      · rw [if_neg c1] at hx
        by_cases c2 : b < a
        · rw [if_pos c2] at hx
          cases hx
          rw [q9_k3a] at e1
          exact absurd e1 (by decide)
        · rw [if_neg c2] at hx
          cases hx
    rw [if_pos hn]
    exact e1
  | none =>
    rw [hx] at e1
    have h0 : m9_rfr 1 a b = 0 := e1.symm
    rw [if_neg (show ¬ ¬ m9_rfr 1 a b = 0 from fun z => z h0)]
    show q9_k3 (m9_xWhat w 1) = _
    rw [e2]
    by_cases c : m9_wn w 0 1
    · rw [if_pos c, if_pos c]; rfl
    · rw [if_neg c, if_neg c]; exact q9_k3a
theorem q9_rbs0 {a b w : Int32} (h : m9_rbs a b w = 0) : a = nI a.toNatClampNeg ∧ b = nI b.toNatClampNeg ∧ a.toNatClampNeg ≤ b.toNatClampNeg ∧ b.toNatClampNeg < 96 := by
  have hr0 : m9_rfr 1 a b = 0 := Classical.byContradiction (fun z => by
    unfold m9_rbs at h
    rw [if_pos z] at h
    exact z h)
  exact q9_rfr0 hr0
theorem q9_bes (N : k9_Mem) (x : Int32 × Int32) (h1 : N 71 3 = x.2) (h2 : N 71 2 = x.1) (w : Int32) : m9_bes N w = m9_pick x w := by
  unfold m9_bes m9_pick
  rw [h1, h2]
theorem q9_gdS {S : k9_Mem} {B R : Nat} (hk : q9_ok (S 77) B R) {f g : Nat} (hfg : f ≤ g) (hg : g < 96) (k : Nat) : m9_gd (m9_spu (m9_snS S B f g k) f g k) B := q9_gd _ B (by
  rw [q9_spu77]
  exact q9_tok_c hk.2.2.2.1 (fun j hj => fb_put_out (by omega)))
theorem q9_gdB {S : k9_Mem} {B R : Nat} (hk : q9_ok (S 77) B R) (k : Nat) : m9_gd (m9_bpu (m9_bnS S k) k) k := q9_gd _ k (by
  rw [q9_bpu77]
  exact q9_tok_c hk.2.2.2.1 (fun j hj => m9_upd_ne _ _ (by omega)))
theorem q9_gdK {S : k9_Mem} {B R : Nat} (hk : q9_ok (S 77) B R) (y : Int32) (k : Nat) : m9_gd (m9_kpu (m9_knS S B y k) y k) B := q9_gd _ B (by
  rw [q9_kpu77]
  exact q9_tok_c hk.2.2.2.1 (fun j hj => fb_put_out (by omega)))
/-- the scratch of what would be -/
theorem q9_rel_w {M N : k9_Mem} {B R F U : Nat} (h : q9_rel M B R F U) (hc : ∀ k, k ≠ 71 → k ≠ 72 → k ≠ 74 → k ≠ 75 → N k = M k) : q9_rel N B R F U :=
  q9_rel_c h (fun k hk => hc k (by omega) (by omega) (by omega) (by omega)) (by rw [hc 66 (by decide) (by decide) (by decide) (by decide)]) (by rw [hc 76 (by decide) (by decide) (by decide) (by decide)]) (by rw [hc 76 (by decide) (by decide) (by decide) (by decide)])
theorem q9_fs_rel {M : k9_Mem} {B R F U : Nat} (h : q9_rel M B R F U) (a b : Int32) : q9_rel (m9_fsM M a b B 7) B R F U := q9_rel_w h (fun k c1 c2 c3 c4 => m9_fsM_ne M a b B c1 c3 c4 c2 7)
theorem q9_fb_rel {M : k9_Mem} {B R F U : Nat} (h : q9_rel M B R F U) : q9_rel (m9_fbM M 4) B R F U := q9_rel_w h (fun k c1 c2 c3 c4 => m9_fbM_ne M c1 c3 c4 4)
theorem q9_bk_rel {M : k9_Mem} {B R F U : Nat} (h : q9_rel M B R F U) (y : Int32) : q9_rel (m9_bk (m9_bk0 M y) B 96).1 B R F U := q9_rel_w h (fun k c1 c2 c3 c4 => m9_bkA_ne M y B c1 c3 c4 c2)
/-- bestSteer -/
theorem q9_bestSteer {M S : k9_Mem} {B R F U : Nat} (h : q9_rel M B R F U) (hS : S 77 = M 77) {a b w : Int32} (h0 : m9_rbs a b w = 0) : m9_bes (m9_fsM M a b B 7) w = m9_pick (m9_bm (m9_snR S B a.toNatClampNeg b.toNatClampNeg) k9_nfi 7) w := by
  obtain ⟨a1, b1, hab, hb⟩ := q9_rbs0 h0
  have main := q9_bestS (M := M) (S := S) (by rw [hS]; exact h.1) (by rw [hS]; exact h.2.1) h.2.2.1 hab hb
  rw [← a1, ← b1] at main
  exact q9_bes _ _ main.1 main.2 w
theorem q9_backS_rel {S : k9_Mem} {B R F U : Nat} (h : q9_rel S B R F U) {f g : Nat} (hfg : f ≤ g) (hg : g < 96) : q9_rel (m9_lbM (m9_snS S B f g 7)) B R F U := by
  obtain ⟨b1, b2, b3⟩ := q9_backS S B hfg hg
  refine q9_rel_c h (fun k hk => ?_) (by rw [b2 66 (by omega)]) (b3 1 (by decide)) (b3 3 (by decide))
  by_cases c : k = 77
  · subst c; exact b1
  · exact b2 k (by omega)
theorem q9_backB_rel {S : k9_Mem} {B R F U : Nat} (h : q9_rel S B R F U) : q9_rel (k9_st (m9_bnS S 4) 77 384 (nI B)) B R F U := by
  obtain ⟨b1, b2, b3⟩ := q9_backB S h.2.1.2.1.1
  refine q9_rel_c h (fun k hk => ?_) (by rw [b2 66 (by omega)]) (b3 1 (by decide)) (b3 3 (by decide))
  by_cases c : k = 77
  · subst c; exact b1
  · exact b2 k (by omega)
theorem q9_backK_rel {S : k9_Mem} {B R F U : Nat} (h : q9_rel S B R F U) (y : Int32) : q9_rel (m9_lbM (m9_knS S B y 96)) B R F U := by
  obtain ⟨b1, b2, b3⟩ := q9_backK S B y
  refine q9_rel_c h (fun k hk => ?_) (by rw [b2 66 (by omega)]) (b3 1 (by decide)) (b3 3 (by decide))
  by_cases c : k = 77
  · subst c; exact b1
  · exact b2 k (by omega)
theorem q9_bestBridge {M S : k9_Mem} {B R F U : Nat} (h : q9_rel M B R F U) (hS : S 77 = M 77) : m9_fbM M 4 71 2 = (m9_bm (m9_bnR S) (fun k => nI k) 4).1 := q9_bestB (S := S) (by rw [hS]; exact h.1) (by rw [hS]; exact h.2.1) h.2.2.1
theorem q9_xBestB (y w : Int32) : q9_k2 (m9_xBestB y w) = m9_rbb y w := by
  have e2 : m9_xWhat w 1 = if m9_wn w 0 1 then none else some m9_ia := q9_what (n := 1)
  unfold m9_xBestB m9_rbb m9_xAside
  rw [e2]
  by_cases c : y < (-3 : Int32) ∨ (3 : Int32) < y
  · rw [if_pos c, if_pos (Or.inl ((q9_xAside y).mp c))]; exact q9_k2a
  · have hy : m9_wn y (-3) 3 := Classical.byContradiction (fun z => c ((q9_xAside y).mpr z))
    rw [if_neg c]
    by_cases d : m9_wn w 0 1
    · rw [if_pos d, if_neg (fun z => z.elim (fun q => q hy) (fun q => q d))]; rfl
    · rw [if_neg d, if_pos (Or.inr d)]; exact q9_k2a
theorem q9_bestBreak {M S : k9_Mem} {B R F U : Nat} (h : q9_rel M B R F U) (hS : S 77 = M 77) (y w : Int32) : m9_bes (m9_bk (m9_bk0 M y) B 96).1 w = m9_pick (m9_bm (m9_knR S B y) (fun k => nI k) 96) w := by
  have main := q9_bestK (M := M) (S := S) (by rw [hS]; exact h.1) (by rw [hS]; exact h.2.1) h.2.2.1 y
  exact q9_bes _ _ main.1 main.2 w
/-- holesFor -/
theorem q9_xHoles (a : Int32) : q9_k2 (m9_xLength a) = m9_rhx a := by
  unfold m9_xLength m9_rhx
  by_cases c : a < 1 ∨ (96 : Int32) < a
  · rw [if_pos c, if_neg (q9_xNwn.mp c)]; exact q9_k2a
  · rw [if_neg c, if_pos (Classical.byContradiction (fun z => c (q9_xNwn.mpr z)))]; rfl
theorem q9_hfin : ∀ B, B < 4 → ∀ n, n < 97 → (n = 0 ∨ fb_ct (fun s => decide (m9_cs 0 n B s)) n = m9_rhf n B) := by decide +kernel
theorem q9_holes {B n : Nat} (hB : B ≤ 3) (h1 : 1 ≤ n) (h2 : n ≤ 96) : m9_hi n B n = nI (m9_rhf n B) := by
  have := (q9_hfin B (by omega) n (by omega)).resolve_left (by omega)
  rw [← this]
  unfold m9_hi
  rw [q9_sum' (g := fun s => if decide (m9_cs 0 n B s) then 1 else 0) (fun s _ => q9_bi _ _ (decide_eq_true_iff (p := m9_cs 0 n B s)).symm), q9_sm1 (fun s => decide (m9_cs 0 n B s))]
/-- the share -/
theorem q9_shOk {M S : k9_Mem} {B R : Nat} (hp : q9_P M 1 (S 77)) (hk : q9_ok (S 77) B R) (hH : q9_H M B) : m9_shOk (m9_same M 59 6) (m9_bin (M 7) 2097150) ∧ m9_same M 59 6 = m9_rn S B ∧ m9_bin (M 7) 2097150 = m9_tnn (S 77) := by
  have e1 := q9_c5 hp hk hH
  have e2 := q9_c4 hp hk
  refine ⟨?_, e1, e2⟩
  rw [e1, e2, q9_rn S B hk.2.2.2.1, q9_tnn hk]
  refine ⟨_, _, rfl, rfl, ?_, ?_⟩
  · unfold q9_T9
    rw [q9_Cs, q9_swap (fun s n => m9_b (S 77 (386 + s)) n) 20 96]
    refine fb_sm_le (fun n _ => fb_ct_sub (fun s _ hs => ?_))
    unfold q9_Rb at hs
    rw [Bool.and_eq_true, Bool.and_eq_true] at hs
    exact hs.1.2
  · have := fb_ct_le (m9_bg (fun j => S 77 (386 + j))) 1920
    unfold q9_T9
    omega
