/-! Plain mathematics: the best bridge, the best break. -/
theorem q9_rd_Z {r Z Z2 : Nat → Int32} (h : q9_rd r Z) (he : ∀ j, j < 384 → Z2 j = Z j) : q9_rd r Z2 := fun s hs => by
  obtain ⟨h1, h2⟩ := h s hs
  refine ⟨fun k hk => ?_, h2⟩
  rw [h1 k hk]
  have ez : ∀ n, m9_zr Z2 s n = m9_zr Z s n := fun n => by
    induction n with
    | zero => rfl
    | succ n ih =>
      show m9_zr Z2 s n ||| m9_zb Z2 s n = m9_zr Z s n ||| m9_zb Z s n
      rw [ih]
      unfold m9_zb m9_zt m9_zo m9_zs
      rw [he s (by omega), he (96 + s) (by omega), he (192 + s) (by omega), he (288 + s) (by omega)]
  rw [ez 21]
theorem q9_bpu77 (M : k9_Mem) : ∀ k, m9_bpu (m9_bnS M k) k 77 = upd (M 77) 384 (nI k)
  | 0 => by
    show k9_st M 77 384 (nI 0) 77 = _
    rw [m9_st_at]
  | k + 1 => by
    have e : m9_bnS M (k + 1) 77 = upd (M 77) 384 (nI k) := by
      show m9_lay (m9_bpu (m9_bnS M k) k) k 77 = _
      rw [m9_lay_77, q9_bpu77 M k]
    show k9_st (m9_bnS M (k + 1)) 77 384 (nI (k + 1)) 77 = _
    rw [m9_st_at, e, fa_upd_twice]
theorem q9_bestB {M S : k9_Mem} {B R : Nat} (hp : q9_P M 1 (S 77)) (hk : q9_ok (S 77) B R) (hH : q9_H M B) : m9_fbM M 4 71 2 = (m9_bm (m9_bnR S) (fun k => nI k) 4).1 := by
  have up : ∀ k j, j ≠ 384 → upd (S 77) 384 (nI k) j = S 77 j := fun k j hj => m9_upd_ne _ _ hj
  have tk : ∀ k, q9_tok (m9_bpu (m9_bnS S k) k 77) := fun k => by
    rw [q9_bpu77]
    exact q9_tok_c hk.2.2.2.1 (fun j hj => up k j (by omega))
  have hrt : ∀ k, m9_rt (m9_fbM M k 58) k (m9_fbM M k 7) (m9_fbM M k 8) = m9_bnR S k := fun k => by
    rw [m9_fbM_ne M (by decide) (by decide) (by decide) k, m9_fbM_ne M (by decide) (by decide) (by decide) k, m9_fbM_ne M (by decide) (by decide) (by decide) k]
    unfold m9_bnR
    refine q9_rights (m9_bpu (m9_bnS S k) k) ?_ ?_ (tk k)
    · rw [q9_bpu77]
      exact q9_rd_Z (q9_rd58 hp hk hH.1) (fun j hj => up k j (by omega))
    · rw [q9_bpu77]
      exact q9_tun_c hp.2.2 (fun j hj => up k j (by omega))
  have main := q9_bm (rt := m9_bnR S) (val := fun k => nI k) (b := fun i => m9_fbM M i 71 2) (m := fun i => m9_fbM M i 71 3) (N := 4) (by
    show k9_st M 71 3 (-1) 71 3 = -1
    rw [m9_st_at, m9_upd_at]) (fun i hi => by
    obtain ⟨o1, o2⟩ := q9_off (m9_fbM M i) 58 i (nI i)
    rw [hrt i] at o1 o2
    exact ⟨o1, o2⟩) (q9_rn_pos _ _ (tk 0)) 4 (Nat.le_refl _)
  exact main.2 (by decide)
theorem q9_backB (M : k9_Mem) {B : Nat} (hM : M 77 384 = nI B) : k9_st (m9_bnS M 4) 77 384 (nI B) 77 = M 77 ∧ (∀ k, (k < 76 ∨ 87 ≤ k ∨ k = 78 ∨ k = 79) → k9_st (m9_bnS M 4) 77 384 (nI B) k = M k) ∧ (∀ j, j ≠ 13 → k9_st (m9_bnS M 4) 77 384 (nI B) 76 j = M 76 j) := by
  have sk : ∀ k, (k < 76 ∨ 87 ≤ k ∨ k = 78 ∨ k = 79) → ∀ i, m9_bnS M i k = M k := fun k hk i => by
    induction i with
    | zero => rfl
    | succ i ih =>
      show m9_lay (m9_bpu (m9_bnS M i) i) i k = _
      rw [q9_lay_ne _ _ (by omega)]
      unfold m9_bpu
      rw [m9_st_ne _ _ _ (by omega), ih]
  have s76 : ∀ j, j ≠ 13 → ∀ i, m9_bnS M i 76 j = M 76 j := fun j hj i => by
    induction i with
    | zero => rfl
    | succ i ih =>
      show m9_lay (m9_bpu (m9_bnS M i) i) i 76 j = _
      rw [q9_lay76 _ _ hj]
      unfold m9_bpu
      rw [m9_st_ne _ _ _ (by decide), ih]
  refine ⟨?_, fun k hk => ?_, fun j hj => ?_⟩
  · have e : m9_bnS M 4 77 = upd (M 77) 384 (nI 3) := by
      show m9_lay (m9_bpu (m9_bnS M 3) 3) 3 77 = _
      rw [m9_lay_77, q9_bpu77]
    rw [m9_st_at, e, fa_upd_twice]
    exact m9_upd_same hM
  · rw [m9_st_ne _ _ _ (by omega), sk k hk]
  · rw [m9_st_ne _ _ _ (by decide), s76 j hj]
/-- what is held between -3 and 3 -/
theorem q9_kp (x : Int32) : m9_kp x = m9_hld x ∧ q9_side (m9_kp x) := by
  have e3 : (3 : Int32).toInt = 3 := rfl
  have em : (-3 : Int32).toInt = -3 := rfl
  have l3 : x < 3 ↔ x.toInt < 3 := by rw [fa_lt, e3]
  have le3 : x ≤ 3 ↔ x.toInt ≤ 3 := by rw [fa_le, e3]
  have gm : (-3 : Int32) < x ↔ -3 < x.toInt := by rw [fa_lt, em]
  have gem : (-3 : Int32) ≤ x ↔ -3 ≤ x.toInt := by rw [fa_le, em]
  by_cases c1 : x.toInt < 3
  · by_cases c2 : -3 < x.toInt
    · have k : m9_kp x = x := by
        unfold m9_kp
        rw [if_pos (l3.mpr c1), if_pos (gm.mpr c2)]
      have h : m9_hld x = x := by
        unfold m9_hld
        rw [if_neg (fun z => z (le3.mpr (by omega))), if_neg (fun z => z (gem.mpr (by omega)))]
      rw [k, h]
      exact ⟨rfl, by omega, by omega⟩
    · have k : m9_kp x = -3 := by
        unfold m9_kp
        rw [if_pos (l3.mpr c1), if_neg (fun z => c2 (gm.mp z))]
      have h : m9_hld x = -3 := by
        unfold m9_hld
        rw [if_neg (fun z => z (le3.mpr (by omega)))]
        by_cases c3 : -3 ≤ x.toInt
        · rw [if_neg (fun z => z (gem.mpr c3)), fa_eq, em]; omega
        · rw [if_pos (fun z => c3 (gem.mp z))]
      rw [k, h]
      exact ⟨rfl, by rw [em]; decide, by rw [em]; decide⟩
  · have k : m9_kp x = 3 := by
      unfold m9_kp
      rw [if_neg (fun z => c1 (l3.mp z)), if_pos (by decide)]
    have h : m9_hld x = 3 := by
      unfold m9_hld
      by_cases c3 : x.toInt ≤ 3
      · rw [if_neg (fun z => z (le3.mpr c3)), if_neg (fun z => z (gem.mpr (by omega))), fa_eq, e3]; omega
      · rw [if_pos (fun z => c3 (le3.mp z))]
    rw [k, h]
    exact ⟨rfl, by rw [e3]; decide, by rw [e3]; decide⟩
theorem q9_kn88 (M : k9_Mem) (B : Nat) (y : Int32) : ∀ k, m9_knS M B y k 88 = m9_ksM M 88
  | 0 => rfl
  | k + 1 => by
    show m9_lay (m9_kpu (m9_knS M B y k) y k) B 88 = _
    rw [q9_lay_ne _ _ (by omega)]
    unfold m9_kpu
    rw [k9_sc_ne _ _ (by decide), q9_kn88 M B y k]
theorem q9_kn77 (M : k9_Mem) (B : Nat) (y : Int32) : ∀ k j, (j < 288 ∨ 384 ≤ j) → m9_knS M B y k 77 j = M 77 j
  | 0, j, _ => by
    show m9_ksM M 77 j = _
    unfold m9_ksM
    rw [k9_sc_ne _ _ (by decide)]
  | k + 1, j, h => by
    show m9_lay (m9_kpu (m9_knS M B y k) y k) B 77 j = _
    rw [m9_lay_77]
    unfold m9_kpu
    rw [k9_sc_eq, fb_put_out (by omega), q9_kn77 M B y k j h]
theorem q9_kpu77 (M : k9_Mem) (B : Nat) (y : Int32) (k : Nat) : m9_kpu (m9_knS M B y k) y k 77 = fb_put (M 77) (fun s => if k ≤ s then m9_hld (M 77 (288 + s) + y) else M 77 (288 + s)) 288 96 := by
  unfold m9_kpu
  rw [k9_sc_eq, q9_kn88]
  refine fb_put_cong (fun j hj => q9_kn77 M B y k j (by omega)) (fun j hj => ?_)
  unfold m9_ksM
  rw [k9_sc_eq, m9_fl_in hj]
/-- the row that the class tries from a step on -/
theorem q9_bk72 (M : k9_Mem) (y : Int32) (B : Nat) : ∀ i, i ≤ 96 → ∀ s, s < 96 → (m9_bk (m9_bk0 M y) B i).1 72 s = if s < i then M 58 s else m9_br M y s
  | 0, _, s, hs => by
    show m9_bk0 M y 72 s = _
    unfold m9_bk0
    rw [k9_sc_eq, m9_fl_in hs, if_neg (by omega)]
  | i + 1, hi, s, hs => by
    have e58 : (m9_bk (m9_bk0 M y) B i).1 58 = M 58 := by
      rw [m9_bk_ne _ _ (by decide) (by decide) (by decide) (by decide)]
      unfold m9_bk0
      rw [k9_sc_ne _ _ (by decide), m9_st_ne _ _ _ (by decide)]
    have e72 : m9_bkN (m9_bk (m9_bk0 M y) B i).1 B i (m9_bk (m9_bk0 M y) B i).2 72 = (m9_bk (m9_bk0 M y) B i).1 72 := m9_bkN_ne _ _ _ _ (by decide) (by decide) (by decide)
    show k9_st (m9_bkN (m9_bk (m9_bk0 M y) B i).1 B i (m9_bk (m9_bk0 M y) B i).2) 72 i ((m9_bk (m9_bk0 M y) B i).1 58 i) 72 s = _
    rw [m9_st_at, e72, e58]
    by_cases c : s = i
    · subst c
      rw [m9_upd_at, if_pos (by omega)]
    · rw [m9_upd_ne _ _ c, q9_bk72 M y B i (by omega) s hs]
      by_cases d : s < i
      · rw [if_pos d, if_pos (by omega)]
      · rw [if_neg d, if_neg (by omega)]
theorem q9_bkrow {M : k9_Mem} {Z : Nat → Int32} {B R : Nat} (hp : q9_P M 1 Z) (hk : q9_ok Z B R) (hH : q9_H M B) (y : Int32) (i : Nat) {r : Nat → Int32} (hr : ∀ s, s < 96 → r s = if s < i then M 58 s else m9_br M y s) : q9_rd r (fb_put Z (fun s => if i ≤ s then m9_hld (Z (288 + s) + y) else Z (288 + s)) 288 96) := fun s hs => by
  rw [hr s hs]
  have hz : m9_zo (fb_put Z (fun s => if i ≤ s then m9_hld (Z (288 + s) + y) else Z (288 + s)) 288 96) s = m9_zo Z s := by
    unfold m9_zo
    rw [fb_put_out (by omega), fb_put_out (by omega)]
  have h192 : fb_put Z (fun s => if i ≤ s then m9_hld (Z (288 + s) + y) else Z (288 + s)) 288 96 (192 + s) = Z (192 + s) := fb_put_out (by omega)
  have h288 : fb_put Z (fun s => if i ≤ s then m9_hld (Z (288 + s) + y) else Z (288 + s)) 288 96 (288 + s) = if i ≤ s then m9_hld (Z (288 + s) + y) else Z (288 + s) := by
    rw [fb_put_in (by omega) (by omega), Nat.add_sub_cancel_left]
  have e5 : M 5 s = Z (288 + s) := (hp.1 s hs).2.2.2
  by_cases c : s < i
  · rw [if_pos c, hH.1 s hs]
    unfold m9_rd
    rw [e5]
    exact q9_va hp hk hs (hk.1 s hs).2.2 ⟨hz, h192, by rw [h288, if_neg (by omega)]⟩
  · rw [if_neg c]
    unfold m9_br
    rw [e5]
    exact q9_va hp hk hs (q9_kp _).2 ⟨hz, h192, by rw [h288, if_pos (by omega), (q9_kp _).1]⟩
theorem q9_bm_ge (rt val : Nat → Int32) (i : Nat) : rt i ≤ (m9_bm rt val (i + 1)).2 := by
  have e : m9_bm rt val (i + 1) = if rt i ≤ (m9_bm rt val i).2 then m9_bm rt val i else (val i, rt i) := rfl
  rw [e]
  by_cases c : rt i ≤ (m9_bm rt val i).2
  · rw [if_pos c]; exact c
  · rw [if_neg c]
    show rt i ≤ rt i
    rw [fa_le]; omega
theorem q9_bestK {M S : k9_Mem} {B R : Nat} (hp : q9_P M 1 (S 77)) (hk : q9_ok (S 77) B R) (hH : q9_H M B) (y : Int32) : (m9_bk (m9_bk0 M y) B 96).1 71 3 = (m9_bm (m9_knR S B y) (fun k => nI k) 96).2 ∧ (m9_bk (m9_bk0 M y) B 96).1 71 2 = (m9_bm (m9_knR S B y) (fun k => nI k) 96).1 := by
  have tk : ∀ k, q9_tok (m9_kpu (m9_knS S B y k) y k 77) := fun k => by
    rw [q9_kpu77]
    exact q9_tok_c hk.2.2.2.1 (fun j hj => fb_put_out (by omega))
  obtain ⟨N, hN⟩ : ∃ N : Nat → k9_Mem, ∀ i, N i = (m9_bk (m9_bk0 M y) B i).1 := ⟨_, fun _ => rfl⟩
  obtain ⟨o, ho⟩ : ∃ o : Nat → Int32, ∀ i, o i = (m9_bk (m9_bk0 M y) B i).2 := ⟨_, fun _ => rfl⟩
  have ne : ∀ i j, j ≠ 71 → j ≠ 74 → j ≠ 75 → j ≠ 72 → N i j = M j := fun i j a b c d => by
    rw [hN, m9_bk_ne _ _ a b c d]
    unfold m9_bk0
    rw [k9_sc_ne _ _ d, m9_st_ne _ _ _ a]
  have row : ∀ i, i ≤ 96 → ∀ s, s < 96 → N i 72 s = if s < i then M 58 s else m9_br M y s := fun i hi s hs => by rw [hN]; exact q9_bk72 M y B i hi s hs
  have hrt : ∀ k, k ≤ 96 → m9_rt (N k 72) B (N k 7) (N k 8) = m9_knR S B y k := fun k hk96 => by
    rw [ne k 7 (by decide) (by decide) (by decide) (by decide), ne k 8 (by decide) (by decide) (by decide) (by decide)]
    unfold m9_knR
    refine q9_rights (m9_kpu (m9_knS S B y k) y k) ?_ ?_ (tk k)
    · rw [q9_kpu77]
      exact q9_bkrow hp hk hH y k (row k hk96)
    · rw [q9_kpu77]
      exact q9_tun_c hp.2.2 (fun j hj => fb_put_out (by omega))
  have step71 : ∀ i, N (i + 1) 71 = m9_bkN (N i) B i (o i) 71 := fun i => by
    rw [hN, hN, ho]
    show k9_st (m9_bkN (m9_bk (m9_bk0 M y) B i).1 B i (m9_bk (m9_bk0 M y) B i).2) 72 i ((m9_bk (m9_bk0 M y) B i).1 58 i) 71 = _
    rw [m9_st_ne _ _ _ (by decide)]
  have ostep : ∀ i, o (i + 1) = m9_bi (¬ N i 72 i = N i 58 i) := fun i => by rw [ho, hN]; rfl
  have main : ∀ i, i ≤ 96 → N i 71 3 = (m9_bm (m9_knR S B y) (fun k => nI k) i).2 ∧ (1 ≤ i → N i 71 2 = (m9_bm (m9_knR S B y) (fun k => nI k) i).1) := fun i => by
    induction i with
    | zero =>
      intro _
      refine ⟨?_, fun h => by omega⟩
      rw [hN]
      show m9_bk0 M y 71 3 = -1
      unfold m9_bk0
      rw [k9_sc_ne _ _ (by decide), m9_st_at, m9_upd_at]
    | succ i ih =>
      intro hi
      obtain ⟨h1, h2⟩ := ih (by omega)
      have e : m9_bm (m9_knR S B y) (fun k => nI k) (i + 1) = if m9_knR S B y i ≤ (m9_bm (m9_knR S B y) (fun k => nI k) i).2 then m9_bm (m9_knR S B y) (fun k => nI k) i else (nI i, m9_knR S B y i) := rfl
      rw [step71, e]
      unfold m9_bkN
      by_cases c0 : o i = 0
      · rw [if_pos c0]
        have ipos : 1 ≤ i := by
          rcases Nat.eq_zero_or_pos i with z | z
          · subst z
            rw [ho] at c0
            have c0 : (1 : Int32) = 0 := c0
            exact absurd c0 (by decide)
          · exact z
        obtain ⟨i', rfl⟩ : ∃ i', i = i' + 1 := ⟨i - 1, by omega⟩
        have same : N i' 72 i' = N i' 58 i' := by
          rw [ostep] at c0
          exact Classical.byContradiction (fun z => m9_bi_0 c0 z)
        have req : m9_knR S B y (i' + 1) = m9_knR S B y i' := by
          rw [← hrt (i' + 1) (by omega), ← hrt i' (by omega), ne _ 7 (by decide) (by decide) (by decide) (by decide), ne _ 8 (by decide) (by decide) (by decide) (by decide), ne _ 7 (by decide) (by decide) (by decide) (by decide), ne _ 8 (by decide) (by decide) (by decide) (by decide)]
          have hrow : ∀ s, s < 96 → N (i' + 1) 72 s = N i' 72 s := fun s hs => by
            rw [row _ (by omega) s hs, row _ (by omega) s hs]
            by_cases d : s = i'
            · subst d
              rw [row _ (by omega) s hs, if_neg (by omega), ne s 58 (by decide) (by decide) (by decide) (by decide)] at same
              rw [if_pos (by omega), if_neg (by omega), same]
            · by_cases d2 : s < i'
              · rw [if_pos d2, if_pos (by omega)]
              · rw [if_neg d2, if_neg (by omega)]
          unfold m9_rt
          refine m9_sn_c (fun s hs => ?_)
          have ob : ∀ n, m9_orb (N (i' + 1) 72) s n = m9_orb (N i' 72) s n := fun n => by
            induction n with
            | zero => rfl
            | succ n ihn =>
              show m9_orb (N (i' + 1) 72) s n ||| (if n + 1 ≤ s then N (i' + 1) 72 (s - (n + 1)) else 0) = m9_orb (N i' 72) s n ||| (if n + 1 ≤ s then N i' 72 (s - (n + 1)) else 0)
              rw [ihn, hrow (s - (n + 1)) (by omega)]
          have oa : ∀ n, m9_ora (N (i' + 1) 72) s n = m9_ora (N i' 72) s n := fun n => by
            induction n with
            | zero => rfl
            | succ n ihn =>
              show m9_ora (N (i' + 1) 72) s n ||| (if s + (n + 1) < 96 then N (i' + 1) 72 (s + (n + 1)) else 0) = m9_ora (N i' 72) s n ||| (if s + (n + 1) < 96 then N i' 72 (s + (n + 1)) else 0)
              rw [ihn]
              by_cases d : s + (n + 1) < 96
              · rw [if_pos d, if_pos d, hrow _ d]
              · rw [if_neg d, if_neg d]
          unfold m9_lkS m9_lkE
          rw [ob, oa, hrow s hs]
          exact ⟨rfl, rfl, rfl, rfl⟩
        have hge := q9_bm_ge (m9_knR S B y) (fun k => nI k) i'
        rw [← req] at hge
        rw [if_pos hge]
        exact ⟨h1, fun _ => h2 (by omega)⟩
      · rw [if_neg c0]
        obtain ⟨o1, o2⟩ := q9_off (N i) 72 B (nI i)
        rw [o1, o2, hrt i (by omega), h1]
        by_cases c : m9_knR S B y i ≤ (m9_bm (m9_knR S B y) (fun k => nI k) i).2
        · rw [if_pos c, if_pos c, if_pos c]
          refine ⟨rfl, fun _ => ?_⟩
          rcases Nat.eq_zero_or_pos i with z | z
          · subst z
            exact absurd c (q9_rn_pos _ _ (tk 0))
          · exact h2 z
        · rw [if_neg c, if_neg c, if_neg c]
          exact ⟨rfl, fun _ => rfl⟩
  have h96 := main 96 (Nat.le_refl _)
  rw [hN] at h96
  exact ⟨h96.1, h96.2 (by decide)⟩
theorem q9_backK (M : k9_Mem) (B : Nat) (y : Int32) : m9_lbM (m9_knS M B y 96) 77 = M 77 ∧ (∀ k, (k < 76 ∨ 89 ≤ k ∨ k = 78 ∨ k = 79 ∨ k = 87) → m9_lbM (m9_knS M B y 96) k = M k) ∧ (∀ j, j ≠ 13 → m9_lbM (m9_knS M B y 96) 76 j = M 76 j) := by
  have sk : ∀ k, (k < 76 ∨ 89 ≤ k ∨ k = 78 ∨ k = 79 ∨ k = 87) → ∀ i, m9_knS M B y i k = M k := fun k hk i => by
    induction i with
    | zero =>
      show m9_ksM M k = M k
      unfold m9_ksM
      rw [k9_sc_ne _ _ (by omega)]
    | succ i ih =>
      show m9_lay (m9_kpu (m9_knS M B y i) y i) B k = _
      rw [q9_lay_ne _ _ (by omega)]
      unfold m9_kpu
      rw [k9_sc_ne _ _ (by omega), ih]
  have s76 : ∀ j, j ≠ 13 → ∀ i, m9_knS M B y i 76 j = M 76 j := fun j hj i => by
    induction i with
    | zero =>
      show m9_ksM M 76 j = M 76 j
      unfold m9_ksM
      rw [k9_sc_ne _ _ (by decide)]
    | succ i ih =>
      show m9_lay (m9_kpu (m9_knS M B y i) y i) B 76 j = _
      rw [q9_lay76 _ _ hj]
      unfold m9_kpu
      rw [k9_sc_ne _ _ (by decide), ih]
  refine ⟨?_, fun k hk => ?_, fun j hj => ?_⟩
  · unfold m9_lbM
    rw [k9_sc_eq, q9_kn88]
    funext j
    unfold fb_put m9_ksM
    rw [k9_sc_eq]
    by_cases c : 288 ≤ j ∧ j < 288 + 96
    · rw [if_pos c, m9_fl_in (by omega), show 288 + (j - 288) = j from by omega]
    · rw [if_neg c, q9_kn77 M B y 96 j (by omega)]
  · unfold m9_lbM
    rw [k9_sc_ne _ _ (by omega), sk k hk]
  · unfold m9_lbM
    rw [k9_sc_ne _ _ (by decide), s76 j hj]
