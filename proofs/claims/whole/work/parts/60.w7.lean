/-! The reference: laying. -/
theorem m9_and1 (x : Int32) : x &&& 1 = 0 ∨ x &&& 1 = 1 := by
  obtain ⟨n, hn, rfl⟩ := wb_of32 x
  rw [show (1 : Int32) = nI (2 ^ 1 - 1) from rfl, fa_mask, show (2 : Nat) ^ 1 = 2 from rfl]
  rcases Nat.mod_two_eq_zero_or_one n with h | h
  · exact Or.inl (by rw [h]; rfl)
  · exact Or.inr (by rw [h])
theorem m9_one_iff (x : Int32) : x &&& 1 = 1 ↔ ¬ x &&& 1 = 0 := by
  rcases m9_and1 x with h | h
  · rw [h]; exact ⟨fun z => absurd z (by decide), fun z => absurd rfl z⟩
  · rw [h]; exact ⟨fun _ => by decide, fun _ => rfl⟩
abbrev m9_wn (a lo hi : Int32) : Prop := ¬ a < lo ∧ ¬ hi < a
theorem ct_X7_within (l : Launch) (G : k9_G) (M : k9_Mem) (a b c9 : Int32) : k9_Ci l yX7_within wsX7_within rm_X7_within G M [.int a, .int b, .int c9] (m9_bi (m9_wn a b c9)) M := by
  refine k9_metI (own := RX7) (by decide +kernel) rfl rfl (Nat.le_of_ble_eq_true rfl) m9_nb ?_
  intro p e s m args below meth c A Q X HR
  refine bk_X7_within_0 X (fun c1 => ?_) (fun c1 c2 => ?_) (fun c1 c2 => ?_)
  · exact k9_eq rfl (by rw [m9_bi_f (fun q => q.1 c1)]) (HR 15 [] dX7_within_15)
  · exact k9_eq rfl (by rw [m9_bi_f (fun q => q.2 c2)]) (HR 15 [] dX7_within_15)
  · exact k9_eq rfl (by rw [m9_bi_t ⟨c1, c2⟩]) (HR 15 [] dX7_within_15)
theorem ct_X7_isStep (l : Launch) (G : k9_G) (M : k9_Mem) (a : Int32) : k9_Ci l yX7_isStep wsX7_isStep rm_X7_isStep G M [.int a] (m9_bi (m9_wn a 0 95)) M := by
  refine k9_metI (own := RX7) (by decide +kernel) rfl rfl (Nat.le_of_ble_eq_true rfl) m9_nb ?_
  intro p e s m args below meth c A Q X HR
  exact bk_X7_isStep_0 X (ct_X7_within l G M _ _ _) (HR 7 [] dX7_isStep_7)
theorem ct_X7_isTrack (l : Launch) (G : k9_G) (M : k9_Mem) (a : Int32) : k9_Ci l yX7_isTrack wsX7_isTrack rm_X7_isTrack G M [.int a] (m9_bi (m9_wn a 0 25)) M := by
  refine k9_metI (own := RX7) (by decide +kernel) rfl rfl (Nat.le_of_ble_eq_true rfl) m9_nb ?_
  intro p e s m args below meth c A Q X HR
  exact bk_X7_isTrack_0 X (ct_X7_within l G M _ _ _) (HR 7 [] dX7_isTrack_7)
theorem ct_X7_isSide (l : Launch) (G : k9_G) (M : k9_Mem) (a : Int32) : k9_Ci l yX7_isSide wsX7_isSide rm_X7_isSide G M [.int a] (m9_bi (m9_wn a (-3) 3)) M := by
  refine k9_metI (own := RX7) (by decide +kernel) rfl rfl (Nat.le_of_ble_eq_true rfl) m9_nb ?_
  intro p e s m args below meth c A Q X HR
  exact bk_X7_isSide_0 X (ct_X7_within l G M _ _ _) (HR 7 [] dX7_isSide_7)
/-- the sum of the bits of 26 tracks -/
def m9_on (x : Int32) : Int32 := m9_sum (fun k => (x >>> (nI k &&& 31)) &&& 1) 26
theorem ct_X7_ones (l : Launch) (G : k9_G) (M : k9_Mem) (a : Int32) : k9_Ci l yX7_ones wsX7_ones rm_X7_ones G M [.int a] (m9_on a) M := by
  refine k9_metI (own := RX7) (by decide +kernel) rfl rfl (Nat.le_of_ble_eq_true rfl) rfl ?_
  intro p e s m args below meth c A Q X HR
  have loop : ∀ i, i ≤ 26 → k9_U p l e rm_X7_ones s m args below meth c Q A G 3 0 0 M 4 [(0, .int a), (1, .int (m9_sum (fun k => (a >>> (nI k &&& 31)) &&& 1) i)), (2, .int (nI i))] [] := by
    refine m9_down 26 (fun i hi next => ?_)
    refine bk_X7_ones_4 X (fun c1 => ?_) (fun c1 => ?_)
    · have hi2 := m9_ex (N := 26) (by decide) hi c1
      subst hi2
      exact HR 25 [] dX7_ones_25
    · rw [nI_1]; exact next (m9_go (N := 26) (by decide) hi c1)
  exact bk_X7_ones_0 X (loop 0 (by decide))
theorem m9_addN (k : Nat) {i : Nat} : nI k + nI i = nI (k + i) := nI_add k i
theorem m9_inN {k i n : Nat} (h : k + i < n) (hn : n < 2147483648) : vp_in (nI k + nI i) n := by rw [nI_add]; exact m9_in h hn
def m9_zo (Z : Nat → Int32) (i : Nat) : Int32 := Z i &&& (Z (96 + i) ^^^ (-1))
def m9_zs (Z : Nat → Int32) (i : Nat) : Int32 := Z (192 + i) + Z (288 + i)
theorem ct_X7_openAt (l : Launch) (G : k9_G) (M : k9_Mem) {i : Nat} (h : i < 96) : k9_Ci l yX7_openAt wsX7_openAt rm_X7_openAt G M [.ref (k9_ga G 76), .int (nI i)] (m9_zo (M 77) i) M := by
  refine k9_metI (own := RX7) (by decide +kernel) rfl rfl (Nat.le_of_ble_eq_true rfl) rfl ?_
  intro p e s m args below meth c A Q X HR
  have e0 : (0 : Int32) + nI i = nI i := by rw [show (0 : Int32) = nI 0 from rfl, nI_add, Nat.zero_add]
  have e1 : (96 : Int32) + nI i = nI (96 + i) := nI_add 96 i
  have h := HR 20 [] dX7_openAt_20
  refine bk_X7_openAt_0 X ?_ ?_ ?_
  · rw [e0]; exact m9_in (by omega) (by decide)
  · rw [e1]; exact m9_in (by omega) (by decide)
  · rw [e0, e1, m9_cl (by omega), m9_cl (by omega)]; exact h
theorem ct_X7_aside (l : Launch) (G : k9_G) (M : k9_Mem) {i : Nat} (h : i < 96) : k9_Ci l yX7_aside wsX7_aside rm_X7_aside G M [.ref (k9_ga G 76), .int (nI i)] (m9_zs (M 77) i) M := by
  refine k9_metI (own := RX7) (by decide +kernel) rfl rfl (Nat.le_of_ble_eq_true rfl) rfl ?_
  intro p e s m args below meth c A Q X HR
  have e0 : (192 : Int32) + nI i = nI (192 + i) := nI_add 192 i
  have e1 : (288 : Int32) + nI i = nI (288 + i) := nI_add 288 i
  have h := HR 21 [] dX7_aside_21
  refine bk_X7_aside_0 X ?_ ?_ ?_
  · rw [e0]; exact m9_in (by omega) (by decide)
  · rw [e1]; exact m9_in (by omega) (by decide)
  · rw [e0, e1, m9_cl (by omega), m9_cl (by omega)]; exact h
/-- what is read at a step for a note; 20 is the pedal -/
def m9_zt (Z : Nat → Int32) (i n : Nat) : Int32 := (if n = 20 then 2 else nI n + 3) + m9_zs Z i
def m9_zb (Z : Nat → Int32) (i n : Nat) : Int32 := if m9_wn (m9_zt Z i n) 0 25 then (((m9_zo Z i) >>> (m9_zt Z i n &&& 31)) &&& 1) <<< (nI n &&& 31) else 0
def m9_zr (Z : Nat → Int32) (i : Nat) : Nat → Int32
  | 0 => 0
  | n + 1 => m9_zr Z i n ||| m9_zb Z i n
def m9_l0 (M : k9_Mem) (i : Nat) (x : Int32) : k9_Mem := k9_st (k9_st (k9_st (k9_st M 80 i x) 81 i 0) 82 i 0) 83 i 0
theorem m9_st_st (M : k9_Mem) (k i : Nat) (v w : Int32) : k9_st (k9_st M k i v) k i w = k9_st M k i w := by
  unfold k9_st
  rw [k9_sc_eq, m9_sc_sc]
  congr 1
  exact fa_upd_twice _ _ _ _
theorem m9_st_comm (M : k9_Mem) {k j : Nat} (h : k ≠ j) (a b : Nat) (v w : Int32) : k9_st (k9_st M k a v) j b w = k9_st (k9_st M j b w) k a v := by
  have e1 : k9_st M k a v j = M j := m9_st_ne _ _ _ (Ne.symm h)
  have e2 : k9_st M j b w k = M k := m9_st_ne _ _ _ h
  show k9_sc (k9_st M k a v) j (upd (k9_st M k a v j) b w) = k9_sc (k9_st M j b w) k (upd (k9_st M j b w k) a v)
  rw [e1, e2]
  exact m9_sc_comm M h _ _
theorem m9_l0_st (M : k9_Mem) (i : Nat) (x y : Int32) : k9_st (m9_l0 M i x) 80 i y = m9_l0 M i y := by
  unfold m9_l0
  rw [m9_st_comm _ (k := 83) (j := 80) (by decide), m9_st_comm _ (k := 82) (j := 80) (by decide), m9_st_comm _ (k := 81) (j := 80) (by decide), m9_st_st]
theorem m9_l0_80 (M : k9_Mem) (i : Nat) (x : Int32) : m9_l0 M i x 80 i = x := by
  unfold m9_l0
  rw [m9_st_ne _ _ _ (by decide), m9_st_ne _ _ _ (by decide), m9_st_ne _ _ _ (by decide), m9_st_at, m9_upd_at]
theorem m9_l0_77 (M : k9_Mem) (i : Nat) (x : Int32) : m9_l0 M i x 77 = M 77 := by
  unfold m9_l0
  rw [m9_st_ne _ _ _ (by decide), m9_st_ne _ _ _ (by decide), m9_st_ne _ _ _ (by decide), m9_st_ne _ _ _ (by decide)]
theorem m9_or0 (x : Int32) : x ||| 0 = x := by
  apply m9_b_ext
  intro i _
  rw [m9_b_or, m9_b_0]; simp
theorem ct_X7_layReads (l : Launch) (G : k9_G) (M : k9_Mem) {i : Nat} (h : i < 96) : k9_Cv l yX7_layReads wsX7_layReads rm_X7_layReads G M [.ref (k9_ga G 76), .int (nI i)] (m9_l0 M i (m9_zr (M 77) i 21)) := by
  refine k9_metV (own := RX7) (by decide +kernel) rfl rfl (Nat.le_of_ble_eq_true rfl) ?_
  intro p e s m args below meth c A Q X HR
  have ee : (nI i).toNatClampNeg = i := m9_cl (by omega)
  have loop : ∀ n, n ≤ 21 → k9_U p l e rm_X7_layReads s m args below meth c Q A G 5 0 0 (m9_l0 M i (m9_zr (M 77) i n)) 36 [(0, .ref (k9_ga G 76)), (1, .int (nI i)), (2, .int (m9_zo (M 77) i)), (3, .int (nI n))] [] := by
    refine m9_down 21 (fun n hn next => ?_)
    have hlt : (20 : Int32) < nI n ↔ 20 < n := m9_lt (a := 20) (by decide) (by omega)
    have heq : nI n = (20 : Int32) ↔ n = 20 := m9_eq (b := 20) (by omega) (by decide)
    have go : ¬ (20 : Int32) < nI n → n < 21 := fun c1 => by
      rcases Nat.lt_or_ge n 21 with q | q
      · exact q
      · exact absurd (hlt.mpr (by omega)) c1
    have st : m9_zr (M 77) i (n + 1) = m9_zr (M 77) i n ||| m9_zb (M 77) i n := rfl
    have asd : k9_Ci l yX7_aside wsX7_aside rm_X7_aside G (m9_l0 M i (m9_zr (M 77) i n)) [.ref (k9_ga G 76), .int (nI i)] (m9_zs (M 77) i) (m9_l0 M i (m9_zr (M 77) i n)) := by
      have h9 := ct_X7_aside l G (m9_l0 M i (m9_zr (M 77) i n)) h
      rw [m9_l0_77] at h9
      exact h9
    refine bk_X7_layReads_36 X (fun c1 => ?_) (fun c1 c2 => asd) (fun c1 c2 => m9_in h (by decide)) (fun c1 c2 => ct_X7_isTrack l G _ _) (fun c1 c2 c3 => ?_) (fun c1 c2 c3 => ?_) (fun c1 c2 => asd) (fun c1 c2 => m9_in h (by decide)) (fun c1 c2 => ct_X7_isTrack l G _ _) (fun c1 c2 c3 => ?_) (fun c1 c2 c3 => ?_)
    · have : n = 21 := by have := hlt.mp c1; omega
      subst this
      exact HR 98 [] dX7_layReads_98
    · have h9 := next (go c1)
      have ht : m9_zt (M 77) i n = nI n + 3 + m9_zs (M 77) i := by rw [m9_zt, if_neg (fun z => c2 (heq.mpr z))]
      rw [st, m9_zb, ht, if_neg (m9_bi_0 c3)] at h9
      rw [ee, m9_l0_80, m9_l0_st, nI_1]; exact h9
    · have h9 := next (go c1)
      have ht : m9_zt (M 77) i n = nI n + 3 + m9_zs (M 77) i := by rw [m9_zt, if_neg (fun z => c2 (heq.mpr z))]
      rw [st, m9_zb, ht, if_pos (m9_bi_1 c3)] at h9
      rw [ee, m9_l0_80, m9_l0_st, nI_1]; exact h9
    · have h9 := next (go c1)
      have ht : m9_zt (M 77) i n = 2 + m9_zs (M 77) i := by rw [m9_zt, if_pos (heq.mp c2)]
      rw [st, m9_zb, ht, if_neg (m9_bi_0 c3)] at h9
      rw [ee, m9_l0_80, m9_l0_st, nI_1]; exact h9
    · have h9 := next (go c1)
      have ht : m9_zt (M 77) i n = 2 + m9_zs (M 77) i := by rw [m9_zt, if_pos (heq.mp c2)]
      rw [st, m9_zb, ht, if_pos (m9_bi_1 c3)] at h9
      rw [ee, m9_l0_80, m9_l0_st, nI_1]; exact h9
  have h9 := loop 0 (by decide)
  refine bk_X7_layReads_0 (rv1 := m9_zo (M 77) i) X (m9_in h (by decide)) ?_ ?_
  · rw [ee]
    have h8 := ct_X7_openAt l G (m9_l0 M i 0) h
    rw [m9_l0_77] at h8
    exact h8
  · rw [ee]; exact h9
/-- a chain of a note is laid -/
def m9_lc (M : k9_Mem) (n f g : Nat) : k9_Mem := k9_sc (k9_st (k9_st M 81 f (M 81 f ||| m9_tk (nI n))) 82 g (M 82 g ||| m9_tk (nI n))) 83 (fun s => if f ≤ s ∧ s ≤ g then M 83 s ||| m9_tk (nI n) else M 83 s)
theorem ct_X7_layChain (l : Launch) (G : k9_G) (M : k9_Mem) (n : Nat) {f g : Nat} (hfg : f ≤ g) (hg : g < 96) : k9_Cv l yX7_layChain wsX7_layChain rm_X7_layChain G M [.ref (k9_ga G 76), .int (nI n), .int (nI f), .int (nI g)] (m9_lc M n f g) := by
  refine k9_metV (own := RX7) (by decide +kernel) rfl rfl (Nat.le_of_ble_eq_true rfl) ?_
  intro p e s m args below meth c A Q X HR
  have ef : (nI f).toNatClampNeg = f := m9_cl (by omega)
  have eg : (nI g).toNatClampNeg = g := m9_cl (by omega)
  obtain ⟨N, hN⟩ : ∃ N, N = k9_st (k9_st M 81 f (M 81 f ||| m9_tk (nI n))) 82 g (M 82 g ||| m9_tk (nI n)) := ⟨_, rfl⟩
  have hN83 : N 83 = M 83 := by rw [hN, m9_st_ne _ _ _ (by decide), m9_st_ne _ _ _ (by decide)]
  obtain ⟨r, hr⟩ : ∃ r : Nat → Nat → Int32, ∀ i s, r i s = if f ≤ s ∧ s < i then M 83 s ||| m9_tk (nI n) else M 83 s := ⟨fun i s => if f ≤ s ∧ s < i then M 83 s ||| m9_tk (nI n) else M 83 s, fun _ _ => rfl⟩
  have loop : ∀ j, j ≤ g + 1 - f → k9_U p l e rm_X7_layChain s m args below meth c Q A G 5 0 0 (k9_sc N 83 (r (f + j))) 27 [(0, .ref (k9_ga G 76)), (1, .int (nI n)), (3, .int (nI g)), (4, .int (nI (f + j)))] [] := by
    refine m9_down (g + 1 - f) (fun j hj next => ?_)
    have hlt : nI g < nI (f + j) ↔ g < f + j := m9_lt (by omega) (by omega)
    have ej : (nI (f + j)).toNatClampNeg = f + j := m9_cl (by omega)
    have go : ¬ nI g < nI (f + j) → f + j ≤ g := fun c1 => by
      rcases Nat.lt_or_ge g (f + j) with q | q
      · exact absurd (hlt.mpr q) c1
      · exact q
    refine bk_X7_layChain_27 X (fun c1 => ?_) (fun c1 => ?_) (fun c1 => ?_)
    · have e1 : f + j = g + 1 := by have := hlt.mp c1; omega
      have e2 : k9_sc N 83 (r (f + j)) = m9_lc M n f g := by
        rw [m9_lc, ← hN, e1]
        congr 1
        funext s
        rw [hr]
        by_cases q : f ≤ s ∧ s ≤ g
        · rw [if_pos q, if_pos ⟨q.1, by omega⟩]
        · rw [if_neg q, if_neg (fun z => q ⟨z.1, by omega⟩)]
      rw [e2]
      exact HR 52 [] dX7_layChain_52
    · have := go c1
      exact m9_in (by omega) (by decide)
    · have c2 := go c1
      have h9 := next (by omega)
      have e3 : r (f + j) (f + j) = M 83 (f + j) := by rw [hr]; exact if_neg (fun z => by omega)
      have e4 : upd (r (f + j)) (f + j) (M 83 (f + j) ||| m9_tk (nI n)) = r (f + (j + 1)) := by
        funext s
        by_cases q : s = f + j
        · subst q
          rw [m9_upd_at, hr, if_pos ⟨by omega, by omega⟩]
        · rw [m9_upd_ne _ _ q, hr, hr]
          by_cases q2 : f ≤ s ∧ s < f + j
          · rw [if_pos q2, if_pos ⟨q2.1, by omega⟩]
          · rw [if_neg q2, if_neg (fun z => q2 ⟨z.1, by omega⟩)]
      rw [ej, k9_sc_eq, e3, m9_st_sc, nI_1]
      exact (show upd (r (f + j)) (f + j) (M 83 (f + j) ||| (1 : Int32) <<< (nI n &&& 31)) = r (f + (j + 1)) from e4) ▸ h9
  have h9 := loop 0 (by omega)
  have e5 : r (f + 0) = N 83 := by
    rw [hN83]
    funext s
    rw [hr]
    exact if_neg (fun z => by omega)
  rw [e5, m9_sc_same rfl, hN] at h9
  refine bk_X7_layChain_0 X (m9_in (by omega) (by decide)) (m9_in hg (by decide)) ?_
  have e6 : k9_st M 81 f (M 81 f ||| m9_tk (nI n)) 82 = M 82 := m9_st_ne _ _ _ (by decide)
  rw [ef, eg]
  exact h9
abbrev m9_one (x : Int32) (n : Nat) : Prop := (x >>> (nI n &&& 31)) &&& 1 = 1
/-- the chains of a note, after i steps -/
def m9_ln (M : k9_Mem) (n B : Nat) : Nat → k9_Mem × Option (Nat × Nat)
  | 0 => (M, none)
  | i + 1 => if m9_one (M 80 i) n then (match (m9_ln M n B i).2 with
      | none => ((m9_ln M n B i).1, some (i, i))
      | some (f, g) => if i - g ≤ B + 1 then ((m9_ln M n B i).1, some (f, i)) else (m9_lc (m9_ln M n B i).1 n f g, some (i, i)))
    else m9_ln M n B i
def m9_lnF (M : k9_Mem) (n B : Nat) : k9_Mem := match (m9_ln M n B 96).2 with
  | none => (m9_ln M n B 96).1
  | some (f, g) => m9_lc (m9_ln M n B 96).1 n f g
theorem m9_lc_ne (M : k9_Mem) (n f g : Nat) {k : Nat} (h1 : k ≠ 81) (h2 : k ≠ 82) (h3 : k ≠ 83) : m9_lc M n f g k = M k := by
  rw [m9_lc, k9_sc_ne _ _ h3, m9_st_ne _ _ _ h2, m9_st_ne _ _ _ h1]
theorem m9_ln_ne (M : k9_Mem) (n B : Nat) {k : Nat} (h1 : k ≠ 81) (h2 : k ≠ 82) (h3 : k ≠ 83) : ∀ i, (m9_ln M n B i).1 k = M k
  | 0 => rfl
  | i + 1 => by
    have ih := m9_ln_ne M n B h1 h2 h3 i
    unfold m9_ln
    by_cases c : m9_one (M 80 i) n
    · rw [if_pos c]
      match h : (m9_ln M n B i).2 with
      | none => exact ih
      | some (f, g) =>
        show (if i - g ≤ B + 1 then ((m9_ln M n B i).1, some (f, i)) else (m9_lc (m9_ln M n B i).1 n f g, some (i, i))).1 k = M k
        by_cases c2 : i - g ≤ B + 1
        · rw [if_pos c2]; exact ih
        · rw [if_neg c2]; exact (m9_lc_ne _ _ _ _ h1 h2 h3).trans ih
    · rw [if_neg c]; exact ih
/-- first and last stand in their order, before the step -/
theorem m9_ln_fg (M : k9_Mem) (n B : Nat) : ∀ i f g, (m9_ln M n B i).2 = some (f, g) → f ≤ g ∧ g < i
  | 0, f, g, h => by cases h
  | i + 1, f, g, h => by
    have ih := m9_ln_fg M n B i
    unfold m9_ln at h
    by_cases c : m9_one (M 80 i) n
    · rw [if_pos c] at h
      match h2 : (m9_ln M n B i).2 with
      | none =>
        rw [h2] at h
        cases h
        omega
      | some (f', g') =>
        have h3 := ih f' g' h2
        rw [h2] at h
        have h : (if i - g' ≤ B + 1 then ((m9_ln M n B i).1, some (f', i)) else (m9_lc (m9_ln M n B i).1 n f' g', some (i, i))).2 = some (f, g) := h
        by_cases c2 : i - g' ≤ B + 1
        · rw [if_pos c2] at h; cases h; omega
        · rw [if_neg c2] at h; cases h; omega
    · rw [if_neg c] at h
      have := ih f g h
      omega
/-- the place of first and last as the method keeps it -/
def m9_oI (o : Option (Nat × Nat)) : Int32 × Int32 := match o with
  | none => (-1, -1)
  | some (f, g) => (nI f, nI g)
theorem ct_X7_layChains (l : Launch) (G : k9_G) (M : k9_Mem) {n B : Nat} (hB : B < 1000) (hM : M 77 384 = nI B) : k9_Cv l yX7_layChains wsX7_layChains rm_X7_layChains G M [.ref (k9_ga G 76), .int (nI n)] (m9_lnF M n B) := by
  refine k9_metV (own := RX7) (by decide +kernel) rfl rfl (Nat.le_of_ble_eq_true rfl) ?_
  intro p e s m args below meth c A Q X HR
  have loop : ∀ i, i ≤ 96 → k9_U p l e rm_X7_layChains s m args below meth c Q A G 5 0 0 (m9_ln M n B i).1 7 [(0, .ref (k9_ga G 76)), (1, .int (nI n)), (2, .int (m9_oI (m9_ln M n B i).2).1), (3, .int (m9_oI (m9_ln M n B i).2).2), (4, .int (nI i))] [] := by
    refine m9_down 96 (fun i hi next => ?_)
    have ee : (nI i).toNatClampNeg = i := m9_cl (by omega)
    have e80 : (m9_ln M n B i).1 80 = M 80 := m9_ln_ne M n B (by decide) (by decide) (by decide) i
    have e77 : (m9_ln M n B i).1 77 384 = nI B := by rw [m9_ln_ne M n B (by decide) (by decide) (by decide) i, hM]
    have fg := m9_ln_fg M n B i
    obtain ⟨K, hK⟩ : ∃ K, K = m9_ln M n B i := ⟨_, rfl⟩
    have st : m9_ln M n B (i + 1) = if m9_one (M 80 i) n then (match K.2 with
      | none => (K.1, some (i, i))
      | some (f, g) => if i - g ≤ B + 1 then (K.1, some (f, i)) else (m9_lc K.1 n f g, some (i, i)))
      else K := by rw [hK]; rfl
    rw [st] at next
    have fin : i = 96 → m9_lnF M n B = match K.2 with
      | none => K.1
      | some (f, g) => m9_lc K.1 n f g := fun h => by rw [hK, h]; rfl
    rw [← hK] at e80 e77 fg ⊢
    match hK2 : K.2 with
    | none =>
      rw [hK2] at next fin
      refine bk_X7_layChains_7 (mv1 := M) (mv2 := M) X (fun c1 c2 => ?_) (fun c1 c2 => absurd rfl c2) (fun c1 c2 => absurd rfl c2) (fun c1 => m9_in (m9_go (N := 96) (by decide) hi c1) (by decide)) (fun c1 c2 => ?_) (fun c1 c2 c3 => ?_) (fun c1 c2 c3 => absurd rfl c3) (fun c1 c2 c3 => absurd rfl c3) (fun c1 c2 c3 => absurd rfl c3) (fun c1 c2 c3 => absurd rfl c3) (fun c1 c2 c3 => absurd rfl c3)
      · have hi2 := m9_ex (N := 96) (by decide) hi c1
        exact k9_memeq (fin hi2).symm (HR 94 [] dX7_layChains_94)
      · have h9 := next (m9_go (N := 96) (by decide) hi c1)
        rw [ee, e80] at c2
        rw [if_neg c2, hK2] at h9
        rw [nI_1]; exact h9
      · have h9 := next (m9_go (N := 96) (by decide) hi c1)
        rw [ee, e80] at c2
        rw [if_pos c2] at h9
        rw [nI_1]; exact h9
    | some (f, g) =>
      have b := fg f g hK2
      rw [hK2] at next fin
      have nf : ¬ nI f = -1 := fun z => absurd z (by
        intro z
        have q1 : (nI f).toInt = f := nI_toInt (by omega)
        rw [z] at q1
        have q2 : (-1 : Int32).toInt = -1 := by decide
        omega)
      have ni : ¬ nI i = -1 := fun z => absurd z (by
        intro z
        have q1 : (nI i).toInt = i := nI_toInt (by omega)
        rw [z] at q1
        have q2 : (-1 : Int32).toInt = -1 := by decide
        omega)
      have hle : nI i - nI g ≤ K.1 77 384 + 1 ↔ i - g ≤ B + 1 := by
        rw [e77, pk_sub (by omega), nI_1]
        exact m9_le (by omega) (by omega)
      refine bk_X7_layChains_7 (mv1 := m9_lc K.1 n f g) (mv2 := m9_lc K.1 n f g) X (fun c1 c2 => absurd c2 nf) (fun c1 c2 => ?_) (fun c1 c2 => ?_) (fun c1 => m9_in (m9_go (N := 96) (by decide) hi c1) (by decide)) (fun c1 c2 => ?_) (fun c1 c2 c3 => absurd c3 nf) (fun c1 c2 c3 c4 c5 => ?_) (fun c1 c2 c3 c4 c5 => absurd c5 nf) (fun c1 c2 c3 c4 => ?_) (fun c1 c2 c3 c4 c5 => ?_) (fun c1 c2 c3 c4 c5 => absurd c5 ni)
      · exact ct_X7_layChain l G K.1 n b.1 (by omega)
      · have hi2 := m9_ex (N := 96) (by decide) hi c1
        exact k9_memeq (fin hi2).symm (HR 94 [] dX7_layChains_94)
      · have h9 := next (m9_go (N := 96) (by decide) hi c1)
        rw [ee, e80] at c2
        rw [if_neg c2, hK2] at h9
        rw [nI_1]; exact h9
      · have h9 := next (m9_go (N := 96) (by decide) hi c1)
        rw [ee, e80] at c2
        have h9 : k9_U p l e rm_X7_layChains s m args below meth c Q A G 5 0 0 (if m9_one (M 80 i) n then (if i - g ≤ B + 1 then (K.1, some (f, i)) else (m9_lc K.1 n f g, some (i, i))) else K).1 7 [(0, .ref (k9_ga G 76)), (1, .int (nI n)), (2, .int (m9_oI (if m9_one (M 80 i) n then (if i - g ≤ B + 1 then (K.1, some (f, i)) else (m9_lc K.1 n f g, some (i, i))) else K).2).1), (3, .int (m9_oI (if m9_one (M 80 i) n then (if i - g ≤ B + 1 then (K.1, some (f, i)) else (m9_lc K.1 n f g, some (i, i))) else K).2).2), (4, .int (nI (i + 1)))] [] := h9
        rw [if_pos c2, if_pos (hle.mp c4)] at h9
        rw [nI_1]; exact h9
      · exact ct_X7_layChain l G K.1 n b.1 (by have := m9_go (N := 96) (by decide) hi c1; omega)
      · have h9 := next (m9_go (N := 96) (by decide) hi c1)
        rw [ee, e80] at c2
        have h9 : k9_U p l e rm_X7_layChains s m args below meth c Q A G 5 0 0 (if m9_one (M 80 i) n then (if i - g ≤ B + 1 then (K.1, some (f, i)) else (m9_lc K.1 n f g, some (i, i))) else K).1 7 [(0, .ref (k9_ga G 76)), (1, .int (nI n)), (2, .int (m9_oI (if m9_one (M 80 i) n then (if i - g ≤ B + 1 then (K.1, some (f, i)) else (m9_lc K.1 n f g, some (i, i))) else K).2).1), (3, .int (m9_oI (if m9_one (M 80 i) n then (if i - g ≤ B + 1 then (K.1, some (f, i)) else (m9_lc K.1 n f g, some (i, i))) else K).2).2), (4, .int (nI (i + 1)))] [] := h9
        rw [if_pos c2, if_neg (fun z => c4 (hle.mpr z))] at h9
        rw [nI_1]; exact h9
  exact bk_X7_layChains_0 X (loop 0 (by decide))
