/-! The reference: saving, cutting. -/
/-- the saved rows: F of them -/
def m9_sv1 (M : k9_Mem) (F : Nat) : k9_Mem := k9_st (k9_sc M 78 (fb_put (M 78) (M 77) (578 * F) 578)) 76 1 (nI (F + 1))
def m9_sv0 (M : k9_Mem) : k9_Mem := k9_st (k9_sc M 78 (m9_fl (fun j => M 78 (j + 578)) (M 78) 2890)) 76 1 (nI 5)
def m9_save (M : k9_Mem) (F : Nat) : k9_Mem := if F < 6 then m9_sv1 M F else m9_sv1 (m9_sv0 M) 5
theorem m9_sv1_ne (M : k9_Mem) (F : Nat) {k : Nat} (h1 : k ≠ 76) (h2 : k ≠ 78) : m9_sv1 M F k = M k := by rw [m9_sv1, m9_st_ne _ _ _ h1, k9_sc_ne _ _ h2]
theorem m9_sv0_ne (M : k9_Mem) {k : Nat} (h1 : k ≠ 76) (h2 : k ≠ 78) : m9_sv0 M k = M k := by rw [m9_sv0, m9_st_ne _ _ _ h1, k9_sc_ne _ _ h2]
theorem m9_save_ne (M : k9_Mem) (F : Nat) {k : Nat} (h1 : k ≠ 76) (h2 : k ≠ 78) : m9_save M F k = M k := by
  unfold m9_save
  by_cases c : F < 6
  · rw [if_pos c, m9_sv1_ne M F h1 h2]
  · rw [if_neg c, m9_sv1_ne _ _ h1 h2, m9_sv0_ne M h1 h2]
theorem m9_save_76 (M : k9_Mem) (F : Nat) {j : Nat} (h : j ≠ 1) : m9_save M F 76 j = M 76 j := by
  unfold m9_save m9_sv1 m9_sv0
  by_cases c : F < 6
  · rw [if_pos c, m9_st_at_ne _ _ h, k9_sc_ne _ _ (by decide)]
  · rw [if_neg c, m9_st_at_ne _ _ h, k9_sc_ne _ _ (by decide), m9_st_at_ne _ _ h, k9_sc_ne _ _ (by decide)]
theorem ct_X7_save (l : Launch) (G : k9_G) (M : k9_Mem) {F : Nat} (hF : F ≤ 6) (hM : M 76 1 = nI F) : k9_Cv l yX7_save wsX7_save rm_X7_save G M [.ref (k9_ga G 76)] (m9_save M F) := by
  refine k9_metV (own := RX7) (by decide +kernel) rfl rfl (Nat.le_of_ble_eq_true rfl) ?_
  intro p e s m args below meth c A Q X HR
  have copy : ∀ (N : k9_Mem) (F' : Nat), F' < 6 → N 76 1 = nI F' → m9_sv1 N F' = m9_save M F → k9_U p l e rm_X7_save s m args below meth c Q A G 2 0 0 N 54 [(0, .ref (k9_ga G 76)), (1, .int 0)] [] := by
    intro N F' hF' hN out
    have loop : ∀ i, i ≤ 578 → k9_U p l e rm_X7_save s m args below meth c Q A G 2 0 0 (k9_sc N 78 (fb_put (N 78) (N 77) (578 * F') i)) 54 [(0, .ref (k9_ga G 76)), (1, .int (nI i))] [] := by
      refine m9_down 578 (fun i hi next => ?_)
      have ee : (nI i).toNatClampNeg = i := m9_cl (by omega)
      have e76 : k9_sc N 78 (fb_put (N 78) (N 77) (578 * F') i) 76 1 = nI F' := by rw [k9_sc_ne _ _ (by decide), hN]
      have e1 : (578 : Int32) * nI F' + nI i = nI (578 * F' + i) := by rw [show (578 : Int32) = nI 578 from rfl, pk_mul, nI_add]
      refine bk_X7_save_54 X (fun c1 => ?_) (fun c1 => m9_in (m9_go (N := 578) (by decide) hi c1) (by decide)) (fun c1 => ?_) (fun c1 => ?_)
      · have hi2 := m9_ex (N := 578) (by decide) hi c1
        subst hi2
        rw [e76, nI_1]
        exact k9_memeq out (HR 98 [] dX7_save_98)
      · have := m9_go (N := 578) (by decide) hi c1
        rw [e76, e1]; exact m9_in (by omega) (by decide)
      · have h9 := next (m9_go (N := 578) (by decide) hi c1)
        rw [e76, e1, ee, m9_cl (by omega), m9_st_sc, k9_sc_ne _ _ (by decide), fb_put_succ, nI_1]
        exact h9
    have h9 := loop 0 (by decide)
    rw [fb_put_0, m9_sc_same rfl] at h9
    exact h9
  have heq : M 76 1 = (6 : Int32) ↔ F = 6 := by rw [hM]; exact m9_eq (b := 6) (by omega) (by decide)
  refine bk_X7_save_0 X (fun c1 => ?_) (fun c1 => ?_)
  · have h6 : ¬ F = 6 := fun z => c1 (heq.mpr z)
    exact copy M F (by omega) hM (by rw [m9_save, if_pos (by omega)])
  · have h6 := heq.mp c1
    have loop : ∀ i, i ≤ 2890 → k9_U p l e rm_X7_save s m args below meth c Q A G 2 0 0 (k9_sc M 78 (m9_fl (fun j => M 78 (j + 578)) (M 78) i)) 13 [(0, .ref (k9_ga G 76)), (1, .int (nI (i + 578)))] [] := by
      refine m9_down 2890 (fun i hi next => ?_)
      have ee : (nI (i + 578)).toNatClampNeg = i + 578 := m9_cl (by omega)
      have e1 : nI (i + 578) - (578 : Int32) = nI i := by
        rw [show (578 : Int32) = nI 578 from rfl, pk_sub (by omega), Nat.add_sub_cancel]
      have e2 : (nI i).toNatClampNeg = i := m9_cl (by omega)
      have hle : (3468 : Int32) ≤ nI (i + 578) ↔ 3468 ≤ i + 578 := m9_le (a := 3468) (by decide) (by omega)
      have go : ¬ (3468 : Int32) ≤ nI (i + 578) → i < 2890 := fun c2 => by
        rcases Nat.lt_or_ge i 2890 with q | q
        · exact q
        · exact absurd (hle.mpr (by omega)) c2
      refine bk_X7_save_13 X (fun c2 => ?_) (fun c2 => ?_) (fun c2 => ?_) (fun c2 => ?_)
      · have hi2 : i = 2890 := by have := hle.mp c2; omega
        subst hi2
        have e5 : k9_sc M 78 (m9_fl (fun j => M 78 (j + 578)) (M 78) 2890) 76 1 - 1 = nI 5 := by rw [k9_sc_ne _ _ (by decide), hM, h6]; decide
        rw [e5]
        refine copy (m9_sv0 M) 5 (by decide) ?_ ?_
        · rw [m9_sv0, m9_st_at, m9_upd_at]
        · rw [m9_save, if_neg (by omega)]
      · have := go c2
        exact m9_in (by omega) (by decide)
      · have := go c2
        rw [e1]; exact m9_in (by omega) (by decide)
      · have h9 := next (go c2)
        rw [e1, e2, ee, m9_st_sc, k9_sc_eq, m9_fl_out (by omega), m9_fl_succ (fun j => M 78 (j + 578)), nI_1]
        rw [show i + 1 + 578 = i + 578 + 1 by omega] at h9
        exact h9
    have h9 := loop 0 (by decide)
    rw [m9_fl_0, m9_sc_same rfl] at h9
    exact h9
/-- the refusal of a range -/
def m9_rfr (z a b : Int32) : Int32 := if z = 0 ∨ ¬ m9_wn a 0 95 ∨ ¬ m9_wn b 0 95 then 1 else if b < a then 2 else 0
theorem ct_X7_refusedRange (l : Launch) (G : k9_G) (M : k9_Mem) (z a b : Int32) : k9_Ci l yX7_refusedRange wsX7_refusedRange rm_X7_refusedRange G M [.int z, .int a, .int b] (m9_rfr z a b) M := by
  refine k9_metI (own := RX7) (by decide +kernel) rfl rfl (Nat.le_of_ble_eq_true rfl) rfl ?_
  intro p e s m args below meth c A Q X HR
  refine bk_X7_refusedRange_0 X (fun c1 => ?_) (fun c1 => ct_X7_isStep l G M a) (fun c1 c2 => ?_) (fun c1 c2 => ct_X7_isStep l G M b) (fun c1 c2 c3 c4 => ?_) (fun c1 c2 c3 c4 => ?_) (fun c1 c2 c3 => ?_)
  · exact k9_eq rfl (by rw [m9_rfr, if_pos (Or.inl c1)]) (HR 32 [] dX7_refusedRange_32)
  · exact k9_eq rfl (by rw [m9_rfr, if_pos (Or.inr (Or.inl (m9_bi_0 c2)))]) (HR 32 [] dX7_refusedRange_32)
  · exact k9_eq rfl (by rw [m9_rfr, if_neg (fun q => q.elim c1 (fun q => q.elim (fun q => q (m9_bi_1 c2)) (fun q => q (m9_bi_1 c3)))), if_neg (m9_le_n c4)]) (HR 32 [] dX7_refusedRange_32)
  · exact k9_eq rfl (by rw [m9_rfr, if_neg (fun q => q.elim c1 (fun q => q.elim (fun q => q (m9_bi_1 c2)) (fun q => q (m9_bi_1 c3)))), if_pos (m9_nle c4)]) (HR 32 [] dX7_refusedRange_32)
  · exact k9_eq rfl (by rw [m9_rfr, if_pos (Or.inr (Or.inr (m9_bi_0 c3)))]) (HR 32 [] dX7_refusedRange_32)
theorem ct_X7_shifted (l : Launch) (G : k9_G) (M : k9_Mem) (a b : Int32) : k9_Ci l yX7_shifted wsX7_shifted rm_X7_shifted G M [.int a, .int b] (m9_mv a b) M := by
  refine k9_metI (own := RX7) (by decide +kernel) rfl rfl (Nat.le_of_ble_eq_true rfl) rfl ?_
  intro p e s m args below meth c A Q X HR
  refine bk_X7_shifted_0 X (fun c1 => ?_) (fun c1 => ?_)
  · exact k9_eq rfl (by rw [m9_mv, if_neg (m9_le_n c1)]) (HR 14 [] dX7_shifted_14)
  · exact k9_eq rfl (by rw [m9_mv, if_pos (m9_nle c1)]) (HR 14 [] dX7_shifted_14)
theorem ct_X7_thrown (l : Launch) (G : k9_G) (M : k9_Mem) : k9_Ci l yX7_thrown wsX7_thrown rm_X7_thrown G M [.ref (k9_ga G 76)] (M 76 5) M := by
  refine k9_metI (own := RX7) (by decide +kernel) rfl rfl (Nat.le_of_ble_eq_true rfl) rfl ?_
  intro p e s m args below meth c A Q X HR
  exact bk_X7_thrown_0 X (HR 4 [] dX7_thrown_4)
/-- the row with a set of steps cut on a track -/
def m9_zc (Z : Nat → Int32) (x : Int32) (P : Nat → Bool) : Nat → Int32 := fun j => if j < 96 then (if P j then Z j ||| x else Z j) else if j < 192 then (if P (j - 96) then Z j &&& (x ^^^ (-1)) else Z j) else Z j
def m9_zn (Z : Nat → Int32) (x : Int32) (P : Nat → Bool) : Int32 := m9_sum (fun s => if P s then m9_bi (Z s &&& x = 0) else 0) 96
theorem m9_sum_out {f g : Nat → Int32} {i : Nat} : ∀ {n : Nat}, n ≤ i → (∀ k, k ≠ i → f k = g k) → m9_sum f n = m9_sum g n := fun {n} h h2 => m9_sum_c (fun k hk => h2 k (by omega))
theorem m9_sum_one {f g : Nat → Int32} {i : Nat} {v : Int32} (h2 : ∀ k, k ≠ i → f k = g k) (hv : f i = g i + v) : ∀ {n : Nat}, i < n → m9_sum f n = m9_sum g n + v
  | 0, h => absurd h (Nat.not_lt_zero i)
  | n + 1, h => by
    rw [m9_sum_s, m9_sum_s]
    by_cases c : i = n
    · subst c
      rw [m9_sum_out (Nat.le_refl i) h2, hv, Int32.add_assoc]
    · rw [m9_sum_one h2 hv (n := n) (by omega), h2 n (fun z => c z.symm), Int32.add_assoc, Int32.add_assoc, Int32.add_comm v]
theorem m9_tk_nz (t : Int32) : m9_tk t ≠ 0 := by
  obtain ⟨n, hn, rfl⟩ := wb_of32 t
  have key : ∀ m : Nat, m < 32 → (1 : Int32) <<< nI m ≠ 0 := by decide +kernel
  unfold m9_tk
  rw [show (31 : Int32) = nI (2 ^ 5 - 1) from rfl, fa_mask]
  exact key _ (Nat.mod_lt _ (by decide))
theorem m9_or_and (a x : Int32) : (a ||| x) &&& x = x := by
  apply m9_b_ext
  intro i _
  rw [m9_b_and, m9_b_or]; cases m9_b a i <;> cases m9_b x i <;> rfl
theorem m9_or_or (a x : Int32) : (a ||| x) ||| x = a ||| x := by
  apply m9_b_ext
  intro i _
  rw [m9_b_or, m9_b_or]; cases m9_b a i <;> cases m9_b x i <;> rfl
theorem m9_an_an (a x : Int32) : (a &&& x) &&& x = a &&& x := by
  apply m9_b_ext
  intro i _
  rw [m9_b_and, m9_b_and]; cases m9_b a i <;> cases m9_b x i <;> rfl
/-- one more step is cut -/
def m9_pu (P : Nat → Bool) (i : Nat) : Nat → Bool := fun s => P s || decide (s = i)
theorem m9_zc_hi (Z : Nat → Int32) (x : Int32) (P : Nat → Bool) {i : Nat} (hi : i < 96) : m9_zc Z x P (96 + i) = if P i then Z (96 + i) &&& (x ^^^ (-1)) else Z (96 + i) := by
  unfold m9_zc
  rw [if_neg (show ¬ 96 + i < 96 by omega), if_pos (show 96 + i < 192 by omega), show 96 + i - 96 = i by omega]
theorem m9_zc_lo (Z : Nat → Int32) (x : Int32) (P : Nat → Bool) {i : Nat} (hi : i < 96) : m9_zc Z x P i = if P i then Z i ||| x else Z i := by
  unfold m9_zc
  rw [if_pos hi]
theorem m9_zc_pu (Z : Nat → Int32) (x : Int32) (P : Nat → Bool) {i : Nat} (hi : i < 96) : upd (upd (m9_zc Z x P) i (m9_zc Z x P i ||| x)) (96 + i) (m9_zc Z x P (96 + i) &&& (x ^^^ (-1))) = m9_zc Z x (m9_pu P i) := by
  funext j
  by_cases c1 : j = 96 + i
  · subst c1
    rw [m9_upd_at]
    rw [m9_zc_hi Z x P hi, m9_zc_hi Z x (m9_pu P i) hi, m9_pu, decide_eq_true (rfl : i = i), Bool.or_true, if_pos rfl]
    by_cases c : P i = true
    · rw [if_pos c, m9_an_an]
    · rw [if_neg c]
  · rw [m9_upd_ne _ _ c1]
    by_cases c2 : j = i
    · subst c2
      rw [m9_upd_at]
      rw [m9_zc_lo Z x P hi, m9_zc_lo Z x (m9_pu P j) hi, m9_pu, decide_eq_true (rfl : j = j), Bool.or_true, if_pos rfl]
      by_cases c : P j = true
      · rw [if_pos c, m9_or_or]
      · rw [if_neg c]
    · rw [m9_upd_ne _ _ c2]
      have e1 : m9_pu P i j = P j := by rw [m9_pu, decide_eq_false c2, Bool.or_false]
      have e2 : 96 ≤ j → m9_pu P i (j - 96) = P (j - 96) := fun h => by rw [m9_pu, decide_eq_false (by omega), Bool.or_false]
      unfold m9_zc
      by_cases c3 : j < 96
      · rw [if_pos c3, if_pos c3, e1]
      · rw [if_neg c3, if_neg c3, e2 (by omega)]
theorem m9_zn_pu (Z : Nat → Int32) (t : Int32) (P : Nat → Bool) {i : Nat} (hi : i < 96) : m9_zn Z (m9_tk t) (m9_pu P i) = m9_zn Z (m9_tk t) P + m9_bi (m9_zc Z (m9_tk t) P i &&& m9_tk t = 0) := by
  refine m9_sum_one (fun k hk => ?_) ?_ hi
  · rw [m9_pu, decide_eq_false hk, Bool.or_false]
  · rw [m9_pu, decide_eq_true (rfl : i = i), Bool.or_true, if_pos rfl]
    unfold m9_zc
    rw [if_pos hi]
    by_cases c : P i = true
    · rw [if_pos c, if_pos c, m9_or_and, m9_bi_f (m9_tk_nz t), m9_add0]
    · rw [if_neg c, if_neg c, show (0 : Int32) + m9_bi (Z i &&& m9_tk t = 0) = m9_bi (Z i &&& m9_tk t = 0) from by rw [Int32.add_comm, m9_add0]]
theorem ct_X7_punchAt (l : Launch) (G : k9_G) (M : k9_Mem) (Z : Nat → Int32) (P : Nat → Bool) {i : Nat} (hi : i < 96) (t : Int32) : k9_Ci l yX7_punchAt wsX7_punchAt rm_X7_punchAt G (k9_sc M 77 (m9_zc Z (m9_tk t) P)) [.ref (k9_ga G 76), .int (nI i), .int t] (m9_bi (m9_zc Z (m9_tk t) P i &&& m9_tk t = 0)) (k9_sc M 77 (m9_zc Z (m9_tk t) (m9_pu P i))) := by
  refine k9_metI (own := RX7) (by decide +kernel) rfl rfl (Nat.le_of_ble_eq_true rfl) rfl ?_
  intro p e s m args below meth c A Q X HR
  have e0 : (0 : Int32) + nI i = nI i := by rw [show (0 : Int32) = nI 0 from rfl, nI_add, Nat.zero_add]
  have e1 : (96 : Int32) + nI i = nI (96 + i) := nI_add 96 i
  have e2 : (nI i).toNatClampNeg = i := m9_cl (by omega)
  have e3 : (nI (96 + i)).toNatClampNeg = 96 + i := m9_cl (by omega)
  obtain ⟨N, hN⟩ : ∃ N, N = k9_sc M 77 (m9_zc Z (m9_tk t) P) := ⟨_, rfl⟩
  have hN7 : N 77 = m9_zc Z (m9_tk t) P := by rw [hN, k9_sc_eq]
  have em : k9_st (k9_st N 77 i (N 77 i ||| m9_tk t)) 77 (96 + i) (k9_st N 77 i (N 77 i ||| m9_tk t) 77 (96 + i) &&& (m9_tk t ^^^ (-1))) = k9_sc M 77 (m9_zc Z (m9_tk t) (m9_pu P i)) := by
    rw [m9_st_at_ne _ _ (show 96 + i ≠ i by omega), hN7, ← m9_zc_pu Z (m9_tk t) P hi, hN, m9_st_sc, m9_st_sc]
  rw [← em, ← hN7] at HR
  rw [← hN]
  have i1 : vp_in (0 + nI i) 578 := by rw [e0]; exact m9_in (by omega) (by decide)
  have i2 : vp_in ((96 : Int32) + nI i) 578 := by rw [e1]; exact m9_in (by omega) (by decide)
  refine bk_X7_punchAt_0 X i1 (fun c1 => i2) (fun c1 => ?_) (fun c1 => i2) (fun c1 => ?_)
  · rw [e0, e2] at c1
    have c1 : ¬ N 77 i &&& m9_tk t = 0 := c1
    have h9 := HR 53 [] dX7_punchAt_53
    rw [m9_bi_f c1] at h9
    rw [e0, e1, e2, e3]
    exact h9
  · rw [e0, e2] at c1
    have c1 : N 77 i &&& m9_tk t = 0 := c1
    have h9 := HR 53 [] dX7_punchAt_53
    rw [m9_bi_t c1] at h9
    rw [e0, e1, e2, e3]
    exact h9
/-- the steps of a chain that are cut: those before a, then also the last one -/
def m9_pa (f B a : Nat) : Nat → Bool := fun s => decide (f ≤ s ∧ s < f + a ∧ (s - f) % (B + 1) = 0)
def m9_pe (f n B : Nat) : Nat → Bool := fun s => decide (m9_cs f n B s)
theorem m9_mul_lt {u w b : Nat} (h : u * b < w * b) : u + 1 ≤ w := Nat.lt_of_mul_lt_mul_right h
theorem m9_pa_s {f B a : Nat} (ha : a % (B + 1) = 0) : m9_pu (m9_pa f B a) (f + a) = m9_pa f B (a + (B + 1)) := by
  funext s
  unfold m9_pu m9_pa
  rw [← Bool.decide_or]
  refine decide_eq_decide.mpr ⟨fun h => ?_, fun h => ?_⟩
  · rcases h with h | h
    · exact ⟨h.1, by omega, h.2.2⟩
    · subst h; exact ⟨by omega, by omega, by rw [Nat.add_sub_cancel_left]; exact ha⟩
  · by_cases c : s < f + a
    · exact Or.inl ⟨h.1, c, h.2.2⟩
    · refine Or.inr ?_
      obtain ⟨h1, h2, h3⟩ := h
      obtain ⟨u, hu⟩ := Nat.dvd_of_mod_eq_zero h3
      obtain ⟨w, hw⟩ := Nat.dvd_of_mod_eq_zero ha
      have h4 : (B + 1) * u < (B + 1) * (w + 1) := by rw [Nat.mul_add, ← hu, ← hw, Nat.mul_one]; omega
      have h5 : (B + 1) * w ≤ (B + 1) * u := by rw [← hu, ← hw]; omega
      have h6 := Nat.lt_of_mul_lt_mul_left h4
      have h7 := Nat.le_of_mul_le_mul_left h5 (Nat.succ_pos B)
      have : u = w := by omega
      rw [this, ← hw] at hu
      omega
theorem m9_pa_e {f n B a : Nat} (hn : 1 ≤ n) (ha : a % (B + 1) = 0) (h1 : n ≤ a) (h2 : a < n + (B + 1)) : m9_pu (m9_pa f B a) (f + n - 1) = m9_pe f n B := by
  funext s
  unfold m9_pu m9_pa m9_pe
  rw [← Bool.decide_or]
  refine decide_eq_decide.mpr ⟨fun h => ?_, fun h => ?_⟩
  · rcases h with h | h
    · obtain ⟨g1, g2, g3⟩ := h
      obtain ⟨u, hu⟩ := Nat.dvd_of_mod_eq_zero g3
      obtain ⟨w, hw⟩ := Nat.dvd_of_mod_eq_zero ha
      have h4 : (B + 1) * u < (B + 1) * w := by rw [← hu, ← hw]; omega
      have h6 := Nat.lt_of_mul_lt_mul_left h4
      have h7 : (B + 1) * (u + 1) ≤ (B + 1) * w := Nat.mul_le_mul_left _ h6
      rw [Nat.mul_add, ← hu, ← hw, Nat.mul_one] at h7
      exact ⟨g1, by omega, Or.inl g3⟩
    · subst h; exact ⟨by omega, by omega, Or.inr (by omega)⟩
  · obtain ⟨g1, g2, g3⟩ := h
    rcases g3 with g3 | g3
    · exact Or.inl ⟨g1, by omega, g3⟩
    · exact Or.inr (by omega)
theorem m9_pa_0 (f B : Nat) : m9_pa f B 0 = fun _ => false := by
  funext s
  exact decide_eq_false (fun z => by have := z.1; have := z.2.1; omega)
theorem m9_zc_0 (Z : Nat → Int32) (x : Int32) : m9_zc Z x (fun _ => false) = Z := by
  funext j
  unfold m9_zc
  simp
theorem m9_zn_0 (Z : Nat → Int32) (x : Int32) : ∀ n, m9_sum (fun s => if (fun _ => false : Nat → Bool) s then m9_bi (Z s &&& x = 0) else 0) n = 0
  | 0 => rfl
  | n + 1 => by rw [m9_sum_s, m9_zn_0 Z x n]; simp
def m9_tkn (a : Int32) : Int32 := if a = -1 then 2 else a + 3
theorem ct_X7_punchChain (l : Launch) (G : k9_G) (M : k9_Mem) (v : Int32) {f n B : Nat} (hn : 1 ≤ n) (hfn : f + n ≤ 96) (hB : B < 1000) (hM : M 77 384 = nI B) : k9_Ci l yX7_punchChain wsX7_punchChain rm_X7_punchChain G M [.ref (k9_ga G 76), .int v, .int (nI f), .int (nI n)] (m9_zn (M 77) (m9_tk (m9_tkn v)) (m9_pe f n B)) (k9_sc M 77 (m9_zc (M 77) (m9_tk (m9_tkn v)) (m9_pe f n B))) := by
  refine k9_metI (own := RX7) (by decide +kernel) rfl rfl (Nat.le_of_ble_eq_true rfl) rfl ?_
  intro p e s m args below meth c A Q X HR
  obtain ⟨t, ht⟩ : ∃ t, t = m9_tkn v := ⟨_, rfl⟩
  rw [← ht] at HR
  have loop : ∀ k a, n - a ≤ k → a % (B + 1) = 0 → a < n + (B + 1) → k9_U p l e rm_X7_punchChain s m args below meth c Q A G 7 0 0 (k9_sc M 77 (m9_zc (M 77) (m9_tk t) (m9_pa f B a))) 20 [(0, .ref (k9_ga G 76)), (2, .int (nI f)), (3, .int (nI n)), (4, .int t), (5, .int (m9_zn (M 77) (m9_tk t) (m9_pa f B a))), (6, .int (nI a))] [] := by
    intro k
    induction k with
    | zero =>
      intro a h1 h2 h3
      have hle : nI n ≤ nI a := (m9_le (by omega) (by omega)).mpr (by omega)
      have e1 : nI f + nI n - 1 = nI (f + n - 1) := by rw [nI_add, m9_sub1 (by omega)]
      have ep := m9_pa_e (f := f) hn h2 (by omega) h3
      refine bk_X7_punchChain_20 (rv1 := m9_bi (m9_zc (M 77) (m9_tk t) (m9_pa f B a) (f + n - 1) &&& m9_tk t = 0)) (mv1 := k9_sc M 77 (m9_zc (M 77) (m9_tk t) (m9_pe f n B))) (rv2 := 0) (mv2 := M) X (fun c1 => ?_) (fun c1 => ?_) (fun c1 => absurd hle c1) (fun c1 => absurd hle c1)
      · rw [e1, ← ep]; exact ct_X7_punchAt l G M (M 77) _ (by omega) t
      · have e2 := m9_zn_pu (M 77) t (m9_pa f B a) (i := f + n - 1) (by omega)
        rw [ep] at e2
        rw [← e2]
        exact HR 73 [] dX7_punchChain_73
    | succ k ih =>
      intro a h1 h2 h3
      rcases Nat.lt_or_ge a n with q | q
      · have hle : ¬ nI n ≤ nI a := fun z => by have := (m9_le (by omega) (by omega)).mp z; omega
        have e1 : nI f + nI a = nI (f + a) := nI_add f a
        have ep := m9_pa_s (f := f) h2
        have e2 := m9_zn_pu (M 77) t (m9_pa f B a) (i := f + a) (by omega)
        rw [ep] at e2
        have e3 : k9_sc M 77 (m9_zc (M 77) (m9_tk t) (m9_pa f B (a + (B + 1)))) 77 384 = nI B := by
          rw [k9_sc_eq]
          unfold m9_zc
          rw [if_neg (by decide), if_neg (by decide), hM]
        refine bk_X7_punchChain_20 (rv1 := 0) (mv1 := M) (rv2 := m9_bi (m9_zc (M 77) (m9_tk t) (m9_pa f B a) (f + a) &&& m9_tk t = 0)) (mv2 := k9_sc M 77 (m9_zc (M 77) (m9_tk t) (m9_pa f B (a + (B + 1))))) X (fun c1 => absurd c1 hle) (fun c1 => absurd c1 hle) (fun c1 => ?_) (fun c1 => ?_)
        · rw [e1, ← ep]; exact ct_X7_punchAt l G M (M 77) _ (by omega) t
        · have h9 := ih (a + (B + 1)) (by omega) (by rw [Nat.add_mod_right]; exact h2) (by omega)
          rw [← e2, e3, nI_1, nI_add]
          exact h9
      · exact (by
          have hle : nI n ≤ nI a := (m9_le (by omega) (by omega)).mpr (by omega)
          have e1 : nI f + nI n - 1 = nI (f + n - 1) := by rw [nI_add, m9_sub1 (by omega)]
          have ep := m9_pa_e (f := f) hn h2 (by omega) h3
          refine bk_X7_punchChain_20 (rv1 := m9_bi (m9_zc (M 77) (m9_tk t) (m9_pa f B a) (f + n - 1) &&& m9_tk t = 0)) (mv1 := k9_sc M 77 (m9_zc (M 77) (m9_tk t) (m9_pe f n B))) (rv2 := 0) (mv2 := M) X (fun c1 => ?_) (fun c1 => ?_) (fun c1 => absurd hle c1) (fun c1 => absurd hle c1)
          · rw [e1, ← ep]; exact ct_X7_punchAt l G M (M 77) _ (by omega) t
          · have e2 := m9_zn_pu (M 77) t (m9_pa f B a) (i := f + n - 1) (by omega)
            rw [ep] at e2
            rw [← e2]
            exact HR 73 [] dX7_punchChain_73)
  have h9 := loop n 0 (by omega) (Nat.zero_mod _) (by omega)
  rw [m9_pa_0, m9_zc_0, m9_sc_same rfl, show m9_zn (M 77) (m9_tk t) (fun _ => false) = 0 from m9_zn_0 _ _ 96] at h9
  refine bk_X7_punchChain_0 X (fun c1 => ?_) (fun c1 => ?_)
  · have e4 : t = v + 3 := by rw [ht, m9_tkn, if_neg c1]
    rw [← e4]; exact h9
  · have e4 : t = 2 := by rw [ht, m9_tkn, if_pos c1]
    rw [← e4]; exact h9
