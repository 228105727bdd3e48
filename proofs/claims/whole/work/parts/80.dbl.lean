/-! Contracts with doubles. -/
def m9_shr (r a : Int32) : UInt64 := if a = 0 then FP.dconst0 else FP.ddiv (FP.i2d r) (FP.i2d a)
abbrev m9_shOk (r a : Int32) : Prop := ∃ x y : Nat, r = nI x ∧ a = nI y ∧ x ≤ y ∧ y < 100000
/-- 0, or a double from 2^-123 on up to 1 -/
abbrev m9_isU (x : UInt64) : Prop := x = FP.dconst0 ∨ ∃ e t, 900 ≤ e ∧ e ≤ 1023 ∧ t < 4503599627370496 ∧ x = fd_x e t
theorem m9_shr_U {r a : Int32} (h : m9_shOk r a) : m9_isU (m9_shr r a) := by
  obtain ⟨x, y, rfl, rfl, h1, h2⟩ := h
  unfold m9_shr
  by_cases c : nI y = 0
  · rw [if_pos c]; exact Or.inl rfl
  · rw [if_neg c]
    have hy : y ≠ 0 := fun z => c (by rw [z]; rfl)
    rcases Nat.eq_zero_or_pos x with q | q
    · subst q
      exact Or.inl (fd_share0 (by omega) (by omega))
    · exact Or.inr (fd_share q h1 (by omega))
theorem m9_isU_64 {x : UInt64} (h : m9_isU x) : vf_n64 x := by
  rcases h with rfl | ⟨e, t, h1, h2, h3, rfl⟩
  · exact fd_n64 (by decide)
  · exact fd_x_64 (by omega) h3
theorem fd_ceq (a : Int) : compare a a = .eq := by
  simp only [compare, compareOfLessAndEq]
  simp
theorem m9_isU_eq {x : UInt64} (h : m9_isU x) : FP.dcmp x x = some .eq := by
  rcases h with rfl | ⟨e, t, h1, h2, h3, rfl⟩
  · decide +kernel
  · show FP.Core.order (FP.Core.decode FP.Core.b64 (fd_x e t).toNat) (FP.Core.decode FP.Core.b64 (fd_x e t).toNat) = _
    rw [fd_x_dec (by omega) (by omega) h3]
    unfold FP.Core.order
    simp only []
    rw [fd_ceq]
theorem ct_X6_rightShare (l : Launch) (G : k9_G) (M : k9_Mem) (h : m9_shOk (m9_same M 59 6) (m9_bin (M 7) 2097150)) : k9_Cd l yX6_rightShare wsX6_rightShare rm_X6_rightShare G M [.ref (k9_ga G 0)] (m9_shr (m9_same M 59 6) (m9_bin (M 7) 2097150)) M := by
  refine k9_metD (own := RX6) (by decide +kernel) rfl rfl (Nat.le_of_ble_eq_true rfl) ?_
  intro p e s m args below meth c A Q X HR
  have hU := m9_isU_64 (m9_shr_U h)
  refine bk_X6_rightShare_0 X (ct_X0_noteCount l G M (by decide)) (fun c1 => ct_X6_rightNotes l G M) (fun c1 => ?_) (fun c1 => ?_) (fun c1 => ?_)
  · rw [m9_shr, if_neg c1] at hU; exact hU
  · have h9 := HR 27 [] dX6_rightShare_27
    rw [m9_shr, if_neg c1] at h9; exact h9
  · have h9 := HR 27 [] dX6_rightShare_27
    rw [m9_shr, if_pos c1] at h9; exact h9
theorem ct_X6_tuneShare (l : Launch) (G : k9_G) (M : k9_Mem) (h : m9_shOk (m9_same M 59 6) (m9_bin (M 7) 2097150)) : k9_Cd l yX6_tuneShare wsX6_tuneShare rm_X6_tuneShare G M [.ref (k9_ga G 0)] (m9_shr (m9_same M 59 6) (m9_bin (M 7) 2097150)) M := by
  refine k9_metD (own := RX6) (by decide +kernel) rfl rfl (Nat.le_of_ble_eq_true rfl) ?_
  intro p e s m args below meth c A Q X HR
  exact bk_X6_tuneShare_0 X (ct_X6_rightShare l G M h) (HR 4 [] dX6_tuneShare_4)
theorem m9_lshl (n : Nat) : lN n <<< ((52 : Int32).toInt64 &&& 63) = lN (n * 4503599627370496) := by
  have h52 : ((52 : Int32).toInt64 &&& 63) = 52 := by decide
  rw [h52]
  apply Int64.toBitVec_inj.mp
  rw [Int64.toBitVec_shiftLeft]
  show (BitVec.ofNat 64 n) <<< ((52 : Int64).toBitVec.smod 64) = BitVec.ofNat 64 (n * 4503599627370496)
  rw [show (52 : Int64).toBitVec.smod 64 = 52#64 from by decide]
  apply BitVec.eq_of_toNat_eq
  simp only [BitVec.shiftLeft_eq', BitVec.toNat_shiftLeft, BitVec.toNat_ofNat, Nat.shiftLeft_eq]
  show n % 2 ^ 64 * 2 ^ 52 % 2 ^ 64 = n * 4503599627370496 % 2 ^ 64
  rw [Nat.mod_mul_mod]
theorem m9_fdl (e t : Nat) : (fd_x e t).toInt64 = lN (e * 4503599627370496 + t) := rfl
theorem ct_X6_bitsOfShare (l : Launch) (G : k9_G) (M : k9_Mem) {x : UInt64} (hx : m9_isU x) : k9_Cl l yX6_bitsOfShare wsX6_bitsOfShare rm_X6_bitsOfShare G M [.double x] x.toInt64 M := by
  refine k9_metL (own := RX6) (by decide +kernel) rfl rfl (Nat.le_of_ble_eq_true rfl) ?_
  intro p e s m args below meth c A Q X HR
  rcases hx with rfl | ⟨e0, t, h1, h2, h3, rfl⟩
  · refine bk_X6_bitsOfShare_0 X (fun c1 => ?_) (fun c1 => ?_)
    · exact absurd c1 (by decide +kernel)
    · exact HR 7 [] dX6_bitsOfShare_7
  · have loop : ∀ i, i ≤ 1023 - e0 → k9_U p l e rm_X6_bitsOfShare s m args below meth c Q A G 7 0 0 M 18 [(2, .double (fd_x (e0 + i) t)), (4, .long (lN (1023 - i))), (6, .int (nI i))] [] := by
      refine m9_down (1023 - e0) (fun i hi next => ?_)
      have hge : (1022 : Int32) ≤ nI i ↔ 1022 ≤ i := m9_le (a := 1022) (by decide) (by omega)
      have hn : ¬ (1022 : Int32) ≤ nI i := fun z => by have := hge.mp z; omega
      rcases Nat.lt_or_ge i (1023 - e0) with q | q
      · have cl := fd_cmp1 (e := e0 + i) (t := t) (by omega) (by omega) h3
        have nn : ¬ (0 : Int32) ≤ Op.cmpValue (FP.dcmp (fd_x (e0 + i) t) FP.dconst1) .g := by rw [cl]; decide
        refine bk_X6_bitsOfShare_18 X (fun c1 => absurd c1 hn) (fun c1 => absurd c1 hn) (fun c1 => absurd c1 hn) (fun c1 c2 => absurd c2 nn) (fun c1 c2 => absurd c2 nn) (fun c1 c2 => absurd c2 nn) (fun c1 c2 => ?_) (fun c1 c2 => ?_)
        · rw [fd_dbl (by omega) (by omega) h3]; exact fd_x_64 (by omega) h3
        · have h9 := next q
          rw [fd_dbl (by omega) (by omega) h3, show (1 : Int64) = lN 1 from rfl, lN_sub (by omega), nI_1]
          exact h9
      · have hi2 : e0 + i = 1023 := by omega
        have e1 : 1023 - i = e0 := by omega
        rw [hi2, e1]
        obtain ⟨f1, f2, f3⟩ := fd_frac h3
        have yy : (0 : Int32) ≤ Op.cmpValue (FP.dcmp (fd_x 1023 t) FP.dconst1) .g := by
          rcases fd_cmp1g h3 with z | z
          · rw [z]; decide
          · rw [z]; decide
        refine bk_X6_bitsOfShare_18 X (fun c1 => absurd c1 hn) (fun c1 => absurd c1 hn) (fun c1 => absurd c1 hn) (fun c1 c2 => f1) (fun c1 c2 => f2) (fun c1 c2 => ?_) (fun c1 c2 => absurd yy c2) (fun c1 c2 => absurd yy c2)
        have h9 := HR 64 [] dX6_bitsOfShare_64
        rw [f3, m9_lshl, lN_add, ← m9_fdl]
        exact h9
    refine bk_X6_bitsOfShare_0 X (fun c1 => ?_) (fun c1 => ?_)
    · exact loop 0 (by omega)
    · refine absurd ?_ c1
      rw [fd_cmp0 (by omega) (by omega) h3]
      decide
theorem ct_isNaN (l : Launch) (G : k9_G) (M : k9_Mem) {x : UInt64} (hx : m9_isU x) : k9_Ci l yJxe99ae_isNaN_b9ae7 wsJxe99ae_isNaN_b9ae7 rm_J6_bitCount_0f7a4 G M [.double x] 0 M := by
  refine k9_metI (own := RJxe99ae) (by decide +kernel) rfl rfl (Nat.le_of_ble_eq_true rfl) rfl ?_
  intro p e s m args below meth c A Q X HR
  refine k9_dload_n X dJxe99ae_isNaN_b9ae7_0 rfl 0 rfl ?_
  refine k9_dload_n X dJxe99ae_isNaN_b9ae7_1 rfl 0 rfl ?_
  refine k9_dcmp X dJxe99ae_isNaN_b9ae7_2 ?_
  rw [m9_isU_eq hx]
  refine k9_if_eq (tgt := 10) X dJxe99ae_isNaN_b9ae7_3 (by decide) (fun c1 => ?_) (fun c1 => absurd (by decide) c1)
  refine k9_iconst (v := 0) X dJxe99ae_isNaN_b9ae7_10 (by decide) ?_
  exact HR 11 _ dJxe99ae_isNaN_b9ae7_11
theorem ct_toLongBits (l : Launch) (G : k9_G) (M : k9_Mem) {x : UInt64} (hx : m9_isU x) : k9_Cl l yJxe99ae_doubleToLongBits_ccdee wsJxe99ae_doubleToLongBits_ccdee rm_Jxe99ae_doubleToLongBits_ccdee G M [.double x] x.toInt64 M := by
  refine k9_metL (own := RJxe99ae) (by decide +kernel) rfl rfl (Nat.le_of_ble_eq_true rfl) ?_
  intro p e s m args below meth c A Q X HR
  refine k9_dload_n X dJxe99ae_doubleToLongBits_ccdee_0 rfl 0 rfl ?_
  refine k9_callSi1 X (ct_isNaN l G M hx) (va_cwS 1 X.2.2.2.2.1 gJxe99ae_doubleToLongBits_ccdee_Jxe99ae_isNaN_b9ae7 rfl rfl rfl (by decide +kernel) ⟨Nat.le_of_ble_eq_true rfl, Nat.le_of_ble_eq_true rfl⟩) (Nat.le_of_ble_eq_true rfl) dJxe99ae_doubleToLongBits_ccdee_1 ⟨Nat.zero_le _, Nat.zero_le _⟩ ?_
  refine k9_if_ne (tgt := 12) X dJxe99ae_doubleToLongBits_ccdee_4 (by decide) (fun c1 => absurd rfl c1) (fun c1 => ?_)
  refine k9_dload_n X dJxe99ae_doubleToLongBits_ccdee_7 rfl 0 rfl ?_
  have h9 := HR 11 [(0, .double x)] dJxe99ae_doubleToLongBits_ccdee_11
  obtain ⟨hx0, hb, hml, hown, hts, hK, hA, hSK, hR⟩ := X
  intro H locs ls hP hD hS h
  exact vn_d2l hx0 hb (by rw [hml, h.1]) hown (hts _ (by simp [wsJxe99ae_doubleToLongBits_ccdee])) (hts _ (by simp [wsJxe99ae_doubleToLongBits_ccdee])) (hts _ (by simp [wsJxe99ae_doubleToLongBits_ccdee])) (hts _ (by simp [wsJxe99ae_doubleToLongBits_ccdee])) (Nat.le_of_ble_eq_true rfl) (Nat.le_of_ble_eq_true rfl) dJxe99ae_doubleToLongBits_ccdee_8 (h9 H locs ls hP hD hS h)
theorem ct_X7_share (l : Launch) (G : k9_G) (M : k9_Mem) {C : Nat} (hl : m9_laid M C) (h : m9_shOk (m9_rig M C) (m9_tnn (M 77))) : k9_Cd l yX7_share wsX7_share rm_X7_share G M [.ref (k9_ga G 76)] (m9_shr (m9_rig M C) (m9_tnn (M 77))) M := by
  refine k9_metD (own := RX7) (by decide +kernel) rfl rfl (Nat.le_of_ble_eq_true rfl) ?_
  intro p e s m args below meth c A Q X HR
  have hU := m9_isU_64 (m9_shr_U h)
  refine bk_X7_share_0 X (ct_X7_tuneNotes l G M) (fun c1 => ct_X7_rights l G M hl) (fun c1 => ?_) (fun c1 => ?_) (fun c1 => ?_)
  · rw [m9_shr, if_neg c1] at hU; exact hU
  · have h9 := HR 21 [] dX7_share_21
    rw [m9_shr, if_neg c1] at h9; exact h9
  · have h9 := HR 21 [] dX7_share_21
    rw [m9_shr, if_pos c1] at h9; exact h9
theorem ct_X7_tuneShare (l : Launch) (G : k9_G) (M : k9_Mem) {B : Nat} (hB : B < 1000) (hM : M 77 384 = nI B) (H : m9_gd (k9_st M 76 5 0) B) (h : m9_shOk (m9_rn (k9_st M 76 5 0) B) (m9_tnn (M 77))) : k9_Cd l yX7_tuneShare wsX7_tuneShare rm_X7_tuneShare G M [.ref (k9_ga G 76)] (m9_shr (m9_rn (k9_st M 76 5 0) B) (m9_tnn (M 77))) (m9_lay (k9_st M 76 5 0) B) := by
  refine k9_metD (own := RX7) (by decide +kernel) rfl rfl (Nat.le_of_ble_eq_true rfl) ?_
  intro p e s m args below meth c A Q X HR
  have z77 : k9_st M 76 5 0 77 = M 77 := m9_st_ne _ _ _ (by decide)
  have l77 : m9_lay (k9_st M 76 5 0) B 77 = M 77 := by rw [m9_lay_77, z77]
  have cs := ct_X7_share l G (m9_lay (k9_st M 76 5 0) B) H.2.1 (by rw [l77]; exact h)
  rw [l77] at cs
  exact bk_X7_tuneShare_0 X (ct_X7_lay l G _ hB (by rw [z77, hM]) H.1) cs (HR 13 [] dX7_tuneShare_13)
