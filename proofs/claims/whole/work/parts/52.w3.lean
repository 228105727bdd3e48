/-! Paper. -/
def m9_mv (x y : Int32) : Int32 := if y < 0 then x >>> ((-y) &&& 31) else x <<< (y &&& 31)
theorem ct_X3_moved (l : Launch) (G : k9_G) (M : k9_Mem) (a b : Int32) : k9_Ci l yX3_moved wsX3_moved rm_X3_moved G M [.int a, .int b] (m9_mv a b) M := by
  refine k9_metI (own := RX3) (by decide +kernel) rfl rfl (Nat.le_of_ble_eq_true rfl) rfl ?_
  intro p e s m args below meth c A Q X HR
  refine bk_X3_moved_0 X (fun c1 => ?_) (fun c1 => ?_)
  · exact k9_eq rfl (by rw [m9_mv, if_pos c1]) (HR 14 [] dX3_moved_14)
  · exact k9_eq rfl (by rw [m9_mv, if_neg c1]) (HR 14 [] dX3_moved_14)
def m9_vf (x y : Int32) : Int32 := m9_mv x (-2 - y) &&& 2097151
theorem ct_X3_voicesOf (l : Launch) (G : k9_G) (M : k9_Mem) (a b : Int32) : k9_Ci l yX3_voicesOf wsX3_voicesOf rm_X3_voicesOf G M [.int a, .int b] (m9_vf a b) M := by
  refine k9_metI (own := RX3) (by decide +kernel) rfl rfl (Nat.le_of_ble_eq_true rfl) rfl ?_
  intro p e s m args below meth c A Q X HR
  exact bk_X3_voicesOf_0 X (ct_X3_moved l G M _ _) (HR 11 [] dX3_voicesOf_11)
def m9_kp (x : Int32) : Int32 := if (-3 : Int32) < (if x < (3 : Int32) then x else (3 : Int32)) then (if x < (3 : Int32) then x else (3 : Int32)) else (-3 : Int32)
theorem ct_X3_kept (l : Launch) (G : k9_G) (M : k9_Mem) (a : Int32) : k9_Ci l yX3_kept wsX3_kept rm_X3_kept G M [.int a] (m9_kp a) M := by
  refine k9_metI (own := RX3) (by decide +kernel) rfl rfl (Nat.le_of_ble_eq_true rfl) rfl ?_
  intro p e s m args below meth c A Q X HR
  exact bk_X3_kept_0 X (HR 10 [] dX3_kept_10)
def m9_op (M : k9_Mem) (i : Nat) : Int32 := M 2 i &&& (M 3 i ^^^ (-1))
def m9_opx (M : k9_Mem) (a : Int32) : Int32 := if m9_isS a then m9_op M a.toNatClampNeg else 0
theorem m9_opx_nI {i : Nat} (M : k9_Mem) (h : i < 96) : m9_opx M (nI i) = m9_op M i := by rw [m9_opx, if_pos (m9_isS_nI h), m9_cl (by omega)]
theorem ct_X3_openAt (l : Launch) (G : k9_G) (M : k9_Mem) (a : Int32) : k9_Ci l yX3_openAt wsX3_openAt rm_X3_openAt G M [.ref (k9_ga G 1), .int a] (m9_opx M a) M := by
  refine k9_metI (own := RX3) (by decide +kernel) rfl rfl (Nat.le_of_ble_eq_true rfl) rfl ?_
  intro p e s m args below meth c A Q X HR
  refine bk_X3_openAt_0 X (ct_X6_isStep l G M a) (fun c1 => ?_) (fun c1 => m9_isS_in (m9_bi_1 c1)) (fun c1 => ?_)
  · exact k9_eq rfl (by rw [m9_opx, if_neg (m9_bi_0 c1)]) (HR 26 [] dX3_openAt_26)
  · exact k9_eq rfl (by rw [m9_opx, if_pos (m9_bi_1 c1)]; rfl) (HR 26 [] dX3_openAt_26)
theorem ct_X3_openAt_n (l : Launch) (G : k9_G) (M : k9_Mem) {i : Nat} (h : i < 96) : k9_Ci l yX3_openAt wsX3_openAt rm_X3_openAt G M [.ref (k9_ga G 1), .int (nI i)] (m9_op M i) M := m9_opx_nI M h ▸ ct_X3_openAt l G M (nI i)
def m9_va (M : k9_Mem) (i : Nat) (x : Int32) : Int32 := m9_vf (m9_op M i) (M 4 i + x)
theorem ct_X3_voicesAt (l : Launch) (G : k9_G) (M : k9_Mem) {i : Nat} (h : i < 96) (x : Int32) : k9_Ci l yX3_voicesAt wsX3_voicesAt rm_X3_voicesAt G M [.ref (k9_ga G 1), .int (nI i), .int x] (m9_va M i x) M := by
  refine k9_metI (own := RX3) (by decide +kernel) rfl rfl (Nat.le_of_ble_eq_true rfl) rfl ?_
  intro p e s m args below meth c A Q X HR
  have ee : (nI i).toNatClampNeg = i := m9_cl (by omega)
  refine bk_X3_voicesAt_0 (rv3 := m9_va M i x) X (ct_X6_isStep l G M _) (fun c1 => ?_) (fun c1 => ct_X3_openAt_n l G M h) (fun c1 => m9_in h (by decide)) (fun c1 => ?_) (fun c1 => ?_)
  · exact absurd (m9_isS_nI h) (m9_bi_0 c1)
  · rw [ee]; exact ct_X3_voicesOf l G M _ _
  · exact HR 27 [] dX3_voicesAt_27
/-- a step within a range -/
abbrev m9_rg (a b : Int32) (i : Nat) : Prop := ¬ nI i < a ∧ ¬ b < nI i
theorem m9_fl_skip {f g : Nat → Int32} {i : Nat} (h : f i = g i) : m9_fl f g (i + 1) = m9_fl f g i := by
  rw [← m9_fl_succ]
  exact m9_upd_same (by rw [m9_fl_out (Nat.lt_irrefl i), h])
theorem m9_fl_at (f g : Nat → Int32) (i : Nat) : m9_fl f g i i = g i := m9_fl_out (Nat.lt_irrefl i)
def m9_cv (M : k9_Mem) (a b x : Int32) (i : Nat) : Int32 := if m9_rg a b i then M 3 i ||| x else M 3 i
def m9_cvn (M : k9_Mem) (a b x : Int32) : Int32 := m9_sum (fun i => if m9_rg a b i then m9_bi (¬ m9_op M i &&& x = 0) else 0) 96
def m9_tk (t : Int32) : Int32 := 1 <<< (t &&& 31)
theorem ct_X3_cover (l : Launch) (G : k9_G) (M : k9_Mem) (t a b : Int32) : k9_Ci l yX3_cover wsX3_cover rm_X3_cover G M [.ref (k9_ga G 1), .int t, .int a, .int b] (m9_cvn M a b (m9_tk t)) (k9_sc M 3 (m9_fl (m9_cv M a b (m9_tk t)) (M 3) 96)) := by
  refine k9_metI (own := RX3) (by decide +kernel) rfl rfl (Nat.le_of_ble_eq_true rfl) rfl ?_
  intro p e s m args below meth c A Q X HR
  obtain ⟨x, hx⟩ : ∃ x, x = m9_tk t := ⟨_, rfl⟩
  rw [← hx] at HR
  have loop : ∀ i, i ≤ 96 → k9_U p l e rm_X3_cover s m args below meth c Q A G 7 0 0 (k9_sc M 3 (m9_fl (m9_cv M a b x) (M 3) i)) 11 [(0, .ref (k9_ga G 1)), (2, .int a), (3, .int b), (4, .int x), (5, .int (m9_sum (fun i => if m9_rg a b i then m9_bi (¬ m9_op M i &&& x = 0) else 0) i)), (6, .int (nI i))] [] := by
    refine m9_down 96 (fun i hi next => ?_)
    have ee : (nI i).toNatClampNeg = i := m9_cl (by omega)
    have e3 : k9_sc M 3 (m9_fl (m9_cv M a b x) (M 3) i) 3 i = M 3 i := by rw [k9_sc_eq, m9_fl_at]
    have eo : m9_op (k9_sc M 3 (m9_fl (m9_cv M a b x) (M 3) i)) i = m9_op M i := by
      rw [m9_op, e3]; rfl
    have skip : i < 96 → ¬ m9_rg a b i → k9_U p l e rm_X3_cover s m args below meth c Q A G 7 0 0 (k9_sc M 3 (m9_fl (m9_cv M a b x) (M 3) i)) 11 [(0, .ref (k9_ga G 1)), (2, .int a), (3, .int b), (4, .int x), (5, .int (m9_sum (fun i => if m9_rg a b i then m9_bi (¬ m9_op M i &&& x = 0) else 0) i)), (6, .int (nI i + 1))] [] := fun h9 hn => by
      have h := next h9
      rw [m9_fl_skip (by rw [m9_cv, if_neg hn]), m9_sum_s, if_neg hn, m9_add0] at h
      rw [nI_1]; exact h
    have put : i < 96 → m9_rg a b i → ∀ z, z = m9_bi (¬ m9_op M i &&& x = 0) → k9_U p l e rm_X3_cover s m args below meth c Q A G 7 0 0 (k9_st (k9_sc M 3 (m9_fl (m9_cv M a b x) (M 3) i)) 3 (nI i).toNatClampNeg (k9_sc M 3 (m9_fl (m9_cv M a b x) (M 3) i) 3 (nI i).toNatClampNeg ||| x)) 11 [(0, .ref (k9_ga G 1)), (2, .int a), (3, .int b), (4, .int x), (5, .int (m9_sum (fun i => if m9_rg a b i then m9_bi (¬ m9_op M i &&& x = 0) else 0) i + z)), (6, .int (nI i + 1))] [] := fun h9 hn z hz => by
      have h := next h9
      rw [← m9_fl_succ, m9_cv, if_pos hn, m9_sum_s, if_pos hn, ← hz] at h
      rw [nI_1, ee, e3, m9_st_sc]; exact h
    refine bk_X3_cover_11 (rv1 := m9_op M i) X (fun c1 => ?_) (fun c1 c2 => ?_) (fun c1 c2 c3 => ?_) (fun c1 c2 c3 => ?_) (fun c1 c2 c3 c4 => ?_) (fun c1 c2 c3 c4 => ?_) (fun c1 c2 c3 c4 => ?_) (fun c1 c2 c3 c4 => ?_)
    · have hi2 := m9_ex (N := 96) (by decide) hi c1
      subst hi2
      exact HR 72 [] dX3_cover_72
    · exact skip (m9_go (N := 96) (by decide) hi c1) (fun z => z.1 c2)
    · exact skip (m9_go (N := 96) (by decide) hi c1) (fun z => z.2 c3)
    · rw [← eo]; exact ct_X3_openAt_n l G _ (m9_go (N := 96) (by decide) hi c1)
    · exact m9_in (m9_go (N := 96) (by decide) hi c1) (by decide)
    · exact put (m9_go (N := 96) (by decide) hi c1) ⟨c2, c3⟩ 0 (by rw [m9_bi_f (fun z => z c4)])
    · exact m9_in (m9_go (N := 96) (by decide) hi c1) (by decide)
    · exact put (m9_go (N := 96) (by decide) hi c1) ⟨c2, c3⟩ 1 (by rw [m9_bi_t c4])
  have h := loop 0 (by decide)
  rw [m9_fl_0, m9_sc_same rfl, hx] at h
  exact bk_X3_cover_0 X h
def m9_uc (M : k9_Mem) (a b x : Int32) (i : Nat) : Int32 := if m9_rg a b i then M 3 i &&& (x ^^^ (-1)) else M 3 i
def m9_ucn (M : k9_Mem) (a b x : Int32) : Int32 := m9_sum (fun i => if m9_rg a b i then m9_bi (¬ M 3 i &&& x = 0) else 0) 96
theorem ct_X3_uncover (l : Launch) (G : k9_G) (M : k9_Mem) (t a b : Int32) : k9_Ci l yX3_uncover wsX3_uncover rm_X3_uncover G M [.ref (k9_ga G 1), .int t, .int a, .int b] (m9_ucn M a b (m9_tk t)) (k9_sc M 3 (m9_fl (m9_uc M a b (m9_tk t)) (M 3) 96)) := by
  refine k9_metI (own := RX3) (by decide +kernel) rfl rfl (Nat.le_of_ble_eq_true rfl) rfl ?_
  intro p e s m args below meth c A Q X HR
  obtain ⟨x, hx⟩ : ∃ x, x = m9_tk t := ⟨_, rfl⟩
  rw [← hx] at HR
  have loop : ∀ i, i ≤ 96 → k9_U p l e rm_X3_uncover s m args below meth c Q A G 7 0 0 (k9_sc M 3 (m9_fl (m9_uc M a b x) (M 3) i)) 11 [(0, .ref (k9_ga G 1)), (2, .int a), (3, .int b), (4, .int x), (5, .int (m9_sum (fun i => if m9_rg a b i then m9_bi (¬ M 3 i &&& x = 0) else 0) i)), (6, .int (nI i))] [] := by
    refine m9_down 96 (fun i hi next => ?_)
    have ee : (nI i).toNatClampNeg = i := m9_cl (by omega)
    have e3 : k9_sc M 3 (m9_fl (m9_uc M a b x) (M 3) i) 3 i = M 3 i := by rw [k9_sc_eq, m9_fl_at]
    have skip : i < 96 → ¬ m9_rg a b i → k9_U p l e rm_X3_uncover s m args below meth c Q A G 7 0 0 (k9_sc M 3 (m9_fl (m9_uc M a b x) (M 3) i)) 11 [(0, .ref (k9_ga G 1)), (2, .int a), (3, .int b), (4, .int x), (5, .int (m9_sum (fun i => if m9_rg a b i then m9_bi (¬ M 3 i &&& x = 0) else 0) i)), (6, .int (nI i + 1))] [] := fun h9 hn => by
      have h := next h9
      rw [m9_fl_skip (by rw [m9_uc, if_neg hn]), m9_sum_s, if_neg hn, m9_add0] at h
      rw [nI_1]; exact h
    have put : i < 96 → m9_rg a b i → ∀ z, z = m9_bi (¬ M 3 i &&& x = 0) → k9_U p l e rm_X3_uncover s m args below meth c Q A G 7 0 0 (k9_st (k9_sc M 3 (m9_fl (m9_uc M a b x) (M 3) i)) 3 (nI i).toNatClampNeg (k9_sc M 3 (m9_fl (m9_uc M a b x) (M 3) i) 3 (nI i).toNatClampNeg &&& (x ^^^ (-1)))) 11 [(0, .ref (k9_ga G 1)), (2, .int a), (3, .int b), (4, .int x), (5, .int (m9_sum (fun i => if m9_rg a b i then m9_bi (¬ M 3 i &&& x = 0) else 0) i + z)), (6, .int (nI i + 1))] [] := fun h9 hn z hz => by
      have h := next h9
      rw [← m9_fl_succ, m9_uc, if_pos hn, m9_sum_s, if_pos hn, ← hz] at h
      rw [nI_1, ee, e3, m9_st_sc]; exact h
    refine bk_X3_uncover_11 X (fun c1 => ?_) (fun c1 c2 => ?_) (fun c1 c2 c3 => ?_) (fun c1 c2 c3 => ?_) (fun c1 c2 c3 c4 => ?_) (fun c1 c2 c3 c4 => ?_)
    · have hi2 := m9_ex (N := 96) (by decide) hi c1
      subst hi2
      exact HR 75 [] dX3_uncover_75
    · exact skip (m9_go (N := 96) (by decide) hi c1) (fun z => z.1 c2)
    · exact skip (m9_go (N := 96) (by decide) hi c1) (fun z => z.2 c3)
    · exact m9_in (m9_go (N := 96) (by decide) hi c1) (by decide)
    · rw [ee, e3] at c4
      exact put (m9_go (N := 96) (by decide) hi c1) ⟨c2, c3⟩ 0 (by rw [m9_bi_f (fun z => z c4)])
    · rw [ee, e3] at c4
      exact put (m9_go (N := 96) (by decide) hi c1) ⟨c2, c3⟩ 1 (by rw [m9_bi_t c4])
  have h := loop 0 (by decide)
  rw [m9_fl_0, m9_sc_same rfl, hx] at h
  exact bk_X3_uncover_0 X h
/-- all steps below n do -/
theorem m9_al_s {P : Nat → Prop} {i : Nat} (h : ∀ k, k < i → P k) (h2 : P i) : ∀ k, k < i + 1 → P k := fun k hk => by
  rcases Nat.lt_or_ge k i with q | q
  · exact h k q
  · exact (show k = i by omega) ▸ h2
abbrev m9_cmv (M : k9_Mem) (y : Int32) (i : Nat) : Prop := m9_mv (m9_mv (M 2 i ||| M 3 i) y &&& 67108863) (-y) = (M 2 i ||| M 3 i)
theorem ct_X3_canMove (l : Launch) (G : k9_G) (M : k9_Mem) (y : Int32) [Decidable (∀ i, i < 96 → m9_cmv M y i)] : k9_Ci l yX3_canMove wsX3_canMove rm_X3_canMove G M [.ref (k9_ga G 1), .int y] (m9_bi (∀ i, i < 96 → m9_cmv M y i)) M := by
  refine k9_metI (own := RX3) (by decide +kernel) rfl rfl (Nat.le_of_ble_eq_true rfl) m9_nb ?_
  intro p e s m args below meth c A Q X HR
  have loop : ∀ i, i ≤ 96 → (∀ k, k < i → m9_cmv M y k) → k9_U p l e rm_X3_canMove s m args below meth c Q A G 4 0 0 M 2 [(0, .ref (k9_ga G 1)), (1, .int y), (2, .int (nI i))] [] := by
    refine m9_down 96 (fun i hi next h => ?_)
    have ee : (nI i).toNatClampNeg = i := m9_cl (by omega)
    refine bk_X3_canMove_2 X (fun c1 => ?_) (fun c1 => m9_in (m9_go (N := 96) (by decide) hi c1) (by decide)) (fun c1 => ct_X3_moved l G M _ _) (fun c1 => ct_X3_moved l G M _ _) (fun c1 c2 => ?_) (fun c1 c2 => ?_)
    · have hi2 := m9_ex (N := 96) (by decide) hi c1
      subst hi2
      exact k9_eq rfl (by rw [m9_bi_t h]) (HR 48 [] dX3_canMove_48)
    · rw [ee] at c2
      rw [nI_1]; exact next (m9_go (N := 96) (by decide) hi c1) (m9_al_s h c2)
    · rw [ee] at c2
      exact k9_eq rfl (by rw [m9_bi_f (fun z => c2 (z i (m9_go (N := 96) (by decide) hi c1)))]) (HR 40 [] dX3_canMove_40)
  exact bk_X3_canMove_0 X (loop 0 (by decide) (fun k hk => absurd hk (Nat.not_lt_zero k)))
def m9_mm (M : k9_Mem) (y : Int32) (i : Nat) : k9_Mem := k9_sc (k9_sc M 2 (m9_fl (fun j => m9_mv (M 2 j) y) (M 2) i)) 3 (m9_fl (fun j => m9_mv (M 3 j) y) (M 3) i)
theorem ct_X3_move (l : Launch) (G : k9_G) (M : k9_Mem) (y : Int32) : k9_Cv l yX3_move wsX3_move rm_X3_move G M [.ref (k9_ga G 1), .int y] (m9_mm M y 96) := by
  refine k9_metV (own := RX3) (by decide +kernel) rfl rfl (Nat.le_of_ble_eq_true rfl) ?_
  intro p e s m args below meth c A Q X HR
  have loop : ∀ i, i ≤ 96 → k9_U p l e rm_X3_move s m args below meth c Q A G 3 0 0 (m9_mm M y i) 2 [(0, .ref (k9_ga G 1)), (1, .int y), (2, .int (nI i))] [] := by
    refine m9_down 96 (fun i hi next => ?_)
    have ee : (nI i).toNatClampNeg = i := m9_cl (by omega)
    have e2 : m9_mm M y i 2 i = M 2 i := by rw [m9_mm, k9_sc_ne _ _ (by decide), k9_sc_eq, m9_fl_at]
    have e3 : m9_mm M y i 3 i = M 3 i := by rw [m9_mm, k9_sc_eq, m9_fl_at]
    have e4 : ∀ v, k9_st (m9_mm M y i) 2 i v 3 i = M 3 i := fun v => by rw [m9_st_ne _ _ _ (by decide), e3]
    refine bk_X3_move_2 (rv1 := m9_mv (M 2 i) y) (rv2 := m9_mv (M 3 i) y) X (fun c1 => ?_) (fun c1 => m9_in (m9_go (N := 96) (by decide) hi c1) (by decide)) (fun c1 => ?_) (fun c1 => ?_) (fun c1 => ?_)
    · have hi2 := m9_ex (N := 96) (by decide) hi c1
      subst hi2
      exact HR 46 [] dX3_move_46
    · rw [ee, e2]; exact ct_X3_moved l G _ _ _
    · rw [ee, e3]; exact ct_X3_moved l G _ _ _
    · have h := next (m9_go (N := 96) (by decide) hi c1)
      rw [ee, nI_1]
      unfold m9_mm at h ⊢
      rw [m9_two M (by decide), m9_fl_succ (fun j => m9_mv (M 2 j) y), m9_fl_succ (fun j => m9_mv (M 3 j) y)]
      exact h
  have h := loop 0 (by decide)
  rw [m9_mm, m9_fl_0, m9_fl_0, m9_sc_same rfl, m9_sc_same rfl] at h
  exact bk_X3_move_0 X h
abbrev m9_ctr (M : k9_Mem) (a b y : Int32) (i : Nat) : Prop := m9_rg a b i → m9_kp (M 4 i + y) = M 4 i + y
theorem ct_X3_canTear (l : Launch) (G : k9_G) (M : k9_Mem) (a b y : Int32) [Decidable (∀ i, i < 96 → m9_ctr M a b y i)] : k9_Ci l yX3_canTear wsX3_canTear rm_X3_canTear G M [.ref (k9_ga G 1), .int a, .int b, .int y] (m9_bi (∀ i, i < 96 → m9_ctr M a b y i)) M := by
  refine k9_metI (own := RX3) (by decide +kernel) rfl rfl (Nat.le_of_ble_eq_true rfl) m9_nb ?_
  intro p e s m args below meth c A Q X HR
  have loop : ∀ i, i ≤ 96 → (∀ k, k < i → m9_ctr M a b y k) → k9_U p l e rm_X3_canTear s m args below meth c Q A G 5 0 0 M 3 [(0, .ref (k9_ga G 1)), (1, .int a), (2, .int b), (3, .int y), (4, .int (nI i))] [] := by
    refine m9_down 96 (fun i hi next h => ?_)
    have ee : (nI i).toNatClampNeg = i := m9_cl (by omega)
    refine bk_X3_canTear_3 X (fun c1 => ?_) (fun c1 c2 => ?_) (fun c1 c2 c3 => ?_) (fun c1 c2 c3 => m9_in (m9_go (N := 96) (by decide) hi c1) (by decide)) (fun c1 c2 c3 => ct_X3_kept l G M _) (fun c1 c2 c3 c4 => ?_) (fun c1 c2 c3 c4 => ?_)
    · have hi2 := m9_ex (N := 96) (by decide) hi c1
      subst hi2
      exact k9_eq rfl (by rw [m9_bi_t h]) (HR 55 [] dX3_canTear_55)
    · rw [nI_1]; exact next (m9_go (N := 96) (by decide) hi c1) (m9_al_s h (fun z => absurd c2 z.1))
    · rw [nI_1]; exact next (m9_go (N := 96) (by decide) hi c1) (m9_al_s h (fun z => absurd c3 z.2))
    · rw [ee] at c4
      rw [nI_1]; exact next (m9_go (N := 96) (by decide) hi c1) (m9_al_s h (fun _ => c4))
    · rw [ee] at c4
      exact k9_eq rfl (by rw [m9_bi_f (fun z => c4 (z i (m9_go (N := 96) (by decide) hi c1) ⟨c2, c3⟩))]) (HR 47 [] dX3_canTear_47)
  exact bk_X3_canTear_0 X (loop 0 (by decide) (fun k hk => absurd hk (Nat.not_lt_zero k)))
def m9_ae (M : k9_Mem) (a b y : Int32) (i : Nat) : Int32 := if m9_rg a b i then M 4 i + y else M 4 i
theorem ct_X3_addToEdges (l : Launch) (G : k9_G) (M : k9_Mem) (a b y : Int32) : k9_Cv l yX3_addToEdges wsX3_addToEdges rm_X3_addToEdges G M [.ref (k9_ga G 1), .int a, .int b, .int y] (k9_sc M 4 (m9_fl (m9_ae M a b y) (M 4) 96)) := by
  refine k9_metV (own := RX3) (by decide +kernel) rfl rfl (Nat.le_of_ble_eq_true rfl) ?_
  intro p e s m args below meth c A Q X HR
  have loop : ∀ i, i ≤ 96 → k9_U p l e rm_X3_addToEdges s m args below meth c Q A G 5 0 0 (k9_sc M 4 (m9_fl (m9_ae M a b y) (M 4) i)) 3 [(0, .ref (k9_ga G 1)), (1, .int a), (2, .int b), (3, .int y), (4, .int (nI i))] [] := by
    refine m9_down 96 (fun i hi next => ?_)
    have ee : (nI i).toNatClampNeg = i := m9_cl (by omega)
    have e4 : k9_sc M 4 (m9_fl (m9_ae M a b y) (M 4) i) 4 i = M 4 i := by rw [k9_sc_eq, m9_fl_at]
    have skip : i < 96 → ¬ m9_rg a b i → k9_U p l e rm_X3_addToEdges s m args below meth c Q A G 5 0 0 (k9_sc M 4 (m9_fl (m9_ae M a b y) (M 4) i)) 3 [(0, .ref (k9_ga G 1)), (1, .int a), (2, .int b), (3, .int y), (4, .int (nI i + 1))] [] := fun h9 hn => by
      have h := next h9
      rw [m9_fl_skip (by rw [m9_ae, if_neg hn])] at h
      rw [nI_1]; exact h
    refine bk_X3_addToEdges_3 X (fun c1 => ?_) (fun c1 c2 => ?_) (fun c1 c2 c3 => ?_) (fun c1 c2 c3 => m9_in (m9_go (N := 96) (by decide) hi c1) (by decide)) (fun c1 c2 c3 => ?_)
    · have hi2 := m9_ex (N := 96) (by decide) hi c1
      subst hi2
      exact HR 39 [] dX3_addToEdges_39
    · exact skip (m9_go (N := 96) (by decide) hi c1) (fun z => z.1 c2)
    · exact skip (m9_go (N := 96) (by decide) hi c1) (fun z => z.2 c3)
    · have h := next (m9_go (N := 96) (by decide) hi c1)
      rw [← m9_fl_succ, m9_ae, if_pos ⟨c2, c3⟩] at h
      rw [nI_1, ee, e4, m9_st_sc]; exact h
  have h := loop 0 (by decide)
  rw [m9_fl_0, m9_sc_same rfl] at h
  exact bk_X3_addToEdges_0 X h
def m9_ps (M : k9_Mem) (a b y : Int32) (i : Nat) : Int32 := if m9_rg a b i then y else M 5 i
theorem ct_X3_putSteers (l : Launch) (G : k9_G) (M : k9_Mem) (a b y : Int32) : k9_Cv l yX3_putSteers wsX3_putSteers rm_X3_putSteers G M [.ref (k9_ga G 1), .int a, .int b, .int y] (k9_sc M 5 (m9_fl (m9_ps M a b y) (M 5) 96)) := by
  refine k9_metV (own := RX3) (by decide +kernel) rfl rfl (Nat.le_of_ble_eq_true rfl) ?_
  intro p e s m args below meth c A Q X HR
  have loop : ∀ i, i ≤ 96 → k9_U p l e rm_X3_putSteers s m args below meth c Q A G 5 0 0 (k9_sc M 5 (m9_fl (m9_ps M a b y) (M 5) i)) 3 [(0, .ref (k9_ga G 1)), (1, .int a), (2, .int b), (3, .int y), (4, .int (nI i))] [] := by
    refine m9_down 96 (fun i hi next => ?_)
    have ee : (nI i).toNatClampNeg = i := m9_cl (by omega)
    have skip : i < 96 → ¬ m9_rg a b i → k9_U p l e rm_X3_putSteers s m args below meth c Q A G 5 0 0 (k9_sc M 5 (m9_fl (m9_ps M a b y) (M 5) i)) 3 [(0, .ref (k9_ga G 1)), (1, .int a), (2, .int b), (3, .int y), (4, .int (nI i + 1))] [] := fun h9 hn => by
      have h := next h9
      rw [m9_fl_skip (by rw [m9_ps, if_neg hn])] at h
      rw [nI_1]; exact h
    refine bk_X3_putSteers_3 X (fun c1 => ?_) (fun c1 c2 => ?_) (fun c1 c2 c3 => ?_) (fun c1 c2 c3 => m9_in (m9_go (N := 96) (by decide) hi c1) (by decide)) (fun c1 c2 c3 => ?_)
    · have hi2 := m9_ex (N := 96) (by decide) hi c1
      subst hi2
      exact HR 36 [] dX3_putSteers_36
    · exact skip (m9_go (N := 96) (by decide) hi c1) (fun z => z.1 c2)
    · exact skip (m9_go (N := 96) (by decide) hi c1) (fun z => z.2 c3)
    · have h := next (m9_go (N := 96) (by decide) hi c1)
      rw [← m9_fl_succ, m9_ps, if_pos ⟨c2, c3⟩] at h
      rw [nI_1, ee, m9_st_sc]; exact h
  have h := loop 0 (by decide)
  rw [m9_fl_0, m9_sc_same rfl] at h
  exact bk_X3_putSteers_0 X h
def m9_oh (M : k9_Mem) : Int32 := m9_sum (fun i => m9_bc (m9_op M i)) 96
theorem ct_X3_openHoles (l : Launch) (G : k9_G) (M : k9_Mem) : k9_Ci l yX3_openHoles wsX3_openHoles rm_X3_openHoles G M [.ref (k9_ga G 1)] (m9_oh M) M := by
  refine k9_metI (own := RX3) (by decide +kernel) rfl rfl (Nat.le_of_ble_eq_true rfl) rfl ?_
  intro p e s m args below meth c A Q X HR
  have loop : ∀ i, i ≤ 96 → k9_U p l e rm_X3_openHoles s m args below meth c Q A G 3 0 0 M 4 [(0, .ref (k9_ga G 1)), (1, .int (m9_sum (fun i => m9_bc (m9_op M i)) i)), (2, .int (nI i))] [] := by
    refine m9_down 96 (fun i hi next => ?_)
    refine bk_X3_openHoles_4 (rv1 := m9_op M i) X (fun c1 => ?_) (fun c1 => ct_X3_openAt_n l G M (m9_go (N := 96) (by decide) hi c1)) (fun c1 => ct_bitCount l G M _) (fun c1 => ?_)
    · have hi2 := m9_ex (N := 96) (by decide) hi c1
      subst hi2
      exact HR 28 [] dX3_openHoles_28
    · rw [nI_1]; exact next (m9_go (N := 96) (by decide) hi c1)
  exact bk_X3_openHoles_0 X (loop 0 (by decide))
def m9_tn (M : k9_Mem) : Int32 := m9_sum (fun i => m9_bi (¬ M 4 i = 0)) 96
theorem ct_X3_tornSteps (l : Launch) (G : k9_G) (M : k9_Mem) : k9_Ci l yX3_tornSteps wsX3_tornSteps rm_X3_tornSteps G M [.ref (k9_ga G 1)] (m9_tn M) M := by
  refine k9_metI (own := RX3) (by decide +kernel) rfl rfl (Nat.le_of_ble_eq_true rfl) rfl ?_
  intro p e s m args below meth c A Q X HR
  have loop : ∀ i, i ≤ 96 → k9_U p l e rm_X3_tornSteps s m args below meth c Q A G 3 0 0 M 4 [(0, .ref (k9_ga G 1)), (1, .int (m9_sum (fun i => m9_bi (¬ M 4 i = 0)) i)), (2, .int (nI i))] [] := by
    refine m9_down 96 (fun i hi next => ?_)
    have ee : (nI i).toNatClampNeg = i := m9_cl (by omega)
    refine bk_X3_tornSteps_4 X (fun c1 => ?_) (fun c1 => m9_in (m9_go (N := 96) (by decide) hi c1) (by decide)) (fun c1 c2 => ?_) (fun c1 c2 => ?_)
    · have hi2 := m9_ex (N := 96) (by decide) hi c1
      subst hi2
      exact HR 34 [] dX3_tornSteps_34
    · rw [ee] at c2
      have h := next (m9_go (N := 96) (by decide) hi c1)
      rw [m9_sum_s, m9_bi_f (fun z => z c2)] at h
      rw [nI_1]; exact h
    · rw [ee] at c2
      have h := next (m9_go (N := 96) (by decide) hi c1)
      rw [m9_sum_s, m9_bi_t c2] at h
      rw [nI_1]; exact h
  exact bk_X3_tornSteps_0 X (loop 0 (by decide))
/-- the steps at which a chain is cut: n steps from f on, each (B+1)th of them and the last one -/
abbrev m9_cs (f n B s : Nat) : Prop := f ≤ s ∧ s < f + n ∧ ((s - f) % (B + 1) = 0 ∨ s + 1 = f + n)
def m9_ch (M : k9_Mem) (x : Int32) (f n B i : Nat) : k9_Mem := k9_sc (k9_sc M 2 (fun s => if s < i ∧ m9_cs f n B s then M 2 s ||| x else M 2 s)) 3 (fun s => if s < i ∧ m9_cs f n B s then M 3 s &&& (x ^^^ (-1)) else M 3 s)
def m9_chn (M : k9_Mem) (x : Int32) (f n B i : Nat) : Int32 := m9_sum (fun s => if m9_cs f n B s then m9_bi (M 2 s &&& x = 0) else 0) i
theorem m9_ch_0 (M : k9_Mem) (x : Int32) (f n B : Nat) : ∀ i, i ≤ f → m9_ch M x f n B i = M := fun i hi => by
  have h2 : (fun s => if s < i ∧ m9_cs f n B s then M 2 s ||| x else M 2 s) = M 2 := by
    funext s; exact if_neg (fun z => by have := z.1; have := z.2.1; omega)
  have h3 : (fun s => if s < i ∧ m9_cs f n B s then M 3 s &&& (x ^^^ (-1)) else M 3 s) = M 3 := by
    funext s; exact if_neg (fun z => by have := z.1; have := z.2.1; omega)
  rw [m9_ch, h2, h3, m9_sc_same rfl, m9_sc_same rfl]
theorem m9_ch_no {M : k9_Mem} {x : Int32} {f n B i : Nat} (h : ¬ m9_cs f n B i) : m9_ch M x f n B (i + 1) = m9_ch M x f n B i := by
  have key : ∀ s, (s < i + 1 ∧ m9_cs f n B s) ↔ (s < i ∧ m9_cs f n B s) := fun s => by
    constructor
    · intro z
      refine ⟨?_, z.2⟩
      rcases Nat.lt_or_ge s i with q | q
      · exact q
      · have : s = i := by have := z.1; omega
        exact absurd (this ▸ z.2) h
    · exact fun z => ⟨by have := z.1; omega, z.2⟩
  unfold m9_ch
  simp only [key]
theorem m9_ch_yes {M : k9_Mem} {x : Int32} {f n B i : Nat} (h : m9_cs f n B i) : k9_st (k9_st (m9_ch M x f n B i) 2 i (M 2 i ||| x)) 3 i (M 3 i &&& (x ^^^ (-1))) = m9_ch M x f n B (i + 1) := by
  have key : ∀ (g : Nat → Int32) (w : Nat → Int32), upd (fun s => if s < i ∧ m9_cs f n B s then g s else w s) i (g i) = fun s => if s < i + 1 ∧ m9_cs f n B s then g s else w s := fun g w => by
    funext s
    by_cases hs : s = i
    · subst hs
      rw [m9_upd_at, if_pos ⟨Nat.lt_succ_self _, h⟩]
    · rw [m9_upd_ne _ _ hs]
      by_cases c : s < i ∧ m9_cs f n B s
      · rw [if_pos c, if_pos ⟨by omega, c.2⟩]
      · rw [if_neg c, if_neg (fun z => c ⟨by have := z.1; omega, z.2⟩)]
  unfold m9_ch
  rw [m9_two M (by decide), key (fun s => M 2 s ||| x), key (fun s => M 3 s &&& (x ^^^ (-1)))]
theorem m9_ch_2 (M : k9_Mem) (x : Int32) (f n B i : Nat) : m9_ch M x f n B i 2 i = M 2 i := by
  rw [m9_ch, k9_sc_ne _ _ (by decide), k9_sc_eq, if_neg (fun z => Nat.lt_irrefl i z.1)]
theorem m9_ch_3 (M : k9_Mem) (x : Int32) (f n B i : Nat) : m9_ch M x f n B i 3 i = M 3 i := by
  rw [m9_ch, k9_sc_eq, if_neg (fun z => Nat.lt_irrefl i z.1)]
theorem m9_ch_f (M : k9_Mem) (x : Int32) (f n B i : Nat) {k : Nat} (h2 : k ≠ 2) (h3 : k ≠ 3) : m9_ch M x f n B i k = M k := m9_two_ne M h2 h3 _ _
theorem m9_chn_yes {M : k9_Mem} {x : Int32} {f n B i : Nat} (h : m9_cs f n B i) : m9_chn M x f n B (i + 1) = m9_chn M x f n B i + m9_bi (M 2 i &&& x = 0) := by
  rw [m9_chn, m9_sum_s, if_pos h]; rfl
theorem m9_chn_no {M : k9_Mem} {x : Int32} {f n B i : Nat} (h : ¬ m9_cs f n B i) : m9_chn M x f n B (i + 1) = m9_chn M x f n B i := by
  rw [m9_chn, m9_sum_s, if_neg h, m9_add0]; rfl
theorem m9_chn_0 (M : k9_Mem) (x : Int32) (f n B : Nat) : ∀ i, i ≤ f → m9_chn M x f n B i = 0
  | 0, _ => rfl
  | i + 1, h => by rw [m9_chn_no (fun z => by have := z.1; omega), m9_chn_0 M x f n B i (by omega)]
theorem ct_X3_cut (l : Launch) (G : k9_G) (M : k9_Mem) {i : Nat} (h : i < 96) (x : Int32) : k9_Ci l yX3_cut wsX3_cut rm_X3_cut G M [.ref (k9_ga G 1), .int (nI i), .int x] (m9_bi (M 2 i &&& x = 0)) (k9_st (k9_st M 2 i (M 2 i ||| x)) 3 i (M 3 i &&& (x ^^^ (-1)))) := by
  refine k9_metI (own := RX3) (by decide +kernel) rfl rfl (Nat.le_of_ble_eq_true rfl) rfl ?_
  intro p e s m args below meth c A Q X HR
  have ee : (nI i).toNatClampNeg = i := m9_cl (by omega)
  refine bk_X3_cut_0 X (ct_X6_isStep l G M _) (fun c1 => m9_in h (by decide)) (fun c1 c2 => ?_) (fun c1 c2 => ?_) (fun c1 => ?_)
  · rw [ee] at c2 ⊢
    exact k9_eq rfl (by rw [m9_bi_f c2]) (HR 49 [] dX3_cut_49)
  · rw [ee] at c2 ⊢
    exact k9_eq rfl (by rw [m9_bi_t c2]) (HR 49 [] dX3_cut_49)
  · exact absurd (m9_isS_nI h) (m9_bi_0 c1)
/-- the next one at which a chain is cut, from a step on -/
theorem m9_nx {k b nx : Nat} (h1 : k ≤ nx) (h2 : nx < k + (b + 1)) (h3 : nx % (b + 1) = 0) : (k % (b + 1) = 0 ↔ k = nx) := by
  constructor
  · intro h
    obtain ⟨u, hu⟩ := Nat.dvd_of_mod_eq_zero h
    obtain ⟨v, hv⟩ := Nat.dvd_of_mod_eq_zero h3
    have h4 : (b + 1) * v < (b + 1) * (u + 1) := by rw [Nat.mul_add, ← hu, ← hv, Nat.mul_one]; exact h2
    have h5 : (b + 1) * u ≤ (b + 1) * v := by rw [← hu, ← hv]; exact h1
    have h6 := Nat.lt_of_mul_lt_mul_left h4
    have h7 := Nat.le_of_mul_le_mul_left h5 (Nat.succ_pos b)
    have : u = v := by omega
    rw [hu, hv, this]
  · intro h; rw [h]; exact h3
