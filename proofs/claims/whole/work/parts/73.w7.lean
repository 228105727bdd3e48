/-! The reference: a figure of the text. -/
abbrev m9_fF (M : k9_Mem) : Prop := M 76 16 = 0 ∨ M 76 16 = 3 ∨ M 76 16 = 5
def m9_fv (M : k9_Mem) (A : Nat) (x : Int32) : Int32 := if m9_fF M then 0 + x - 48 else 10 * M 87 A + x - 48
abbrev m9_fO (M : k9_Mem) (A : Nat) (x lo hi : Int32) : Prop := m9_wn x 48 57 ∧ m9_wn (m9_fv M A x) lo hi ∧ (m9_fF M ∨ ¬ M 87 A ≤ 0)
def m9_fM (M : k9_Mem) (A : Nat) (x lo hi : Int32) : k9_Mem := if m9_fO M A x lo hi then k9_st (k9_st M 87 A (m9_fv M A x)) 76 16 (M 76 16 + m9_bi (m9_fF M)) else M
theorem m9_st_same {M : k9_Mem} {k i : Nat} {v : Int32} (h : M k i = v) : k9_st M k i v = M := by
  unfold k9_st
  rw [m9_upd_same h, m9_sc_same rfl]
theorem ct_X7_takesFigure (l : Launch) (G : k9_G) (M : k9_Mem) {rd pl : Nat} (hr : M 76 15 = nI rd) (hA : 3 * rd + pl < 36) (x lo hi : Int32) : k9_Ci l yX7_takesFigure wsX7_takesFigure rm_X7_takesFigure G M [.ref (k9_ga G 76), .int x, .int (nI pl), .int lo, .int hi] (m9_bi (m9_fO M (3 * rd + pl) x lo hi)) (m9_fM M (3 * rd + pl) x lo hi) := by
  refine k9_metI (own := RX7) (by decide +kernel) rfl rfl (Nat.le_of_ble_eq_true rfl) m9_nb ?_
  intro p e s m args below meth c A Q X HR
  obtain ⟨a, ha⟩ : ∃ a, a = 3 * rd + pl := ⟨_, rfl⟩
  rw [← ha] at HR hA
  have e1 : (3 : Int32) * M 76 15 + nI pl = nI a := by rw [hr, show (3 : Int32) = nI 3 from rfl, pk_mul, nI_add, ha]
  have ee : (nI a).toNatClampNeg = a := m9_cl (by omega)
  have hin : vp_in (nI a) 36 := m9_in hA (by decide)
  have e7 : ∀ v, k9_st M 87 a v 76 16 = M 76 16 := fun v => by rw [m9_st_ne _ _ _ (by decide)]
  have third : ∀ y, m9_fg y (m9_fO M a x lo hi) → k9_U p l e rm_X7_takesFigure s m args below meth c Q A G 9 0 0 M 110 [(0, .ref (k9_ga G 76)), (5, .int (nI a)), (6, .int (m9_bi (m9_fF M))), (7, .int (m9_fv M a x)), (8, .int y)] [] := fun y hy => by
    have h9 := HR 160 [] dX7_takesFigure_160
    refine bk_X7_takesFigure_110 X (fun c1 => hin) (fun c1 => ?_) (fun c1 => hin) (fun c1 c2 => ?_) (fun c1 c2 => ?_)
    · rcases hy with h | h
      · exact absurd (h.1.symm.trans c1) (by decide)
      · rw [m9_bi_f h.2, m9_fM, if_neg h.2] at h9
        rw [ee, m9_st_same rfl, m9_add0, m9_st_same rfl, c1]
        exact h9
    · rcases hy with h | h
      · rw [m9_bi_t h.2, m9_fM, if_pos h.2, c2] at h9
        rw [ee, h.1]
        exact h9
      · exact absurd h.1 c1
    · rcases hy with h | h
      · rw [m9_bi_t h.2, m9_fM, if_pos h.2, m9_bi_t (m9_bi_1 c2)] at h9
        rw [ee, h.1]
        exact h9
      · exact absurd h.1 c1
  have second : k9_U p l e rm_X7_takesFigure s m args below meth c Q A G 9 0 0 M 66 [(0, .ref (k9_ga G 76)), (1, .int x), (3, .int lo), (4, .int hi), (5, .int (nI a)), (6, .int (m9_bi (m9_fF M))), (7, .int (m9_fv M a x))] [] := by
    refine bk_X7_takesFigure_66 X (ct_X7_within l G M _ _ _) (fun c1 => ?_) (fun c1 => ct_X7_within l G M _ _ _) (fun c1 c2 => ?_) (fun c1 c2 c3 => ?_) (fun c1 c2 c3 => hin) (fun c1 c2 c3 c4 => ?_) (fun c1 c2 c3 c4 => ?_)
    · exact third 0 (Or.inr ⟨rfl, fun z => m9_bi_0 c1 z.1⟩)
    · exact third 0 (Or.inr ⟨rfl, fun z => m9_bi_0 c2 z.2.1⟩)
    · exact third 1 (Or.inl ⟨rfl, m9_bi_1 c1, m9_bi_1 c2, Or.inl (m9_bi_1 c3)⟩)
    · rw [ee] at c4
      exact third 0 (Or.inr ⟨rfl, fun z => z.2.2.elim (m9_bi_0 c3) (fun q => q c4)⟩)
    · rw [ee] at c4
      exact third 1 (Or.inl ⟨rfl, m9_bi_1 c1, m9_bi_1 c2, Or.inr c4⟩)
  have yes : m9_fF M → k9_U p l e rm_X7_takesFigure s m args below meth c Q A G 9 0 0 M 66 [(0, .ref (k9_ga G 76)), (1, .int x), (3, .int lo), (4, .int hi), (5, .int ((3 : Int32) * M 76 15 + nI pl)), (6, .int 1), (7, .int (0 + x - 48))] [] := fun h => by
    rw [m9_bi_t h, m9_fv, if_pos h] at second
    rw [e1]; exact second
  refine bk_X7_takesFigure_0 X (fun c1 => yes (Or.inl c1)) (fun c1 c2 => yes (Or.inr (Or.inl c2))) (fun c1 c2 c3 => by rw [e1]; exact hin) (fun c1 c2 c3 => ?_) (fun c1 c2 c3 => yes (Or.inr (Or.inr c3)))
  have h : ¬ m9_fF M := fun z => z.elim c1 (fun z => z.elim c2 c3)
  rw [m9_bi_f h, m9_fv, if_neg h] at second
  rw [e1, ee]; exact second
def m9_gM (M : k9_Mem) (z n : Int32) : k9_Mem := if z = 0 then M else k9_st M 76 16 n
theorem ct_X7_goesOn (l : Launch) (G : k9_G) (M : k9_Mem) (z n : Int32) (hz : z = 0 ∨ z = 1) : k9_Ci l yX7_goesOn wsX7_goesOn rm_X7_goesOn G M [.ref (k9_ga G 76), .int z, .int n] z (m9_gM M z n) := by
  refine k9_metI (own := RX7) (by decide +kernel) rfl rfl (Nat.le_of_ble_eq_true rfl) (m9_nz hz) ?_
  intro p e s m args below meth c A Q X HR
  refine bk_X7_goesOn_0 X (fun c1 => ?_) (fun c1 => ?_)
  · rw [m9_gM, if_pos c1] at HR
    rw [m9_st_same rfl]; exact HR 17 [] dX7_goesOn_17
  · rw [m9_gM, if_neg c1] at HR
    exact HR 17 [] dX7_goesOn_17
