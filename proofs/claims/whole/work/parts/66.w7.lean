/-! The reference: what sounds, what is wished, numbers of a step. -/
theorem ct_X7_isDown (l : Launch) (G : k9_G) (M : k9_Mem) {i : Nat} (hi : i < 96) : k9_Ci l yX7_isDown wsX7_isDown rm_X7_isDown G M [.ref (k9_ga G 76), .int (nI i)] (m9_bi (m9_one (M 83 i) 20)) M := by
  refine k9_metI (own := RX7) (by decide +kernel) rfl rfl (Nat.le_of_ble_eq_true rfl) m9_nb ?_
  intro p e s m args below meth c A Q X HR
  have ee : (nI i).toNatClampNeg = i := m9_cl (by omega)
  refine bk_X7_isDown_0 X (m9_in hi (by decide)) (fun c1 => ?_) (fun c1 => ?_)
  · rw [ee] at c1
    have c1 : ¬ m9_one (M 83 i) 20 := c1
    exact k9_eq rfl (by rw [m9_bi_f c1]) (HR 20 [] dX7_isDown_20)
  · rw [ee] at c1
    have c1 : m9_one (M 83 i) 20 := c1
    exact k9_eq rfl (by rw [m9_bi_t c1]) (HR 20 [] dX7_isDown_20)
/-- how far a note that ends at g sounds -/
def m9_sto (M : k9_Mem) (n g : Nat) : Nat := if m9_one (M 83 g) 20 then g + fa_first (fun j => decide (m9_one (M 81 (g + 1 + j)) n)) (m9_ef (M 82) 20 g - g) else g
/-- a place of what is laid, with its last step -/
abbrev m9_pl2 (M : k9_Mem) (c : Nat) : Prop := ∃ n i g : Nat, M 84 c = nI n ∧ n < 20 ∧ M 85 c = nI i ∧ i ≤ g ∧ M 86 c = nI g ∧ g < 96 ∧ (m9_one (M 83 g) 20 → m9_ef (M 82) 20 g < 96)
def m9_stc (M : k9_Mem) (c : Nat) : Int32 := nI (m9_sto M (M 84 c).toNatClampNeg (M 86 c).toNatClampNeg)
theorem ct_X7_soundsTo (l : Launch) (G : k9_G) (M : k9_Mem) {c9 : Nat} (hc : c9 < 960) (hp : m9_pl2 M c9) : k9_Ci l yX7_soundsTo wsX7_soundsTo rm_X7_soundsTo G M [.ref (k9_ga G 76), .int (nI c9)] (m9_stc M c9) M := by
  refine k9_metI (own := RX7) (by decide +kernel) rfl rfl (Nat.le_of_ble_eq_true rfl) rfl ?_
  intro p e s m args below meth c A Q X HR
  obtain ⟨n, i, g, h1, h2, h3, h4, h5, h6, h7⟩ := hp
  have ee : (nI c9).toNatClampNeg = c9 := m9_cl (by omega)
  have en : (M 84 c9).toNatClampNeg = n := by rw [h1, m9_cl (by omega)]
  have eg : (M 86 c9).toNatClampNeg = g := by rw [h5, m9_cl (by omega)]
  have hst : m9_stc M c9 = nI (m9_sto M n g) := by rw [m9_stc, en, eg]
  rw [hst] at HR
  refine bk_X7_soundsTo_0 (rv1 := m9_bi (m9_one (M 83 g) 20)) (rv2 := nI (m9_ef (M 82) 20 g)) X (m9_in hc (by decide)) ?_ (fun c1 => ?_) (fun c1 => ?_) (fun c1 => ?_)
  · rw [ee, h5]; exact ct_X7_isDown l G M h6
  · rw [ee, h5]; exact ct_X7_endFrom l G M (n := 20) (h7 (m9_bi_1 c1))
  · have hd := m9_bi_1 c1
    have hE := h7 hd
    have hge := m9_ef_ge (M 82) 20 g
    obtain ⟨E, hEe⟩ : ∃ E, E = m9_ef (M 82) 20 g := ⟨_, rfl⟩
    rw [m9_sto, if_pos hd, ← hEe] at HR
    rw [← hEe] at hE hge ⊢
    obtain ⟨pq, hpq⟩ : ∃ pq : Nat → Bool, pq = fun j => decide (m9_one (M 81 (g + 1 + j)) n) := ⟨_, rfl⟩
    rw [← hpq] at HR
    have hfl := fa_first_le pq (E - g)
    rw [ee, h5, nI_1]
    have loop : ∀ j, j ≤ fa_first pq (E - g) → k9_U p l e rm_X7_soundsTo s m args below meth c Q A G 5 0 0 M 33 [(0, .ref (k9_ga G 76)), (1, .int (nI c9)), (3, .int (nI E)), (4, .int (nI (g + 1 + j)))] [] := by
      refine m9_down (fa_first pq (E - g)) (fun j hj next => ?_)
      have hlt : nI E < nI (g + 1 + j) ↔ E < g + 1 + j := m9_lt (by omega) (by omega)
      have e4 : (nI (g + 1 + j)).toNatClampNeg = g + 1 + j := m9_cl (by omega)
      have hone : (M 81 (g + 1 + j) >>> (nI n &&& 31)) &&& 1 = 1 ↔ pq j = true := by rw [hpq]; exact decide_eq_true_iff.symm
      have go : ¬ nI E < nI (g + 1 + j) → g + 1 + j ≤ E := fun c2 => by
        rcases Nat.lt_or_ge E (g + 1 + j) with q | q
        · exact absurd (hlt.mpr q) c2
        · exact q
      refine bk_X7_soundsTo_33 X (fun c2 => ?_) (fun c2 => ?_) (fun c2 => m9_in hc (by decide)) (fun c2 c3 => ?_) (fun c2 c3 => ?_)
      · have h9 := hlt.mp c2
        have : g + fa_first pq (E - g) = E := by omega
        rw [this] at HR
        exact HR 71 [] dX7_soundsTo_71
      · have := go c2
        exact m9_in (by omega) (by decide)
      · rw [ee, h1, e4] at c3
        have h9 := go c2
        rw [nI_1]
        refine next ?_
        rcases Nat.lt_or_ge j (fa_first pq (E - g)) with q | q
        · exact q
        · have hj2 : j = fa_first pq (E - g) := by omega
          have hy := fa_first_yes pq (E - g) (by omega)
          rw [← hj2] at hy
          exact absurd (hone.mpr hy) c3
      · rw [ee, h1, e4] at c3
        have h9 := go c2
        have hj2 : j = fa_first pq (E - g) := by
          rcases Nat.lt_or_ge j (fa_first pq (E - g)) with q | q
          · have := fa_first_no pq (E - g) j q
            rw [hone.mp c3] at this
            exact absurd this (by decide)
          · omega
        rw [m9_sub1 (by omega), show g + 1 + j - 1 = g + j by omega, hj2]
        exact HR 63 [] dX7_soundsTo_63
    exact loop 0 (by omega)
  · rw [m9_sto, if_neg (m9_bi_0 c1)] at HR
    rw [ee, h5]
    exact HR 16 [] dX7_soundsTo_16
abbrev m9_lai2 (M : k9_Mem) (C : Nat) : Prop := M 76 13 = nI C ∧ C ≤ 960 ∧ ∀ c, c < C → m9_pl2 M c
def m9_sat (M : k9_Mem) (i : Nat) : Nat → Int32
  | 0 => 0
  | k + 1 => m9_sat M i k ||| (if ¬ nI i < M 85 k ∧ ¬ m9_stc M k < nI i then (1 : Int32) <<< (M 84 k &&& 31) else 0)
theorem ct_X7_soundAt (l : Launch) (G : k9_G) (M : k9_Mem) {C : Nat} (h : m9_lai2 M C) (i : Nat) : k9_Ci l yX7_soundAt wsX7_soundAt rm_X7_soundAt G M [.ref (k9_ga G 76), .int (nI i)] (m9_sat M i C) M := by
  refine k9_metI (own := RX7) (by decide +kernel) rfl rfl (Nat.le_of_ble_eq_true rfl) rfl ?_
  intro p e s m args below meth c A Q X HR
  obtain ⟨h1, h2, h3⟩ := h
  have loop : ∀ k, k ≤ C → k9_U p l e rm_X7_soundAt s m args below meth c Q A G 4 0 0 M 4 [(0, .ref (k9_ga G 76)), (1, .int (nI i)), (2, .int (m9_sat M i k)), (3, .int (nI k))] [] := by
    refine m9_down C (fun k hk next => ?_)
    have ee : (nI k).toNatClampNeg = k := m9_cl (by omega)
    have st : m9_sat M i (k + 1) = m9_sat M i k ||| (if ¬ nI i < M 85 k ∧ ¬ m9_stc M k < nI i then (1 : Int32) <<< (M 84 k &&& 31) else 0) := rfl
    refine bk_X7_soundAt_4 (rv1 := m9_stc M k) X (fun c1 => ?_) (fun c1 => ?_) (fun c1 c2 => ?_) (fun c1 c2 => ?_) (fun c1 c2 c3 => ?_) (fun c1 c2 c3 => ?_)
    · rw [h1] at c1
      have hi2 := m9_ex (N := C) (by omega) hk c1
      subst hi2
      exact HR 53 [] dX7_soundAt_53
    · rw [h1] at c1
      have := m9_go (N := C) (by omega) hk c1
      exact m9_in (by omega) (by decide)
    · rw [h1] at c1
      rw [ee] at c2
      have h9 := next (m9_go (N := C) (by omega) hk c1)
      rw [st, if_neg (fun z => z.1 c2)] at h9
      rw [nI_1]; exact h9
    · rw [h1] at c1
      have h9 := m9_go (N := C) (by omega) hk c1
      exact ct_X7_soundsTo l G M (by omega) (h3 k h9)
    · rw [h1] at c1
      have h9 := next (m9_go (N := C) (by omega) hk c1)
      rw [st, if_neg (fun z => z.2 c3)] at h9
      rw [nI_1]; exact h9
    · rw [h1] at c1
      rw [ee] at c2
      have h9 := next (m9_go (N := C) (by omega) hk c1)
      rw [st, if_pos ⟨c2, c3⟩] at h9
      rw [ee, nI_1]; exact h9
  exact bk_X7_soundAt_0 X (loop 0 (by omega))
theorem m9_wn_nI {j : Nat} (h : j < 2147483648) : m9_wn (nI j) 0 95 ↔ j < 96 := by
  have h1 : ¬ nI j < 0 := nI_pos h
  have h2 : (95 : Int32) < nI j ↔ 95 < j := m9_lt (a := 95) (by decide) h
  constructor
  · intro z
    have : ¬ 95 < j := fun q => z.2 (h2.mpr q)
    omega
  · intro z; exact ⟨h1, fun q => by have := h2.mp q; omega⟩
theorem m9_wn_sub {i b : Nat} (hi : i < 96) (hb : b < 1000) : m9_wn (nI i - nI b) 0 95 ↔ b ≤ i := by
  constructor
  · intro z
    rcases Nat.lt_or_ge i b with q | q
    · have e1 : (nI i).toInt = i := nI_toInt (by omega)
      have e2 : (nI b).toInt = b := nI_toInt (by omega)
      have e3 : (nI i - nI b).toInt = (i : Int) - b := by
        rw [fb_subI (by rw [e1, e2]; omega) (by rw [e1, e2]; omega), e1, e2]
      exact absurd ((fa_lt _ _).mpr (by rw [e3]; show (i : Int) - b < 0; omega)) z.1
    · exact q
  · intro z
    rw [pk_sub z]
    exact (m9_wn_nI (by omega)).mpr (by omega)
/-- notes play up to j steps before; notes begin up to j steps after -/
abbrev m9_aw (M : k9_Mem) (i j : Nat) : Prop := ∃ b, 1 ≤ b ∧ b ≤ j ∧ b ≤ i ∧ ¬ M 83 (i - b) &&& 1048575 = 0
abbrev m9_bw (M : k9_Mem) (i j : Nat) : Prop := ∃ b, 1 ≤ b ∧ b ≤ j ∧ i + b < 96 ∧ ¬ M 81 (i + b) &&& 1048575 = 0
abbrev m9_fg (x : Int32) (P : Prop) : Prop := (x = 1 ∧ P) ∨ (x = 0 ∧ ¬ P)
theorem m9_ex_s {P : Nat → Prop} {j : Nat} : (∃ b, 1 ≤ b ∧ b ≤ j + 1 ∧ P b) ↔ (∃ b, 1 ≤ b ∧ b ≤ j ∧ P b) ∨ P (j + 1) := by
  constructor
  · rintro ⟨b, h1, h2, h3⟩
    rcases Nat.lt_or_ge j b with q | q
    · exact Or.inr ((show b = j + 1 by omega) ▸ h3)
    · exact Or.inl ⟨b, h1, q, h3⟩
  · rintro (⟨b, h1, h2, h3⟩ | h)
    · exact ⟨b, h1, by omega, h3⟩
    · exact ⟨j + 1, by omega, by omega, h⟩
theorem ct_X7_isWished (l : Launch) (G : k9_G) (M : k9_Mem) {i R : Nat} (hi : i < 96) (hR : R < 900) (hM : M 77 385 = nI R) [Decidable (M 83 i &&& 1048575 = 0 ∧ m9_aw M i R ∧ m9_bw M i R)] : k9_Ci l yX7_isWished wsX7_isWished rm_X7_isWished G M [.ref (k9_ga G 76), .int (nI i)] (m9_bi (M 83 i &&& 1048575 = 0 ∧ m9_aw M i R ∧ m9_bw M i R)) M := by
  refine k9_metI (own := RX7) (by decide +kernel) rfl rfl (Nat.le_of_ble_eq_true rfl) m9_nb ?_
  intro p e s m args below meth c A Q X HR
  have ee : (nI i).toNatClampNeg = i := m9_cl (by omega)
  have as : ∀ j, m9_aw M i (j + 1) ↔ m9_aw M i j ∨ (j + 1 ≤ i ∧ ¬ M 83 (i - (j + 1)) &&& 1048575 = 0) := fun j => m9_ex_s
  have bs : ∀ j, m9_bw M i (j + 1) ↔ m9_bw M i j ∨ (i + (j + 1) < 96 ∧ ¬ M 81 (i + (j + 1)) &&& 1048575 = 0) := fun j => m9_ex_s
  have second : ∀ j, j < R → (∀ x y, m9_fg x (m9_aw M i (j + 1)) → m9_fg y (m9_bw M i (j + 1)) → k9_U p l e rm_X7_isWished s m args below meth c Q A G 6 0 0 M 11 [(0, .ref (k9_ga G 76)), (1, .int (nI i)), (2, .int 1048575), (3, .int x), (4, .int y), (5, .int (nI (j + 1 + 1)))] []) →
      ∀ x y, m9_fg x (m9_aw M i (j + 1)) → m9_fg y (m9_bw M i j) → k9_U p l e rm_X7_isWished s m args below meth c Q A G 6 0 0 M 58 [(0, .ref (k9_ga G 76)), (1, .int (nI i)), (2, .int 1048575), (3, .int x), (4, .int y), (5, .int (nI (j + 1)))] [] := by
    intro j hj out x y hx hy
    have e1 : nI i + nI (j + 1) = nI (i + (j + 1)) := nI_add _ _
    have e2 : (nI (i + (j + 1))).toNatClampNeg = i + (j + 1) := m9_cl (by omega)
    have hw : m9_wn (nI (i + (j + 1))) 0 95 ↔ i + (j + 1) < 96 := m9_wn_nI (by omega)
    have ny : y = 0 → ¬ m9_bw M i j := fun h => by
      rcases hy with q | q
      · exact absurd (q.1.symm.trans h) (by decide)
      · exact q.2
    refine bk_X7_isWished_58 (rv1 := m9_bi (m9_wn (nI (i + (j + 1))) 0 95)) X (fun c1 => ?_) (fun c1 => ?_) (fun c1 c2 => ?_) (fun c1 c2 => ?_) (fun c1 c2 c3 => ?_) (fun c1 c2 c3 => ?_)
    · rw [nI_1]
      refine out x 1 hx (Or.inl ⟨rfl, (bs j).mpr (Or.inl ?_)⟩)
      rcases hy with q | q
      · exact q.2
      · exact absurd q.1 c1
    · rw [e1]; exact ct_X7_isStep l G M _
    · rw [nI_1]
      refine out x 0 hx (Or.inr ⟨rfl, fun z => ?_⟩)
      rcases (bs j).mp z with q | q
      · exact ny c1 q
      · exact m9_bi_0 c2 (hw.mpr q.1)
    · rw [e1]; exact m9_in (hw.mp (m9_bi_1 c2)) (by decide)
    · rw [e1, e2] at c3
      rw [nI_1]
      refine out x 0 hx (Or.inr ⟨rfl, fun z => ?_⟩)
      rcases (bs j).mp z with q | q
      · exact ny c1 q
      · exact q.2 c3
    · rw [e1, e2] at c3
      rw [nI_1]
      exact out x 1 hx (Or.inl ⟨rfl, (bs j).mpr (Or.inr ⟨hw.mp (m9_bi_1 c2), c3⟩)⟩)
  have loop : ∀ j, j ≤ R → ∀ x y, m9_fg x (m9_aw M i j) → m9_fg y (m9_bw M i j) → k9_U p l e rm_X7_isWished s m args below meth c Q A G 6 0 0 M 11 [(0, .ref (k9_ga G 76)), (1, .int (nI i)), (2, .int 1048575), (3, .int x), (4, .int y), (5, .int (nI (j + 1)))] [] := by
    refine m9_down R (fun j hj next x y hx hy => ?_)
    have hlt : M 77 385 < nI (j + 1) ↔ R < j + 1 := by rw [hM]; exact m9_lt (by omega) (by omega)
    have go : ¬ M 77 385 < nI (j + 1) → j < R := fun c1 => by
      have : ¬ R < j + 1 := fun z => c1 (hlt.mpr z)
      omega
    have hw : m9_wn (nI i - nI (j + 1)) 0 95 ↔ j + 1 ≤ i := m9_wn_sub hi (by omega)
    have nx : x = 0 → ¬ m9_aw M i j := fun h => by
      rcases hx with q | q
      · exact absurd (q.1.symm.trans h) (by decide)
      · exact q.2
    have fin : M 77 385 < nI (j + 1) → j = R := fun c1 => by have := hlt.mp c1; omega
    refine bk_X7_isWished_11 X (fun c1 => m9_in hi (by decide)) (fun c1 c2 => ?_) (fun c1 c2 c3 => ?_) (fun c1 c2 c3 c4 => ?_) (fun c1 c2 c3 c4 => ?_) (fun c1 c2 => ?_) (fun c1 c2 => ct_X7_isStep l G M _) (fun c1 c2 c3 => ?_) (fun c1 c2 c3 => ?_) (fun c1 c2 c3 c4 => ?_) (fun c1 c2 c3 c4 => ?_)
    · rw [ee] at c2
      exact k9_eq rfl (by rw [m9_bi_f (fun z => c2 z.1)]) (HR 125 [] dX7_isWished_125)
    · have hj2 := fin c1
      subst hj2
      exact k9_eq rfl (by rw [m9_bi_f (fun z => nx c3 z.2.1)]) (HR 125 [] dX7_isWished_125)
    · have hj2 := fin c1
      subst hj2
      have nb : ¬ m9_bw M i j := by
        rcases hy with q | q
        · exact absurd (q.1.symm.trans c4) (by decide)
        · exact q.2
      exact k9_eq rfl (by rw [m9_bi_f (fun z => nb z.2.2)]) (HR 125 [] dX7_isWished_125)
    · have hj2 := fin c1
      subst hj2
      rw [ee] at c2
      have ya : m9_aw M i j := by
        rcases hx with q | q
        · exact q.2
        · exact absurd q.1 c3
      have yb : m9_bw M i j := by
        rcases hy with q | q
        · exact q.2
        · exact absurd q.1 c4
      exact k9_eq rfl (by rw [m9_bi_t ⟨c2, ya, yb⟩]) (HR 125 [] dX7_isWished_125)
    · refine second j (go c1) (next (go c1)) 1 y (Or.inl ⟨rfl, (as j).mpr (Or.inl ?_)⟩) hy
      rcases hx with q | q
      · exact q.2
      · exact absurd q.1 c2
    · refine second j (go c1) (next (go c1)) 0 y (Or.inr ⟨rfl, fun z => ?_⟩) hy
      rcases (as j).mp z with q | q
      · exact nx c2 q
      · exact m9_bi_0 c3 (hw.mpr q.1)
    · have h9 := hw.mp (m9_bi_1 c3)
      rw [pk_sub h9]; exact m9_in (by omega) (by decide)
    · have h9 := hw.mp (m9_bi_1 c3)
      rw [pk_sub h9, m9_cl (by omega)] at c4
      refine second j (go c1) (next (go c1)) 0 y (Or.inr ⟨rfl, fun z => ?_⟩) hy
      rcases (as j).mp z with q | q
      · exact nx c2 q
      · exact q.2 c4
    · have h9 := hw.mp (m9_bi_1 c3)
      rw [pk_sub h9, m9_cl (by omega)] at c4
      exact second j (go c1) (next (go c1)) 1 y (Or.inl ⟨rfl, (as j).mpr (Or.inr ⟨h9, c4⟩)⟩) hy
  refine bk_X7_isWished_0 X (loop 0 (by omega) 0 0 (Or.inr ⟨rfl, ?_⟩) (Or.inr ⟨rfl, ?_⟩))
  · rintro ⟨b, h1, h2, -⟩; omega
  · rintro ⟨b, h1, h2, -⟩; omega
