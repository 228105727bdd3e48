/-! Plain mathematics: the text is read alike. -/
/-- the reference's reading without its two rows of numbers -/
def q9_z (N : k9_Mem) : Nat → k9_Mem
  | 0 => k9_st (k9_st N 76 15 0) 76 16 0
  | i + 1 => m9_tm (q9_z N i) (q9_z N i 76 15).toNatClampNeg (q9_z N i 76 16).toNatClampNeg (N 79 i)
def q9_zrd (N : k9_Mem) (i : Nat) : Nat := (q9_z N i 76 15).toNatClampNeg
def q9_zd (N : k9_Mem) (i : Nat) : Nat := (q9_z N i 76 16).toNatClampNeg
theorem q9_z_eq (N : k9_Mem) : ∀ i, m9_xr N (q9_zrd N) (q9_zd N) i = q9_z N i
  | 0 => rfl
  | i + 1 => by
    show m9_tm (m9_xr N (q9_zrd N) (q9_zd N) i) (q9_zrd N i) (q9_zd N i) (N 79 i) = _
    rw [q9_z_eq N i]; rfl
def q9_tvo (C Z : k9_Mem) (r : Nat) : Prop := C 66 8 = Z 87 (3 * r) + 1 ∧ (Z 87 (3 * r) = -1 ∨ ∃ v, v < 20 ∧ Z 87 (3 * r) = nI v)
def q9_fi (C Z : k9_Mem) (r : Nat) : Prop := ∃ f, f < 96 ∧ C 66 9 = nI f ∧ Z 87 (3 * r + 1) = nI f
/-- a part that is read -/
def q9_pt (C Z : k9_Mem) (p : Nat) : Prop := C 68 p = Z 87 (3 * p) + 1 ∧ (Z 87 (3 * p) = -1 ∨ ∃ v, v < 20 ∧ Z 87 (3 * p) = nI v) ∧ ∃ f n, f < 96 ∧ 1 ≤ n ∧ n ≤ 96 ∧ C 69 p = nI f ∧ Z 87 (3 * p + 1) = nI f ∧ C 70 p = nI n ∧ Z 87 (3 * p + 2) = nI n
def q9_S (C Z : k9_Mem) (r d : Nat) : Prop :=
  (d = 0 ∧ C 66 6 = 0 ∧ C 66 7 = -1) ∨
  (d = 1 ∧ C 66 6 = 0 ∧ ∃ v, v ≤ 19 ∧ C 66 7 = nI v ∧ Z 87 (3 * r) = nI v) ∨
  (d = 2 ∧ C 66 6 = 0 ∧ C 66 7 = -2 ∧ Z 87 (3 * r) = -1) ∨
  (d = 3 ∧ C 66 6 = 1 ∧ C 66 7 = -1 ∧ q9_tvo C Z r) ∨
  (d = 4 ∧ C 66 6 = 1 ∧ (∃ v, v ≤ 95 ∧ C 66 7 = nI v ∧ Z 87 (3 * r + 1) = nI v) ∧ q9_tvo C Z r) ∨
  (d = 5 ∧ C 66 6 = 2 ∧ C 66 7 = -1 ∧ q9_tvo C Z r ∧ q9_fi C Z r) ∨
  (d = 6 ∧ C 66 6 = 2 ∧ (∃ v, 1 ≤ v ∧ v ≤ 96 ∧ C 66 7 = nI v ∧ Z 87 (3 * r + 2) = nI v) ∧ q9_tvo C Z r ∧ q9_fi C Z r)
def q9_mn (d : Nat) : Nat := if d ≤ 1 then d else d - 1
def q9_L (C Z : k9_Mem) (r d i : Nat) : Prop := Z 76 15 = nI r ∧ Z 76 16 = nI d ∧ 6 * r + q9_mn d ≤ i ∧ C 66 5 = nI r ∧ (∀ p, p < r → q9_pt C Z p) ∧ q9_S C Z r d
theorem q9_digit {x : Int32} (h : m9_isD x) : ∃ g, g ≤ 9 ∧ x = nI (48 + g) := by
  obtain ⟨n1, n2, n3⟩ := m9_rng (lo := 48) (hi := 57) (by decide) h.1 h.2 (by decide)
  exact ⟨x.toNatClampNeg - 48, by omega, by rw [show 48 + (x.toNatClampNeg - 48) = x.toNatClampNeg from by omega]; exact n1⟩
theorem q9_x48 (g : Nat) : nI (48 + g) - 48 = nI g := by
  rw [show (48 : Int32) = nI 48 from rfl, pk_sub (by omega), Nat.add_sub_cancel_left]
theorem q9_fvF {Z : k9_Mem} {A g : Nat} (hF : m9_fF Z) : m9_fv Z A (nI (48 + g)) = nI g := by
  unfold m9_fv
  rw [if_pos hF, show (0 : Int32) = nI 0 from rfl, nI_add, Nat.zero_add, q9_x48]
theorem q9_fvN {Z : k9_Mem} {A g v : Nat} (hF : ¬ m9_fF Z) (hv : Z 87 A = nI v) : m9_fv Z A (nI (48 + g)) = nI (10 * v + g) := by
  unfold m9_fv
  rw [if_neg hF, hv, show (10 : Int32) = nI 10 from rfl, pk_mul, nI_add, show 10 * v + (48 + g) = 48 + (10 * v + g) from by omega, q9_x48]
theorem q9_wnN {a lo hi : Nat} (ha : a < 2147483648) (hl : lo < 2147483648) (hh : hi < 2147483648) : m9_wn (nI a) (nI lo) (nI hi) ↔ lo ≤ a ∧ a ≤ hi := by
  unfold m9_wn
  rw [m9_lt ha hl, m9_lt hh ha]
  omega
theorem q9_fO1 {Z : k9_Mem} {A g lo hi : Nat} (hF : m9_fF Z) (hg : g ≤ 9) (hl : lo < 1000) (hh : hi < 1000) : m9_fO Z A (nI (48 + g)) (nI lo) (nI hi) ↔ (lo ≤ g ∧ g ≤ hi) := by
  unfold m9_fO
  rw [q9_fvF hF, q9_wnN (by omega) (by omega) (by omega), show (48 : Int32) = nI 48 from rfl, show (57 : Int32) = nI 57 from rfl, q9_wnN (by omega) (by omega) (by omega)]
  constructor
  · intro h; exact h.2.1
  · intro h; exact ⟨by omega, h, Or.inl hF⟩
theorem q9_fO2 {Z : k9_Mem} {A g v lo hi : Nat} (hF : ¬ m9_fF Z) (hv : Z 87 A = nI v) (hv2 : v < 1000) (hg : g ≤ 9) (hl : lo < 1000) (hh : hi < 1000) : m9_fO Z A (nI (48 + g)) (nI lo) (nI hi) ↔ (lo ≤ 10 * v + g ∧ 10 * v + g ≤ hi) ∧ v ≠ 0 := by
  unfold m9_fO
  rw [q9_fvN hF hv, q9_wnN (by omega) (by omega) (by omega), show (48 : Int32) = nI 48 from rfl, show (57 : Int32) = nI 57 from rfl, q9_wnN (by omega) (by omega) (by omega), hv, show (0 : Int32) = nI 0 from rfl, m9_le (by omega) (by omega)]
  constructor
  · rintro ⟨_, h2, h3⟩
    refine ⟨h2, ?_⟩
    rcases h3 with h3 | h3
    · exact absurd h3 hF
    · omega
  · rintro ⟨h2, h3⟩
    exact ⟨by omega, h2, Or.inr (by omega)⟩
theorem q9_dgo1 {C : k9_Mem} {g L : Nat} (h7 : C 66 7 = -1) (hl : m9_lrg (C 66 6) = nI L) (hg : g ≤ 9) (hL : 9 ≤ L) (hL2 : L < 1000) : m9_dgo C (nI g) ↔ ¬ (g = 0 ∧ C 66 6 = 2) := by
  have ht : m9_tdv C (nI g) = nI g := by
    unfold m9_tdv
    rw [if_pos h7]
  unfold m9_dgo
  rw [ht, hl, h7, m9_lt (by omega) (by omega), show (0 : Int32) = nI 0 from rfl, m9_eq (by omega) (by omega)]
  constructor
  · rintro ⟨_, _, _, h⟩; exact h
  · intro h; exact ⟨by decide, by decide, by omega, h⟩
theorem q9_dgo2 {C : k9_Mem} {g v L : Nat} (h7 : C 66 7 = nI v) (hv : v < 1000) (hl : m9_lrg (C 66 6) = nI L) (hg : g ≤ 9) (hL2 : L < 1000) : (m9_dgo C (nI g) ↔ (v ≠ 0 ∧ 10 * v + g ≤ L)) ∧ m9_tdv C (nI g) = nI (10 * v + g) := by
  have hm1 : ¬ nI v = -1 := q9_nI_m1 (by omega)
  have hm2 : ¬ nI v = -2 := fun z => by
    have := (fa_eq _ _).mp z
    rw [nI_toInt (by omega), show (-2 : Int32).toInt = -2 from rfl] at this
    omega
  have ht : m9_tdv C (nI g) = nI (10 * v + g) := by
    unfold m9_tdv
    rw [h7, if_neg hm1, show (10 : Int32) = nI 10 from rfl, pk_mul, nI_add, Nat.mul_comm]
  refine ⟨?_, ht⟩
  unfold m9_dgo
  rw [ht, hl, h7, m9_lt (by omega) (by omega), show (0 : Int32) = nI 0 from rfl, m9_eq (by omega) (by omega), m9_eq (by omega) (by omega)]
  constructor
  · rintro ⟨h1, _, h3, _⟩; exact ⟨h1, by omega⟩
  · rintro ⟨h1, h2⟩; exact ⟨h1, hm2, by omega, fun z => by omega⟩
theorem q9_notD {n : Nat} (h : n < 48 ∨ 57 < n) (h2 : n < 1000) : ¬ m9_isD (nI n) := by
  unfold m9_isD
  rw [show (48 : Int32) = nI 48 from rfl, show (57 : Int32) = nI 57 from rfl, m9_lt (by omega) (by omega), m9_lt (by omega) (by omega)]
  omega
/-- cells of the class's text that a digit leaves -/
theorem q9_pt_c {C C' Z Z' : k9_Mem} {p : Nat} (h : q9_pt C Z p) (h68 : C' 68 p = C 68 p) (h69 : C' 69 p = C 69 p) (h70 : C' 70 p = C 70 p) (hz : ∀ j, 3 * p ≤ j → j ≤ 3 * p + 2 → Z' 87 j = Z 87 j) : q9_pt C' Z' p := by
  unfold q9_pt at h ⊢
  rw [h68, h69, h70, hz (3 * p) (by omega) (by omega), hz (3 * p + 1) (by omega) (by omega), hz (3 * p + 2) (by omega) (by omega)]
  exact h
theorem q9_tvo_c {C C' Z Z' : k9_Mem} {r : Nat} (h : q9_tvo C Z r) (h8 : C' 66 8 = C 66 8) (hz : Z' 87 (3 * r) = Z 87 (3 * r)) : q9_tvo C' Z' r := by
  unfold q9_tvo at h ⊢
  rw [h8, hz]; exact h
theorem q9_fi_c {C C' Z Z' : k9_Mem} {r : Nat} (h : q9_fi C Z r) (h9 : C' 66 9 = C 66 9) (hz : Z' 87 (3 * r + 1) = Z 87 (3 * r + 1)) : q9_fi C' Z' r := by
  unfold q9_fi at h ⊢
  rw [h9, hz]; exact h
/-- a digit that is taken: both stand alike -/
theorem q9_dig {C Z : k9_Mem} {r d i : Nat} (h : q9_L C Z r d i) {A g lo hi w : Nat} {x : Int32} (hx : x = nI (48 + g)) (hO : m9_fO Z A x (nI lo) (nI hi)) (hfv : m9_fv Z A x = nI w) (hdv : m9_tdv C (nI g) = nI w) (hdo : m9_dgo C (nI g)) (hA : 3 * r ≤ A) {d' : Nat} (hd' : Z 76 16 + m9_bi (m9_fF Z) = nI d') (hmn : 6 * r + q9_mn d' ≤ i + 1) (hS : ∀ C' Z' : k9_Mem, (∀ j, j ≠ 7 → C' 66 j = C 66 j) → C' 66 7 = nI w → (∀ j, j ≠ A → Z' 87 j = Z 87 j) → Z' 87 A = nI w → q9_S C' Z' r d') : q9_L (m9_tkm C x) (m9_fM Z A x (nI lo) (nI hi)) r d' (i + 1) := by
  obtain ⟨h1, h2, h3, h4, h5, h6⟩ := h
  have hD : m9_isD x := hO.1
  have eC : m9_tkm C x = k9_st C 66 7 (nI w) := by
    unfold m9_tkm
    rw [if_pos hD, hx, q9_x48]
    unfold m9_dgm
    rw [if_pos hdo, hdv]
  have eZ : m9_fM Z A x (nI lo) (nI hi) = k9_st (k9_st Z 87 A (nI w)) 76 16 (nI d') := by
    unfold m9_fM
    rw [if_pos hO, hfv, hd']
  rw [eC, eZ]
  have z87 : ∀ j, k9_st (k9_st Z 87 A (nI w)) 76 16 (nI d') 87 j = upd (Z 87) A (nI w) j := fun j => by
    rw [m9_st_ne _ _ _ (by decide), m9_st_at]
  refine ⟨?_, ?_, hmn, ?_, fun p hp => ?_, ?_⟩
  · rw [m9_st_at_ne _ _ (by decide), m9_st_ne _ _ _ (by decide)]; exact h1
  · rw [m9_st_at, m9_upd_at]
  · rw [m9_st_at_ne _ _ (by decide)]; exact h4
  · refine q9_pt_c (h5 p hp) ?_ ?_ ?_ (fun j j1 j2 => ?_)
    · rw [m9_st_ne _ _ _ (by decide)]
    · rw [m9_st_ne _ _ _ (by decide)]
    · rw [m9_st_ne _ _ _ (by decide)]
    · rw [z87, m9_upd_ne _ _ (by omega)]
  · refine hS _ _ (fun j hj => m9_st_at_ne _ _ hj) ?_ (fun j hj => ?_) ?_
    · rw [m9_st_at, m9_upd_at]
    · rw [z87, m9_upd_ne _ _ hj]
    · rw [z87, m9_upd_at]
theorem q9_fF {Z : k9_Mem} {d : Nat} (h : Z 76 16 = nI d) (hd : d ≤ 6) : m9_fF Z ↔ (d = 0 ∨ d = 3 ∨ d = 5) := by
  unfold m9_fF
  rw [h, show (0 : Int32) = nI 0 from rfl, show (3 : Int32) = nI 3 from rfl, show (5 : Int32) = nI 5 from rfl, m9_eq (by omega) (by omega), m9_eq (by omega) (by omega), m9_eq (by omega) (by omega)]
