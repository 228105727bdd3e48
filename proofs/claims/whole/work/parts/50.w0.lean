/-! Contracts: Integer.bitCount, small helpers of RollPunch, Chains. -/
def m9_bi (P : Prop) [Decidable P] : Int32 := if P then 1 else 0
theorem m9_bi_t {P : Prop} [Decidable P] (h : P) : m9_bi P = 1 := if_pos h
theorem m9_bi_f {P : Prop} [Decidable P] (h : ¬ P) : m9_bi P = 0 := if_neg h
theorem m9_bi_0 {P : Prop} [Decidable P] (h : m9_bi P = 0) : ¬ P := fun q => by rw [m9_bi_t q] at h; exact absurd h (by decide)
theorem m9_bi_1 {P : Prop} [Decidable P] (h : ¬ m9_bi P = 0) : P := by
  by_cases q : P
  · exact q
  · exact absurd (m9_bi_f q) h
theorem m9_nz {x : Int32} (h : x = 0 ∨ x = 1) : narrow .boolean (.int x) = .int x := by rcases h with rfl | rfl <;> rfl
theorem m9_nb {P : Prop} [Decidable P] : narrow .boolean (.int (m9_bi P)) = .int (m9_bi P) := by
  by_cases h : P
  · rw [m9_bi_t h]; rfl
  · rw [m9_bi_f h]; rfl
theorem ct_bitCount (l : Launch) (G : k9_G) (M : k9_Mem) (x : Int32) : k9_Ci l yJ6_bitCount_0f7a4 wsJ6_bitCount_0f7a4 rm_J6_bitCount_0f7a4 G M [.int x] (m9_bc x) M := by
  refine k9_metI (own := RJ6) (by decide +kernel) rfl rfl (Nat.le_of_ble_eq_true rfl) rfl ?_
  intro p e s m args below meth c A Q X HR
  obtain ⟨n, hn, rfl⟩ := wb_of32 x
  have hn : n < 4294967296 := hn
  obtain ⟨y, t, hy, ht, h1, h2, h3, h4, h5, h6, h7⟩ := m9_bc_nat n hn
  refine bk_J6_bitCount_0f7a4_0 X ?_
  rw [m9_ush hn 1 1 (by decide), show (1431655765 : Int32) = nI 1431655765 from rfl, fa_and, pk_sub (Nat.le_trans Nat.and_le_left (Nat.div_le_self _ _)), show (2 : Nat) ^ 1 = 2 from rfl, m9_s1 n hn]
  refine bk_J6_bitCount_0f7a4_10 X ?_
  rw [m9_ush h1 2 2 (by decide), show (858993459 : Int32) = nI 858993459 from rfl, fa_and, fa_and, nI_add, show (2 : Nat) ^ 2 = 4 from rfl, h2]
  refine bk_J6_bitCount_0f7a4_24 X ?_
  rw [m9_ush hy 4 4 (by decide), show (252645135 : Int32) = nI 252645135 from rfl, nI_add, fa_and, show (2 : Nat) ^ 4 = 16 from rfl, h4]
  refine bk_J6_bitCount_0f7a4_34 X ?_
  rw [m9_ush ht 8 8 (by decide), nI_add, show (2 : Nat) ^ 8 = 256 from rfl]
  refine bk_J6_bitCount_0f7a4_41 X ?_
  rw [m9_ush h5 16 16 (by decide), nI_add, show (2 : Nat) ^ 16 = 65536 from rfl]
  refine bk_J6_bitCount_0f7a4_48 X ?_
  rw [show (63 : Int32) = nI (2 ^ 6 - 1) from rfl, fa_mask, show (2 : Nat) ^ 6 = 64 from rfl, h7, ← m9_bc_nI hn]
  exact HR 52 [] dJ6_bitCount_0f7a4_52
abbrev m9_isS (a : Int32) : Prop := ¬ a < 0 ∧ ¬ (96 : Int32) ≤ a
theorem m9_isS_of {a : Int32} (h : m9_isS a) : ∃ i : Nat, i < 96 ∧ a = nI i := by
  obtain ⟨j, h1, h2⟩ := nI_of h.1
  refine ⟨j, ?_, h2⟩
  have h3 := h.2
  rw [h2] at h3
  exact m9_go (N := 96) (by decide) (by
    rcases Nat.lt_or_ge j 96 with q | q
    · omega
    · exact absurd ((m9_le (a := 96) (by decide) (by omega)).mpr q) h3) h3
theorem m9_isS_nI {i : Nat} (h : i < 96) : m9_isS (nI i) := ⟨nI_pos (by omega), fun c => by have := (m9_le (a := 96) (by decide) (by omega)).mp c; omega⟩
theorem m9_isS_in {a : Int32} (h : m9_isS a) : vp_in a 96 := by
  obtain ⟨i, hi, rfl⟩ := m9_isS_of h
  exact m9_in hi (by decide)
theorem ct_X6_isStep (l : Launch) (G : k9_G) (M : k9_Mem) (a : Int32) : k9_Ci l yX6_isStep wsX6_isStep rm_X6_isStep G M [.int a] (m9_bi (m9_isS a)) M := by
  refine k9_metI (own := RX6) (by decide +kernel) rfl rfl (Nat.le_of_ble_eq_true rfl) m9_nb ?_
  intro p e s m args below meth c A Q X HR
  refine bk_X6_isStep_0 X (fun c1 => ?_) (fun c1 c2 => ?_) (fun c1 c2 => ?_)
  · exact k9_eq rfl (by rw [m9_bi_f (fun q => q.1 c1)]) (HR 15 [] dX6_isStep_15)
  · exact k9_eq rfl (by rw [m9_bi_f (fun q => q.2 c2)]) (HR 15 [] dX6_isStep_15)
  · exact k9_eq rfl (by rw [m9_bi_t ⟨c1, c2⟩]) (HR 15 [] dX6_isStep_15)
theorem ct_X6_fits (l : Launch) (G : k9_G) (M : k9_Mem) (a b : Int32) : k9_Ci l yX6_fits wsX6_fits rm_X6_fits G M [.int a, .int b] (m9_bi (¬ (96 : Int32) < a + b)) M := by
  refine k9_metI (own := RX6) (by decide +kernel) rfl rfl (Nat.le_of_ble_eq_true rfl) m9_nb ?_
  intro p e s m args below meth c A Q X HR
  refine bk_X6_fits_0 X (fun c1 => ?_) (fun c1 => ?_)
  · exact k9_eq rfl (by rw [m9_bi_f (fun q => q c1)]) (HR 13 [] dX6_fits_13)
  · exact k9_eq rfl (by rw [m9_bi_t c1]) (HR 13 [] dX6_fits_13)
theorem ct_X6_mixed (l : Launch) (G : k9_G) (M : k9_Mem) (a b : Int64) : k9_Cl l yX6_mixed wsX6_mixed rm_X6_mixed G M [.long a, .long b] (31 * a + b) M := by
  refine k9_metL (own := RX6) (by decide +kernel) rfl rfl (Nat.le_of_ble_eq_true rfl) ?_
  intro p e s m args below meth c A Q X HR
  exact bk_X6_mixed_0 X (HR 7 [] dX6_mixed_7)
def m9_bin (f : Nat → Int32) (b : Int32) : Int32 := m9_sum (fun j => m9_bc (f j &&& b)) 96
theorem ct_X6_bitsIn (l : Launch) (G : k9_G) (M : k9_Mem) {k : Nat} (hk : k9_ar k 96) (b : Int32) : k9_Ci l yX6_bitsIn wsX6_bitsIn rm_X6_bitsIn G M [.ref (k9_ga G k), .int b] (m9_bin (M k) b) M := by
  refine k9_metI (own := RX6) (by decide +kernel) rfl rfl (Nat.le_of_ble_eq_true rfl) rfl ?_
  intro p e s m args below meth c A Q X HR
  have loop : ∀ i, i ≤ 96 → k9_U p l e rm_X6_bitsIn s m args below meth c Q A G 7 0 0 M 11 [(1, .int b), (2, .int (m9_sum (fun j => m9_bc (M k j &&& b)) i)), (3, .ref (k9_ga G k)), (4, .int 96), (5, .int (nI i))] [] := by
    refine m9_down 96 (fun i hi next => ?_)
    have e : (nI i).toNatClampNeg = i := m9_cl (by omega)
    refine bk_X6_bitsIn_11 (rv1 := m9_bc (M k i &&& b)) X hk (fun c => ?_) (fun c => ?_) (fun c => ?_) (fun c => ?_)
    · have hi2 := m9_ex (N := 96) (by decide) hi c
      subst hi2
      exact HR 41 [] dX6_bitsIn_41
    · exact m9_in (m9_go (N := 96) (by decide) hi c) (by decide)
    · rw [e]; exact ct_bitCount l G M _
    · rw [nI_1]; exact next (m9_go (N := 96) (by decide) hi c)
  exact bk_X6_bitsIn_0 X hk (loop 0 (by decide))
/-! Chains -/
theorem ct_X0_noteCount (l : Launch) (G : k9_G) (M : k9_Mem) {q : Nat} (hq : k9_isC q) : k9_Ci l yX0_noteCount wsX0_noteCount rm_X0_noteCount G M [.ref (k9_ga G q)] (m9_bin (M (q + 1)) 2097150) M := by
  refine k9_metI (own := RX0) (by decide +kernel) rfl rfl (Nat.le_of_ble_eq_true rfl) rfl ?_
  intro p e s m args below meth c A Q X HR
  exact bk_X0_noteCount_0 X hq (ct_X6_bitsIn l G M (k9_ce_C hq G (fun _ => 0)).2.2.1 _) (HR 9 [] dX0_noteCount_9)
/-- the bit of a voice in a row, as the class asks for it -/
abbrev m9_at (x v : Int32) : Prop := ¬ (x >>> (v &&& 31)) &&& 1 = 0
abbrev m9_begins (M : k9_Mem) (q : Nat) (v s : Int32) : Prop := m9_isS s ∧ m9_at (M (q + 1) s.toNatClampNeg) v
theorem ct_X0_beginsAt (l : Launch) (G : k9_G) (M : k9_Mem) {q : Nat} (hq : k9_isC q) (v s0 : Int32) : k9_Ci l yX0_beginsAt wsX0_beginsAt rm_X0_beginsAt G M [.ref (k9_ga G q), .int v, .int s0] (m9_bi (m9_begins M q v s0)) M := by
  refine k9_metI (own := RX0) (by decide +kernel) rfl rfl (Nat.le_of_ble_eq_true rfl) m9_nb ?_
  intro p e s m args below meth c A Q X HR
  refine bk_X0_beginsAt_0 X hq (ct_X6_isStep l G M s0) (fun c1 => ?_) (fun c1 => ?_) (fun c1 c2 => ?_) (fun c1 c2 => ?_)
  · exact k9_eq rfl (by rw [m9_bi_f (fun q => m9_bi_0 c1 q.1)]) (HR 25 [] dX0_beginsAt_25)
  · exact m9_isS_in (m9_bi_1 c1)
  · exact k9_eq rfl (by rw [m9_bi_f (fun q => q.2 c2)]) (HR 25 [] dX0_beginsAt_25)
  · exact k9_eq rfl (by rw [m9_bi_t ⟨m9_bi_1 c1, c2⟩]) (HR 25 [] dX0_beginsAt_25)
/-- the first step from a step on at which a bit is set; else -1 -/
def m9_from (f : Nat → Int32) (v a : Int32) : Nat → Int32
  | 0 => -1
  | n + 1 => if ¬ nI (95 - n) < a ∧ m9_at (f (95 - n)) v then nI (95 - n) else m9_from f v a n
theorem ct_X0_lastStepFrom (l : Launch) (G : k9_G) (M : k9_Mem) {q : Nat} (hq : k9_isC q) (v a : Int32) : k9_Ci l yX0_lastStepFrom wsX0_lastStepFrom rm_X0_lastStepFrom G M [.ref (k9_ga G q), .int v, .int a] (m9_from (M (q + 2)) v a 96) M := by
  refine k9_metI (own := RX0) (by decide +kernel) rfl rfl (Nat.le_of_ble_eq_true rfl) rfl ?_
  intro p e s m args below meth c A Q X HR
  have loop : ∀ i, i ≤ 96 → m9_from (M (q + 2)) v a 96 = m9_from (M (q + 2)) v a (96 - i) → k9_U p l e rm_X0_lastStepFrom s m args below meth c Q A G 4 0 0 M 2 [(0, .ref (k9_ga G q)), (1, .int v), (2, .int a), (3, .int (nI i))] [] := by
    refine m9_down 96 (fun i hi next h => ?_)
    have e : (nI i).toNatClampNeg = i := m9_cl (by omega)
    have st : i < 96 → m9_from (M (q + 2)) v a (96 - i) = if ¬ nI i < a ∧ m9_at (M (q + 2) i) v then nI i else m9_from (M (q + 2)) v a (96 - (i + 1)) := fun h9 => by
      obtain ⟨n, hn⟩ : ∃ n, 96 - i = n + 1 := ⟨95 - i, by omega⟩
      rw [hn, show 96 - (i + 1) = n by omega]
      show (if ¬ nI (95 - n) < a ∧ m9_at (M (q + 2) (95 - n)) v then nI (95 - n) else m9_from (M (q + 2)) v a n) = _
      rw [show 95 - n = i by omega]
    refine bk_X0_lastStepFrom_2 X hq (fun c1 => ?_) (fun c1 c2 => ?_) (fun c1 c2 => ?_) (fun c1 c2 c3 => ?_) (fun c1 c2 c3 => ?_)
    · have hi2 := m9_ex (N := 96) (by decide) hi c1
      subst hi2
      exact k9_eq rfl (by rw [h]; rfl) (HR 35 [] dX0_lastStepFrom_35)
    · have h9 := m9_go (N := 96) (by decide) hi c1
      rw [nI_1]; exact next h9 (by rw [h, st h9, if_neg (fun z => z.1 c2)])
    · exact m9_in (m9_go (N := 96) (by decide) hi c1) (by decide)
    · have h9 := m9_go (N := 96) (by decide) hi c1
      rw [e] at c3
      rw [nI_1]; exact next h9 (by rw [h, st h9, if_neg (fun z => z.2 c3)])
    · have h9 := m9_go (N := 96) (by decide) hi c1
      rw [e] at c3
      exact k9_eq rfl (by rw [h, st h9, if_pos ⟨c2, c3⟩]) (HR 27 [] dX0_lastStepFrom_27)
  exact bk_X0_lastStepFrom_0 X hq (loop 0 (by decide) rfl)
abbrev m9_has (M : k9_Mem) (q : Nat) (v a b : Int32) : Prop := m9_begins M q v a ∧ m9_from (M (q + 2)) v a 96 = b
theorem ct_X0_hasChain (l : Launch) (G : k9_G) (M : k9_Mem) {q : Nat} (hq : k9_isC q) (v a b : Int32) : k9_Ci l yX0_hasChain wsX0_hasChain rm_X0_hasChain G M [.ref (k9_ga G q), .int v, .int a, .int b] (m9_bi (m9_has M q v a b)) M := by
  refine k9_metI (own := RX0) (by decide +kernel) rfl rfl (Nat.le_of_ble_eq_true rfl) m9_nb ?_
  intro p e s m args below meth c A Q X HR
  refine bk_X0_hasChain_0 X hq (ct_X0_beginsAt l G M hq v a) (fun c1 => ?_) (fun c1 => ct_X0_lastStepFrom l G M hq v a) (fun c1 c2 => ?_) (fun c1 c2 => ?_)
  · exact k9_eq rfl (by rw [m9_bi_f (fun q => m9_bi_0 c1 q.1)]) (HR 24 [] dX0_hasChain_24)
  · exact k9_eq rfl (by rw [m9_bi_f (fun q => c2 q.2)]) (HR 24 [] dX0_hasChain_24)
  · exact k9_eq rfl (by rw [m9_bi_t ⟨m9_bi_1 c1, c2⟩]) (HR 24 [] dX0_hasChain_24)
/-- two rows of one object are filled side by side -/
theorem m9_two (M : k9_Mem) {k1 k2 : Nat} (h : k1 ≠ k2) (f g : Nat → Int32) (i : Nat) (v w : Int32) : k9_st (k9_st (k9_sc (k9_sc M k1 f) k2 g) k1 i v) k2 i w = k9_sc (k9_sc M k1 (upd f i v)) k2 (upd g i w) := by
  funext a
  unfold k9_st k9_sc
  by_cases h2 : a = k2
  · subst h2; simp [Ne.symm h]
  · by_cases h1 : a = k1
    · subst h1; simp [h]
    · simp [h1, h2]
theorem m9_two_ne (M : k9_Mem) {k1 k2 k : Nat} (h1 : k ≠ k1) (h2 : k ≠ k2) (f g : Nat → Int32) : k9_sc (k9_sc M k1 f) k2 g k = M k := by rw [k9_sc_ne _ _ h2, k9_sc_ne _ _ h1]
def m9_orb (f : Nat → Int32) (s : Nat) : Nat → Int32
  | 0 => 0
  | n + 1 => m9_orb f s n ||| (if n + 1 ≤ s then f (s - (n + 1)) else 0)
def m9_ora (f : Nat → Int32) (s : Nat) : Nat → Int32
  | 0 => 0
  | n + 1 => m9_ora f s n ||| (if s + (n + 1) < 96 then f (s + (n + 1)) else 0)
def m9_lkS (f : Nat → Int32) (B s : Nat) : Int32 := f s &&& (m9_orb f s (B + 1) ^^^ (-1))
def m9_lkE (f : Nat → Int32) (B s : Nat) : Int32 := f s &&& (m9_ora f s (B + 1) ^^^ (-1))
def m9_lk (M : k9_Mem) (q k B i : Nat) : k9_Mem := k9_sc (k9_sc M (q + 1) (m9_fl (m9_lkS (M k) B) (M (q + 1)) i)) (q + 2) (m9_fl (m9_lkE (M k) B) (M (q + 2)) i)
theorem m9_lk_0 (M : k9_Mem) (q k B : Nat) : m9_lk M q k B 0 = M := by
  unfold m9_lk
  rw [m9_fl_0, m9_fl_0, m9_sc_same rfl, m9_sc_same rfl]
theorem m9_lk_s (M : k9_Mem) (q k B i : Nat) : k9_st (k9_st (m9_lk M q k B i) (q + 1) i (m9_lkS (M k) B i)) (q + 2) i (m9_lkE (M k) B i) = m9_lk M q k B (i + 1) := by
  unfold m9_lk
  rw [m9_two M (by omega), m9_fl_succ, m9_fl_succ]
theorem m9_lk_k {M : k9_Mem} {q k : Nat} (B i : Nat) (h1 : k ≠ q + 1) (h2 : k ≠ q + 2) : m9_lk M q k B i k = M k := m9_two_ne M h1 h2 _ _
theorem m9_z_and (x : Int32) : (0 : Int32) &&& x = 0 := by
  apply m9_b_ext
  intro i _
  rw [m9_b_and, m9_b_0]; rfl
theorem ct_X0_link (l : Launch) (G : k9_G) (M : k9_Mem) {q k : Nat} (hq : k9_isC q) (hk : k9_ar k 96) (h1 : k ≠ q + 1) (h2 : k ≠ q + 2) {B : Nat} (hB : B < 1000) : k9_Cv l yX0_link wsX0_link rm_X0_link G M [.ref (k9_ga G q), .ref (k9_ga G k), .int (nI B)] (m9_lk M q k B 96) := by
  refine k9_metV (own := RX0) (by decide +kernel) rfl rfl (Nat.le_of_ble_eq_true rfl) ?_
  intro p e s m args below meth c A Q X HR
  have inner : ∀ (N : k9_Mem) (i : Nat), i < 96 → N k = M k → k9_U p l e rm_X0_link s m args below meth c Q A G 7 0 0 (k9_st (k9_st N (q + 1) i (m9_lkS (M k) B i)) (q + 2) i (m9_lkE (M k) B i)) 2 [(0, .ref (k9_ga G q)), (1, .ref (k9_ga G k)), (2, .int (nI B)), (3, .int (nI (i + 1)))] [] →
      ∀ j, j ≤ B + 1 → k9_U p l e rm_X0_link s m args below meth c Q A G 7 0 0 N 23 [(0, .ref (k9_ga G q)), (1, .ref (k9_ga G k)), (2, .int (nI B)), (3, .int (nI i)), (4, .int (m9_orb (M k) i j)), (5, .int (m9_ora (M k) i j)), (6, .int (nI (j + 1)))] [] := by
    intro N i hi hN out
    have e : (nI i).toNatClampNeg = i := m9_cl (by omega)
    have hNk : ∀ v, k9_st N (q + 1) i v k = M k := fun v => by rw [m9_st_ne N _ _ h1, hN]
    refine m9_down (B + 1) (fun j hj next => ?_)
    have hex : nI B + 1 < nI (j + 1) → j = B + 1 := fun c => by
      rw [nI_1] at c
      have := (m9_lt (by omega) (by omega)).mp c
      omega
    have hgo : ¬ nI B + 1 < nI (j + 1) → j < B + 1 := fun c => by
      rw [nI_1] at c
      rcases Nat.lt_or_ge j (B + 1) with q | q
      · exact q
      · exact absurd ((m9_lt (by omega) (by omega)).mpr (by omega)) c
    have so : j < B + 1 → m9_orb (M k) i (j + 1) = m9_orb (M k) i j ||| (if j + 1 ≤ i then M k (i - (j + 1)) else 0) := fun _ => rfl
    have sa : j < B + 1 → m9_ora (M k) i (j + 1) = m9_ora (M k) i j ||| (if i + (j + 1) < 96 then M k (i + (j + 1)) else 0) := fun _ => rfl
    have hlt : nI i < nI (j + 1) ↔ i < j + 1 := m9_lt (by omega) (by omega)
    have hge : (96 : Int32) ≤ nI i + nI (j + 1) ↔ 96 ≤ i + (j + 1) := by rw [nI_add]; exact m9_le (a := 96) (by decide) (by omega)
    have eadd : (nI i + nI (j + 1)).toNatClampNeg = i + (j + 1) := by rw [nI_add]; exact m9_cl (by omega)
    refine bk_X0_link_23 X hq hk (fun c1 => m9_in hi (by decide)) (fun c1 => ?_) (fun c1 => m9_in hi (by decide)) (fun c1 c2 => ?_) (fun c1 c2 c3 c4 => ?_) (fun c1 c2 c3 c4 => ?_) (fun c1 c2 c3 c4 => ?_) (fun c1 c2 c3 => ?_) (fun c1 c2 c3 c4 => ?_) (fun c1 c2 c3 c4 => ?_) (fun c1 c2 c3 c4 => ?_)
    · have hj2 := hex c1
      subst hj2
      rw [e, hNk, hN, nI_1]
      exact out
    · rw [e, hN] at c2
      rw [e, hNk, hN, c2, m9_z_and, m9_z_and]
      have z1 : m9_lkS (M k) B i = 0 := by unfold m9_lkS; rw [c2, m9_z_and]
      have z2 : m9_lkE (M k) B i = 0 := by unfold m9_lkE; rw [c2, m9_z_and]
      rw [z1, z2] at out
      rw [nI_1]
      exact out
    · have hj2 := hgo c1
      have h := next hj2
      rw [so hj2, sa hj2, if_neg (fun z => absurd (hlt.mp c3) (by omega)), if_neg (fun z => absurd (hge.mp c4) (by omega))] at h
      rw [nI_1]
      exact h
    · rw [nI_add]
      have : ¬ 96 ≤ i + (j + 1) := fun z => c4 (hge.mpr z)
      exact m9_in (by omega) (by decide)
    · have hj2 := hgo c1
      have h := next hj2
      have : ¬ 96 ≤ i + (j + 1) := fun z => c4 (hge.mpr z)
      rw [so hj2, sa hj2, if_neg (fun z => absurd (hlt.mp c3) (by omega)), if_pos (by omega)] at h
      rw [eadd, hN]
      rw [nI_1]
      exact h
    · have h3 : ¬ i < j + 1 := fun z => c3 (hlt.mpr z)
      rw [pk_sub (by omega)]
      exact m9_in (by omega) (by decide)
    · have hj2 := hgo c1
      have h := next hj2
      have h3 : ¬ i < j + 1 := fun z => c3 (hlt.mpr z)
      rw [so hj2, sa hj2, if_pos (by omega), if_neg (fun z => absurd (hge.mp c4) (by omega))] at h
      rw [pk_sub (by omega), m9_cl (by omega), hN]
      rw [nI_1]
      exact h
    · rw [nI_add]
      have : ¬ 96 ≤ i + (j + 1) := fun z => c4 (hge.mpr z)
      exact m9_in (by omega) (by decide)
    · have hj2 := hgo c1
      have h := next hj2
      have h3 : ¬ i < j + 1 := fun z => c3 (hlt.mpr z)
      have : ¬ 96 ≤ i + (j + 1) := fun z => c4 (hge.mpr z)
      rw [so hj2, sa hj2, if_pos (by omega), if_pos (by omega)] at h
      rw [eadd, pk_sub (by omega), m9_cl (by omega), hN]
      rw [nI_1]
      exact h
  have loop : ∀ i, i ≤ 96 → k9_U p l e rm_X0_link s m args below meth c Q A G 7 0 0 (m9_lk M q k B i) 2 [(0, .ref (k9_ga G q)), (1, .ref (k9_ga G k)), (2, .int (nI B)), (3, .int (nI i))] [] := by
    refine m9_down 96 (fun i hi next => ?_)
    refine bk_X0_link_2 X hq hk (fun c => ?_) (fun c => ?_)
    · have hi2 := m9_ex (N := 96) (by decide) hi c
      subst hi2
      exact HR 122 [] dX0_link_122
    · have h9 := m9_go (N := 96) (by decide) hi c
      exact inner (m9_lk M q k B i) i h9 (m9_lk_k B i h1 h2) (by rw [m9_lk_s]; exact next h9) 0 (by omega)
  have h := loop 0 (by decide)
  rw [m9_lk_0] at h
  exact bk_X0_link_0 X hq hk h
