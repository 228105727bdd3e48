/-! The hash: only its own two places change. -/
theorem r9_k (M : k9_Mem) (x : Int64) {k : Nat} (h : k ≠ 76) : k9_sH M x k = M k := k9_sc_ne _ _ h
theorem r9_76 (M : k9_Mem) (x : Int64) {j : Nat} (h : j ≠ 18) (h2 : j ≠ 19) : k9_sH M x 76 j = M 76 j := by
  unfold k9_sH
  rw [k9_sc_eq, if_neg h, if_neg h2]
theorem r9_hsh (M : k9_Mem) (x : Int64) : m9_hsh (k9_sH M x) = x := by
  unfold m9_hsh k9_sH
  rw [k9_sc_eq]
  exact k9_lg_gl x
theorem r9_sH2 (M : k9_Mem) (x y : Int64) : k9_sH (k9_sH M x) y = k9_sH M y := by
  unfold k9_sH
  rw [k9_sc_eq, m9_sc_sc]
  congr 1
  funext j
  by_cases c : j = 18
  · rw [if_pos c, if_pos c]
  · by_cases d : j = 19
    · simp [c, d]
    · simp [c, d]
section R9
variable {N L : k9_Mem}
theorem r9_irP (h : ∀ k, k ≠ 76 → N k = L k) (c : Nat) : m9_irP N c ↔ m9_irP L c := by
  unfold m9_irP
  rw [h 77 (by decide), h 84 (by decide), h 85 (by decide), h 86 (by decide)]
theorem r9_rig (h : ∀ k, k ≠ 76 → N k = L k) (C : Nat) : m9_rig N C = m9_rig L C := by
  unfold m9_rig
  exact m9_sum_c (fun c _ => q9_biD (instDecidableEqInt32 _ _) (r9_irP h c))
theorem r9_wsv (h : ∀ k, k ≠ 76 → N k = L k) (i R : Nat) : m9_wsv N i R = m9_wsv L i R := by
  unfold m9_wsv
  refine @q9_biD (m9_wsh N i R) (m9_wsh L i R) (m9_wshD N i R) (m9_wshD L i R) ?_
  unfold m9_wsh m9_aw m9_bw
  rw [h 81 (by decide), h 83 (by decide)]
theorem r9_stc (h : ∀ k, k ≠ 76 → N k = L k) (c : Nat) : m9_stc N c = m9_stc L c := by
  unfold m9_stc m9_sto
  rw [h 81 (by decide), h 82 (by decide), h 83 (by decide), h 84 (by decide), h 86 (by decide)]
theorem r9_sat (h : ∀ k, k ≠ 76 → N k = L k) (i : Nat) : ∀ C, m9_sat N i C = m9_sat L i C
  | 0 => rfl
  | C + 1 => by
    unfold m9_sat
    rw [r9_sat h i C, r9_stc h C, h 84 (by decide), h 85 (by decide)]
theorem r9_stv (h : ∀ k, k ≠ 76 → N k = L k) (C R i : Nat) (w : Int32) : m9_stv N C R i w = m9_stv L C R i w := by
  have h4 : m9_bi (m9_one (N 83 i) 20) = m9_bi (m9_one (L 83 i) 20) := q9_biD _ (by rw [h 83 (by decide)])
  unfold m9_stv
  rw [h4, h 77 (by decide), h 83 (by decide), r9_sat h i C, r9_wsv h i R]
theorem r9_sof (h : ∀ k, k ≠ 76 → N k = L k) (R : Nat) (w : Int32) (i : Nat) : m9_sof N R w i = m9_sof L R w i := by
  have h1 : m9_bi (m9_one (N 83 i) 20) = m9_bi (m9_one (L 83 i) 20) := q9_biD _ (by rw [h 83 (by decide)])
  have h4 : m9_bi (¬ N 77 (192 + i) = 0) = m9_bi (¬ L 77 (192 + i) = 0) := q9_biD _ (by rw [h 77 (by decide)])
  unfold m9_sof
  rw [h1, h4, h 80 (by decide), h 81 (by decide), r9_wsv h i R]
theorem r9_hoc (h : ∀ k, k ≠ 76 → N k = L k) (c : Nat) : m9_hoc N c = m9_hoc L c := by
  unfold m9_hoc m9_hol
  rw [h 80 (by decide), h 84 (by decide), h 85 (by decide), h 86 (by decide)]
theorem r9_who (h : ∀ k, k ≠ 76 → N k = L k) (C : Nat) : m9_who N C = m9_who L C := by
  unfold m9_who
  refine m9_sum_c (fun c _ => ?_)
  by_cases d : m9_irP N c
  · rw [if_pos d, if_pos ((r9_irP h c).mp d)]
  · rw [if_neg d, if_neg (fun z => d ((r9_irP h c).mpr z)), r9_hoc h c]
theorem r9_rco (h : ∀ k, k ≠ 76 → N k = L k) (h2 : ∀ j, j ≠ 18 → j ≠ 19 → N 76 j = L 76 j) (C R : Nat) (w : Int32) : m9_rco N C R w = m9_rco L C R w := by
  have s : ∀ z, m9_sum (m9_sof N R z) 96 = m9_sum (m9_sof L R z) 96 := fun z => m9_sum_c (fun i _ => r9_sof h R z i)
  unfold m9_rco
  rw [s 0, s 1, s 2, s 3, s 4, r9_rig h C, r9_who h C, h 77 (by decide), h2 13 (by decide) (by decide), h2 1 (by decide) (by decide)]
theorem r9_tnv (h : ∀ k, k ≠ 76 → N k = L k) (K : Nat) (w : Int32) : m9_tnv N K w = m9_tnv L K w := by
  have h1 : m9_bi (m9_misP N (K % 20) (K / 20)) = m9_bi (m9_misP L (K % 20) (K / 20)) := q9_biD _ (by
    unfold m9_misP
    rw [h 77 (by decide), h 81 (by decide), h 82 (by decide)])
  unfold m9_tnv
  rw [h1, h 77 (by decide)]
theorem r9_laid (h : ∀ k, k ≠ 76 → N k = L k) (h2 : ∀ j, j ≠ 18 → j ≠ 19 → N 76 j = L 76 j) {C : Nat} (hl : m9_laid L C) : m9_laid N C := by
  refine ⟨by rw [h2 13 (by decide) (by decide)]; exact hl.1, hl.2.1, fun c hc => ?_⟩
  unfold m9_plo
  rw [h 77 (by decide), h 84 (by decide), h 85 (by decide)]
  exact hl.2.2 c hc
theorem r9_lai2 (h : ∀ k, k ≠ 76 → N k = L k) (h2 : ∀ j, j ≠ 18 → j ≠ 19 → N 76 j = L 76 j) {C : Nat} (hl : m9_lai2 L C) : m9_lai2 N C := by
  refine ⟨by rw [h2 13 (by decide) (by decide)]; exact hl.1, hl.2.1, fun c hc => ?_⟩
  unfold m9_pl2
  rw [h 82 (by decide), h 83 (by decide), h 84 (by decide), h 85 (by decide), h 86 (by decide)]
  exact hl.2.2 c hc
end R9
/-- hash behind a call that leaves its places -/
theorem r9_hc {N L : k9_Mem} (h : ∀ j, j ≠ 13 → N 76 j = L 76 j) : m9_hsh N = m9_hsh L := by
  unfold m9_hsh
  rw [show (fun j => N 76 (18 + j)) = (fun j => L 76 (18 + j)) from funext (fun j => h (18 + j) (by omega))]
/-- what would be, mixed -/
def r9_f (k : Nat) : Nat := if k ≤ 3 then 0 else 48
def r9_g (k : Nat) : Nat := if 1 < k ∧ k < 4 then 47 else 95
theorem r9_fg (k : Nat) : r9_f k ≤ r9_g k ∧ r9_g k < 96 := by
  unfold r9_f r9_g
  split <;> split <;> omega
def r9_s (N : k9_Mem) (B k : Nat) : k9_Mem := m9_lbM (m9_snS N B (r9_f k) (r9_g k) 7)
def r9_sv (N : k9_Mem) (B k : Nat) : Int32 := m9_pick (m9_bm (m9_snR N B (r9_f k) (r9_g k)) k9_nfi 7) (nI (k % 2))
def r9_w1 (N : k9_Mem) (B : Nat) : Nat → k9_Mem
  | 0 => N
  | k + 1 => k9_sH (r9_s (r9_w1 N B k) B k) (31 * m9_hsh (r9_s (r9_w1 N B k) B k) + (r9_sv (r9_w1 N B k) B k).toInt64)
def r9_b (N : k9_Mem) (B : Nat) : k9_Mem := k9_st (m9_bnS N 4) 77 384 (nI B)
def r9_w2 (N : k9_Mem) (B : Nat) : k9_Mem := k9_sH (r9_b N B) (31 * m9_hsh (r9_b N B) + ((m9_bm (m9_bnR N) (fun k => nI k) 4).1).toInt64)
def r9_y (k : Nat) : Int32 := if k < 2 then 1 else -1
def r9_q (N : k9_Mem) (B k : Nat) : k9_Mem := m9_lbM (m9_knS N B (r9_y k) 96)
def r9_qv (N : k9_Mem) (B k : Nat) : Int32 := m9_pick (m9_bm (m9_knR N B (r9_y k)) (fun k => nI k) 96) (nI (k % 2))
def r9_w3 (N : k9_Mem) (B : Nat) : Nat → k9_Mem
  | 0 => N
  | k + 1 => k9_sH (r9_q (r9_w3 N B k) B k) (31 * m9_hsh (r9_q (r9_w3 N B k) B k) + (r9_qv (r9_w3 N B k) B k).toInt64)
def r9_X (N : k9_Mem) (B : Nat) : k9_Mem := r9_w3 (r9_w2 (r9_w1 N B 6) B) B 4
def r9_W (N : k9_Mem) (B : Nat) : k9_Mem := k9_sH (m9_lay (r9_X N B) B) (31 * m9_hsh (m9_lay (r9_X N B) B) + (m9_shr (m9_rn (r9_X N B) B) (m9_tnn (N 77))).toInt64)
/-- what stays -/
def r9_st (N L : k9_Mem) : Prop := N 77 = L 77 ∧ (∀ k, (k < 76 ∨ k = 78 ∨ k = 79) → N k = L k) ∧ (∀ j, j ≠ 13 → j ≠ 18 → j ≠ 19 → N 76 j = L 76 j)
theorem r9_st_r (N : k9_Mem) : r9_st N N := ⟨rfl, fun _ _ => rfl, fun _ _ _ _ => rfl⟩
theorem r9_st_t {A B C : k9_Mem} (h1 : r9_st A B) (h2 : r9_st B C) : r9_st A C := ⟨h1.1.trans h2.1, fun k hk => (h1.2.1 k hk).trans (h2.2.1 k hk), fun j a b c => (h1.2.2 j a b c).trans (h2.2.2 j a b c)⟩
theorem r9_st_H (N : k9_Mem) (x : Int64) : r9_st (k9_sH N x) N := ⟨r9_k _ _ (by decide), fun k hk => r9_k _ _ (by omega), fun j _ b c => r9_76 _ _ b c⟩
theorem r9_st_s (N : k9_Mem) (B k : Nat) : r9_st (r9_s N B k) N ∧ m9_hsh (r9_s N B k) = m9_hsh N := by
  obtain ⟨a, b⟩ := r9_fg k
  obtain ⟨b1, b2, b3⟩ := q9_backS N B a b
  exact ⟨⟨b1, fun k hk => b2 k (by omega), fun j h _ _ => b3 j h⟩, r9_hc b3⟩
theorem r9_st_b (N : k9_Mem) {B : Nat} (hM : N 77 384 = nI B) : r9_st (r9_b N B) N ∧ m9_hsh (r9_b N B) = m9_hsh N := by
  obtain ⟨b1, b2, b3⟩ := q9_backB N hM
  exact ⟨⟨b1, fun k hk => b2 k (by omega), fun j h _ _ => b3 j h⟩, r9_hc b3⟩
theorem r9_st_q (N : k9_Mem) (B k : Nat) : r9_st (r9_q N B k) N ∧ m9_hsh (r9_q N B k) = m9_hsh N := by
  obtain ⟨b1, b2, b3⟩ := q9_backK N B (r9_y k)
  exact ⟨⟨b1, fun k hk => b2 k (by omega), fun j h _ _ => b3 j h⟩, r9_hc b3⟩
theorem r9_st_1 (N : k9_Mem) (B : Nat) : ∀ k, r9_st (r9_w1 N B k) N
  | 0 => r9_st_r N
  | k + 1 => r9_st_t (r9_st_t (r9_st_H _ _) (r9_st_s (r9_w1 N B k) B k).1) (r9_st_1 N B k)
theorem r9_st_2 (N : k9_Mem) {B : Nat} (hM : N 77 384 = nI B) : r9_st (r9_w2 N B) N := r9_st_t (r9_st_H _ _) (r9_st_b N hM).1
theorem r9_st_3 (N : k9_Mem) (B : Nat) : ∀ k, r9_st (r9_w3 N B k) N
  | 0 => r9_st_r N
  | k + 1 => r9_st_t (r9_st_t (r9_st_H _ _) (r9_st_q (r9_w3 N B k) B k).1) (r9_st_3 N B k)
theorem r9_st_X (N : k9_Mem) {B : Nat} (hM : N 77 384 = nI B) : r9_st (r9_X N B) N :=
  r9_st_t (r9_st_3 _ B 4) (r9_st_t (r9_st_2 _ (by rw [(r9_st_1 N B 6).1]; exact hM)) (r9_st_1 N B 6))
theorem r9_st_W (N : k9_Mem) {B : Nat} (hM : N 77 384 = nI B) : r9_st (r9_W N B) N :=
  r9_st_t (r9_st_H _ _) (r9_st_t ⟨m9_lay_77 _ _, fun k hk => q9_lay_ne _ _ (by omega), fun j a _ _ => q9_lay76 _ _ a⟩ (r9_st_X N hM))
