/-! The reference: what would be. -/
def m9_bm (rt val : Nat → Int32) : Nat → Int32 × Int32
  | 0 => (0, -1)
  | k + 1 => if rt k ≤ (m9_bm rt val k).2 then m9_bm rt val k else (val k, rt k)
def m9_spu (S : k9_Mem) (f g k : Nat) : k9_Mem := k9_sc S 77 (fb_put (S 77) (fun _ => k9_nfi k) (288 + f) (g + 1 - f))
def m9_snS (M : k9_Mem) (B f g : Nat) : Nat → k9_Mem
  | 0 => m9_ksM M
  | k + 1 => m9_lay (m9_spu (m9_snS M B f g k) f g k) B
def m9_snR (M : k9_Mem) (B f g k : Nat) : Int32 := m9_rn (m9_spu (m9_snS M B f g k) f g k) B
theorem m9_spu_384 (S : k9_Mem) {f g k : Nat} (hg : g < 96) : m9_spu S f g k 77 384 = S 77 384 := by rw [m9_spu, k9_sc_eq, fb_put_out (by omega)]
theorem m9_snS_384 (M : k9_Mem) (B : Nat) {f g : Nat} (hg : g < 96) : ∀ k, m9_snS M B f g k 77 384 = M 77 384
  | 0 => by
    show m9_ksM M 77 384 = _
    rw [m9_ksM, k9_sc_ne _ _ (by decide)]
  | k + 1 => by
    show m9_lay (m9_spu (m9_snS M B f g k) f g k) B 77 384 = _
    rw [m9_lay_77, m9_spu_384 _ hg, m9_snS_384 M B hg k]
theorem m9_nf_k : ∀ k : Nat, k < 7 → (nI k - nI k / (2 : Int32) * (2 : Int32) = 1 → (-(nI k + 1)) / (2 : Int32) = k9_nfi k) ∧ (¬ nI k - nI k / (2 : Int32) * (2 : Int32) = 1 → nI k / (2 : Int32) = k9_nfi k) := by decide +kernel
theorem ct_X7_steerNow (l : Launch) (G : k9_G) (M : k9_Mem) {B f g : Nat} (hB : B < 1000) (hM : M 77 384 = nI B) (hfg : f ≤ g) (hg : g < 96) (H : ∀ k, k < 7 → m9_gd (m9_spu (m9_snS M B f g k) f g k) B) (w : Int32) : k9_Ci l yX7_steerNow wsX7_steerNow rm_X7_steerNow G M [.ref (k9_ga G 76), .int (nI f), .int (nI g), .int w] (if w = 0 then (m9_bm (m9_snR M B f g) k9_nfi 7).1 else (m9_bm (m9_snR M B f g) k9_nfi 7).2) (m9_lbM (m9_snS M B f g 7)) := by
  refine k9_metI (own := RX7) (by decide +kernel) rfl rfl (Nat.le_of_ble_eq_true rfl) rfl ?_
  intro p e s m args below meth c A Q X HR
  have inner : ∀ k, k < 7 → ∀ (x y : Int32), (x, y) = m9_bm (m9_snR M B f g) k9_nfi k → k9_U p l e rm_X7_steerNow s m args below meth c Q A G 9 0 0 (m9_snS M B f g (k + 1)) 13 [(0, .ref (k9_ga G 76)), (1, .int (nI f)), (2, .int (nI g)), (3, .int w), (4, .int (m9_bm (m9_snR M B f g) k9_nfi (k + 1)).1), (5, .int (m9_bm (m9_snR M B f g) k9_nfi (k + 1)).2), (6, .int (nI (k + 1)))] [] →
      ∀ j, j ≤ g + 1 - f → k9_U p l e rm_X7_steerNow s m args below meth c Q A G 9 0 0 (k9_sc (m9_snS M B f g k) 77 (fb_put (m9_snS M B f g k 77) (fun _ => k9_nfi k) (288 + f) j)) 47 [(0, .ref (k9_ga G 76)), (1, .int (nI f)), (2, .int (nI g)), (3, .int w), (4, .int x), (5, .int y), (6, .int (nI k)), (7, .int (k9_nfi k)), (8, .int (nI (f + j)))] [] := by
    intro k hk x y hxy out
    have st : m9_bm (m9_snR M B f g) k9_nfi (k + 1) = if m9_snR M B f g k ≤ y then (x, y) else (k9_nfi k, m9_snR M B f g k) := by
      show (if m9_snR M B f g k ≤ (m9_bm (m9_snR M B f g) k9_nfi k).2 then m9_bm (m9_snR M B f g) k9_nfi k else (k9_nfi k, m9_snR M B f g k)) = _
      rw [← hxy]
    rw [st] at out
    refine m9_down (g + 1 - f) (fun j hj next => ?_)
    have hlt : nI g < nI (f + j) ↔ g < f + j := m9_lt (by omega) (by omega)
    have e3 : (288 : Int32) + nI (f + j) = nI (288 + f + j) := by rw [show 288 + f + j = 288 + (f + j) by omega]; exact nI_add 288 (f + j)
    have e4 : (nI (288 + f + j)).toNatClampNeg = 288 + f + j := m9_cl (by omega)
    have go : ¬ nI g < nI (f + j) → f + j ≤ g := fun c2 => by
      rcases Nat.lt_or_ge g (f + j) with q | q
      · exact absurd (hlt.mpr q) c2
      · exact q
    refine bk_X7_steerNow_47 (rv1 := m9_snR M B f g k) (mv1 := m9_snS M B f g (k + 1)) X (fun c1 => ?_) (fun c1 c2 => ?_) (fun c1 c2 => ?_) (fun c1 => ?_) (fun c1 => ?_)
    · have : j = g + 1 - f := by have := hlt.mp c1; omega
      subst this
      exact ct_X7_rn l G (m9_spu (m9_snS M B f g k) f g k) hB (by rw [m9_spu_384 _ hg, m9_snS_384 M B hg, hM]) (H k hk)
    · rw [if_pos c2] at out
      rw [nI_1]; exact out
    · rw [if_neg c2] at out
      rw [nI_1]; exact out
    · have := go c1
      rw [e3]; exact m9_in (by omega) (by decide)
    · have := go c1
      have h9 := next (by omega)
      rw [← fb_put_succ] at h9
      rw [e3, e4, m9_st_sc, nI_1]
      exact h9
  have loop : ∀ k, k ≤ 7 → k9_U p l e rm_X7_steerNow s m args below meth c Q A G 9 0 0 (m9_snS M B f g k) 13 [(0, .ref (k9_ga G 76)), (1, .int (nI f)), (2, .int (nI g)), (3, .int w), (4, .int (m9_bm (m9_snR M B f g) k9_nfi k).1), (5, .int (m9_bm (m9_snR M B f g) k9_nfi k).2), (6, .int (nI k))] [] := by
    refine m9_down 7 (fun k hk next => ?_)
    have start : k < 7 → k9_U p l e rm_X7_steerNow s m args below meth c Q A G 9 0 0 (m9_snS M B f g k) 47 [(0, .ref (k9_ga G 76)), (1, .int (nI f)), (2, .int (nI g)), (3, .int w), (4, .int (m9_bm (m9_snR M B f g) k9_nfi k).1), (5, .int (m9_bm (m9_snR M B f g) k9_nfi k).2), (6, .int (nI k)), (7, .int (k9_nfi k)), (8, .int (nI f))] [] := fun h => by
      have h9 := inner k h _ _ rfl (next h) 0 (by omega)
      rw [fb_put_0, m9_sc_same rfl] at h9
      exact h9
    refine bk_X7_steerNow_13 (mv1 := m9_lbM (m9_snS M B f g k)) X (fun c1 => ct_X7_layBack l G _) (fun c1 c2 => ?_) (fun c1 c2 => ?_) (fun c1 c2 => ?_) (fun c1 c2 => ?_)
    · have hk2 := m9_ex (N := 7) (by decide) hk c1
      subst hk2
      rw [if_neg c2] at HR
      exact HR 131 [] dX7_steerNow_131
    · have hk2 := m9_ex (N := 7) (by decide) hk c1
      subst hk2
      rw [if_pos c2] at HR
      exact HR 131 [] dX7_steerNow_131
    · have h := m9_go (N := 7) (by decide) hk c1
      rw [(m9_nf_k k h).2 c2]; exact start h
    · have h := m9_go (N := 7) (by decide) hk c1
      rw [(m9_nf_k k h).1 c2]; exact start h
  exact bk_X7_steerNow_0 X (ct_X7_keepSteering l G M) (loop 0 (by decide))
def m9_bpu (S : k9_Mem) (k : Nat) : k9_Mem := k9_st S 77 384 (nI k)
def m9_bnS (M : k9_Mem) : Nat → k9_Mem
  | 0 => M
  | k + 1 => m9_lay (m9_bpu (m9_bnS M k) k) k
def m9_bnR (M : k9_Mem) (k : Nat) : Int32 := m9_rn (m9_bpu (m9_bnS M k) k) k
theorem ct_X7_bridgeNow (l : Launch) (G : k9_G) (M : k9_Mem) {B : Nat} (hM : M 77 384 = nI B) (H : ∀ k, k < 4 → m9_gd (m9_bpu (m9_bnS M k) k) k) : k9_Ci l yX7_bridgeNow wsX7_bridgeNow rm_X7_bridgeNow G M [.ref (k9_ga G 76)] (m9_bm (m9_bnR M) (fun k => nI k) 4).1 (k9_st (m9_bnS M 4) 77 384 (nI B)) := by
  refine k9_metI (own := RX7) (by decide +kernel) rfl rfl (Nat.le_of_ble_eq_true rfl) rfl ?_
  intro p e s m args below meth c A Q X HR
  have loop : ∀ k, k ≤ 4 → k9_U p l e rm_X7_bridgeNow s m args below meth c Q A G 6 0 0 (m9_bnS M k) 16 [(0, .ref (k9_ga G 76)), (1, .int (nI B)), (2, .int (m9_bm (m9_bnR M) (fun k => nI k) k).1), (3, .int (m9_bm (m9_bnR M) (fun k => nI k) k).2), (4, .int (nI k))] [] := by
    refine m9_down 4 (fun k hk next => ?_)
    have st : m9_bm (m9_bnR M) (fun k => nI k) (k + 1) = if m9_bnR M k ≤ (m9_bm (m9_bnR M) (fun k => nI k) k).2 then m9_bm (m9_bnR M) (fun k => nI k) k else (nI k, m9_bnR M k) := rfl
    rw [st] at next
    refine bk_X7_bridgeNow_16 (rv1 := m9_bnR M k) (mv1 := m9_bnS M (k + 1)) X (fun c1 => ?_) (fun c1 => ?_) (fun c1 c2 => ?_) (fun c1 c2 => ?_)
    · have hk2 := m9_ex (N := 4) (by decide) hk c1
      subst hk2
      exact HR 80 [] dX7_bridgeNow_80
    · have h := m9_go (N := 4) (by decide) hk c1
      exact ct_X7_rn l G (m9_bpu (m9_bnS M k) k) (by omega) (by rw [m9_bpu, m9_st_at, m9_upd_at]) (H k h)
    · have h9 := next (m9_go (N := 4) (by decide) hk c1)
      rw [if_pos c2] at h9
      rw [nI_1]; exact h9
    · have h9 := next (m9_go (N := 4) (by decide) hk c1)
      rw [if_neg c2] at h9
      rw [nI_1]; exact h9
  refine bk_X7_bridgeNow_0 X ?_
  rw [hM]
  exact loop 0 (by decide)
def m9_hld (x : Int32) : Int32 := if ¬ x ≤ 3 then 3 else if ¬ (-3 : Int32) ≤ x then -3 else x
def m9_kpu (S : k9_Mem) (y : Int32) (k : Nat) : k9_Mem := k9_sc S 77 (fb_put (S 77) (fun s => if k ≤ s then m9_hld (S 88 s + y) else S 88 s) 288 96)
def m9_knS (M : k9_Mem) (B : Nat) (y : Int32) : Nat → k9_Mem
  | 0 => m9_ksM M
  | k + 1 => m9_lay (m9_kpu (m9_knS M B y k) y k) B
def m9_knR (M : k9_Mem) (B : Nat) (y : Int32) (k : Nat) : Int32 := m9_rn (m9_kpu (m9_knS M B y k) y k) B
theorem m9_kpu_384 (S : k9_Mem) (y : Int32) (k : Nat) : m9_kpu S y k 77 384 = S 77 384 := by rw [m9_kpu, k9_sc_eq, fb_put_out (Or.inr (by omega))]
theorem m9_knS_384 (M : k9_Mem) (B : Nat) (y : Int32) : ∀ k, m9_knS M B y k 77 384 = M 77 384
  | 0 => by
    show m9_ksM M 77 384 = _
    rw [m9_ksM, k9_sc_ne _ _ (by decide)]
  | k + 1 => by
    show m9_lay (m9_kpu (m9_knS M B y k) y k) B 77 384 = _
    rw [m9_lay_77, m9_kpu_384, m9_knS_384 M B y k]
theorem ct_X7_breakNow (l : Launch) (G : k9_G) (M : k9_Mem) {B : Nat} (hB : B < 1000) (hM : M 77 384 = nI B) (y : Int32) (H : ∀ k, k < 96 → m9_gd (m9_kpu (m9_knS M B y k) y k) B) (w : Int32) : k9_Ci l yX7_breakNow wsX7_breakNow rm_X7_breakNow G M [.ref (k9_ga G 76), .int y, .int w] (if w = 0 then (m9_bm (m9_knR M B y) (fun k => nI k) 96).1 else (m9_bm (m9_knR M B y) (fun k => nI k) 96).2) (m9_lbM (m9_knS M B y 96)) := by
  refine k9_metI (own := RX7) (by decide +kernel) rfl rfl (Nat.le_of_ble_eq_true rfl) rfl ?_
  intro p e s m args below meth c A Q X HR
  have inner : ∀ k, k < 96 → k9_U p l e rm_X7_breakNow s m args below meth c Q A G 7 0 0 (m9_knS M B y (k + 1)) 12 [(0, .ref (k9_ga G 76)), (1, .int y), (2, .int w), (3, .int (m9_bm (m9_knR M B y) (fun k => nI k) (k + 1)).1), (4, .int (m9_bm (m9_knR M B y) (fun k => nI k) (k + 1)).2), (5, .int (nI (k + 1)))] [] →
      ∀ j, j ≤ 96 → k9_U p l e rm_X7_breakNow s m args below meth c Q A G 7 0 0 (k9_sc (m9_knS M B y k) 77 (fb_put (m9_knS M B y k 77) (fun s => if k ≤ s then m9_hld (m9_knS M B y k 88 s + y) else m9_knS M B y k 88 s) 288 j)) 22 [(0, .ref (k9_ga G 76)), (1, .int y), (2, .int w), (3, .int (m9_bm (m9_knR M B y) (fun k => nI k) k).1), (4, .int (m9_bm (m9_knR M B y) (fun k => nI k) k).2), (5, .int (nI k)), (6, .int (nI j))] [] := by
    intro k hk out
    have st : m9_bm (m9_knR M B y) (fun k => nI k) (k + 1) = if m9_knR M B y k ≤ (m9_bm (m9_knR M B y) (fun k => nI k) k).2 then m9_bm (m9_knR M B y) (fun k => nI k) k else (nI k, m9_knR M B y k) := rfl
    rw [st] at out
    obtain ⟨S, hS⟩ : ∃ S, S = m9_knS M B y k := ⟨_, rfl⟩
    rw [← hS]
    refine m9_down 96 (fun j hj next => ?_)
    have hle : nI k ≤ nI j ↔ k ≤ j := m9_le (by omega) (by omega)
    have ej : (nI j).toNatClampNeg = j := m9_cl (by omega)
    have e3 : (288 : Int32) + nI j = nI (288 + j) := nI_add 288 j
    have e4 : (nI (288 + j)).toNatClampNeg = 288 + j := m9_cl (by omega)
    have e88 : k9_sc S 77 (fb_put (S 77) (fun s => if k ≤ s then m9_hld (S 88 s + y) else S 88 s) 288 j) 88 = S 88 := k9_sc_ne _ _ (by decide)
    refine bk_X7_breakNow_22 (rv1 := m9_knR M B y k) (mv1 := m9_knS M B y (k + 1)) (rv2 := m9_hld (S 88 j + y)) X (fun c1 => ?_) (fun c1 c2 => ?_) (fun c1 c2 => ?_) (fun c1 c2 => m9_in (m9_go (N := 96) (by decide) hj c1) (by decide)) (fun c1 c2 => ?_) (fun c1 c2 => ?_) (fun c1 c2 => ?_) (fun c1 c2 => m9_in (m9_go (N := 96) (by decide) hj c1) (by decide)) (fun c1 c2 => ?_) (fun c1 c2 => ?_)
    · have hj2 := m9_ex (N := 96) (by decide) hj c1
      subst hj2
      rw [hS]
      exact ct_X7_rn l G (m9_kpu (m9_knS M B y k) y k) hB (by rw [m9_kpu_384, m9_knS_384, hM]) (H k hk)
    · rw [if_pos c2] at out
      rw [nI_1]; exact out
    · rw [if_neg c2] at out
      rw [nI_1]; exact out
    · rw [ej, e88]; exact ct_X7_held l G _ _
    · have := m9_go (N := 96) (by decide) hj c1
      rw [e3]; exact m9_in (by omega) (by decide)
    · have h9 := next (m9_go (N := 96) (by decide) hj c1)
      rw [← fb_put_succ, if_pos (hle.mp c2)] at h9
      rw [e3, e4, m9_st_sc, nI_1]
      exact h9
    · have := m9_go (N := 96) (by decide) hj c1
      rw [e3]; exact m9_in (by omega) (by decide)
    · have h9 := next (m9_go (N := 96) (by decide) hj c1)
      rw [← fb_put_succ, if_neg (fun z => c2 (hle.mpr z))] at h9
      rw [e3, e4, ej, e88, m9_st_sc, nI_1]
      exact h9
  have loop : ∀ k, k ≤ 96 → k9_U p l e rm_X7_breakNow s m args below meth c Q A G 7 0 0 (m9_knS M B y k) 12 [(0, .ref (k9_ga G 76)), (1, .int y), (2, .int w), (3, .int (m9_bm (m9_knR M B y) (fun k => nI k) k).1), (4, .int (m9_bm (m9_knR M B y) (fun k => nI k) k).2), (5, .int (nI k))] [] := by
    refine m9_down 96 (fun k hk next => ?_)
    refine bk_X7_breakNow_12 (mv1 := m9_lbM (m9_knS M B y k)) X (fun c1 => ct_X7_layBack l G _) (fun c1 c2 => ?_) (fun c1 c2 => ?_) (fun c1 => ?_)
    · have hk2 := m9_ex (N := 96) (by decide) hk c1
      subst hk2
      rw [if_neg c2] at HR
      exact HR 131 [] dX7_breakNow_131
    · have hk2 := m9_ex (N := 96) (by decide) hk c1
      subst hk2
      rw [if_pos c2] at HR
      exact HR 131 [] dX7_breakNow_131
    · have h := m9_go (N := 96) (by decide) hk c1
      have h9 := inner k h (next h) 0 (by decide)
      rw [fb_put_0, m9_sc_same rfl] at h9
      exact h9
  exact bk_X7_breakNow_0 X (ct_X7_keepSteering l G M) (loop 0 (by decide))
