/-! The reference: bestSteer, bestBridge, bestBreak, holesFor, played. -/
def m9_rbs (a b w : Int32) : Int32 := if ¬ m9_rfr 1 a b = 0 then m9_rfr 1 a b else if m9_wn w 0 1 then 0 else 2
def m9_M0 (M : k9_Mem) : k9_Mem := k9_st M 76 5 0
theorem m9_M0_77 (M : k9_Mem) : m9_M0 M 77 = M 77 := m9_st_ne _ _ _ (by decide)
def m9_pick (x : Int32 × Int32) (w : Int32) : Int32 := if w = 0 then x.1 else x.2
theorem ct_X7_bestSteer (l : Launch) (G : k9_G) (M : k9_Mem) {B : Nat} (hB : B < 1000) (hM : M 77 384 = nI B) (a b w : Int32) (H : m9_rbs a b w = 0 → ∀ k, k < 7 → m9_gd (m9_spu (m9_snS (m9_M0 M) B a.toNatClampNeg b.toNatClampNeg k) a.toNatClampNeg b.toNatClampNeg k) B) : k9_Ci l yX7_bestSteer wsX7_bestSteer rm_X7_bestSteer G M [.ref (k9_ga G 76), .int a, .int b, .int w] (if m9_rbs a b w = 0 then m9_pick (m9_bm (m9_snR (m9_M0 M) B a.toNatClampNeg b.toNatClampNeg) k9_nfi 7) w else 0) (if m9_rbs a b w = 0 then m9_lbM (m9_snS (m9_M0 M) B a.toNatClampNeg b.toNatClampNeg 7) else k9_st M 76 5 (m9_rbs a b w)) := by
  refine k9_metI (own := RX7) (by decide +kernel) rfl rfl (Nat.le_of_ble_eq_true rfl) rfl ?_
  intro p e s m args below meth c A Q X HR
  obtain ⟨r, hr⟩ : ∃ r, r = m9_rfr 1 a b := ⟨_, rfl⟩
  have hle := m9_rfr_le 1 a b
  rw [← hr] at hle
  have no : ∀ z, m9_rbs a b w = z → ¬ z = 0 → k9_U p l e rm_X7_bestSteer s m args below meth c Q A G 4 0 0 (k9_st M 76 5 z) 53 [] [.int 0] := fun z hz h0 => by
    have h9 := HR 53 [] dX7_bestSteer_53
    rw [hz, if_neg h0, if_neg h0] at h9
    exact h9
  refine bk_X7_bestSteer_0 (rv2 := 0) (mv2 := M) (rv4 := m9_pick (m9_bm (m9_snR (m9_M0 M) B a.toNatClampNeg b.toNatClampNeg) k9_nfi 7) w) (mv4 := m9_lbM (m9_snS (m9_M0 M) B a.toNatClampNeg b.toNatClampNeg 7)) X (hr ▸ ct_X7_refusedRange l G M 1 a b) (fun c1 c2 => absurd (hle.mp c2) c1) (fun c1 c2 => absurd (hle.mp c2) c1) (fun c1 c2 => no r (by rw [m9_rbs, if_pos (by rw [← hr]; exact c1), hr]) c1) (fun c1 => ct_X7_within l G _ _ _ _) (fun c1 c2 => ?_) (fun c1 c2 => ?_) (fun c1 c2 => ?_)
  · rw [m9_st_st]
    exact no 2 (by rw [m9_rbs, if_neg (fun z => z (hr.symm.trans c1)), if_neg (m9_bi_0 c2)]) (by decide)
  · have h0 : m9_rbs a b w = 0 := by rw [m9_rbs, if_neg (fun z => z (hr.symm.trans c1)), if_pos (m9_bi_1 c2)]
    obtain ⟨-, ha, hb, hab⟩ := m9_rfr_0 (hr.symm.trans c1)
    have hfg := m9_two_n ha hb hab
    obtain ⟨e1, l1⟩ := m9_wn_rng ha
    obtain ⟨e2, l2⟩ := m9_wn_rng hb
    have h9 := ct_X7_steerNow l G (m9_M0 M) hB (by rw [m9_M0_77, hM]) hfg l2 (H h0) w
    rw [← e1, ← e2] at h9
    rw [m9_st_st]
    exact h9
  · have h0 : m9_rbs a b w = 0 := by rw [m9_rbs, if_neg (fun z => z (hr.symm.trans c1)), if_pos (m9_bi_1 c2)]
    have h9 := HR 53 [] dX7_bestSteer_53
    rw [if_pos h0, if_pos h0] at h9
    exact h9
theorem ct_X7_bestBridge (l : Launch) (G : k9_G) (M : k9_Mem) {B : Nat} (hM : M 77 384 = nI B) (H : ∀ k, k < 4 → m9_gd (m9_bpu (m9_bnS (m9_M0 M) k) k) k) : k9_Ci l yX7_bestBridge wsX7_bestBridge rm_X7_bestBridge G M [.ref (k9_ga G 76)] (m9_bm (m9_bnR (m9_M0 M)) (fun k => nI k) 4).1 (k9_st (m9_bnS (m9_M0 M) 4) 77 384 (nI B)) := by
  refine k9_metI (own := RX7) (by decide +kernel) rfl rfl (Nat.le_of_ble_eq_true rfl) rfl ?_
  intro p e s m args below meth c A Q X HR
  exact bk_X7_bestBridge_0 X (ct_X7_bridgeNow l G (m9_M0 M) (by rw [m9_M0_77, hM]) H) (HR 9 [] dX7_bestBridge_9)
def m9_rbb (y w : Int32) : Int32 := if ¬ m9_wn y (-3) 3 ∨ ¬ m9_wn w 0 1 then 1 else 0
theorem ct_X7_bestBreak (l : Launch) (G : k9_G) (M : k9_Mem) {B : Nat} (hB : B < 1000) (hM : M 77 384 = nI B) (y w : Int32) (H : m9_rbb y w = 0 → ∀ k, k < 96 → m9_gd (m9_kpu (m9_knS (m9_M0 M) B y k) y k) B) : k9_Ci l yX7_bestBreak wsX7_bestBreak rm_X7_bestBreak G M [.ref (k9_ga G 76), .int y, .int w] (if m9_rbb y w = 0 then m9_pick (m9_bm (m9_knR (m9_M0 M) B y) (fun k => nI k) 96) w else 0) (if m9_rbb y w = 0 then m9_lbM (m9_knS (m9_M0 M) B y 96) else k9_st M 76 5 (m9_rbb y w)) := by
  refine k9_metI (own := RX7) (by decide +kernel) rfl rfl (Nat.le_of_ble_eq_true rfl) rfl ?_
  intro p e s m args below meth c A Q X HR
  have no : m9_rbb y w = 1 → k9_U p l e rm_X7_bestBreak s m args below meth c Q A G 3 0 0 (k9_st M 76 5 1) 42 [] [.int 0] := fun hz => by
    have h9 := HR 42 [] dX7_bestBreak_42
    rw [hz, if_neg (by decide), if_neg (by decide)] at h9
    exact h9
  have h0 : m9_wn y (-3) 3 → m9_wn w 0 1 → m9_rbb y w = 0 := fun h1 h2 => by rw [m9_rbb, if_neg (fun z => z.elim (fun z => z h1) (fun z => z h2))]
  refine bk_X7_bestBreak_0 (rv3 := m9_pick (m9_bm (m9_knR (m9_M0 M) B y) (fun k => nI k) 96) w) (mv3 := m9_lbM (m9_knS (m9_M0 M) B y 96)) X (ct_X7_isSide l G M y) (fun c1 => no (by rw [m9_rbb, if_pos (Or.inl (m9_bi_0 c1))])) (fun c1 => ct_X7_within l G _ _ _ _) (fun c1 c2 => no (by rw [m9_rbb, if_pos (Or.inr (m9_bi_0 c2))])) (fun c1 c2 => ct_X7_breakNow l G (m9_M0 M) hB (by rw [m9_M0_77, hM]) y (H (h0 (m9_bi_1 c1) (m9_bi_1 c2))) w) (fun c1 c2 => ?_)
  have h9 := HR 42 [] dX7_bestBreak_42
  rw [if_pos (h0 (m9_bi_1 c1) (m9_bi_1 c2)), if_pos (h0 (m9_bi_1 c1) (m9_bi_1 c2))] at h9
  exact h9
def m9_rhf (n B : Nat) : Nat := (n - 1) / (B + 1) + 1 + (if (n - 1) % (B + 1) = 0 then 0 else 1)
def m9_rhx (a : Int32) : Int32 := if m9_wn a 1 96 then 0 else 1
theorem ct_X7_holesFor (l : Launch) (G : k9_G) (M : k9_Mem) {B : Nat} (hB : B < 1000) (hM : M 77 384 = nI B) (a : Int32) : k9_Ci l yX7_holesFor wsX7_holesFor rm_X7_holesFor G M [.ref (k9_ga G 76), .int a] (if m9_rhx a = 0 then nI (m9_rhf a.toNatClampNeg B) else 0) (k9_st M 76 5 (m9_rhx a)) := by
  refine k9_metI (own := RX7) (by decide +kernel) rfl rfl (Nat.le_of_ble_eq_true rfl) rfl ?_
  intro p e s m args below meth c A Q X HR
  have eB : M 77 384 + 1 = nI (B + 1) := by rw [hM, nI_1]
  have nB : ¬ nI (B + 1) = 0 := fun z => by have := (m9_eq (b := 0) (by omega) (by decide)).mp z; omega
  have ea : m9_wn a 1 96 → a - 1 = nI (a.toNatClampNeg - 1) ∧ 1 ≤ a.toNatClampNeg ∧ a.toNatClampNeg ≤ 96 := fun h => by
    have h2 := m9_rng (lo := 1) (hi := 96) (by decide) h.1 h.2 (by decide)
    have q := m9_sub1 h2.2.1
    rw [← h2.1] at q
    exact ⟨q, h2.2.1, h2.2.2⟩
  refine bk_X7_holesFor_0 X (ct_X7_within l G _ _ _ _) (fun c1 => ?_) (fun c1 => by rw [eB]; exact nB) (fun c1 c2 => ?_) (fun c1 c2 => ?_)
  · have h0 : m9_rhx a = 1 := by rw [m9_rhx, if_neg (m9_bi_0 c1)]
    have h9 := HR 27 [] dX7_holesFor_27
    rw [h0, if_neg (by decide)] at h9
    exact h9
  · obtain ⟨e1, l1, l2⟩ := ea (m9_bi_1 c1)
    have h0 : m9_rhx a = 0 := by rw [m9_rhx, if_pos (m9_bi_1 c1)]
    have h9 := HR 60 [] dX7_holesFor_60
    rw [eB, e1, pk_rem (by omega) (by omega) (by omega)] at c2
    have c3 : ¬ (a.toNatClampNeg - 1) % (B + 1) = 0 := fun z => c2 (by rw [z]; rfl)
    rw [h0, if_pos rfl, m9_rhf, if_neg c3] at h9
    rw [eB, e1, pk_div (by omega) (by omega) (by omega), nI_1, nI_1]
    exact h9
  · obtain ⟨e1, l1, l2⟩ := ea (m9_bi_1 c1)
    have h0 : m9_rhx a = 0 := by rw [m9_rhx, if_pos (m9_bi_1 c1)]
    have h9 := HR 60 [] dX7_holesFor_60
    rw [eB, e1, pk_rem (by omega) (by omega) (by omega)] at c2
    have hlt : (a.toNatClampNeg - 1) % (B + 1) < B + 1 := Nat.mod_lt _ (by omega)
    have c3 : (a.toNatClampNeg - 1) % (B + 1) = 0 := (m9_eq (b := 0) (by omega) (by decide)).mp c2
    rw [h0, if_pos rfl, m9_rhf, if_pos c3] at h9
    rw [eB, e1, pk_div (by omega) (by omega) (by omega), nI_1, m9_add0]
    exact h9
