/-! What the law asks of one call, on both sides. -/
def op_R (l : Launch) (yR : MethodName) (wsR : List Cond) (rmR : Room) (aR : k9_G → List Value) (N : k9_Mem) (bv : Int32) (m2 : k9_Mem) (cd : Int32) : Prop :=
  (∀ G, k9_Ci l yR wsR rmR G N (aR G) bv m2) ∧ m2 76 5 = cd ∧ ∃ B R F U, q9_rel m2 B R F U
def op_A (l : Launch) (yC : MethodName) (wsC : List Cond) (rmC : Room) (mc ms : Nat) (yR : MethodName) (wsR : List Cond) (rmR : Room) (aC aR : k9_G → List Value) (L : List String) (M mx : k9_Mem) : Prop :=
  ∃ (x : Option String) (rv : Int32) (mv : k9_Mem), (∀ G, k9_Cyi l yC wsC rmC mc ms G M mx (aC G) x rv mv) ∧ (∀ E, x = some E → E ∈ L) ∧ (x = none → ∃ m2, op_R l yR wsR rmR aR mv rv m2 0) ∧ (∀ E, x = some E → ∃ bv m2, op_R l yR wsR rmR aR mx bv m2 (k9_code L x))
def op_B (l : Launch) (yC : MethodName) (wsC : List Cond) (rmC : Room) (yR : MethodName) (wsR : List Cond) (rmR : Room) (M : k9_Mem) : Prop :=
  ∃ (rv : Int32) (mv m2 : k9_Mem), (∀ G, k9_Ci l yC wsC rmC G M [.ref (k9_ga G 0)] rv mv) ∧ (∀ G, k9_Ci l yR wsR rmR G mv [.ref (k9_ga G 76)] rv m2) ∧ ∃ B R F U, q9_rel m2 B R F U
/-- the classes of what is thrown -/
theorem op_if {c : Prop} [Decidable c] {s : String} {y : Option String} {L : List String} (h : s ∈ L) (hy : ∀ E, y = some E → E ∈ L) : ∀ E, (if c then some s else y) = some E → E ∈ L := by
  intro E hE
  by_cases d : c
  · rw [if_pos d] at hE
    cases hE
    exact h
  · rw [if_neg d] at hE
    exact hy E hE
theorem op_ifn {c : Prop} [Decidable c] {s : String} {L : List String} (h : s ∈ L) : ∀ E, (if c then none else some s) = some E → E ∈ L := by
  intro E hE
  by_cases d : c
  · rw [if_pos d] at hE
    cases hE
  · rw [if_neg d] at hE
    cases hE
    exact h
theorem op_no {L : List String} : ∀ E, (none : Option String) = some E → E ∈ L := fun _ h => by cases h
theorem op_xo {x y : Option String} {L : List String} (hx : ∀ E, x = some E → E ∈ L) (hy : ∀ E, y = some E → E ∈ L) : ∀ E, m9_xo x y = some E → E ∈ L := by
  intro E hE
  cases x with
  | none => exact hy E hE
  | some s => exact hx E hE
theorem op_steps {a b : Int32} {L : List String} (h1 : m9_io ∈ L) (h2 : m9_ia ∈ L) : ∀ E, m9_xSteps a b = some E → E ∈ L := op_if h1 (op_if h2 op_no)
/-- the codes -/
theorem op_c3 {x : Option String} (h : ∀ E, x = some E → E ∈ [m9_io, m9_ia, m9_is]) : k9_code [m9_io, m9_ia, m9_is] x = q9_k3 x := by
  cases x with
  | none => rfl
  | some E =>
    have hm := h E rfl
    simp only [List.mem_cons, List.not_mem_nil, or_false] at hm
    rcases hm with rfl | rfl | rfl <;> decide
theorem op_c3a {x : Option String} (h : ∀ E, x = some E → E ∈ [m9_io, m9_ia]) : k9_code [m9_io, m9_ia] x = q9_k3 x := by
  cases x with
  | none => rfl
  | some E =>
    have hm := h E rfl
    simp only [List.mem_cons, List.not_mem_nil, or_false] at hm
    rcases hm with rfl | rfl <;> decide
theorem op_c3o {x : Option String} (h : ∀ E, x = some E → E ∈ [m9_io]) : k9_code [m9_io] x = q9_k3 x := by
  cases x with
  | none => rfl
  | some E =>
    have hm := h E rfl
    simp only [List.mem_cons, List.not_mem_nil, or_false] at hm
    subst hm
    decide
theorem op_c2 {x : Option String} (h : ∀ E, x = some E → E ∈ [m9_ia, m9_is]) : k9_code [m9_ia, m9_is] x = q9_k2 x := by
  cases x with
  | none => rfl
  | some E =>
    have hm := h E rfl
    simp only [List.mem_cons, List.not_mem_nil, or_false] at hm
    rcases hm with rfl | rfl <;> decide
theorem op_c2a {x : Option String} (h : ∀ E, x = some E → E ∈ [m9_ia]) : k9_code [m9_ia] x = q9_k2 x := by
  cases x with
  | none => rfl
  | some E =>
    have hm := h E rfl
    simp only [List.mem_cons, List.not_mem_nil, or_false] at hm
    subst hm
    decide
theorem op_k3 {E : String} : ¬ q9_k3 (some E) = 0 := by
  show ¬ (if E = m9_io then (1 : Int32) else if E = m9_ia then 2 else 3) = 0
  by_cases c : E = m9_io
  · rw [if_pos c]; decide
  · rw [if_neg c]
    by_cases d : E = m9_ia
    · rw [if_pos d]; decide
    · rw [if_neg d]; decide
theorem op_k2 {E : String} : ¬ q9_k2 (some E) = 0 := by
  show ¬ (if E = m9_ia then (1 : Int32) else 2) = 0
  by_cases d : E = m9_ia
  · rw [if_pos d]; decide
  · rw [if_neg d]; decide
theorem op_cne {L : List String} {E : String} (h : E ∈ L) (hL : L.length < 100) : ¬ k9_code L (some E) = 0 := by
  show ¬ nI (L.idxOf E + 1) = 0
  have h1 : L.idxOf E < L.length := List.idxOf_lt_length_of_mem h
  intro z
  have := congrArg Int32.toInt z
  rw [nI_toInt (by omega)] at this
  have h0 : (0 : Int32).toInt = 0 := by decide
  omega
/-- the plain facts of a relation -/
theorem op_f {M : k9_Mem} {B R F U : Nat} (h : q9_rel M B R F U) : F ≤ 6 ∧ M 76 1 = nI F ∧ B < 1000 ∧ M 77 384 = nI B ∧ R < 900 ∧ M 77 385 = nI R ∧ U ≤ 60 ∧ M 76 3 = nI U ∧ q9_tok (M 77) ∧ M 66 1 = nI U ∧ ∀ i, i < U → M 67 i = M 79 i := by
  obtain ⟨h1, ⟨k0, ⟨k1, k2⟩, ⟨k3, k4⟩, k5, k6⟩, h3, ⟨s1, s2, s3, s4⟩, t1, t2, t3, t4⟩ := h
  exact ⟨s1.2.1, s3, by omega, k1, by omega, k3, t2, t3, k5, t1, t4⟩
theorem op_th5 (M : k9_Mem) (v : Int32) : k9_st M 76 5 v 76 5 = v := by rw [m9_st_at, m9_upd_at]
theorem op_sv5 (N : k9_Mem) (F : Nat) (f : Nat → Int32) : k9_sc (m9_save (k9_st N 76 5 0) F) 77 f 76 5 = 0 := by rw [k9_sc_ne _ _ (by decide), m9_save_76 _ _ (by decide), op_th5]
section OPS
variable {l : Launch} {M : k9_Mem} {B R F U : Nat}
theorem op_punch (hl : l.stackTraces = false) (h : q9_rel M B R F U) (a b n : Int32) : op_A l yX6_punch wsX6_punch rm_X6_punch 3 18 yX7_punch wsX7_punch rm_X7_punch (fun G => [.ref (k9_ga G 0), .int a, .int b, .int n]) (fun G => [.ref (k9_ga G 76), .int a, .int b, .int n]) [m9_io, m9_ia, m9_is] M M := by
  obtain ⟨hF, hM1, hB, h384, hR, h385, hU, h3, ht, h66, h67⟩ := op_f h
  have hx : ∀ E, m9_xPunch a b n = some E → E ∈ [m9_io, m9_ia, m9_is] := op_if (by simp) (op_xo (op_if (by simp) op_no) (op_if (by simp) op_no))
  have hc := q9_xPunch a b n
  refine ⟨m9_xPunch a b n, m9_punV M F B a b n, m9_punM M F B a b n, fun G => ct_X6_punch hl G M (q9_okM h) a b n, hx, fun hn => ?_, fun E hE => ?_⟩
  · rw [hn] at hc
    have h0 : m9_rpu a b n = 0 := hc.symm
    obtain ⟨e77, e76, ev, rel⟩ := q9_punch h a b n h0
    refine ⟨m9_ruM (m9_punM M F B a b n) F B a b n, fun G => ?_, ?_, _, _, _, _, rel⟩
    · have ct := ct_X7_punch l G (m9_punM M F B a b n) hF (by rw [e76]; exact hM1) hB (by rw [e77]; exact h384) a b n
      rw [ev] at ct
      exact ct
    · unfold m9_ruM
      rw [if_pos h0, op_sv5]
  · have hne : ¬ m9_rpu a b n = 0 := by rw [← hc, hE]; exact op_k3
    have em : m9_ruM M F B a b n = k9_st M 76 5 (m9_rpu a b n) := if_neg hne
    refine ⟨m9_ruV M B a b n, m9_ruM M F B a b n, fun G => ct_X7_punch l G M hF hM1 hB h384 a b n, ?_, B, R, F, U, ?_⟩
    · rw [em, op_th5, op_c3 hx, hc]
    · rw [em]; exact q9_rel_th h _
theorem op_patch (hl : l.stackTraces = false) (h : q9_rel M B R F U) (t a b : Int32) : op_A l yX6_patch wsX6_patch rm_X6_patch 3 18 yX7_patch wsX7_patch rm_X7_patch (fun G => [.ref (k9_ga G 0), .int t, .int a, .int b]) (fun G => [.ref (k9_ga G 76), .int t, .int a, .int b]) [m9_io, m9_ia] M M := by
  obtain ⟨hF, hM1, hB, h384, hR, h385, hU, h3, ht, h66, h67⟩ := op_f h
  have hx : ∀ E, m9_xPatch t a b = some E → E ∈ [m9_io, m9_ia] := op_xo (op_if (by simp) op_no) (op_steps (by simp) (by simp))
  have hc := q9_xPatch t a b
  refine ⟨m9_xPatch t a b, _, m9_patM M F B t a b, fun G => ct_X6_patch hl G M (q9_okM h) t a b, hx, fun hn => ?_, fun E hE => ?_⟩
  · rw [hn] at hc
    have h0 : m9_rfr (m9_bi (m9_wn t 0 25)) a b = 0 := hc.symm
    obtain ⟨e77, e76, ev, rel⟩ := q9_patch h t a b h0
    refine ⟨m9_rpM (m9_patM M F B t a b) F t a b, fun G => ?_, ?_, _, _, _, _, rel⟩
    · have ct := ct_X7_patch l G (m9_patM M F B t a b) hF (by rw [e76]; exact hM1) t a b
      rw [ev] at ct
      exact ct
    · unfold m9_rpM
      rw [if_pos h0, op_sv5]
  · have hne : ¬ m9_rfr (m9_bi (m9_wn t 0 25)) a b = 0 := by rw [← hc, hE]; exact op_k3
    have em : m9_rpM M F t a b = k9_st M 76 5 (m9_rfr (m9_bi (m9_wn t 0 25)) a b) := if_neg hne
    refine ⟨m9_rpV M t a b, m9_rpM M F t a b, fun G => ct_X7_patch l G M hF hM1 t a b, ?_, B, R, F, U, ?_⟩
    · rw [em, op_th5, op_c3a hx, hc]
    · rw [em]; exact q9_rel_th h _
theorem op_peel (hl : l.stackTraces = false) (h : q9_rel M B R F U) (t a b : Int32) : op_A l yX6_peel wsX6_peel rm_X6_peel 3 18 yX7_peel wsX7_peel rm_X7_peel (fun G => [.ref (k9_ga G 0), .int t, .int a, .int b]) (fun G => [.ref (k9_ga G 76), .int t, .int a, .int b]) [m9_io, m9_ia] M M := by
  obtain ⟨hF, hM1, hB, h384, hR, h385, hU, h3, ht, h66, h67⟩ := op_f h
  have hx : ∀ E, m9_xPatch t a b = some E → E ∈ [m9_io, m9_ia] := op_xo (op_if (by simp) op_no) (op_steps (by simp) (by simp))
  have hc := q9_xPatch t a b
  refine ⟨m9_xPatch t a b, _, m9_pelM M F B t a b, fun G => ct_X6_peel hl G M (q9_okM h) t a b, hx, fun hn => ?_, fun E hE => ?_⟩
  · rw [hn] at hc
    have h0 : m9_rfr (m9_bi (m9_wn t 0 25)) a b = 0 := hc.symm
    obtain ⟨e77, e76, ev, rel⟩ := q9_peel h t a b h0
    refine ⟨m9_rlM (m9_pelM M F B t a b) F t a b, fun G => ?_, ?_, _, _, _, _, rel⟩
    · have ct := ct_X7_peel l G (m9_pelM M F B t a b) hF (by rw [e76]; exact hM1) t a b
      rw [ev] at ct
      exact ct
    · unfold m9_rlM
      rw [if_pos h0, op_sv5]
  · have hne : ¬ m9_rfr (m9_bi (m9_wn t 0 25)) a b = 0 := by rw [← hc, hE]; exact op_k3
    have em : m9_rlM M F t a b = k9_st M 76 5 (m9_rfr (m9_bi (m9_wn t 0 25)) a b) := if_neg hne
    refine ⟨m9_rlV M t a b, m9_rlM M F t a b, fun G => ct_X7_peel l G M hF hM1 t a b, ?_, B, R, F, U, ?_⟩
    · rw [em, op_th5, op_c3a hx, hc]
    · rw [em]; exact q9_rel_th h _
theorem op_rsh {Z Z' : Nat → Int32} (e : Z' = Z) (y : Int32) [d1 : Decidable (m9_csW Z y)] [d2 : Decidable (m9_csW Z' y)] : m9_rsh Z' y = m9_rsh Z y := by
  subst e
  rw [Subsingleton.elim d1 d2]
theorem op_lay5 (S : k9_Mem) (B : Nat) (h : S 76 5 = 0) : m9_lay S B 76 5 = 0 := by rw [q9_lay76 _ _ (by decide), h]
theorem op_shift (hl : l.stackTraces = false) (h : q9_rel M B R F U) (y : Int32) : op_A l yX6_shift wsX6_shift rm_X6_shift 2 12 yX7_shift wsX7_shift rm_X7_shift (fun G => [.ref (k9_ga G 0), .int y]) (fun G => [.ref (k9_ga G 76), .int y]) [m9_ia, m9_is] M M := by
  obtain ⟨hF, hM1, hB, h384, hR, h385, hU, h3, ht, h66, h67⟩ := op_f h
  obtain ⟨i1⟩ : Nonempty (Decidable (m9_canM M y)) := ⟨Classical.propDecidable _⟩
  obtain ⟨i2⟩ : Nonempty (Decidable (m9_csW (M 77) y)) := ⟨Classical.propDecidable _⟩
  have hx : ∀ E, m9_xShift M y = some E → E ∈ [m9_ia, m9_is] := op_xo (op_if (by simp) op_no) (op_ifn (by simp))
  have hc := q9_xShift h y
  refine ⟨m9_xShift M y, _, m9_shiM M F B y, fun G => ct_X6_shift hl G M (q9_okM h) y, hx, fun hn => ?_, fun E hE => ?_⟩
  · rw [hn] at hc
    have h0 : m9_rsh (M 77) y = 0 := hc.symm
    obtain ⟨e77, e76, gd, ev, rel⟩ := q9_shift h y h0
    obtain ⟨i3⟩ : Nonempty (Decidable (m9_csW (m9_shiM M F B y 77) y)) := ⟨Classical.propDecidable _⟩
    have h0' : m9_rsh (m9_shiM M F B y 77) y = 0 := (op_rsh e77 y).trans h0
    refine ⟨m9_lay (m9_shN (m9_shiM M F B y) F y) B, fun G => ?_, op_lay5 _ _ (op_sv5 _ _ _), _, _, _, _, q9_rel_lay rel B⟩
    have ct := ct_X7_shift l G (m9_shiM M F B y) (C := m9_C (m9_shN (m9_shiM M F B y) F y) B) hF (by rw [e76]; exact hM1) hB (by rw [e77]; exact h384) y (fun _ => ⟨gd.1, gd.2.1⟩)
    rw [if_pos h0', if_pos h0'] at ct
    rw [ev]
    exact ct
  · have hne : ¬ m9_rsh (M 77) y = 0 := by rw [← hc, hE]; exact op_k2
    refine ⟨0, k9_st M 76 5 (m9_rsh (M 77) y), fun G => ?_, ?_, B, R, F, U, q9_rel_th h _⟩
    · have ct := ct_X7_shift l G M (C := 0) hF hM1 hB h384 y (fun z => absurd z hne)
      rw [if_neg hne, if_neg hne] at ct
      exact ct
    · rw [op_th5, op_c2 hx, hc]
theorem op_rte {Z Z' : Nat → Int32} (e : Z' = Z) (a b y : Int32) [d1 : Decidable (m9_ctW Z y a.toNatClampNeg b.toNatClampNeg)] [d2 : Decidable (m9_ctW Z' y a.toNatClampNeg b.toNatClampNeg)] : m9_rte Z' a b y = m9_rte Z a b y := by
  subst e
  rw [Subsingleton.elim d1 d2]
theorem op_tear (hl : l.stackTraces = false) (h : q9_rel M B R F U) (a b y : Int32) : op_A l yX6_tear wsX6_tear rm_X6_tear 4 24 yX7_tear wsX7_tear rm_X7_tear (fun G => [.ref (k9_ga G 0), .int a, .int b, .int y]) (fun G => [.ref (k9_ga G 76), .int a, .int b, .int y]) [m9_io, m9_ia, m9_is] M M := by
  obtain ⟨hF, hM1, hB, h384, hR, h385, hU, h3, ht, h66, h67⟩ := op_f h
  obtain ⟨i1⟩ : Nonempty (Decidable (m9_canT M a b y)) := ⟨Classical.propDecidable _⟩
  obtain ⟨i2⟩ : Nonempty (Decidable (m9_ctW (M 77) y a.toNatClampNeg b.toNatClampNeg)) := ⟨Classical.propDecidable _⟩
  have hx : ∀ E, m9_xTear M a b y = some E → E ∈ [m9_io, m9_ia, m9_is] := op_xo (op_steps (by simp) (by simp)) (op_xo (op_if (by simp) op_no) (op_ifn (by simp)))
  have hc := q9_xTear h a b y
  refine ⟨m9_xTear M a b y, _, m9_teaM M F B a b y, fun G => ct_X6_tear hl G M (q9_okM h) a b y, hx, fun hn => ?_, fun E hE => ?_⟩
  · rw [hn] at hc
    have h0 : m9_rte (M 77) a b y = 0 := hc.symm
    obtain ⟨e77, e76, gd, ev, rel⟩ := q9_tear h a b y h0
    obtain ⟨i3⟩ : Nonempty (Decidable (m9_ctW (m9_teaM M F B a b y 77) y a.toNatClampNeg b.toNatClampNeg)) := ⟨Classical.propDecidable _⟩
    have h0' : m9_rte (m9_teaM M F B a b y 77) a b y = 0 := (op_rte e77 a b y).trans h0
    refine ⟨m9_lay (m9_teN (m9_teaM M F B a b y) F y a.toNatClampNeg b.toNatClampNeg) B, fun G => ?_, op_lay5 _ _ (op_sv5 _ _ _), _, _, _, _, q9_rel_lay rel B⟩
    have ct := ct_X7_tear l G (m9_teaM M F B a b y) (C := m9_C (m9_teN (m9_teaM M F B a b y) F y a.toNatClampNeg b.toNatClampNeg) B) hF (by rw [e76]; exact hM1) hB (by rw [e77]; exact h384) a b y (fun _ => ⟨gd.1, gd.2.1⟩)
    rw [if_pos h0', if_pos h0'] at ct
    rw [ev]
    exact ct
  · have hne : ¬ m9_rte (M 77) a b y = 0 := by rw [← hc, hE]; exact op_k3
    refine ⟨0, k9_st M 76 5 (m9_rte (M 77) a b y), fun G => ?_, ?_, B, R, F, U, q9_rel_th h _⟩
    · have ct := ct_X7_tear l G M (C := 0) hF hM1 hB h384 a b y (fun z => absurd z hne)
      rw [if_neg hne, if_neg hne] at ct
      exact ct
    · rw [op_th5, op_c3 hx, hc]
theorem op_steer (hl : l.stackTraces = false) (h : q9_rel M B R F U) (a b y : Int32) : op_A l yX6_steer wsX6_steer rm_X6_steer 3 18 yX7_steer wsX7_steer rm_X7_steer (fun G => [.ref (k9_ga G 0), .int a, .int b, .int y]) (fun G => [.ref (k9_ga G 76), .int a, .int b, .int y]) [m9_io, m9_ia] M M := by
  obtain ⟨hF, hM1, hB, h384, hR, h385, hU, h3, ht, h66, h67⟩ := op_f h
  have hx : ∀ E, m9_xSteer a b y = some E → E ∈ [m9_io, m9_ia] := op_xo (op_steps (by simp) (by simp)) (op_if (by simp) op_no)
  have hc := q9_xSteer a b y
  refine ⟨m9_xSteer a b y, _, m9_steM M F B a b y, fun G => ct_X6_steer hl G M (q9_okM h) a b y, hx, fun hn => ?_, fun E hE => ?_⟩
  · rw [hn] at hc
    have h0 : m9_rst a b y = 0 := hc.symm
    obtain ⟨e77, e76, gd, ev, rel⟩ := q9_steer h a b y h0
    refine ⟨m9_lay (m9_stN (m9_steM M F B a b y) F y a.toNatClampNeg b.toNatClampNeg) B, fun G => ?_, op_lay5 _ _ (op_sv5 _ _ _), _, _, _, _, q9_rel_lay rel B⟩
    have ct := ct_X7_steer l G (m9_steM M F B a b y) (C := m9_C (m9_stN (m9_steM M F B a b y) F y a.toNatClampNeg b.toNatClampNeg) B) hF (by rw [e76]; exact hM1) hB (by rw [e77]; exact h384) a b y (fun _ => ⟨gd.1, gd.2.1⟩)
    rw [if_pos h0, if_pos h0] at ct
    rw [ev]
    exact ct
  · have hne : ¬ m9_rst a b y = 0 := by rw [← hc, hE]; exact op_k3
    refine ⟨0, k9_st M 76 5 (m9_rst a b y), fun G => ?_, ?_, B, R, F, U, q9_rel_th h _⟩
    · have ct := ct_X7_steer l G M (C := 0) hF hM1 hB h384 a b y (fun z => absurd z hne)
      rw [if_neg hne, if_neg hne] at ct
      exact ct
    · rw [op_th5, op_c3a hx, hc]
theorem op_set (hl : l.stackTraces = false) (h : q9_rel M B R F U) (a v : Int32) : op_A l yX6_set wsX6_set rm_X6_set 2 12 yX7_set wsX7_set rm_X7_set (fun G => [.ref (k9_ga G 0), .int a, .int v]) (fun G => [.ref (k9_ga G 76), .int a, .int v]) [m9_io, m9_ia] M M := by
  obtain ⟨hF, hM1, hB, h384, hR, h385, hU, h3, ht, h66, h67⟩ := op_f h
  have hx : ∀ E, m9_xSet a v = some E → E ∈ [m9_io, m9_ia] := op_xo (op_if (by simp) op_no) (op_if (by simp) op_no)
  have hc := q9_xSet a v
  refine ⟨m9_xSet a v, _, m9_setM M F B a v, fun G => ct_X6_set hl G M (q9_okM h) a v, hx, fun hn => ?_, fun E hE => ?_⟩
  · rw [hn] at hc
    have h0 : m9_rse a v = 0 := hc.symm
    obtain ⟨e77, e76, ev, B', R', rel⟩ := q9_set h a v h0
    refine ⟨k9_st (m9_save (k9_st (m9_setM M F B a v) 76 5 0) F) 77 (384 + a.toNatClampNeg) v, fun G => ?_, op_sv5 _ _ _, _, _, _, _, rel⟩
    have ct := ct_X7_set l G (m9_setM M F B a v) hF (by rw [e76]; exact hM1) a v
    rw [if_pos h0, if_pos h0, ev] at ct
    exact ct
  · have hne : ¬ m9_rse a v = 0 := by rw [← hc, hE]; exact op_k3
    refine ⟨0, k9_st M 76 5 (m9_rse a v), fun G => ?_, ?_, B, R, F, U, q9_rel_th h _⟩
    · have ct := ct_X7_set l G M hF hM1 a v
      rw [if_neg hne, if_neg hne] at ct
      exact ct
    · rw [op_th5, op_c3a hx, hc]
theorem op_append (hl : l.stackTraces = false) (h : q9_rel M B R F U) (a : Int32) : op_A l yX6_append wsX6_append rm_X6_append 2 12 yX7_append wsX7_append rm_X7_append (fun G => [.ref (k9_ga G 0), .int a]) (fun G => [.ref (k9_ga G 76), .int a]) [m9_ia, m9_is] M M := by
  obtain ⟨hF, hM1, hB, h384, hR, h385, hU, h3, ht, h66, h67⟩ := op_f h
  have hx : ∀ E, m9_xAppend U a = some E → E ∈ [m9_ia, m9_is] := op_if (by simp) (op_ifn (by simp))
  have hc := q9_xAppend hU a
  refine ⟨m9_xAppend U a, _, m9_add M U a, fun G => ct_X6_append hl G M (q9_okM h) a, hx, fun hn => ?_, fun E hE => ?_⟩
  · rw [hn] at hc
    have h0 : m9_rap U a = 0 := hc.symm
    have hU6 : U < 60 := by
      rcases Nat.lt_or_ge U 60 with q | q
      · exact q
      · have eU : U = 60 := by omega
        have h9 := h0
        unfold m9_rap at h9
        by_cases c : ¬ m9_wn a 33 126
        · rw [if_pos c] at h9
          exact absurd h9 (by decide)
        · rw [if_neg c, if_pos eU] at h9
          exact absurd h9 (by decide)
    obtain ⟨e76, rel⟩ := q9_append h hU6 a
    refine ⟨k9_st (k9_st (k9_st (m9_add M U a) 76 5 0) 79 U a) 76 3 (nI (U + 1)), fun G => ?_, ?_, _, _, _, _, rel⟩
    · have ct := ct_X7_append l G (m9_add M U a) hU (by rw [e76]; exact h3) a
      rw [if_pos h0, if_pos h0] at ct
      exact ct
    · rw [m9_st_at_ne _ _ (by decide), m9_st_ne _ _ _ (by decide), op_th5]
  · have hne : ¬ m9_rap U a = 0 := by rw [← hc, hE]; exact op_k2
    refine ⟨0, k9_st M 76 5 (m9_rap U a), fun G => ?_, ?_, B, R, F, U, q9_rel_th h _⟩
    · have ct := ct_X7_append l G M hU h3 a
      rw [if_neg hne, if_neg hne] at ct
      exact ct
    · rw [op_th5, op_c2 hx, hc]
theorem op_undo (hl : l.stackTraces = false) (h : q9_rel M B R F U) : op_A l yX6_undo wsX6_undo rm_X6_undo 1 6 yX7_undo wsX7_undo rm_X7_undo (fun G => [.ref (k9_ga G 0)]) (fun G => [.ref (k9_ga G 76)]) [m9_is] M M := by
  obtain ⟨hF, hM1, hB, h384, hR, h385, hU, h3, ht, h66, h67⟩ := op_f h
  have hx : ∀ E, m9_xUndo F = some E → E ∈ [m9_is] := op_if (by simp) op_no
  by_cases c : F = 0
  · refine ⟨m9_xUndo F, _, _, fun G => ct_X6_undo hl G M (B' := 0) (q9_okM h) (by decide) (fun z => absurd c (by omega)), hx, fun hn => ?_, fun E hE => ?_⟩
    · unfold m9_xUndo at hn
      rw [if_pos c] at hn
      cases hn
    · have e : m9_xUndo F = some m9_is := if_pos c
      refine ⟨0, k9_st M 76 5 1, fun G => ?_, ?_, B, R, F, U, q9_rel_th h _⟩
      · have ct := ct_X7_undo l G M hF hM1
        rw [if_pos c, if_pos c] at ct
        exact ct
      · rw [op_th5, e]
        decide
  · obtain ⟨B', R', hB', h5, e76, rel⟩ := q9_undo h (by omega)
    have e : m9_xUndo F = none := if_neg c
    refine ⟨m9_xUndo F, _, _, fun G => ct_X6_undo hl G M (B' := B') (q9_okM h) hB' (fun _ => h5), hx, fun hn => ?_, fun E hE => ?_⟩
    · refine ⟨m9_run (m9_hear (m9_give M F) B') F, fun G => ?_, ?_, _, _, _, _, rel⟩
      · have ct := ct_X7_undo l G (m9_hear (m9_give M F) B') hF (by rw [e76]; exact hM1)
        rw [if_neg c, if_neg c] at ct
        exact ct
      · unfold m9_run
        rw [k9_sc_ne _ _ (by decide), m9_st_at_ne _ _ (by decide), op_th5]
    · rw [e] at hE
      cases hE
theorem op_place (hl : l.stackTraces = false) (h : q9_rel M B R F U) (a t w : Int32) : op_A l yX6_place wsX6_place rm_X6_place 3 18 yX7_place wsX7_place rm_X7_place (fun G => [.ref (k9_ga G 0), .int a, .int t, .int w]) (fun G => [.ref (k9_ga G 76), .int a, .int t, .int w]) [m9_io, m9_ia] M M := by
  have hx : ∀ E, m9_xPlace a t w = some E → E ∈ [m9_io, m9_ia] := op_if (by simp) (op_xo (op_if (by simp) op_no) (op_if (by simp) op_no))
  have hc := q9_xPlace a t w
  refine ⟨m9_xPlace a t w, _, M, fun G => ct_X6_place hl G M a t w, hx, fun hn => ?_, fun E hE => ?_⟩
  · rw [hn] at hc
    have h0 : m9_rpl a t w = 0 := hc.symm
    refine ⟨k9_st M 76 5 (m9_rpl a t w), fun G => ?_, by rw [op_th5, h0], B, R, F, U, q9_rel_th h _⟩
    have ct := ct_X7_place l G M a t w
    rw [if_pos h0] at ct
    rw [q9_place h.1 h.2.1 h0]
    exact ct
  · have hne : ¬ m9_rpl a t w = 0 := by rw [← hc, hE]; exact op_k3
    exact ⟨_, _, fun G => ct_X7_place l G M a t w, by rw [op_th5, op_c3a hx, hc], B, R, F, U, q9_rel_th h _⟩
theorem op_step (hl : l.stackTraces = false) (h : q9_rel M B R F U) (a w : Int32) : op_A l yX6_step wsX6_step rm_X6_step 2 12 yX7_step wsX7_step rm_X7_step (fun G => [.ref (k9_ga G 0), .int a, .int w]) (fun G => [.ref (k9_ga G 76), .int a, .int w]) [m9_io, m9_ia] M M := by
  obtain ⟨hF, hM1, hB, h384, hR, h385, hU, h3, ht, h66, h67⟩ := op_f h
  have hx : ∀ E, m9_xStep a w = some E → E ∈ [m9_io, m9_ia] := op_if (by simp) (op_if (by simp) op_no)
  have hc := q9_xStep a w
  have gd := q9_gd_th h 0 B
  have cR := fun G => ct_X7_step l G M hB h384 hR h385 gd.1 gd.2.2 (by rw [m9_lay_77, q9_th77]) a w
  refine ⟨m9_xStep a w, _, M, fun G => ct_X6_step hl G M (q9_okM h) a w, hx, fun hn => ?_, fun E hE => ?_⟩
  · rw [hn] at hc
    have h0 : m9_rsp a w = 0 := hc.symm
    refine ⟨m9_lay (k9_st M 76 5 0) B, fun G => ?_, op_lay5 _ _ (op_th5 _ _), B, R, F, U, q9_rel_lay (q9_rel_th h 0) B⟩
    have ct := cR G
    rw [if_pos h0, if_pos h0] at ct
    rw [q9_step_v h h0]
    exact ct
  · have hne : ¬ m9_rsp a w = 0 := by rw [← hc, hE]; exact op_k3
    refine ⟨0, k9_st M 76 5 (m9_rsp a w), fun G => ?_, by rw [op_th5, op_c3a hx, hc], B, R, F, U, q9_rel_th h _⟩
    have ct := cR G
    rw [if_neg hne, if_neg hne] at ct
    exact ct
theorem op_played (hl : l.stackTraces = false) (h : q9_rel M B R F U) (a w : Int32) : op_A l yX6_played wsX6_played rm_X6_played 2 12 yX7_played wsX7_played rm_X7_played (fun G => [.ref (k9_ga G 0), .int a, .int w]) (fun G => [.ref (k9_ga G 76), .int a, .int w]) [m9_io, m9_ia] M M := by
  obtain ⟨hF, hM1, hB, h384, hR, h385, hU, h3, ht, h66, h67⟩ := op_f h
  have hx : ∀ E, m9_xPlayed (M 60) a w 5 = some E → E ∈ [m9_io, m9_ia] := op_if (by simp) (op_if (by simp) op_no)
  have hc := q9_xPlayed h a w
  have cR := fun G => ct_X7_played l G M hB h384 (q9_gd M B ht) a w
  refine ⟨m9_xPlayed (M 60) a w 5, _, M, fun G => ct_X6_played hl G M a w, hx, fun hn => ?_, fun E hE => ?_⟩
  · rw [hn] at hc
    have h0 : m9_rpy (m9_C M B) a w = 0 := hc.symm
    refine ⟨_, fun G => ?_, by rw [op_th5, h0], B, R, F, U, q9_rel_th (q9_rel_lay h B) (m9_rpy (m9_C M B) a w)⟩
    have ct := cR G
    rw [if_pos h0] at ct
    rw [q9_played_v h h0]
    exact ct
  · exact ⟨_, _, cR, by rw [op_th5, op_c3a hx, hc], B, R, F, U, q9_rel_th (q9_rel_lay h B) _⟩
theorem op_tune (hl : l.stackTraces = false) (h : q9_rel M B R F U) (a w : Int32) : op_A l yX6_tune wsX6_tune rm_X6_tune 2 12 yX7_tune wsX7_tune rm_X7_tune (fun G => [.ref (k9_ga G 0), .int a, .int w]) (fun G => [.ref (k9_ga G 76), .int a, .int w]) [m9_io, m9_ia] M M := by
  obtain ⟨hF, hM1, hB, h384, hR, h385, hU, h3, ht, h66, h67⟩ := op_f h
  have hx : ∀ E, m9_xPlayed (M 7) a w 3 = some E → E ∈ [m9_io, m9_ia] := op_if (by simp) (op_if (by simp) op_no)
  have hc := q9_xTune h.1 a w
  obtain ⟨K, hK⟩ := q9_tune_K h.2.1 a.toNatClampNeg
  have hT : q9_T9 (M 77) < 10000 := by
    have := fb_ct_le (m9_bg (fun j => M 77 (386 + j))) 1920
    unfold q9_T9
    omega
  have cR := fun G => ct_X7_tune l G M hB h384 (q9_gd_th h 0 B) (q9_tnn h.2.1) hT a w hK
  have s77 : k9_st M 76 5 0 77 = M 77 := q9_th77 M 0
  refine ⟨m9_xPlayed (M 7) a w 3, _, M, fun G => ct_X6_tune hl G M a w, hx, fun hn => ?_, fun E hE => ?_⟩
  · rw [hn] at hc
    have h0 : m9_rtu (q9_T9 (M 77)) a w = 0 := hc.symm
    refine ⟨m9_lay (k9_st M 76 5 0) B, fun G => ?_, op_lay5 _ _ (op_th5 _ _), B, R, F, U, q9_rel_lay (q9_rel_th h 0) B⟩
    have ct := cR G
    rw [if_pos h0, if_pos h0] at ct
    have ev := q9_tune_v (M := M) (S := k9_st M 76 5 0) (B := B) (R := R) (by rw [s77]; exact h.1) (by rw [s77]; exact h.2.1) h.2.2.1 (a := a) (w := w) (by rw [s77]; exact h0) (K := K) (by rw [s77]; exact hK)
    rw [ev]
    exact ct
  · have hne : ¬ m9_rtu (q9_T9 (M 77)) a w = 0 := by rw [← hc, hE]; exact op_k3
    refine ⟨0, k9_st M 76 5 (m9_rtu (q9_T9 (M 77)) a w), fun G => ?_, by rw [op_th5, op_c3a hx, hc], B, R, F, U, q9_rel_th h _⟩
    have ct := cR G
    rw [if_neg hne, if_neg hne] at ct
    exact ct
theorem op_count (hl : l.stackTraces = false) (h : q9_rel M B R F U) (w : Int32) : op_A l yX6_count wsX6_count rm_X6_count 1 6 yX7_count wsX7_count rm_X7_count (fun G => [.ref (k9_ga G 0), .int w]) (fun G => [.ref (k9_ga G 76), .int w]) [m9_ia] M M := by
  obtain ⟨hF, hM1, hB, h384, hR, h385, hU, h3, ht, h66, h67⟩ := op_f h
  have hx : ∀ E, m9_xWhat w 14 = some E → E ∈ [m9_ia] := op_if (by simp) op_no
  have hc := q9_xCount w
  have cR := fun G => ct_X7_count l G M hB h384 hR h385 (q9_gd_th h 0 B) w
  refine ⟨m9_xWhat w 14, _, M, fun G => ct_X6_count hl G M (q9_okM h) w, hx, fun hn => ?_, fun E hE => ?_⟩
  · rw [hn] at hc
    have h0 : m9_rc0 w = 0 := hc.symm
    refine ⟨m9_lay (k9_st M 76 5 0) B, fun G => ?_, op_lay5 _ _ (op_th5 _ _), B, R, F, U, q9_rel_lay (q9_rel_th h 0) B⟩
    have ct := cR G
    rw [if_pos h0, if_pos h0] at ct
    rw [q9_count_v h w]
    exact ct
  · have hne : ¬ m9_rc0 w = 0 := by rw [← hc, hE]; exact op_k2
    refine ⟨0, k9_st M 76 5 (m9_rc0 w), fun G => ?_, by rw [op_th5, op_c2a hx, hc], B, R, F, U, q9_rel_th h _⟩
    have ct := cR G
    rw [if_neg hne, if_neg hne] at ct
    exact ct
theorem op_setting (hl : l.stackTraces = false) (h : q9_rel M B R F U) (a : Int32) : op_A l yX6_setting wsX6_setting rm_X6_setting 1 6 yX7_setting wsX7_setting rm_X7_setting (fun G => [.ref (k9_ga G 0), .int a]) (fun G => [.ref (k9_ga G 76), .int a]) [m9_io] M M := by
  have hx : ∀ E, m9_xSetting a = some E → E ∈ [m9_io] := op_if (by simp) op_no
  have hc := q9_xSetting a
  refine ⟨m9_xSetting a, _, M, fun G => ct_X6_setting hl G M a, hx, fun hn => ?_, fun E hE => ?_⟩
  · rw [hn] at hc
    have h0 : m9_rs0 a = 0 := hc.symm
    refine ⟨_, fun G => ?_, by rw [op_th5, h0], B, R, F, U, q9_rel_th h (m9_rs0 a)⟩
    have ct := ct_X7_setting l G M a
    rw [if_pos h0] at ct
    rw [q9_setting h.1 h0]
    exact ct
  · exact ⟨_, _, fun G => ct_X7_setting l G M a, by rw [op_th5, op_c3o hx, hc], B, R, F, U, q9_rel_th h _⟩
theorem op_bestSteer (hl : l.stackTraces = false) (h : q9_rel M B R F U) (a b w : Int32) : op_A l yX6_bestSteer wsX6_bestSteer rm_X6_bestSteer 3 18 yX7_bestSteer wsX7_bestSteer rm_X7_bestSteer (fun G => [.ref (k9_ga G 0), .int a, .int b, .int w]) (fun G => [.ref (k9_ga G 76), .int a, .int b, .int w]) [m9_io, m9_ia] M M := by
  obtain ⟨hF, hM1, hB, h384, hR, h385, hU, h3, ht, h66, h67⟩ := op_f h
  have hx : ∀ E, m9_xBestS a b w = some E → E ∈ [m9_io, m9_ia] := op_xo (op_steps (by simp) (by simp)) (op_if (by simp) op_no)
  have hc := q9_xBestS a b w
  refine ⟨m9_xBestS a b w, _, m9_fsM M a b B 7, fun G => ct_X6_bestSteer hl G M (q9_okM h) a b w, hx, fun hn => ?_, fun E hE => ?_⟩
  · rw [hn] at hc
    have h0 : m9_rbs a b w = 0 := hc.symm
    obtain ⟨a1, b1, hfg, hg⟩ := q9_rbs0 h0
    obtain ⟨N, hN⟩ : ∃ N, N = m9_fsM M a b B 7 := ⟨_, rfl⟩
    have e77 : N 77 = M 77 := by rw [hN]; exact m9_fsM_ne M a b B (by decide) (by decide) (by decide) (by decide) 7
    have n0 : m9_M0 N 77 = M 77 := (m9_M0_77 N).trans e77
    have rel0 : q9_rel (m9_M0 N) B R F U := by rw [hN]; exact q9_rel_th (q9_fs_rel h a b) 0
    have ev := q9_bestSteer h n0 h0
    rw [ev, ← hN]
    refine ⟨m9_lbM (m9_snS (m9_M0 N) B a.toNatClampNeg b.toNatClampNeg 7), fun G => ?_, ?_, B, R, F, U, q9_backS_rel rel0 hfg hg⟩
    · have ct := ct_X7_bestSteer l G N hB (by rw [e77]; exact h384) a b w (fun _ k _ => q9_gdS (S := m9_M0 N) rel0.2.1 hfg hg k)
      rw [if_pos h0, if_pos h0] at ct
      exact ct
    · rw [(q9_backS (m9_M0 N) B hfg hg).2.2 5 (by decide)]
      exact op_th5 _ _
  · have hne : ¬ m9_rbs a b w = 0 := by rw [← hc, hE]; exact op_k3
    refine ⟨0, k9_st M 76 5 (m9_rbs a b w), fun G => ?_, by rw [op_th5, op_c3a hx, hc], B, R, F, U, q9_rel_th h _⟩
    have ct := ct_X7_bestSteer l G M hB h384 a b w (fun z => absurd z hne)
    rw [if_neg hne, if_neg hne] at ct
    exact ct
theorem op_bestBreak (hl : l.stackTraces = false) (h : q9_rel M B R F U) (y w : Int32) : op_A l yX6_bestBreak wsX6_bestBreak rm_X6_bestBreak 2 12 yX7_bestBreak wsX7_bestBreak rm_X7_bestBreak (fun G => [.ref (k9_ga G 0), .int y, .int w]) (fun G => [.ref (k9_ga G 76), .int y, .int w]) [m9_ia] M M := by
  obtain ⟨hF, hM1, hB, h384, hR, h385, hU, h3, ht, h66, h67⟩ := op_f h
  have hx : ∀ E, m9_xBestB y w = some E → E ∈ [m9_ia] := op_xo (op_if (by simp) op_no) (op_if (by simp) op_no)
  have hc := q9_xBestB y w
  refine ⟨m9_xBestB y w, _, (m9_bk (m9_bk0 M y) B 96).1, fun G => ct_X6_bestBreak hl G M (q9_okM h) y w, hx, fun hn => ?_, fun E hE => ?_⟩
  · rw [hn] at hc
    have h0 : m9_rbb y w = 0 := hc.symm
    obtain ⟨N, hN⟩ : ∃ N, N = (m9_bk (m9_bk0 M y) B 96).1 := ⟨_, rfl⟩
    have e77 : N 77 = M 77 := by rw [hN]; exact m9_bkA_ne M y B (by decide) (by decide) (by decide) (by decide)
    have n0 : m9_M0 N 77 = M 77 := (m9_M0_77 N).trans e77
    have rel0 : q9_rel (m9_M0 N) B R F U := by rw [hN]; exact q9_rel_th (q9_bk_rel h y) 0
    rw [q9_bestBreak h n0 y w, ← hN]
    refine ⟨m9_lbM (m9_knS (m9_M0 N) B y 96), fun G => ?_, ?_, B, R, F, U, q9_backK_rel rel0 y⟩
    · have ct := ct_X7_bestBreak l G N hB (by rw [e77]; exact h384) y w (fun _ k _ => q9_gdK (S := m9_M0 N) rel0.2.1 y k)
      rw [if_pos h0, if_pos h0] at ct
      exact ct
    · rw [(q9_backK (m9_M0 N) B y).2.2 5 (by decide)]
      exact op_th5 _ _
  · have hne : ¬ m9_rbb y w = 0 := by rw [← hc, hE]; exact op_k2
    refine ⟨0, k9_st M 76 5 (m9_rbb y w), fun G => ?_, by rw [op_th5, op_c2a hx, hc], B, R, F, U, q9_rel_th h _⟩
    have ct := ct_X7_bestBreak l G M hB h384 y w (fun z => absurd z hne)
    rw [if_neg hne, if_neg hne] at ct
    exact ct
theorem op_holesFor (hl : l.stackTraces = false) (h : q9_rel M B R F U) (a : Int32) : op_A l yX6_holesFor wsX6_holesFor rm_X6_holesFor 1 6 yX7_holesFor wsX7_holesFor rm_X7_holesFor (fun G => [.ref (k9_ga G 0), .int a]) (fun G => [.ref (k9_ga G 76), .int a]) [m9_ia] M M := by
  obtain ⟨hF, hM1, hB, h384, hR, h385, hU, h3, ht, h66, h67⟩ := op_f h
  have hx : ∀ E, m9_xLength a = some E → E ∈ [m9_ia] := op_if (by simp) op_no
  have hc := q9_xHoles a
  have cR := fun G => ct_X7_holesFor l G M hB h384 a
  refine ⟨m9_xLength a, _, M, fun G => ct_X6_holesFor hl G M (q9_okM h) a, hx, fun hn => ?_, fun E hE => ?_⟩
  · rw [hn] at hc
    have h0 : m9_rhx a = 0 := hc.symm
    have hw : m9_wn a 1 96 := Classical.byContradiction (fun z => by
      have h9 := h0
      unfold m9_rhx at h9
      rw [if_neg z] at h9
      exact absurd h9 (by decide))
    obtain ⟨a1, a2, a3⟩ := m9_rng (lo := 1) (hi := 96) (by decide) hw.1 hw.2 (by decide)
    refine ⟨_, fun G => ?_, by rw [op_th5, h0], B, R, F, U, q9_rel_th h (m9_rhx a)⟩
    have ct := cR G
    rw [if_pos h0] at ct
    rw [q9_holes h.2.1.2.1.2 a2 a3]
    exact ct
  · exact ⟨_, _, cR, by rw [op_th5, op_c2a hx, hc], B, R, F, U, q9_rel_th h _⟩
theorem op_punchAll (hl : l.stackTraces = false) (h : q9_rel M B R F U) : ∃ mx, op_A l yX6_punchAll wsX6_punchAll rm_X6_punchAll 2 12 yX7_punchAll wsX7_punchAll rm_X7_punchAll (fun G => [.ref (k9_ga G 0)]) (fun G => [.ref (k9_ga G 76)]) [m9_ia, m9_is] M mx := by
  obtain ⟨hF, hM1, hB, h384, hR, h385, hU, h3, ht, h66, h67⟩ := op_f h
  obtain ⟨K, r, pa⟩ := q9_PA_of hU h66
  obtain ⟨i1⟩ : Nonempty (Decidable (m9_allf (m9_rrm M U K) (r + 1))) := ⟨Classical.propDecidable _⟩
  have hx : ∀ E, m9_xPunchAll M U K (r + 1) = some E → E ∈ [m9_ia, m9_is] := by
    intro E hE
    unfold m9_xPunchAll at hE
    by_cases c : m9_row M U K
    · rw [if_pos c] at hE
      exact op_ifn (by simp) E hE
    · rw [if_neg c] at hE
      cases hE
      simp
  have hr10 := pa.2.1
  -- the reference at a memory that agrees
  have ref : ∀ N : k9_Mem, N 76 3 = nI U → (∀ i, i < U → M 67 i = N 79 i) → N 76 1 = nI F → N 77 384 = nI B → ∀ [Decidable (∀ i, i < r + 1 → m9_fit7 (q9_z N K) i)], ∀ G, k9_Ci l yX7_punchAll wsX7_punchAll rm_X7_punchAll G N [.ref (k9_ga G 76)] (if m9_rpa (q9_z N K) U K r = 0 then m9_ppn (m9_paS (q9_z N K) F) B (r + 1) else 0) (if m9_rpa (q9_z N K) U K r = 0 then m9_pp (m9_paS (q9_z N K) F) B (r + 1) else k9_st (q9_z N K) 76 5 (m9_rpa (q9_z N K) U K r)) := by
    intro N n3 n67 n1 n384 i2 G
    obtain ⟨b1, b2, b3, b4⟩ := pa.2.2.2 N n3 n67
    have ez : m9_xr N (q9_zrd N) (q9_zd N) K = q9_z N K := q9_z_eq N K
    have ct := @ct_X7_punchAll l G N U K r F B (q9_zrd N) (q9_zd N) b1 (by rw [ez]; exact b2) (by omega) hF n1 hB n384 (fun hKU h16 i hi => by
      rw [ez] at h16 ⊢
      obtain ⟨_, _, f, n, f1, g1, g2, _, e2, _, e4⟩ := b4 (b3.mpr ⟨hKU, h16⟩) i hi
      exact ⟨f, n, e2, e4, f1, g1, g2⟩) (by rw [ez]; exact i2)
    simp only [ez] at ct
    exact ct
  refine ⟨m9_rrm M U K, m9_xPunchAll M U K (r + 1), _, m9_paM M F B U K (r + 1), fun G => ct_X6_punchAll hl G M (q9_okM h) pa.1 (by omega) pa.2.2.1, hx, fun hn => ?_, fun E hE => ?_⟩
  · have fN : ∀ k, 66 ≤ k → k ≠ 66 → k ≠ 68 → k ≠ 69 → k ≠ 70 → m9_paM M F B U K (r + 1) k = M k := fun k a1 a2 a3 a4 a5 => q9_paF h a1 a2 a3 a4 a5
    obtain ⟨i2⟩ : Nonempty (Decidable (∀ i, i < r + 1 → m9_fit7 (q9_z (m9_paM M F B U K (r + 1)) K) i)) := ⟨Classical.propDecidable _⟩
    have n3 : m9_paM M F B U K (r + 1) 76 3 = nI U := by rw [fN 76 (by decide) (by decide) (by decide) (by decide) (by decide)]; exact h3
    have n67 : ∀ i, i < U → M 67 i = m9_paM M F B U K (r + 1) 79 i := fun i hi => by rw [fN 79 (by decide) (by decide) (by decide) (by decide) (by decide)]; exact h67 i hi
    have hc := q9_xPunchAll pa n3 n67
    rw [hn] at hc
    have h0 : m9_rpa (q9_z (m9_paM M F B U K (r + 1)) K) U K r = 0 := hc.symm
    have hrow : m9_row M U K := Classical.byContradiction (fun z => by
      unfold m9_xPunchAll at hn
      rw [if_neg z] at hn
      cases hn)
    have hfit : ∀ i, i < r + 1 → m9_fit7 (q9_z (m9_paM M F B U K (r + 1)) K) i := Classical.byContradiction (fun z => by
      have h9 := h0
      unfold m9_rpa at h9
      by_cases c : ¬ (K = U ∧ q9_z (m9_paM M F B U K (r + 1)) K 76 16 = 6)
      · rw [if_pos c] at h9
        exact absurd h9 (by decide)
      · rw [if_neg c, if_neg z] at h9
        exact absurd h9 (by decide))
    obtain ⟨ev, rel⟩ := q9_paDone h pa hrow hfit
    have ct := ref (m9_paM M F B U K (r + 1)) n3 n67 (by rw [fN 76 (by decide) (by decide) (by decide) (by decide) (by decide)]; exact hM1) (by rw [fN 77 (by decide) (by decide) (by decide) (by decide) (by decide)]; exact h384)
    refine ⟨m9_pp (m9_paS (q9_z (m9_paM M F B U K (r + 1)) K) F) B (r + 1), fun G => ?_, ?_, _, _, _, _, rel⟩
    · have c2 := ct G
      rw [if_pos h0, if_pos h0, ← ev] at c2
      exact c2
    · rw [m9_pp_ne _ _ (by decide)]
      unfold m9_paS
      rw [m9_st_at_ne _ _ (by decide), m9_save_76 _ _ (by decide), op_th5]
  · have fN : ∀ k, k ≠ 66 → k ≠ 68 → k ≠ 69 → k ≠ 70 → m9_rrm M U K k = M k := fun k a2 a3 a4 a5 => m9_rrm_f M U K a2 a3 a4 a5
    obtain ⟨i2⟩ : Nonempty (Decidable (∀ i, i < r + 1 → m9_fit7 (q9_z (m9_rrm M U K) K) i)) := ⟨Classical.propDecidable _⟩
    have n3 : m9_rrm M U K 76 3 = nI U := by rw [fN 76 (by decide) (by decide) (by decide) (by decide)]; exact h3
    have n67 : ∀ i, i < U → M 67 i = m9_rrm M U K 79 i := fun i hi => by rw [fN 79 (by decide) (by decide) (by decide) (by decide)]; exact h67 i hi
    have hc := q9_xPunchAll pa n3 n67
    have hne : ¬ m9_rpa (q9_z (m9_rrm M U K) K) U K r = 0 := by rw [← hc, hE]; exact op_k2
    have ct := ref (m9_rrm M U K) n3 n67 (by rw [fN 76 (by decide) (by decide) (by decide) (by decide)]; exact hM1) (by rw [fN 77 (by decide) (by decide) (by decide) (by decide)]; exact h384)
    refine ⟨0, k9_st (q9_z (m9_rrm M U K) K) 76 5 (m9_rpa (q9_z (m9_rrm M U K) K) U K r), fun G => ?_, by rw [op_th5, op_c2 hx, hc], B, R, F, U, q9_paThrow h _⟩
    have c2 := ct G
    rw [if_neg hne, if_neg hne] at c2
    exact c2
theorem op_learn (h : q9_rel M B R F U) : op_B l yX6_learn wsX6_learn rm_X6_learn yX7_learn wsX7_learn rm_X7_learn M := by
  obtain ⟨hF, hM1, hB, h384, hR, h385, hU, h3, ht, h66, h67⟩ := op_f h
  obtain ⟨e77, e76, gd, ev, rel⟩ := q9_learn h
  refine ⟨_, m9_leaM M F, _, fun G => ct_X6_learn l G M (q9_okM h), fun G => ?_, _, _, _, _, rel⟩
  have ct := ct_X7_learn l G (m9_leaM M F) hF (by rw [e76]; exact hM1) hB (by rw [e77]; exact h384) gd.1
  rw [ev] at ct
  exact ct
theorem op_clear (h : q9_rel M B R F U) : op_B l yX6_clearBuffer wsX6_clearBuffer rm_X6_clearBuffer yX7_clearBuffer wsX7_clearBuffer rm_X7_clearBuffer M := by
  obtain ⟨e1, e2, e3, rel⟩ := q9_clear h
  refine ⟨_, k9_st M 66 1 0, _, fun G => ct_X6_clearBuffer l G M, fun G => ?_, _, _, _, _, rel⟩
  have ct := ct_X7_clearBuffer l G (k9_st M 66 1 0)
  rw [e2, e3, ← e1] at ct
  exact ct
theorem op_first (h : q9_rel M B R F U) : op_B l yX6_firstError wsX6_firstError rm_X6_firstError yX7_firstError wsX7_firstError rm_X7_firstError M := by
  obtain ⟨K, h1, h2, h3, rel⟩ := q9_first h
  exact ⟨_, m9_ra M K, _, fun G => ct_X6_firstError l G M (q9_okM h) h1, fun G => ct_X7_firstError l G (m9_ra M K) h2, _, _, _, _, rel⟩
theorem op_bestBridge (h : q9_rel M B R F U) : op_B l yX6_bestBridge wsX6_bestBridge rm_X6_bestBridge yX7_bestBridge wsX7_bestBridge rm_X7_bestBridge M := by
  obtain ⟨hF, hM1, hB, h384, hR, h385, hU, h3, ht, h66, h67⟩ := op_f h
  obtain ⟨N, hN⟩ : ∃ N, N = m9_fbM M 4 := ⟨_, rfl⟩
  have e77 : N 77 = M 77 := by rw [hN]; exact m9_fbM_ne M (by decide) (by decide) (by decide) 4
  have n0 : m9_M0 N 77 = M 77 := (m9_M0_77 N).trans e77
  have rel0 : q9_rel (m9_M0 N) B R F U := by rw [hN]; exact q9_rel_th (q9_fb_rel h) 0
  have ev := q9_bestBridge h n0
  refine ⟨_, N, _, fun G => by rw [hN]; exact ct_X6_bestBridge l G M, fun G => ?_, B, R, F, U, q9_backB_rel rel0⟩
  rw [ev]
  exact ct_X7_bestBridge l G N (by rw [e77]; exact h384) (fun k _ => q9_gdB (S := m9_M0 N) rel0.2.1 k)
theorem op_share (h : q9_rel M B R F U) : ∃ (rv : UInt64) (m2 : k9_Mem), (∀ G, k9_Cd l yX6_tuneShare wsX6_tuneShare rm_X6_tuneShare G M [.ref (k9_ga G 0)] rv M) ∧ (∀ G, k9_Cd l yX7_tuneShare wsX7_tuneShare rm_X7_tuneShare G M [.ref (k9_ga G 76)] rv m2) ∧ ∃ B R F U, q9_rel m2 B R F U := by
  obtain ⟨hF, hM1, hB, h384, hR, h385, hU, h3, ht, h66, h67⟩ := op_f h
  have s77 := q9_th77 M 0
  obtain ⟨s1, s2, s3⟩ := q9_shOk (M := M) (S := k9_st M 76 5 0) (B := B) (R := R) (by rw [s77]; exact h.1) (by rw [s77]; exact h.2.1) h.2.2.1
  rw [s77] at s3
  refine ⟨_, m9_lay (k9_st M 76 5 0) B, fun G => ct_X6_tuneShare l G M s1, fun G => ?_, B, R, F, U, q9_rel_lay (q9_rel_th h 0) B⟩
  rw [s2, s3]
  exact ct_X7_tuneShare l G M hB h384 (q9_gd_th h 0 B) (by rw [← s2, ← s3]; exact s1)
theorem op_digest (h : q9_rel M B R F U) : ∃ (rv : Int64) (mv m2 : k9_Mem), (∀ G, k9_Cl l yX6_digest wsX6_digest rm_X6_digest G M [.ref (k9_ga G 0)] rv mv) ∧ (∀ G, k9_Cl l yX7_digest wsX7_digest rm_X7_digest G mv [.ref (k9_ga G 76)] rv m2) ∧ ∃ B R F U, q9_rel m2 B R F U := by
  obtain ⟨hF, hM1, hB, h384, hR, h385, hU, h3, ht, h66, h67⟩ := op_f h
  have hKe : ∃ K : Nat → Nat, ∀ q, q < q9_T9 (M 77) → m9_tpl (M 77) q (K q) := by
    refine ⟨fun q => Classical.choose (q9_tune_K h.2.1 q), fun q hq => ?_⟩
    exact (Classical.choose_spec (q9_tune_K h.2.1 q) hq).1
  obtain ⟨K, hK⟩ := hKe
  obtain ⟨ev, sh, sh2, rel⟩ := r9_digest h hK
  have n : ∀ k, k ≠ 71 → k ≠ 74 → k ≠ 75 → k ≠ 72 → m9_bb6 M B k = M k := fun k a b c d => m9_bb6_ne M B a b c d
  have e77 : m9_bb6 M B 77 = M 77 := n 77 (by decide) (by decide) (by decide) (by decide)
  have e76 : m9_bb6 M B 76 = M 76 := n 76 (by decide) (by decide) (by decide) (by decide)
  have hT : q9_T9 (M 77) ≤ 1920 := fb_ct_le _ 1920
  refine ⟨_, m9_bb6 M B, _, fun G => ct_X6_digest l G M (q9_okM h) sh, fun G => ?_, B, R, F, U, rel (r9_g6 (m9_bb6 M B) B R (q9_T9 (M 77)) U K U)⟩
  rw [ev]
  exact ct_X7_digest l G (m9_bb6 M B) hB (by rw [e77]; exact h384) hR (by rw [e77]; exact h385) (by rw [e77]; exact ht) (by rw [e77]; exact q9_tnn h.2.1) hT K (by rw [e77]; exact hK) hU (by rw [e76]; exact h3) sh2
end OPS
