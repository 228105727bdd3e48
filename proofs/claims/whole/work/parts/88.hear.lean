/-! Plain mathematics: what the class hears is what the reference lays. -/
def q9_H (M : k9_Mem) (B : Nat) : Prop := (∀ s, s < 96 → M 58 s = m9_rd M s) ∧ (∀ s, s < 96 → M 60 s = m9_lkS (M 58) B s ∧ M 61 s = m9_lkE (M 58) B s) ∧ (∀ s, s < 96 → M 62 s = m9_pl (M 60) (M 61) s ∧ M 63 s = m9_so (M 62) (M 61) s)
theorem q9_rd_c {M N : k9_Mem} (h2 : N 2 = M 2) (h3 : N 3 = M 3) (h4 : N 4 = M 4) (h5 : N 5 = M 5) (s : Nat) : m9_rd N s = m9_rd M s := by
  unfold m9_rd m9_va m9_op
  rw [h2, h3, h4, h5]
theorem q9_hear_f (M : k9_Mem) (B : Nat) {k : Nat} (h1 : k ≠ 58) (h2 : k ≠ 60) (h3 : k ≠ 61) (h4 : k ≠ 62) (h5 : k ≠ 63) : m9_hear M B k = M k := by
  unfold m9_hear m9_hr3 m9_hr2
  rw [k9_sc_ne _ _ h5, k9_sc_ne _ _ h4, m9_lk_ne _ _ _ _ _ h2 h3]
  unfold m9_hr1
  rw [k9_sc_ne _ _ h1]
theorem q9_hear (M : k9_Mem) (B : Nat) : q9_H (m9_hear M B) B := by
  have e58 : m9_hear M B 58 = m9_hr1 M 58 := by
    unfold m9_hear m9_hr3 m9_hr2
    rw [k9_sc_ne _ _ (by decide), k9_sc_ne _ _ (by decide), m9_lk_ne _ _ _ _ _ (by decide) (by decide)]
  have e60 : m9_hear M B 60 = m9_hr2 M B 60 := by
    unfold m9_hear m9_hr3
    rw [k9_sc_ne _ _ (by decide), k9_sc_ne _ _ (by decide)]
  have e61 : m9_hear M B 61 = m9_hr2 M B 61 := by
    unfold m9_hear m9_hr3
    rw [k9_sc_ne _ _ (by decide), k9_sc_ne _ _ (by decide)]
  have e62 : m9_hear M B 62 = m9_hr3 M B 62 := by
    unfold m9_hear
    rw [k9_sc_ne _ _ (by decide)]
  have f61 : m9_hr3 M B 61 = m9_hr2 M B 61 := by
    unfold m9_hr3
    rw [k9_sc_ne _ _ (by decide)]
  refine ⟨fun s hs => ?_, fun s hs => ⟨?_, ?_⟩, fun s hs => ⟨?_, ?_⟩⟩
  · rw [e58, q9_rd_c (N := m9_hear M B) (M := M) (q9_hear_f M B (by decide) (by decide) (by decide) (by decide) (by decide)) (q9_hear_f M B (by decide) (by decide) (by decide) (by decide) (by decide)) (q9_hear_f M B (by decide) (by decide) (by decide) (by decide) (by decide)) (q9_hear_f M B (by decide) (by decide) (by decide) (by decide) (by decide))]
    unfold m9_hr1
    rw [k9_sc_eq, m9_fl_in hs]
  · rw [e60, e58]
    exact m9_lk_1 (m9_hr1 M) 59 58 B hs
  · rw [e61, e58]
    exact m9_lk_2 (m9_hr1 M) 59 58 B hs
  · rw [e62, e60, e61]
    unfold m9_hr3
    rw [k9_sc_eq, m9_fl_in hs]
  · rw [e62, e61, ← f61]
    unfold m9_hear
    rw [k9_sc_eq, m9_fl_in hs]
/-- the state of the reference is a paper of the class -/
def q9_P (M : k9_Mem) (q : Nat) (Z : Nat → Int32) : Prop := (∀ s, s < 96 → M (q + 1) s = Z s ∧ M (q + 2) s = Z (96 + s) ∧ M (q + 3) s = Z (192 + s) ∧ M (q + 4) s = Z (288 + s)) ∧ (M q 5 = Z 384 ∧ M q 6 = Z 385) ∧ q9_tun (M (q + 6)) (M (q + 7)) Z
/-- a state is in its bounds -/
def q9_ok (Z : Nat → Int32) (B R : Nat) : Prop := (∀ s, s < 96 → (∀ j, 26 ≤ j → m9_b (Z s) j = false ∧ m9_b (Z (96 + s)) j = false) ∧ q9_side (Z (192 + s)) ∧ q9_side (Z (288 + s))) ∧ (Z 384 = nI B ∧ B ≤ 3) ∧ (Z 385 = nI R ∧ R ≤ 8) ∧ q9_tok Z ∧ ∀ s, s < 96 → ∀ j, 20 ≤ j → m9_b (Z (386 + s)) j = false
theorem q9_zo_out {Z : Nat → Int32} {B R s : Nat} (h : q9_ok Z B R) (hs : s < 96) : ∀ j, 26 ≤ j → m9_b (m9_zo Z s) j = false := fun j hj => by
  unfold m9_zo
  rw [m9_b_and, ((h.1 s hs).1 j hj).1, Bool.false_and]
theorem q9_op {M : k9_Mem} {Z : Nat → Int32} (hp : q9_P M 1 Z) {s : Nat} (hs : s < 96) : m9_op M s = m9_zo Z s := by
  unfold m9_op m9_zo
  rw [show M 2 s = Z s from (hp.1 s hs).1, show M 3 s = Z (96 + s) from (hp.1 s hs).2.1]
/-- another row of steering: what would be read -/
theorem q9_va {M : k9_Mem} {Z Z2 : Nat → Int32} {B R s : Nat} (hp : q9_P M 1 Z) (hk : q9_ok Z B R) (hs : s < 96) {x : Int32} (hx : q9_side x) (h2 : m9_zo Z2 s = m9_zo Z s ∧ Z2 (192 + s) = Z (192 + s) ∧ Z2 (288 + s) = x) : (∀ k, k ≤ 20 → m9_b (m9_va M s x) (q9_cv k) = m9_b (m9_zr Z2 s 21) k) ∧ (∀ v, 21 ≤ v → m9_b (m9_va M s x) v = false) := by
  unfold m9_va
  rw [q9_op hp hs, show M 4 s = Z (192 + s) from (hp.1 s hs).2.2.1]
  refine ⟨fun k hk2 => q9_read hk2 h2.1 ?_ (hk.1 s hs).2.1 hx (q9_zo_out hk hs), fun v hv => q9_vf_out _ _ hv⟩
  unfold m9_zs
  rw [h2.2.1, h2.2.2]
theorem q9_rd58 {M : k9_Mem} {Z : Nat → Int32} {B R : Nat} (hp : q9_P M 1 Z) (hk : q9_ok Z B R) (h : ∀ s, s < 96 → M 58 s = m9_rd M s) : q9_rd (M 58) Z := fun s hs => by
  rw [h s hs]
  unfold m9_rd
  rw [show M 5 s = Z (288 + s) from (hp.1 s hs).2.2.2]
  exact q9_va hp hk hs (hk.1 s hs).2.2 ⟨rfl, rfl, rfl⟩
section Q9H
variable {M S : k9_Mem} {B R : Nat} (hp : q9_P M 1 (S 77)) (hk : q9_ok (S 77) B R) (hH : q9_H M B)
theorem q9_b60 (hp : q9_P M 1 (S 77)) (hk : q9_ok (S 77) B R) (hH : q9_H M B) {s k : Nat} (hs : s < 96) (h : k ≤ 20) : m9_b (M 60 s) (q9_cv k) = m9_b (m9_y2 S B 21 81 s) k := by
  rw [(hH.2.1 s hs).1]
  exact q9_rdS S (q9_rd58 hp hk hH.1) hs h
theorem q9_b61 (hp : q9_P M 1 (S 77)) (hk : q9_ok (S 77) B R) (hH : q9_H M B) {s k : Nat} (hs : s < 96) (h : k ≤ 20) : m9_b (M 61 s) (q9_cv k) = m9_b (m9_y2 S B 21 82 s) k := by
  rw [(hH.2.1 s hs).2]
  exact q9_rdE S (q9_rd58 hp hk hH.1) hs h
theorem q9_b62 (hp : q9_P M 1 (S 77)) (hk : q9_ok (S 77) B R) (hH : q9_H M B) {s k : Nat} (hs : s < 96) (h : k ≤ 20) : m9_b (M 62 s) (q9_cv k) = m9_b (m9_y2 S B 21 83 s) k := by
  have hcv := q9_cv_lt h
  rw [(hH.2.2 s hs).1, Bool.eq_iff_iff, q9_plb _ _ (by omega), (q9_Y S B hs (by omega)).2.2]
  refine q9_pl_c (fun i hi => ⟨?_, ?_⟩) hs
  · rw [q9_b60 hp hk hH hi h, (q9_Y S B hi (by omega)).1]
  · rw [q9_b61 hp hk hH hi h, (q9_Y S B hi (by omega)).2.1]
theorem q9_o60 (hp : q9_P M 1 (S 77)) (hk : q9_ok (S 77) B R) (hH : q9_H M B) {s v : Nat} (hs : s < 96) (h : 21 ≤ v) : m9_b (M 60 s) v = false ∧ m9_b (M 61 s) v = false := by
  rw [(hH.2.1 s hs).1, (hH.2.1 s hs).2]
  exact q9_lk_out ((q9_rd58 hp hk hH.1 s hs).2 v h)
theorem q9_o62 (hp : q9_P M 1 (S 77)) (hk : q9_ok (S 77) B R) (hH : q9_H M B) {s v : Nat} (hs : s < 96) (h : 21 ≤ v) (hv : v < 32) : m9_b (M 62 s) v = false := by
  rw [(hH.2.2 s hs).1]
  refine q9_nt (fun z => ?_)
  obtain ⟨a, a1, a2, a3⟩ := (q9_plb _ _ hv s).mp z
  exact q9_tn (q9_o60 hp hk hH (show a < 96 by omega) h).1 a2
end Q9H
/-- notes' bits, moved down by one, are the reference's bits -/
theorem q9_down {x y : Int32} (h : ∀ n, n < 20 → m9_b x (n + 1) = m9_b y n) : (x &&& 2097150) >>> ((1 : Int32) &&& 31) = y &&& 1048575 := by
  apply m9_b_ext
  intro i hi
  rw [show ((1 : Int32) &&& 31) = (nI 1 &&& 31) from rfl, q9_shr _ (by decide) hi, m9_b_and y 1048575 i, q9_mask0 hi]
  by_cases c : 1 + i < 32
  · rw [if_pos c, m9_b_and, q9_mask c]
    by_cases d : i < 20
    · have : (1 ≤ i + 1 ∧ i + 1 ≤ 20) := by omega
      rw [Nat.add_comm 1 i, h i d, decide_eq_true this, decide_eq_true d]
    · have : ¬ (1 ≤ 1 + i ∧ 1 + i ≤ 20) := by omega
      rw [decide_eq_false this, decide_eq_false d, Bool.and_false, Bool.and_false]
  · rw [if_neg c, m9_b_and, q9_mask (by decide)]
    have : ¬ i < 20 := by omega
    simp [this]
