/-! The first memory, its world, its relation. -/
def g9_M0 : k9_Mem := fun k j =>
  if k < 57 ∧ k % 8 = 1 then (if j = 5 then 1 else if j = 6 then 2 else 0)
  else if k = 65 then nI (j + 1)
  else if k = 66 then (if j = 7 then -1 else 0)
  else if k = 71 then (if j = 3 then -1 else 0)
  else if k = 77 then g9_z0 j
  else 0
def g9_ad (qx qm ql : Nat) (u v : Nat → Nat) : Nat → Nat := fun k => if k < 76 then (if k = 0 then qx else u k) else if k < 89 then (if k = 76 then qm else v (k - 76)) else if k = 89 then ql else 0
def g9_G (D : va_G) (t : g9_T) (tn qx qm ql : Nat) (u v : Nat → Nat) : k9_G := (D, g9_ad qx qm ql u v, t.1, t.2.1, t.2.2, tn)
def g9_wF (t : g9_T) (qx qm ql : Nat) (u v : Nat → Nat) : va_W := ([] ++ [(ql, .inl (t.2.2, 1, .inr (.inl (fun _ => 0))))]) ++ (g9_w7 t qm v ++ (g9_w6 t qx u ++ []))
def g9_ix : Nat → Nat := fun k => [14, 82, 83, 84, 85, 86, 87, 88, 89, 67, 68, 69, 70, 71, 72, 73, 74, 59, 60, 61, 62, 63, 64, 65, 66, 51, 52, 53, 54, 55, 56, 57, 58, 43, 44, 45, 46, 47, 48, 49, 50, 35, 36, 37, 38, 39, 40, 41, 42, 27, 28, 29, 30, 31, 32, 33, 34, 75, 76, 79, 80, 81, 77, 78, 25, 26, 20, 21, 22, 23, 24, 15, 16, 17, 18, 19, 1, 2, 3, 4, 5, 6, 7, 8, 9, 10, 11, 12, 13, 0].getD k 0
theorem g9_ix_inj : ∀ i, i < 90 → ∀ j, j < 90 → g9_ix i = g9_ix j → i = j := by decide +kernel
theorem g9_arr (cA : ClassId) {n : Nat} {f g : Nat → Value} (h : ∀ j, j < n → f j = g j) : arrV cA n f = arrV cA n g := by
  unfold arrV
  congr 1
  congr 1
  funext j
  exact h j.val j.isLt
def g9_en (D : va_G) (t : g9_T) (tn qx qm ql : Nat) (u v : Nat → Nat) (H : Heap) (k : Nat) : Prop := ∃ en, (g9_wF t qx qm ql u v)[g9_ix k]? = some (k9_ga (g9_G D t tn qx qm ql u v) k, en) ∧ (va_at D vwCl (k9_ga (g9_G D t tn qx qm ql u v) k, en) H → va_at D vwCl (k9_ga (g9_G D t tn qx qm ql u v) k, k9_ce (g9_G D t tn qx qm ql u v) (g9_M0 k) k) H)
section G9I
variable {D : va_G} {t : g9_T} {tn qx qm ql : Nat} {u v : Nat → Nat} {H : Heap}
theorem g9_e0 : g9_en D t tn qx qm ql u v H 0 := ⟨_, rfl, fun h => h⟩
theorem g9_e1 : g9_en D t tn qx qm ql u v H 1 := ⟨_, rfl, fun h => h⟩
theorem g9_e2 : g9_en D t tn qx qm ql u v H 2 := ⟨_, rfl, fun h => h⟩
theorem g9_e3 : g9_en D t tn qx qm ql u v H 3 := ⟨_, rfl, fun h => h⟩
theorem g9_e4 : g9_en D t tn qx qm ql u v H 4 := ⟨_, rfl, fun h => h⟩
theorem g9_e5 : g9_en D t tn qx qm ql u v H 5 := ⟨_, rfl, fun h => h⟩
theorem g9_e6 : g9_en D t tn qx qm ql u v H 6 := ⟨_, rfl, fun h => h⟩
theorem g9_e7 : g9_en D t tn qx qm ql u v H 7 := ⟨_, rfl, fun h => h⟩
theorem g9_e8 : g9_en D t tn qx qm ql u v H 8 := ⟨_, rfl, fun h => h⟩
theorem g9_e9 : g9_en D t tn qx qm ql u v H 9 := ⟨_, rfl, fun h => h⟩
theorem g9_e10 : g9_en D t tn qx qm ql u v H 10 := ⟨_, rfl, fun h => h⟩
theorem g9_e11 : g9_en D t tn qx qm ql u v H 11 := ⟨_, rfl, fun h => h⟩
theorem g9_e12 : g9_en D t tn qx qm ql u v H 12 := ⟨_, rfl, fun h => h⟩
theorem g9_e13 : g9_en D t tn qx qm ql u v H 13 := ⟨_, rfl, fun h => h⟩
theorem g9_e14 : g9_en D t tn qx qm ql u v H 14 := ⟨_, rfl, fun h => h⟩
theorem g9_e15 : g9_en D t tn qx qm ql u v H 15 := ⟨_, rfl, fun h => h⟩
theorem g9_e16 : g9_en D t tn qx qm ql u v H 16 := ⟨_, rfl, fun h => h⟩
theorem g9_e17 : g9_en D t tn qx qm ql u v H 17 := ⟨_, rfl, fun h => h⟩
theorem g9_e18 : g9_en D t tn qx qm ql u v H 18 := ⟨_, rfl, fun h => h⟩
theorem g9_e19 : g9_en D t tn qx qm ql u v H 19 := ⟨_, rfl, fun h => h⟩
theorem g9_e20 : g9_en D t tn qx qm ql u v H 20 := ⟨_, rfl, fun h => h⟩
theorem g9_e21 : g9_en D t tn qx qm ql u v H 21 := ⟨_, rfl, fun h => h⟩
theorem g9_e22 : g9_en D t tn qx qm ql u v H 22 := ⟨_, rfl, fun h => h⟩
theorem g9_e23 : g9_en D t tn qx qm ql u v H 23 := ⟨_, rfl, fun h => h⟩
theorem g9_e24 : g9_en D t tn qx qm ql u v H 24 := ⟨_, rfl, fun h => h⟩
theorem g9_e25 : g9_en D t tn qx qm ql u v H 25 := ⟨_, rfl, fun h => h⟩
theorem g9_e26 : g9_en D t tn qx qm ql u v H 26 := ⟨_, rfl, fun h => h⟩
theorem g9_e27 : g9_en D t tn qx qm ql u v H 27 := ⟨_, rfl, fun h => h⟩
theorem g9_e28 : g9_en D t tn qx qm ql u v H 28 := ⟨_, rfl, fun h => h⟩
theorem g9_e29 : g9_en D t tn qx qm ql u v H 29 := ⟨_, rfl, fun h => h⟩
theorem g9_e30 : g9_en D t tn qx qm ql u v H 30 := ⟨_, rfl, fun h => h⟩
theorem g9_e31 : g9_en D t tn qx qm ql u v H 31 := ⟨_, rfl, fun h => h⟩
theorem g9_e32 : g9_en D t tn qx qm ql u v H 32 := ⟨_, rfl, fun h => h⟩
theorem g9_e33 : g9_en D t tn qx qm ql u v H 33 := ⟨_, rfl, fun h => h⟩
theorem g9_e34 : g9_en D t tn qx qm ql u v H 34 := ⟨_, rfl, fun h => h⟩
theorem g9_e35 : g9_en D t tn qx qm ql u v H 35 := ⟨_, rfl, fun h => h⟩
theorem g9_e36 : g9_en D t tn qx qm ql u v H 36 := ⟨_, rfl, fun h => h⟩
theorem g9_e37 : g9_en D t tn qx qm ql u v H 37 := ⟨_, rfl, fun h => h⟩
theorem g9_e38 : g9_en D t tn qx qm ql u v H 38 := ⟨_, rfl, fun h => h⟩
theorem g9_e39 : g9_en D t tn qx qm ql u v H 39 := ⟨_, rfl, fun h => h⟩
theorem g9_e40 : g9_en D t tn qx qm ql u v H 40 := ⟨_, rfl, fun h => h⟩
theorem g9_e41 : g9_en D t tn qx qm ql u v H 41 := ⟨_, rfl, fun h => h⟩
theorem g9_e42 : g9_en D t tn qx qm ql u v H 42 := ⟨_, rfl, fun h => h⟩
theorem g9_e43 : g9_en D t tn qx qm ql u v H 43 := ⟨_, rfl, fun h => h⟩
theorem g9_e44 : g9_en D t tn qx qm ql u v H 44 := ⟨_, rfl, fun h => h⟩
theorem g9_e45 : g9_en D t tn qx qm ql u v H 45 := ⟨_, rfl, fun h => h⟩
theorem g9_e46 : g9_en D t tn qx qm ql u v H 46 := ⟨_, rfl, fun h => h⟩
theorem g9_e47 : g9_en D t tn qx qm ql u v H 47 := ⟨_, rfl, fun h => h⟩
theorem g9_e48 : g9_en D t tn qx qm ql u v H 48 := ⟨_, rfl, fun h => h⟩
theorem g9_e49 : g9_en D t tn qx qm ql u v H 49 := ⟨_, rfl, fun h => h⟩
theorem g9_e50 : g9_en D t tn qx qm ql u v H 50 := ⟨_, rfl, fun h => h⟩
theorem g9_e51 : g9_en D t tn qx qm ql u v H 51 := ⟨_, rfl, fun h => h⟩
theorem g9_e52 : g9_en D t tn qx qm ql u v H 52 := ⟨_, rfl, fun h => h⟩
theorem g9_e53 : g9_en D t tn qx qm ql u v H 53 := ⟨_, rfl, fun h => h⟩
theorem g9_e54 : g9_en D t tn qx qm ql u v H 54 := ⟨_, rfl, fun h => h⟩
theorem g9_e55 : g9_en D t tn qx qm ql u v H 55 := ⟨_, rfl, fun h => h⟩
theorem g9_e56 : g9_en D t tn qx qm ql u v H 56 := ⟨_, rfl, fun h => h⟩
theorem g9_e57 : g9_en D t tn qx qm ql u v H 57 := ⟨_, rfl, fun h => h⟩
theorem g9_e58 : g9_en D t tn qx qm ql u v H 58 := ⟨_, rfl, fun h => h⟩
theorem g9_e59 : g9_en D t tn qx qm ql u v H 59 := ⟨_, rfl, fun h => h⟩
theorem g9_e60 : g9_en D t tn qx qm ql u v H 60 := ⟨_, rfl, fun h => h⟩
theorem g9_e61 : g9_en D t tn qx qm ql u v H 61 := ⟨_, rfl, fun h => h⟩
theorem g9_e62 : g9_en D t tn qx qm ql u v H 62 := ⟨_, rfl, fun h => h⟩
theorem g9_e63 : g9_en D t tn qx qm ql u v H 63 := ⟨_, rfl, fun h => h⟩
theorem g9_e64 : g9_en D t tn qx qm ql u v H 64 := ⟨_, rfl, fun h => h⟩
theorem g9_e65 : g9_en D t tn qx qm ql u v H 65 := by
  refine ⟨.inl (t.2.1, 6, .inr (.inr (.inr (.inr (g9_f 6 (fun k => u (if k < 2 then 64 + k else 7 + k))))))), rfl, fun h => ?_⟩
  have h2 : H[k9_ga (g9_G D t tn qx qm ql u v) 65]? = some (arrV t.2.1 6 (fun j => va_rf (g9_f 6 (fun k => u (if k < 2 then 64 + k else 7 + k)) j))) := h
  show H[k9_ga (g9_G D t tn qx qm ql u v) 65]? = some (arrV t.2.1 6 (fun j => va_rf (some (k9_ga (g9_G D t tn qx qm ql u v) (k9_pc (g9_M0 65 j))))))
  rw [h2]
  refine congrArg some (g9_arr _ (fun j hj => ?_))
  match j, hj with
  | 0, _ => rfl
  | 1, _ => rfl
  | 2, _ => rfl
  | 3, _ => rfl
  | 4, _ => rfl
  | 5, _ => rfl
  | j + 6, hj => exact absurd hj (by omega)
theorem g9_e66 : g9_en D t tn qx qm ql u v H 66 := ⟨_, rfl, fun h => h⟩
theorem g9_e67 : g9_en D t tn qx qm ql u v H 67 := ⟨_, rfl, fun h => h⟩
theorem g9_e68 : g9_en D t tn qx qm ql u v H 68 := ⟨_, rfl, fun h => h⟩
theorem g9_e69 : g9_en D t tn qx qm ql u v H 69 := ⟨_, rfl, fun h => h⟩
theorem g9_e70 : g9_en D t tn qx qm ql u v H 70 := ⟨_, rfl, fun h => h⟩
theorem g9_e71 : g9_en D t tn qx qm ql u v H 71 := ⟨_, rfl, fun h => h⟩
theorem g9_e72 : g9_en D t tn qx qm ql u v H 72 := ⟨_, rfl, fun h => h⟩
theorem g9_e73 : g9_en D t tn qx qm ql u v H 73 := ⟨_, rfl, fun h => h⟩
theorem g9_e74 : g9_en D t tn qx qm ql u v H 74 := ⟨_, rfl, fun h => h⟩
theorem g9_e75 : g9_en D t tn qx qm ql u v H 75 := ⟨_, rfl, fun h => h⟩
theorem g9_e76 : g9_en D t tn qx qm ql u v H 76 := ⟨_, rfl, fun h => h⟩
theorem g9_e77 : g9_en D t tn qx qm ql u v H 77 := ⟨_, rfl, fun h => h⟩
theorem g9_e78 : g9_en D t tn qx qm ql u v H 78 := ⟨_, rfl, fun h => h⟩
theorem g9_e79 : g9_en D t tn qx qm ql u v H 79 := ⟨_, rfl, fun h => h⟩
theorem g9_e80 : g9_en D t tn qx qm ql u v H 80 := ⟨_, rfl, fun h => h⟩
theorem g9_e81 : g9_en D t tn qx qm ql u v H 81 := ⟨_, rfl, fun h => h⟩
theorem g9_e82 : g9_en D t tn qx qm ql u v H 82 := ⟨_, rfl, fun h => h⟩
theorem g9_e83 : g9_en D t tn qx qm ql u v H 83 := ⟨_, rfl, fun h => h⟩
theorem g9_e84 : g9_en D t tn qx qm ql u v H 84 := ⟨_, rfl, fun h => h⟩
theorem g9_e85 : g9_en D t tn qx qm ql u v H 85 := ⟨_, rfl, fun h => h⟩
theorem g9_e86 : g9_en D t tn qx qm ql u v H 86 := ⟨_, rfl, fun h => h⟩
theorem g9_e87 : g9_en D t tn qx qm ql u v H 87 := ⟨_, rfl, fun h => h⟩
theorem g9_e88 : g9_en D t tn qx qm ql u v H 88 := ⟨_, rfl, fun h => h⟩
theorem g9_e89 : g9_en D t tn qx qm ql u v H 89 := by
  refine ⟨.inl (t.2.2, 1, .inr (.inl (fun _ => 0))), rfl, fun h => ?_⟩
  have e : (fun _ => 0 : Nat → Int64) = (fun j => if j = 0 then Int64.ofBitVec (BitVec.ofNat 64 (k9_ga (g9_G D t tn qx qm ql u v) 90)) else 0) := by
    funext j
    by_cases c : j = 0
    · rw [if_pos c]; rfl
    · rw [if_neg c]
  rw [e] at h
  exact h
theorem g9_e : ∀ k, k < 90 → g9_en D t tn qx qm ql u v H k
  | 0, _ => g9_e0
  | 1, _ => g9_e1
  | 2, _ => g9_e2
  | 3, _ => g9_e3
  | 4, _ => g9_e4
  | 5, _ => g9_e5
  | 6, _ => g9_e6
  | 7, _ => g9_e7
  | 8, _ => g9_e8
  | 9, _ => g9_e9
  | 10, _ => g9_e10
  | 11, _ => g9_e11
  | 12, _ => g9_e12
  | 13, _ => g9_e13
  | 14, _ => g9_e14
  | 15, _ => g9_e15
  | 16, _ => g9_e16
  | 17, _ => g9_e17
  | 18, _ => g9_e18
  | 19, _ => g9_e19
  | 20, _ => g9_e20
  | 21, _ => g9_e21
  | 22, _ => g9_e22
  | 23, _ => g9_e23
  | 24, _ => g9_e24
  | 25, _ => g9_e25
  | 26, _ => g9_e26
  | 27, _ => g9_e27
  | 28, _ => g9_e28
  | 29, _ => g9_e29
  | 30, _ => g9_e30
  | 31, _ => g9_e31
  | 32, _ => g9_e32
  | 33, _ => g9_e33
  | 34, _ => g9_e34
  | 35, _ => g9_e35
  | 36, _ => g9_e36
  | 37, _ => g9_e37
  | 38, _ => g9_e38
  | 39, _ => g9_e39
  | 40, _ => g9_e40
  | 41, _ => g9_e41
  | 42, _ => g9_e42
  | 43, _ => g9_e43
  | 44, _ => g9_e44
  | 45, _ => g9_e45
  | 46, _ => g9_e46
  | 47, _ => g9_e47
  | 48, _ => g9_e48
  | 49, _ => g9_e49
  | 50, _ => g9_e50
  | 51, _ => g9_e51
  | 52, _ => g9_e52
  | 53, _ => g9_e53
  | 54, _ => g9_e54
  | 55, _ => g9_e55
  | 56, _ => g9_e56
  | 57, _ => g9_e57
  | 58, _ => g9_e58
  | 59, _ => g9_e59
  | 60, _ => g9_e60
  | 61, _ => g9_e61
  | 62, _ => g9_e62
  | 63, _ => g9_e63
  | 64, _ => g9_e64
  | 65, _ => g9_e65
  | 66, _ => g9_e66
  | 67, _ => g9_e67
  | 68, _ => g9_e68
  | 69, _ => g9_e69
  | 70, _ => g9_e70
  | 71, _ => g9_e71
  | 72, _ => g9_e72
  | 73, _ => g9_e73
  | 74, _ => g9_e74
  | 75, _ => g9_e75
  | 76, _ => g9_e76
  | 77, _ => g9_e77
  | 78, _ => g9_e78
  | 79, _ => g9_e79
  | 80, _ => g9_e80
  | 81, _ => g9_e81
  | 82, _ => g9_e82
  | 83, _ => g9_e83
  | 84, _ => g9_e84
  | 85, _ => g9_e85
  | 86, _ => g9_e86
  | 87, _ => g9_e87
  | 88, _ => g9_e88
  | 89, _ => g9_e89
  | k + 90, h => absurd h (by omega)
theorem g9_world {A : Nat → Prop} (hP : va_P D vwCl (g9_wF t qx qm ql u v) H) (hD : va_D A (g9_wF t qx qm ql u v)) : va_P D vwCl (k9_wl (g9_G D t tn qx qm ql u v) g9_M0) H ∧ va_D A (k9_wl (g9_G D t tn qx qm ql u v) g9_M0) := by
  refine ⟨fun k q hk => ?_, fun i j p q hi hj hpq => ?_, fun k q hk => ?_⟩
  · obtain ⟨h1, rfl⟩ := k9_wl_at _ _ hk
    obtain ⟨en, e1, e2⟩ := g9_e (D := D) (t := t) (tn := tn) (qx := qx) (qm := qm) (ql := ql) (u := u) (v := v) (H := H) k h1
    exact e2 (hP _ _ e1)
  · obtain ⟨h1, rfl⟩ := k9_wl_at _ _ hi
    obtain ⟨h2, rfl⟩ := k9_wl_at _ _ hj
    obtain ⟨en1, a1, _⟩ := g9_e (D := D) (t := t) (tn := tn) (qx := qx) (qm := qm) (ql := ql) (u := u) (v := v) (H := H) i h1
    obtain ⟨en2, b1, _⟩ := g9_e (D := D) (t := t) (tn := tn) (qx := qx) (qm := qm) (ql := ql) (u := u) (v := v) (H := H) j h2
    exact g9_ix_inj i h1 j h2 (hD.1 _ _ _ _ a1 b1 hpq)
  · obtain ⟨h1, rfl⟩ := k9_wl_at _ _ hk
    obtain ⟨en, e1, _⟩ := g9_e (D := D) (t := t) (tn := tn) (qx := qx) (qm := qm) (ql := ql) (u := u) (v := v) (H := H) k h1
    have h9 := hD.2 _ _ e1
    exact h9
end G9I
/-- the first memory's relation -/
theorem g9_z0_lo {j : Nat} (h : j ≠ 384) (h2 : j ≠ 385) : g9_z0 j = 0 := by
  unfold g9_z0
  rw [m9_upd_ne _ _ h2, m9_upd_ne _ _ h]
theorem g9_b0 (j : Nat) : m9_b 0 j = false := m9_b_0 j
theorem g9_rel : q9_rel g9_M0 1 2 0 0 := by
  have z77 : g9_M0 77 = g9_z0 := rfl
  have zr : ∀ k, k ≠ 65 → k ≠ 66 → k ≠ 71 → k ≠ 77 → ¬ (k < 57 ∧ k % 8 = 1) → g9_M0 k = fun _ => 0 := by
    intro k h1 h2 h3 h4 h5
    funext j
    unfold g9_M0
    rw [if_neg h5, if_neg h1, if_neg h2, if_neg h3, if_neg h4]
  rw [q9_rel, z77]
  refine ⟨⟨fun s hs => ?_, ⟨rfl, rfl⟩, fun s hs => ?_⟩, ⟨fun s hs => ?_, ⟨rfl, by decide⟩, ⟨rfl, by decide⟩, fun n hn a ha hb => ?_, fun s hs j hj => ?_⟩, ⟨fun s hs => ?_, fun s hs => ?_, fun s hs => ?_⟩, ⟨⟨rfl, by decide, fun j hj => ?_⟩, fun i j hi hj hij => ?_, rfl, fun j hj => absurd hj (by omega)⟩, ⟨rfl, by decide, rfl, fun i hi => absurd hi (by omega)⟩⟩
  · rw [zr (1 + 1) (by decide) (by decide) (by decide) (by decide) (by decide), zr (1 + 2) (by decide) (by decide) (by decide) (by decide) (by decide), zr (1 + 3) (by decide) (by decide) (by decide) (by decide) (by decide), zr (1 + 4) (by decide) (by decide) (by decide) (by decide) (by decide), g9_z0_lo (by omega) (by omega), g9_z0_lo (by omega) (by omega), g9_z0_lo (by omega) (by omega), g9_z0_lo (by omega) (by omega)]
    exact ⟨rfl, rfl, rfl, rfl⟩
  · rw [zr (1 + 6) (by decide) (by decide) (by decide) (by decide) (by decide), zr (1 + 7) (by decide) (by decide) (by decide) (by decide) (by decide), g9_z0_lo (by omega) (by omega), g9_z0_lo (by omega) (by omega)]
    exact ⟨fun n hn => ⟨by rw [g9_b0, g9_b0], by rw [g9_b0, g9_b0]⟩, ⟨g9_b0 _, g9_b0 _⟩, fun j hj => ⟨g9_b0 _, g9_b0 _⟩⟩
  · rw [g9_z0_lo (by omega) (by omega), g9_z0_lo (by omega) (by omega), g9_z0_lo (by omega) (by omega), g9_z0_lo (by omega) (by omega)]
    exact ⟨fun j hj => ⟨g9_b0 _, g9_b0 _⟩, by decide, by decide⟩
  · rw [g9_z0_lo (by omega) (by omega), g9_b0] at hb
    cases hb
  · rw [g9_z0_lo (by omega) (by omega), g9_b0]
  · have e : ∀ s, s < 96 → m9_rd (fun _ _ => 0) s = 0 := by decide +kernel
    rw [zr 58 (by decide) (by decide) (by decide) (by decide) (by decide)]
    have e2 : m9_rd g9_M0 s = m9_rd (fun _ _ => 0) s := q9_rd_c (N := g9_M0) (M := fun _ _ => 0) (zr 2 (by decide) (by decide) (by decide) (by decide) (by decide)) (zr 3 (by decide) (by decide) (by decide) (by decide) (by decide)) (zr 4 (by decide) (by decide) (by decide) (by decide) (by decide)) (zr 5 (by decide) (by decide) (by decide) (by decide) (by decide)) s
    rw [e2, e s hs]
  · have e : ∀ s, s < 96 → m9_lkS (fun _ => 0) 1 s = 0 ∧ m9_lkE (fun _ => 0) 1 s = 0 := by decide +kernel
    rw [zr 58 (by decide) (by decide) (by decide) (by decide) (by decide), zr 60 (by decide) (by decide) (by decide) (by decide) (by decide), zr 61 (by decide) (by decide) (by decide) (by decide) (by decide), (e s hs).1, (e s hs).2]
    exact ⟨rfl, rfl⟩
  · have e : ∀ s, s < 96 → m9_pl (fun _ => 0) (fun _ => 0) s = 0 ∧ m9_so (fun _ => 0) (fun _ => 0) s = 0 := by decide +kernel
    rw [zr 60 (by decide) (by decide) (by decide) (by decide) (by decide), zr 61 (by decide) (by decide) (by decide) (by decide) (by decide), zr 62 (by decide) (by decide) (by decide) (by decide) (by decide), zr 63 (by decide) (by decide) (by decide) (by decide) (by decide), (e s hs).1, (e s hs).2]
    exact ⟨rfl, rfl⟩
  · have e : g9_M0 65 j = nI (j + 1) := rfl
    rw [e]
    unfold k9_pc
    rw [m9_cl (by omega)]
    match j, hj with
    | 0, _ => decide
    | 1, _ => decide
    | 2, _ => decide
    | 3, _ => decide
    | 4, _ => decide
    | 5, _ => decide
    | j + 6, hj => exact absurd hj (by omega)
  · have e : ∀ j, g9_M0 65 j = nI (j + 1) := fun _ => rfl
    rw [e, e]
    unfold k9_pc
    rw [m9_cl (by omega), m9_cl (by omega)]
    omega
