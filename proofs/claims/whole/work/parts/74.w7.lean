/-! The reference: a character of the text. -/
def m9_tv (M : k9_Mem) (rd d : Nat) (x : Int32) : Int32 :=
  if d = 0 then (if x = 112 then 1 else m9_bi (m9_fO M (3 * rd) x 0 19))
  else if d = 1 then (if x = 64 then 1 else m9_bi (m9_fO M (3 * rd) x 0 19))
  else if d = 2 then (if x = 64 then 1 else 0)
  else if d = 3 then m9_bi (m9_fO M (3 * rd + 1) x 0 95)
  else if d = 4 then (if x = 58 then 1 else m9_bi (m9_fO M (3 * rd + 1) x 0 95))
  else if d = 5 then m9_bi (m9_fO M (3 * rd + 2) x 1 96)
  else if x = 44 then 1 else m9_bi (m9_fO M (3 * rd + 2) x 1 96)
def m9_tm (M : k9_Mem) (rd d : Nat) (x : Int32) : k9_Mem :=
  if d = 0 then (if x = 112 then k9_st (k9_st M 87 (3 * rd) (-1)) 76 16 2 else m9_fM M (3 * rd) x 0 19)
  else if d = 1 then (if x = 64 then k9_st M 76 16 3 else m9_fM M (3 * rd) x 0 19)
  else if d = 2 then (if x = 64 then k9_st M 76 16 3 else M)
  else if d = 3 then m9_fM M (3 * rd + 1) x 0 95
  else if d = 4 then (if x = 58 then k9_st M 76 16 5 else m9_fM M (3 * rd + 1) x 0 95)
  else if d = 5 then m9_fM M (3 * rd + 2) x 1 96
  else if x = 44 then k9_st (k9_st M 76 15 (nI (rd + 1))) 76 16 0 else m9_fM M (3 * rd + 2) x 1 96
theorem m9_bi_01 (P : Prop) [Decidable P] : m9_bi P = 0 ∨ m9_bi P = 1 := by
  by_cases h : P
  · exact Or.inr (m9_bi_t h)
  · exact Or.inl (m9_bi_f h)
theorem m9_tv_01 (M : k9_Mem) (rd d : Nat) (x : Int32) : m9_tv M rd d x = 0 ∨ m9_tv M rd d x = 1 := by
  unfold m9_tv
  repeat' split
  all_goals first | exact m9_bi_01 _ | exact Or.inr rfl | exact Or.inl rfl
theorem ct_X7_takes (l : Launch) (G : k9_G) (M : k9_Mem) {rd d : Nat} (hr : M 76 15 = nI rd) (hA : 3 * rd + 2 < 36) (hd : M 76 16 = nI d) (hd6 : d ≤ 6) (x : Int32) : k9_Ci l yX7_takes wsX7_takes rm_X7_takes G M [.ref (k9_ga G 76), .int x] (m9_tv M rd d x) (m9_tm M rd d x) := by
  refine k9_metI (own := RX7) (by decide +kernel) rfl rfl (Nat.le_of_ble_eq_true rfl) (m9_nz (m9_tv_01 M rd d x)) ?_
  intro p e s m args below meth c A Q X HR
  have dk : ∀ k : Nat, k < 100 → M 76 16 = nI k → d = k := fun k hk h => by rw [hd] at h; exact (m9_eq (by omega) (by omega)).mp h
  have f0 := ct_X7_takesFigure l G M (rd := rd) (pl := 0) hr (by omega) x 0 19
  have f1 := ct_X7_takesFigure l G M (rd := rd) (pl := 1) hr (by omega) x 0 95
  have f2 := ct_X7_takesFigure l G M (rd := rd) (pl := 2) hr (by omega) x 1 96
  have e3 : (3 : Int32) * M 76 15 = nI (3 * rd) := by rw [hr, show (3 : Int32) = nI 3 from rfl, pk_mul]
  have e4 : (nI (3 * rd)).toNatClampNeg = 3 * rd := m9_cl (by omega)
  have g : ∀ (N : k9_Mem) (z : Int32), k9_Ci l yX7_goesOn wsX7_goesOn rm_X7_goesOn G N [.ref (k9_ga G 76), .int 1, .int z] 1 (k9_st N 76 16 z) := fun N z => ct_X7_goesOn l G N 1 z (Or.inr rfl)
  have out : ∀ pc z N, decode cX7_takes pc = Except.ok (Instr.ireturn, 1) → m9_tv M rd d x = z → m9_tm M rd d x = N → k9_U p l e rm_X7_takes s m args below meth c Q A G 2 0 0 N pc [] [.int z] := fun pc z N h h1 h2 => by
    have h9 := HR pc [] h
    rw [h1, h2] at h9
    exact h9
  refine bk_X7_takes_0 (rv2 := 1) (mv2 := k9_st (k9_st M 87 (3 * rd) (-1)) 76 16 2) X (fun c1 c2 => f0) (fun c1 c2 => ?_) (fun c1 c2 => ?_) (fun c1 c2 => ?_) (fun c1 c2 => ?_) (fun c1 c2 => f0) (fun c1 c2 => ?_) (fun c1 c2 => g _ _) (fun c1 c2 => ?_) (fun c1 c2 => ct_X7_goesOn l G M 0 3 (Or.inl rfl)) (fun c1 c2 => ?_) (fun c1 c2 => g _ _) (fun c1 c2 => ?_) (fun c1 => f1) (fun c1 => ?_) (fun c1 c2 => f1) (fun c1 c2 => ?_) (fun c1 c2 => g _ _) (fun c1 c2 => ?_) (fun c1 => f2) (fun c1 => ?_) (fun d0 d1 d2 d3 d4 d5 c2 => f2) (fun d0 d1 d2 d3 d4 d5 c2 => ?_) (fun d0 d1 d2 d3 d4 d5 c2 => g _ _) (fun d0 d1 d2 d3 d4 d5 c2 => ?_)
  · have := dk 0 (by decide) c1
    subst this
    exact out 78 _ _ dX7_takes_78 (by rw [m9_tv, if_pos rfl, if_neg c2]; rfl) (by rw [m9_tm, if_pos rfl, if_neg c2]; rfl)
  · rw [e3]; exact m9_in (by omega) (by decide)
  · rw [e3, e4]; exact g _ _
  · have := dk 0 (by decide) c1
    subst this
    exact out 68 _ _ dX7_takes_68 (by rw [m9_tv, if_pos rfl, if_pos c2]) (by rw [m9_tm, if_pos rfl, if_pos c2])
  · have := dk 1 (by decide) c1
    subst this
    exact out 103 _ _ dX7_takes_103 (by rw [m9_tv, if_neg (by decide), if_pos rfl, if_neg c2]; rfl) (by rw [m9_tm, if_neg (by decide), if_pos rfl, if_neg c2]; rfl)
  · have := dk 1 (by decide) c1
    subst this
    exact out 103 _ _ dX7_takes_103 (by rw [m9_tv, if_neg (by decide), if_pos rfl, if_pos c2]) (by rw [m9_tm, if_neg (by decide), if_pos rfl, if_pos c2])
  · have := dk 2 (by decide) c1
    subst this
    exact out 120 _ _ dX7_takes_120 (by rw [m9_tv, if_neg (by decide), if_neg (by decide), if_pos rfl, if_neg c2]) (by rw [m9_tm, if_neg (by decide), if_neg (by decide), if_pos rfl, if_neg c2]; rfl)
  · have := dk 2 (by decide) c1
    subst this
    exact out 120 _ _ dX7_takes_120 (by rw [m9_tv, if_neg (by decide), if_neg (by decide), if_pos rfl, if_pos c2]) (by rw [m9_tm, if_neg (by decide), if_neg (by decide), if_pos rfl, if_pos c2])
  · have := dk 3 (by decide) c1
    subst this
    exact out 130 _ _ dX7_takes_130 rfl rfl
  · have := dk 4 (by decide) c1
    subst this
    exact out 155 _ _ dX7_takes_155 (by rw [m9_tv, if_neg (by decide), if_neg (by decide), if_neg (by decide), if_neg (by decide), if_pos rfl, if_neg c2]) (by rw [m9_tm, if_neg (by decide), if_neg (by decide), if_neg (by decide), if_neg (by decide), if_pos rfl, if_neg c2])
  · have := dk 4 (by decide) c1
    subst this
    exact out 155 _ _ dX7_takes_155 (by rw [m9_tv, if_neg (by decide), if_neg (by decide), if_neg (by decide), if_neg (by decide), if_pos rfl, if_pos c2]) (by rw [m9_tm, if_neg (by decide), if_neg (by decide), if_neg (by decide), if_neg (by decide), if_pos rfl, if_pos c2])
  · have := dk 5 (by decide) c1
    subst this
    exact out 165 _ _ dX7_takes_165 rfl rfl
  · have h6 : d = 6 := by
      rw [hd] at d0 d1 d2 d3 d4 d5
      have n0 : ¬ d = 0 := fun z => d0 (by rw [z]; rfl)
      have n1 : ¬ d = 1 := fun z => d1 (by rw [z]; rfl)
      have n2 : ¬ d = 2 := fun z => d2 (by rw [z]; rfl)
      have n3 : ¬ d = 3 := fun z => d3 (by rw [z]; rfl)
      have n4 : ¬ d = 4 := fun z => d4 (by rw [z]; rfl)
      have n5 : ¬ d = 5 := fun z => d5 (by rw [z]; rfl)
      omega
    subst h6
    exact out 198 _ _ dX7_takes_198 (by rw [m9_tv, if_neg (by decide), if_neg (by decide), if_neg (by decide), if_neg (by decide), if_neg (by decide), if_neg (by decide), if_neg c2]) (by rw [m9_tm, if_neg (by decide), if_neg (by decide), if_neg (by decide), if_neg (by decide), if_neg (by decide), if_neg (by decide), if_neg c2])
  · have h6 : d = 6 := by
      rw [hd] at d0 d1 d2 d3 d4 d5
      have n0 : ¬ d = 0 := fun z => d0 (by rw [z]; rfl)
      have n1 : ¬ d = 1 := fun z => d1 (by rw [z]; rfl)
      have n2 : ¬ d = 2 := fun z => d2 (by rw [z]; rfl)
      have n3 : ¬ d = 3 := fun z => d3 (by rw [z]; rfl)
      have n4 : ¬ d = 4 := fun z => d4 (by rw [z]; rfl)
      have n5 : ¬ d = 5 := fun z => d5 (by rw [z]; rfl)
      omega
    subst h6
    exact out 188 _ _ dX7_takes_188 (by rw [m9_tv, if_neg (by decide), if_neg (by decide), if_neg (by decide), if_neg (by decide), if_neg (by decide), if_neg (by decide), if_pos c2]) (by rw [m9_tm, if_neg (by decide), if_neg (by decide), if_neg (by decide), if_neg (by decide), if_neg (by decide), if_neg (by decide), if_pos c2, hr, nI_1])
