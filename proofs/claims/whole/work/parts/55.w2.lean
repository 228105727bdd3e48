/-! The buffer and its reading. -/
def m9_sgn (x : Int32) : Int32 := if x = 0 then 64 else if x = 1 then 58 else 44
def m9_lrg (x : Int32) : Int32 := if x = 0 then 19 else if x = 1 then 95 else 96
theorem ct_X2_signAfter (l : Launch) (G : k9_G) (M : k9_Mem) (a : Int32) : k9_Ci l yX2_signAfter wsX2_signAfter rm_X2_signAfter G M [.int a] (m9_sgn a) M := by
  refine k9_metI (own := RX2) (by decide +kernel) rfl rfl (Nat.le_of_ble_eq_true rfl) rfl ?_
  intro p e s m args below meth c A Q X HR
  refine bk_X2_signAfter_0 X (fun c1 => ?_) (fun c1 c2 => ?_) (fun c1 c2 => ?_)
  · exact k9_eq rfl (by rw [m9_sgn, if_pos c1]) (HR 30 [] dX2_signAfter_30)
  · exact k9_eq rfl (by rw [m9_sgn, if_neg c1, if_pos c2]) (HR 33 [] dX2_signAfter_33)
  · exact k9_eq rfl (by rw [m9_sgn, if_neg c1, if_neg c2]) (HR 36 [] dX2_signAfter_36)
theorem ct_X2_largestOf (l : Launch) (G : k9_G) (M : k9_Mem) (a : Int32) : k9_Ci l yX2_largestOf wsX2_largestOf rm_X2_largestOf G M [.int a] (m9_lrg a) M := by
  refine k9_metI (own := RX2) (by decide +kernel) rfl rfl (Nat.le_of_ble_eq_true rfl) rfl ?_
  intro p e s m args below meth c A Q X HR
  refine bk_X2_largestOf_0 X (fun c1 => ?_) (fun c1 c2 => ?_) (fun c1 c2 => ?_)
  · exact k9_eq rfl (by rw [m9_lrg, if_pos c1]) (HR 30 [] dX2_largestOf_30)
  · exact k9_eq rfl (by rw [m9_lrg, if_neg c1, if_pos c2]) (HR 33 [] dX2_largestOf_33)
  · exact k9_eq rfl (by rw [m9_lrg, if_neg c1, if_neg c2]) (HR 36 [] dX2_largestOf_36)
def m9_tdv (M : k9_Mem) (d : Int32) : Int32 := if M 66 7 = -1 then d else M 66 7 * 10 + d
abbrev m9_dgo (M : k9_Mem) (d : Int32) : Prop := ¬ M 66 7 = 0 ∧ ¬ M 66 7 = -2 ∧ ¬ m9_lrg (M 66 6) < m9_tdv M d ∧ ¬ (m9_tdv M d = 0 ∧ M 66 6 = 2)
def m9_dgm (M : k9_Mem) (d : Int32) : k9_Mem := if m9_dgo M d then k9_st M 66 7 (m9_tdv M d) else M
theorem ct_X2_takesDigit (l : Launch) (G : k9_G) (M : k9_Mem) (d : Int32) : k9_Ci l yX2_takesDigit wsX2_takesDigit rm_X2_takesDigit G M [.ref (k9_ga G 66), .int d] (m9_bi (m9_dgo M d)) (m9_dgm M d) := by
  refine k9_metI (own := RX2) (by decide +kernel) rfl rfl (Nat.le_of_ble_eq_true rfl) m9_nb ?_
  intro p e s m args below meth c A Q X HR
  have no : ∀ pc, decode cX2_takesDigit pc = Except.ok (Instr.ireturn, 1) → ¬ m9_dgo M d → k9_U p l e rm_X2_takesDigit s m args below meth c Q A G 3 0 0 M pc [] [.int 0] := fun pc hd hn => by
    have h := HR pc [] hd
    rw [m9_bi_f hn, m9_dgm, if_neg hn] at h
    exact h
  have yes : m9_dgo M d → ∀ z, z = m9_tdv M d → k9_U p l e rm_X2_takesDigit s m args below meth c Q A G 3 0 0 (k9_st M 66 7 z) 71 [] [.int 1] := fun hn z hz => by
    have h := HR 71 [] dX2_takesDigit_71
    rw [m9_bi_t hn, m9_dgm, if_pos hn, ← hz] at h
    exact h
  have v1 : ¬ M 66 7 = -1 → M 66 7 * 10 + d = m9_tdv M d := fun q => by rw [m9_tdv, if_neg q]
  have v2 : M 66 7 = -1 → d = m9_tdv M d := fun q => by rw [m9_tdv, if_pos q]
  refine bk_X2_takesDigit_0 X (fun c1 => ?_) (fun c1 c2 c3 => ct_X2_largestOf l G M _) (fun c1 c2 c3 c4 => ?_) (fun c1 c2 c3 c4 c5 => ?_) (fun c1 c2 c3 c4 c5 c6 => ?_) (fun c1 c2 c3 c4 c5 c6 => ?_) (fun c1 c2 c3 => ct_X2_largestOf l G M _) (fun c1 c2 c3 c4 => ?_) (fun c1 c2 c3 c4 c5 => ?_) (fun c1 c2 c3 c4 c5 c6 => ?_) (fun c1 c2 c3 c4 c5 c6 => ?_) (fun c1 c2 => ?_)
  · exact no 17 dX2_takesDigit_17 (fun z => z.1 c1)
  · exact no 64 dX2_takesDigit_64 (fun z => z.2.2.1 (v1 c3 ▸ c4))
  · exact yes ⟨c1, c2, v1 c3 ▸ c4, fun z => c5 ((v1 c3).trans z.1)⟩ _ (v1 c3)
  · exact yes ⟨c1, c2, v1 c3 ▸ c4, fun z => c6 z.2⟩ _ (v1 c3)
  · exact no 64 dX2_takesDigit_64 (fun z => z.2.2.2 ⟨(v1 c3).symm.trans c5, c6⟩)
  · exact no 64 dX2_takesDigit_64 (fun z => z.2.2.1 (by rw [← v2 c3]; exact c4))
  · exact yes ⟨c1, c2, by rw [← v2 c3]; exact c4, fun z => c5 ((v2 c3).trans z.1)⟩ _ (v2 c3)
  · exact yes ⟨c1, c2, by rw [← v2 c3]; exact c4, fun z => c6 z.2⟩ _ (v2 c3)
  · exact no 64 dX2_takesDigit_64 (fun z => z.2.2.2 ⟨(v2 c3).symm.trans c5, c6⟩)
  · exact no 17 dX2_takesDigit_17 (fun z => z.2.1 c2)
abbrev m9_peo (M : k9_Mem) : Prop := M 66 6 = 0 ∧ M 66 7 = -1
def m9_pem (M : k9_Mem) : k9_Mem := if m9_peo M then k9_st M 66 7 (-2) else M
theorem ct_X2_takesPedal (l : Launch) (G : k9_G) (M : k9_Mem) : k9_Ci l yX2_takesPedal wsX2_takesPedal rm_X2_takesPedal G M [.ref (k9_ga G 66)] (m9_bi (m9_peo M)) (m9_pem M) := by
  refine k9_metI (own := RX2) (by decide +kernel) rfl rfl (Nat.le_of_ble_eq_true rfl) m9_nb ?_
  intro p e s m args below meth c A Q X HR
  have no : ¬ m9_peo M → k9_U p l e rm_X2_takesPedal s m args below meth c Q A G 1 0 0 M 16 [] [.int 0] := fun hn => by
    have h := HR 16 [] dX2_takesPedal_16
    rw [m9_bi_f hn, m9_pem, if_neg hn] at h
    exact h
  refine bk_X2_takesPedal_0 X (fun c1 => ?_) (fun c1 c2 => ?_) (fun c1 c2 => ?_)
  · exact no (fun z => c1 z.1)
  · have h := HR 24 [] dX2_takesPedal_24
    rw [m9_bi_t ⟨c1, c2⟩, m9_pem, if_pos ⟨c1, c2⟩] at h
    exact h
  · exact no (fun z => c2 z.2)
def m9_kpm (M : k9_Mem) : k9_Mem := if M 66 5 < 0 ∨ (60 : Int32) ≤ M 66 5 then M else k9_st (k9_st (k9_st (k9_st M 68 (M 66 5).toNatClampNeg (M 66 8)) 69 (M 66 5).toNatClampNeg (M 66 9)) 70 (M 66 5).toNatClampNeg (M 66 7)) 66 5 (M 66 5 + 1)
theorem m9_in_of {a : Int32} {n : Nat} (hn : n < 2147483648) (h1 : ¬ a < 0) (h2 : ¬ nI n ≤ a) : vp_in a n := by
  obtain ⟨j, hj, h3⟩ := nI_of h1
  subst h3
  refine m9_in ?_ hn
  rcases Nat.lt_or_ge j n with q | q
  · exact q
  · exact absurd ((m9_le hn hj).mpr q) h2
theorem ct_X2_keepPart (l : Launch) (G : k9_G) (M : k9_Mem) : k9_Cv l yX2_keepPart wsX2_keepPart rm_X2_keepPart G M [.ref (k9_ga G 66)] (m9_kpm M) := by
  refine k9_metV (own := RX2) (by decide +kernel) rfl rfl (Nat.le_of_ble_eq_true rfl) ?_
  intro p e s m args below meth c A Q X HR
  refine bk_X2_keepPart_0 X (fun c1 => ?_) (fun c1 c2 => ?_) (fun c1 c2 => ?_) (fun c1 c2 => ?_)
  · exact k9_memeq (by rw [m9_kpm, if_pos (Or.inl c1)]) (HR 68 [] dX2_keepPart_68)
  · exact k9_memeq (by rw [m9_kpm, if_pos (Or.inr c2)]) (HR 68 [] dX2_keepPart_68)
  · exact m9_in_of (n := 60) (by decide) c1 c2
  · exact k9_memeq (by rw [m9_kpm, if_neg (fun z => z.elim c1 c2)]) (HR 68 [] dX2_keepPart_68)
def m9_gom (M : k9_Mem) : k9_Mem :=
  if M 66 6 = 0 then k9_st (k9_st (k9_st M 66 8 (if M 66 7 = -2 then 0 else M 66 7 + 1)) 66 6 1) 66 7 (-1)
  else if M 66 6 = 1 then k9_st (k9_st (k9_st M 66 9 (M 66 7)) 66 6 2) 66 7 (-1)
  else k9_st (k9_st (m9_kpm M) 66 6 0) 66 7 (-1)
theorem ct_X2_goesOn (l : Launch) (G : k9_G) (M : k9_Mem) : k9_Ci l yX2_goesOn wsX2_goesOn rm_X2_goesOn G M [.ref (k9_ga G 66)] 1 (m9_gom M) := by
  refine k9_metI (own := RX2) (by decide +kernel) rfl rfl (Nat.le_of_ble_eq_true rfl) rfl ?_
  intro p e s m args below meth c A Q X HR
  refine bk_X2_goesOn_0 X (fun c1 c2 => ?_) (fun c1 c2 => ?_) (fun c1 c2 => ?_) (fun c1 c2 => ct_X2_keepPart l G M) (fun c1 c2 => ?_)
  · exact k9_memeq (by rw [m9_gom, if_pos c1, if_neg c2]) (HR 94 [] dX2_goesOn_94)
  · exact k9_memeq (by rw [m9_gom, if_pos c1, if_pos c2]) (HR 94 [] dX2_goesOn_94)
  · exact k9_memeq (by rw [m9_gom, if_neg c1, if_pos c2]) (HR 94 [] dX2_goesOn_94)
  · exact k9_memeq (by rw [m9_gom, if_neg c1, if_neg c2]) (HR 94 [] dX2_goesOn_94)
abbrev m9_isD (c : Int32) : Prop := ¬ c < 48 ∧ ¬ (57 : Int32) < c
abbrev m9_sio (M : k9_Mem) (c : Int32) : Prop := c = m9_sgn (M 66 6) ∧ ¬ M 66 7 = -1
abbrev m9_tko (M : k9_Mem) (c : Int32) : Prop := if m9_isD c then m9_dgo M (c - 48) else if c = 112 then m9_peo M else m9_sio M c
def m9_tkm (M : k9_Mem) (c : Int32) : k9_Mem := if m9_isD c then m9_dgm M (c - 48) else if c = 112 then m9_pem M else if m9_sio M c then m9_gom M else M
theorem ct_X2_takes (l : Launch) (G : k9_G) (M : k9_Mem) (a : Int32) [Decidable (m9_tko M a)] : k9_Ci l yX2_takes wsX2_takes rm_X2_takes G M [.ref (k9_ga G 66), .int a] (m9_bi (m9_tko M a)) (m9_tkm M a) := by
  refine k9_metI (own := RX2) (by decide +kernel) rfl rfl (Nat.le_of_ble_eq_true rfl) m9_nb ?_
  intro p e s m args below meth c A Q X HR
  have sign : ∀ (N : k9_Mem) pc z, decode cX2_takes pc = Except.ok (Instr.ireturn, 1) → ¬ m9_isD a → ¬ a = 112 → (m9_sio M a → N = m9_gom M ∧ z = 1) → (¬ m9_sio M a → N = M ∧ z = 0) → k9_U p l e rm_X2_takes s m args below meth c Q A G 2 0 0 N pc [] [.int z] := fun N pc z hd hn hp h1 h2 => by
    have h := HR pc [] hd
    have ek : m9_tko M a ↔ m9_sio M a := by rw [m9_tko, if_neg hn, if_neg hp]
    rw [m9_tkm, if_neg hn, if_neg hp] at h
    by_cases q : m9_sio M a
    · rw [m9_bi_t (ek.mpr q), if_pos q] at h
      rw [(h1 q).1, (h1 q).2]; exact h
    · rw [m9_bi_f (fun z => q (ek.mp z)), if_neg q] at h
      rw [(h2 q).1, (h2 q).2]; exact h
  have ped : ¬ m9_isD a → a = 112 → k9_U p l e rm_X2_takes s m args below meth c Q A G 2 0 0 (m9_pem M) 31 [] [.int (m9_bi (m9_peo M))] := fun hn hp => by
    have h := HR 31 [] dX2_takes_31
    have ek : m9_tko M a ↔ m9_peo M := by rw [m9_tko, if_neg hn, if_pos hp]
    rw [m9_tkm, if_neg hn, if_pos hp] at h
    by_cases q : m9_peo M
    · rw [m9_bi_t (ek.mpr q)] at h
      rw [m9_bi_t q]; exact h
    · rw [m9_bi_f (fun z => q (ek.mp z))] at h
      rw [m9_bi_f q]; exact h
  refine bk_X2_takes_0 X (fun c1 c2 => ct_X2_signAfter l G M _) (fun c1 c2 c3 => ?_) (fun c1 c2 c3 c4 => ?_) (fun c1 c2 c3 c4 => ct_X2_goesOn l G M) (fun c1 c2 c3 c4 c5 => ?_) (fun c1 c2 c3 c4 c5 => ?_) (fun c1 c2 => ct_X2_takesPedal l G M) (fun c1 c2 => ?_)
    (fun c1 c0 c2 => ct_X2_signAfter l G M _) (fun c1 c0 c2 c3 => ?_) (fun c1 c0 c2 c3 c4 => ?_) (fun c1 c0 c2 c3 c4 => ct_X2_goesOn l G M) (fun c1 c0 c2 c3 c4 c5 => ?_) (fun c1 c0 c2 c3 c4 c5 => ?_) (fun c1 c0 c2 => ct_X2_takesPedal l G M) (fun c1 c0 c2 => ?_) (fun c1 c2 => ct_X2_takesDigit l G M _) (fun c1 c2 => ?_)
  · exact sign M 63 0 dX2_takes_63 (fun z => z.1 c1) c2 (fun z => absurd z.1 c3) (fun _ => ⟨rfl, rfl⟩)
  · exact sign M 63 0 dX2_takes_63 (fun z => z.1 c1) c2 (fun z => absurd c4 z.2) (fun _ => ⟨rfl, rfl⟩)
  · exact absurd c5 (by decide)
  · exact sign _ 63 1 dX2_takes_63 (fun z => z.1 c1) c2 (fun _ => ⟨rfl, rfl⟩) (fun z => absurd ⟨c3, c4⟩ z)
  · exact ped (fun z => z.1 c1) c2
  · exact sign M 63 0 dX2_takes_63 (fun z => z.2 c0) c2 (fun z => absurd z.1 c3) (fun _ => ⟨rfl, rfl⟩)
  · exact sign M 63 0 dX2_takes_63 (fun z => z.2 c0) c2 (fun z => absurd c4 z.2) (fun _ => ⟨rfl, rfl⟩)
  · exact absurd c5 (by decide)
  · exact sign _ 63 1 dX2_takes_63 (fun z => z.2 c0) c2 (fun _ => ⟨rfl, rfl⟩) (fun z => absurd ⟨c3, c4⟩ z)
  · exact ped (fun z => z.2 c0) c2
  · have h := HR 20 [] dX2_takes_20
    have hD : m9_isD a := ⟨c1, c2⟩
    have ek : m9_tko M a ↔ m9_dgo M (a - 48) := by rw [m9_tko, if_pos hD]
    rw [m9_tkm, if_pos hD] at h
    by_cases q : m9_dgo M (a - 48)
    · rw [m9_bi_t (ek.mpr q)] at h
      rw [m9_bi_t q]; exact h
    · rw [m9_bi_f (fun z => q (ek.mp z))] at h
      rw [m9_bi_f q]; exact h
theorem m9_tkm_no {M : k9_Mem} {c : Int32} (h : ¬ m9_tko M c) : m9_tkm M c = M := by
  unfold m9_tkm
  unfold m9_tko at h
  by_cases h1 : m9_isD c
  · rw [if_pos h1] at h ⊢; rw [m9_dgm, if_neg h]
  · rw [if_neg h1] at h ⊢
    by_cases h2 : c = 112
    · rw [if_pos h2] at h ⊢; rw [m9_pem, if_neg h]
    · rw [if_neg h2] at h ⊢; rw [if_neg h]
/-- what the reading keeps as it was -/
theorem m9_kpm_f {M : k9_Mem} {k : Nat} (h1 : k ≠ 66) (h2 : k ≠ 68) (h3 : k ≠ 69) (h4 : k ≠ 70) : m9_kpm M k = M k := by
  unfold m9_kpm
  by_cases c : M 66 5 < 0 ∨ (60 : Int32) ≤ M 66 5
  · rw [if_pos c]
  · rw [if_neg c, m9_st_ne _ _ _ h1, m9_st_ne _ _ _ h4, m9_st_ne _ _ _ h3, m9_st_ne _ _ _ h2]
theorem m9_tkm_f {M : k9_Mem} {c : Int32} {k : Nat} (h1 : k ≠ 66) (h2 : k ≠ 68) (h3 : k ≠ 69) (h4 : k ≠ 70) : m9_tkm M c k = M k := by
  unfold m9_tkm m9_dgm m9_pem m9_gom
  split
  · split
    · exact m9_st_ne _ _ _ h1
    · rfl
  · split
    · split
      · exact m9_st_ne _ _ _ h1
      · rfl
    · split
      · split
        · rw [m9_st_ne _ _ _ h1, m9_st_ne _ _ _ h1, m9_st_ne _ _ _ h1]
        · split
          · rw [m9_st_ne _ _ _ h1, m9_st_ne _ _ _ h1, m9_st_ne _ _ _ h1]
          · rw [m9_st_ne _ _ _ h1, m9_st_ne _ _ _ h1, m9_kpm_f h1 h2 h3 h4]
      · rfl
theorem m9_kpm_1 (M : k9_Mem) : m9_kpm M 66 1 = M 66 1 := by
  unfold m9_kpm
  by_cases c : M 66 5 < 0 ∨ (60 : Int32) ≤ M 66 5
  · rw [if_pos c]
  · rw [if_neg c, m9_st_at, m9_upd_ne _ _ (by decide), m9_st_ne _ _ _ (by decide), m9_st_ne _ _ _ (by decide), m9_st_ne _ _ _ (by decide)]
theorem m9_st_at_ne (M : k9_Mem) {k i j : Nat} (v : Int32) (h : j ≠ i) : k9_st M k i v k j = M k j := by rw [m9_st_at, m9_upd_ne _ _ h]
theorem m9_tkm_1 (M : k9_Mem) (c : Int32) : m9_tkm M c 66 1 = M 66 1 := by
  unfold m9_tkm m9_dgm m9_pem m9_gom
  split
  · split
    · exact m9_st_at_ne _ _ (by decide)
    · rfl
  · split
    · split
      · exact m9_st_at_ne _ _ (by decide)
      · rfl
    · split
      · split
        · rw [m9_st_at_ne _ _ (by decide), m9_st_at_ne _ _ (by decide), m9_st_at_ne _ _ (by decide)]
        · split
          · rw [m9_st_at_ne _ _ (by decide), m9_st_at_ne _ _ (by decide), m9_st_at_ne _ _ (by decide)]
          · rw [m9_st_at_ne _ _ (by decide), m9_st_at_ne _ _ (by decide), m9_kpm_1]
      · rfl
/-- the reading after i characters -/
def m9_ra (M : k9_Mem) : Nat → k9_Mem
  | 0 => k9_st (k9_st (k9_st M 66 5 0) 66 6 0) 66 7 (-1)
  | i + 1 => m9_tkm (m9_ra M i) (M 67 i)
theorem m9_ra_f (M : k9_Mem) {k : Nat} (h1 : k ≠ 66) (h2 : k ≠ 68) (h3 : k ≠ 69) (h4 : k ≠ 70) : ∀ i, m9_ra M i k = M k
  | 0 => by
    show k9_st (k9_st (k9_st M 66 5 0) 66 6 0) 66 7 (-1) k = M k
    rw [m9_st_ne _ _ _ h1, m9_st_ne _ _ _ h1, m9_st_ne _ _ _ h1]
  | i + 1 => by
    show m9_tkm (m9_ra M i) (M 67 i) k = M k
    rw [m9_tkm_f h1 h2 h3 h4, m9_ra_f M h1 h2 h3 h4 i]
theorem m9_ra_1 (M : k9_Mem) : ∀ i, m9_ra M i 66 1 = M 66 1
  | 0 => by
    show k9_st (k9_st (k9_st M 66 5 0) 66 6 0) 66 7 (-1) 66 1 = M 66 1
    rw [m9_st_at_ne _ _ (by decide), m9_st_at_ne _ _ (by decide), m9_st_at_ne _ _ (by decide)]
  | i + 1 => by
    show m9_tkm (m9_ra M i) (M 67 i) 66 1 = M 66 1
    rw [m9_tkm_1, m9_ra_1 M i]
/-- the reading goes as far as R -/
abbrev m9_raR (M : k9_Mem) (U R : Nat) : Prop := R ≤ U ∧ (∀ k, k < R → m9_tko (m9_ra M k) (M 67 k)) ∧ (R < U → ¬ m9_tko (m9_ra M R) (M 67 R))
theorem ct_X2_readAll (l : Launch) (G : k9_G) (M : k9_Mem) {U R : Nat} (hU : U ≤ 60) (hM : M 66 1 = nI U) (hR : m9_raR M U R) : k9_Ci l yX2_readAll wsX2_readAll rm_X2_readAll G M [.ref (k9_ga G 66)] (nI R) (m9_ra M R) := by
  refine k9_metI (own := RX2) (by decide +kernel) rfl rfl (Nat.le_of_ble_eq_true rfl) rfl ?_
  intro p e s m args below meth c A Q X HR
  obtain ⟨hRU, hall, hstop⟩ := hR
  have loop : ∀ i, i ≤ R → k9_U p l e rm_X2_readAll s m args below meth c Q A G 2 0 0 (m9_ra M i) 17 [(0, .ref (k9_ga G 66)), (1, .int (nI i))] [] := by
    refine m9_down R (fun i hi next => ?_)
    have ee : (nI i).toNatClampNeg = i := m9_cl (by omega)
    have e1 : m9_ra M i 66 1 = nI U := by rw [m9_ra_1, hM]
    have e67 : m9_ra M i 67 = M 67 := m9_ra_f M (by decide) (by decide) (by decide) (by decide) i
    have hle : nI U ≤ nI i ↔ U ≤ i := m9_le (by omega) (by omega)
    have hle6 : (60 : Int32) ≤ nI i ↔ 60 ≤ i := m9_le (a := 60) (by decide) (by omega)
    have ex : m9_tko (m9_ra M i) (M 67 i) ∨ ¬ m9_tko (m9_ra M i) (M 67 i) := Classical.em _
    rcases ex with q | q
    · refine bk_X2_readAll_17 (rv1 := 1) (mv1 := m9_ra M (i + 1)) X (fun c1 => ?_) (fun c1 c2 => ?_) (fun c1 c2 => ?_) (fun c1 c2 => ?_) (fun c1 c2 c3 => ?_) (fun c1 c2 c3 => ?_)
      · rw [e1] at c1 ⊢
        have hiU := hle.mp c1
        have : R = i := by omega
        subst this
        have : U = R := by omega
        rw [this]
        exact HR 59 [] dX2_readAll_59
      · rw [e1] at c1
        exact absurd (hle.mpr (by have := hle6.mp c2; omega)) c1
      · rw [e1] at c1
        exact m9_in (by
          rcases Nat.lt_or_ge i 60 with q | q
          · exact q
          · exact absurd (hle6.mpr q) c2) (by decide)
      · rw [ee, e67]
        have h := ct_X2_takes l G (m9_ra M i) (M 67 i)
        rw [m9_bi_t q] at h
        exact h
      · rw [e1] at c1
        rw [nI_1]
        have h9 : ¬ U ≤ i := fun z => c1 (hle.mpr z)
        refine next ?_
        rcases Nat.lt_or_ge i R with h8 | h8
        · exact h8
        · have : R = i := by omega
          subst this
          exact absurd q (hstop (by omega))
      · exact absurd c3 (by decide)
    · have hiR : i = R := by
        rcases Nat.lt_or_ge i R with h8 | h8
        · exact absurd (hall i h8) q
        · omega
      refine bk_X2_readAll_17 (rv1 := 0) (mv1 := m9_ra M i) X (fun c1 => ?_) (fun c1 c2 => ?_) (fun c1 c2 => ?_) (fun c1 c2 => ?_) (fun c1 c2 c3 => ?_) (fun c1 c2 c3 => ?_)
      · rw [e1] at c1 ⊢
        have hiU := hle.mp c1
        subst hiR
        have : U = i := by omega
        rw [this]
        exact HR 59 [] dX2_readAll_59
      · rw [e1] at c1
        exact absurd (hle.mpr (by have := hle6.mp c2; omega)) c1
      · rw [e1] at c1
        exact m9_in (by
          rcases Nat.lt_or_ge i 60 with q | q
          · exact q
          · exact absurd (hle6.mpr q) c2) (by decide)
      · rw [ee, e67]
        have h := ct_X2_takes l G (m9_ra M i) (M 67 i)
        rw [m9_bi_f q, m9_tkm_no q] at h
        exact h
      · exact absurd rfl c3
      · subst hiR
        exact HR 48 [] dX2_readAll_48
  exact bk_X2_readAll_0 X (loop 0 (by omega))
abbrev m9_row (M : k9_Mem) (U R : Nat) : Prop := R = U ∧ m9_ra M R 66 6 = 2 ∧ ¬ m9_ra M R 66 7 = -1
def m9_rrm (M : k9_Mem) (U R : Nat) : k9_Mem := if m9_row M U R then m9_kpm (m9_ra M R) else m9_ra M R
theorem ct_X2_readRow (l : Launch) (G : k9_G) (M : k9_Mem) {U R : Nat} (hU : U ≤ 60) (hM : M 66 1 = nI U) (hR : m9_raR M U R) : k9_Ci l yX2_readRow wsX2_readRow rm_X2_readRow G M [.ref (k9_ga G 66)] (m9_bi (m9_row M U R)) (m9_rrm M U R) := by
  refine k9_metI (own := RX2) (by decide +kernel) rfl rfl (Nat.le_of_ble_eq_true rfl) m9_nb ?_
  intro p e s m args below meth c A Q X HR
  have e1 : m9_ra M R 66 1 = nI U := by rw [m9_ra_1, hM]
  have hRU := hR.1
  have hlt : nI R < nI U ↔ R < U := m9_lt (by omega) (by omega)
  have no : ¬ m9_row M U R → k9_U p l e rm_X2_readRow s m args below meth c Q A G 1 0 0 (m9_ra M R) 28 [] [.int 0] := fun hn => by
    have h := HR 28 [] dX2_readRow_28
    rw [m9_bi_f hn, m9_rrm, if_neg hn] at h
    exact h
  have hR2 : ¬ nI R < m9_ra M R 66 1 → R = U := fun c => by
    rw [e1] at c
    have : ¬ R < U := fun z => c (hlt.mpr z)
    omega
  refine bk_X2_readRow_0 X (ct_X2_readAll l G M hU hM hR) (fun c1 => ?_) (fun c1 c2 => ?_) (fun c1 c2 c3 => ct_X2_keepPart l G _) (fun c1 c2 c3 => ?_) (fun c1 c2 c3 => ?_)
  · rw [e1] at c1
    exact no (fun z => by have := hlt.mp c1; have := z.1; omega)
  · exact no (fun z => c2 z.2.1)
  · have hy : m9_row M U R := ⟨hR2 c1, c2, c3⟩
    have h := HR 34 [] dX2_readRow_34
    rw [m9_bi_t hy, m9_rrm, if_pos hy] at h
    exact h
  · exact no (fun z => z.2.2 c3)
theorem ct_X2_isFull (l : Launch) (G : k9_G) (M : k9_Mem) : k9_Ci l yX2_isFull wsX2_isFull rm_X2_isFull G M [.ref (k9_ga G 66)] (m9_bi (¬ M 66 1 < 60)) M := by
  refine k9_metI (own := RX2) (by decide +kernel) rfl rfl (Nat.le_of_ble_eq_true rfl) m9_nb ?_
  intro p e s m args below meth c A Q X HR
  refine bk_X2_isFull_0 X (fun c1 => ?_) (fun c1 => ?_)
  · exact k9_eq rfl (by rw [m9_bi_f (fun z => z c1)]) (HR 17 [] dX2_isFull_17)
  · exact k9_eq rfl (by rw [m9_bi_t c1]) (HR 17 [] dX2_isFull_17)
def m9_add (M : k9_Mem) (U : Nat) (a : Int32) : k9_Mem := k9_st (k9_st M 67 U a) 66 1 (nI (U + 1))
theorem ct_X2_add (l : Launch) (G : k9_G) (M : k9_Mem) {U : Nat} (hU : U < 60) (hM : M 66 1 = nI U) (a : Int32) : k9_Ci l yX2_add wsX2_add rm_X2_add G M [.ref (k9_ga G 66), .int a] (nI (U + 1)) (m9_add M U a) := by
  refine k9_metI (own := RX2) (by decide +kernel) rfl rfl (Nat.le_of_ble_eq_true rfl) rfl ?_
  intro p e s m args below meth c A Q X HR
  have ee : (nI U).toNatClampNeg = U := m9_cl (by omega)
  refine bk_X2_add_0 X (fun c1 => ?_) (fun c1 c2 => ?_) (fun c1 c2 => ?_) (fun c1 c2 => ?_)
  · rw [hM] at c1; exact absurd c1 (nI_pos (by omega))
  · rw [hM] at c2
    have := (m9_le (a := 60) (by decide) (by omega)).mp c2
    omega
  · rw [hM]; exact m9_in hU (by decide)
  · rw [hM, ee, nI_1]; exact HR 43 [] dX2_add_43
theorem ct_X2_empty (l : Launch) (G : k9_G) (M : k9_Mem) : k9_Ci l yX2_empty wsX2_empty rm_X2_empty G M [.ref (k9_ga G 66)] (M 66 1) (k9_st M 66 1 0) := by
  refine k9_metI (own := RX2) (by decide +kernel) rfl rfl (Nat.le_of_ble_eq_true rfl) rfl ?_
  intro p e s m args below meth c A Q X HR
  exact bk_X2_empty_0 X (HR 11 [] dX2_empty_11)
abbrev m9_fit (M : k9_Mem) (i : Nat) : Prop := ¬ (96 : Int32) < M 69 i + M 70 i
theorem ct_X2_allFit (l : Launch) (G : k9_G) (M : k9_Mem) {P : Nat} (hP : P ≤ 60) (hM : M 66 5 = nI P) [Decidable (∀ i, i < P → m9_fit M i)] : k9_Ci l yX2_allFit wsX2_allFit rm_X2_allFit G M [.ref (k9_ga G 66)] (m9_bi (∀ i, i < P → m9_fit M i)) M := by
  refine k9_metI (own := RX2) (by decide +kernel) rfl rfl (Nat.le_of_ble_eq_true rfl) m9_nb ?_
  intro p e s m args below meth c A Q X HR
  have loop : ∀ i, i ≤ P → (∀ k, k < i → m9_fit M k) → k9_U p l e rm_X2_allFit s m args below meth c Q A G 2 0 0 M 2 [(0, .ref (k9_ga G 66)), (1, .int (nI i))] [] := by
    refine m9_down P (fun i hi next h => ?_)
    have ee : (nI i).toNatClampNeg = i := m9_cl (by omega)
    have hle6 : (60 : Int32) ≤ nI i ↔ 60 ≤ i := m9_le (a := 60) (by decide) (by omega)
    refine bk_X2_allFit_2 X (fun c1 => ?_) (fun c1 c2 => ?_) (fun c1 c2 => ?_) (fun c1 c2 => ct_X6_fits l G M _ _) (fun c1 c2 c3 => ?_) (fun c1 c2 c3 => ?_)
    · rw [hM] at c1
      have hi2 := m9_ex (N := P) (by omega) hi c1
      subst hi2
      exact k9_eq rfl (by rw [m9_bi_t h]) (HR 46 [] dX2_allFit_46)
    · rw [hM] at c1
      have := m9_go (N := P) (by omega) hi c1
      have := hle6.mp c2
      omega
    · rw [hM] at c1
      have := m9_go (N := P) (by omega) hi c1
      exact m9_in (by omega) (by decide)
    · rw [hM] at c1
      rw [ee] at c3
      rw [nI_1]; exact next (m9_go (N := P) (by omega) hi c1) (m9_al_s h (m9_bi_1 c3))
    · rw [hM] at c1
      rw [ee] at c3
      exact k9_eq rfl (by rw [m9_bi_f (fun z => m9_bi_0 c3 (z i (m9_go (N := P) (by omega) hi c1)))]) (HR 38 [] dX2_allFit_38)
  exact bk_X2_allFit_0 X (loop 0 (by omega) (fun k hk => absurd hk (Nat.not_lt_zero k)))
/-- what the parts that were read cut -/
def m9_ca (M : k9_Mem) (B : Nat) : Nat → k9_Mem
  | 0 => M
  | i + 1 => m9_ch (m9_ca M B i) (m9_tk (M 68 i + 2)) (M 69 i).toNatClampNeg (M 70 i).toNatClampNeg B ((M 69 i).toNatClampNeg + (M 70 i).toNatClampNeg)
def m9_can (M : k9_Mem) (B : Nat) : Nat → Int32 := m9_sum (fun i => m9_chn (m9_ca M B i) (m9_tk (M 68 i + 2)) (M 69 i).toNatClampNeg (M 70 i).toNatClampNeg B ((M 69 i).toNatClampNeg + (M 70 i).toNatClampNeg))
theorem m9_ca_f (M : k9_Mem) (B : Nat) {k : Nat} (h2 : k ≠ 2) (h3 : k ≠ 3) : ∀ i, m9_ca M B i k = M k
  | 0 => rfl
  | i + 1 => by
    show m9_ch _ _ _ _ _ _ k = M k
    rw [m9_ch_f _ _ _ _ _ _ h2 h3, m9_ca_f M B h2 h3 i]
/-- a part that may be cut -/
abbrev m9_prt (M : k9_Mem) (i : Nat) : Prop := ∃ f n : Nat, M 69 i = nI f ∧ M 70 i = nI n ∧ 1 ≤ n ∧ f + n ≤ 96
theorem ct_X2_cutAll (l : Launch) (G : k9_G) (M : k9_Mem) {P B : Nat} (hP : P ≤ 60) (hM : M 66 5 = nI P) (hB : B < 1000) (hM5 : M 1 5 = nI B) (hp : ∀ i, i < P → m9_prt M i) : k9_Ci l yX2_cutAll wsX2_cutAll rm_X2_cutAll G M [.ref (k9_ga G 66), .ref (k9_ga G 1)] (m9_can M B P) (m9_ca M B P) := by
  refine k9_metI (own := RX2) (by decide +kernel) rfl rfl (Nat.le_of_ble_eq_true rfl) rfl ?_
  intro p e s m args below meth c A Q X HR
  have loop : ∀ i, i ≤ P → k9_U p l e rm_X2_cutAll s m args below meth c Q A G 4 0 0 (m9_ca M B i) 4 [(0, .ref (k9_ga G 66)), (1, .ref (k9_ga G 1)), (2, .int (m9_can M B i)), (3, .int (nI i))] [] := by
    refine m9_down P (fun i hi next => ?_)
    have ee : (nI i).toNatClampNeg = i := m9_cl (by omega)
    have hle6 : (60 : Int32) ≤ nI i ↔ 60 ≤ i := m9_le (a := 60) (by decide) (by omega)
    have e66 : m9_ca M B i 66 = M 66 := m9_ca_f M B (by decide) (by decide) i
    have e68 : m9_ca M B i 68 = M 68 := m9_ca_f M B (by decide) (by decide) i
    have e69 : m9_ca M B i 69 = M 69 := m9_ca_f M B (by decide) (by decide) i
    have e70 : m9_ca M B i 70 = M 70 := m9_ca_f M B (by decide) (by decide) i
    have e15 : m9_ca M B i 1 5 = nI B := by rw [m9_ca_f M B (by decide) (by decide) i, hM5]
    refine bk_X2_cutAll_4 (rv1 := m9_chn (m9_ca M B i) (m9_tk (M 68 i + 2)) (M 69 i).toNatClampNeg (M 70 i).toNatClampNeg B ((M 69 i).toNatClampNeg + (M 70 i).toNatClampNeg)) (mv1 := m9_ca M B (i + 1)) X (fun c1 => ?_) (fun c1 c2 => ?_) (fun c1 c2 => ?_) (fun c1 c2 => ?_) (fun c1 c2 => ?_)
    · rw [e66, hM] at c1
      have hi2 := m9_ex (N := P) (by omega) hi c1
      subst hi2
      exact HR 53 [] dX2_cutAll_53
    · rw [e66, hM] at c1
      have := m9_go (N := P) (by omega) hi c1
      have := hle6.mp c2
      omega
    · rw [e66, hM] at c1
      have := m9_go (N := P) (by omega) hi c1
      exact m9_in (by omega) (by decide)
    · rw [e66, hM] at c1
      rw [ee, e68, e69, e70]
      obtain ⟨f, n, hf, hn, g1, g2⟩ := hp i (m9_go (N := P) (by omega) hi c1)
      have hcf : (M 69 i).toNatClampNeg = f := by rw [hf, m9_cl (by omega)]
      have hcn : (M 70 i).toNatClampNeg = n := by rw [hn, m9_cl (by omega)]
      have h := ct_X3_cutChain l G (m9_ca M B i) (M 68 i) (f := f) (n := n) g1 g2 hB e15
      have em : m9_ca M B (i + 1) = m9_ch (m9_ca M B i) (m9_tk (M 68 i + 2)) f n B (f + n) := by
        show m9_ch _ _ _ _ _ _ = _
        rw [hcf, hcn]
      rw [em, hcf, hcn, hf, hn]
      exact h
    · rw [e66, hM] at c1
      rw [nI_1]; exact next (m9_go (N := P) (by omega) hi c1)
  exact bk_X2_cutAll_0 X (loop 0 (by omega))
def m9_mix (h : Int64) (f : Nat → Int64) : Nat → Int64
  | 0 => h
  | n + 1 => 31 * m9_mix h f n + f n
theorem ct_X2_mixedInto (l : Launch) (G : k9_G) (M : k9_Mem) {U : Nat} (hU : U ≤ 60) (hM : M 66 1 = nI U) (h0 : Int64) : k9_Cl l yX2_mixedInto wsX2_mixedInto rm_X2_mixedInto G M [.ref (k9_ga G 66), .long h0] (m9_mix (31 * h0 + (nI U).toInt64) (fun i => (M 67 i).toInt64) U) M := by
  refine k9_metL (own := RX2) (by decide +kernel) rfl rfl (Nat.le_of_ble_eq_true rfl) ?_
  intro p e s m args below meth c A Q X HR
  have loop : ∀ i, i ≤ U → k9_U p l e rm_X2_mixedInto s m args below meth c Q A G 6 0 0 M 13 [(0, .ref (k9_ga G 66)), (3, .long (m9_mix (31 * h0 + (nI U).toInt64) (fun i => (M 67 i).toInt64) i)), (5, .int (nI i))] [] := by
    refine m9_down U (fun i hi next => ?_)
    have ee : (nI i).toNatClampNeg = i := m9_cl (by omega)
    have hle6 : (60 : Int32) ≤ nI i ↔ 60 ≤ i := m9_le (a := 60) (by decide) (by omega)
    refine bk_X2_mixedInto_13 (rv1 := m9_mix (31 * h0 + (nI U).toInt64) (fun i => (M 67 i).toInt64) (i + 1)) X (fun c1 => ?_) (fun c1 c2 => ?_) (fun c1 c2 => ?_) (fun c1 c2 => ?_) (fun c1 c2 => ?_)
    · rw [hM] at c1
      have hi2 := m9_ex (N := U) (by omega) hi c1
      subst hi2
      exact HR 52 [] dX2_mixedInto_52
    · rw [hM] at c1
      have := m9_go (N := U) (by omega) hi c1
      have := hle6.mp c2
      omega
    · rw [hM] at c1
      have := m9_go (N := U) (by omega) hi c1
      exact m9_in (by omega) (by decide)
    · rw [ee]; exact ct_X6_mixed l G M _ _
    · rw [hM] at c1
      rw [nI_1]; exact next (m9_go (N := U) (by omega) hi c1)
  refine bk_X2_mixedInto_0 (rv1 := 31 * h0 + (nI U).toInt64) X ?_ (loop 0 (by omega))
  rw [hM]; exact ct_X6_mixed l G M _ _
