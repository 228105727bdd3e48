/-! Chains (the rest) and Hearing. -/
theorem m9_apart {q o : Nat} (hq : k9_isC q) (ho : k9_isC o) (h : q ≠ o) : o + 1 ≠ q + 1 ∧ o + 1 ≠ q + 2 ∧ o + 2 ≠ q + 1 ∧ o + 2 ≠ q + 2 := by
  have key : ∀ q ∈ ([6, 14, 22, 30, 38, 46, 54, 59, 73] : List Nat), ∀ o ∈ ([6, 14, 22, 30, 38, 46, 54, 59, 73] : List Nat), q ≠ o → o + 1 ≠ q + 1 ∧ o + 1 ≠ q + 2 ∧ o + 2 ≠ q + 1 ∧ o + 2 ≠ q + 2 := by decide
  exact key q hq o ho h
def m9_nbt (f : Nat → Int32) : Nat → Int32 := fun j => f j &&& 2097150
def m9_cn (M : k9_Mem) (q o i : Nat) : k9_Mem := k9_sc (k9_sc M (q + 1) (m9_fl (m9_nbt (M (o + 1))) (M (q + 1)) i)) (q + 2) (m9_fl (m9_nbt (M (o + 2))) (M (q + 2)) i)
theorem m9_cn_0 (M : k9_Mem) (q o : Nat) : m9_cn M q o 0 = M := by
  unfold m9_cn
  rw [m9_fl_0, m9_fl_0, m9_sc_same rfl, m9_sc_same rfl]
theorem m9_cn_s (M : k9_Mem) (q o i : Nat) : k9_st (k9_st (m9_cn M q o i) (q + 1) i (m9_nbt (M (o + 1)) i)) (q + 2) i (m9_nbt (M (o + 2)) i) = m9_cn M q o (i + 1) := by
  unfold m9_cn
  rw [m9_two M (by omega), m9_fl_succ, m9_fl_succ]
theorem ct_X0_copyNotes (l : Launch) (G : k9_G) (M : k9_Mem) {q o : Nat} (hq : k9_isC q) (ho : k9_isC o) (hqo : q ≠ o) : k9_Cv l yX0_copyNotes wsX0_copyNotes rm_X0_copyNotes G M [.ref (k9_ga G q), .ref (k9_ga G o)] (m9_cn M q o 96) := by
  obtain ⟨a1, a2, a3, a4⟩ := m9_apart hq ho hqo
  refine k9_metV (own := RX0) (by decide +kernel) rfl rfl (Nat.le_of_ble_eq_true rfl) ?_
  intro p e s m args below meth c A Q X HR
  have loop : ∀ i, i ≤ 96 → k9_U p l e rm_X0_copyNotes s m args below meth c Q A G 3 0 0 (m9_cn M q o i) 2 [(0, .ref (k9_ga G q)), (1, .ref (k9_ga G o)), (2, .int (nI i))] [] := by
    refine m9_down 96 (fun i hi next => ?_)
    have e : (nI i).toNatClampNeg = i := m9_cl (by omega)
    have e1 : m9_cn M q o i (o + 1) = M (o + 1) := m9_two_ne M a1 a2 _ _
    have e2 : m9_cn M q o i (o + 2) = M (o + 2) := m9_two_ne M a3 a4 _ _
    refine bk_X0_copyNotes_2 X hq ho (fun c => ?_) (fun c => m9_in (m9_go (N := 96) (by decide) hi c) (by decide)) (fun c => ?_)
    · have hi2 := m9_ex (N := 96) (by decide) hi c
      subst hi2
      exact HR 44 [] dX0_copyNotes_44
    · have h := next (m9_go (N := 96) (by decide) hi c)
      rw [e, m9_st_ne _ _ _ a3, e1, e2]
      rw [← m9_cn_s] at h
      rw [nI_1]; exact h
  have h := loop 0 (by decide)
  rw [m9_cn_0] at h
  exact bk_X0_copyNotes_0 X hq ho h
/-- what begins together, after i steps; and how many end together -/
def m9_tg (S E S' E' : Nat → Int32) : Nat → Int32
  | 0 => 0
  | i + 1 => (m9_tg S E S' E' i ||| ((S i &&& S' i) &&& 2097150)) &&& ((E i ||| E' i) ^^^ (-1))
def m9_sn (S E S' E' : Nat → Int32) : Nat → Int32
  | 0 => 0
  | i + 1 => m9_sn S E S' E' i + m9_bc (((m9_tg S E S' E' i ||| ((S i &&& S' i) &&& 2097150)) &&& E i) &&& E' i)
def m9_same (M : k9_Mem) (q o : Nat) : Int32 := m9_sn (M (q + 1)) (M (q + 2)) (M (o + 1)) (M (o + 2)) 96
theorem ct_X0_sameNotes (l : Launch) (G : k9_G) (M : k9_Mem) {q o : Nat} (hq : k9_isC q) (ho : k9_isC o) : k9_Ci l yX0_sameNotes wsX0_sameNotes rm_X0_sameNotes G M [.ref (k9_ga G q), .ref (k9_ga G o)] (m9_same M q o) M := by
  refine k9_metI (own := RX0) (by decide +kernel) rfl rfl (Nat.le_of_ble_eq_true rfl) rfl ?_
  intro p e s m args below meth c A Q X HR
  have loop : ∀ i, i ≤ 96 → k9_U p l e rm_X0_sameNotes s m args below meth c Q A G 5 0 0 M 7 [(0, .ref (k9_ga G q)), (1, .ref (k9_ga G o)), (2, .int (m9_sn (M (q + 1)) (M (q + 2)) (M (o + 1)) (M (o + 2)) i)), (3, .int (m9_tg (M (q + 1)) (M (q + 2)) (M (o + 1)) (M (o + 2)) i)), (4, .int (nI i))] [] := by
    refine m9_down 96 (fun i hi next => ?_)
    have e : (nI i).toNatClampNeg = i := m9_cl (by omega)
    refine bk_X0_sameNotes_7 (rv1 := m9_bc (((m9_tg (M (q + 1)) (M (q + 2)) (M (o + 1)) (M (o + 2)) i ||| ((M (q + 1) i &&& M (o + 1) i) &&& 2097150)) &&& M (q + 2) i) &&& M (o + 2) i)) X hq ho (fun c => ?_) (fun c => m9_in (m9_go (N := 96) (by decide) hi c) (by decide)) (fun c => ?_) (fun c => ?_)
    · have hi2 := m9_ex (N := 96) (by decide) hi c
      subst hi2
      exact HR 85 [] dX0_sameNotes_85
    · rw [e]; exact ct_bitCount l G M _
    · rw [e, nI_1]; exact next (m9_go (N := 96) (by decide) hi c)
  exact bk_X0_sameNotes_0 X hq ho (loop 0 (by decide))
/-- how many notes begin before a step -/
def m9_cnt (f : Nat → Int32) (i : Nat) : Int32 := m9_sum (fun j => m9_bc (f j &&& 2097150)) i
def m9_fs (f : Nat → Int32) (x : Int32) : Nat → Int32
  | 0 => -1
  | n + 1 => if m9_cnt f (96 - n) ≤ x then m9_fs f x n else nI (95 - n)
def m9_fst (f : Nat → Int32) (x : Int32) : Int32 := if x < 0 then -1 else m9_fs f x 96
theorem ct_X0_firstStepOf (l : Launch) (G : k9_G) (M : k9_Mem) {q : Nat} (hq : k9_isC q) (x : Int32) : k9_Ci l yX0_firstStepOf wsX0_firstStepOf rm_X0_firstStepOf G M [.ref (k9_ga G q), .int x] (m9_fst (M (q + 1)) x) M := by
  refine k9_metI (own := RX0) (by decide +kernel) rfl rfl (Nat.le_of_ble_eq_true rfl) rfl ?_
  intro p e s m args below meth c A Q X HR
  have loop : ∀ i, i ≤ 96 → (¬ x < 0 → m9_fs (M (q + 1)) x 96 = m9_fs (M (q + 1)) x (96 - i)) → k9_U p l e rm_X0_firstStepOf s m args below meth c Q A G 4 0 0 M 4 [(0, .ref (k9_ga G q)), (1, .int x), (2, .int (m9_cnt (M (q + 1)) i)), (3, .int (nI i))] [] := by
    refine m9_down 96 (fun i hi next h => ?_)
    have e : (nI i).toNatClampNeg = i := m9_cl (by omega)
    have st : i < 96 → m9_fs (M (q + 1)) x (96 - i) = if m9_cnt (M (q + 1)) i + m9_bc (M (q + 1) i &&& 2097150) ≤ x then m9_fs (M (q + 1)) x (96 - (i + 1)) else nI i := fun h9 => by
      obtain ⟨n, hn⟩ : ∃ n, 96 - i = n + 1 := ⟨95 - i, by omega⟩
      rw [hn, show 96 - (i + 1) = n by omega]
      show (if m9_cnt (M (q + 1)) (96 - n) ≤ x then m9_fs (M (q + 1)) x n else nI (95 - n)) = _
      rw [show 95 - n = i by omega, show 96 - n = i + 1 by omega]
      rfl
    refine bk_X0_firstStepOf_4 (rv1 := m9_bc (M (q + 1) i &&& 2097150)) X hq (fun c1 => ?_) (fun c1 c2 => ?_) (fun c1 c2 => ?_) (fun c1 c2 => ?_) (fun c1 c2 c3 => ?_) (fun c1 c2 c3 => ?_)
    · have hi2 := m9_ex (N := 96) (by decide) hi c1
      subst hi2
      refine k9_eq rfl ?_ (HR 43 [] dX0_firstStepOf_43)
      unfold m9_fst
      by_cases hx : x < 0
      · rw [if_pos hx]
      · rw [if_neg hx, h hx]; rfl
    · exact k9_eq rfl (by unfold m9_fst; rw [if_pos c2]) (HR 43 [] dX0_firstStepOf_43)
    · exact m9_in (m9_go (N := 96) (by decide) hi c1) (by decide)
    · rw [e]; exact ct_bitCount l G M _
    · have h9 := m9_go (N := 96) (by decide) hi c1
      rw [nI_1]; exact next h9 (fun hx => by rw [h hx, st h9, if_pos c3])
    · have h9 := m9_go (N := 96) (by decide) hi c1
      exact k9_eq rfl (by unfold m9_fst; rw [if_neg c2, h c2, st h9, if_neg c3]) (HR 35 [] dX0_firstStepOf_35)
  exact bk_X0_firstStepOf_0 X hq (loop 0 (by decide) (fun _ => rfl))
/-- the voice of a place: b is the place of the first note that begins at the step -/
def m9_vo (M : k9_Mem) (q : Nat) (x s : Int32) : Int32 → Nat → Int32
  | _, 0 => -1
  | b, n + 1 => if m9_begins M q (nI (20 - n)) s then (if b = x then nI (20 - n) else m9_vo M q x s (b + 1) n) else m9_vo M q x s b n
def m9_voc (M : k9_Mem) (q : Nat) (x : Int32) : Int32 := m9_vo M q x (m9_fst (M (q + 1)) x) (m9_cnt (M (q + 1)) (m9_fst (M (q + 1)) x).toNatClampNeg) 20
theorem m9_fs_rng (f : Nat → Int32) (x : Int32) : ∀ n, n ≤ 96 → m9_fs f x n = -1 ∨ ∃ i, i < 96 ∧ m9_fs f x n = nI i
  | 0, _ => Or.inl rfl
  | n + 1, h => by
    show (if m9_cnt f (96 - n) ≤ x then m9_fs f x n else nI (95 - n)) = -1 ∨ _
    by_cases c : m9_cnt f (96 - n) ≤ x
    · rw [if_pos c]
      rcases m9_fs_rng f x n (by omega) with h2 | ⟨i, h1, h2⟩
      · exact Or.inl h2
      · refine Or.inr ⟨i, h1, ?_⟩
        show (if m9_cnt f (96 - n) ≤ x then m9_fs f x n else nI (95 - n)) = _
        rw [if_pos c, h2]
    · rw [if_neg c]
      refine Or.inr ⟨95 - n, by omega, ?_⟩
      show (if m9_cnt f (96 - n) ≤ x then m9_fs f x n else nI (95 - n)) = _
      rw [if_neg c]
theorem m9_fst_rng (f : Nat → Int32) (x : Int32) : m9_fst f x = -1 ∨ ∃ i, i < 96 ∧ m9_fst f x = nI i := by
  unfold m9_fst
  by_cases c : x < 0
  · rw [if_pos c]; exact Or.inl rfl
  · rw [if_neg c]; exact m9_fs_rng f x 96 (by decide)
theorem ct_X0_voiceOf (l : Launch) (G : k9_G) (M : k9_Mem) {q : Nat} (hq : k9_isC q) (x : Int32) : k9_Ci l yX0_voiceOf wsX0_voiceOf rm_X0_voiceOf G M [.ref (k9_ga G q), .int x] (m9_voc M q x) M := by
  refine k9_metI (own := RX0) (by decide +kernel) rfl rfl (Nat.le_of_ble_eq_true rfl) rfl ?_
  intro p e s m args below meth c A Q X HR
  obtain ⟨f, hf⟩ : ∃ f, f = m9_fst (M (q + 1)) x := ⟨_, rfl⟩
  have hvo : m9_voc M q x = m9_vo M q x f (m9_cnt (M (q + 1)) f.toNatClampNeg) 20 := by rw [hf]; rfl
  have second : ∀ n b, n ≤ 20 → m9_voc M q x = m9_vo M q x f b n → k9_U p l e rm_X0_voiceOf s m args below meth c Q A G 5 0 0 M 42 [(0, .ref (k9_ga G q)), (1, .int x), (2, .int b), (3, .int f), (4, .int (nI (21 - n)))] [] := by
    intro n
    induction n with
    | zero =>
      intro b _ h
      refine bk_X0_voiceOf_42 (rv1 := m9_bi (m9_begins M q (nI 21) f)) X hq (fun c1 => ?_) (fun c1 => absurd (by decide) c1) (fun c1 => absurd (by decide) c1) (fun c1 => absurd (by decide) c1) (fun c1 => absurd (by decide) c1)
      exact k9_eq rfl (by rw [h]; rfl) (HR 77 [] dX0_voiceOf_77)
    | succ n ih =>
      intro b hn h
      have hv : 21 - (n + 1) = 20 - n := by omega
      have hv2 : nI (20 - n) + 1 = nI (21 - n) := by rw [nI_1, show 20 - n + 1 = 21 - n by omega]
      have st : m9_vo M q x f b (n + 1) = if m9_begins M q (nI (20 - n)) f then (if b = x then nI (20 - n) else m9_vo M q x f (b + 1) n) else m9_vo M q x f b n := rfl
      rw [hv]
      have hlt : ¬ (21 : Int32) ≤ nI (20 - n) := fun c => by
        have := (m9_le (a := 21) (by decide) (by omega)).mp c
        omega
      refine bk_X0_voiceOf_42 (rv1 := m9_bi (m9_begins M q (nI (20 - n)) f)) X hq (fun c1 => absurd c1 hlt) (fun c1 => ct_X0_beginsAt l G M hq _ _) (fun c1 c2 => ?_) (fun c1 c2 c3 => ?_) (fun c1 c2 c3 => ?_)
      · rw [hv2]
        exact ih b (by omega) (by rw [h, st, if_neg (m9_bi_0 c2)])
      · rw [hv2]
        exact ih (b + 1) (by omega) (by rw [h, st, if_pos (m9_bi_1 c2), if_neg c3])
      · exact k9_eq rfl (by rw [h, st, if_pos (m9_bi_1 c2), if_pos c3]) (HR 66 [] dX0_voiceOf_66)
  have goal2 : ∀ b, m9_voc M q x = m9_vo M q x f b 20 → k9_U p l e rm_X0_voiceOf s m args below meth c Q A G 5 0 0 M 42 [(0, .ref (k9_ga G q)), (1, .int x), (2, .int b), (3, .int f), (4, .int 1)] [] := fun b h => second 20 b (by decide) h
  refine bk_X0_voiceOf_0 (rv1 := f) X hq (by rw [hf]; exact ct_X0_firstStepOf l G M hq x) ?_
  rcases m9_fst_rng (M (q + 1)) x with h | ⟨k, hk, h⟩
  · rw [← hf] at h
    refine bk_X0_voiceOf_11 (rv1 := 0) X hq (fun c1 => ?_) (fun c1 => ?_) (fun c1 => ?_) (fun c1 => ?_)
    · exact goal2 0 (by rw [hvo, h]; rfl)
    · exact absurd (by rw [h]; decide) c1
    · exact absurd (by rw [h]; decide) c1
    · exact absurd (by rw [h]; decide) c1
  · rw [← hf] at h
    have first : ∀ i, i ≤ k → k9_U p l e rm_X0_voiceOf s m args below meth c Q A G 5 0 0 M 11 [(0, .ref (k9_ga G q)), (1, .int x), (2, .int (m9_cnt (M (q + 1)) i)), (3, .int f), (4, .int (nI i))] [] := by
      refine m9_down k (fun i hi next => ?_)
      have e : (nI i).toNatClampNeg = i := m9_cl (by omega)
      refine bk_X0_voiceOf_11 (rv1 := m9_bc (M (q + 1) i &&& 2097150)) X hq (fun c1 => ?_) (fun c1 => ?_) (fun c1 => ?_) (fun c1 => ?_)
      · rw [h] at c1
        have hi2 := m9_ex (N := k) (by omega) hi c1
        subst hi2
        exact goal2 _ (by rw [hvo, h, e])
      · rw [h] at c1
        have := m9_go (N := k) (by omega) hi c1
        exact m9_in (by omega) (by decide)
      · rw [e]; exact ct_bitCount l G M _
      · rw [h] at c1
        rw [nI_1]; exact next (m9_go (N := k) (by omega) hi c1)
    exact first 0 (by omega)
/-! Hearing -/
def m9_la (S E : Nat → Int32) : Nat → Int32
  | 0 => 0
  | i + 1 => (m9_la S E i ||| S i) &&& (E i ^^^ (-1))
def m9_pl (S E : Nat → Int32) (i : Nat) : Int32 := m9_la S E i ||| S i
theorem ct_X1_fillPlaying (l : Launch) (G : k9_G) (M : k9_Mem) : k9_Cv l yX1_fillPlaying wsX1_fillPlaying rm_X1_fillPlaying G M [.ref (k9_ga G 57)] (k9_sc M 62 (m9_fl (m9_pl (M 60) (M 61)) (M 62) 96)) := by
  refine k9_metV (own := RX1) (by decide +kernel) rfl rfl (Nat.le_of_ble_eq_true rfl) ?_
  intro p e s m args below meth c A Q X HR
  have loop : ∀ i, i ≤ 96 → k9_U p l e rm_X1_fillPlaying s m args below meth c Q A G 3 0 0 (k9_sc M 62 (m9_fl (m9_pl (M 60) (M 61)) (M 62) i)) 4 [(0, .ref (k9_ga G 57)), (1, .int (m9_la (M 60) (M 61) i)), (2, .int (nI i))] [] := by
    refine m9_down 96 (fun i hi next => ?_)
    have e : (nI i).toNatClampNeg = i := m9_cl (by omega)
    refine bk_X1_fillPlaying_4 X (fun c => ?_) (fun c => m9_in (m9_go (N := 96) (by decide) hi c) (by decide)) (fun c => ?_)
    · have hi2 := m9_ex (N := 96) (by decide) hi c
      subst hi2
      exact HR 49 [] dX1_fillPlaying_49
    · have h := next (m9_go (N := 96) (by decide) hi c)
      rw [e, m9_st_sc]
      rw [← m9_fl_succ] at h
      rw [nI_1]; exact h
  have h := loop 0 (by decide)
  rw [m9_fl_0, m9_sc_same rfl] at h
  exact bk_X1_fillPlaying_0 X h
def m9_he (P E : Nat → Int32) : Nat → Int32
  | 0 => 0
  | i + 1 => if (P i &&& (E i ^^^ (-1))) &&& 1 = 0 then 0 else m9_he P E i ||| E i
def m9_so (P E : Nat → Int32) (i : Nat) : Int32 := P i ||| m9_he P E i
theorem ct_X1_fillSounding (l : Launch) (G : k9_G) (M : k9_Mem) : k9_Cv l yX1_fillSounding wsX1_fillSounding rm_X1_fillSounding G M [.ref (k9_ga G 57)] (k9_sc M 63 (m9_fl (m9_so (M 62) (M 61)) (M 63) 96)) := by
  refine k9_metV (own := RX1) (by decide +kernel) rfl rfl (Nat.le_of_ble_eq_true rfl) ?_
  intro p e s m args below meth c A Q X HR
  have loop : ∀ i, i ≤ 96 → k9_U p l e rm_X1_fillSounding s m args below meth c Q A G 4 0 0 (k9_sc M 63 (m9_fl (m9_so (M 62) (M 61)) (M 63) i)) 4 [(0, .ref (k9_ga G 57)), (1, .int (m9_he (M 62) (M 61) i)), (2, .int (nI i))] [] := by
    refine m9_down 96 (fun i hi next => ?_)
    have e : (nI i).toNatClampNeg = i := m9_cl (by omega)
    have st : m9_he (M 62) (M 61) (i + 1) = if (M 62 i &&& (M 61 i ^^^ (-1))) &&& 1 = 0 then 0 else m9_he (M 62) (M 61) i ||| M 61 i := rfl
    refine bk_X1_fillSounding_4 X (fun c => ?_) (fun c => m9_in (m9_go (N := 96) (by decide) hi c) (by decide)) (fun c c2 => ?_) (fun c c2 => ?_)
    · have hi2 := m9_ex (N := 96) (by decide) hi c
      subst hi2
      exact HR 71 [] dX1_fillSounding_71
    · have h := next (m9_go (N := 96) (by decide) hi c)
      rw [e] at c2
      have c2 : (M 62 i &&& (M 61 i ^^^ (-1))) &&& 1 = 0 := c2
      rw [e, m9_st_sc]
      rw [← m9_fl_succ, st, if_pos c2] at h
      rw [nI_1]; exact h
    · have h := next (m9_go (N := 96) (by decide) hi c)
      rw [e] at c2
      have c2 : ¬ (M 62 i &&& (M 61 i ^^^ (-1))) &&& 1 = 0 := c2
      rw [e, m9_st_sc]
      rw [← m9_fl_succ, st, if_neg c2] at h
      rw [nI_1]; exact h
  have h := loop 0 (by decide)
  rw [m9_fl_0, m9_sc_same rfl] at h
  exact bk_X1_fillSounding_0 X h
def m9_ls (M : k9_Mem) (v : Int32) (x : Int32) : Nat → Int32
  | 0 => x
  | i + 1 => if nI i = m9_ls M v x i + 1 ∧ m9_at (M 63 i) v ∧ ¬ m9_begins M 59 v (nI i) then nI i else m9_ls M v x i
theorem ct_X1_lastSoundAfter (l : Launch) (G : k9_G) (M : k9_Mem) (v x : Int32) : k9_Ci l yX1_lastSoundAfter wsX1_lastSoundAfter rm_X1_lastSoundAfter G M [.ref (k9_ga G 57), .int v, .int x] (m9_ls M v x 96) M := by
  refine k9_metI (own := RX1) (by decide +kernel) rfl rfl (Nat.le_of_ble_eq_true rfl) rfl ?_
  intro p e s m args below meth c A Q X HR
  have loop : ∀ i, i ≤ 96 → k9_U p l e rm_X1_lastSoundAfter s m args below meth c Q A G 6 0 0 M 5 [(0, .ref (k9_ga G 57)), (1, .int v), (3, .int (m9_ls M v x i)), (4, .int (nI i))] [] := by
    refine m9_down 96 (fun i hi next => ?_)
    have ee : (nI i).toNatClampNeg = i := m9_cl (by omega)
    have st : m9_ls M v x (i + 1) = if nI i = m9_ls M v x i + 1 ∧ m9_at (M 63 i) v ∧ ¬ m9_begins M 59 v (nI i) then nI i else m9_ls M v x i := rfl
    have keep : i < 96 → ¬ (nI i = m9_ls M v x i + 1 ∧ m9_at (M 63 i) v ∧ ¬ m9_begins M 59 v (nI i)) → k9_U p l e rm_X1_lastSoundAfter s m args below meth c Q A G 6 0 0 M 5 [(0, .ref (k9_ga G 57)), (1, .int v), (3, .int (m9_ls M v x i)), (4, .int (nI i + 1))] [] := fun h9 hn => by
      have h := next h9
      rw [st, if_neg hn] at h
      rw [nI_1]; exact h
    refine bk_X1_lastSoundAfter_5 (rv1 := m9_bi (m9_begins M 59 v (nI i))) X (fun c => ?_) (fun c => m9_in (m9_go (N := 96) (by decide) hi c) (by decide)) (fun c c2 c3 => ?_) (fun c c2 c3 => ?_) (fun c c2 => ct_X0_beginsAt l G M (by decide) _ _) (fun c c2 c3 c4 => ?_) (fun c c2 c3 c4 => ?_) (fun c c2 c3 c4 => ?_) (fun c c2 c3 c4 => ?_)
    · have hi2 := m9_ex (N := 96) (by decide) hi c
      subst hi2
      exact HR 69 [] dX1_lastSoundAfter_69
    · exact keep (m9_go (N := 96) (by decide) hi c) (fun z => c3 z.1)
    · rw [ee] at c2; exact keep (m9_go (N := 96) (by decide) hi c) (fun z => z.2.1 c2)
    · exact keep (m9_go (N := 96) (by decide) hi c) (fun z => c4 z.1)
    · exact keep (m9_go (N := 96) (by decide) hi c) (fun z => z.2.2 (m9_bi_1 c3))
    · exact keep (m9_go (N := 96) (by decide) hi c) (fun z => c4 z.1)
    · rw [ee] at c2
      have h := next (m9_go (N := 96) (by decide) hi c)
      rw [st, if_pos ⟨c4, c2, m9_bi_0 c3⟩] at h
      rw [nI_1]; exact h
  exact bk_X1_lastSoundAfter_0 X (loop 0 (by decide))
def m9_hr (f : Nat → Int32) (v a b : Int32) : Int32 := m9_sum (fun i => if nI i < a then 0 else if b < nI i then 0 else (f i >>> (v &&& 31)) &&& 1) 96
theorem m9_add0 (x : Int32) : x + 0 = x := by
  apply Int32.toBitVec_inj.mp
  show x.toBitVec + 0#32 = x.toBitVec
  simp
theorem ct_X1_holesRead (l : Launch) (G : k9_G) (M : k9_Mem) (v a b : Int32) : k9_Ci l yX1_holesRead wsX1_holesRead rm_X1_holesRead G M [.ref (k9_ga G 57), .int v, .int a, .int b] (m9_hr (M 58) v a b) M := by
  refine k9_metI (own := RX1) (by decide +kernel) rfl rfl (Nat.le_of_ble_eq_true rfl) rfl ?_
  intro p e s m args below meth c A Q X HR
  have loop : ∀ i, i ≤ 96 → k9_U p l e rm_X1_holesRead s m args below meth c Q A G 6 0 0 M 6 [(0, .ref (k9_ga G 57)), (1, .int v), (2, .int a), (3, .int b), (4, .int (m9_sum (fun i => if nI i < a then 0 else if b < nI i then 0 else (M 58 i >>> (v &&& 31)) &&& 1) i)), (5, .int (nI i))] [] := by
    refine m9_down 96 (fun i hi next => ?_)
    have e : (nI i).toNatClampNeg = i := m9_cl (by omega)
    refine bk_X1_holesRead_6 X (fun c => ?_) (fun c c2 => ?_) (fun c c2 c3 => ?_) (fun c c2 c3 => m9_in (m9_go (N := 96) (by decide) hi c) (by decide)) (fun c c2 c3 => ?_)
    · have hi2 := m9_ex (N := 96) (by decide) hi c
      subst hi2
      exact HR 49 [] dX1_holesRead_49
    · have h := next (m9_go (N := 96) (by decide) hi c)
      rw [m9_sum_s, if_pos c2, m9_add0] at h
      rw [nI_1]; exact h
    · have h := next (m9_go (N := 96) (by decide) hi c)
      rw [m9_sum_s, if_neg c2, if_pos c3, m9_add0] at h
      rw [nI_1]; exact h
    · have h := next (m9_go (N := 96) (by decide) hi c)
      rw [m9_sum_s, if_neg c2, if_neg c3] at h
      rw [e]
      rw [nI_1]; exact h
  exact bk_X1_holesRead_0 X (loop 0 (by decide))
theorem m9_shr0 (v : Int32) : ((0 : Int32) >>> (v &&& 31)) &&& 1 = 0 := by
  have : (0 : Int32) >>> (v &&& 31) = 0 := by
    apply Int32.toBitVec_inj.mp
    simp
  rw [this]; rfl
def m9_hv (M : k9_Mem) (s v : Nat) : Int32 := if m9_begins M 59 (nI v) (nI s) then (if m9_has M 6 (nI v) (nI s) (m9_from (M 61) (nI v) (nI s) 96) then 0 else m9_hr (M 58) (nI v) (nI s) (m9_from (M 61) (nI v) (nI s) 96)) else 0
def m9_hs (M : k9_Mem) (s : Nat) : Nat → Int32 := m9_sum (fun j => m9_hv M s (j + 1))
theorem m9_hs_0 {M : k9_Mem} {s : Nat} (hs : s < 96) (h : M 60 s = 0) : ∀ n, m9_hs M s n = 0
  | 0 => rfl
  | n + 1 => by
    have e : (nI s).toNatClampNeg = s := m9_cl (by omega)
    show m9_hs M s n + m9_hv M s (n + 1) = 0
    rw [m9_hs_0 hs h n]
    unfold m9_hv
    rw [if_neg (fun z => z.2 (by rw [e]; show (M 60 s >>> _) &&& 1 = 0; rw [h]; exact m9_shr0 _))]
    rfl
def m9_hw (M : k9_Mem) : Int32 := m9_sum (fun s => m9_hs M s 20) 96
theorem ct_X1_holesOfWrong (l : Launch) (G : k9_G) (M : k9_Mem) : k9_Ci l yX1_holesOfWrong wsX1_holesOfWrong rm_X1_holesOfWrong G M [.ref (k9_ga G 57), .ref (k9_ga G 6)] (m9_hw M) M := by
  refine k9_metI (own := RX1) (by decide +kernel) rfl rfl (Nat.le_of_ble_eq_true rfl) rfl ?_
  intro p e s m args below meth c A Q X HR
  have inner : ∀ i, i < 96 → k9_U p l e rm_X1_holesOfWrong s m args below meth c Q A G 6 0 0 M 4 [(0, .ref (k9_ga G 57)), (1, .ref (k9_ga G 6)), (2, .int (m9_sum (fun s => m9_hs M s 20) i + m9_hs M i 20)), (3, .int (nI (i + 1)))] [] →
      ∀ j, j ≤ 20 → k9_U p l e rm_X1_holesOfWrong s m args below meth c Q A G 6 0 0 M 13 [(0, .ref (k9_ga G 57)), (1, .ref (k9_ga G 6)), (2, .int (m9_sum (fun s => m9_hs M s 20) i + m9_hs M i j)), (3, .int (nI i)), (4, .int (nI (j + 1)))] [] := by
    intro i hi out
    have e : (nI i).toNatClampNeg = i := m9_cl (by omega)
    refine m9_down 20 (fun j hj next => ?_)
    have hle : (21 : Int32) ≤ nI (j + 1) ↔ 21 ≤ j + 1 := m9_le (a := 21) (by decide) (by omega)
    have hgo : ¬ (21 : Int32) ≤ nI (j + 1) → j < 20 := fun c => by
      rcases Nat.lt_or_ge j 20 with q | q
      · exact q
      · exact absurd (hle.mpr (by omega)) c
    have st : m9_hs M i (j + 1) = m9_hs M i j + m9_hv M i (j + 1) := rfl
    refine bk_X1_holesOfWrong_13 (rv1 := m9_bi (m9_begins M 59 (nI (j + 1)) (nI i))) (rv2 := m9_from (M 61) (nI (j + 1)) (nI i) 96) (rv3 := m9_bi (m9_has M 6 (nI (j + 1)) (nI i) (m9_from (M 61) (nI (j + 1)) (nI i) 96))) (rv4 := m9_hr (M 58) (nI (j + 1)) (nI i) (m9_from (M 61) (nI (j + 1)) (nI i) 96)) X
      (fun c => ?_) (fun c => m9_in hi (by decide)) (fun c c2 => ?_) (fun c c2 => ct_X0_beginsAt l G M (by decide) _ _) (fun c c2 c3 => ?_) (fun c c2 c3 => ct_X0_lastStepFrom l G M (by decide) _ _) (fun c c2 c3 => ct_X0_hasChain l G M (by decide) _ _ _) (fun c c2 c3 c4 => ct_X1_holesRead l G M _ _ _) (fun c c2 c3 c4 => ?_) (fun c c2 c3 c4 => ?_)
    · have hj2 : j = 20 := by have := hle.mp c; omega
      subst hj2
      rw [nI_1]; exact out
    · rw [e] at c2
      rw [m9_hs_0 hi c2] at out ⊢
      rw [nI_1]; exact out
    · have h := next (hgo c)
      rw [st, show m9_hv M i (j + 1) = 0 from if_neg (m9_bi_0 c3), m9_add0] at h
      rw [nI_1]; exact h
    · have h := next (hgo c)
      have hv : m9_hv M i (j + 1) = m9_hr (M 58) (nI (j + 1)) (nI i) (m9_from (M 61) (nI (j + 1)) (nI i) 96) := by
        unfold m9_hv
        rw [if_pos (m9_bi_1 c3), if_neg (m9_bi_0 c4)]
      rw [st, hv, ← Int32.add_assoc] at h
      rw [nI_1]; exact h
    · have h := next (hgo c)
      have hv : m9_hv M i (j + 1) = 0 := by
        unfold m9_hv
        rw [if_pos (m9_bi_1 c3), if_pos (m9_bi_1 c4)]
      rw [st, hv, ← Int32.add_assoc] at h
      rw [nI_1]; exact h
  have loop : ∀ i, i ≤ 96 → k9_U p l e rm_X1_holesOfWrong s m args below meth c Q A G 6 0 0 M 4 [(0, .ref (k9_ga G 57)), (1, .ref (k9_ga G 6)), (2, .int (m9_sum (fun s => m9_hs M s 20) i)), (3, .int (nI i))] [] := by
    refine m9_down 96 (fun i hi next => ?_)
    refine bk_X1_holesOfWrong_4 X (fun c => ?_) (fun c => ?_)
    · have hi2 := m9_ex (N := 96) (by decide) hi c
      subst hi2
      exact HR 98 [] dX1_holesOfWrong_98
    · have h9 := m9_go (N := 96) (by decide) hi c
      have h := inner i h9 (next h9) 0 (by decide)
      rw [show m9_hs M i 0 = 0 from rfl, m9_add0] at h
      exact h
  exact bk_X1_holesOfWrong_0 X (loop 0 (by decide))
abbrev m9_wi (M : k9_Mem) (a : Int32) (R : Nat) : Prop := m9_isS a ∧ M 62 a.toNatClampNeg &&& 2097150 = 0 ∧ ¬ m9_orb (M 62) a.toNatClampNeg R &&& 2097150 = 0 ∧ ¬ m9_ora (M 60) a.toNatClampNeg R &&& 2097150 = 0
theorem ct_X1_isPedalWished (l : Launch) (G : k9_G) (M : k9_Mem) (a : Int32) {R : Nat} (hR : R < 1000) : k9_Ci l yX1_isPedalWished wsX1_isPedalWished rm_X1_isPedalWished G M [.ref (k9_ga G 57), .int a, .int (nI R)] (m9_bi (m9_wi M a R)) M := by
  refine k9_metI (own := RX1) (by decide +kernel) rfl rfl (Nat.le_of_ble_eq_true rfl) m9_nb ?_
  intro p e s m args below meth c A Q X HR
  refine bk_X1_isPedalWished_0 X (ct_X6_isStep l G M a) (fun c1 => ?_) (fun c1 => m9_isS_in (m9_bi_1 c1)) (fun c1 c2 => ?_) (fun c1 c2 => ?_)
  · exact k9_eq rfl (by rw [m9_bi_f (fun z => m9_bi_0 c1 z.1)]) (HR 20 [] dX1_isPedalWished_20)
  · obtain ⟨i, hi, rfl⟩ := m9_isS_of (m9_bi_1 c1)
    have ee : (nI i).toNatClampNeg = i := m9_cl (by omega)
    rw [ee] at c2
    have loop : ∀ j, j ≤ R → k9_U p l e rm_X1_isPedalWished s m args below meth c Q A G 6 0 0 M 29 [(0, .ref (k9_ga G 57)), (1, .int (nI i)), (2, .int (nI R)), (3, .int (m9_orb (M 62) i j)), (4, .int (m9_ora (M 60) i j)), (5, .int (nI (j + 1)))] [] := by
      refine m9_down R (fun j hj next => ?_)
      have hex : nI R < nI (j + 1) → j = R := fun c => by
        have := (m9_lt (by omega) (by omega)).mp c
        omega
      have hgo : ¬ nI R < nI (j + 1) → j < R := fun c => by
        rcases Nat.lt_or_ge j R with q | q
        · exact q
        · exact absurd ((m9_lt (by omega) (by omega)).mpr (by omega)) c
      have so : m9_orb (M 62) i (j + 1) = m9_orb (M 62) i j ||| (if j + 1 ≤ i then M 62 (i - (j + 1)) else 0) := rfl
      have sa : m9_ora (M 60) i (j + 1) = m9_ora (M 60) i j ||| (if i + (j + 1) < 96 then M 60 (i + (j + 1)) else 0) := rfl
      have hlt : nI i < nI (j + 1) ↔ i < j + 1 := m9_lt (by omega) (by omega)
      have hge : (96 : Int32) ≤ nI i + nI (j + 1) ↔ 96 ≤ i + (j + 1) := by rw [nI_add]; exact m9_le (a := 96) (by decide) (by omega)
      have eadd : (nI i + nI (j + 1)).toNatClampNeg = i + (j + 1) := by rw [nI_add]; exact m9_cl (by omega)
      refine bk_X1_isPedalWished_29 X (fun c3 c4 => ?_) (fun c3 c4 c5 => ?_) (fun c3 c4 c5 => ?_) (fun c3 c4 c5 => ?_) (fun c3 c4 c5 => ?_) (fun c3 c4 c5 => ?_) (fun c3 c4 => ?_) (fun c3 c4 c5 => ?_) (fun c3 c4 c5 => ?_) (fun c3 c4 c5 => ?_)
      · have hj2 := hex c3
        subst hj2
        exact k9_eq rfl (by rw [m9_bi_f (fun z => by rw [m9_wi, ee] at z; exact z.2.2.1 c4)]) (HR 113 [] dX1_isPedalWished_113)
      · have hj2 := hex c3
        subst hj2
        exact k9_eq rfl (by rw [m9_bi_f (fun z => by rw [m9_wi, ee] at z; exact z.2.2.2 c5)]) (HR 113 [] dX1_isPedalWished_113)
      · have hj2 := hex c3
        subst hj2
        exact k9_eq rfl (by rw [m9_bi_t (by rw [m9_wi, ee]; exact ⟨m9_bi_1 c1, c2, c4, c5⟩)]) (HR 113 [] dX1_isPedalWished_113)
      · have h := next (hgo c3)
        rw [so, sa, if_neg (fun z => absurd (hlt.mp c4) (by omega)), if_neg (fun z => absurd (hge.mp c5) (by omega))] at h
        rw [nI_1]; exact h
      · rw [nI_add]
        have : ¬ 96 ≤ i + (j + 1) := fun z => c5 (hge.mpr z)
        exact m9_in (by omega) (by decide)
      · have h := next (hgo c3)
        have : ¬ 96 ≤ i + (j + 1) := fun z => c5 (hge.mpr z)
        rw [so, sa, if_neg (fun z => absurd (hlt.mp c4) (by omega)), if_pos (by omega)] at h
        rw [eadd]
        rw [nI_1]; exact h
      · have h3 : ¬ i < j + 1 := fun z => c4 (hlt.mpr z)
        rw [pk_sub (by omega)]
        exact m9_in (by omega) (by decide)
      · have h := next (hgo c3)
        have h3 : ¬ i < j + 1 := fun z => c4 (hlt.mpr z)
        rw [so, sa, if_pos (by omega), if_neg (fun z => absurd (hge.mp c5) (by omega))] at h
        rw [pk_sub (by omega), m9_cl (by omega)]
        rw [nI_1]; exact h
      · rw [nI_add]
        have : ¬ 96 ≤ i + (j + 1) := fun z => c5 (hge.mpr z)
        exact m9_in (by omega) (by decide)
      · have h := next (hgo c3)
        have h3 : ¬ i < j + 1 := fun z => c4 (hlt.mpr z)
        have : ¬ 96 ≤ i + (j + 1) := fun z => c5 (hge.mpr z)
        rw [so, sa, if_pos (by omega), if_pos (by omega)] at h
        rw [eadd, pk_sub (by omega), m9_cl (by omega)]
        rw [nI_1]; exact h
    exact loop 0 (by omega)
  · exact k9_eq rfl (by rw [m9_bi_f (fun z => c2 z.2.1)]) (HR 20 [] dX1_isPedalWished_20)
def m9_ws (M : k9_Mem) (R : Nat) : Int32 := m9_sum (fun i => m9_bi (m9_wi M (nI i) R)) 96
theorem ct_X1_stepsWished (l : Launch) (G : k9_G) (M : k9_Mem) {R : Nat} (hR : R < 1000) : k9_Ci l yX1_stepsWished wsX1_stepsWished rm_X1_stepsWished G M [.ref (k9_ga G 57), .int (nI R)] (m9_ws M R) M := by
  refine k9_metI (own := RX1) (by decide +kernel) rfl rfl (Nat.le_of_ble_eq_true rfl) rfl ?_
  intro p e s m args below meth c A Q X HR
  have loop : ∀ i, i ≤ 96 → k9_U p l e rm_X1_stepsWished s m args below meth c Q A G 4 0 0 M 4 [(0, .ref (k9_ga G 57)), (1, .int (nI R)), (2, .int (m9_sum (fun i => m9_bi (m9_wi M (nI i) R)) i)), (3, .int (nI i))] [] := by
    refine m9_down 96 (fun i hi next => ?_)
    refine bk_X1_stepsWished_4 (rv1 := m9_bi (m9_wi M (nI i) R)) X (fun c => ?_) (fun c => ct_X1_isPedalWished l G M _ hR) (fun c c2 => ?_) (fun c c2 => ?_)
    · have hi2 := m9_ex (N := 96) (by decide) hi c
      subst hi2
      exact HR 34 [] dX1_stepsWished_34
    · have h := next (m9_go (N := 96) (by decide) hi c)
      rw [m9_sum_s, m9_bi_f (m9_bi_0 c2)] at h
      rw [nI_1]; exact h
    · have h := next (m9_go (N := 96) (by decide) hi c)
      rw [m9_sum_s, m9_bi_t (m9_bi_1 c2)] at h
      rw [nI_1]; exact h
  exact bk_X1_stepsWished_0 X (loop 0 (by decide))
