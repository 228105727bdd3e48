/-! The reference: the tune's places, one number of the hash. -/
def m9_hsh (M : k9_Mem) : Int64 := k9_lg (fun j => M 76 (18 + j))
theorem ct_X7_mix (l : Launch) (G : k9_G) (M : k9_Mem) (v : Int64) : k9_Cv l yX7_mix wsX7_mix rm_X7_mix G M [.ref (k9_ga G 76), .long v] (k9_sH M (31 * m9_hsh M + v)) := by
  refine k9_metV (own := RX7) (by decide +kernel) rfl rfl (Nat.le_of_ble_eq_true rfl) ?_
  intro p e s m args below meth c A Q X HR
  exact bk_X7_mix_0 X (HR 14 [] dX7_mix_14)
theorem ct_X7_tuneAt (l : Launch) (G : k9_G) (M : k9_Mem) {q K : Nat} (hK : K < 1920) (h1 : m9_bg (fun j => M 77 (386 + j)) K = true) (h2 : fb_ct (m9_bg (fun j => M 77 (386 + j))) K = q) : k9_Ci l yX7_tuneAt wsX7_tuneAt rm_X7_tuneAt G M [.ref (k9_ga G 76), .int (nI q)] (nI K) M := by
  refine k9_metI (own := RX7) (by decide +kernel) rfl rfl (Nat.le_of_ble_eq_true rfl) rfl ?_
  intro p e s m args below meth c A Q X HR
  obtain ⟨b, hb⟩ : ∃ b : Nat → Bool, b = m9_bg (fun j => M 77 (386 + j)) := ⟨_, rfl⟩
  rw [← hb] at h1 h2
  have hq : q ≤ K := by rw [← h2]; exact fb_ct_le b K
  have loop : ∀ k, k ≤ K → k9_U p l e rm_X7_tuneAt s m args below meth c Q A G 4 0 0 M 4 [(0, .ref (k9_ga G 76)), (2, .int (nI (q - fb_ct b k))), (3, .int (nI k))] [] := by
    refine m9_down K (fun k hk next => ?_)
    have hct : fb_ct b k ≤ q := by rw [← h2]; exact fb_ct_mono b hk
    have e1 : nI k / (20 : Int32) = nI (k / 20) := pk_div (d := 20) (by omega) (by decide) (by decide)
    have e2 : nI k - nI k / (20 : Int32) * (20 : Int32) = nI (k % 20) := pk_rem (d := 20) (by omega) (by decide) (by decide)
    have e3 : (386 : Int32) + nI (k / 20) = nI (386 + k / 20) := nI_add 386 (k / 20)
    have e4 : (nI (386 + k / 20)).toNatClampNeg = 386 + k / 20 := m9_cl (by omega)
    have hin : vp_in ((386 : Int32) + nI k / (20 : Int32)) 578 := by rw [e1, e3]; exact m9_in (by omega) (by decide)
    have hbt : b k = true ↔ (M 77 (386 + k / 20) >>> (nI (k % 20) &&& 31)) &&& 1 = 1 := by rw [hb]; exact decide_eq_true_iff
    have hpos : 0 < nI (q - fb_ct b k) ↔ fb_ct b k < q := by
      have := m9_lt (a := 0) (b := q - fb_ct b k) (by decide) (by omega)
      constructor
      · intro z; have := this.mp z; omega
      · intro z; exact this.mpr (by omega)
    have nx : k < K → k9_U p l e rm_X7_tuneAt s m args below meth c Q A G 4 0 0 M 4 [(0, .ref (k9_ga G 76)), (2, .int (nI (q - fb_ct b k) - ((M 77 (386 + k / 20) >>> (nI (k % 20) &&& 31)) &&& 1))), (3, .int (nI k + 1))] [] := fun h => by
      have h9 := next h
      have hc1 : fb_ct b (k + 1) ≤ q := by rw [← h2]; exact fb_ct_mono b h
      rw [fb_ct_succ] at h9 hc1
      by_cases z : b k = true
      · rw [if_pos z] at h9 hc1
        rw [hbt.mp z, m9_sub1 (by omega), nI_1, show q - fb_ct b k - 1 = q - (fb_ct b k + 1) by omega]
        exact h9
      · rw [if_neg z, Nat.add_zero] at h9
        have z0 : (M 77 (386 + k / 20) >>> (nI (k % 20) &&& 31)) &&& 1 = 0 := (m9_and1 _).resolve_right (fun y => z (hbt.mpr y))
        rw [z0, show (0 : Int32) = nI 0 from rfl, pk_sub (by omega), nI_1]
        exact h9
    have kK : b k = true → ¬ fb_ct b k < q → k = K := fun z1 z2 => by
      rcases Nat.lt_or_ge k K with y | y
      · have := fb_ct_mono b (show k + 1 ≤ K from y)
        rw [fb_ct_succ, if_pos z1, h2] at this
        omega
      · omega
    refine bk_X7_tuneAt_4 X (fun c1 => hin) (fun c1 => ?_) (fun c1 => hin) (fun c1 c2 => ?_) (fun c1 c2 => ?_)
    · rw [e2, e1, e3, e4]
      refine nx ?_
      have h3 := hpos.mp c1
      rcases Nat.lt_or_ge k K with y | y
      · exact y
      · have : k = K := by omega
        rw [this, h2] at h3
        omega
    · rw [e2, e1, e3, e4] at c2
      have : k = K := kK (hbt.mpr ((m9_one_iff _).mpr c2)) (fun z => c1 (hpos.mpr z))
      rw [this]
      exact HR 61 [] dX7_tuneAt_61
    · rw [e2, e1, e3, e4] at c2
      rw [e2, e1, e3, e4]
      refine nx ?_
      rcases Nat.lt_or_ge k K with y | y
      · exact y
      · have : k = K := by omega
        rw [this] at c2 hbt
        rw [hbt.mp h1] at c2
        exact absurd c2 (by decide)
  have h9 := loop 0 (by omega)
  exact bk_X7_tuneAt_0 X h9
theorem ct_X7_isMissing (l : Launch) (G : k9_G) (M : k9_Mem) {n i : Nat} (hi : i < 96) (h1 : m9_one (M 81 i) n → m9_ef (M 82) n i < 96) (ho : m9_tlo (M 77) n i) : k9_Ci l yX7_isMissing wsX7_isMissing rm_X7_isMissing G M [.ref (k9_ga G 76), .int (nI n), .int (nI i)] (m9_bi (¬ (m9_one (M 81 i) n ∧ nI (m9_ef (M 82) n i) = m9_tl (M 77) n i))) M := by
  refine k9_metI (own := RX7) (by decide +kernel) rfl rfl (Nat.le_of_ble_eq_true rfl) m9_nb ?_
  intro p e s m args below meth c A Q X HR
  have ee : (nI i).toNatClampNeg = i := m9_cl (by omega)
  refine bk_X7_isMissing_0 (rv1 := nI (m9_ef (M 82) n i)) (rv2 := m9_tl (M 77) n i) X (m9_in hi (by decide)) (fun c1 => ?_) (fun c1 => ?_) (fun c1 => ct_X7_tuneLast l G M hi ho) (fun c1 c2 => ?_) (fun c1 c2 => ?_)
  · rw [ee] at c1
    have c3 : ¬ (m9_one (M 81 i) n ∧ nI (m9_ef (M 82) n i) = m9_tl (M 77) n i) := fun z => c1 z.1
    exact k9_eq rfl (by rw [m9_bi_t c3]) (HR 47 [] dX7_isMissing_47)
  · rw [ee] at c1
    exact ct_X7_endFrom l G M (h1 c1)
  · rw [ee] at c1
    exact k9_eq rfl (by rw [m9_bi_f (fun z => z ⟨c1, c2⟩)]) (HR 47 [] dX7_isMissing_47)
  · have c3 : ¬ (m9_one (M 81 i) n ∧ nI (m9_ef (M 82) n i) = m9_tl (M 77) n i) := fun z => c2 z.2
    exact k9_eq rfl (by rw [m9_bi_t c3]) (HR 47 [] dX7_isMissing_47)
