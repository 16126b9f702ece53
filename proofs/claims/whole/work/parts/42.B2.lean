theorem stp_debt : Stp_debt Inv := by
  intro FX GX FM GM w hI x1 x2 f
  obtain ⟨he, hm, hb⟩ := id hI
  obtain ⟨e0, e1, e2, e3, e4, e5, e6, e7, e8⟩ := he.F
  obtain ⟨g10, g11, g12, g13, g14, g15, g16, g17, g19, g20, g21, g22, g23, g24, g25, g26, g27, g28, g29, g30, g31⟩ := he.G
  obtain ⟨p, lf, u, c, n5, o, q, h11, h15, h30, h4, h5, h17, h3, hsp, hc, hpq, hq, hlf, hu, hdu, hd, hod, hlo, hld⟩ := hm
  simp only [wp_X7_debt, wp_X7_debt_0, wp_X8_debt, wp_X8_debt_0, wp_X8_debt_21, wp_X8_refuse, wp_X8_refuse_0, forall_eq, e0, e1, e2, e3, e4, e5, e6, e7, e8, g10, g11, g12, g13, g14, g15, g16, g17, g19, g20, g21, g22, g23, g24, g25, g26, g27, g28, g29, g30, g31, h5]
  rcases pk_ix x1 (n := n5) (by omega) with a | a | ⟨j, hj, rfl⟩
  · simp only [a, not_true_eq_false, not_false_eq_true, false_implies, true_implies, and_true, true_and, true_or, or_true, ne_eq, pt_1 hI]
  · simp only [a, gt_ltn a, gt_lt a (by omega), not_true_eq_false, not_false_eq_true, false_implies, true_implies, and_true, true_and, true_or, or_true, ne_eq, pt_1 hI]
  · have i1 : vp_in (nI j) 80 := vp_in_nI (by omega) (by omega)
    have i2 : ¬ nI j < 0 := nI_pos (by omega)
    have i3 : nI j < nI n5 := nI_lt hj (by omega)
    have i4 : ¬ nI n5 ≤ nI j := fun q => absurd ((nI_leI (by omega) (by omega)).1 q) (by omega)
    simp only [i1, i2, i3, i4, not_true_eq_false, not_false_eq_true, false_implies, true_implies, and_true, true_and, true_or, or_true, ne_eq]
    rcases pk_ix x2 (n := 4) (by omega) with b | b | ⟨k, hk, rfl⟩
    · have q : ∀ z : Nat, z < 4 → ¬ x2 = nI z := fun z hz => ng_eq b z (by omega)
      simp only [b, show ¬ x2 = 0 from q 0 (by omega), show ¬ x2 = 1 from q 1 (by omega), show ¬ x2 = 2 from q 2 (by omega), show ¬ x2 = 3 from q 3 (by omega), not_true_eq_false, not_false_eq_true, false_implies, true_implies, and_true, true_and, true_or, or_true, ne_eq, pt_1 hI]
    · have q : ∀ z : Nat, z < 4 → ¬ x2 = nI z := fun z hz => gt_eq b z hz (by omega)
      simp only [gt_lt b (by omega), show ¬ x2 ≤ 3 from gt_le b 3 (by omega) (by omega), show ¬ x2 = 0 from q 0 (by omega), show ¬ x2 = 1 from q 1 (by omega), show ¬ x2 = 2 from q 2 (by omega), show ¬ x2 = 3 from q 3 (by omega), not_true_eq_false, not_false_eq_true, false_implies, true_implies, and_true, true_and, true_or, or_true, ne_eq, pt_1 hI]
    · rcases (by omega : k = 0 ∨ k = 1 ∨ k = 2 ∨ k = 3) with rfl | rfl | rfl | rfl
      all_goals simp +decide only [not_true_eq_false, not_false_eq_true, false_implies, true_implies, and_true, true_and, true_or, or_true, ne_eq, pt_0 hI]
theorem stp_rule : Stp_rule Inv := by
  intro FX GX FM GM w hI x1 x2 f
  obtain ⟨he, hm, hb⟩ := id hI
  obtain ⟨e0, e1, e2, e3, e4, e5, e6, e7, e8⟩ := he.F
  obtain ⟨g10, g11, g12, g13, g14, g15, g16, g17, g19, g20, g21, g22, g23, g24, g25, g26, g27, g28, g29, g30, g31⟩ := he.G
  simp only [wp_X7_rule, wp_X7_rule_0, wp_X7_isLand, wp_X7_isLand_0, wp_X2_number, wp_X2_number_0, wp_X8_rule, wp_X8_rule_0, wp_X8_rule_9, wp_X8_refuse, wp_X8_refuse_0, forall_eq, e0, e1, e2, e3, e4, e5, e6, e7, e8, g10, g11, g12, g13, g14, g15, g16, g17, g19, g20, g21, g22, g23, g24, g25, g26, g27, g28, g29, g30, g31]
  rcases pk_ix x1 (n := 3) (by omega) with a | a | ⟨j, hj, rfl⟩
  · simp +decide only [a, not_true_eq_false, not_false_eq_true, false_implies, true_implies, and_true, true_and, true_or, or_true, ne_eq, pt_1 hI]
  · simp +decide only [show (3 : Int32) ≤ x1 from a, show ¬ x1 < 3 from gt_ltn a, gt_lt a (by omega), not_true_eq_false, not_false_eq_true, false_implies, true_implies, and_true, true_and, true_or, or_true, ne_eq, pt_1 hI]
  · have i1 : vp_in (nI j) 3 := vp_in_nI (by omega) (by omega)
    have i2 : ¬ nI j < 0 := nI_pos (by omega)
    have i3 : nI j < 3 := nI_lt (b := 3) hj (by omega)
    have i4 : ¬ 3 ≤ nI j := fun q => absurd ((nI_leI (a := 3) (by omega) (by omega)).1 q) (by omega)
    simp +decide only [i1, i2, i3, i4, not_true_eq_false, not_false_eq_true, false_implies, true_implies, and_true, true_and, true_or, or_true, ne_eq]
    rcases pk_ix x2 (n := 15) (by omega) with b | b | ⟨k, hk, rfl⟩
    · have q : ∀ z : Nat, z < 15 → ¬ x2 = nI z := fun z hz => ng_eq b z (by omega)
      simp only [b, show ¬ x2 = 14 from q 14 (by omega), not_true_eq_false, not_false_eq_true, false_implies, true_implies, and_true, true_and, true_or, or_true, ne_eq, pt_0 hI]
    · simp only [gt_lt b (by omega), show ¬ x2 ≤ 14 from gt_le b 14 (by omega) (by omega), show ¬ x2 = 14 from gt_eq b 14 (by omega) (by omega), show ¬ x2 < 14 from fun e => gt_le b 14 (by omega) (by omega) (Int32.le_of_lt e), not_true_eq_false, not_false_eq_true, false_implies, true_implies, and_true, true_and, true_or, or_true, ne_eq, pt_0 hI]
    · have k2 : ¬ nI k < 0 := nI_pos (by omega)
      have k3 : nI k ≤ 14 := (nI_leI (b := 14) (by omega) (by omega)).2 (by omega)
      by_cases hk' : k = 14
      · subst hk'
        simp +decide only [not_true_eq_false, not_false_eq_true, false_implies, true_implies, and_true, true_and, true_or, or_true, ne_eq, pt_0 hI]
      · have k1 : vp_in (nI k) 14 := vp_in_nI (by omega) (by omega)
        have k4 : ¬ nI k = 14 := fun e => hk' ((nI_eq (b := 14) (by omega) (by omega)).1 e)
        have k5 : nI k < 14 := nI_lt (b := 14) (by omega) (by omega)
        have k6 : (14 : Int32) * nI j + nI k = nI (14 * j + k) := by rw [show (14 : Int32) = nI 14 from rfl, pk_mul, nI_add]
        have k7 : vp_in (nI (14 * j + k)) 56 := vp_in_nI (by omega) (by omega)
        simp only [k1, k2, k3, k4, k5, k6, k7, nI_clamp (show j < 2 ^ 31 by omega), nI_clamp (show k < 2 ^ 31 by omega), nI_clamp (show 14 * j + k < 2 ^ 31 by omega), he.2.2.2.1 j k hj (by omega), not_true_eq_false, not_false_eq_true, false_implies, true_implies, and_true, true_and, true_or, or_true, ne_eq, pt_0 hI]
theorem ix_m {h f : Nat} : (6 : Int32) * nI h + nI f = nI (6 * h + f) := by rw [show (6 : Int32) = nI 6 from rfl, pk_mul, nI_add]
theorem stp_fault : Stp_fault Inv := by
  intro FX GX FM GM w hI x1 x2 x3 f
  obtain ⟨he, hm, hb⟩ := id hI
  obtain ⟨e0, e1, e2, e3, e4, e5, e6, e7, e8⟩ := he.F
  obtain ⟨g10, g11, g12, g13, g14, g15, g16, g17, g19, g20, g21, g22, g23, g24, g25, g26, g27, g28, g29, g30, g31⟩ := he.G
  obtain ⟨n6, hn6, h6⟩ := hb.2.2.1
  simp only [wp_X7_fault, wp_X7_fault_0, wp_X1_has, wp_X1_has_0, wp_X7_isFault, wp_X7_isFault_0, wp_X8_fault, wp_X8_fault_0, wp_X8_isHorse, wp_X8_isHorse_0, wp_X8_fault_27, wp_X8_refuse, wp_X8_refuse_0, forall_eq, e0, e1, e2, e3, e4, e5, e6, e7, e8, g10, g11, g12, g13, g14, g15, g16, g17, g19, g20, g21, g22, g23, g24, g25, g26, g27, g28, g29, g30, g31, h6]
  rcases pk_ix x1 (n := n6) (by omega) with a | a | ⟨j, hj, rfl⟩
  · simp +decide only [a, not_true_eq_false, not_false_eq_true, false_implies, true_implies, and_true, true_and, true_or, or_true, ne_eq, pt_1 hI]
  · simp +decide only [a, gt_lt a (by omega), not_true_eq_false, not_false_eq_true, false_implies, true_implies, and_true, true_and, true_or, or_true, ne_eq, pt_1 hI]
  · have i1 : vp_in (nI j) 40 := vp_in_nI (by omega) (by omega)
    have i2 : ¬ nI j < 0 := nI_pos (by omega)
    have i4 : ¬ nI n6 ≤ nI j := fun q => absurd ((nI_leI (by omega) (by omega)).1 q) (by omega)
    simp +decide only [i1, i2, i4, not_true_eq_false, not_false_eq_true, false_implies, true_implies, and_true, true_and, true_or, or_true, ne_eq]
    rcases pk_ix x2 (n := 6) (by omega) with b | b | ⟨k, hk, rfl⟩
    · simp +decide only [b, not_true_eq_false, not_false_eq_true, false_implies, true_implies, and_true, true_and, true_or, or_true, ne_eq, pt_1 hI]
    · simp +decide only [show (6 : Int32) ≤ x2 from b, gt_lt b (by omega), not_true_eq_false, not_false_eq_true, false_implies, true_implies, and_true, true_and, true_or, or_true, ne_eq, pt_1 hI]
    · have k1 : vp_in (nI k) 6 := vp_in_nI (by omega) (by omega)
      have k2 : ¬ nI k < 0 := nI_pos (by omega)
      have k4 : ¬ 6 ≤ nI k := fun q => absurd ((nI_leI (a := 6) (by omega) (by omega)).1 q) (by omega)
      have k7 : vp_in (nI (6 * j + k)) 240 := vp_in_nI (by omega) (by omega)
      simp +decide only [k1, k2, k4, ix_m, k7, nI_clamp (show j < 2 ^ 31 by omega), nI_clamp (show k < 2 ^ 31 by omega), nI_clamp (show 6 * j + k < 2 ^ 31 by omega), he.2.2.2.2.1 j k (by omega) hk, he.2.2.2.2.2.1 j k (by omega) hk, not_true_eq_false, not_false_eq_true, false_implies, true_implies, and_true, true_and, true_or, or_true, ne_eq]
      rcases pk_ix x3 (n := 2) (by omega) with d | d | ⟨z, hz, rfl⟩
      · have q : ∀ z : Nat, z < 2 → ¬ x3 = nI z := fun z hz => ng_eq d z (by omega)
        simp only [d, show ¬ x3 = 0 from q 0 (by omega), show ¬ x3 = 1 from q 1 (by omega), not_true_eq_false, not_false_eq_true, false_implies, true_implies, and_true, true_and, true_or, or_true, ne_eq, pt_1 hI]
      · have q : ∀ z : Nat, z < 2 → ¬ x3 = nI z := fun z hz => gt_eq d z hz (by omega)
        simp only [gt_lt d (by omega), show ¬ x3 ≤ 1 from gt_le d 1 (by omega) (by omega), show ¬ x3 = 0 from q 0 (by omega), show ¬ x3 = 1 from q 1 (by omega), not_true_eq_false, not_false_eq_true, false_implies, true_implies, and_true, true_and, true_or, or_true, ne_eq, pt_1 hI]
      · rcases (by omega : z = 0 ∨ z = 1) with rfl | rfl
        all_goals simp +decide only [not_true_eq_false, not_false_eq_true, false_implies, true_implies, and_true, true_and, true_or, or_true, ne_eq, pt_0 hI]
