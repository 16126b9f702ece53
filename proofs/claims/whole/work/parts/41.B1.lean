theorem ng_eq {x : Int32} (h : x < 0) (k : Nat) (hk : k < 2 ^ 31) : ¬ x = nI k := fun e => absurd (e ▸ h) (nI_pos hk)
theorem gt_eq {x : Int32} {n : Nat} (h : nI n ≤ x) (k : Nat) (hk : k < n) (hn : n < 2 ^ 31) : ¬ x = nI k := fun e => absurd ((nI_leI hn (by omega)).1 (e ▸ h)) (by omega)
theorem gt_le {x : Int32} {n : Nat} (h : nI n ≤ x) (k : Nat) (hk : k < n) (hn : n < 2 ^ 31) : ¬ x ≤ nI k := fun e => absurd ((nI_leI hn (by omega)).1 (Int32.le_trans h e)) (by omega)
theorem gt_lt {x : Int32} {n : Nat} (h : nI n ≤ x) (hn : n < 2 ^ 31) : ¬ x < 0 := fun e => absurd (Int32.lt_of_le_of_lt h e) (nI_pos hn)
theorem gt_ltn {x : Int32} {n : Nat} (h : nI n ≤ x) : ¬ x < nI n := fun e => Int32.lt_irrefl (Int32.lt_of_le_of_lt h e)
theorem c8 {j : Nat} (h : j < 8) : j = 0 ∨ j = 1 ∨ j = 2 ∨ j = 3 ∨ j = 4 ∨ j = 5 ∨ j = 6 ∨ j = 7 := by omega
theorem stp_wrong : Stp_wrong Inv := by
  intro FX GX FM GM w hI
  have e1 := hI.1.F.2.1
  simp only [wp_X7_wrong, wp_X7_wrong_0, wp_X8_wrong, wp_X8_wrong_0, forall_eq, PS]
  exact ⟨by rw [sU_ne _ _ (by decide), e1], hI.t⟩
theorem stp_end : Stp_end Inv := by
  intro FX GX FM GM w hI x1
  obtain ⟨he, hm, hb⟩ := hI
  obtain ⟨e0, e1, e2, e3, e4, e5, e6, e7, e8⟩ := he.F
  obtain ⟨t, ht, h2⟩ := hb.2.1
  simp only [wp_X7_end, wp_X7_end_0, wp_X8_end, wp_X8_end_0, forall_eq, sU_ne _ _ (show (2 : Nat) ≠ 20 by decide), e2, true_or, or_true, true_and]
  refine ⟨fun h => ⟨fun _ => ?_, fun q => absurd h q⟩, fun h => ⟨fun h' => ⟨fun q => absurd q h, fun _ => ⟨fun _ => ?_, fun q => absurd h' q⟩⟩, fun h' => ⟨fun q => absurd q h, fun _ => ⟨fun q => absurd q h', fun _ => ?_⟩⟩⟩⟩
  · exact ⟨rfl, he.t, hm, hb⟩
  · obtain ⟨j, hj, rfl⟩ := nI_of h
    rw [h2] at h'
    have hjt := (nI_leI hj (by omega)).1 h'
    refine ⟨rfl, ⟨fun k hk => ?_, he.2⟩, ?_, ?_⟩
    · by_cases h : k = 2
      · subst h; rw [sU_same, sU_same]
      · rw [sU_ne _ _ h, sU_ne _ _ h, sU_ne _ _ (by omega)]; exact he.1 k hk
    · obtain ⟨p, lf, u, c, d, o, q, r⟩ := hm
      exact ⟨p, lf, u, c, d, o, q, r⟩
    · refine ⟨hb.1, ⟨j, by omega, sU_same _ _ _⟩, hb.2.2⟩
  · exact ⟨rfl, he.t, hm, hb⟩
theorem pt_0 {FX : FT} {GX : GT} {FM : FT} {GM : GT} {w : Int64} {f : Nat → Int64} {b : Int32} (h : Inv FX GX FM GM w) : PT Inv FX GX 0 (vp_updL f 0 b.toInt64) b (sU FM 20 0) GM w := ⟨sU_same _ _ _, fun _ => pk_uLs, h.t⟩
theorem pt_1 {FX : FT} {GX : GT} {FM : FT} {GM : GT} {w : Int64} {f : Nat → Int64} {b : Int32} (h : Inv FX GX FM GM w) : PT Inv FX GX 1 f b (sU FM 20 1) GM w := ⟨sU_same _ _ _, fun q => absurd q (by decide), h.t⟩
theorem stp_sale : Stp_sale Inv := by
  intro FX GX FM GM w hI x1 x2 f
  obtain ⟨he, hm, hb⟩ := id hI
  obtain ⟨e0, e1, e2, e3, e4, e5, e6, e7, e8⟩ := he.F
  obtain ⟨g10, g11, g12, g13, g14, g15, g16, g17, g19, g20, g21, g22, g23, g24, g25, g26, g27, g28, g29, g30, g31⟩ := he.G
  obtain ⟨n8, hn8, h8⟩ := hb.2.2.2.2.1
  simp only [wp_X7_sale, wp_X7_sale_0, wp_X8_sale, wp_X8_sale_0, wp_X8_sale_22, wp_X8_refuse, wp_X8_refuse_0, forall_eq, e8, g23, g24, g25, g26, g27, g28, g29, g30, h8]
  rcases pk_ix x1 (n := n8) (by omega) with a | a | ⟨j, hj, rfl⟩
  · simp only [a, not_true_eq_false, false_implies, true_implies, and_true, pt_1 hI]
  · simp only [a, gt_ltn a, gt_lt a (by omega), not_true_eq_false, not_false_eq_true, false_implies, true_implies, and_true, true_and, pt_1 hI]
  · have i1 : vp_in (nI j) 80 := vp_in_nI (by omega) (by omega)
    have i2 : ¬ nI j < 0 := nI_pos (by omega)
    have i3 : nI j < nI n8 := nI_lt hj (by omega)
    have i4 : ¬ nI n8 ≤ nI j := fun q => absurd ((nI_leI (by omega) (by omega)).1 q) (by omega)
    simp only [i1, i2, i3, i4, not_true_eq_false, not_false_eq_true, false_implies, true_implies, and_true, true_and]
    rcases pk_ix x2 (n := 8) (by omega) with b | b | ⟨k, hk, rfl⟩
    · have q : ∀ z : Nat, z < 8 → ¬ x2 = nI z := fun z hz => ng_eq b z (by omega)
      simp only [b, show ¬ x2 = 0 from q 0 (by omega), show ¬ x2 = 1 from q 1 (by omega), show ¬ x2 = 2 from q 2 (by omega), show ¬ x2 = 3 from q 3 (by omega), show ¬ x2 = 4 from q 4 (by omega), show ¬ x2 = 5 from q 5 (by omega), show ¬ x2 = 6 from q 6 (by omega), show ¬ x2 = 7 from q 7 (by omega), not_true_eq_false, not_false_eq_true, false_implies, true_implies, and_true, true_and, pt_1 hI]
    · have q : ∀ z : Nat, z < 8 → ¬ x2 = nI z := fun z hz => gt_eq b z hz (by omega)
      simp only [gt_lt b (by omega), show ¬ x2 ≤ 7 from gt_le b 7 (by omega) (by omega), show ¬ x2 = 0 from q 0 (by omega), show ¬ x2 = 1 from q 1 (by omega), show ¬ x2 = 2 from q 2 (by omega), show ¬ x2 = 3 from q 3 (by omega), show ¬ x2 = 4 from q 4 (by omega), show ¬ x2 = 5 from q 5 (by omega), show ¬ x2 = 6 from q 6 (by omega), show ¬ x2 = 7 from q 7 (by omega), not_true_eq_false, not_false_eq_true, false_implies, true_implies, and_true, true_and, pt_1 hI]
    · rcases c8 hk with rfl | rfl | rfl | rfl | rfl | rfl | rfl | rfl
      all_goals simp +decide only [not_true_eq_false, not_false_eq_true, false_implies, true_implies, and_true, true_and, pt_0 hI]
      by_cases c : GX 30 (nI j).toNatClampNeg = 0
      · simp only [c, not_true_eq_false, not_false_eq_true, false_implies, true_implies, and_true, true_and, pt_0 hI]
      · simp only [c, not_true_eq_false, not_false_eq_true, false_implies, true_implies, and_true, true_and, pt_0 hI]
