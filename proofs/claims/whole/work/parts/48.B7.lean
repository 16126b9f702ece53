def s_sum (g l : Nat → Int32) (x : Int32) : Nat → Int32 → Int32 := fun i a => if g i = x then a + l i else a
theorem x_sum12 {Q : Int32 → FT → GT → Prop} {F : FT} {G : GT} {x1 : Int32} {e : Nat} (h5 : F 5 = nI e) (he : e ≤ 80) : ∀ m i a, i + m = e → Q (fo (s_sum (G 12) (G 15) x1) m i a) F G → wp_X4_sumLeft_v12_5 Q (m + 1) x1 a (nI i) F G
  | 0, i, a, hi, hQ => by
    simp only [wp_X4_sumLeft_v12_5, h5, le_ya (show e ≤ i by omega) (by omega), not_true_eq_false, not_false_eq_true, false_implies, true_implies, and_true, true_and, true_or, or_true, ne_eq]
    exact hQ
  | m + 1, i, a, hi, hQ => by
    rw [wp_X4_sumLeft_v12_5]
    simp only [h5, le_no (show i < e by omega) (by omega), show ¬ 80 ≤ nI i from le_no (b := 80) (by omega) (by omega), vp_in_nI (show i < 80 by omega) (by omega), nI_clamp (show i < 2 ^ 31 by omega), wp_X4_sumLeft_v12_41, forall_eq, nI_1, not_true_eq_false, not_false_eq_true, false_implies, true_implies, and_true, true_and, true_or, or_true, ne_eq]
    refine ⟨fun c => ?_, fun c => ?_⟩
    · exact x_sum12 h5 he m (i + 1) _ (by omega) (by simpa only [fo, s_sum, c, if_false, Int32.add_zero] using hQ)
    · exact x_sum12 h5 he m (i + 1) _ (by omega) (by simpa only [fo, s_sum, c, if_true] using hQ)
theorem m_sum12 {Q : Int32 → FT → GT → Int64 → Prop} {F : FT} {G : GT} {w : Int64} {x1 : Int32} {e : Nat} (h5 : F 5 = nI e) (he : e ≤ 80) : ∀ m i a, i + m = e → wp_X8_purse_43 Q 1 x1 1 (fo (s_sum (G 12) (G 15) x1) m i a) (nI e) F G w → wp_X8_purse_43 Q (m + 1) x1 1 a (nI i) F G w
  | 0, i, a, hi, hQ => by
    rw [show i = e by omega]; exact hQ
  | m + 1, i, a, hi, hQ => by
    rw [wp_X8_purse_43]
    simp +decide only [h5, le_no (show i < e by omega) (by omega), vp_in_nI (show i < 80 by omega) (show 80 < 2 ^ 31 by omega), nI_clamp (show i < 2 ^ 31 by omega), wp_X8_purse_79, forall_eq, nI_1, not_true_eq_false, not_false_eq_true, false_implies, true_implies, and_true, true_and, true_or, or_true, ne_eq]
    refine ⟨fun c => ?_, fun c => ?_⟩
    · exact m_sum12 h5 he m (i + 1) _ (by omega) (by simpa only [fo, s_sum, c, if_false] using hQ)
    · exact m_sum12 h5 he m (i + 1) _ (by omega) (by simpa only [fo, s_sum, c, if_true] using hQ)
theorem x_sum13 {Q : Int32 → FT → GT → Prop} {F : FT} {G : GT} {x1 : Int32} {e : Nat} (h5 : F 5 = nI e) (he : e ≤ 80) : ∀ m i a, i + m = e → Q (fo (s_sum (G 13) (G 15) x1) m i a) F G → wp_X4_sumLeft_v13_5 Q (m + 1) x1 a (nI i) F G
  | 0, i, a, hi, hQ => by
    simp only [wp_X4_sumLeft_v13_5, h5, le_ya (show e ≤ i by omega) (by omega), not_true_eq_false, not_false_eq_true, false_implies, true_implies, and_true, true_and, true_or, or_true, ne_eq]
    exact hQ
  | m + 1, i, a, hi, hQ => by
    rw [wp_X4_sumLeft_v13_5]
    simp only [h5, le_no (show i < e by omega) (by omega), show ¬ 80 ≤ nI i from le_no (b := 80) (by omega) (by omega), vp_in_nI (show i < 80 by omega) (by omega), nI_clamp (show i < 2 ^ 31 by omega), wp_X4_sumLeft_v13_41, forall_eq, nI_1, not_true_eq_false, not_false_eq_true, false_implies, true_implies, and_true, true_and, true_or, or_true, ne_eq]
    refine ⟨fun c => ?_, fun c => ?_⟩
    · exact x_sum13 h5 he m (i + 1) _ (by omega) (by simpa only [fo, s_sum, c, if_false, Int32.add_zero] using hQ)
    · exact x_sum13 h5 he m (i + 1) _ (by omega) (by simpa only [fo, s_sum, c, if_true] using hQ)
theorem m_sum13 {Q : Int32 → FT → GT → Int64 → Prop} {F : FT} {G : GT} {w : Int64} {x1 : Int32} {e : Nat} (h5 : F 5 = nI e) (he : e ≤ 80) : ∀ m i a, i + m = e → wp_X8_purse_43 Q 1 x1 2 (fo (s_sum (G 13) (G 15) x1) m i a) (nI e) F G w → wp_X8_purse_43 Q (m + 1) x1 2 a (nI i) F G w
  | 0, i, a, hi, hQ => by
    rw [show i = e by omega]; exact hQ
  | m + 1, i, a, hi, hQ => by
    rw [wp_X8_purse_43]
    simp +decide only [h5, le_no (show i < e by omega) (by omega), vp_in_nI (show i < 80 by omega) (show 80 < 2 ^ 31 by omega), nI_clamp (show i < 2 ^ 31 by omega), wp_X8_purse_79, forall_eq, nI_1, not_true_eq_false, not_false_eq_true, false_implies, true_implies, and_true, true_and, true_or, or_true, ne_eq]
    refine ⟨fun c => ?_, fun c => ?_⟩
    · exact m_sum13 h5 he m (i + 1) _ (by omega) (by simpa only [fo, s_sum, c, if_false] using hQ)
    · exact m_sum13 h5 he m (i + 1) _ (by omega) (by simpa only [fo, s_sum, c, if_true] using hQ)
theorem x_oft16 {Q : Int32 → FT → GT → Prop} {F : FT} {G : GT} {x1 : Int32} {e : Nat} (h6 : F 6 = nI e) (he : e ≤ 40) : ∀ m i a, i + m = e → Q (fo (s_eq (G 16) x1) m i a) F G → wp_X1_howOften_v16_5 Q (m + 1) x1 a (nI i) F G
  | 0, i, a, hi, hQ => by
    simp only [wp_X1_howOften_v16_5, h6, le_ya (show e ≤ i by omega) (by omega), not_true_eq_false, not_false_eq_true, false_implies, true_implies, and_true, true_and, true_or, or_true, ne_eq]
    exact hQ
  | m + 1, i, a, hi, hQ => by
    rw [wp_X1_howOften_v16_5]
    simp only [h6, le_no (show i < e by omega) (by omega), show ¬ 40 ≤ nI i from le_no (b := 40) (by omega) (by omega), vp_in_nI (show i < 40 by omega) (by omega), nI_clamp (show i < 2 ^ 31 by omega), wp_X1_howOften_v16_35, forall_eq, nI_1, not_true_eq_false, not_false_eq_true, false_implies, true_implies, and_true, true_and, true_or, or_true, ne_eq]
    refine ⟨fun c => ?_, fun c => ?_⟩
    · exact x_oft16 h6 he m (i + 1) _ (by omega) (by simpa only [fo, s_eq, c, if_false, Int32.add_zero] using hQ)
    · exact x_oft16 h6 he m (i + 1) _ (by omega) (by simpa only [fo, s_eq, c, if_true] using hQ)
theorem m_oft16 {Q : Int32 → FT → GT → Int64 → Prop} {F : FT} {G : GT} {w : Int64} {x1 : Int32} {e : Nat} (h6 : F 6 = nI e) (he : e ≤ 40) : ∀ m i a, i + m = e → Q (fo (s_eq (G 16) x1) m i a) F G w → wp_X8_purse_102 Q (m + 1) x1 3 a (nI i) F G w
  | 0, i, a, hi, hQ => by
    simp only [wp_X8_purse_102, h6, le_ya (show e ≤ i by omega) (by omega), not_true_eq_false, not_false_eq_true, false_implies, true_implies, and_true, true_and, true_or, or_true, ne_eq]
    exact hQ
  | m + 1, i, a, hi, hQ => by
    rw [wp_X8_purse_102]
    simp +decide only [h6, le_no (show i < e by omega) (by omega), vp_in_nI (show i < 40 by omega) (show 40 < 2 ^ 31 by omega), nI_clamp (show i < 2 ^ 31 by omega), wp_X8_purse_138, forall_eq, nI_1, not_true_eq_false, not_false_eq_true, false_implies, true_implies, and_true, true_and, true_or, or_true, ne_eq]
    refine ⟨fun c => ?_, fun c => ?_⟩
    · exact m_oft16 h6 he m (i + 1) _ (by omega) (by simpa only [fo, s_eq, c, if_false] using hQ)
    · exact m_oft16 h6 he m (i + 1) _ (by omega) (by simpa only [fo, s_eq, c, if_true] using hQ)
theorem x_oft17 {Q : Int32 → FT → GT → Prop} {F : FT} {G : GT} {x1 : Int32} {e : Nat} (h6 : F 6 = nI e) (he : e ≤ 40) : ∀ m i a, i + m = e → Q (fo (s_eq (G 17) x1) m i a) F G → wp_X1_howOften_v17_5 Q (m + 1) x1 a (nI i) F G
  | 0, i, a, hi, hQ => by
    simp only [wp_X1_howOften_v17_5, h6, le_ya (show e ≤ i by omega) (by omega), not_true_eq_false, not_false_eq_true, false_implies, true_implies, and_true, true_and, true_or, or_true, ne_eq]
    exact hQ
  | m + 1, i, a, hi, hQ => by
    rw [wp_X1_howOften_v17_5]
    simp only [h6, le_no (show i < e by omega) (by omega), show ¬ 40 ≤ nI i from le_no (b := 40) (by omega) (by omega), vp_in_nI (show i < 40 by omega) (by omega), nI_clamp (show i < 2 ^ 31 by omega), wp_X1_howOften_v17_35, forall_eq, nI_1, not_true_eq_false, not_false_eq_true, false_implies, true_implies, and_true, true_and, true_or, or_true, ne_eq]
    refine ⟨fun c => ?_, fun c => ?_⟩
    · exact x_oft17 h6 he m (i + 1) _ (by omega) (by simpa only [fo, s_eq, c, if_false, Int32.add_zero] using hQ)
    · exact x_oft17 h6 he m (i + 1) _ (by omega) (by simpa only [fo, s_eq, c, if_true] using hQ)
theorem m_oft17 {Q : Int32 → FT → GT → Int64 → Prop} {F : FT} {G : GT} {w : Int64} {x1 : Int32} {e : Nat} (h6 : F 6 = nI e) (he : e ≤ 40) : ∀ m i a, i + m = e → Q (fo (s_eq (G 17) x1) m i a) F G w → wp_X8_purse_102 Q (m + 1) x1 4 a (nI i) F G w
  | 0, i, a, hi, hQ => by
    simp only [wp_X8_purse_102, h6, le_ya (show e ≤ i by omega) (by omega), not_true_eq_false, not_false_eq_true, false_implies, true_implies, and_true, true_and, true_or, or_true, ne_eq]
    exact hQ
  | m + 1, i, a, hi, hQ => by
    rw [wp_X8_purse_102]
    simp +decide only [h6, le_no (show i < e by omega) (by omega), vp_in_nI (show i < 40 by omega) (show 40 < 2 ^ 31 by omega), nI_clamp (show i < 2 ^ 31 by omega), wp_X8_purse_138, forall_eq, nI_1, not_true_eq_false, not_false_eq_true, false_implies, true_implies, and_true, true_and, true_or, or_true, ne_eq]
    refine ⟨fun c => ?_, fun c => ?_⟩
    · exact m_oft17 h6 he m (i + 1) _ (by omega) (by simpa only [fo, s_eq, c, if_false] using hQ)
    · exact m_oft17 h6 he m (i + 1) _ (by omega) (by simpa only [fo, s_eq, c, if_true] using hQ)
theorem m_pz {Q : Int32 → FT → GT → Int64 → Prop} {F : FT} {G : GT} {w : Int64} {x1 x2 a : Int32} (h2 : x2 ≤ 2) (hQ : Q a F G w) : ∃ n, wp_X8_purse_102 Q n x1 x2 a 0 F G w := ⟨1, fun _ => hQ, fun _ => ⟨fun _ => hQ, fun q => absurd h2 q⟩⟩
theorem stp_purse : Stp_purse Inv := by
  intro FX GX FM GM w hI x1 x2 f
  obtain ⟨he, hm, hb⟩ := id hI
  obtain ⟨e0, e1, e2, e3, e4, e5, e6, e7, e8⟩ := he.F
  obtain ⟨g10, g11, g12, g13, g14, g15, g16, g17, g19, g20, g21, g22, g23, g24, g25, g26, g27, g28, g29, g30, g31⟩ := he.G
  obtain ⟨n6, hn6, h6⟩ := hb.2.2.1
  obtain ⟨p, lf, u, c, n5, o, n3, h11, h15, h30, h4, h5, h17, h3, hsp, hc, hpq, hq, hlf, hu, hdu, hd, hrest⟩ := hm
  have h6' : sU FM 20 0 6 = nI n6 := by rw [sU_ne _ _ (by decide), e6, h6]
  have h5' : sU FM 20 0 5 = nI n5 := by rw [sU_ne _ _ (by decide), e5, h5]
  simp only [wp_X7_purse, wp_X7_purse_0, wp_X4_hasPerson, wp_X4_hasPerson_0, wp_X8_purse, wp_X8_purse_0, wp_X8_isPerson, wp_X8_isPerson_0, wp_X8_purse_17, wp_X8_refuse, wp_X8_refuse_0, forall_eq, e3, g11, h3]
  rcases pk_ix x1 (n := n3) (by omega) with a | a | ⟨j, hj, rfl⟩
  · simp +decide only [a, not_true_eq_false, not_false_eq_true, false_implies, true_implies, and_true, true_and, true_or, or_true, ne_eq, pt_1 hI]
  · simp +decide only [a, gt_lt a (by omega), not_true_eq_false, not_false_eq_true, false_implies, true_implies, and_true, true_and, true_or, or_true, ne_eq, pt_1 hI]
  · simp +decide only [in_n hj hq (by omega), nI_pos (show j < 2 ^ 31 by omega), le_no hj (by omega), nI_clamp (show j < 2 ^ 31 by omega), not_true_eq_false, not_false_eq_true, false_implies, true_implies, and_true, true_and, true_or, or_true, ne_eq]
    rcases pk_ix x2 (n := 5) (by omega) with b | b | ⟨k, hk, rfl⟩
    · have q : ∀ z : Nat, z < 5 → ¬ x2 = nI z := fun z hz => ng_eq b z (by omega)
      simp only [b, show ¬ x2 = 0 from q 0 (by omega), show ¬ x2 = 1 from q 1 (by omega), show ¬ x2 = 2 from q 2 (by omega), show ¬ x2 = 3 from q 3 (by omega), show ¬ x2 = 4 from q 4 (by omega), not_true_eq_false, not_false_eq_true, false_implies, true_implies, and_true, true_and, true_or, or_true, ne_eq, pt_1 hI]
    · have q : ∀ z : Nat, z < 5 → ¬ x2 = nI z := fun z hz => gt_eq b z hz (by omega)
      simp only [gt_lt b (by omega), show ¬ x2 ≤ 4 from gt_le b 4 (by omega) (by omega), show ¬ x2 = 0 from q 0 (by omega), show ¬ x2 = 1 from q 1 (by omega), show ¬ x2 = 2 from q 2 (by omega), show ¬ x2 = 3 from q 3 (by omega), show ¬ x2 = 4 from q 4 (by omega), not_true_eq_false, not_false_eq_true, false_implies, true_implies, and_true, true_and, true_or, or_true, ne_eq, pt_1 hI]
    · rcases (by omega : k = 0 ∨ k = 1 ∨ k = 2 ∨ k = 3 ∨ k = 4) with rfl | rfl | rfl | rfl | rfl
      all_goals simp +decide only [not_true_eq_false, not_false_eq_true, false_implies, true_implies, and_true, true_and, true_or, or_true, ne_eq]
      · exact pt_0 hI
      · refine ⟨n5 + 1, x_sum12 h5 hd n5 0 0 (by omega) ⟨n5 + 1, m_sum12 h5' hd n5 0 0 (by omega) ?_⟩⟩
        simp only [wp_X8_purse_43, h5', Int32.le_refl, not_true_eq_false, not_false_eq_true, false_implies, true_implies, and_true, true_and, true_or, or_true, ne_eq]
        refine m_pz (by decide) ?_
        rw [g12, g15]; exact pt_0 hI
      · refine ⟨n5 + 1, x_sum13 h5 hd n5 0 0 (by omega) ⟨n5 + 1, m_sum13 h5' hd n5 0 0 (by omega) ?_⟩⟩
        simp only [wp_X8_purse_43, h5', Int32.le_refl, not_true_eq_false, not_false_eq_true, false_implies, true_implies, and_true, true_and, true_or, or_true, ne_eq]
        refine m_pz (by decide) ?_
        rw [g13, g15]; exact pt_0 hI
      · refine ⟨n6 + 1, x_oft16 h6 hn6 n6 0 0 (by omega) ?_⟩
        have hz : ∃ n, wp_X8_purse_102 (PT Inv FX GX 0 (vp_updL f 0 (fo (s_eq (GX 16) (nI j)) n6 0 0).toInt64)) n (nI j) 3 0 0 (sU FM 20 0) GM w := ⟨n6 + 1, m_oft16 h6' hn6 n6 0 0 (by omega) (by rw [g16]; exact pt_0 hI)⟩
        exact ⟨1, fun _ => hz, fun _ => ⟨fun _ => hz, fun q => absurd (by decide) q⟩⟩
      · refine ⟨n6 + 1, x_oft17 h6 hn6 n6 0 0 (by omega) ?_⟩
        have hz : ∃ n, wp_X8_purse_102 (PT Inv FX GX 0 (vp_updL f 0 (fo (s_eq (GX 17) (nI j)) n6 0 0).toInt64)) n (nI j) 4 0 0 (sU FM 20 0) GM w := ⟨n6 + 1, m_oft17 h6' hn6 n6 0 0 (by omega) (by rw [g17]; exact pt_0 hI)⟩
        exact ⟨1, fun _ => hz, fun _ => ⟨fun _ => hz, fun q => absurd (by decide) q⟩⟩
