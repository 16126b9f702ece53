def lat (g k : Nat → Int32) (x : Int32) : Nat → Int32
  | 0 => -1
  | m + 1 => if g m = x ∧ k m = 0 then nI m else lat g k x m
theorem lat_c {g k : Nat → Int32} {x : Int32} : ∀ m, lat g k x m = -1 ∨ ∃ j, j < m ∧ lat g k x m = nI j ∧ g j = x ∧ k j = 0
  | 0 => .inl rfl
  | m + 1 => by
    by_cases c : g m = x ∧ k m = 0
    · right; exact ⟨m, by omega, by rw [lat, if_pos c], c.1, c.2⟩
    · rw [lat, if_neg c]
      rcases lat_c (g := g) (k := k) (x := x) m with h | ⟨j, h1, h2, h3, h4⟩
      · exact .inl h
      · exact .inr ⟨j, by omega, h2, h3, h4⟩
theorem m1s {n : Nat} : nI n + -1 = nI n - 1 := (Int32.sub_eq_add_neg _ _).symm
theorem x_lat {Q : Int32 → FT → GT → Prop} {F : FT} {G : GT} {x1 : Int32} : ∀ m, m ≤ 80 → Q (lat (G 23) (G 30) x1 m) F G → wp_X5_latestStanding_7 Q (m + 1) x1 (nI m - 1) F G
  | 0, hm, hQ => by
    simp +decide only [wp_X5_latestStanding_7, not_true_eq_false, not_false_eq_true, false_implies, true_implies, and_true, true_and, true_or, or_true, ne_eq]
    exact hQ
  | m + 1, hm, hQ => by
    rw [nI_pred, wp_X5_latestStanding_7]
    simp only [nI_pos (show m < 2 ^ 31 by omega), wp_X5_stands, wp_X5_stands_0, vp_in_nI (show m < 80 by omega) (show 80 < 2 ^ 31 by omega), nI_clamp (show m < 2 ^ 31 by omega), forall_eq, not_true_eq_false, not_false_eq_true, false_implies, true_implies, and_true, true_and, true_or, or_true, ne_eq]
    refine ⟨fun c => ?_, fun c => ⟨fun c' => ?_, fun c' => ?_⟩⟩
    · simp +decide only [not_true_eq_false, not_false_eq_true, false_implies, true_implies, and_true, true_and, true_or, or_true, ne_eq, m1s]
      exact x_lat m (by omega) (by rwa [lat, if_neg (fun q => c q.1)] at hQ)
    · simp +decide only [not_true_eq_false, not_false_eq_true, false_implies, true_implies, and_true, true_and, true_or, or_true, ne_eq, m1s]
      exact x_lat m (by omega) (by rwa [lat, if_neg (fun q => c' q.2)] at hQ)
    · simp +decide only [not_true_eq_false, not_false_eq_true, false_implies, true_implies, and_true, true_and, true_or, or_true, ne_eq]
      rwa [lat, if_pos ⟨c, c'⟩] at hQ
theorem m_lat {Q : Int32 → FT → GT → Int64 → Prop} {F : FT} {G : GT} {w : Int64} {x1 : Int32} : ∀ m, m ≤ 80 → Q (lat (G 23) (G 30) x1 m) F G w → wp_X8_latest_7 Q (m + 1) x1 (nI m - 1) F G w
  | 0, hm, hQ => by
    simp +decide only [wp_X8_latest_7, not_true_eq_false, not_false_eq_true, false_implies, true_implies, and_true, true_and, true_or, or_true, ne_eq]
    exact hQ
  | m + 1, hm, hQ => by
    rw [nI_pred, wp_X8_latest_7]
    simp only [nI_pos (show m < 2 ^ 31 by omega), vp_in_nI (show m < 80 by omega) (show 80 < 2 ^ 31 by omega), nI_clamp (show m < 2 ^ 31 by omega), forall_eq, not_true_eq_false, not_false_eq_true, false_implies, true_implies, and_true, true_and, true_or, or_true, ne_eq, m1s]
    refine ⟨fun c => ?_, fun c => ⟨fun c' => ?_, fun c' => ?_⟩⟩
    · exact m_lat m (by omega) (by rwa [lat, if_neg (fun q => c q.1)] at hQ)
    · exact m_lat m (by omega) (by rwa [lat, if_neg (fun q => c' q.2)] at hQ)
    · rwa [lat, if_pos ⟨c, c'⟩] at hQ
theorem x_latest {Q : Int32 → FT → GT → Prop} {F : FT} {G : GT} {x1 : Int32} {n : Nat} (h8 : F 8 = nI n) (hn : n ≤ 80) (hQ : Q (lat (G 23) (G 30) x1 n) F G) : wp_X5_latestStanding x1 F G Q := by
  refine ⟨n + 1, ?_⟩
  rw [h8]; exact x_lat n hn hQ
theorem m_latest {Q : Int32 → FT → GT → Int64 → Prop} {F : FT} {G : GT} {w : Int64} {x1 : Int32} {n : Nat} (h8 : F 8 = nI n) (hn : n ≤ 80) (hQ : Q (lat (G 23) (G 30) x1 n) F G w) : wp_X8_latest x1 F G w Q := by
  refine ⟨n + 1, ?_⟩
  rw [h8]; exact m_lat n hn hQ
def s_fb (g : Nat → Int32) : Nat → Int32 → Int32 := fun i a => if g i = -1 then a else a ||| ((1 : Int32) <<< (nI i &&& 31))
theorem x_bits {Q : Int32 → FT → GT → Prop} {F : FT} {G : GT} {z : Nat} (hz : z < 40) : ∀ m i a, i + m = 6 → Q (fo (s_fb (G (z + 100))) m i a) F G → wp_X1_foundBits_4 Q (m + 1) (nI z) a (nI i) F G
  | 0, i, a, hi, hQ => by
    have e : i = 6 := by omega
    subst e
    simp +decide only [wp_X1_foundBits_4, not_true_eq_false, not_false_eq_true, false_implies, true_implies, and_true, true_and, true_or, or_true, ne_eq]
    exact hQ
  | m + 1, i, a, hi, hQ => by
    rw [wp_X1_foundBits_4]
    simp only [show ¬ 6 ≤ nI i from le_no (b := 6) (by omega) (by omega), wp_X1_isFound, wp_X1_isFound_0, wp_X1_foundBits_27, vp_in_nI hz (show 40 < 2 ^ 31 by omega), vp_in_nI (show i < 6 by omega) (show 6 < 2 ^ 31 by omega), nI_clamp (show z < 2 ^ 31 by omega), nI_clamp (show i < 2 ^ 31 by omega), forall_eq, nI_1, not_true_eq_false, not_false_eq_true, false_implies, true_implies, and_true, true_and, true_or, or_true, ne_eq]
    refine ⟨fun c => ?_, fun c => ?_⟩
    · simp +decide only [not_true_eq_false, not_false_eq_true, false_implies, true_implies, and_true, true_and, true_or, or_true, ne_eq, Int32.or_zero]
      exact x_bits hz m (i + 1) _ (by omega) (by simpa only [fo, s_fb, c, if_true] using hQ)
    · simp +decide only [not_true_eq_false, not_false_eq_true, false_implies, true_implies, and_true, true_and, true_or, or_true, ne_eq]
      exact x_bits hz m (i + 1) _ (by omega) (by simpa only [fo, s_fb, c, if_false] using hQ)
theorem m_bits {Q : Int32 → FT → GT → Int64 → Prop} {F : FT} {G : GT} {w : Int64} {x2 : Int32} {g : Nat → Int32} {z : Nat} (hz : z < 40) (hg : ∀ f, f < 6 → G 52 (6 * z + f) = g f) : ∀ m i a, i + m = 6 → wp_X8_about_32 Q 1 (nI z) x2 (fo (s_fb g) m i a) 6 F G w → wp_X8_about_32 Q (m + 1) (nI z) x2 a (nI i) F G w
  | 0, i, a, hi, hQ => by
    have e : i = 6 := by omega
    subst e
    exact hQ
  | m + 1, i, a, hi, hQ => by
    rw [wp_X8_about_32]
    simp only [show ¬ 6 ≤ nI i from le_no (b := 6) (by omega) (by omega), ix_m, vp_in_nI (show 6 * z + i < 240 by omega) (show 240 < 2 ^ 31 by omega), nI_clamp (show 6 * z + i < 2 ^ 31 by omega), hg i (by omega), forall_eq, nI_1, not_true_eq_false, not_false_eq_true, false_implies, true_implies, and_true, true_and, true_or, or_true, ne_eq]
    refine ⟨fun c => ?_, fun c => ?_⟩
    · exact m_bits hz hg m (i + 1) _ (by omega) (by simpa only [fo, s_fb, c, if_true] using hQ)
    · exact m_bits hz hg m (i + 1) _ (by omega) (by simpa only [fo, s_fb, c, if_false] using hQ)
def s_eq (g : Nat → Int32) (x : Int32) : Nat → Int32 → Int32 := fun i a => if g i = x then a + 1 else a
theorem x_many {Q : Int32 → FT → GT → Prop} {F : FT} {G : GT} {x1 : Int32} {e : Nat} (h7 : F 7 = nI e) (he : e ≤ 400) : ∀ m i a, i + m = e → Q (fo (s_eq (G 19) x1) m i a) F G → wp_X0_howMany_4 Q (m + 1) x1 a (nI i) F G
  | 0, i, a, hi, hQ => by
    simp only [wp_X0_howMany_4, h7, le_ya (show e ≤ i by omega) (by omega), not_true_eq_false, not_false_eq_true, false_implies, true_implies, and_true, true_and, true_or, or_true, ne_eq]
    exact hQ
  | m + 1, i, a, hi, hQ => by
    rw [wp_X0_howMany_4]
    simp only [h7, le_no (show i < e by omega) (by omega), vp_in_nI (show i < 400 by omega) (by omega), nI_clamp (show i < 2 ^ 31 by omega), wp_X0_howMany_28, forall_eq, nI_1, not_true_eq_false, not_false_eq_true, false_implies, true_implies, and_true, true_and, true_or, or_true, ne_eq]
    refine ⟨fun c => ?_, fun c => ?_⟩
    · exact x_many h7 he m (i + 1) _ (by omega) (by simpa only [fo, s_eq, c, if_false, Int32.add_zero] using hQ)
    · exact x_many h7 he m (i + 1) _ (by omega) (by simpa only [fo, s_eq, c, if_true] using hQ)
theorem m_many {Q : Int32 → FT → GT → Int64 → Prop} {F : FT} {G : GT} {w : Int64} {x1 : Int32} {e : Nat} (h7 : F 7 = nI e) (he : e ≤ 400) : ∀ m i a, i + m = e → Q (fo (s_eq (G 19) x1) m i a) F G w → wp_X8_handsOf_4 Q (m + 1) x1 a (nI i) F G w
  | 0, i, a, hi, hQ => by
    simp only [wp_X8_handsOf_4, h7, le_ya (show e ≤ i by omega) (by omega), not_true_eq_false, not_false_eq_true, false_implies, true_implies, and_true, true_and, true_or, or_true, ne_eq]
    exact hQ
  | m + 1, i, a, hi, hQ => by
    rw [wp_X8_handsOf_4]
    simp only [h7, le_no (show i < e by omega) (by omega), vp_in_nI (show i < 400 by omega) (by omega), nI_clamp (show i < 2 ^ 31 by omega), forall_eq, nI_1, not_true_eq_false, not_false_eq_true, false_implies, true_implies, and_true, true_and, true_or, or_true, ne_eq]
    refine ⟨fun c => ?_, fun c => ?_⟩
    · exact m_many h7 he m (i + 1) _ (by omega) (by simpa only [fo, s_eq, c, if_false] using hQ)
    · exact m_many h7 he m (i + 1) _ (by omega) (by simpa only [fo, s_eq, c, if_true] using hQ)
theorem stp_about : Stp_about Inv := by
  intro FX GX FM GM w hI x1 x2 f
  obtain ⟨he, hm, hb⟩ := id hI
  obtain ⟨e0, e1, e2, e3, e4, e5, e6, e7, e8⟩ := he.F
  obtain ⟨g10, g11, g12, g13, g14, g15, g16, g17, g19, g20, g21, g22, g23, g24, g25, g26, g27, g28, g29, g30, g31⟩ := he.G
  obtain ⟨n6, hn6, h6⟩ := hb.2.2.1
  obtain ⟨n7, hn7, h7⟩ := hb.2.2.2.1
  obtain ⟨n8, hn8, h8⟩ := hb.2.2.2.2.1
  simp only [wp_X7_about, wp_X7_about_0, wp_X1_has, wp_X1_has_0, wp_X8_about, wp_X8_about_0, wp_X8_isHorse, wp_X8_isHorse_0, wp_X8_about_17, wp_X8_refuse, wp_X8_refuse_0, forall_eq, e0, e1, e2, e3, e4, e5, e6, e7, e8, g10, g11, g12, g13, g14, g15, g16, g17, g19, g20, g21, g22, g23, g24, g25, g26, g27, g28, g29, g30, g31, h6]
  rcases pk_ix x1 (n := n6) (by omega) with a | a | ⟨j, hj, rfl⟩
  · simp +decide only [a, not_true_eq_false, not_false_eq_true, false_implies, true_implies, and_true, true_and, true_or, or_true, ne_eq, pt_1 hI]
  · simp +decide only [a, gt_lt a (by omega), not_true_eq_false, not_false_eq_true, false_implies, true_implies, and_true, true_and, true_or, or_true, ne_eq, pt_1 hI]
  · simp +decide only [in_n hj hn6 (by omega), nI_pos (show j < 2 ^ 31 by omega), le_no hj (by omega), nI_clamp (show j < 2 ^ 31 by omega), not_true_eq_false, not_false_eq_true, false_implies, true_implies, and_true, true_and, true_or, or_true, ne_eq]
    rcases pk_ix x2 (n := 5) (by omega) with b | b | ⟨k, hk, rfl⟩
    · have q : ∀ z : Nat, z < 5 → ¬ x2 = nI z := fun z hz => ng_eq b z (by omega)
      simp only [b, show ¬ x2 = 0 from q 0 (by omega), show ¬ x2 = 1 from q 1 (by omega), show ¬ x2 = 2 from q 2 (by omega), show ¬ x2 = 3 from q 3 (by omega), show ¬ x2 = 4 from q 4 (by omega), not_true_eq_false, not_false_eq_true, false_implies, true_implies, and_true, true_and, true_or, or_true, ne_eq, pt_1 hI]
    · have q : ∀ z : Nat, z < 5 → ¬ x2 = nI z := fun z hz => gt_eq b z hz (by omega)
      simp only [gt_lt b (by omega), show ¬ x2 ≤ 4 from gt_le b 4 (by omega) (by omega), show ¬ x2 = 0 from q 0 (by omega), show ¬ x2 = 1 from q 1 (by omega), show ¬ x2 = 2 from q 2 (by omega), show ¬ x2 = 3 from q 3 (by omega), show ¬ x2 = 4 from q 4 (by omega), not_true_eq_false, not_false_eq_true, false_implies, true_implies, and_true, true_and, true_or, or_true, ne_eq, pt_1 hI]
    · have hM : ∀ x2 : Int32, ∀ Q : Int32 → FT → GT → Int64 → Prop, wp_X8_about_32 Q 1 (nI j) x2 (fo (s_fb (GX (j + 100))) 6 0 0) 6 (sU FM 20 0) GM w → ∃ n, wp_X8_about_32 Q n (nI j) x2 0 0 (sU FM 20 0) GM w := fun x2 Q h => ⟨7, m_bits (by omega) (fun f hf => he.2.2.2.2.1 j f (by omega) hf) 6 0 0 (by omega) h⟩
      rcases (by omega : k = 0 ∨ k = 1 ∨ k = 2 ∨ k = 3 ∨ k = 4) with rfl | rfl | rfl | rfl | rfl
      all_goals simp +decide only [not_true_eq_false, not_false_eq_true, false_implies, true_implies, and_true, true_and, true_or, or_true, ne_eq]
      · refine hM _ _ ?_
        simp +decide only [wp_X8_about_32, in_n hj hn6 (show 40 < 2 ^ 31 by omega), nI_clamp (show j < 2 ^ 31 by omega), not_true_eq_false, not_false_eq_true, false_implies, true_implies, and_true, true_and, true_or, or_true, ne_eq, g16, pt_0 hI]
      · refine hM _ _ ?_
        simp +decide only [wp_X8_about_32, in_n hj hn6 (show 40 < 2 ^ 31 by omega), nI_clamp (show j < 2 ^ 31 by omega), not_true_eq_false, not_false_eq_true, false_implies, true_implies, and_true, true_and, true_or, or_true, ne_eq, g17, pt_0 hI]
      · refine x_latest h8 hn8 (hM _ _ ?_)
        simp +decide only [wp_X8_about_32, not_true_eq_false, not_false_eq_true, false_implies, true_implies, and_true, true_and, true_or, or_true, ne_eq]
        refine m_latest (n := n8) (by rw [sU_ne _ _ (by decide), e8, h8]) hn8 ?_
        rw [g23, g30]; exact pt_0 hI
      · refine ⟨7, x_bits (by omega) 6 0 0 (by omega) (hM _ _ ?_)⟩
        simp +decide only [wp_X8_about_32, not_true_eq_false, not_false_eq_true, false_implies, true_implies, and_true, true_and, true_or, or_true, ne_eq, pt_0 hI]
      · refine ⟨n7 + 1, x_many h7 hn7 n7 0 0 (by omega) (hM _ _ ?_)⟩
        simp +decide only [wp_X8_about_32, not_true_eq_false, not_false_eq_true, false_implies, true_implies, and_true, true_and, true_or, or_true, ne_eq]
        refine ⟨n7 + 1, m_many (e := n7) (by rw [sU_ne _ _ (by decide), e7, h7]) hn7 n7 0 0 (by omega) ?_⟩
        rw [g19]; exact pt_0 hI
