theorem in_n {j N n : Nat} (hj : j < n) (hn : n ≤ N) (hN : N < 2 ^ 31) : vp_in (nI j) N := vp_in_nI (by omega) hN
theorem stp_steal : Stp_steal Inv := by
  intro FX GX FM GM w hI x1 x2
  obtain ⟨he, hm, hb⟩ := id hI
  obtain ⟨e0, e1, e2, e3, e4, e5, e6, e7, e8⟩ := he.F
  obtain ⟨g10, g11, g12, g13, g14, g15, g16, g17, g19, g20, g21, g22, g23, g24, g25, g26, g27, g28, g29, g30, g31⟩ := he.G
  obtain ⟨n6, hn6, h6⟩ := hb.2.2.1
  obtain ⟨p, lf, u, c, d, o, n3, h11, h15, h30, h4, h5, h17, h3, hsp, hc, hpq, hq, hrest⟩ := hm
  simp (disch := decide) only [wp_X7_steal, wp_X7_steal_0, wp_X1_has, wp_X1_has_0, wp_X4_hasPerson, wp_X4_hasPerson_0, wp_X8_steal, wp_X8_steal_0, wp_X8_isHorse, wp_X8_isHorse_0, wp_X8_isPerson, wp_X8_isPerson_0, forall_eq, sU_ne, e0, e1, e2, e3, e4, e5, e6, e7, e8, g10, g11, g12, g13, g14, g15, g16, g17, g19, g20, g21, g22, g23, g24, g25, g26, g27, g28, g29, g30, g31, h6, h3]
  have hp0 : ∀ r : Int32, PS Inv FX GX r r (sU FM 20 0) GM w := fun r => ⟨rfl, hI.t⟩
  rcases pk_ix x1 (n := n6) (by omega) with a | a | ⟨j, hj, rfl⟩
  · simp +decide only [a, not_true_eq_false, not_false_eq_true, false_implies, true_implies, and_true, true_and, true_or, or_true, ne_eq, hp0]
  · simp +decide only [a, gt_lt a (by omega), not_true_eq_false, not_false_eq_true, false_implies, true_implies, and_true, true_and, true_or, or_true, ne_eq, hp0]
  · simp +decide only [in_n hj hn6 (by omega), nI_pos (show j < 2 ^ 31 by omega), le_no hj (by omega), nI_clamp (show j < 2 ^ 31 by omega), not_true_eq_false, not_false_eq_true, false_implies, true_implies, and_true, true_and, true_or, or_true, ne_eq]
    rcases pk_ix x2 (n := n3) (by omega) with b | b | ⟨k, hk, rfl⟩
    · simp +decide only [b, not_true_eq_false, not_false_eq_true, false_implies, true_implies, and_true, true_and, true_or, or_true, ne_eq, hp0]
    · simp +decide only [b, gt_lt b (by omega), not_true_eq_false, not_false_eq_true, false_implies, true_implies, and_true, true_and, true_or, or_true, ne_eq, hp0]
    · simp +decide only [nI_pos (show k < 2 ^ 31 by omega), le_no hk (by omega), not_true_eq_false, not_false_eq_true, false_implies, true_implies, and_true, true_and, true_or, or_true, ne_eq]
      have pk : pp (FX 3) (nI k) := by rw [h3]; exact pp_n hq (by omega)
      by_cases e : GX 16 j = nI k
      · simp +decide only [e, not_true_eq_false, not_false_eq_true, false_implies, true_implies, and_true, true_and, true_or, or_true, ne_eq, hp0]
      · simp +decide only [e, not_true_eq_false, not_false_eq_true, false_implies, true_implies, and_true, true_and, true_or, or_true, ne_eq]
        refine x_ld (by omega) hb.2.2.2.1 (m_ld (by omega) (by rw [sU_ne _ _ (by decide), e7]; exact hb.2.2.2.1) ⟨rfl, ?_⟩)
        exact ld_inv h6 hn6 hj hI.t pk (hb.2.2.2.2.2.2.2.2.1 j)
theorem stp_find : Stp_find Inv := by
  intro FX GX FM GM w hI x1 x2 x3
  obtain ⟨he, hm, hb⟩ := id hI
  obtain ⟨e0, e1, e2, e3, e4, e5, e6, e7, e8⟩ := he.F
  obtain ⟨g10, g11, g12, g13, g14, g15, g16, g17, g19, g20, g21, g22, g23, g24, g25, g26, g27, g28, g29, g30, g31⟩ := he.G
  obtain ⟨n6, hn6, h6⟩ := hb.2.2.1
  simp (disch := decide) only [wp_X7_find, wp_X7_find_0, wp_X1_has, wp_X1_has_0, wp_X7_isFault, wp_X7_isFault_0, wp_X1_isFound, wp_X1_isFound_0, wp_X8_find, wp_X8_find_0, wp_X8_isHorse, wp_X8_isHorse_0, forall_eq, sU_ne, e0, e1, e2, e3, e4, e5, e6, e7, e8, g10, g11, g12, g13, g14, g15, g16, g17, g19, g20, g21, g22, g23, g24, g25, g26, g27, g28, g29, g30, g31, h6]
  have hp0 : ∀ r : Int32, PS Inv FX GX r r (sU FM 20 0) GM w := fun r => ⟨rfl, hI.t⟩
  rcases pk_ix x1 (n := n6) (by omega) with a | a | ⟨j, hj, rfl⟩
  · simp +decide only [a, not_true_eq_false, not_false_eq_true, false_implies, true_implies, and_true, true_and, true_or, or_true, ne_eq, hp0]
  · simp +decide only [a, gt_lt a (by omega), not_true_eq_false, not_false_eq_true, false_implies, true_implies, and_true, true_and, true_or, or_true, ne_eq, hp0]
  · simp +decide only [in_n hj hn6 (by omega), nI_pos (show j < 2 ^ 31 by omega), le_no hj (by omega), nI_clamp (show j < 2 ^ 31 by omega), not_true_eq_false, not_false_eq_true, false_implies, true_implies, and_true, true_and, true_or, or_true, ne_eq]
    rcases pk_ix x2 (n := 6) (by omega) with b | b | ⟨k, hk, rfl⟩
    · simp +decide only [b, not_true_eq_false, not_false_eq_true, false_implies, true_implies, and_true, true_and, true_or, or_true, ne_eq, hp0]
    · simp +decide only [show (6 : Int32) ≤ x2 from b, gt_lt b (by omega), not_true_eq_false, not_false_eq_true, false_implies, true_implies, and_true, true_and, true_or, or_true, ne_eq, hp0]
    · simp +decide only [vp_in_nI (show k < 6 by omega) (by omega), nI_pos (show k < 2 ^ 31 by omega), show ¬ 6 ≤ nI k from le_no (b := 6) hk (by omega), nI_clamp (show k < 2 ^ 31 by omega), ix_m, vp_in_nI (show 6 * j + k < 240 by omega) (by omega), nI_clamp (show 6 * j + k < 2 ^ 31 by omega), he.2.2.2.2.1 j k (by omega) hk, not_true_eq_false, not_false_eq_true, false_implies, true_implies, and_true, true_and, true_or, or_true, ne_eq]
      by_cases c1 : x3 < 0
      · simp +decide only [c1, not_true_eq_false, not_false_eq_true, false_implies, true_implies, and_true, true_and, true_or, or_true, ne_eq, hp0]
      by_cases c2 : FX 0 < x3
      · simp +decide only [c1, c2, not_true_eq_false, not_false_eq_true, false_implies, true_implies, and_true, true_and, true_or, or_true, ne_eq, hp0]
      by_cases c3 : GX (j + 100) k = -1
      · simp +decide only [c1, c2, c3, not_true_eq_false, not_false_eq_true, false_implies, true_implies, and_true, true_and, true_or, or_true, ne_eq]
        refine ⟨rfl, ?_, ?_, ?_⟩
        · rw [gU_ne _ _ (by omega)]
          have h := ((hI.1.t (z := 0)).fo (z := j) (f := k) (by omega) hk (FX 0)).si (z := j) (f := k) (by omega) hk x3
          rw [gU_ne GX (j := j + 200) _ (by omega), gU_ne GM (j := 53) _ (by omega)] at h
          exact h
        · exact hI.2.1.cg (fun k _ => rfl) (fun k hk => by rw [gU_ne _ _ (by omega), gU_ne _ _ (by omega)])
        · exact hI.2.2.cg (fun k _ => rfl) (fun k hk => by rw [gU_ne _ _ (by omega), gU_ne _ _ (by omega)])
      · simp +decide only [c1, c2, c3, not_true_eq_false, not_false_eq_true, false_implies, true_implies, and_true, true_and, true_or, or_true, ne_eq, hp0]
theorem stp_person : Stp_person Inv := by
  intro FX GX FM GM w hI x1
  obtain ⟨he, hm, hb⟩ := id hI
  obtain ⟨e0, e1, e2, e3, e4, e5, e6, e7, e8⟩ := he.F
  obtain ⟨g10, g11, g12, g13, g14, g15, g16, g17, g19, g20, g21, g22, g23, g24, g25, g26, g27, g28, g29, g30, g31⟩ := he.G
  obtain ⟨p, lf, u, c, d, o, n3, h11, h15, h30, h4, h5, h17, h3, hsp, hc, hpq, hq, hrest⟩ := hm
  have hp0 : ∀ r : Int32, PS Inv FX GX r r (sU FM 20 0) GM w := fun r => ⟨rfl, hI.t⟩
  simp (disch := decide) only [wp_X7_person, wp_X7_person_0, wp_X4_mayCome, wp_X4_mayCome_0, wp_X4_addPerson, wp_X4_addPerson_0, wp_X4_bring, wp_X4_bring_0, wp_X8_person, wp_X8_person_0, forall_eq, sU_ne, sU_same, e0, e1, e2, e3, e4, e5, e6, e7, e8, g10, g11, g12, g13, g14, g15, g16, g17, g19, g20, g21, g22, g23, g24, g25, g26, g27, g28, g29, g30, g31, h3, h4, h11]
  by_cases hq' : n3 = 16
  · subst hq'
    simp +decide only [not_true_eq_false, not_false_eq_true, false_implies, true_implies, and_true, true_and, true_or, or_true, ne_eq, hp0]
  have q1 : ¬ 16 ≤ nI n3 := le_no (b := 16) (by omega) (by omega)
  have q2 : ¬ nI n3 = 16 := fun e => hq' ((nI_eq (b := 16) (by omega) (by omega)).1 e)
  simp only [q1, q2, not_true_eq_false, not_false_eq_true, false_implies, true_implies, and_true, true_and, true_or, or_true, ne_eq]
  rcases pk_ix x1 (n := 1000001) (by omega) with a | a | ⟨j, hj, rfl⟩
  · simp +decide only [a, not_true_eq_false, not_false_eq_true, false_implies, true_implies, and_true, true_and, true_or, or_true, ne_eq, hp0]
  · have a1 : 1000000 < x1 := Int32.lt_of_lt_of_le (by decide : (1000000 : Int32) < nI 1000001) a
    simp +decide only [a1, gt_lt a (by omega), not_true_eq_false, not_false_eq_true, false_implies, true_implies, and_true, true_and, true_or, or_true, ne_eq, hp0]
  · have a1 : ¬ 1000000 < nI j := nI_nlt (a := 1000000) (by omega) (by omega)
    have a2 : (1000000000 : Int32) - nI j = nI (1000000000 - j) := pk_sub (a := 1000000000) (by omega)
    simp only [a1, a2, nI_add, nI_pos (show j < 2 ^ 31 by omega), in_n (show n3 < 16 by omega) (Nat.le_refl 16) (by omega), nI_clamp (show n3 < 2 ^ 31 by omega), hpq n3 (Nat.le_refl _), Nat.zero_add, not_true_eq_false, not_false_eq_true, false_implies, true_implies, and_true, true_and, true_or, or_true, ne_eq]
    by_cases hcj : c + j ≤ 1000000000
    · have b1 : ¬ nI (1000000000 - j) < nI c := nI_nlt (by omega) (by omega)
      have b2 : nI (c + j) ≤ 1000000000 := le_ya (a := 1000000000) hcj (by omega)
      simp +decide only [b1, b2, not_true_eq_false, not_false_eq_true, false_implies, true_implies, and_true, true_and, true_or, or_true, ne_eq, nI_1, nI_pred]
      refine ⟨rfl, ?_, ?_, ?_⟩
      · rw [sU_c (by decide : 3 ≠ 4)]
        have h := ((hI.1.t (z := 0)).sF 4 (nI (c + j))).sF 3 (nI (n3 + 1))
        have h := h.gG 11 (by omega) (by omega) (by omega) (by omega) (by omega) (upd (fun i => nI (p i)) n3 (nI j))
        exact h
      · refine ⟨nu p n3 j, lf, u, c + j, d, o, n3 + 1, ?_, ?_, ?_, ?_, ?_, ?_, ?_, ?_, hcj, ?_, by omega, hrest⟩
        · rw [gU_same, upd_nI]
        · rw [gU_ne _ _ (by decide), h15]
        · rw [gU_ne _ _ (by decide), h30]
        · rw [sU_same]
        · rw [sU_ne _ _ (by decide), sU_ne _ _ (by decide), h5]
        · rw [sU_ne _ _ (by decide), sU_ne _ _ (by decide), h17]
        · rw [sU_ne _ _ (by decide), sU_same]
        · have := sm_nu (p := p) (k := n3) (y := j) 16 (by omega)
          have := hpq n3 (Nat.le_refl _)
          omega
        · intro i hi
          rw [nu_n (by omega)]; exact hpq i (by omega)
      · obtain ⟨b0, b2, b6, b7, b8, b12, b13, b16, b17, b24, b25, b26, b28, b18, bl, bh⟩ := hb
        rw [h3] at b12 b13 b16 b17 b24 b25
        unfold Bds
        simp (disch := decide) only [sU_ne, sU_same, gU_ne]
        refine ⟨b0, b2, b6, b7, b8, fun i => pp_s (b12 i) (by omega), fun i => pp_s (b13 i) (by omega), fun i => pp_s (b16 i) (by omega), fun i => pp_s (b17 i) (by omega), fun i => pp_s (b24 i) (by omega), fun i => pp_s (b25 i) (by omega), b26, b28, b18, fun l k hl => ?_, Hnd.cg bh ?_ ?_ ?_⟩
        · rw [gU_ne _ _ (by omega)]; exact bl l k hl
        · rw [sU_ne _ _ (by decide), sU_ne _ _ (by decide)]
        · rw [sU_ne _ _ (by decide), sU_ne _ _ (by decide)]
        · rw [gU_ne _ _ (by decide)]
    · have b1 : nI (1000000000 - j) < nI c := nI_lt (by omega) (by omega)
      have b2 : ¬ nI (c + j) ≤ 1000000000 := le_no (a := 1000000000) (by omega) (by omega)
      simp +decide only [b1, b2, not_true_eq_false, not_false_eq_true, false_implies, true_implies, and_true, true_and, true_or, or_true, ne_eq, hp0]
theorem EQ.mk {FX : FT} {GX : GT} {FM : FT} {GM : GT} (ha : EQA FX GX FM GM) (hb : EQB FX GX FM GM) (c : ∀ i, i < 320 → GM 50 i = GX 40 i &&& 255) (d : ∀ l k, l < 3 → k < 14 → GM 51 (14 * l + k) = GX (l + 300) k) (e : ∀ h f, h < 40 → f < 6 → GM 52 (6 * h + f) = GX (h + 100) f) (g : ∀ h f, h < 40 → f < 6 → GM 53 (6 * h + f) = GX (h + 200) f) : EQ FX GX FM GM := by
  refine ⟨fun k hk => ?_, fun k h1 h2 h3 => ?_, c, d, e, g, hb.2.2⟩
  · by_cases e : k = 7
    · subst e; exact hb.1
    · exact ha.1 k hk e
  · by_cases e : k < 16 ∨ 22 < k
    · exact ha.2 k h1 h2 e
    · exact hb.2.1 k (by omega) (by omega) h3
theorem x_row {F : FT} {z : Nat} (hz : z < 40) {Q : Int32 → FT → GT → Prop} : ∀ m i G, i + m = 6 → (∀ G' : GT, (∀ k, k ≠ z + 100 → k ≠ z + 200 → G' k = G k) → (∀ f, G' (z + 100) f = if i ≤ f ∧ f < 6 then -1 else G (z + 100) f) → (∀ f, G' (z + 200) f = if i ≤ f ∧ f < 6 then -1 else G (z + 200) f) → Q (nI z) F G') → wp_X1_add_31 Q (m + 1) (nI z) (nI i) F G
  | 0, i, G, hi, hQ => by
    have e : i = 6 := by omega
    subst e
    simp +decide only [wp_X1_add_31, not_true_eq_false, not_false_eq_true, false_implies, true_implies, and_true, true_and, true_or, or_true, ne_eq]
    exact hQ G (fun _ _ _ => rfl) (fun f => by rw [if_neg (by omega)]) (fun f => by rw [if_neg (by omega)])
  | m + 1, i, G, hi, hQ => by
    rw [wp_X1_add_31]
    simp only [show ¬ 6 ≤ nI i from le_no (b := 6) (by omega) (by omega), vp_in_nI hz (show 40 < 2 ^ 31 by omega), vp_in_nI (show i < 6 by omega) (show 6 < 2 ^ 31 by omega), nI_clamp (show z < 2 ^ 31 by omega), nI_clamp (show i < 2 ^ 31 by omega), forall_eq, nI_1, gU_ne G _ (show z + 200 ≠ z + 100 by omega), not_true_eq_false, not_false_eq_true, false_implies, true_implies, and_true, true_and, true_or, or_true, ne_eq]
    refine x_row hz m (i + 1) _ (by omega) (fun G' h1 h2 h3 => hQ G' (fun k q1 q2 => ?_) (fun f => ?_) (fun f => ?_))
    · rw [h1 k q1 q2, gU_ne _ _ q2, gU_ne _ _ q1]
    · rw [h2 f, gU_ne _ _ (by omega), gU_same, upd_e]
      by_cases c1 : f = i
      · rw [if_pos c1, if_pos (show i ≤ f ∧ f < 6 by omega), ite_self]
      · rw [if_neg c1]
        by_cases c2 : i ≤ f ∧ f < 6
        · rw [if_pos c2, if_pos (by omega)]
        · rw [if_neg c2, if_neg (by omega)]
    · rw [h3 f, gU_same, upd_e]
      by_cases c1 : f = i
      · rw [if_pos c1, if_pos (show i ≤ f ∧ f < 6 by omega), ite_self]
      · rw [if_neg c1]
        by_cases c2 : i ≤ f ∧ f < 6
        · rw [if_pos c2, if_pos (by omega)]
        · rw [if_neg c2, if_neg (by omega)]
theorem m_row {F : FT} {w : Int64} {x1 : Int32} {z : Nat} (hz : z < 40) {Q : Int32 → FT → GT → Int64 → Prop} : ∀ m i G, i + m = 6 → (∀ G' : GT, (∀ k, k ≠ 52 → k ≠ 53 → G' k = G k) → (∀ f, G' 52 f = if 6 * z + i ≤ f ∧ f < 6 * z + 6 then -1 else G 52 f) → (∀ f, G' 53 f = if 6 * z + i ≤ f ∧ f < 6 * z + 6 then -1 else G 53 f) → wp_X8_horse_45 Q 1 x1 (nI z) 6 F G' w) → wp_X8_horse_45 Q (m + 1) x1 (nI z) (nI i) F G w
  | 0, i, G, hi, hQ => by
    have e : i = 6 := by omega
    subst e
    exact hQ G (fun _ _ _ => rfl) (fun f => by rw [if_neg (by omega)]) (fun f => by rw [if_neg (by omega)])
  | m + 1, i, G, hi, hQ => by
    rw [wp_X8_horse_45]
    simp only [show ¬ 6 ≤ nI i from le_no (b := 6) (by omega) (by omega), ix_m, vp_in_nI (show 6 * z + i < 240 by omega) (show 240 < 2 ^ 31 by omega), nI_clamp (show 6 * z + i < 2 ^ 31 by omega), forall_eq, nI_1, gU_ne G _ (show 53 ≠ 52 by omega), not_true_eq_false, not_false_eq_true, false_implies, true_implies, and_true, true_and, true_or, or_true, ne_eq]
    refine m_row hz m (i + 1) _ (by omega) (fun G' h1 h2 h3 => hQ G' (fun k q1 q2 => ?_) (fun f => ?_) (fun f => ?_))
    · rw [h1 k q1 q2, gU_ne _ _ q2, gU_ne _ _ q1]
    · rw [h2 f, gU_ne _ _ (by omega), gU_same, upd_e]
      by_cases c1 : f = 6 * z + i
      · rw [if_pos c1, if_pos (show 6 * z + i ≤ f ∧ f < 6 * z + 6 by omega), ite_self]
      · rw [if_neg c1]
        by_cases c2 : 6 * z + i ≤ f ∧ f < 6 * z + 6
        · rw [if_pos c2, if_pos (by omega)]
        · rw [if_neg c2, if_neg (by omega)]
    · rw [h3 f, gU_same, upd_e]
      by_cases c1 : f = 6 * z + i
      · rw [if_pos c1, if_pos (show 6 * z + i ≤ f ∧ f < 6 * z + 6 by omega), ite_self]
      · rw [if_neg c1]
        by_cases c2 : 6 * z + i ≤ f ∧ f < 6 * z + 6
        · rw [if_pos c2, if_pos (by omega)]
        · rw [if_neg c2, if_neg (by omega)]
theorem upd_i {f : Nat → Int32} {k : Nat} {x : Int32} : upd (upd f k x) k x = upd f k x := by
  funext j
  simp only [upd_e]
  split <;> rfl
theorem stp_horse : Stp_horse Inv := by
  intro FX GX FM GM w hI x1
  obtain ⟨he, hm, hb⟩ := id hI
  obtain ⟨e0, e1, e2, e3, e4, e5, e6, e7, e8⟩ := he.F
  obtain ⟨g10, g11, g12, g13, g14, g15, g16, g17, g19, g20, g21, g22, g23, g24, g25, g26, g27, g28, g29, g30, g31⟩ := he.G
  obtain ⟨n6, hn6, h6⟩ := hb.2.2.1
  obtain ⟨p, lf, u, c, d, o, n3, h11, h15, h30, h4, h5, h17, h3, hsp, hc, hpq, hq, hrest⟩ := hm
  have hp0 : ∀ r : Int32, PS Inv FX GX r r (sU FM 20 0) GM w := fun r => ⟨rfl, hI.t⟩
  simp (disch := decide) only [wp_X7_horse, wp_X7_horse_0, wp_X4_hasPerson, wp_X4_hasPerson_0, wp_X1_add, wp_X1_add_0, wp_X8_horse, wp_X8_horse_0, wp_X8_isPerson, wp_X8_isPerson_0, forall_eq, sU_ne, gU_ne, e0, e1, e2, e3, e4, e5, e6, e7, e8, g10, g11, g12, g13, g14, g15, g16, g17, g19, g20, g21, g22, g23, g24, g25, g26, g27, g28, g29, g30, g31, h6, h3]
  by_cases hq' : n6 = 40
  · subst hq'
    simp +decide only [not_true_eq_false, not_false_eq_true, false_implies, true_implies, and_true, true_and, true_or, or_true, ne_eq, hp0]
  have q1 : ¬ 40 ≤ nI n6 := le_no (b := 40) (by omega) (by omega)
  have q2 : ¬ nI n6 = 40 := fun e => hq' ((nI_eq (b := 40) (by omega) (by omega)).1 e)
  simp only [q1, q2, not_true_eq_false, not_false_eq_true, false_implies, true_implies, and_true, true_and, true_or, or_true, ne_eq]
  rcases pk_ix x1 (n := n3) (by omega) with b | b | ⟨j, hj, rfl⟩
  · simp +decide only [b, not_true_eq_false, not_false_eq_true, false_implies, true_implies, and_true, true_and, true_or, or_true, ne_eq, hp0]
  · simp +decide only [b, gt_lt b (by omega), not_true_eq_false, not_false_eq_true, false_implies, true_implies, and_true, true_and, true_or, or_true, ne_eq, hp0]
  simp +decide only [nI_pos (show j < 2 ^ 31 by omega), le_no hj (by omega), vp_in_nI (show n6 < 40 by omega) (show 40 < 2 ^ 31 by omega), nI_clamp (show n6 < 2 ^ 31 by omega), nI_1, not_true_eq_false, not_false_eq_true, false_implies, true_implies, and_true, true_and, true_or, or_true, ne_eq]
  have ppj : pp (FX 3) (nI j) := by rw [h3]; exact pp_n hq (by omega)
  refine ⟨7, x_row (by omega) 6 0 _ (by omega) (fun GX' k1 k2 k3 => ?_)⟩
  have b7 : bd (sU FX 6 (nI (n6 + 1)) 7) 400 := by rw [sU_ne _ _ (by decide)]; exact hb.2.2.2.1
  refine x_hd b7 ⟨7, m_row (by omega) 6 0 _ (by omega) (fun GM' l1 l2 l3 => ?_)⟩
  simp (disch := decide) only [wp_X8_horse_45, Int32.le_refl, forall_eq, sU_ne, e6, h6, nI_1, not_true_eq_false, not_false_eq_true, false_implies, true_implies, and_true, true_and, true_or, or_true, ne_eq]
  refine m_ld (by omega) (by rw [sU_ne _ _ (by decide), sU_ne _ _ (by decide), e7]; exact hb.2.2.2.1) ⟨rfl, ?_⟩
  have A1 : ∀ k, k ≠ 16 → k ≠ 17 → k ≠ n6 + 100 → k ≠ n6 + 200 → GX' k = GX k := fun k a1 a2 a3 a4 => by rw [k1 k a3 a4, gU_ne _ _ a2, gU_ne _ _ a1]
  have A2 : ∀ k, k ≠ 16 → k ≠ 17 → k ≠ 52 → k ≠ 53 → GM' k = GM k := fun k a1 a2 a3 a4 => by rw [l1 k a3 a4, gU_ne _ _ a2, gU_ne _ _ a1]
  have B1 : GX' 16 = upd (GX 16) n6 (nI j) := by rw [k1 16 (by omega) (by omega), gU_ne _ _ (by omega), gU_same]
  have B2 : GX' 17 = upd (GX 17) n6 (nI j) := by rw [k1 17 (by omega) (by omega), gU_same]
  have C1 : GM' 16 = upd (GX 16) n6 (nI j) := by rw [l1 16 (by omega) (by omega), gU_ne _ _ (by omega), gU_same]
  have C2 : GM' 17 = upd (GX 17) n6 (nI j) := by rw [l1 17 (by omega) (by omega), gU_same]
  have hlX : LdB FX GX n6 (nI j) (nI j) 0 (hF (sU FX 6 (nI (n6 + 1)))) (hG (sU FX 6 (nI (n6 + 1))) GX' n6 (nI j) 0) := by
    have hh := hd_b (F := sU FX 6 (nI (n6 + 1))) (G := GX') (G0 := GX) (z := n6) (a := nI j) (how := 0) (fun k q1 q2 => A1 k (by omega) (by omega) (by omega) (by omega))
    rw [sU_ne FX (k := 6) (j := 7) _ (by decide), sU_ne FX (k := 6) (j := 0) _ (by decide)] at hh
    refine ⟨?_, ?_, fun i hi => ?_, fun q => absurd rfl q, hh⟩
    · rw [hG_k (by omega), B1]
    · rw [hG_k (by omega), B2]
    · rw [hG_k (by omega), A1 18 (by omega) (by omega) (by omega) (by omega)]
  have hlM : LdB FM GM n6 (nI j) (nI j) 0 (hF (sU (sU FM 20 0) 6 (nI (n6 + 1)))) (hG (sU (sU FM 20 0) 6 (nI (n6 + 1))) (mM (sU (sU FM 20 0) 6 (nI (n6 + 1))) GM' n6 (nI j) (nI j)) n6 (nI j) 0) := by
    have hh := hd_b (F := sU (sU FM 20 0) 6 (nI (n6 + 1))) (G := mM (sU (sU FM 20 0) 6 (nI (n6 + 1))) GM' n6 (nI j) (nI j)) (G0 := GM) (z := n6) (a := nI j) (how := 0) (fun k q1 q2 => by rw [mM_k (by omega)]; exact A2 k (by omega) (by omega) (by omega) (by omega))
    rw [sU_ne (sU FM 20 0) (k := 6) (j := 7) _ (by decide), sU_ne (sU FM 20 0) (k := 6) (j := 0) _ (by decide), sU_ne FM (k := 20) (j := 7) _ (by decide), sU_ne FM (k := 20) (j := 0) _ (by decide)] at hh
    refine ⟨?_, ?_, fun i hi => ?_, fun q => absurd rfl q, hh⟩
    · rw [hG_k (by omega)]; simp (disch := decide) only [mM, ne_eq, not_true_eq_false, and_false, if_false, gU_ne, gU_same, C1, upd_i, g16]
    · rw [hG_k (by omega)]; simp (disch := decide) only [mM, ne_eq, not_true_eq_false, and_false, if_false, gU_ne, gU_same, C2, upd_i, g17]
    · rw [hG_k (by omega)]; simp (disch := decide) only [mM, ne_eq, not_true_eq_false, and_false, if_false, gU_ne, A2 18]
  refine ⟨EQ.mk ⟨fun k q1 q2 => ?_, fun k q1 q2 q3 => ?_⟩ (he.b.ld e0 e8 (by omega) hlX hlM) ?_ ?_ ?_ ?_, ?_, ?_⟩
  · rw [hF_k q2, hF_k q2]
    by_cases e : k = 6
    · subst e; rw [sU_same, sU_same]
    · rw [sU_ne _ _ e, sU_ne _ _ e, sU_ne _ _ (by omega)]; exact he.1 k q1
  · rw [hG_k (by omega), hG_k (by omega), mM_k (by omega), A1 k (by omega) (by omega) (by omega) (by omega), A2 k (by omega) (by omega) (by omega) (by omega)]; exact he.2.1 k q1 q2 (by omega)
  · rw [hG_k (by omega), hG_k (by omega), mM_k (by omega), A1 40 (by omega) (by omega) (by omega) (by omega), A2 50 (by omega) (by omega) (by omega) (by omega)]; exact he.2.2.1
  · intro l k hl hk
    rw [hG_k (by omega), hG_k (by omega), mM_k (by omega), A1 (l + 300) (by omega) (by omega) (by omega) (by omega), A2 51 (by omega) (by omega) (by omega) (by omega)]; exact he.2.2.2.1 l k hl hk
  · intro l k hl hk
    rw [hG_k (by omega), hG_k (by omega), mM_k (by omega), l2, gU_ne _ _ (by decide), gU_ne _ _ (by decide)]
    by_cases c : l = n6
    · subst c
      rw [k2, if_pos (by omega), if_pos (by omega)]
    · rw [if_neg (by omega), A1 (l + 100) (by omega) (by omega) (by omega) (by omega)]; exact he.2.2.2.2.1 l k hl hk
  · intro l k hl hk
    rw [hG_k (by omega), hG_k (by omega), mM_k (by omega), l3, gU_ne _ _ (by decide), gU_ne _ _ (by decide)]
    by_cases c : l = n6
    · subst c
      rw [k3, if_pos (by omega), if_pos (by omega)]
    · rw [if_neg (by omega), A1 (l + 200) (by omega) (by omega) (by omega) (by omega)]; exact he.2.2.2.2.2.1 l k hl hk
  · exact hI.2.1.cg (fun k hk => by rw [hF_k (by omega), sU_ne _ _ (by omega)]) (fun k hk => by rw [hG_k (by omega)]; exact A1 k (by omega) (by omega) (by omega) (by omega))
  · obtain ⟨b0, b2, b6, b7', b8, b12, b13, b16, b17, b24, b25, b26, b28, b18, bl, bh⟩ := hb
    unfold Bds
    rw [hF_k (by decide : 0 ≠ 7), hF_k (by decide : 2 ≠ 7), hF_k (by decide : 3 ≠ 7), hF_k (by decide : 6 ≠ 7), hF_k (by decide : 8 ≠ 7), hG_k (k := 12) (by omega), hG_k (k := 13) (by omega), hG_k (k := 16) (by omega), hG_k (k := 17) (by omega), hG_k (k := 24) (by omega), hG_k (k := 25) (by omega), hG_k (k := 26) (by omega), hG_k (k := 28) (by omega), hG_k (k := 18) (by omega)]
    rw [B1, B2, A1 12 (by omega) (by omega) (by omega) (by omega), A1 13 (by omega) (by omega) (by omega) (by omega), A1 24 (by omega) (by omega) (by omega) (by omega), A1 25 (by omega) (by omega) (by omega) (by omega), A1 26 (by omega) (by omega) (by omega) (by omega), A1 28 (by omega) (by omega) (by omega) (by omega), A1 18 (by omega) (by omega) (by omega) (by omega)]
    rw [sU_ne FX (j := 0) _ (by decide), sU_ne FX (j := 2) _ (by decide), sU_ne FX (j := 3) _ (by decide), sU_ne FX (j := 8) _ (by decide), sU_same]
    refine ⟨b0, b2, bd_n (by omega), hF_bd b7, b8, b12, b13, pp_upd b16 ppj, pp_upd b17 ppj, b24, b25, b26, b28, b18, fun l k hl => ?_, hd_h (n6 := n6 + 1) ?_ (sU_same _ _ _) (by omega) (by omega)⟩
    · rw [hG_k (by omega), A1 (l + 300) (by omega) (by omega) (by omega) (by omega)]; exact bl l k hl
    · obtain ⟨m6, n7, e6, e7, q6, q7, hh⟩ := bh
      have : m6 = n6 := (nI_eq (by omega) (by omega)).1 (e6.symm.trans h6)
      subst this
      refine ⟨m6 + 1, n7, sU_same _ _ _, ?_, by omega, q7, fun i hi => ?_⟩
      · rw [sU_ne _ _ (by decide)]; exact e7
      · rw [A1 19 (by omega) (by omega) (by omega) (by omega)]
        obtain ⟨j', h1, h2⟩ := hh i hi
        exact ⟨j', by omega, h2⟩
