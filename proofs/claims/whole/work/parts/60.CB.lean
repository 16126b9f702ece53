/-- what both sides write of a sale: n8 horse z, seller h, buyer k, price P, warrants W, land l, day D, titled T, purses p', chest c' -/
def saG (G B : GT) (n8 z : Nat) (h k P W l D T : Int32) (p' : Nat → Nat) (c' : Nat → Int32) : GT := gU (gU (gU (gU (gU (gU (gU (gU (gU (gU G 23 (upd (B 23) n8 (nI z))) 24 (upd (B 24) n8 h)) 25 (upd (B 25) n8 k)) 31 (upd (B 31) n8 T)) 26 (upd (B 26) n8 P)) 27 (upd (B 27) n8 W)) 28 (upd (B 28) n8 l)) 29 (upd (B 29) n8 D)) 11 (fun i => nI (p' i))) 10 c'
set_option maxHeartbeats 8000000 in
theorem stp_sell : Stp_sell Inv := by
  intro FX GX FM GM w hI x1 x2 x3 x4 x5
  obtain ⟨he, hm, hb⟩ := id hI
  obtain ⟨e0, e1, e2, e3, e4, e5, e6, e7, e8⟩ := he.F
  obtain ⟨g10, g11, g12, g13, g14, g15, g16, g17, g19, g20, g21, g22, g23, g24, g25, g26, g27, g28, g29, g30, g31⟩ := he.G
  obtain ⟨p, lf, u, c, d, o, n3, h11, h15, h30, h4, h5, h17, h3, hsp, hc, hpq, hq, hrest⟩ := id hm
  obtain ⟨n6, hn6, h6⟩ := hb.2.2.1
  obtain ⟨n8, hn8, h8⟩ := hb.2.2.2.2.1
  have hp0 : ∀ r : Int32, PS Inv FX GX r r (sU FM 20 0) GM w := fun r => ⟨rfl, hI.t⟩
  have q1 : PS Inv FX GX (-1 - 1) (-2) (sU FM 20 0) GM w := ⟨by decide, hI.t⟩
  have q2 : PS Inv FX GX (-1 - 2) (-3) (sU FM 20 0) GM w := ⟨by decide, hI.t⟩
  have q3 : PS Inv FX GX (-1 - 3) (-4) (sU FM 20 0) GM w := ⟨by decide, hI.t⟩
  have q4 : PS Inv FX GX (-1 - 4) (-5) (sU FM 20 0) GM w := ⟨by decide, hI.t⟩
  have f6 : sU FM 20 0 6 = nI n6 := by rw [sU_ne _ _ (by decide), e6, h6]
  have f3 : sU FM 20 0 3 = nI n3 := by rw [sU_ne _ _ (by decide), e3, h3]
  have f8 : sU FM 20 0 8 = nI n8 := by rw [sU_ne _ _ (by decide), e8, h8]
  have f0 : sU FM 20 0 0 = FX 0 := by rw [sU_ne _ _ (by decide), e0]
  simp only [wp_X7_sell, wp_X7_sell_0, wp_X7_whyNoSale, wp_X7_whyNoSale_0, wp_X1_has, wp_X1_has_0, wp_X4_hasPerson, wp_X4_hasPerson_0, wp_X7_isLand, wp_X7_isLand_0, wp_X8_sell, wp_X8_sell_0, wp_X8_isHorse, wp_X8_isHorse_0, wp_X8_isPerson, wp_X8_isPerson_0, forall_eq, f6, f3, f8, f0, g16, g17, g11, h6, h3, h8, h11]
  rcases pk_ix x1 (n := n6) (by omega) with a | a | ⟨z, hz, rfl⟩
  · simp +decide only [a, not_true_eq_false, not_false_eq_true, false_implies, true_implies, and_true, true_and, true_or, or_true, ne_eq, hp0, q1]
  · simp +decide only [a, gt_lt a (by omega), not_true_eq_false, not_false_eq_true, false_implies, true_implies, and_true, true_and, true_or, or_true, ne_eq, hp0, q1]
  simp +decide only [nI_pos (show z < 2 ^ 31 by omega), le_no hz (show n6 < 2 ^ 31 by omega), in_n hz hn6 (show 40 < 2 ^ 31 by omega), nI_clamp (show z < 2 ^ 31 by omega), not_true_eq_false, not_false_eq_true, false_implies, true_implies, and_true, true_and, true_or, or_true, ne_eq]
  rcases pk_ix x2 (n := n3) (by omega) with a | a | ⟨k, hk, rfl⟩
  · simp +decide only [a, not_true_eq_false, not_false_eq_true, false_implies, true_implies, and_true, true_and, true_or, or_true, ne_eq, hp0, q1]
  · simp +decide only [a, gt_lt a (by omega), not_true_eq_false, not_false_eq_true, false_implies, true_implies, and_true, true_and, true_or, or_true, ne_eq, hp0, q1]
  simp +decide only [nI_pos (show k < 2 ^ 31 by omega), le_no hk (show n3 < 2 ^ 31 by omega), in_n hk hq (show 16 < 2 ^ 31 by omega), nI_clamp (show k < 2 ^ 31 by omega), not_true_eq_false, not_false_eq_true, false_implies, true_implies, and_true, true_and, true_or, or_true, ne_eq]
  by_cases c1 : GX 16 z = nI k
  · simp +decide only [c1, not_true_eq_false, not_false_eq_true, false_implies, true_implies, and_true, true_and, true_or, or_true, ne_eq, hp0, q1]
  simp +decide only [c1, not_true_eq_false, not_false_eq_true, false_implies, true_implies, and_true, true_and, true_or, or_true, ne_eq]
  rcases pk_ix x5 (n := 3) (by omega) with a | a | ⟨l, hl, rfl⟩
  · simp +decide only [a, not_true_eq_false, not_false_eq_true, false_implies, true_implies, and_true, true_and, true_or, or_true, ne_eq, hp0, q2]
  · simp +decide only [show (3 : Int32) ≤ x5 from a, gt_lt a (by omega), not_true_eq_false, not_false_eq_true, false_implies, true_implies, and_true, true_and, true_or, or_true, ne_eq, hp0, q2]
  simp +decide only [nI_pos (show l < 2 ^ 31 by omega), show ¬ 3 ≤ nI l from le_no (b := 3) hl (by omega), not_true_eq_false, not_false_eq_true, false_implies, true_implies, and_true, true_and, true_or, or_true, ne_eq]
  rcases pk_ix x3 (n := 100001) (by omega) with a | a | ⟨P, hP, rfl⟩
  · simp +decide only [a, not_true_eq_false, not_false_eq_true, false_implies, true_implies, and_true, true_and, true_or, or_true, ne_eq, hp0, q2]
  · have a1 : 100000 < x3 := Int32.lt_of_lt_of_le (by decide : (100000 : Int32) < nI 100001) a
    simp +decide only [a1, gt_lt a (by omega), not_true_eq_false, not_false_eq_true, false_implies, true_implies, and_true, true_and, true_or, or_true, ne_eq, hp0, q2]
  have a1 : ¬ 100000 < nI P := nI_nlt (a := 100000) (by omega) (by omega)
  simp +decide only [nI_pos (show P < 2 ^ 31 by omega), a1, not_true_eq_false, not_false_eq_true, false_implies, true_implies, and_true, true_and, true_or, or_true, ne_eq]
  by_cases c2 : x4 < 0
  · simp +decide only [c2, not_true_eq_false, not_false_eq_true, false_implies, true_implies, and_true, true_and, true_or, or_true, ne_eq, hp0, q2]
  by_cases c3 : x4 ≤ 63
  case neg => simp +decide only [c2, c3, not_true_eq_false, not_false_eq_true, false_implies, true_implies, and_true, true_and, true_or, or_true, ne_eq, hp0, q2]
  simp +decide only [c2, c3, not_true_eq_false, not_false_eq_true, false_implies, true_implies, and_true, true_and, true_or, or_true, ne_eq]
  have pk16 := sm_ge (p := p) (k := k) 16 (by omega)
  by_cases c4 : P ≤ p k
  case neg =>
    have c4' : ¬ nI P ≤ nI (p k) := le_no (by omega) (by omega)
    simp +decide only [c4', not_true_eq_false, not_false_eq_true, false_implies, true_implies, and_true, true_and, true_or, or_true, ne_eq, hp0, q3]
  have c4' : nI P ≤ nI (p k) := le_ya c4 (by omega)
  simp +decide only [c4', not_true_eq_false, not_false_eq_true, false_implies, true_implies, and_true, true_and, true_or, or_true, ne_eq]
  by_cases c5 : n8 = 80
  · subst c5
    simp +decide only [not_true_eq_false, not_false_eq_true, false_implies, true_implies, and_true, true_and, true_or, or_true, ne_eq, hp0, q4]
  have c5a : nI n8 < 80 := nI_lt (b := 80) (by omega) (by omega)
  have c5b : ¬ nI n8 = 80 := fun q => c5 ((nI_eq (b := 80) (by omega) (by omega)).1 q)
  simp +decide only [c5a, c5b, not_true_eq_false, not_false_eq_true, false_implies, true_implies, and_true, true_and, true_or, or_true, ne_eq]
  -- the sale itself
  obtain ⟨N, hN, hlaw⟩ := hb.2.2.2.2.2.2.2.2.2.2.2.2.2.2.1 l 0 hl
  have p16 := hb.2.2.2.2.2.2.2.1 z
  have p16' := p16
  rw [h3] at p16'
  obtain ⟨H, hH, hH16, hHe⟩ := pp_q p16' hq
  obtain ⟨t1, t2, t3⟩ := toll (P := P) (N := N) (by omega) hN
  have p17 := hb.2.2.2.2.2.2.2.2.1 z
  have pk' : pp (FX 3) (nI k) := by rw [h3]; exact pp_n hq (by omega)
  obtain ⟨p1, hp1⟩ : ∃ p1, p1 = nu (nu p k (p k - P)) H (nu p k (p k - P) H + (P - P * N / 1000)) := ⟨_, rfl⟩
  have s1 := sm_nu (p := p) (k := k) (y := p k - P) 16 (by omega)
  have s2 := sm_nu (p := nu p k (p k - P)) (k := H) (y := nu p k (p k - P) H + (P - P * N / 1000)) 16 hH16
  have hs : sm p1 16 ≤ c := by rw [hp1]; omega
  have k14 : (14 : Int32) * nI l + 0 = nI (14 * l + 0) := by rw [show (14 : Int32) = nI 14 from rfl, pk_mul, show (0 : Int32) = nI 0 from rfl, nI_add]
  have mlaw : GM 51 (14 * l + 0) = nI N := (he.2.2.2.1 l 0 hl (by omega)).trans hlaw
  have key : ∀ (T t : Int32), (T = 0 ∨ T = 1) → pp (FX 3) t → Inv (sU FX 8 (nI (n8 + 1))) (saG GX GX n8 z (nI H) (nI k) (nI P) x4 (nI l) (FX 0) T p1 (upd (GX 10) l (GX 10 l + nI (P * N / 1000)))) (sU (sU FM 20 0) 8 (nI (n8 + 1))) (saG GM GX n8 z (nI H) (nI k) (nI P) x4 (nI l) (FX 0) T p1 (upd (GX 10) l (GX 10 l + nI (P * N / 1000)))) w := by
    intro T t hT ht
    refine ⟨?_, ?_, ?_⟩
    · unfold saG
      have h := (hI.1.t (z := 0)).sF 8 (nI (n8 + 1))
      have h := h.gG 23 (by omega) (by omega) (by omega) (by omega) (by omega) (upd (GX 23) n8 (nI z))
      have h := h.gG 24 (by omega) (by omega) (by omega) (by omega) (by omega) (upd (GX 24) n8 (nI H))
      have h := h.gG 25 (by omega) (by omega) (by omega) (by omega) (by omega) (upd (GX 25) n8 (nI k))
      have h := h.gG 31 (by omega) (by omega) (by omega) (by omega) (by omega) (upd (GX 31) n8 T)
      have h := h.gG 26 (by omega) (by omega) (by omega) (by omega) (by omega) (upd (GX 26) n8 (nI P))
      have h := h.gG 27 (by omega) (by omega) (by omega) (by omega) (by omega) (upd (GX 27) n8 x4)
      have h := h.gG 28 (by omega) (by omega) (by omega) (by omega) (by omega) (upd (GX 28) n8 (nI l))
      have h := h.gG 29 (by omega) (by omega) (by omega) (by omega) (by omega) (upd (GX 29) n8 (FX 0))
      have h := h.gG 11 (by omega) (by omega) (by omega) (by omega) (by omega) (fun i => nI (p1 i))
      exact h.gG 10 (by omega) (by omega) (by omega) (by omega) (by omega) _
    · refine ⟨p1, lf, u, c, d, o, n3, ?_, ?_, ?_, (sU_ne _ _ (by decide)).trans h4, (sU_ne _ _ (by decide)).trans h5, (sU_ne _ _ (by decide)).trans h17, (sU_ne _ _ (by decide)).trans h3, hs, hc, fun i hi => ?_, hq, hrest⟩
      · unfold saG; simp (disch := decide) only [gU_ne, gU_same]
      · unfold saG; simp (disch := decide) only [gU_ne, gU_same, h15]
      · unfold saG; simp (disch := decide) only [gU_ne, gU_same, h30]
      · rw [hp1, nu_n (by omega), nu_n (by omega)]; exact hpq i hi
    · obtain ⟨b0, b2, b6, b7, b8, b12, b13, b16, b17, b24, b25, b26, b28, b18, bl, bh⟩ := hb
      unfold Bds saG
      simp (disch := decide) only [sU_ne, sU_same, gU_ne, gU_same]
      refine ⟨b0, b2, b6, b7, bd_n (by omega), b12, b13, b16, b17, pp_upd b24 (by rw [← hHe]; exact p16), pp_upd b25 pk', bd_upd b26 (bd_n (by omega)), bd_upd b28 (bd_n (by omega)), b18, fun l' k' hl' => ?_, Hnd.cg bh (sU_ne _ _ (by decide)) (sU_ne _ _ (by decide)) ?_⟩
      · simp (disch := omega) only [gU_ne]; exact bl l' k' hl'
      · simp (disch := decide) only [gU_ne]
  have fin : ∀ (T t : Int32), (T = 0 ∨ T = 1) → pp (FX 3) t → (T = 0 → t = GX 17 z) → (T = 1 → t = nI k) → vp_nar .boolean T = T → wp_X7_sell_53 (fun r F2 G2 => wp_X8_sell_193 (PS Inv F2 G2 r) (nI z) (nI k) (nI P) (nI l) (nI n8) T (nI n8) (sU FM 20 0) (gU (gU (gU (gU (gU (gU (gU GM 23 (upd (GX 23) n8 (nI z))) 24 (upd (GX 24) n8 (nI H))) 25 (upd (GX 25) n8 (nI k))) 26 (upd (GX 26) n8 (nI P))) 27 (upd (GX 27) n8 x4)) 28 (upd (GX 28) n8 (nI l))) 29 (upd (GX 29) n8 (FX 0))) w) (nI z) (nI k) (nI P) x4 (nI l) (nI H) T FX GX := by
    intro T t hT ht ht0 ht1 hv
    obtain ⟨FM', GM', r1, r2⟩ := sl_a (key T t hT ht) (z := z) (n6 := n6) (by rw [sU_ne _ _ (by decide), h6]) hn6 hz (a := nI k) (t := t) (how := 1) (by rw [sU_ne _ _ (by decide)]; exact pk') (by rw [sU_ne _ _ (by decide)]; exact ht)
    have hf17 : saG GX GX n8 z (nI H) (nI k) (nI P) x4 (nI l) (FX 0) T p1 (upd (GX 10) l (GX 10 l + nI (P * N / 1000))) 17 = GX 17 := by unfold saG; simp (disch := decide) only [gU_ne]
    have hM : ∀ P' : Int32 → FT → GT → Int64 → Prop, P' (nI n8) FM' GM' w → wp_X8_sell_193 P' (nI z) (nI k) (nI P) (nI l) (nI n8) T (nI n8) (sU FM 20 0) (gU (gU (gU (gU (gU (gU (gU GM 23 (upd (GX 23) n8 (nI z))) 24 (upd (GX 24) n8 (nI H))) 25 (upd (GX 25) n8 (nI k))) 26 (upd (GX 26) n8 (nI P))) 27 (upd (GX 27) n8 x4)) 28 (upd (GX 28) n8 (nI l))) 29 (upd (GX 29) n8 (FX 0))) w := by
      intro P' hP'
      have hr := r2 (fun F G w => P' (nI n8) F G w) hP'
      unfold saG at hr
      rw [gU_c (a := 31) (b := 26) (by decide), gU_c (a := 31) (b := 27) (by decide), gU_c (a := 31) (b := 28) (by decide), gU_c (a := 31) (b := 29) (by decide), hp1] at hr
      simp (disch := omega) only [wp_X8_sell_193, forall_eq, vp_in_nI (show n8 < 80 by omega) (show 80 < 2 ^ 31 by omega), nI_clamp (show n8 < 2 ^ 31 by omega), gU_ne, gU_same, g31, g11, g10, hv, k14, vp_in_nI (show 14 * l + 0 < 56 by omega) (show 56 < 2 ^ 31 by omega), nI_clamp (show 14 * l + 0 < 2 ^ 31 by omega), mlaw, t2, in_n hk hq (show 16 < 2 ^ 31 by omega), nI_clamp (show k < 2 ^ 31 by omega), h11, pk_sub c4, upd_nI, pk_us, vp_in_nI hH16 (show 16 < 2 ^ 31 by omega), nI_clamp (show H < 2 ^ 31 by omega), pk_sub t3, nI_add, gU_i, vp_in_nI hl (show 3 < 2 ^ 31 by omega), nI_clamp (show l < 2 ^ 31 by omega), f8, nI_1, in_n hz hn6 (show 40 < 2 ^ 31 by omega), nI_clamp (show z < 2 ^ 31 by omega), g17, wp_X8_sell_291, not_true_eq_false, not_false_eq_true, false_implies, true_implies, and_true, true_and, true_or, or_true, ne_eq]
      rcases hT with rfl | rfl
      · rw [ht0 rfl] at hr
        simp +decide only [not_true_eq_false, not_false_eq_true, false_implies, true_implies, and_true, true_and, true_or, or_true, ne_eq]; exact hr
      · rw [ht1 rfl] at hr
        simp +decide only [not_true_eq_false, not_false_eq_true, false_implies, true_implies, and_true, true_and, true_or, or_true, ne_eq]; exact hr
    have r1' := r1 (fun F11 G12 => ((T = 0) → wp_X7_lead (nI z) (nI k) (G12 17 z) 1 F11 G12 (fun F1 G2 => wp_X8_sell_193 (PS Inv F1 G2 (nI n8)) (nI z) (nI k) (nI P) (nI l) (nI n8) T (nI n8) (sU FM 20 0) (gU (gU (gU (gU (gU (gU (gU GM 23 (upd (GX 23) n8 (nI z))) 24 (upd (GX 24) n8 (nI H))) 25 (upd (GX 25) n8 (nI k))) 26 (upd (GX 26) n8 (nI P))) 27 (upd (GX 27) n8 x4)) 28 (upd (GX 28) n8 (nI l))) 29 (upd (GX 29) n8 (FX 0))) w)) ∧ ((¬ T = 0) → wp_X7_lead (nI z) (nI k) (nI k) 1 F11 G12 (fun F1 G2 => wp_X8_sell_193 (PS Inv F1 G2 (nI n8)) (nI z) (nI k) (nI P) (nI l) (nI n8) T (nI n8) (sU FM 20 0) (gU (gU (gU (gU (gU (gU (gU GM 23 (upd (GX 23) n8 (nI z))) 24 (upd (GX 24) n8 (nI H))) 25 (upd (GX 25) n8 (nI k))) 26 (upd (GX 26) n8 (nI P))) 27 (upd (GX 27) n8 x4)) 28 (upd (GX 28) n8 (nI l))) 29 (upd (GX 29) n8 (FX 0))) w))) (fun FX1 GX1 f1 f2 => by
      refine ⟨fun h => ?_, fun h => ?_⟩
      · rw [f1 17 (by omega), hf17, ← ht0 h]
        exact f2 _ (fun FX' GX' i1 => hM _ ⟨rfl, i1⟩)
      · rw [ht1 (hT.resolve_left h)] at f2
        exact f2 _ (fun FX' GX' i1 => hM _ ⟨rfl, i1⟩))
    unfold saG at r1'
    rw [hp1] at r1'
    simp (disch := omega) only [wp_X7_sell_53, wp_X7_sell_115, wp_X5_add, wp_X5_add_0, wp_X5_setTerms, wp_X5_setTerms_0, wp_X7_payPrice, wp_X7_payPrice_0, wp_X2_number, wp_X2_number_0, forall_eq, h8, nI_1, vp_in_nI (show n8 < 80 by omega) (show 80 < 2 ^ 31 by omega), nI_clamp (show n8 < 2 ^ 31 by omega), gU_ne, gU_same, sU_ne, hv, pk_us, vp_in_nI hl (show 3 < 2 ^ 31 by omega), nI_clamp (show l < 2 ^ 31 by omega), show vp_in (0 : Int32) 14 from vp_in_nI (n := 0) (by omega) (by omega), show (0 : Int32).toNatClampNeg = 0 from rfl, hlaw, t1, in_n hk hq (show 16 < 2 ^ 31 by omega), nI_clamp (show k < 2 ^ 31 by omega), h11, pk_sub c4, upd_nI, vp_in_nI hH16 (show 16 < 2 ^ 31 by omega), nI_clamp (show H < 2 ^ 31 by omega), pk_sub t3, nI_add, gU_i, in_n hz hn6 (show 40 < 2 ^ 31 by omega), nI_clamp (show z < 2 ^ 31 by omega), not_true_eq_false, not_false_eq_true, false_implies, true_implies, and_true, true_and, true_or, or_true, ne_eq]
    exact r1'
  simp (disch := omega) only [vp_in_nI (show n8 < 80 by omega) (show 80 < 2 ^ 31 by omega), nI_clamp (show n8 < 2 ^ 31 by omega), forall_eq, gU_ne, e0, e1, e2, e3, e4, e5, e6, e7, e8, g10, g11, g12, g13, g14, g15, g16, g17, g19, g20, g21, g22, g23, g24, g25, g26, g27, g28, g29, g30, g31, hHe, not_true_eq_false, not_false_eq_true, false_implies, true_implies, and_true, true_and, true_or, or_true, ne_eq]
  by_cases c6 : GX 17 z = nI H
  · have := fin 1 (nI k) (.inr rfl) pk' (fun q => absurd q (by decide)) (fun _ => rfl) rfl
    simp +decide only [c6, not_true_eq_false, not_false_eq_true, false_implies, true_implies, and_true, true_and, true_or, or_true, ne_eq]
    exact this
  · have := fin 0 (GX 17 z) (.inl rfl) p17 (fun _ => rfl) (fun q => absurd q (by decide)) rfl
    simp +decide only [c6, not_true_eq_false, not_false_eq_true, false_implies, true_implies, and_true, true_and, true_or, or_true, ne_eq]
    exact this
