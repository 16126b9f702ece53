theorem x_clr {F : FT} {Q : FT → GT → Prop} : ∀ m i G, i + m = 14 → (∀ G' : GT, (∀ k, k ≠ 41 → k ≠ 42 → G' k = G k) → (∀ j, G' 41 j = if i ≤ j ∧ j < 14 then 0 else G 41 j) → (∀ j, G' 42 j = if i ≤ j ∧ j < 14 then 0 else G 42 j) → Q (sU (sU (sU (sU (sU (sU (sU F 10 0) 11 0) 12 0) 13 1) 14 0) 15 0) 16 0) G') → wp_X3_clear_2 Q (m + 1) (nI i) F G
  | 0, i, G, hi, hQ => by
    have e : i = 14 := by omega
    subst e
    simp +decide only [wp_X3_clear_2, forall_eq, not_true_eq_false, not_false_eq_true, false_implies, true_implies, and_true, true_and, true_or, or_true, ne_eq]
    exact hQ G (fun _ _ _ => rfl) (fun j => by rw [if_neg (by omega)]) (fun j => by rw [if_neg (by omega)])
  | m + 1, i, G, hi, hQ => by
    rw [wp_X3_clear_2]
    simp only [show ¬ 14 ≤ nI i from le_no (b := 14) (by omega) (by omega), vp_in_nI (show i < 14 by omega) (show 14 < 2 ^ 31 by omega), nI_clamp (show i < 2 ^ 31 by omega), forall_eq, nI_1, nb0, gU_ne G _ (show 42 ≠ 41 by decide), not_true_eq_false, not_false_eq_true, false_implies, true_implies, and_true, true_and, true_or, or_true, ne_eq]
    refine x_clr m (i + 1) _ (by omega) (fun G' h1 h2 h3 => hQ G' (fun k q1 q2 => ?_) (fun j => ?_) (fun j => ?_))
    · rw [h1 k q1 q2, gU_ne _ _ q2, gU_ne _ _ q1]
    · rw [h2 j, gU_ne _ _ (by decide), gU_same, upd_e]
      by_cases c1 : j = i
      · rw [if_pos c1, if_pos (show i ≤ j ∧ j < 14 by omega), ite_self]
      · rw [if_neg c1]
        by_cases c2 : i ≤ j ∧ j < 14
        · rw [if_pos c2, if_pos (by omega)]
        · rw [if_neg c2, if_neg (by omega)]
    · rw [h3 j, gU_same, upd_e]
      by_cases c1 : j = i
      · rw [if_pos c1, if_pos (show i ≤ j ∧ j < 14 by omega), ite_self]
      · rw [if_neg c1]
        by_cases c2 : i ≤ j ∧ j < 14
        · rw [if_pos c2, if_pos (by omega)]
        · rw [if_neg c2, if_neg (by omega)]
theorem m_clr {F : FT} {w : Int64} {x1 : Int32} {Q : Int32 → FT → GT → Int64 → Prop} : ∀ m i G, i + m = 14 → (∀ G' : GT, (∀ k, k ≠ 51 → G' k = G k) → (∀ j, G' 51 j = if 42 + i ≤ j ∧ j < 56 then 0 else G 51 j) → wp_X8_law_44 Q 1 x1 14 F G' w) → wp_X8_law_44 Q (m + 1) x1 (nI i) F G w
  | 0, i, G, hi, hQ => by
    have e : i = 14 := by omega
    subst e
    exact hQ G (fun _ _ => rfl) (fun j => by rw [if_neg (by omega)])
  | m + 1, i, G, hi, hQ => by
    rw [wp_X8_law_44]
    have k42 : (42 : Int32) + nI i = nI (42 + i) := nI_add 42 i
    simp only [show ¬ 14 ≤ nI i from le_no (b := 14) (by omega) (by omega), k42, vp_in_nI (show 42 + i < 56 by omega) (show 56 < 2 ^ 31 by omega), nI_clamp (show 42 + i < 2 ^ 31 by omega), forall_eq, nI_1, not_true_eq_false, not_false_eq_true, false_implies, true_implies, and_true, true_and, true_or, or_true, ne_eq]
    refine m_clr m (i + 1) _ (by omega) (fun G' h1 h2 => hQ G' (fun k q1 => ?_) (fun j => ?_))
    · rw [h1 k q1, gU_ne _ _ q1]
    · rw [h2 j, gU_same, upd_e]
      by_cases c1 : j = 42 + i
      · rw [if_pos c1, if_pos (show 42 + i ≤ j ∧ j < 56 by omega), ite_self]
      · rw [if_neg c1]
        by_cases c2 : 42 + i ≤ j ∧ j < 56
        · rw [if_pos c2, if_pos (by omega)]
        · rw [if_neg c2, if_neg (by omega)]
theorem x_adp {F : FT} {l : Nat} (hl : l < 3) {Q : FT → GT → Prop} : ∀ m i G, i + m = 14 → (∀ G' : GT, (∀ k, k ≠ l + 300 → G' k = G k) → (∀ j, G' (l + 300) j = if i ≤ j ∧ j < 14 then G 41 j else G (l + 300) j) → Q F G') → wp_X2_adopt_2 Q (m + 1) (nI l) (nI i) F G
  | 0, i, G, hi, hQ => by
    have e : i = 14 := by omega
    subst e
    simp +decide only [wp_X2_adopt_2, not_true_eq_false, not_false_eq_true, false_implies, true_implies, and_true, true_and, true_or, or_true, ne_eq]
    exact hQ G (fun _ _ => rfl) (fun j => by rw [if_neg (by omega)])
  | m + 1, i, G, hi, hQ => by
    rw [wp_X2_adopt_2]
    simp only [show ¬ 14 ≤ nI i from le_no (b := 14) (by omega) (by omega), vp_in_nI hl (show 3 < 2 ^ 31 by omega), vp_in_nI (show i < 14 by omega) (show 14 < 2 ^ 31 by omega), nI_clamp (show i < 2 ^ 31 by omega), nI_clamp (show l < 2 ^ 31 by omega), forall_eq, nI_1, not_true_eq_false, not_false_eq_true, false_implies, true_implies, and_true, true_and, true_or, or_true, ne_eq]
    refine x_adp hl m (i + 1) _ (by omega) (fun G' h1 h2 => hQ G' (fun k q1 => ?_) (fun j => ?_))
    · rw [h1 k q1, gU_ne _ _ q1]
    · rw [h2 j, gU_same, upd_e, gU_ne _ _ (by omega)]
      by_cases c1 : j = i
      · rw [if_pos c1, if_pos (show i ≤ j ∧ j < 14 by omega), c1, ite_self]
      · rw [if_neg c1]
        by_cases c2 : i ≤ j ∧ j < 14
        · rw [if_pos c2, if_pos (by omega)]
        · rw [if_neg c2, if_neg (by omega)]
theorem m_cpy {F : FT} {w : Int64} {x2 : Int32} {l : Nat} (hl : l < 3) {Q : Int32 → FT → GT → Int64 → Prop} : ∀ m i G, i + m = 14 → (∀ G' : GT, (∀ k, k ≠ 51 → G' k = G k) → (∀ j, G' 51 j = if 14 * l + i ≤ j ∧ j < 14 * l + 14 then G 51 (42 + (j - 14 * l)) else G 51 j) → Q x2 F G' w) → wp_X8_law_110 Q (m + 1) (nI l) x2 (nI i) F G w
  | 0, i, G, hi, hQ => by
    have e : i = 14 := by omega
    subst e
    simp +decide only [wp_X8_law_110, not_true_eq_false, not_false_eq_true, false_implies, true_implies, and_true, true_and, true_or, or_true, ne_eq]
    exact hQ G (fun _ _ => rfl) (fun j => by rw [if_neg (by omega)])
  | m + 1, i, G, hi, hQ => by
    rw [wp_X8_law_110]
    have k42 : (42 : Int32) + nI i = nI (42 + i) := nI_add 42 i
    have k14 : (14 : Int32) * nI l + nI i = nI (14 * l + i) := by rw [show (14 : Int32) = nI 14 from rfl, pk_mul, nI_add]
    simp only [show ¬ 14 ≤ nI i from le_no (b := 14) (by omega) (by omega), k42, k14, vp_in_nI (show 42 + i < 56 by omega) (show 56 < 2 ^ 31 by omega), vp_in_nI (show 14 * l + i < 56 by omega) (show 56 < 2 ^ 31 by omega), nI_clamp (show 42 + i < 2 ^ 31 by omega), nI_clamp (show 14 * l + i < 2 ^ 31 by omega), forall_eq, nI_1, not_true_eq_false, not_false_eq_true, false_implies, true_implies, and_true, true_and, true_or, or_true, ne_eq]
    refine m_cpy hl m (i + 1) _ (by omega) (fun G' h1 h2 => hQ G' (fun k q1 => ?_) (fun j => ?_))
    · rw [h1 k q1, gU_ne _ _ q1]
    · rw [h2 j, gU_same]
      by_cases c1 : j = 14 * l + i
      · rw [if_neg (by omega), upd_e, if_pos c1, if_pos (show 14 * l + i ≤ j ∧ j < 14 * l + 14 by omega), show 42 + (j - 14 * l) = 42 + i by omega]
      · by_cases c2 : 14 * l + i ≤ j ∧ j < 14 * l + 14
        · rw [if_pos c2, if_pos (by omega), upd_e, if_neg (by omega)]
        · rw [if_neg c2, if_neg (by omega), upd_e, if_neg c1]
set_option maxHeartbeats 8000000 in
theorem stp_law : Stp_law Inv := by
  intro FX GX FM GM w hI x1 f
  obtain ⟨he, hm, hb⟩ := id hI
  obtain ⟨T, hT, h2⟩ := hb.2.1
  have m2 : FM 2 = nI T := by rw [he.1 2 (by omega), h2]
  simp only [wp_X7_law, wp_X7_law_0, wp_X7_isLand, wp_X7_isLand_0]
  rcases pk_ix x1 (n := 3) (by omega) with a | a | ⟨l, hl, rfl⟩
  · simp +decide only [wp_X8_law, wp_X8_law_0, wp_X8_law_9, wp_X8_refuse, wp_X8_refuse_0, forall_eq, a, not_true_eq_false, not_false_eq_true, false_implies, true_implies, and_true, true_and, true_or, or_true, ne_eq, pt_1 hI]
  · simp +decide only [wp_X8_law, wp_X8_law_0, wp_X8_law_9, wp_X8_refuse, wp_X8_refuse_0, forall_eq, show (3 : Int32) ≤ x1 from a, show ¬ x1 < 3 from gt_ltn a, gt_lt a (by omega), not_true_eq_false, not_false_eq_true, false_implies, true_implies, and_true, true_and, true_or, or_true, ne_eq, pt_1 hI]
  simp +decide only [nI_pos (show l < 2 ^ 31 by omega), show ¬ 3 ≤ nI l from le_no (b := 3) hl (by omega), not_true_eq_false, not_false_eq_true, false_implies, true_implies, and_true, true_and, true_or, or_true, ne_eq]
  -- the text
  obtain ⟨b, hbd⟩ : ∃ b : Nat → Nat, b = fun i => (GX 40 i &&& 255).toNatClampNeg := ⟨_, rfl⟩
  have bb : ∀ i, b i < 256 ∧ GX 40 i &&& 255 = nI (b i) := by
    intro i
    obtain ⟨j, hj, e⟩ := pk_andE (GX 40 i) (m := 255) 8 rfl
    rw [hbd]
    show (GX 40 i &&& 255).toNatClampNeg < 256 ∧ GX 40 i &&& 255 = nI (GX 40 i &&& 255).toNatClampNeg
    rw [e, nI_clamp (by omega)]
    exact ⟨hj, rfl⟩
  unfold wp_X3_readAll wp_X3_readAll_0
  refine ⟨15, x_clr 14 0 GX (by omega) (fun G1 c1 c41 c42 v3 hv3 => ?_)⟩
  obtain ⟨F1, hF1⟩ : ∃ F1, F1 = sU (sU (sU (sU (sU (sU (sU FX 10 0) 11 0) 12 0) 13 1) 14 0) 15 0) 16 0 := ⟨_, rfl⟩
  rw [← hF1] at hv3 ⊢
  have F1k : ∀ k, k < 10 ∨ 16 < k → F1 k = FX k := fun k hk => by rw [hF1, sU_ne _ _ (by omega), sU_ne _ _ (by omega), sU_ne _ _ (by omega), sU_ne _ _ (by omega), sU_ne _ _ (by omega), sU_ne _ _ (by omega), sU_ne _ _ (by omega)]
  have F1_10 : F1 10 = 0 := by rw [hF1]; simp (disch := decide) only [sU_ne, sU_same]
  have F1_11 : F1 11 = 0 := by rw [hF1]; simp (disch := decide) only [sU_ne, sU_same]
  have F1_13 : F1 13 = 1 := by rw [hF1]; simp (disch := decide) only [sU_ne, sU_same]
  have F1_14 : F1 14 = 0 := by rw [hF1]; simp (disch := decide) only [sU_ne, sU_same]
  have F1_15 : F1 15 = nI 0 := by rw [hF1]; simp (disch := decide) only [sU_ne, sU_same]; rfl
  have hTX : TX b T F1 G1 := ⟨by rw [F1k 2 (by omega)]; exact h2, hT, fun i => (bb i).1, fun i _ => by rw [c1 40 (by decide) (by decide)]; exact (bb i).2⟩
  obtain ⟨lim, hlim⟩ : ∃ lim, lim = if 300 < T then 300 else T := ⟨_, rfl⟩
  have hv : v3 = nI lim := by
    rw [hv3, F1k 2 (by omega), h2, hlim]
    by_cases c : 300 < T
    · rw [if_pos c, if_pos (show (300 : Int32) < nI T from nI_lt (a := 300) c (by omega))]; rfl
    · rw [if_neg c, if_neg (show ¬ (300 : Int32) < nI T from nI_nlt (a := 300) (by omega) (by omega))]
  rw [hv]
  have hs0 := bk_le (b := b) (T := T) (i := 0) (by omega)
  refine ⟨T + 1, ?_⟩
  have hsk := x_skip hTX (Q := fun F4 G5 => ∃ n, wp_X3_readAll_22 (fun F4 G5 => ∀ F6 : FT, F6 = sU F4 2 (0 : Int32) → ∀ F7 : FT, F7 = sU F6 1 (F6 11) → (((F7 1) = 0) → wp_X2_adopt (nI l) F7 G5 (fun F8 G9 => wp_X8_law (nI l) FM GM w (PT Inv F8 G9 0 (vp_updL f 0 (F8 10).toInt64)))) ∧ ((¬ (F7 1) = 0) → wp_X8_law (nI l) FM GM w (PT Inv F7 G5 0 (vp_updL f 0 ((-1 : Int32) - (F7 12)).toInt64)))) n (nI lim) 0 F4 G5) T 0 (by omega) (by omega)
  rw [sU_e F1_15] at hsk
  refine hsk ⟨lim + 1, ?_⟩
  have e0 : rn (fun i => iB (b i)) T T 0 = bk b T 0 := by unfold bk; rfl
  rw [e0]
  -- M's start
  obtain ⟨FM0, hFM0⟩ : ∃ FM0, FM0 = sU (sU (sU (sU (sU FM 20 0) 21 (nI T)) 2 0) 1 0) 27 0 := ⟨_, rfl⟩
  have M0k : ∀ k, k < 20 → k ≠ 1 → k ≠ 2 → FM0 k = FM k := fun k hk q1 q2 => by rw [hFM0, sU_ne _ _ (by omega), sU_ne _ _ q1, sU_ne _ _ q2, sU_ne _ _ (by omega), sU_ne _ _ (by omega)]
  have M0_1 : FM0 1 = 0 := by rw [hFM0]; simp (disch := decide) only [sU_ne, sU_same]
  have M0_2 : FM0 2 = 0 := by rw [hFM0]; simp (disch := decide) only [sU_ne, sU_same]
  have M0_20 : FM0 20 = 0 := by rw [hFM0]; simp (disch := decide) only [sU_ne, sU_same]
  have M0_21 : FM0 21 = nI T := by rw [hFM0]; simp (disch := decide) only [sU_ne, sU_same]
  have M0_27 : FM0 27 = nI 0 := by rw [hFM0]; simp (disch := decide) only [sU_ne, sU_same]; rfl
  refine sim (l := l) (F0 := FX) (G0 := GX) (FM0 := FM0) (GM0 := GM) hT hlim (lim + 1) 1 0 0 (bk b T 0) 0 0 _ G1 (by omega) (by omega) hs0.2 (by omega) (by omega) (fun q => by omega) (fun q => by omega) (by decide) ⟨⟨?_, hTX.2⟩, sU_same _ _ _, ?_, ?_, ?_, ?_, fun k hk => ?_, c1⟩ (fun k hk => ?_) (fun k hk => ?_) _ (fun F' G' hXF hR F6 hF6 F7 hF7 => ?_)
  · rw [sU_ne _ _ (by decide)]; exact hTX.1
  · rw [sU_ne _ _ (by decide)]; exact F1_13
  · rw [sU_ne _ _ (by decide)]; exact F1_14
  · rw [sU_ne _ _ (by decide)]; exact F1_10
  · rw [sU_ne _ _ (by decide)]; exact F1_11
  · rw [sU_ne _ _ (by omega)]; exact F1k k hk
  · rw [c41 k, if_pos (by omega)]; exact bd_0
  · rw [c42 k, if_pos (by omega)]; simp
  -- the end of the reading
  obtain ⟨xF, xG, xb⟩ := hXF
  have M : ∀ P : Int32 → FT → GT → Int64 → Prop, HY l FM0 GM F' G' P → wp_X8_law (nI l) FM GM w P := by
    intro P hHY
    unfold wp_X8_law wp_X8_law_0
    refine ⟨fun q => absurd q (nI_pos (by omega)), fun _ => ⟨fun _ Fa ha Fb hb' Fc hc Fd hd Fe he' => ?_, fun q => absurd (nI_lt (b := 3) hl (by omega)) q⟩⟩
    have eFe : Fe = FM0 := by
      rw [he', hd, hc, hb', ha, hFM0, sU_ne _ _ (show 2 ≠ 20 by decide), m2]
    rw [eFe]
    refine ⟨15, m_clr 14 0 GM (by omega) (fun GM1 d1 d51 => ?_)⟩
    rw [wp_X8_law_44]
    refine ⟨fun _ Ff hf => ?_, fun q => absurd (by decide) q⟩
    subst hf
    have hTM : TM b T (sU FM0 22 0) GM1 := ⟨by rw [sU_ne _ _ (by decide)]; exact M0_21, hT, fun i => (bb i).1, fun i hi => by rw [d1 50 (by decide), he.2.2.1 i hi]; exact (bb i).2⟩
    refine MS.go (FM0 := FM0) (GM0 := GM) (t := 0) hTM (i := 0) (sU_same _ _ _) (by omega) (by rw [sU_ne _ _ (by decide)]; exact M0_27) (fun k hk => sU_ne _ _ (by omega)) d1 (fun i hi => by rw [d51 i, if_neg (by omega)]) (fun FM2 w2 hMS => ⟨lim + 1, ?_⟩)
    exact (hR (lim + 1) FM2 GM1 w2 P (Nat.le_refl _) hMS (fun k hk => by rw [d51, if_pos (by omega), c41 k, if_pos (by omega)]) hHY).1 rfl
  have e11 : F6 11 = F' 11 := by rw [hF6, sU_ne _ _ (by decide)]
  have F7k : ∀ k, k ≠ 1 → k ≠ 2 → F7 k = F' k := fun k q1 q2 => by rw [hF7, sU_ne _ _ q1, hF6, sU_ne _ _ q2]
  have F7_1 : F7 1 = F' 11 := by rw [hF7, sU_same, e11]
  have F7_2 : F7 2 = 0 := by rw [hF7, sU_ne _ _ (by decide), hF6, sU_same]
  -- what holds of both sides then, the law apart
  have eqF : ∀ FM' : FT, (∀ k, k < 21 → k ≠ 1 → FM' k = FM0 k) → FM' 1 = F' 11 → ∀ k, k < 9 → FM' k = F7 k := by
    intro FM' q1 q2 k hk
    by_cases k1 : k = 1
    · subst k1; rw [q2, F7_1]
    by_cases k2 : k = 2
    · subst k2; rw [q1 2 (by omega) (by omega), M0_2, F7_2]
    rw [q1 k (by omega) k1, M0k k (by omega) k1 k2, F7k k k1 k2, xF k (by omega)]
    exact he.1 k hk
  have hmon : ∀ G'' : GT, (∀ k, k = 11 ∨ k = 15 ∨ k = 30 → G'' k = GX k) → Mon F7 G'' := fun G'' hG => hm.cg (fun k hk => by rw [F7k k (by omega) (by omega), xF k (by omega)]) hG
  have hbds : ∀ G'' : GT, (∀ k, k = 12 ∨ k = 13 ∨ k = 16 ∨ k = 17 ∨ k = 18 ∨ k = 19 ∨ k = 24 ∨ k = 25 ∨ k = 26 ∨ k = 28 → G'' k = GX k) → (∀ l k, l < 3 → bd (G'' (l + 300) k) 999) → Bds F7 G'' := by
    intro G'' hG hL
    obtain ⟨b0, b2, b6, b7, b8, b12, b13, b16, b17, b24, b25, b26, b28, b18, bl, bh⟩ := hb
    unfold Bds
    rw [F7_2, F7k 0 (by omega) (by omega), F7k 3 (by omega) (by omega), F7k 6 (by omega) (by omega), F7k 7 (by omega) (by omega), F7k 8 (by omega) (by omega), xF 0 (by omega), xF 3 (by omega), xF 6 (by omega), xF 7 (by omega), xF 8 (by omega), hG 12 (by omega), hG 13 (by omega), hG 16 (by omega), hG 17 (by omega), hG 18 (by omega), hG 24 (by omega), hG 25 (by omega), hG 26 (by omega), hG 28 (by omega)]
    exact ⟨b0, bd_0, b6, b7, b8, b12, b13, b16, b17, b24, b25, b26, b28, b18, hL, bh.cg (by rw [F7k 6 (by omega) (by omega), xF 6 (by omega)]) (by rw [F7k 7 (by omega) (by omega), xF 7 (by omega)]) (hG 19 (by omega))⟩
  refine ⟨fun hok => ?_, fun hbad => ?_⟩
  · rw [F7_1] at hok
    refine ⟨15, x_adp hl 14 0 G' (by omega) (fun GX2 a1 a2 => M _ ⟨fun _ FM' GM' w' q1 q2 q3 q4 => ⟨15, m_cpy hl 14 0 GM' (by omega) (fun GM2 p1 p2 => ?_)⟩, fun q => absurd hok q⟩)⟩
    refine ⟨(q1 20 (by omega)).trans M0_20, fun _ => ?_, ⟨eqF FM' (fun k hk _ => q1 k hk) (by rw [q1 1 (by omega), M0_1, hok]), fun k h1 h2 h3 => ?_, fun i hi => ?_, fun l' k hl' hk => ?_, fun h f' hh hf => ?_, fun h f' hh hf => ?_, ?_⟩, hmon GX2 (fun k hk => by rw [a1 k (by omega), xG k (by omega) (by omega)]), hbds GX2 (fun k hk => by rw [a1 k (by omega), xG k (by omega) (by omega)]) (fun l' k hl' => ?_)⟩
    · rw [pk_uLs, F7k 10 (by decide) (by decide)]
    · rw [p1 k (by omega), q2 k (by omega), a1 k (by omega), xG k (by omega) (by omega)]; exact he.2.1 k h1 h2 h3
    · rw [p1 50 (by omega), q2 50 (by omega), a1 40 (by omega), xG 40 (by omega) (by omega)]; exact he.2.2.1 i hi
    · rw [p2]
      by_cases e : l' = l
      · subst e
        rw [if_pos (by omega), a2, if_pos (by omega), show 42 + (14 * l' + k - 14 * l') = 42 + k by omega, q4 k hk]
      · rw [if_neg (by omega), q3 _ (by omega), a1 _ (by omega), xG _ (by omega) (by omega)]; exact he.2.2.2.1 l' k hl' hk
    · rw [p1 52 (by omega), q2 52 (by omega), a1 _ (by omega), xG _ (by omega) (by omega)]; exact he.2.2.2.2.1 h f' hh hf
    · rw [p1 53 (by omega), q2 53 (by omega), a1 _ (by omega), xG _ (by omega) (by omega)]; exact he.2.2.2.2.2.1 h f' hh hf
    · rw [p1 18 (by omega), q2 18 (by omega), a1 16 (by omega), a1 17 (by omega), a1 18 (by omega), xG 16 (by omega) (by omega), xG 17 (by omega) (by omega), xG 18 (by omega) (by omega)]; exact he.2.2.2.2.2.2
    · by_cases e : l' = l
      · subst e
        rw [a2]
        by_cases ek : k < 14
        · rw [if_pos (by omega)]; exact xb k ek
        · rw [if_neg (by omega), xG _ (by omega) (by omega)]; exact hb.2.2.2.2.2.2.2.2.2.2.2.2.2.2.1 l' k hl'
      · rw [a1 _ (by omega), xG _ (by omega) (by omega)]; exact hb.2.2.2.2.2.2.2.2.2.2.2.2.2.2.1 l' k hl'
  · rw [F7_1] at hbad
    refine M _ ⟨fun q => absurd q hbad, fun _ FM' GM' w' q1 q1' q2 q3 => ?_⟩
    refine ⟨(q1 20 (by omega) (by omega)).trans M0_20, fun _ => ?_, ⟨eqF FM' q1 q1', fun k h1 h2 h3 => ?_, fun i hi => ?_, fun l' k hl' hk => ?_, fun h f' hh hf => ?_, fun h f' hh hf => ?_, ?_⟩, hmon G' (fun k hk => xG k (by omega) (by omega)), hbds G' (fun k hk => xG k (by omega) (by omega)) (fun l' k hl' => ?_)⟩
    · rw [pk_uLs, F7k 12 (by decide) (by decide)]
    · rw [q2 k (by omega), xG k (by omega) (by omega)]; exact he.2.1 k h1 h2 h3
    · rw [q2 50 (by omega), xG 40 (by omega) (by omega)]; exact he.2.2.1 i hi
    · rw [q3 _ (by omega), xG _ (by omega) (by omega)]; exact he.2.2.2.1 l' k hl' hk
    · rw [q2 52 (by omega), xG _ (by omega) (by omega)]; exact he.2.2.2.2.1 h f' hh hf
    · rw [q2 53 (by omega), xG _ (by omega) (by omega)]; exact he.2.2.2.2.2.1 h f' hh hf
    · rw [q2 18 (by omega), xG 16 (by omega) (by omega), xG 17 (by omega) (by omega), xG 18 (by omega) (by omega)]; exact he.2.2.2.2.2.2
    · rw [xG _ (by omega) (by omega)]; exact hb.2.2.2.2.2.2.2.2.2.2.2.2.2.2.1 l' k hl'
