def lb (ro si la : Nat → Int32) (wa ma da : Int32) : Nat → Nat → Int32
  | 0, _ => 0
  | m + 1, i => if ro i = -1 then lb ro si la wa ma da m (i + 1) else if ma < si i then lb ro si la wa ma da m (i + 1) else if (if (wa >>> (nI i &&& 31)) &&& 1 = 1 then la (8 + i) else la (2 + i)) < da then lb ro si la wa ma da m (i + 1) else 1
theorem lb_01 {ro si la : Nat → Int32} {wa ma da : Int32} : ∀ m i, lb ro si la wa ma da m i = 0 ∨ lb ro si la wa ma da m i = 1
  | 0, i => .inl rfl
  | m + 1, i => by
    have := lb_01 (ro := ro) (si := si) (la := la) (wa := wa) (ma := ma) (da := da) m (i + 1)
    rw [lb]
    repeat' split
    all_goals first | exact this | exact .inr rfl
theorem x_lb {Q : Int32 → FT → GT → Prop} {F : FT} {G : GT} {z s l : Nat} {da : Int32} (hz : z < 40) (hs : s < 80) (hl : l < 3) (h28 : G 28 s = nI l) : ∀ m i, i + m = 6 → Q (lb (G (z + 100)) (G (z + 200)) (G (l + 300)) (G 27 s) (G 29 s) da m i) F G → wp_X7_lawLetsBack_18 Q (m + 1) (nI z) (nI s) da (nI i) F G
  | 0, i, hi, hQ => by
    have e : i = 6 := by omega
    subst e
    simp +decide only [wp_X7_lawLetsBack_18, not_true_eq_false, not_false_eq_true, false_implies, true_implies, and_true, true_and, true_or, or_true, ne_eq]
    exact hQ
  | m + 1, i, hi, hQ => by
    rw [wp_X7_lawLetsBack_18]
    rw [lb] at hQ
    have ih := x_lb (Q := Q) (F := F) (da := da) hz hs hl h28 m (i + 1) (by omega)
    have k2 : (2 : Int32) + nI i = nI (2 + i) := nI_add 2 i
    have k8 : (8 : Int32) + nI i = nI (8 + i) := nI_add 8 i
    simp only [show ¬ 6 ≤ nI i from le_no (b := 6) (by omega) (by omega), wp_X5_hasWarrant, wp_X5_hasWarrant_0, wp_X7_lawLetsBack_44, wp_X7_lawLetsBack_87, wp_X7_lawLetsBack_88, wp_X1_isFound, wp_X1_isFound_0, wp_X2_number, wp_X2_number_0, vp_in_nI hz (show 40 < 2 ^ 31 by omega), vp_in_nI hs (show 80 < 2 ^ 31 by omega), vp_in_nI (show i < 6 by omega) (show 6 < 2 ^ 31 by omega), nI_clamp (show z < 2 ^ 31 by omega), nI_clamp (show i < 2 ^ 31 by omega), nI_clamp (show s < 2 ^ 31 by omega), h28, nI_clamp (show l < 2 ^ 31 by omega), vp_in_nI hl (show 3 < 2 ^ 31 by omega), k2, k8, vp_in_nI (show 2 + i < 14 by omega) (show 14 < 2 ^ 31 by omega), vp_in_nI (show 8 + i < 14 by omega) (show 14 < 2 ^ 31 by omega), nI_clamp (show 2 + i < 2 ^ 31 by omega), nI_clamp (show 8 + i < 2 ^ 31 by omega), forall_eq, nI_1, not_true_eq_false, not_false_eq_true, false_implies, true_implies, and_true, true_and, true_or, or_true, ne_eq]
    by_cases c1 : G (z + 100) i = -1
    · rw [if_pos c1] at hQ
      by_cases c0 : (G 27 s >>> (nI i &&& 31)) &&& 1 = 1
      · simp +decide only [c0, c1, not_true_eq_false, not_false_eq_true, false_implies, true_implies, and_true, true_and, true_or, or_true, ne_eq]; exact ih hQ
      · simp +decide only [c0, c1, not_true_eq_false, not_false_eq_true, false_implies, true_implies, and_true, true_and, true_or, or_true, ne_eq]; exact ih hQ
    rw [if_neg c1] at hQ
    by_cases c2 : G 29 s < G (z + 200) i
    · rw [if_pos c2] at hQ
      by_cases c0 : (G 27 s >>> (nI i &&& 31)) &&& 1 = 1
      · simp +decide only [c0, c1, c2, not_true_eq_false, not_false_eq_true, false_implies, true_implies, and_true, true_and, true_or, or_true, ne_eq]; exact ih hQ
      · simp +decide only [c0, c1, c2, not_true_eq_false, not_false_eq_true, false_implies, true_implies, and_true, true_and, true_or, or_true, ne_eq]; exact ih hQ
    rw [if_neg c2] at hQ
    by_cases c0 : (G 27 s >>> (nI i &&& 31)) &&& 1 = 1
    · rw [if_pos c0] at hQ
      by_cases c3 : G (l + 300) (8 + i) < da
      · rw [if_pos c3] at hQ
        simp +decide only [c0, c1, c2, c3, not_true_eq_false, not_false_eq_true, false_implies, true_implies, and_true, true_and, true_or, or_true, ne_eq]; exact ih hQ
      · rw [if_neg c3] at hQ
        simp +decide only [c0, c1, c2, c3, not_true_eq_false, not_false_eq_true, false_implies, true_implies, and_true, true_and, true_or, or_true, ne_eq]; exact hQ
    · rw [if_neg c0] at hQ
      by_cases c3 : G (l + 300) (2 + i) < da
      · rw [if_pos c3] at hQ
        simp +decide only [c0, c1, c2, c3, not_true_eq_false, not_false_eq_true, false_implies, true_implies, and_true, true_and, true_or, or_true, ne_eq]; exact ih hQ
      · rw [if_neg c3] at hQ
        simp +decide only [c0, c1, c2, c3, not_true_eq_false, not_false_eq_true, false_implies, true_implies, and_true, true_and, true_or, or_true, ne_eq]; exact hQ
theorem m_lb {Q : Int32 → FT → GT → Int64 → Prop} {F : FT} {G : GT} {w : Int64} {ro si la : Nat → Int32} {z s l : Nat} {wa ma : Int32} (hz : z < 40) (hs : s < 80) (hl : l < 3) (h28 : G 28 s = nI l) (h27 : G 27 s = wa) (h29 : G 29 s = ma) (h52 : ∀ f, f < 6 → G 52 (6 * z + f) = ro f) (h53 : ∀ f, f < 6 → G 53 (6 * z + f) = si f) (h51 : ∀ k, k < 14 → G 51 (14 * l + k) = la k) : ∀ m i, i + m = 6 → Q (lb ro si la wa ma (F 0 - ma) m i) F G w → wp_X8_mayGoBack_24 Q (m + 1) (nI z) (nI s) (nI i) F G w
  | 0, i, hi, hQ => by
    have e : i = 6 := by omega
    subst e
    simp +decide only [wp_X8_mayGoBack_24, not_true_eq_false, not_false_eq_true, false_implies, true_implies, and_true, true_and, true_or, or_true, ne_eq]
    exact hQ
  | m + 1, i, hi, hQ => by
    rw [wp_X8_mayGoBack_24]
    rw [lb] at hQ
    have ih := m_lb (Q := Q) (F := F) (w := w) hz hs hl h28 h27 h29 h52 h53 h51 m (i + 1) (by omega)
    have k2 : (14 : Int32) * nI l + 2 + nI i = nI (14 * l + (2 + i)) := by rw [show (14 : Int32) = nI 14 from rfl, show (2 : Int32) = nI 2 from rfl, pk_mul, nI_add, nI_add, Nat.add_assoc]
    have k8 : (14 : Int32) * nI l + 8 + nI i = nI (14 * l + (8 + i)) := by rw [show (14 : Int32) = nI 14 from rfl, show (8 : Int32) = nI 8 from rfl, pk_mul, nI_add, nI_add, Nat.add_assoc]
    simp only [show ¬ 6 ≤ nI i from le_no (b := 6) (by omega) (by omega), wp_X8_mayGoBack_101, ix_m, vp_in_nI (show 6 * z + i < 240 by omega) (show 240 < 2 ^ 31 by omega), nI_clamp (show 6 * z + i < 2 ^ 31 by omega), vp_in_nI hs (show 80 < 2 ^ 31 by omega), nI_clamp (show s < 2 ^ 31 by omega), h28, h27, h29, h52 i (by omega), h53 i (by omega), k2, k8, vp_in_nI (show 14 * l + (2 + i) < 56 by omega) (show 56 < 2 ^ 31 by omega), vp_in_nI (show 14 * l + (8 + i) < 56 by omega) (show 56 < 2 ^ 31 by omega), nI_clamp (show 14 * l + (2 + i) < 2 ^ 31 by omega), nI_clamp (show 14 * l + (8 + i) < 2 ^ 31 by omega), h51 (2 + i) (by omega), h51 (8 + i) (by omega), forall_eq, nI_1, not_true_eq_false, not_false_eq_true, false_implies, true_implies, and_true, true_and, true_or, or_true, ne_eq]
    by_cases c1 : ro i = -1
    · rw [if_pos c1] at hQ
      simp +decide only [c1, not_true_eq_false, not_false_eq_true, false_implies, true_implies, and_true, true_and, true_or, or_true, ne_eq]; exact ih hQ
    rw [if_neg c1] at hQ
    by_cases c2 : ma < si i
    · rw [if_pos c2] at hQ
      have c2' : ¬ si i ≤ ma := Int32.not_le.2 c2
      simp +decide only [c1, c2', not_true_eq_false, not_false_eq_true, false_implies, true_implies, and_true, true_and, true_or, or_true, ne_eq]; exact ih hQ
    rw [if_neg c2] at hQ
    have c2' : si i ≤ ma := Int32.not_lt.1 c2
    by_cases c0 : (wa >>> (nI i &&& 31)) &&& 1 = 1
    · rw [if_pos c0] at hQ
      by_cases c3 : la (8 + i) < F 0 - ma
      · rw [if_pos c3] at hQ
        simp +decide only [c0, c1, c2', c3, not_true_eq_false, not_false_eq_true, false_implies, true_implies, and_true, true_and, true_or, or_true, ne_eq]; exact ih hQ
      · rw [if_neg c3] at hQ
        simp +decide only [c0, c1, c2', c3, not_true_eq_false, not_false_eq_true, false_implies, true_implies, and_true, true_and, true_or, or_true, ne_eq]; exact hQ
    · rw [if_neg c0] at hQ
      by_cases c3 : la (2 + i) < F 0 - ma
      · rw [if_pos c3] at hQ
        simp +decide only [c0, c1, c2', c3, not_true_eq_false, not_false_eq_true, false_implies, true_implies, and_true, true_and, true_or, or_true, ne_eq]; exact ih hQ
      · rw [if_neg c3] at hQ
        simp +decide only [c0, c1, c2', c3, not_true_eq_false, not_false_eq_true, false_implies, true_implies, and_true, true_and, true_or, or_true, ne_eq]; exact hQ
theorem LdB.cg {F F1 F' F2 : FT} {G G1 G' G2 : GT} {z : Nat} {a b how : Int32} (h : LdB F1 G1 z a b how F2 G2) (h0 : F1 0 = F 0) (h7 : F1 7 = F 7) (h8 : F1 8 = F 8) (hG : ∀ k, 16 ≤ k → k ≤ 22 → G1 k = G k) (h7' : F' 7 = F2 7) (hG' : ∀ k, 16 ≤ k → k ≤ 22 → G' k = G2 k) : LdB F G z a b how F' G' := by
  obtain ⟨a1, a2, a3, a4, a5⟩ := h
  rw [hG 16 (by omega) (by omega)] at a1 a4
  rw [hG 17 (by omega) (by omega)] at a2 a4
  rw [hG 18 (by omega) (by omega)] at a3 a4
  rw [h8] at a4
  refine ⟨?_, ?_, fun j hj => ?_, fun c => ?_, ?_⟩
  · rw [hG' 16 (by omega) (by omega)]; exact a1
  · rw [hG' 17 (by omega) (by omega)]; exact a2
  · rw [hG' 18 (by omega) (by omega)]; exact a3 j hj
  · rw [hG' 18 (by omega) (by omega)]; exact a4 c
  · rcases a5 with ⟨b1, b2, b3⟩ | ⟨b1, b2, b3, b4, b5, b6⟩
    · left
      refine ⟨h7.symm.trans b1, ?_, fun k k1 k2 => ?_⟩
      · rw [h7', b2, h7]
      · rw [hG' k (by omega) k2, b3 k k1 k2, hG k (by omega) k2]
    · right
      rw [h7] at b1 b2 b3 b4 b5 b6
      rw [hG 19 (by omega) (by omega)] at b3
      rw [hG 20 (by omega) (by omega)] at b4
      rw [hG 21 (by omega) (by omega), h0] at b5
      rw [hG 22 (by omega) (by omega)] at b6
      refine ⟨b1, h7'.trans b2, ?_, ?_, ?_, ?_⟩
      · rw [hG' 19 (by omega) (by omega)]; exact b3
      · rw [hG' 20 (by omega) (by omega)]; exact b4
      · rw [hG' 21 (by omega) (by omega)]; exact b5
      · rw [hG' 22 (by omega) (by omega)]; exact b6
theorem Bds.un {F F1 : FT} {G G1 : GT} (h : Bds F G) (ha : BdA F1 G1) (hF : ∀ k, k ≠ 5 → k ≠ 17 → F1 k = F k) (hG : ∀ k, (k < 11 ∨ 15 < k) ∧ k ≠ 46 ∧ k ≠ 47 → k ≠ 30 → G1 k = G k) : Bds F1 G1 := by
  obtain ⟨b0, b2, b6, b7, b8, b12, b13, b16, b17, b24, b25, b26, b28, b18, bl, bh⟩ := h
  refine ⟨?_, ?_, ?_, ?_, ?_, ha.1, ha.2.1, ?_, ?_, ha.2.2.1, ha.2.2.2.1, ha.2.2.2.2, ?_, ?_, fun l k hl => ?_, bh.cg (hF 6 (by omega) (by omega)) (hF 7 (by omega) (by omega)) (hG 19 (by omega) (by omega))⟩
  · rw [hF 0 (by omega) (by omega)]; exact b0
  · rw [hF 2 (by omega) (by omega)]; exact b2
  · rw [hF 6 (by omega) (by omega)]; exact b6
  · rw [hF 7 (by omega) (by omega)]; exact b7
  · rw [hF 8 (by omega) (by omega)]; exact b8
  · rw [hF 3 (by omega) (by omega), hG 16 (by omega) (by omega)]; exact b16
  · rw [hF 3 (by omega) (by omega), hG 17 (by omega) (by omega)]; exact b17
  · rw [hG 28 (by omega) (by omega)]; exact b28
  · rw [hG 18 (by omega) (by omega)]; exact b18
  · rw [hG (l + 300) (by omega) (by omega)]; exact bl l k hl
/-- X: undone first, then led; M: led first, then undone -/
theorem back_a {FX : FT} {GX : GT} {FM : FT} {GM : GT} {w : Int64} (hI : Inv FX GX FM GM w) {z s n6 : Nat} (h6 : FX 6 = nI n6) (hn6 : n6 ≤ 40) (hz : z < n6) (hs : s < 80) (h0 : GX 30 s = 0) {a t : Int32} (ha : pp (FX 3) a) (ht : pp (FX 3) t) {how : Int32} : ∃ (FM' : FT) (GM' : GT), (∀ (Q : FT → GT → Prop), (∀ (FX1 : FT) (GX1 : GT), (∀ k, k ≠ 5 → k ≠ 17 → FX1 k = FX k) → (∀ k, (k < 11 ∨ 15 < k) ∧ k ≠ 46 ∧ k ≠ 47 → k ≠ 30 → GX1 k = GX k) → (∀ (Q' : FT → GT → Prop), (∀ (FX' : FT) (GX' : GT), Inv FX' GX' FM' GM' w → FX' 6 = FX 6 → GX' 30 = upd (GX 30) s 1 → Q' FX' GX') → wp_X7_lead (nI z) a t how FX1 GX1 Q') → Q FX1 GX1) → wp_X7_undo (nI s) FX GX Q) ∧ (∀ (Q : FT → GT → Int64 → Prop), Q FM' GM' w → wp_X8_goes (nI z) a t how FM (gU GM 30 (upd (GX 30) s 1)) w (fun F1 G2 w3 => wp_X8_due (G2 24 s) (G2 25 s) (G2 26 s) F1 G2 w3 Q)) := by
  obtain ⟨he, hm, hb⟩ := id hI
  obtain ⟨GM1, hGM1⟩ : ∃ GM1, GM1 = gU GM 30 (upd (GX 30) s 1) := ⟨_, rfl⟩
  obtain ⟨GM2, hGM2⟩ : ∃ GM2, GM2 = hG FM (mM FM GM1 z a t) z a how := ⟨_, rfl⟩
  have k2 : ∀ k, k < 16 ∨ 22 < k → k ≠ 30 → GM2 k = GM k := fun k hk h30 => by rw [hGM2, hG_k (by omega), mM_k (by omega), hGM1, gU_ne _ _ h30]
  have k30 : GM2 30 = upd (GX 30) s 1 := by rw [hGM2, hG_k (by omega), mM_k (by omega), hGM1, gU_same]
  have hA : InvA FX GX (hF FM) (gU GM2 30 (GX 30)) := by
    refine ⟨⟨fun k h1 h7 => ?_, fun k h1 h2 h3 => ?_⟩, hm, hb.a⟩
    · rw [hF_k h7]; exact he.1 k h1
    · by_cases e : k = 30
      · subst e; rw [gU_same]
      · rw [gU_ne _ _ e, k2 k h3 e]; exact he.2.1 k h1 h2 (by omega)
  obtain ⟨FM', GM', r1, r2, r3, r4⟩ := undo_a hA hs h0 k30
  refine ⟨FM', GM', fun Q hQ => ?_, fun Q hQ => ?_⟩
  · refine r1 _ (fun FX1 GX1 q1 q2 q3 q4 => hQ FX1 GX1 q2 q3 (fun Q' hQ' => ?_))
    have hB1 : Bds FX1 GX1 := hb.un q1.2.2 q2 q3
    refine x_ld (by omega) hB1.2.2.2.1 (hQ' _ _ ?_ ?_ ?_)
    · refine ⟨EQ.mk ⟨fun k h1 h7 => ?_, fun k h1 h2 h3 => ?_⟩ (he.b.ld (he.1 0 (by omega)) (he.1 8 (by omega)) (show z < 40 by omega) (a := a) (b := t) (how := how) ?_ ?_) ?_ ?_ ?_ ?_, q1.2.1.cg (fun k hk => hF_k (by omega)) (fun k hk => by rw [hG_k (by omega), mX_k (by omega)]), x_ldB (n6 := n6) ((q2 6 (by omega) (by omega)).trans h6) hn6 hz hB1 ?_ ?_⟩
      · rw [hF_k h7]; exact q1.1.1 k h1 h7
      · rw [hG_k (by omega), mX_k (by omega)]; exact q1.1.2 k h1 h2 h3
      · exact (x_ldb (F := FX1) (G := GX1)).cg (q2 0 (by omega) (by omega)) (q2 7 (by omega) (by omega)) (q2 8 (by omega) (by omega)) (fun k k1 k2 => q3 k (by omega) (by omega)) rfl (fun k _ _ => rfl)
      · refine (m_ldb (F := FM) (G := GM1)).cg rfl rfl rfl (fun k k1 k2 => ?_) (r3 7 (by omega)) (fun k k1 k2 => ?_)
        · rw [hGM1, gU_ne _ _ (by omega)]
        · rw [r4 k (by omega), hGM2]
      · rw [hG_k (by omega), mX_k (by omega), q3 40 (by omega) (by omega), r4 50 (by omega), k2 50 (by omega) (by omega)]; exact he.2.2.1
      · intro l k hl hk
        rw [hG_k (by omega), mX_k (by omega), q3 _ (by omega) (by omega), r4 51 (by omega), k2 51 (by omega) (by omega)]; exact he.2.2.2.1 l k hl hk
      · intro l k hl hk
        rw [hG_k (by omega), mX_k (by omega), q3 _ (by omega) (by omega), r4 52 (by omega), k2 52 (by omega) (by omega)]; exact he.2.2.2.2.1 l k hl hk
      · intro l k hl hk
        rw [hG_k (by omega), mX_k (by omega), q3 _ (by omega) (by omega), r4 53 (by omega), k2 53 (by omega) (by omega)]; exact he.2.2.2.2.2.1 l k hl hk
      · rw [q2 3 (by omega) (by omega)]; exact ha
      · rw [q2 3 (by omega) (by omega)]; exact ht
    · rw [hF_k (by decide)]; exact q2 6 (by omega) (by omega)
    · rw [hG_k (by omega), mX_k (by omega)]; exact q4
  · rw [← hGM1]
    refine m_ld (by omega) (by rw [he.1 7 (by omega)]; exact hb.2.2.2.1) ?_
    rw [← hGM2]
    exact r2 w Q hQ
