theorem i_lt {m e : Nat} (he : e < 2 ^ 30) (hm : m < 2 ^ 30) : nI m - 1 < nI e ↔ m ≤ e := by
  cases m with
  | zero =>
    refine ⟨fun _ => Nat.zero_le e, fun _ => ?_⟩
    exact Int32.lt_of_lt_of_le (by decide : nI 0 - 1 < 0) (nI_pos' (by omega))
  | succ m =>
    rw [nI_pred, nI_ltI (by omega) (by omega)]; omega
theorem cl_l {FX0 : FT} {GX0 : GT} {FMl : FT} {GMl : GT} {w : Int64} {z e : Nat} (hz : z < 40) (he80 : e ≤ 80) (h18 : GX0 18 z = nI e) : ∀ (m cnt : Nat) (FX : FT) (GX : GT) (FM : FT) (GM : GT), m ≤ 80 → InvA FX GX FM GM → (∀ k, k ≠ 5 → k ≠ 17 → FX k = FX0 k) → (∀ k, (k < 11 ∨ 15 < k) ∧ k ≠ 46 ∧ k ≠ 47 → k ≠ 30 → GX k = GX0 k) → (∀ k, k ≠ 5 → FM k = FMl k) → (∀ k, k < 11 ∨ 15 < k → k ≠ 30 → GM k = GMl k) → ∀ Q : Int32 → FT → GT → Prop, (∀ (r : Int32) (FX' : FT) (GX' : GT) (FM' : FT) (GM' : GT), InvA FX' GX' FM' GM' → (∀ k, k ≠ 5 → k ≠ 17 → FX' k = FX0 k) → (∀ k, (k < 11 ∨ 15 < k) ∧ k ≠ 46 ∧ k ≠ 47 → k ≠ 30 → GX' k = GX0 k) → (∀ k, k ≠ 5 → FM' k = FMl k) → (∀ k, k < 11 ∨ 15 < k → k ≠ 30 → GM' k = GMl k) → (∀ P : Int32 → FT → GT → Int64 → Prop, P r FM' GM' w → ∃ n, wp_X8_claim_65 P n (nI z) (nI e) (nI cnt) (nI m - 1) FM GM w) → wp_X7_lead (nI z) (GX0 17 z) (GX0 17 z) 4 FX' GX' (fun F G => Q r F G)) → wp_X7_claim_36 Q (m + 1) (nI z) (nI cnt) (nI m - 1) FX GX := by
  intro m
  induction m with
  | zero =>
    intro cnt FX GX FM GM hm hA f1 f2 f3 f4 Q hQ
    have c : nI 0 - 1 < nI e := (i_lt (by omega) (by omega)).2 (Nat.zero_le e)
    rw [wp_X7_claim_36]
    simp only [vp_in_nI hz (show 40 < 2 ^ 31 by omega), nI_clamp (show z < 2 ^ 31 by omega), f2 18 (by omega) (by omega), f2 17 (by omega) (by omega), h18, c, not_true_eq_false, not_false_eq_true, false_implies, true_implies, and_true, true_and, true_or, or_true, ne_eq]
    exact hQ _ FX GX FM GM hA f1 f2 f3 f4 (fun P hP => ⟨1, fun _ => hP, fun q => absurd c q⟩)
  | succ m ih =>
    intro cnt FX GX FM GM hm hA f1 f2 f3 f4 Q hQ
    rw [wp_X7_claim_36]
    by_cases ce : m + 1 ≤ e
    · have c : nI (m + 1) - 1 < nI e := (i_lt (by omega) (by omega)).2 ce
      simp only [vp_in_nI hz (show 40 < 2 ^ 31 by omega), nI_clamp (show z < 2 ^ 31 by omega), f2 18 (by omega) (by omega), f2 17 (by omega) (by omega), h18, c, not_true_eq_false, not_false_eq_true, false_implies, true_implies, and_true, true_and, true_or, or_true, ne_eq]
      exact hQ _ FX GX FM GM hA f1 f2 f3 f4 (fun P hP => ⟨1, fun _ => hP, fun q => absurd c q⟩)
    · have c : ¬ nI (m + 1) - 1 < nI e := fun q => ce ((i_lt (by omega) (by omega)).1 q)
      rw [nI_pred] at c
      have m23 : GM 23 = GX 23 := hA.1.2 23 (by omega) (by omega) (by omega)
      have m30 : GM 30 = GX 30 := hA.1.2 30 (by omega) (by omega) (by omega)
      -- nothing to undo at m
      have skip : ¬ (GX 23 m = nI z ∧ GX 30 m = 0) → wp_X7_claim_36 Q (m + 1) (nI z) (nI cnt) (nI m - 1) FX GX := by
        intro hno
        refine ih cnt FX GX FM GM (by omega) hA f1 f2 f3 f4 Q (fun r FX' GX' FM' GM' a1 a2 a3 a4 a5 a6 => hQ r FX' GX' FM' GM' a1 a2 a3 a4 a5 (fun P hP => ?_))
        obtain ⟨n, hn⟩ := a6 P hP
        refine ⟨n + 1, ?_⟩
        rw [nI_pred, wp_X8_claim_65]
        simp only [c, vp_in_nI (show m < 80 by omega) (show 80 < 2 ^ 31 by omega), nI_clamp (show m < 2 ^ 31 by omega), m23, m30, m1s, forall_eq, not_true_eq_false, not_false_eq_true, false_implies, true_implies, and_true, true_and, true_or, or_true, ne_eq]
        by_cases c1 : GX 23 m = nI z
        · have c2 : ¬ GX 30 m = 0 := fun q => hno ⟨c1, q⟩
          simp only [c1, c2, not_true_eq_false, not_false_eq_true, false_implies, true_implies, and_true, true_and, true_or, or_true, ne_eq]; exact hn
        · simp only [c1, not_true_eq_false, not_false_eq_true, false_implies, true_implies, and_true, true_and, true_or, or_true, ne_eq]; exact hn
      rw [nI_pred]
      simp only [vp_in_nI hz (show 40 < 2 ^ 31 by omega), nI_clamp (show z < 2 ^ 31 by omega), f2 18 (by omega) (by omega), h18, c, wp_X5_stands, wp_X5_stands_0, vp_in_nI (show m < 80 by omega) (show 80 < 2 ^ 31 by omega), nI_clamp (show m < 2 ^ 31 by omega), m1s, forall_eq, nI_1, not_true_eq_false, not_false_eq_true, false_implies, true_implies, and_true, true_and, true_or, or_true, ne_eq]
      by_cases c1 : GX 23 m = nI z
      · by_cases c2 : GX 30 m = 0
        · simp +decide only [c1, c2, not_true_eq_false, not_false_eq_true, false_implies, true_implies, and_true, true_and, true_or, or_true, ne_eq]
          have eg : gU (gU GM 30 (upd (GX 30) m 1)) 30 (GX 30) = GM := by rw [gU_i]; exact gU_e m30
          obtain ⟨FM', GM', r1, r2, r3, r4⟩ := undo_a (FM := FM) (GM := gU GM 30 (upd (GX 30) m 1)) (s := m) (by rw [eg]; exact hA) (by omega) c2 (gU_same _ _ _)
          refine r1 _ (fun FX1 GX1 q1 q2 q3 q4 => ?_)
          refine ih (cnt + 1) FX1 GX1 FM' GM' (by omega) q1 (fun k k1 k2 => (q2 k k1 k2).trans (f1 k k1 k2)) (fun k k1 k2 => (q3 k k1 k2).trans (f2 k k1 k2)) (fun k k1 => (r3 k k1).trans (f3 k k1)) (fun k k1 k2 => by rw [r4 k k1, gU_ne _ _ k2]; exact f4 k k1 k2) Q (fun r FX' GX' FM' GM' a1 a2 a3 a4 a5 a6 => hQ r FX' GX' FM' GM' a1 a2 a3 a4 a5 (fun P hP => ?_))
          obtain ⟨n, hn⟩ := a6 P hP
          refine ⟨n + 1, ?_⟩
          rw [nI_pred, wp_X8_claim_65]
          simp (disch := decide) only [c, vp_in_nI (show m < 80 by omega) (show 80 < 2 ^ 31 by omega), nI_clamp (show m < 2 ^ 31 by omega), m23, m30, c1, c2, m1s, nb1, forall_eq, nI_1, gU_ne, not_true_eq_false, not_false_eq_true, false_implies, true_implies, and_true, true_and, true_or, or_true, ne_eq]
          have r2' := r2 w (fun F3 G4 w5 => wp_X8_claim_65 P n (nI z) (nI e) (nI (cnt + 1)) (nI m - 1) F3 G4 w5) hn
          simp (disch := decide) only [gU_ne] at r2'
          exact r2'
        · simp +decide only [c1, c2, not_true_eq_false, not_false_eq_true, false_implies, true_implies, and_true, true_and, true_or, or_true, ne_eq]
          exact skip (fun q => c2 q.2)
      · simp +decide only [c1, not_true_eq_false, not_false_eq_true, false_implies, true_implies, and_true, true_and, true_or, or_true, ne_eq]
        exact skip (fun q => c1 q.1)
theorem stp_claim : Stp_claim Inv := by
  intro FX GX FM GM w hI x1
  obtain ⟨he, hm, hb⟩ := id hI
  obtain ⟨e0, e1, e2, e3, e4, e5, e6, e7, e8⟩ := he.F
  obtain ⟨g10, g11, g12, g13, g14, g15, g16, g17, g19, g20, g21, g22, g23, g24, g25, g26, g27, g28, g29, g30, g31⟩ := he.G
  obtain ⟨n6, hn6, h6⟩ := hb.2.2.1
  obtain ⟨n8, hn8, h8⟩ := hb.2.2.2.2.1
  have hp0 : ∀ r : Int32, PS Inv FX GX r r (sU FM 20 0) GM w := fun r => ⟨rfl, hI.t⟩
  simp (disch := decide) only [wp_X7_claim, wp_X7_claim_0, wp_X1_has, wp_X1_has_0, wp_X1_isApart, wp_X1_isApart_0, wp_X8_claim, wp_X8_claim_0, wp_X8_isHorse, wp_X8_isHorse_0, forall_eq, sU_ne, e6, h6, g16, g17]
  rcases pk_ix x1 (n := n6) (by omega) with a | a | ⟨z, hz, rfl⟩
  · simp +decide only [a, not_true_eq_false, not_false_eq_true, false_implies, true_implies, and_true, true_and, true_or, or_true, ne_eq, hp0]
  · simp +decide only [a, gt_lt a (by omega), not_true_eq_false, not_false_eq_true, false_implies, true_implies, and_true, true_and, true_or, or_true, ne_eq, hp0]
  simp +decide only [nI_pos (show z < 2 ^ 31 by omega), le_no hz (by omega), in_n hz hn6 (show 40 < 2 ^ 31 by omega), nI_clamp (show z < 2 ^ 31 by omega), not_true_eq_false, not_false_eq_true, false_implies, true_implies, and_true, true_and, true_or, or_true, ne_eq]
  by_cases c : GX 16 z = GX 17 z
  · simp +decide only [c, not_true_eq_false, not_false_eq_true, false_implies, true_implies, and_true, true_and, true_or, or_true, ne_eq, hp0]
  simp +decide only [c, not_true_eq_false, not_false_eq_true, false_implies, true_implies, and_true, true_and, true_or, or_true, ne_eq]
  obtain ⟨e, he80, h18⟩ := hb.2.2.2.2.2.2.2.2.2.2.2.2.2.1 z
  have hIt := hI.t (z := 0)
  have m18 : GM 18 z = nI e := (he.2.2.2.2.2.2 z (by omega) c).trans h18
  have b7M : bd (sU FM 20 0 7) 400 := by rw [sU_ne _ _ (by decide), e7]; exact hb.2.2.2.1
  have p17 := hb.2.2.2.2.2.2.2.2.1 z
  have hA : InvA FX GX (hF (sU FM 20 0)) (hG (sU FM 20 0) (mM (sU FM 20 0) GM z (GX 17 z) (GX 17 z)) z (GX 17 z) 4) := ⟨⟨fun k h1 h7 => by rw [hF_k h7]; exact hIt.1.1 k h1, fun k h1 h2 h3 => by rw [hG_k (by omega), mM_k (by omega)]; exact he.2.1 k h1 h2 (by omega)⟩, hm, hb.a⟩
  refine ⟨n8 + 1, ?_⟩
  rw [h8]
  refine cl_l (w := w) (FX0 := FX) (GX0 := GX) (FMl := hF (sU FM 20 0)) (GMl := hG (sU FM 20 0) (mM (sU FM 20 0) GM z (GX 17 z) (GX 17 z)) z (GX 17 z) 4) (by omega) he80 h18 n8 0 FX GX _ _ hn8 hA (fun _ _ _ => rfl) (fun _ _ _ => rfl) (fun _ _ => rfl) (fun _ _ _ => rfl) _ (fun r FX' GX' FM' GM' a1 a2 a3 a4 a5 a6 => ?_)
  refine x_ld (by omega) (by rw [a2 7 (by omega) (by omega)]; exact hb.2.2.2.1) (m_ld (by omega) b7M ?_)
  rw [hF_k (by decide), sU_ne _ _ (by decide), e8, h8, m18]
  refine a6 _ ⟨rfl, ?_⟩
  exact led_inv hIt h6 hn6 hz p17 p17 a1 a2 a3 (a4 7 (by omega)) (fun k k1 k2 => a5 k (by omega) (by omega)) (fun k hk => by rw [a5 k (by omega) (by omega), hG_k (by omega), mM_k (by omega)])
