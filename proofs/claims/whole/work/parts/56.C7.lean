theorem stp_back : Stp_back Inv := by
  intro FX GX FM GM w hI x1
  obtain ⟨he, hm, hb⟩ := id hI
  obtain ⟨e0, e1, e2, e3, e4, e5, e6, e7, e8⟩ := he.F
  obtain ⟨g10, g11, g12, g13, g14, g15, g16, g17, g19, g20, g21, g22, g23, g24, g25, g26, g27, g28, g29, g30, g31⟩ := he.G
  obtain ⟨n6, hn6, h6⟩ := hb.2.2.1
  have hp0 : ∀ r : Int32, PS Inv FX GX r r (sU FM 20 0) GM w := fun r => ⟨rfl, hI.t⟩
  simp (disch := decide) only [wp_X7_back, wp_X7_back_0, wp_X1_has, wp_X1_has_0, wp_X8_back, wp_X8_back_0, wp_X8_isHorse, wp_X8_isHorse_0, forall_eq, sU_ne, e6, h6]
  rcases pk_ix x1 (n := n6) (by omega) with a | a | ⟨z, hz, rfl⟩
  · simp +decide only [a, not_true_eq_false, not_false_eq_true, false_implies, true_implies, and_true, true_and, true_or, or_true, ne_eq, hp0]
  · simp +decide only [a, gt_lt a (by omega), not_true_eq_false, not_false_eq_true, false_implies, true_implies, and_true, true_and, true_or, or_true, ne_eq, hp0]
  simp +decide only [nI_pos (show z < 2 ^ 31 by omega), le_no hz (by omega), not_true_eq_false, not_false_eq_true, false_implies, true_implies, and_true, true_and, true_or, or_true, ne_eq]
  exact sim_bring (hI.t (z := 0)) h6 hn6 hz (fun r FX' GX' FM' GM' i1 i2 i3 i4 => i4 _ ⟨rfl, i1⟩)
theorem tr_l {w : Int64} {z n6 : Nat} (hn6 : n6 ≤ 40) (hz : z < n6) : ∀ (k x2 : Nat) (FX : FT) (GX : GT) (FM : FT) (GM : GT), Inv FX GX FM GM w → FX 6 = nI n6 → zc (GX 30) 80 ≤ k → x2 + k ≤ 80 → ∀ Q : Int32 → FT → GT → Prop, (∀ (r : Int32) (FX' : FT) (GX' : GT) (FM' : FT) (GM' : GT), Inv FX' GX' FM' GM' w → (∀ P : Int32 → FT → GT → Int64 → Prop, P r FM' GM' w → ∃ n, wp_X8_trace_17 P n (nI z) (nI x2) FM GM w) → Q r FX' GX') → wp_X7_trace_15 Q (k + 1) (nI z) (nI x2) FX GX := by
  intro k
  induction k with
  | zero =>
    intro x2 FX GX FM GM hI h6 hzc hx Q hQ
    obtain ⟨he, hm, hb⟩ := id hI
    obtain ⟨n8, hn8, h8⟩ := hb.2.2.2.2.1
    have hl : lat (GM 23) (GM 30) (nI z) n8 = -1 := by
      rw [he.2.1 30 (by omega) (by omega) (by omega)]
      rcases lat_c (g := GM 23) (k := GX 30) (x := nI z) n8 with h | ⟨s, hs, _, _, h0⟩
      · exact h
      · have := zc_pos h0 80 (by omega); omega
    have hend : Q (nI x2) FX GX := hQ _ FX GX FM GM hI (fun P hP => ⟨1, m_none_back ((he.1 8 (by omega)).trans h8) hn8 hl ⟨fun _ => hP, fun c => absurd rfl c⟩⟩)
    refine ⟨fun _ => hend, fun _ => sim_bring hI h6 hn6 hz (fun r FX' GX' FM' GM' i1 i2 i3 i4 => ?_)⟩
    rcases i3 with rfl | ⟨s, hs, _, h0, _⟩
    · exact ⟨fun _ => hQ _ FX' GX' FM' GM' i1 (fun P hP => ⟨1, i4 _ ⟨fun _ => hP, fun c => absurd rfl c⟩⟩), fun c => absurd rfl c⟩
    · have := zc_pos h0 80 hs; omega
  | succ k ih =>
    intro x2 FX GX FM GM hI h6 hzc hx Q hQ
    rw [wp_X7_trace_15]
    refine ⟨fun c => absurd c (le_no (b := 80) (by omega) (by omega)), fun _ => sim_bring hI h6 hn6 hz (fun r FX' GX' FM' GM' i1 i2 i3 i4 => ?_)⟩
    rcases i3 with rfl | ⟨s, hs, rfl, h0, h30⟩
    · exact ⟨fun _ => hQ _ FX' GX' FM' GM' i1 (fun P hP => ⟨1, i4 _ ⟨fun _ => hP, fun c => absurd rfl c⟩⟩), fun c => absurd rfl c⟩
    · refine ⟨fun c => absurd c (nI_m1 (by omega)), fun _ v hv => ?_⟩
      subst hv
      have hz' := zc_upd h0 80 hs
      rw [← h30] at hz'
      rw [nI_1]
      refine ih (x2 + 1) FX' GX' FM' GM' i1 (i2.trans h6) (by omega) (by omega) Q (fun r FX2 GX2 FM2 GM2 j1 j2 => hQ r FX2 GX2 FM2 GM2 j1 (fun P hP => ?_))
      obtain ⟨n, hn⟩ := j2 P hP
      refine ⟨n + 1, i4 _ ⟨fun c => absurd c (nI_m1 (by omega)), fun _ v hv => ?_⟩⟩
      subst hv
      rw [nI_1]; exact hn
theorem stp_trace : Stp_trace Inv := by
  intro FX GX FM GM w hI x1
  obtain ⟨he, hm, hb⟩ := id hI
  obtain ⟨e0, e1, e2, e3, e4, e5, e6, e7, e8⟩ := he.F
  obtain ⟨g10, g11, g12, g13, g14, g15, g16, g17, g19, g20, g21, g22, g23, g24, g25, g26, g27, g28, g29, g30, g31⟩ := he.G
  obtain ⟨n6, hn6, h6⟩ := hb.2.2.1
  have hp0 : ∀ r : Int32, PS Inv FX GX r r (sU FM 20 0) GM w := fun r => ⟨rfl, hI.t⟩
  simp (disch := decide) only [wp_X7_trace, wp_X7_trace_0, wp_X1_has, wp_X1_has_0, wp_X8_trace, wp_X8_trace_0, wp_X8_isHorse, wp_X8_isHorse_0, forall_eq, sU_ne, e6, h6]
  rcases pk_ix x1 (n := n6) (by omega) with a | a | ⟨z, hz, rfl⟩
  · simp +decide only [a, not_true_eq_false, not_false_eq_true, false_implies, true_implies, and_true, true_and, true_or, or_true, ne_eq, hp0]
  · simp +decide only [a, gt_lt a (by omega), not_true_eq_false, not_false_eq_true, false_implies, true_implies, and_true, true_and, true_or, or_true, ne_eq, hp0]
  simp +decide only [nI_pos (show z < 2 ^ 31 by omega), le_no hz (by omega), not_true_eq_false, not_false_eq_true, false_implies, true_implies, and_true, true_and, true_or, or_true, ne_eq]
  exact ⟨81, tr_l hn6 hz 80 0 FX GX (sU FM 20 0) GM hI.t h6 (zc_le 80) (by omega) _ (fun r FX' GX' FM' GM' i1 i2 => i2 _ ⟨rfl, i1⟩)⟩
/-- X led late, M led early: what holds after -/
theorem led_inv {FX : FT} {GX : GT} {FM : FT} {GM : GT} {w : Int64} (hI : Inv FX GX FM GM w) {z n6 : Nat} (h6 : FX 6 = nI n6) (hn6 : n6 ≤ 40) (hz : z < n6) {a t how : Int32} (ha : pp (FX 3) a) (ht : pp (FX 3) t) {FX1 FM' : FT} {GX1 GM' : GT} (hA : InvA FX1 GX1 FM' GM') (q2 : ∀ k, k ≠ 5 → k ≠ 17 → FX1 k = FX k) (q3 : ∀ k, (k < 11 ∨ 15 < k) ∧ k ≠ 46 ∧ k ≠ 47 → k ≠ 30 → GX1 k = GX k) (m7 : FM' 7 = hF FM 7) (mB : ∀ k, 16 ≤ k → k ≤ 22 → GM' k = hG FM (mM FM GM z a t) z a how k) (mO : ∀ k, 32 ≤ k → GM' k = GM k) : Inv (hF FX1) (hG FX1 (mX FX1 GX1 z a t) z a how) FM' GM' w := by
  obtain ⟨he, hm, hb⟩ := id hI
  have hB1 : Bds FX1 GX1 := hb.un hA.2.2 q2 q3
  refine ⟨EQ.mk ⟨fun k h1 h7 => ?_, fun k h1 h2 h3 => ?_⟩ (he.b.ld (he.1 0 (by omega)) (he.1 8 (by omega)) (show z < 40 by omega) (a := a) (b := t) (how := how) ?_ ?_) ?_ ?_ ?_ ?_, hA.2.1.cg (fun k hk => hF_k (by omega)) (fun k hk => by rw [hG_k (by omega), mX_k (by omega)]), x_ldB (n6 := n6) ((q2 6 (by omega) (by omega)).trans h6) hn6 hz hB1 ?_ ?_⟩
  · rw [hF_k h7]; exact hA.1.1 k h1 h7
  · rw [hG_k (by omega), mX_k (by omega)]; exact hA.1.2 k h1 h2 h3
  · exact (x_ldb (F := FX1) (G := GX1)).cg (q2 0 (by omega) (by omega)) (q2 7 (by omega) (by omega)) (q2 8 (by omega) (by omega)) (fun k k1 k2 => q3 k (by omega) (by omega)) rfl (fun k _ _ => rfl)
  · exact (m_ldb (F := FM) (G := GM)).cg rfl rfl rfl (fun k k1 k2 => rfl) m7 mB
  · rw [hG_k (by omega), mX_k (by omega), q3 40 (by omega) (by omega), mO 50 (by omega)]; exact he.2.2.1
  · intro l k hl hk
    rw [hG_k (by omega), mX_k (by omega), q3 _ (by omega) (by omega), mO 51 (by omega)]; exact he.2.2.2.1 l k hl hk
  · intro l k hl hk
    rw [hG_k (by omega), mX_k (by omega), q3 _ (by omega) (by omega), mO 52 (by omega)]; exact he.2.2.2.2.1 l k hl hk
  · intro l k hl hk
    rw [hG_k (by omega), mX_k (by omega), q3 _ (by omega) (by omega), mO 53 (by omega)]; exact he.2.2.2.2.2.1 l k hl hk
  · rw [q2 3 (by omega) (by omega)]; exact ha
  · rw [q2 3 (by omega) (by omega)]; exact ht
/-- X settles and leads, M leads and settles -/
theorem sl_a {FX : FT} {GX : GT} {FM : FT} {GM : GT} {w : Int64} (hI : Inv FX GX FM GM w) {z n6 : Nat} (h6 : FX 6 = nI n6) (hn6 : n6 ≤ 40) (hz : z < n6) {a t how : Int32} (ha : pp (FX 3) a) (ht : pp (FX 3) t) : ∃ (FM' : FT) (GM' : GT), (∀ (Q : FT → GT → Prop), (∀ (FX1 : FT) (GX1 : GT), (∀ k, (k < 11 ∨ 15 < k) ∧ k ≠ 46 ∧ k ≠ 47 → GX1 k = GX k) → (∀ Q' : FT → GT → Prop, (∀ FX' GX', Inv FX' GX' FM' GM' w → Q' FX' GX') → wp_X7_lead (nI z) a t how FX1 GX1 Q') → Q FX1 GX1) → wp_X4_settle FX GX Q) ∧ (∀ (Q : FT → GT → Int64 → Prop), Q FM' GM' w → wp_X8_goes (nI z) a t how FM GM w (fun F G w => wp_X8_settle F G w Q)) := by
  obtain ⟨he, hm, hb⟩ := id hI
  have hA : InvA FX GX (hF FM) (hG FM (mM FM GM z a t) z a how) := ⟨⟨fun k h1 h7 => by rw [hF_k h7]; exact he.1 k h1, fun k h1 h2 h3 => by rw [hG_k (by omega), mM_k (by omega)]; exact he.2.1 k h1 h2 (by omega)⟩, hm, hb.a⟩
  obtain ⟨p', lf', r1, r2⟩ := settle_a hA
  refine ⟨hF FM, st (hG FM (mM FM GM z a t) z a how) p' lf', fun Q hQ => r1 Q (fun o' A B h => hQ _ _ (fun k hk => by rw [st_kk (by omega) (by omega), sn_kk (by omega) (by omega)]) (fun Q' hQ' => ?_)), fun Q hQ => m_ld (by omega) (by rw [he.1 7 (by omega)]; exact hb.2.2.2.1) (r2 w Q hQ)⟩
  refine x_ld (by omega) (by rw [sU_ne _ _ (by decide)]; exact hb.2.2.2.1) (hQ' _ _ ?_)
  exact led_inv hI h6 hn6 hz ha ht h (fun k _ k2 => sU_ne _ _ k2) (fun k hk _ => by rw [st_kk (by omega) (by omega), sn_kk (by omega) (by omega)]) rfl (fun k k1 k2 => st_kk (by omega) (by omega)) (fun k hk => by rw [st_kk (by omega) (by omega), hG_k (by omega), mM_k (by omega)])
