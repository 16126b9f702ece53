theorem Bds.s17 {F : FT} {G : GT} {v : Int32} {A B : Nat → Int32} {p lf : Nat → Nat} (h : Bds F G) : Bds (sU F 17 v) (st (sn G A B) p lf) := h.cg (fun k hk => sU_ne _ _ (by omega)) (fun k hk => by rw [st_kk (by omega) (by omega), sn_kk (by omega) (by omega)])
theorem Inv.settle {FX : FT} {GX : GT} {FM : FT} {GM : GT} {w : Int64} (h : Inv FX GX FM GM w) : ∃ p' lf' : Nat → Nat, (∀ (Q : FT → GT → Prop), (∀ (o' : Nat) (A B : Nat → Int32), Inv (sU FX 17 (nI o')) (st (sn GX A B) p' lf') FM (st GM p' lf') w → Q (sU FX 17 (nI o')) (st (sn GX A B) p' lf')) → wp_X4_settle FX GX Q) ∧ (∀ (Q : FT → GT → Int64 → Prop), Q FM (st GM p' lf') w → wp_X8_settle FM GM w Q) := by
  obtain ⟨p', lf', r1, r2⟩ := settle_a h.a
  exact ⟨p', lf', fun Q hQ => r1 Q (fun o' A B ha => hQ o' A B ⟨((h.1.sX 17 (by omega) _).sn A B).st p' lf', ha.2.1, h.2.2.s17⟩), fun Q hQ => r2 w Q hQ⟩
theorem stp_coin : Stp_coin Inv := by
  intro FX GX FM GM w hI x1 x2
  obtain ⟨he, hm, hb⟩ := id hI
  obtain ⟨e0, e1, e2, e3, e4, e5, e6, e7, e8⟩ := he.F
  obtain ⟨g10, g11, g12, g13, g14, g15, g16, g17, g19, g20, g21, g22, g23, g24, g25, g26, g27, g28, g29, g30, g31⟩ := he.G
  obtain ⟨p, lf, u, c, d, o, n3, h11, h15, h30, h4, h5, h17, h3, hsp, hc, hpq, hq, hrest⟩ := hm
  have hp0 : ∀ r : Int32, PS Inv FX GX r r (sU FM 20 0) GM w := fun r => ⟨rfl, hI.t⟩
  simp (disch := decide) only [wp_X7_coin, wp_X7_coin_0, wp_X4_hasPerson, wp_X4_hasPerson_0, wp_X4_mayCome, wp_X4_mayCome_0, wp_X4_bring, wp_X4_bring_0, wp_X8_coin, wp_X8_coin_0, wp_X8_isPerson, wp_X8_isPerson_0, forall_eq, sU_ne, sU_same, e0, e1, e2, e3, e4, e5, e6, e7, e8, g10, g11, g12, g13, g14, g15, g16, g17, g19, g20, g21, g22, g23, g24, g25, g26, g27, g28, g29, g30, g31, h3, h4, h11]
  rcases pk_ix x1 (n := n3) (by omega) with a | a | ⟨z, hz, rfl⟩
  · simp +decide only [a, not_true_eq_false, not_false_eq_true, false_implies, true_implies, and_true, true_and, true_or, or_true, ne_eq, hp0]
  · simp +decide only [a, gt_lt a (by omega), not_true_eq_false, not_false_eq_true, false_implies, true_implies, and_true, true_and, true_or, or_true, ne_eq, hp0]
  simp +decide only [in_n hz hq (by omega), nI_pos (show z < 2 ^ 31 by omega), le_no hz (by omega), nI_clamp (show z < 2 ^ 31 by omega), not_true_eq_false, not_false_eq_true, false_implies, true_implies, and_true, true_and, true_or, or_true, ne_eq]
  rcases pk_ix x2 (n := 1000001) (by omega) with a | a | ⟨j, hj, rfl⟩
  · have a1 : x2 < 1 := Int32.lt_trans a (by decide)
    simp +decide only [a1, not_true_eq_false, not_false_eq_true, false_implies, true_implies, and_true, true_and, true_or, or_true, ne_eq, hp0]
  · have a1 : 1000000 < x2 := Int32.lt_of_lt_of_le (by decide : (1000000 : Int32) < nI 1000001) a
    have a2 : ¬ x2 < 1 := fun q => Int32.lt_irrefl (Int32.lt_of_lt_of_le (Int32.lt_of_le_of_lt a q) (by decide : (1 : Int32) ≤ nI 1000001))
    simp +decide only [a1, a2, not_true_eq_false, not_false_eq_true, false_implies, true_implies, and_true, true_and, true_or, or_true, ne_eq, hp0]
  by_cases hj0 : j = 0
  · subst hj0
    simp +decide only [not_true_eq_false, not_false_eq_true, false_implies, true_implies, and_true, true_and, true_or, or_true, ne_eq, hp0]
  have a0 : ¬ nI j < 1 := nI_nlt (b := 1) (by omega) (by omega)
  have a1 : ¬ 1000000 < nI j := nI_nlt (a := 1000000) (by omega) (by omega)
  have a2 : (1000000000 : Int32) - nI j = nI (1000000000 - j) := pk_sub (a := 1000000000) (by omega)
  simp only [a0, a1, a2, nI_add, not_true_eq_false, not_false_eq_true, false_implies, true_implies, and_true, true_and, true_or, or_true, ne_eq]
  by_cases hcj : c + j ≤ 1000000000
  · have b1 : ¬ nI (1000000000 - j) < nI c := nI_nlt (by omega) (by omega)
    have b2 : nI (c + j) ≤ 1000000000 := le_ya (a := 1000000000) hcj (by omega)
    simp +decide only [b1, b2, not_true_eq_false, not_false_eq_true, false_implies, true_implies, and_true, true_and, true_or, or_true, ne_eq, upd_nI]
    have hI' : Inv (sU FX 4 (nI (c + j))) (gU GX 11 (fun i => nI (nu p z (p z + j) i))) (sU (sU FM 20 0) 4 (nI (c + j))) (gU GM 11 (fun i => nI (nu p z (p z + j) i))) w := by
      refine ⟨((hI.1.t (z := 0)).sF 4 _).gG 11 (by omega) (by omega) (by omega) (by omega) (by omega) _, ⟨nu p z (p z + j), lf, u, c + j, d, o, n3, gU_same _ _ _, (gU_ne _ _ (by decide)).trans h15, (gU_ne _ _ (by decide)).trans h30, sU_same _ _ _, (sU_ne _ _ (by decide)).trans h5, (sU_ne _ _ (by decide)).trans h17, (sU_ne _ _ (by decide)).trans h3, ?_, hcj, fun i hi => ?_, hq, hrest⟩, hI.2.2.cg (fun k hk => sU_ne _ _ (by omega)) (fun k hk => gU_ne _ _ (by omega))⟩
      · have := sm_nu (p := p) (k := z) (y := p z + j) 16 (by omega)
        omega
      · rw [nu_n (by omega)]; exact hpq i hi
    obtain ⟨p', lf', r1, r2⟩ := hI'.settle
    refine r1 _ (fun o' A B h => r2 _ ⟨?_, h⟩)
    rw [st_11, st_11]
  · have b1 : nI (1000000000 - j) < nI c := nI_lt (by omega) (by omega)
    have b2 : ¬ nI (c + j) ≤ 1000000000 := le_no (a := 1000000000) (by omega) (by omega)
    simp +decide only [b1, b2, not_true_eq_false, not_false_eq_true, false_implies, true_implies, and_true, true_and, true_or, or_true, ne_eq, hp0]
theorem nb1 : vp_nar .boolean 1 = 1 := rfl
theorem nb0 : vp_nar .boolean 0 = 0 := rfl
/-- a sale is undone on both sides; the other's horse may have been led already -/
theorem undo_a {FX : FT} {GX : GT} {FM : FT} {GM : GT} (h : InvA FX GX FM (gU GM 30 (GX 30))) {s : Nat} (hs : s < 80) (h0 : GX 30 s = 0) (hM : GM 30 = upd (GX 30) s 1) : ∃ (FM' : FT) (GM' : GT), (∀ (Q : FT → GT → Prop), (∀ (FX' : FT) (GX' : GT), InvA FX' GX' FM' GM' → (∀ k, k ≠ 5 → k ≠ 17 → FX' k = FX k) → (∀ k, (k < 11 ∨ 15 < k) ∧ k ≠ 46 ∧ k ≠ 47 → k ≠ 30 → GX' k = GX k) → GX' 30 = upd (GX 30) s 1 → Q FX' GX') → wp_X7_undo (nI s) FX GX Q) ∧ (∀ (w : Int64) (Q : FT → GT → Int64 → Prop), Q FM' GM' w → wp_X8_due (GM 24 s) (GM 25 s) (GM 26 s) FM GM w Q) ∧ (∀ k, k ≠ 5 → FM' k = FM k) ∧ (∀ k, k < 11 ∨ 15 < k → GM' k = GM k) := by
  obtain ⟨he, hm, b12, b13, b24, b25, b26⟩ := h
  have he' : EQA FX (gU GX 30 (upd (GX 30) s 1)) FM GM := by
    refine ⟨he.1, fun k h1 h2 h3 => ?_⟩
    by_cases e : k = 30
    · subst e; rw [gU_same, hM]
    · rw [gU_ne _ _ e, ← gU_ne GM (GX 30) e]; exact he.2 k h1 h2 h3
  have m24 : GM 24 = GX 24 := by rw [he'.2 24 (by omega) (by omega) (by omega), gU_ne _ _ (by decide)]
  have m25 : GM 25 = GX 25 := by rw [he'.2 25 (by omega) (by omega) (by omega), gU_ne _ _ (by decide)]
  have m26 : GM 26 = GX 26 := by rw [he'.2 26 (by omega) (by omega) (by omega), gU_ne _ _ (by decide)]
  have hbA : BdA FX (gU GX 30 (upd (GX 30) s 1)) := by
    unfold BdA
    rw [gU_ne _ _ (by decide), gU_ne _ _ (by decide), gU_ne _ _ (by decide), gU_ne _ _ (by decide), gU_ne _ _ (by decide)]
    exact ⟨b12, b13, b24, b25, b26⟩
  obtain ⟨FM', GM', r1, r2, r3, r4⟩ := due_a he' (hm.u hs h0 (gU_ne _ _ (by decide)) (gU_ne _ _ (by decide)) (gU_same _ _ _)) hbA (b24 s) (b25 s) (b26 s)
  refine ⟨FM', GM', fun Q hQ => ?_, fun w Q hQ => ?_, r3, r4⟩
  · simp (disch := decide) only [wp_X7_undo, wp_X7_undo_0, vp_in_nI hs (show 80 < 2 ^ 31 by omega), nI_clamp (show s < 2 ^ 31 by omega), forall_eq, gU_ne, nb1, not_true_eq_false, not_false_eq_true, false_implies, true_implies, and_true, true_and, true_or, or_true, ne_eq]
    refine r1 _ (fun FX' GX' h1 h2 h3 => hQ FX' GX' h1 h2 (fun k hk hk' => ?_) ?_)
    · rw [h3 k hk, gU_ne _ _ hk']
    · rw [h3 30 (by omega), gU_same]
  · rw [m24, m25, m26]; exact r2 w Q hQ
