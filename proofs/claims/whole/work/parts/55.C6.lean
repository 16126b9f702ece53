def zc (g : Nat → Int32) : Nat → Nat
  | 0 => 0
  | n + 1 => zc g n + (if g n = 0 then 1 else 0)
theorem zc_out {g : Nat → Int32} {s : Nat} {x : Int32} : ∀ n, n ≤ s → zc (upd g s x) n = zc g n
  | 0, _ => rfl
  | n + 1, h => by rw [zc, zc, zc_out n (by omega), show upd g s x n = g n from if_neg (by omega)]
theorem zc_upd {g : Nat → Int32} {s : Nat} (h0 : g s = 0) : ∀ n, s < n → zc (upd g s 1) n + 1 = zc g n
  | 0, h => absurd h (Nat.not_lt_zero s)
  | n + 1, h => by
    by_cases e : n = s
    · subst e
      rw [zc, zc, zc_out n (Nat.le_refl n), upd_e, if_pos rfl, if_neg (by decide), if_pos h0]
    · have := zc_upd h0 n (by omega)
      rw [zc, zc, upd_e, if_neg e]; omega
theorem zc_pos {g : Nat → Int32} {s : Nat} (h0 : g s = 0) : ∀ n, s < n → 0 < zc g n
  | 0, h => absurd h (Nat.not_lt_zero s)
  | n + 1, h => by
    by_cases e : n = s
    · subst e; rw [zc, if_pos h0]; omega
    · have := zc_pos h0 n (by omega)
      rw [zc]; omega
theorem zc_le {g : Nat → Int32} : ∀ n, zc g n ≤ n
  | 0 => Nat.le_refl 0
  | n + 1 => by
    have := zc_le (g := g) n
    rw [zc]; split <;> omega
theorem nI_m1 {k : Nat} (h : k < 2 ^ 31) : ¬ nI k = -1 := fun q => absurd (q ▸ nI_pos h) (by decide)
/-- M: no sale stands: nothing goes back -/
theorem m_none_back {FM : FT} {GM : GT} {w : Int64} {z n8 : Nat} (h8 : FM 8 = nI n8) (hn8 : n8 ≤ 80) (hl : lat (GM 23) (GM 30) (nI z) n8 = -1) {Q : Int32 → FT → GT → Int64 → Prop} (hQ : Q (-1) FM GM w) : wp_X8_bring (nI z) FM GM w Q := by
  refine m_latest h8 hn8 ?_
  rw [hl]
  simp +decide only [wp_X8_mayGoBack, wp_X8_mayGoBack_0, not_true_eq_false, not_false_eq_true, false_implies, true_implies, and_true, true_and, true_or, or_true, ne_eq]
  exact hQ
theorem sim_bring {FX : FT} {GX : GT} {FM : FT} {GM : GT} {w : Int64} (hI : Inv FX GX FM GM w) {z n6 : Nat} (h6 : FX 6 = nI n6) (hn6 : n6 ≤ 40) (hz : z < n6) {Q : Int32 → FT → GT → Prop} (hQ : ∀ (r : Int32) (FX' : FT) (GX' : GT) (FM' : FT) (GM' : GT), Inv FX' GX' FM' GM' w → FX' 6 = FX 6 → (r = -1 ∨ ∃ s, s < 80 ∧ r = nI s ∧ GX 30 s = 0 ∧ GX' 30 = upd (GX 30) s 1) → (∀ P : Int32 → FT → GT → Int64 → Prop, P r FM' GM' w → wp_X8_bring (nI z) FM GM w P) → Q r FX' GX') : wp_X7_bringBack (nI z) FX GX Q := by
  obtain ⟨he, hm, hb⟩ := id hI
  obtain ⟨e0, e1, e2, e3, e4, e5, e6, e7, e8⟩ := he.F
  obtain ⟨g10, g11, g12, g13, g14, g15, g16, g17, g19, g20, g21, g22, g23, g24, g25, g26, g27, g28, g29, g30, g31⟩ := he.G
  obtain ⟨n8, hn8, h8⟩ := hb.2.2.2.2.1
  have h8' : FM 8 = nI n8 := e8.trans h8
  refine x_latest h8 hn8 ?_
  rcases lat_c (g := GX 23) (k := GX 30) (x := nI z) n8 with hl | ⟨s, hs, hl, h23, h30⟩
  · rw [hl]
    simp +decide only [not_true_eq_false, not_false_eq_true, false_implies, true_implies, and_true, true_and, true_or, or_true, ne_eq]
    exact hQ _ FX GX FM GM hI rfl (.inl rfl) (fun P hP => m_none_back h8' hn8 (by rw [g23, g30]; exact hl) hP)
  have hs80 : s < 80 := by omega
  have hM : ∀ P : Int32 → FT → GT → Int64 → Prop, wp_X8_mayGoBack (nI z) (nI s) FM GM w (fun r8 F5 G6 w7 => ((¬ r8 = 0) → vp_in (nI s) 80 ∧ ∀ G9 : GT, G9 = gU G6 30 (upd (G6 30) (nI s).toNatClampNeg (vp_nar .boolean (1 : Int32))) → vp_in (nI s) 80 ∧ vp_in (nI s) 80 ∧ (((G9 31 (nI s).toNatClampNeg) = 0) → wp_X8_bring_65 P (nI z) (nI s) (G9 24 (nI s).toNatClampNeg) (nI z) F5 G9 w7) ∧ ((¬ (G9 31 (nI s).toNatClampNeg) = 0) → vp_in (nI z) 40 ∧ vp_in (nI s) 80 ∧ ((¬ (G9 17 (nI z).toNatClampNeg) = (G9 25 (nI s).toNatClampNeg)) → wp_X8_bring_65 P (nI z) (nI s) (G9 24 (nI s).toNatClampNeg) (nI z) F5 G9 w7) ∧ (((G9 17 (nI z).toNatClampNeg) = (G9 25 (nI s).toNatClampNeg)) → vp_in (nI s) 80 ∧ wp_X8_bring_71 P (nI s) (G9 24 (nI s).toNatClampNeg) (G9 24 (nI s).toNatClampNeg) (nI z) F5 G9 w7))) ∧ ((r8 = 0) → P (-1 : Int32) F5 G6 w7)) → wp_X8_bring (nI z) FM GM w P := by
    intro P h
    refine m_latest h8' hn8 ?_
    rw [g23, g30, hl]
    exact h
  rw [hl]
  simp only [nI_m1 (show s < 2 ^ 31 by omega), vp_in_nI hs80 (show 80 < 2 ^ 31 by omega), vp_in_nI (show z < 40 by omega) (show 40 < 2 ^ 31 by omega), nI_clamp (show s < 2 ^ 31 by omega), nI_clamp (show z < 2 ^ 31 by omega), not_true_eq_false, not_false_eq_true, false_implies, true_implies, and_true, true_and, true_or, or_true, ne_eq]
  by_cases c1 : GX 25 s = GX 16 z
  · obtain ⟨l, hl3, h28⟩ := hb.2.2.2.2.2.2.2.2.2.2.2.2.1 s
    simp only [c1, not_true_eq_false, not_false_eq_true, false_implies, true_implies, and_true, true_and, true_or, or_true, ne_eq]
    obtain ⟨r, hr⟩ : ∃ r, r = lb (GX (z + 100)) (GX (z + 200)) (GX (l + 300)) (GX 27 s) (GX 29 s) (FX 0 - GX 29 s) 6 0 := ⟨_, rfl⟩
    have hr01 : r = 0 ∨ r = 1 := by rw [hr]; exact lb_01 6 0
    refine ⟨vp_in_nI hs80 (by omega), 7, ?_⟩
    rw [nI_clamp (by omega)]
    refine x_lb (by omega) hs80 (by omega) h28 6 0 (by omega) ?_
    rw [← hr]
    have mgb : ∀ P : Int32 → FT → GT → Int64 → Prop, P r FM GM w → wp_X8_mayGoBack (nI z) (nI s) FM GM w P := by
      intro P hP
      simp only [wp_X8_mayGoBack, wp_X8_mayGoBack_0, nI_m1 (show s < 2 ^ 31 by omega), vp_in_nI hs80 (show 80 < 2 ^ 31 by omega), vp_in_nI (show z < 40 by omega) (show 40 < 2 ^ 31 by omega), nI_clamp (show s < 2 ^ 31 by omega), nI_clamp (show z < 2 ^ 31 by omega), g25, g16, c1, not_true_eq_false, not_false_eq_true, false_implies, true_implies, and_true, true_and, true_or, or_true, ne_eq]
      refine ⟨7, m_lb (ro := GX (z + 100)) (si := GX (z + 200)) (la := GX (l + 300)) (wa := GX 27 s) (ma := GX 29 s) (by omega) hs80 (show l < 3 by omega) (by rw [g28]; exact h28) (by rw [g27]) (by rw [g29]) (fun f hf => he.2.2.2.2.1 z f (by omega) hf) (fun f hf => he.2.2.2.2.2.1 z f (by omega) hf) (fun k hk => he.2.2.2.1 l k (by omega) hk) 6 0 (by omega) ?_⟩
      rw [e0, ← hr]
      exact ⟨hr01, hP⟩
    refine ⟨hr01, ?_⟩
    rcases hr01 with r0 | r1
    · rw [r0] at mgb ⊢
      simp +decide only [not_true_eq_false, not_false_eq_true, false_implies, true_implies, and_true, true_and, true_or, or_true, ne_eq]
      exact hQ _ FX GX FM GM hI rfl (.inl rfl) (fun P hP => hM P (mgb _ (by simp +decide only [not_true_eq_false, not_false_eq_true, false_implies, true_implies, and_true, true_and, true_or, or_true, ne_eq]; exact hP)))
    · rw [r1] at mgb ⊢
      simp +decide only [not_true_eq_false, not_false_eq_true, false_implies, true_implies, and_true, true_and, true_or, or_true, ne_eq]
      have p24 := hb.2.2.2.2.2.2.2.2.2.1 s
      have p17 := hb.2.2.2.2.2.2.2.2.1 z
      -- with the title, or without it
      have go : ∀ t : Int32, pp (FX 3) t → (t = GX 17 z → ((GX 31 s = 0) ∨ (¬ GX 31 s = 0 ∧ ¬ GX 17 z = GX 25 s)) → wp_X7_undo (nI s) FX GX (fun F1 G2 => wp_X7_lead (nI z) (GX 24 s) (G2 17 z) 2 F1 G2 (fun F G => Q (nI s) F G))) ∧ (t = GX 24 s → (¬ GX 31 s = 0 ∧ GX 17 z = GX 25 s) → wp_X7_undo (nI s) FX GX (fun F1 G2 => wp_X7_lead (nI z) (GX 24 s) (GX 24 s) 2 F1 G2 (fun F G => Q (nI s) F G))) := by
        intro t ht
        obtain ⟨FM', GM', r1, r2⟩ := back_a hI h6 hn6 hz hs80 h30 p24 ht (how := 2)
        have hfin : ∀ P : Int32 → FT → GT → Int64 → Prop, P (nI s) FM' GM' w → wp_X8_bring_71 P (nI s) t (GX 24 s) (nI z) FM (gU GM 30 (upd (GX 30) s 1)) w := by
          intro P hP
          simp only [wp_X8_bring_71, vp_in_nI hs80 (show 80 < 2 ^ 31 by omega), nI_clamp (show s < 2 ^ 31 by omega), not_true_eq_false, not_false_eq_true, false_implies, true_implies, and_true, true_and, true_or, or_true, ne_eq]
          exact r2 (fun F G w => P (nI s) F G w) hP
        refine ⟨fun et hc => r1 _ (fun FX1 GX1 q1 q2 q3 => ?_), fun et hc => r1 _ (fun FX1 GX1 q1 q2 q3 => ?_)⟩
        · rw [q2 17 (by omega) (by omega), ← et]
          refine q3 _ (fun FX' GX' i1 i2 i3 => hQ _ FX' GX' FM' GM' i1 i2 (.inr ⟨s, hs80, rfl, h30, i3⟩) (fun P hP => hM P (mgb _ ?_)))
          have := hfin P hP
          simp (disch := decide) only [wp_X8_bring_65, vp_in_nI hs80 (show 80 < 2 ^ 31 by omega), vp_in_nI (show z < 40 by omega) (show 40 < 2 ^ 31 by omega), nI_clamp (show s < 2 ^ 31 by omega), nI_clamp (show z < 2 ^ 31 by omega), forall_eq, gU_ne, e0, e1, e2, e3, e4, e5, e6, e7, e8, g10, g11, g12, g13, g14, g15, g16, g17, g19, g20, g21, g22, g23, g24, g25, g26, g27, g28, g29, g30, g31, nb1, ← et, not_true_eq_false, not_false_eq_true, false_implies, true_implies, and_true, true_and, true_or, or_true, ne_eq]
          rcases hc with hc | ⟨hc1, hc2⟩
          · simp +decide only [hc, not_true_eq_false, not_false_eq_true, false_implies, true_implies, and_true, true_and, true_or, or_true, ne_eq]; exact this
          · rw [← et] at hc2
            simp +decide only [hc1, hc2, not_true_eq_false, not_false_eq_true, false_implies, true_implies, and_true, true_and, true_or, or_true, ne_eq]; exact this
        · rw [← et]
          have ep : pp (FX 3) (GX 24 s) := p24
          rw [et] at q3 hfin ⊢
          refine q3 _ (fun FX' GX' i1 i2 i3 => hQ _ FX' GX' FM' GM' i1 i2 (.inr ⟨s, hs80, rfl, h30, i3⟩) (fun P hP => hM P (mgb _ ?_)))
          have := hfin P hP
          simp (disch := decide) only [wp_X8_bring_65, vp_in_nI hs80 (show 80 < 2 ^ 31 by omega), vp_in_nI (show z < 40 by omega) (show 40 < 2 ^ 31 by omega), nI_clamp (show s < 2 ^ 31 by omega), nI_clamp (show z < 2 ^ 31 by omega), forall_eq, gU_ne, e0, e1, e2, e3, e4, e5, e6, e7, e8, g10, g11, g12, g13, g14, g15, g16, g17, g19, g20, g21, g22, g23, g24, g25, g26, g27, g28, g29, g30, g31, nb1, not_true_eq_false, not_false_eq_true, false_implies, true_implies, and_true, true_and, true_or, or_true, ne_eq]
          simp +decide only [hc.1, hc.2, not_true_eq_false, not_false_eq_true, false_implies, true_implies, and_true, true_and, true_or, or_true, ne_eq]; exact this
      have goA := (go (GX 17 z) p17).1 rfl
      have goB := (go (GX 24 s) p24).2 rfl
      simp +decide only [wp_X7_bringBack_93, wp_X7_bringBack_94, wp_X7_bringBack_122, nI_clamp (show z < 2 ^ 31 by omega), vp_in_nI (show z < 40 by omega) (show 40 < 2 ^ 31 by omega), not_true_eq_false, not_false_eq_true, false_implies, true_implies, and_true, true_and, true_or, or_true, ne_eq]
      by_cases c2 : GX 31 s = 0
      · simp only [c2, not_true_eq_false, not_false_eq_true, false_implies, true_implies, and_true, true_and, true_or, or_true, ne_eq]; exact goA (.inl c2)
      · by_cases c3 : GX 17 z = GX 25 s
        · simp only [c2, c3, not_true_eq_false, not_false_eq_true, false_implies, true_implies, and_true, true_and, true_or, or_true, ne_eq]; exact goB ⟨c2, c3⟩
        · simp only [c2, c3, not_true_eq_false, not_false_eq_true, false_implies, true_implies, and_true, true_and, true_or, or_true, ne_eq]; exact goA (.inr ⟨c2, c3⟩)
  · simp only [c1, not_true_eq_false, not_false_eq_true, false_implies, true_implies, and_true, true_and, true_or, or_true, ne_eq]
    refine hQ _ FX GX FM GM hI rfl (.inl rfl) (fun P hP => hM P ?_)
    simp +decide only [wp_X8_mayGoBack, wp_X8_mayGoBack_0, nI_m1 (show s < 2 ^ 31 by omega), vp_in_nI hs80 (show 80 < 2 ^ 31 by omega), vp_in_nI (show z < 40 by omega) (show 40 < 2 ^ 31 by omega), nI_clamp (show s < 2 ^ 31 by omega), nI_clamp (show z < 2 ^ 31 by omega), g25, g16, c1, not_true_eq_false, not_false_eq_true, false_implies, true_implies, and_true, true_and, true_or, or_true, ne_eq]
    exact hP
