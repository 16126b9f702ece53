theorem EQ.tt {FX : FT} {GX : GT} {FM : FT} {GM : GT} (h : EQ FX GX FM GM) {z : Nat} {a : Int32} (ha : GX 16 z = a) : EQ FX (gU GX 17 (upd (GX 17) z a)) FM (gU GM 17 (upd (GM 17) z a)) := by
  refine h.ld (z := z) (a := a) (b := a) (fun k _ h2 _ => gU_ne _ _ h2) (fun k _ h2 _ => gU_ne _ _ h2) ?_ (gU_same _ _ _) ?_ (gU_same _ _ _) (fun j hj => by rw [gU_ne _ _ (by decide)]) (fun j hj => by rw [gU_ne _ _ (by decide)]) (fun c => absurd rfl c)
  · rw [gU_ne _ _ (by decide), ← ha, upd_0]
  · rw [gU_ne _ _ (by decide), h.2.1 16 (by omega) (by omega) (by omega), ← ha, upd_0]
theorem nx_l {w : Int64} {n6 : Nat} (hn6 : n6 ≤ 40) : ∀ (m i : Nat) (FX : FT) (GX : GT) (FM : FT) (GM : GT), i + m = n6 → Inv FX GX FM GM w → FX 6 = nI n6 → ∀ Q : Int32 → FT → GT → Prop, (∀ (FX' : FT) (GX' : GT) (FM' : FT) (GM' : GT), Inv FX' GX' FM' GM' w → (∀ P : Int32 → FT → GT → Int64 → Prop, P (FX' 0) FM' GM' w → ∃ n, wp_X8_next_29 P n (nI i) FM GM w) → Q (FX' 0) FX' GX') → wp_X7_next_24 Q (m + 1) (nI i) FX GX := by
  intro m
  induction m with
  | zero =>
    intro i FX GX FM GM hi hI h6 Q hQ
    obtain ⟨he, hm, hb⟩ := id hI
    simp only [wp_X7_next_24, h6, le_ya (show n6 ≤ i by omega) (by omega), not_true_eq_false, not_false_eq_true, false_implies, true_implies, and_true, true_and, true_or, or_true, ne_eq]
    refine hQ FX GX FM GM hI (fun P hP => ⟨1, ?_⟩)
    simp only [wp_X8_next_29, he.1 6 (by omega), he.1 0 (by omega), h6, le_ya (show n6 ≤ i by omega) (by omega), not_true_eq_false, not_false_eq_true, false_implies, true_implies, and_true, true_and, true_or, or_true, ne_eq]
    exact hP
  | succ m ih =>
    intro i FX GX FM GM hi hI h6 Q hQ
    obtain ⟨he, hm, hb⟩ := id hI
    obtain ⟨e0, e1, e2, e3, e4, e5, e6, e7, e8⟩ := he.F
    obtain ⟨g10, g11, g12, g13, g14, g15, g16, g17, g19, g20, g21, g22, g23, g24, g25, g26, g27, g28, g29, g30, g31⟩ := he.G
    obtain ⟨n8, hn8, h8⟩ := hb.2.2.2.2.1
    have hi40 : i < 40 := by omega
    rw [wp_X7_next_24]
    simp only [h6, le_no (show i < n6 by omega) (by omega), forall_eq, nI_1, not_true_eq_false, not_false_eq_true, false_implies, true_implies, and_true, true_and, true_or, or_true, ne_eq]
    -- nothing opens
    have same : (∀ P : Int32 → FT → GT → Int64 → Prop, ∀ n, wp_X8_next_29 P n (nI (i + 1)) FM GM w → wp_X8_next_29 P (n + 1) (nI i) FM GM w) → wp_X7_next_24 Q (m + 1) (nI (i + 1)) FX GX := by
      intro hs
      refine ih (i + 1) FX GX FM GM (by omega) hI h6 Q (fun FX' GX' FM' GM' a1 a2 => hQ FX' GX' FM' GM' a1 (fun P hP => ?_))
      obtain ⟨n, hn⟩ := a2 P hP
      exact ⟨n + 1, hs P n hn⟩
    refine x_latest h8 hn8 ?_
    have h8' : FM 8 = nI n8 := e8.trans h8
    simp only [wp_X1_isApart, wp_X1_isApart_0, vp_in_nI hi40 (show 40 < 2 ^ 31 by omega), nI_clamp (show i < 2 ^ 31 by omega), not_true_eq_false, not_false_eq_true, false_implies, true_implies, and_true, true_and, true_or, or_true, ne_eq]
    by_cases c1 : GX 16 i = GX 17 i
    · simp +decide only [c1, not_true_eq_false, not_false_eq_true, false_implies, true_implies, and_true, true_and, true_or, or_true, ne_eq]
      refine same (fun P n hn => ?_)
      rw [wp_X8_next_29]
      simp only [e6, h6, le_no (show i < n6 by omega) (show n6 < 2 ^ 31 by omega), vp_in_nI hi40 (show 40 < 2 ^ 31 by omega), nI_clamp (show i < 2 ^ 31 by omega), g16, g17, c1, forall_eq, nI_1, not_true_eq_false, not_false_eq_true, false_implies, true_implies, and_true, true_and, true_or, or_true, ne_eq]
      exact hn
    simp +decide only [c1, not_true_eq_false, not_false_eq_true, false_implies, true_implies, and_true, true_and, true_or, or_true, ne_eq]
    rcases lat_c (g := GX 23) (k := GX 30) (x := nI i) n8 with hl | ⟨s, hs, hl, h23, h30⟩
    · rw [hl]
      simp +decide only [not_true_eq_false, not_false_eq_true, false_implies, true_implies, and_true, true_and, true_or, or_true, ne_eq]
      refine same (fun P n hn => ?_)
      rw [wp_X8_next_29]
      simp only [e6, h6, le_no (show i < n6 by omega) (show n6 < 2 ^ 31 by omega), vp_in_nI hi40 (show 40 < 2 ^ 31 by omega), nI_clamp (show i < 2 ^ 31 by omega), g16, g17, c1, forall_eq, nI_1, not_true_eq_false, not_false_eq_true, false_implies, true_implies, and_true, true_and, true_or, or_true, ne_eq]
      refine m_latest h8' hn8 ?_
      rw [g23, g30, hl]
      simp only [not_true_eq_false, not_false_eq_true, false_implies, true_implies, and_true, true_and, true_or, or_true, ne_eq]; exact hn
    have hs80 : s < 80 := by omega
    obtain ⟨l, hl3, h28⟩ := hb.2.2.2.2.2.2.2.2.2.2.2.2.1 s
    obtain ⟨r9, hr9, hlaw⟩ := hb.2.2.2.2.2.2.2.2.2.2.2.2.2.2.1 l 1 (by omega)
    have k14 : (14 : Int32) * nI l + 1 = nI (14 * l + 1) := by rw [show (14 : Int32) = nI 14 from rfl, pk_mul, nI_1]
    have mlaw : GM 51 (14 * l + 1) = nI r9 := (he.2.2.2.1 l 1 (by omega) (by omega)).trans hlaw
    -- M's side at i, down to what differs
    have M : ∀ (P : Int32 → FT → GT → Int64 → Prop) (n : Nat), (((GX 25 s) = (GX 16 i)) → (((nI r9) = 0) → wp_X8_next_29 P n (nI (i + 1)) FM GM w) ∧ ((¬ (nI r9) = 0) → (((nI r9) ≤ ((FX 0) - (GX 29 s))) → wp_X8_next_29 P n (nI (i + 1)) FM (gU (gU GM 17 (upd (GX 17) i (GX 16 i))) 31 (upd (GX 31) s 1)) w) ∧ ((¬ (nI r9) ≤ ((FX 0) - (GX 29 s))) → wp_X8_next_29 P n (nI (i + 1)) FM GM w))) ∧ ((¬ (GX 25 s) = (GX 16 i)) → wp_X8_next_29 P n (nI (i + 1)) FM GM w) → wp_X8_next_29 P (n + 1) (nI i) FM GM w := by
      intro P n h
      rw [wp_X8_next_29]
      simp only [e6, h6, le_no (show i < n6 by omega) (show n6 < 2 ^ 31 by omega), vp_in_nI hi40 (show 40 < 2 ^ 31 by omega), nI_clamp (show i < 2 ^ 31 by omega), g16, g17, c1, forall_eq, nI_1, not_true_eq_false, not_false_eq_true, false_implies, true_implies, and_true, true_and, true_or, or_true, ne_eq]
      refine m_latest h8' hn8 ?_
      rw [g23, g30, hl]
      simp (disch := decide) only [nI_m1 (show s < 2 ^ 31 by omega), vp_in_nI hs80 (show 80 < 2 ^ 31 by omega), nI_clamp (show s < 2 ^ 31 by omega), g25, g16, g17, g28, g29, g31, h28, k14, vp_in_nI (show 14 * l + 1 < 56 by omega) (show 56 < 2 ^ 31 by omega), nI_clamp (show 14 * l + 1 < 2 ^ 31 by omega), mlaw, e0, gU_ne, nb1, not_true_eq_false, not_false_eq_true, false_implies, true_implies, and_true, true_and, true_or, or_true, ne_eq]
      exact h
    rw [hl]
    simp only [nI_m1 (show s < 2 ^ 31 by omega), vp_in_nI hs80 (show 80 < 2 ^ 31 by omega), nI_clamp (show s < 2 ^ 31 by omega), wp_X2_number, wp_X2_number_0, h28, vp_in_nI (show l < 3 by omega) (show 3 < 2 ^ 31 by omega), nI_clamp (show l < 2 ^ 31 by omega), show vp_in (1 : Int32) 14 from vp_in_nI (n := 1) (by omega) (by omega), show (1 : Int32).toNatClampNeg = 1 from rfl, hlaw, not_true_eq_false, not_false_eq_true, false_implies, true_implies, and_true, true_and, true_or, or_true, ne_eq]
    by_cases c2 : GX 25 s = GX 16 i
    · by_cases c3 : r9 = 0
      · subst c3
        simp +decide only [c2, not_true_eq_false, not_false_eq_true, false_implies, true_implies, and_true, true_and, true_or, or_true, ne_eq]
        exact same (fun P n hn => M P n (by simp +decide only [c2, not_true_eq_false, not_false_eq_true, false_implies, true_implies, and_true, true_and, true_or, or_true, ne_eq]; exact hn))
      · have c3a : ¬ nI r9 < 1 := nI_nlt (b := 1) (by omega) (by omega)
        have c3b : ¬ nI r9 = 0 := nI_ne0 (by omega) (by omega)
        by_cases c4 : FX 0 - GX 29 s < nI r9
        · have c4' : ¬ nI r9 ≤ FX 0 - GX 29 s := Int32.not_le.2 c4
          simp +decide only [c2, c3a, c4, not_true_eq_false, not_false_eq_true, false_implies, true_implies, and_true, true_and, true_or, or_true, ne_eq]
          exact same (fun P n hn => M P n (by simp +decide only [c2, c3b, c4', not_true_eq_false, not_false_eq_true, false_implies, true_implies, and_true, true_and, true_or, or_true, ne_eq]; exact hn))
        · have c4' : nI r9 ≤ FX 0 - GX 29 s := Int32.not_lt.1 c4
          simp +decide only [c2, c3a, c4, not_true_eq_false, not_false_eq_true, false_implies, true_implies, and_true, true_and, true_or, or_true, ne_eq]
          refine x_mv hi40 ?_
          have emX : mX FX GX i (GX 16 i) (GX 16 i) = gU GX 17 (upd (GX 17) i (GX 16 i)) := by
            unfold mX; rw [if_neg c1, upd_0, gU_e rfl]
          rw [emX]
          simp (disch := decide) only [vp_in_nI hs80 (show 80 < 2 ^ 31 by omega), forall_eq, gU_ne, nb1, not_true_eq_false, not_false_eq_true, false_implies, true_implies, and_true, true_and, true_or, or_true, ne_eq]
          have hI' : Inv FX (gU (gU GX 17 (upd (GX 17) i (GX 16 i))) 31 (upd (GX 31) s 1)) FM (gU (gU GM 17 (upd (GX 17) i (GX 16 i))) 31 (upd (GX 31) s 1)) w := by
            have h1 := he.tt (z := i) (a := GX 16 i) rfl
            rw [g17] at h1
            refine ⟨h1.gG 31 (by omega) (by omega) (by omega) (by omega) (by omega) _, hm.cg (fun _ _ => rfl) (fun k hk => by rw [gU_ne _ _ (by omega), gU_ne _ _ (by omega)]), ?_⟩
            obtain ⟨b0, b2, b6, b7, b8, b12, b13, b16, b17, b24, b25, b26, b28, b18, bl, bh⟩ := hb
            unfold Bds
            simp (disch := decide) only [gU_ne, gU_same]
            refine ⟨b0, b2, b6, b7, b8, b12, b13, b16, pp_upd b17 (b16 i), b24, b25, b26, b28, b18, fun l k hl => ?_, Hnd.cg bh rfl rfl ?_⟩
            · rw [gU_ne _ _ (by omega), gU_ne _ _ (by omega)]; exact bl l k hl
            · rw [gU_ne _ _ (by decide), gU_ne _ _ (by decide)]
          refine ih (i + 1) FX _ FM _ (by omega) hI' h6 Q (fun FX' GX' FM' GM' a1 a2 => hQ FX' GX' FM' GM' a1 (fun P hP => ?_))
          obtain ⟨n, hn⟩ := a2 P hP
          exact ⟨n + 1, M P n (by simp +decide only [c2, c3b, c4', not_true_eq_false, not_false_eq_true, false_implies, true_implies, and_true, true_and, true_or, or_true, ne_eq]; exact hn)⟩
    · simp +decide only [c2, not_true_eq_false, not_false_eq_true, false_implies, true_implies, and_true, true_and, true_or, or_true, ne_eq]
      exact same (fun P n hn => M P n (by simp +decide only [c2, not_true_eq_false, not_false_eq_true, false_implies, true_implies, and_true, true_and, true_or, or_true, ne_eq]; exact hn))
theorem stp_next : Stp_next Inv := by
  intro FX GX FM GM w hI
  obtain ⟨he, hm, hb⟩ := id hI
  obtain ⟨e0, e1, e2, e3, e4, e5, e6, e7, e8⟩ := he.F
  obtain ⟨g10, g11, g12, g13, g14, g15, g16, g17, g19, g20, g21, g22, g23, g24, g25, g26, g27, g28, g29, g30, g31⟩ := he.G
  obtain ⟨n0, hn0, h0⟩ := hb.1
  obtain ⟨n6, hn6, h6⟩ := hb.2.2.1
  have hp0 : ∀ r : Int32, PS Inv FX GX r r (sU FM 20 0) GM w := fun r => ⟨rfl, hI.t⟩
  simp (disch := decide) only [wp_X7_next, wp_X7_next_0, wp_X8_next, wp_X8_next_0, forall_eq, sU_ne, e0, h0]
  by_cases c : n0 = 999
  · subst c
    simp +decide only [not_true_eq_false, not_false_eq_true, false_implies, true_implies, and_true, true_and, true_or, or_true, ne_eq, hp0]
  have c1 : nI n0 < 999 := nI_lt (b := 999) (by omega) (by omega)
  have c2 : ¬ nI n0 = 999 := fun q => c ((nI_eq (b := 999) (by omega) (by omega)).1 q)
  simp only [c1, c2, nI_1, not_true_eq_false, not_false_eq_true, false_implies, true_implies, and_true, true_and, true_or, or_true, ne_eq]
  have hI' : Inv (sU FX 0 (nI (n0 + 1))) GX (sU (sU FM 20 0) 0 (nI (n0 + 1))) GM w := by
    refine ⟨(hI.1.t (z := 0)).sF 0 _, hm.cg (fun k hk => sU_ne _ _ (by omega)) (fun _ _ => rfl), ?_⟩
    obtain ⟨b0, b2, b6, b7, b8, b12, b13, b16, b17, b24, b25, b26, b28, b18, bl, bh⟩ := hb
    unfold Bds
    simp (disch := decide) only [sU_ne, sU_same]
    exact ⟨bd_n (by omega), b2, b6, b7, b8, b12, b13, b16, b17, b24, b25, b26, b28, b18, bl, Hnd.cg bh (sU_ne _ _ (by decide)) (sU_ne _ _ (by decide)) rfl⟩
  exact ⟨n6 + 1, nx_l hn6 n6 0 _ GX _ GM (by omega) hI' (by rw [sU_ne _ _ (by decide), h6]) _ (fun FX' GX' FM' GM' a1 a2 => a2 _ ⟨rfl, a1⟩)⟩
