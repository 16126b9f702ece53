def fo (s : Nat → Int32 → Int32) : Nat → Nat → Int32 → Int32
  | 0, _, a => a
  | m + 1, i, a => fo s m (i + 1) (s i a)
theorem le_no {a b : Nat} (h : a < b) (hb : b < 2 ^ 31) : ¬ nI b ≤ nI a := fun q => absurd ((nI_leI hb (by omega)).1 q) (by omega)
theorem le_ya {a b : Nat} (h : b ≤ a) (hb : a < 2 ^ 31) : nI b ≤ nI a := (nI_leI (by omega) hb).2 h
def s_c (g : Nat → Int32) : Nat → Int32 → Int32 := fun i a => if g i = 0 then a + 1 else a
theorem x_stand {Q : Int32 → FT → GT → Prop} {F : FT} {G : GT} {e : Nat} (h8 : F 8 = nI e) (he : e ≤ 80) : ∀ m i a, i + m = e → Q (fo (s_c (G 30)) m i a) F G → wp_X5_howManyStand_4 Q (m + 1) a (nI i) F G
  | 0, i, a, hi, hQ => by
    simp only [wp_X5_howManyStand_4, h8, le_ya (show e ≤ i by omega) (by omega), not_true_eq_false, not_false_eq_true, false_implies, true_implies, and_true, true_and, true_or, or_true, ne_eq]
    exact hQ
  | m + 1, i, a, hi, hQ => by
    rw [wp_X5_howManyStand_4]
    simp only [h8, le_no (show i < e by omega) (by omega), vp_in_nI (show i < 80 by omega) (by omega), nI_clamp (show i < 2 ^ 31 by omega), wp_X5_howManyStand_27, forall_eq, nI_1, not_true_eq_false, not_false_eq_true, false_implies, true_implies, and_true, true_and, true_or, or_true, ne_eq]
    refine ⟨fun c => ?_, fun c => ?_⟩
    · exact x_stand h8 he m (i + 1) _ (by omega) (by simpa only [fo, s_c, c, if_true] using hQ)
    · exact x_stand h8 he m (i + 1) _ (by omega) (by simpa only [fo, s_c, c, if_false, Int32.add_zero] using hQ)
theorem m_count {Q : Int32 → FT → GT → Int64 → Prop} {F : FT} {G : GT} {w : Int64} {e : Nat} {x1 : Int32} (h8 : F 8 = nI e) (he : e ≤ 80) : ∀ m i a, i + m = e → wp_X8_count_9 Q 1 x1 (fo (s_c (G 30)) m i a) (nI e) F G w → wp_X8_count_9 Q (m + 1) x1 a (nI i) F G w
  | 0, i, a, hi, hQ => by
    rw [show i = e by omega]; exact hQ
  | m + 1, i, a, hi, hQ => by
    rw [wp_X8_count_9]
    simp only [h8, le_no (show i < e by omega) (by omega), vp_in_nI (show i < 80 by omega) (by omega), nI_clamp (show i < 2 ^ 31 by omega), forall_eq, nI_1, not_true_eq_false, not_false_eq_true, false_implies, true_implies, and_true, true_and, true_or, or_true, ne_eq]
    refine ⟨fun c => ?_, fun c => ?_⟩
    · exact m_count h8 he m (i + 1) _ (by omega) (by simpa only [fo, s_c, c, if_false] using hQ)
    · exact m_count h8 he m (i + 1) _ (by omega) (by simpa only [fo, s_c, c, if_true] using hQ)
theorem stp_count : Stp_count Inv := by
  intro FX GX FM GM w hI x1
  obtain ⟨he, hm, hb⟩ := id hI
  obtain ⟨e0, e1, e2, e3, e4, e5, e6, e7, e8⟩ := he.F
  obtain ⟨g10, g11, g12, g13, g14, g15, g16, g17, g19, g20, g21, g22, g23, g24, g25, g26, g27, g28, g29, g30, g31⟩ := he.G
  obtain ⟨n8, hn8, h8⟩ := hb.2.2.2.2.1
  have hM : ∀ r : Int32, (∀ Q : Int32 → FT → GT → Int64 → Prop, Q r (sU FM 20 0) GM w → wp_X8_count_9 Q 1 x1 (fo (s_c (GX 30)) n8 0 0) (nI n8) (sU FM 20 0) GM w) → wp_X8_count x1 FM GM w (PS Inv FX GX r) := by
    intro r hr F1 hF1
    subst hF1
    refine ⟨n8 + 1, m_count (e := n8) (by rw [sU_ne _ _ (by decide), e8, h8]) hn8 n8 0 0 (by omega) ?_⟩
    rw [g30]
    exact hr _ ⟨rfl, hI.t⟩
  simp only [wp_X7_count, wp_X7_count_0, wp_X5_howManyStand, wp_X5_howManyStand_0]
  refine ⟨?_, ?_, ?_, ?_, ?_, ?_, ?_, ?_, ?_⟩
  all_goals intros
  case refine_5 => exact ⟨n8 + 1, x_stand h8 hn8 n8 0 0 (by omega) (hM _ (fun Q hQ => by
    subst x1
    simp +decide only [wp_X8_count_9, sU_ne _ _ (show (8 : Nat) ≠ 20 by decide), e8, h8, Int32.le_refl, not_true_eq_false, not_false_eq_true, false_implies, true_implies, and_true, true_and, true_or, or_true, ne_eq]; exact hQ))⟩
  all_goals refine hM _ (fun Q hQ => ?_)
  all_goals try subst x1
  all_goals simp +decide only [wp_X8_count_9, sU_ne _ _ (show (8 : Nat) ≠ 20 by decide), sU_ne _ _ (show (0 : Nat) ≠ 20 by decide), sU_ne _ _ (show (3 : Nat) ≠ 20 by decide), sU_ne _ _ (show (6 : Nat) ≠ 20 by decide), sU_ne _ _ (show (5 : Nat) ≠ 20 by decide), sU_ne _ _ (show (2 : Nat) ≠ 20 by decide), sU_ne _ _ (show (7 : Nat) ≠ 20 by decide), e0, e1, e2, e3, e4, e5, e6, e7, e8, g10, g11, g12, g13, g14, g15, g16, g17, g19, g20, g21, g22, g23, g24, g25, g26, g27, g28, g29, g30, g31, h8, Int32.le_refl, *, not_true_eq_false, not_false_eq_true, false_implies, true_implies, and_true, true_and, true_or, or_true, ne_eq]
  all_goals first | exact hQ | (rw [h8] at hQ; exact hQ)
