def nl (b : Nat → Nat) (s : Nat) : Nat → Nat
  | 0 => 0
  | j + 1 => nl b s j + (if iL (b (s + j)) = true then 1 else 0)
def nd (b : Nat → Nat) (s : Nat) : Nat → Nat
  | 0 => 0
  | j + 1 => nd b s j + (if iD (b (s + j)) = true then 1 else 0)
def wv (b : Nat → Nat) (s : Nat) : Nat → Int64
  | 0 => 0
  | j + 1 => if 8 ≤ j then -1 else ((27 * wv b s j) + (nI (b (s + j))).toInt64) - 96
def nv (b : Nat → Nat) (s : Nat) : Nat → Int32
  | 0 => 0
  | j + 1 => if 3 ≤ j then nv b s j else ((10 * nv b s j) + nI (b (s + j))) - 48
theorem iLD {c : Nat} (h : iL c = true) : ¬ iD c = true := by
  simp only [iL, iD, Bool.and_eq_true, decide_eq_true_eq] at h ⊢; omega
theorem nl_le {b : Nat → Nat} {s : Nat} : ∀ j, nl b s j + nd b s j ≤ j
  | 0 => Nat.le_refl 0
  | j + 1 => by
    have := nl_le (b := b) (s := s) j
    rw [nl, nd]
    by_cases c : iL (b (s + j)) = true
    · rw [if_pos c, if_neg (iLD c)]; omega
    · rw [if_neg c]; split <;> omega
theorem nl_eq {b : Nat → Nat} {s : Nat} : ∀ j, (∀ i, i < j → iA (b (s + i)) = true) → nl b s j + nd b s j = j
  | 0, _ => rfl
  | j + 1, h => by
    have := nl_eq (b := b) (s := s) j (fun i hi => h i (by omega))
    have h1 := h j (by omega)
    simp only [iA, Bool.or_eq_true] at h1
    rw [nl, nd]
    by_cases c : iL (b (s + j)) = true
    · rw [if_pos c, if_neg (iLD c)]; omega
    · rw [if_neg c, if_pos (h1.resolve_left c)]; omega
/-- the end of the run from s -/
def re (b : Nat → Nat) (T s : Nat) : Nat := rn (fun i => iA (b i)) T (T - s) s
def tk (b : Nat → Nat) (T s : Nat) : Nat := if re b T s = s then (if b s = 59 then 4 else 1) else if nd b s (re b T s - s) = 0 then 2 else if nl b s (re b T s - s) = 0 ∧ re b T s - s ≤ 3 then 3 else 1
def pa (b : Nat → Nat) (T s : Nat) : Nat := if re b T s = s then s + 1 else re b T s
section TOK
variable {b : Nat → Nat} {T : Nat}
theorem x_run {F : FT} {G : GT} (h : TX b T F G) {s : Nat} (hs : s < T) {Q : Int32 → FT → GT → Prop} : ∀ m j, T ≤ s + j + m → s + j ≤ T → wp_X3_tokenKind_87 Q (nI (nl b s (rn (fun i => iA (b i)) T m (s + j) - s))) (nI (nd b s (rn (fun i => iA (b i)) T m (s + j) - s))) (sU F 16 (nI (rn (fun i => iA (b i)) T m (s + j)))) G → wp_X3_tokenKind_12 Q (m + 1) (nI (nl b s j)) (nI (nd b s j)) (sU F 16 (nI (s + j))) G := by
  intro m
  have hT := h.2.1
  have hX : ∀ i, TX b T (sU F 16 (nI i)) G := fun i => ⟨by rw [sU_ne _ _ (by decide)]; exact h.1, h.2⟩
  have hq : ∀ i, (sU F 16 (nI i)) 16 = nI i := fun i => sU_same _ _ _
  induction m with
  | zero =>
    intro j h1 h2 hQ
    rw [rn, show s + j - s = j by omega] at hQ
    simp only [wp_X3_tokenKind_12, sU_same, sU_ne F (nI (s + j)) (show 2 ≠ 16 by decide), h.1, le_ya (show T ≤ s + j by omega) (show s + j < 2 ^ 31 by omega), not_true_eq_false, not_false_eq_true, false_implies, true_implies, and_true, true_and, true_or, or_true, ne_eq]
    exact hQ
  | succ m ih =>
    intro j h1 h2 hQ
    rw [wp_X3_tokenKind_12]
    rw [rn] at hQ
    simp only [sU_same, sU_ne F (nI (s + j)) (show 2 ≠ 16 by decide), h.1]
    by_cases c : s + j < T
    · simp only [le_no c (show T < 2 ^ 31 by omega), not_true_eq_false, not_false_eq_true, false_implies, true_implies, and_true, true_and, true_or, or_true, ne_eq]
      have hb := h.2.2.1 (s + j)
      refine x_at (hX _) c (x_let (by omega) ?_)
      have nx := ih (j + 1) (by omega) (by omega)
      rw [show s + (j + 1) = s + j + 1 by omega, nl, nd] at nx
      by_cases c1 : iL (b (s + j)) = true
      · rw [if_pos ⟨c, by simp only [iA, c1]; rfl⟩] at hQ
        rw [if_pos c1, if_neg (iLD c1)] at nx
        simp +decide only [c1, if_true, not_true_eq_false, not_false_eq_true, false_implies, true_implies, and_true, true_and, true_or, or_true, ne_eq]
        unfold wp_X3_tokenKind_51
        rw [hq]
        refine x_at (hX _) c (x_let (by omega) ?_)
        simp +decide only [c1, if_true, wp_X3_tokenKind_74, forall_eq, sU_same, sU_i, nI_1, not_true_eq_false, not_false_eq_true, false_implies, true_implies, and_true, true_and, true_or, or_true, ne_eq]
        exact nx hQ
      · rw [if_neg c1] at nx
        simp +decide only [c1, if_false, not_true_eq_false, not_false_eq_true, false_implies, true_implies, and_true, true_and, true_or, or_true, ne_eq]
        rw [hq]
        refine x_at (hX _) c (x_dig (by omega) ?_)
        by_cases c2 : iD (b (s + j)) = true
        · rw [if_pos ⟨c, by simp only [iA, c2, Bool.or_true]⟩] at hQ
          rw [if_pos c2] at nx
          simp +decide only [c2, if_true, not_true_eq_false, not_false_eq_true, false_implies, true_implies, and_true, true_and, true_or, or_true, ne_eq]
          unfold wp_X3_tokenKind_51
          rw [hq]
          refine x_at (hX _) c (x_let (by omega) ?_)
          simp +decide only [c1, if_false, wp_X3_tokenKind_74, forall_eq, sU_same, sU_i, nI_1, not_true_eq_false, not_false_eq_true, false_implies, true_implies, and_true, true_and, true_or, or_true, ne_eq]
          exact nx hQ
        · rw [if_neg (fun q => by have := q.2; simp only [iA, Bool.or_eq_true] at this; exact this.elim c1 c2), show s + j - s = j by omega] at hQ
          simp +decide only [c2, if_false, not_true_eq_false, not_false_eq_true, false_implies, true_implies, and_true, true_and, true_or, or_true, ne_eq]
          exact hQ
    · rw [if_neg (fun q => c q.1), show s + j - s = j by omega] at hQ
      simp only [le_ya (show T ≤ s + j by omega) (show s + j < 2 ^ 31 by omega), not_true_eq_false, not_false_eq_true, false_implies, true_implies, and_true, true_and, true_or, or_true, ne_eq]
      exact hQ
theorem re_le {s : Nat} (hs : s ≤ T) : s ≤ re b T s ∧ re b T s ≤ T := rn_le _ _ hs
theorem re_eq {s : Nat} (hs : s ≤ T) : nl b s (re b T s - s) + nd b s (re b T s - s) = re b T s - s := nl_eq _ (fun i hi => by
  have := rn_in (f := fun i => iA (b i)) (T := T) (T - s) s (s + i) (by omega) (by unfold re at hi; omega)
  exact this)
theorem tk_14 {s : Nat} : 1 ≤ tk b T s ∧ tk b T s ≤ 4 := by
  unfold tk
  repeat' split
  all_goals omega
theorem pa_gt {s : Nat} (hs : s < T) : s < pa b T s ∧ pa b T s ≤ T := by
  have := re_le (b := b) (T := T) (s := s) (by omega)
  unfold pa
  split <;> omega
theorem x_tok {F : FT} {G : GT} (h : TX b T F G) {s : Nat} (h15 : F 15 = nI s) (hs : s < T) {Q : Int32 → FT → GT → Prop} (hQ : Q (nI (tk b T s - 1)) (sU F 16 (nI (pa b T s))) G) : wp_X3_tokenKind F G Q := by
  have hT := h.2.1
  intro F1 hF1
  subst hF1
  refine ⟨T - s + 1, ?_⟩
  rw [h15]
  refine x_run h hs (T - s) 0 (by omega) (by omega) ?_
  rw [Nat.add_zero]
  show wp_X3_tokenKind_87 Q (nI (nl b s (re b T s - s))) (nI (nd b s (re b T s - s))) (sU F 16 (nI (re b T s))) G
  have r1 := re_le (b := b) (T := T) (s := s) (by omega)
  have r2 := re_eq (b := b) (T := T) (s := s) (by omega)
  unfold tk pa at hQ
  unfold wp_X3_tokenKind_87
  simp only [sU_same, sU_ne F _ (show 15 ≠ 16 by decide), h15, nI_eq (show re b T s < 2 ^ 31 by omega) (show s < 2 ^ 31 by omega)]
  by_cases c : re b T s = s
  · rw [if_pos c, if_pos c] at hQ
    simp only [c, not_true_eq_false, not_false_eq_true, false_implies, true_implies, and_true, true_and, true_or, or_true, ne_eq, forall_eq, sU_i, nI_1, sU_ne F _ (show 15 ≠ 16 by decide), h15]
    refine x_at (⟨by rw [sU_ne _ _ (by decide)]; exact h.1, h.2⟩ : TX b T _ G) hs ?_
    simp only [show (59 : Int32) = nI 59 from rfl, b_eq (h.2.2.1 s) (show 59 < 256 by omega)]
    by_cases c2 : b s = 59
    · rw [if_pos c2] at hQ
      exact ⟨fun q => absurd c2 q, fun _ => hQ⟩
    · rw [if_neg c2] at hQ
      exact ⟨fun _ => hQ, fun q => absurd q c2⟩
  · rw [if_neg c, if_neg c] at hQ
    have e0 : ∀ x, x ≤ 320 → (nI x = 0 ↔ x = 0) := fun x hx => nI_eq (b := 0) (by omega) (by omega)
    simp only [c, not_true_eq_false, not_false_eq_true, false_implies, true_implies, and_true, true_and, true_or, or_true, ne_eq, e0 (nd b s (re b T s - s)) (by omega), e0 (nl b s (re b T s - s)) (by omega), show (3 : Int32) = nI 3 from rfl, nI_ltI (show 3 < 2 ^ 31 by omega) (show nd b s (re b T s - s) < 2 ^ 31 by omega)]
    by_cases c1 : nd b s (re b T s - s) = 0
    · rw [if_pos c1] at hQ
      simp only [c1, not_true_eq_false, not_false_eq_true, false_implies, true_implies, and_true, true_and, true_or, or_true, ne_eq]; exact hQ
    · rw [if_neg c1] at hQ
      by_cases c2 : nl b s (re b T s - s) = 0
      · by_cases c3 : re b T s - s ≤ 3
        · rw [if_pos ⟨c2, c3⟩] at hQ
          simp only [c1, c2, show ¬ 3 < nd b s (re b T s - s) by omega, not_true_eq_false, not_false_eq_true, false_implies, true_implies, and_true, true_and, true_or, or_true, ne_eq]; exact hQ
        · rw [if_neg (fun q => c3 q.2)] at hQ
          simp only [c1, c2, show 3 < nd b s (re b T s - s) by omega, not_true_eq_false, not_false_eq_true, false_implies, true_implies, and_true, true_and, true_or, or_true, ne_eq]; exact hQ
      · rw [if_neg (fun q => c2 q.1)] at hQ
        simp only [c1, c2, not_true_eq_false, not_false_eq_true, false_implies, true_implies, and_true, true_and, true_or, or_true, ne_eq]; exact hQ
end TOK
