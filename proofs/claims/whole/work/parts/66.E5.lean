theorem nl_0 {b : Nat → Nat} {s : Nat} : ∀ L, nl b s L = 0 → ∀ i, i < L → ¬ iL (b (s + i)) = true
  | 0, _, i, hi => absurd hi (Nat.not_lt_zero i)
  | L + 1, h, i, hi => by
    rw [nl] at h
    by_cases e : i = L
    · subst e
      intro q
      rw [if_pos q] at h; omega
    · exact nl_0 L (by omega) i (by omega)
theorem nd_0 {b : Nat → Nat} {s : Nat} : ∀ L, nd b s L = 0 → ∀ i, i < L → ¬ iD (b (s + i)) = true
  | 0, _, i, hi => absurd hi (Nat.not_lt_zero i)
  | L + 1, h, i, hi => by
    rw [nd] at h
    by_cases e : i = L
    · subst e
      intro q
      rw [if_pos q] at h; omega
    · exact nd_0 L (by omega) i (by omega)
theorem run_A {b : Nat → Nat} {T s i : Nat} (hi : s + i < re b T s) : iA (b (s + i)) = true := rn_in (f := fun i => iA (b i)) (T := T) (T - s) s (s + i) (by omega) hi
theorem tk_2 {b : Nat → Nat} {T s : Nat} (h : tk b T s = 2) : s ≠ re b T s ∧ ∀ i, i < re b T s - s → 97 ≤ b (s + i) ∧ b (s + i) ≤ 122 := by
  unfold tk at h
  by_cases c : re b T s = s
  · rw [if_pos c] at h
    split at h <;> omega
  · rw [if_neg c] at h
    refine ⟨fun q => c q.symm, fun i hi => ?_⟩
    have hA := run_A (b := b) (T := T) (s := s) (i := i) (by omega)
    by_cases z : nd b s (re b T s - s) = 0
    · have hD := nd_0 _ z i hi
      simp only [iA, Bool.or_eq_true] at hA
      have := hA.resolve_right hD
      simp only [iL, Bool.and_eq_true, decide_eq_true_eq] at this
      exact this
    · rw [if_neg z] at h
      split at h <;> omega
theorem tk_3 {b : Nat → Nat} {T s : Nat} (h : tk b T s = 3) : s ≠ re b T s ∧ re b T s - s ≤ 3 ∧ ∀ i, i < re b T s - s → 48 ≤ b (s + i) ∧ b (s + i) ≤ 57 := by
  unfold tk at h
  by_cases c : re b T s = s
  · rw [if_pos c] at h
    split at h <;> omega
  · rw [if_neg c] at h
    by_cases z : nd b s (re b T s - s) = 0
    · rw [if_pos z] at h; omega
    · rw [if_neg z] at h
      by_cases z2 : nl b s (re b T s - s) = 0 ∧ re b T s - s ≤ 3
      · refine ⟨fun q => c q.symm, z2.2, fun i hi => ?_⟩
        have hA := run_A (b := b) (T := T) (s := s) (i := i) (by omega)
        have hL := nl_0 _ z2.1 i hi
        simp only [iA, Bool.or_eq_true] at hA
        have := hA.resolve_left hL
        simp only [iD, Bool.and_eq_true, decide_eq_true_eq] at this
        exact this
      · rw [if_neg z2] at h; omega
theorem nv_b {b : Nat → Nat} {s L : Nat} (hL : L ≤ 3) (h : ∀ i, i < L → 48 ≤ b (s + i) ∧ b (s + i) ≤ 57) : ∀ j, j ≤ L → ∃ v, v < 10 ^ j ∧ nv b s j = nI v
  | 0, _ => ⟨0, by omega, rfl⟩
  | j + 1, hj => by
    obtain ⟨v, hv, e⟩ := nv_b hL h j (by omega)
    have := h j (by omega)
    refine ⟨10 * v + b (s + j) - 48, ?_, ?_⟩
    · rw [Nat.pow_succ]; omega
    · rw [nv, if_neg (by omega), e, show (10 : Int32) = nI 10 from rfl, pk_mul, nI_add, show (48 : Int32) = nI 48 from rfl, pk_sub (by omega)]
theorem nv_9 {b : Nat → Nat} {T s : Nat} (h : tk b T s = 3) : ∃ v, v ≤ 999 ∧ nv b s (re b T s - s) = nI v := by
  obtain ⟨h1, h2, h3⟩ := tk_3 h
  obtain ⟨v, hv, e⟩ := nv_b h2 h3 _ (Nat.le_refl _)
  refine ⟨v, ?_, e⟩
  have : 10 ^ (re b T s - s) ≤ 10 ^ 3 := Nat.pow_le_pow_right (by omega) h2
  omega
/-- X's value of a number -/
theorem x_num {b : Nat → Nat} {T : Nat} {F : FT} {G : GT} (h : TX b T F G) {s e : Nat} (h16 : F 16 = nI e) (hse : s ≤ e) (he : e ≤ T) (hL : e - s ≤ 3) {Q : Int32 → FT → GT → Prop} (hQ : Q (nv b s (e - s)) F G) : ∀ m j, s + j + m = e → wp_X3_numberValue_7 Q (m + 1) (nv b s j) (nI (s + j)) F G
  | 0, j, hj => by
    have hT := h.2.1
    simp only [wp_X3_numberValue_7, h16, le_ya (show e ≤ s + j by omega) (show s + j < 2 ^ 31 by omega), not_true_eq_false, not_false_eq_true, false_implies, true_implies, and_true, true_and, true_or, or_true, ne_eq]
    rw [show j = e - s by omega]; exact hQ
  | m + 1, j, hj => by
    have hT := h.2.1
    rw [wp_X3_numberValue_7]
    simp only [h16, le_no (show s + j < e by omega) (show e < 2 ^ 31 by omega), not_true_eq_false, not_false_eq_true, false_implies, true_implies, and_true, true_and, true_or, or_true, ne_eq]
    refine x_at h (show s + j < T by omega) (fun v hv => ?_)
    subst hv
    have nx := x_num h h16 hse he hL hQ m (j + 1) (by omega)
    rw [nv, if_neg (by omega)] at nx
    rw [nI_1, Int32.mul_comm]; exact nx
def hN (b : Nat → Nat) (s : Nat) : Nat → Nat
  | 0 => 0
  | j + 1 => 27 * hN b s j + (b (s + j) - 96)
theorem hN_lt {b : Nat → Nat} {s L : Nat} (h : ∀ i, i < L → 97 ≤ b (s + i) ∧ b (s + i) ≤ 122) : ∀ j, j ≤ L → hN b s j < 27 ^ j
  | 0, _ => Nat.zero_lt_one
  | j + 1, hj => by
    have := hN_lt h j (by omega)
    have := h j (by omega)
    rw [hN, Nat.pow_succ]; omega
theorem wv_h {b : Nat → Nat} {s L : Nat} (h : ∀ i, i < L → 97 ≤ b (s + i) ∧ b (s + i) ≤ 122) : ∀ j, j ≤ L → j ≤ 8 → wv b s j = lN (hN b s j)
  | 0, _, _ => rfl
  | j + 1, hj, h8 => by
    have hb := h j (by omega)
    have hlt := hN_lt h j (by omega)
    have : 27 ^ j ≤ 27 ^ 8 := Nat.pow_le_pow_right (by omega) (by omega)
    have h27 : (27 : Nat) ^ 8 = 282429536481 := by decide
    rw [wv, if_neg (by omega), wv_h h j (by omega) (by omega), hN, nI_l (by omega), show (27 : Int64) = lN 27 from rfl, l_mul, show (96 : Int64) = lN 96 from rfl]
    show Int64.ofNat _ + Int64.ofNat _ - Int64.ofNat _ = Int64.ofNat _
    rw [← Int64.ofNat_add, Int64.sub_eq_iff_eq_add, ← Int64.ofNat_add]
    congr 1
    omega
theorem wv_9 {b : Nat → Nat} {s : Nat} : ∀ j, 9 ≤ j → wv b s j = -1
  | 0, h => by omega
  | j + 1, h => by rw [wv, if_pos (by omega)]
theorem wd_0 {b : Nat → Nat} {s L : Nat} (h : ∀ i, i < L → 97 ≤ b (s + i) ∧ b (s + i) ≤ 122) (h0 : 0 < L) : wv b s L = 404931 ↔ (L = 4 ∧ b (s + 0) = 116 ∧ b (s + 1) = 111 ∧ b (s + 2) = 108 ∧ b (s + 3) = 108) := by
  by_cases c : L ≤ 8
  · rw [wv_h h L (Nat.le_refl L) c, show (404931 : Int64) = lN 404931 from rfl]
    have hlt := hN_lt h L (Nat.le_refl L)
    have : 27 ^ L ≤ 27 ^ 8 := Nat.pow_le_pow_right (by omega) c
    have h27 : (27 : Nat) ^ 8 = 282429536481 := by decide
    rw [pk_lEQ (by omega) (by omega)]
    clear hlt this h27
    rcases (by omega : L = 1 ∨ L = 2 ∨ L = 3 ∨ L = 4 ∨ L = 5 ∨ L = 6 ∨ L = 7 ∨ L = 8) with rfl | rfl | rfl | rfl | rfl | rfl | rfl | rfl
    · have a0 := h 0 (by omega)
      simp only [hN]
      omega
    · have a0 := h 0 (by omega); have a1 := h 1 (by omega)
      simp only [hN]
      omega
    · have a0 := h 0 (by omega); have a1 := h 1 (by omega); have a2 := h 2 (by omega)
      simp only [hN]
      omega
    · have a0 := h 0 (by omega); have a1 := h 1 (by omega); have a2 := h 2 (by omega); have a3 := h 3 (by omega)
      simp only [hN]
      refine ⟨fun q => ⟨trivial, ?_, ?_, ?_, ?_⟩, fun q => ?_⟩
      all_goals omega
    · have a0 := h 0 (by omega); have a1 := h 1 (by omega); have a2 := h 2 (by omega); have a3 := h 3 (by omega); have a4 := h 4 (by omega)
      simp only [hN]
      omega
    · have a0 := h 0 (by omega); have a1 := h 1 (by omega); have a2 := h 2 (by omega); have a3 := h 3 (by omega); have a4 := h 4 (by omega); have a5 := h 5 (by omega)
      simp only [hN]
      omega
    · have a0 := h 0 (by omega); have a1 := h 1 (by omega); have a2 := h 2 (by omega); have a3 := h 3 (by omega); have a4 := h 4 (by omega); have a5 := h 5 (by omega); have a6 := h 6 (by omega)
      simp only [hN]
      omega
    · have a0 := h 0 (by omega); have a1 := h 1 (by omega); have a2 := h 2 (by omega); have a3 := h 3 (by omega); have a4 := h 4 (by omega); have a5 := h 5 (by omega); have a6 := h 6 (by omega); have a7 := h 7 (by omega)
      simp only [hN]
      omega
  · rw [wv_9 L (by omega)]
    exact ⟨fun q => absurd q (by decide), fun q => by omega⟩
theorem wd_1 {b : Nat → Nat} {s L : Nat} (h : ∀ i, i < L → 97 ≤ b (s + i) ∧ b (s + i) ≤ 122) (h0 : 0 < L) : wv b s L = 307058 ↔ (L = 4 ∧ b (s + 0) = 111 ∧ b (s + 1) = 112 ∧ b (s + 2) = 101 ∧ b (s + 3) = 110) := by
  by_cases c : L ≤ 8
  · rw [wv_h h L (Nat.le_refl L) c, show (307058 : Int64) = lN 307058 from rfl]
    have hlt := hN_lt h L (Nat.le_refl L)
    have : 27 ^ L ≤ 27 ^ 8 := Nat.pow_le_pow_right (by omega) c
    have h27 : (27 : Nat) ^ 8 = 282429536481 := by decide
    rw [pk_lEQ (by omega) (by omega)]
    clear hlt this h27
    rcases (by omega : L = 1 ∨ L = 2 ∨ L = 3 ∨ L = 4 ∨ L = 5 ∨ L = 6 ∨ L = 7 ∨ L = 8) with rfl | rfl | rfl | rfl | rfl | rfl | rfl | rfl
    · have a0 := h 0 (by omega)
      simp only [hN]
      omega
    · have a0 := h 0 (by omega); have a1 := h 1 (by omega)
      simp only [hN]
      omega
    · have a0 := h 0 (by omega); have a1 := h 1 (by omega); have a2 := h 2 (by omega)
      simp only [hN]
      omega
    · have a0 := h 0 (by omega); have a1 := h 1 (by omega); have a2 := h 2 (by omega); have a3 := h 3 (by omega)
      simp only [hN]
      refine ⟨fun q => ⟨trivial, ?_, ?_, ?_, ?_⟩, fun q => ?_⟩
      all_goals omega
    · have a0 := h 0 (by omega); have a1 := h 1 (by omega); have a2 := h 2 (by omega); have a3 := h 3 (by omega); have a4 := h 4 (by omega)
      simp only [hN]
      omega
    · have a0 := h 0 (by omega); have a1 := h 1 (by omega); have a2 := h 2 (by omega); have a3 := h 3 (by omega); have a4 := h 4 (by omega); have a5 := h 5 (by omega)
      simp only [hN]
      omega
    · have a0 := h 0 (by omega); have a1 := h 1 (by omega); have a2 := h 2 (by omega); have a3 := h 3 (by omega); have a4 := h 4 (by omega); have a5 := h 5 (by omega); have a6 := h 6 (by omega)
      simp only [hN]
      omega
    · have a0 := h 0 (by omega); have a1 := h 1 (by omega); have a2 := h 2 (by omega); have a3 := h 3 (by omega); have a4 := h 4 (by omega); have a5 := h 5 (by omega); have a6 := h 6 (by omega); have a7 := h 7 (by omega)
      simp only [hN]
      omega
  · rw [wv_9 L (by omega)]
    exact ⟨fun q => absurd q (by decide), fun q => by omega⟩
theorem wd_2 {b : Nat → Nat} {s L : Nat} (h : ∀ i, i < L → 97 ≤ b (s + i) ∧ b (s + i) ≤ 122) (h0 : 0 < L) : wv b s L = 80155 ↔ (L = 4 ∧ b (s + 0) = 100 ∧ b (s + 1) = 97 ∧ b (s + 2) = 121 ∧ b (s + 3) = 115) := by
  by_cases c : L ≤ 8
  · rw [wv_h h L (Nat.le_refl L) c, show (80155 : Int64) = lN 80155 from rfl]
    have hlt := hN_lt h L (Nat.le_refl L)
    have : 27 ^ L ≤ 27 ^ 8 := Nat.pow_le_pow_right (by omega) c
    have h27 : (27 : Nat) ^ 8 = 282429536481 := by decide
    rw [pk_lEQ (by omega) (by omega)]
    clear hlt this h27
    rcases (by omega : L = 1 ∨ L = 2 ∨ L = 3 ∨ L = 4 ∨ L = 5 ∨ L = 6 ∨ L = 7 ∨ L = 8) with rfl | rfl | rfl | rfl | rfl | rfl | rfl | rfl
    · have a0 := h 0 (by omega)
      simp only [hN]
      omega
    · have a0 := h 0 (by omega); have a1 := h 1 (by omega)
      simp only [hN]
      omega
    · have a0 := h 0 (by omega); have a1 := h 1 (by omega); have a2 := h 2 (by omega)
      simp only [hN]
      omega
    · have a0 := h 0 (by omega); have a1 := h 1 (by omega); have a2 := h 2 (by omega); have a3 := h 3 (by omega)
      simp only [hN]
      refine ⟨fun q => ⟨trivial, ?_, ?_, ?_, ?_⟩, fun q => ?_⟩
      all_goals omega
    · have a0 := h 0 (by omega); have a1 := h 1 (by omega); have a2 := h 2 (by omega); have a3 := h 3 (by omega); have a4 := h 4 (by omega)
      simp only [hN]
      omega
    · have a0 := h 0 (by omega); have a1 := h 1 (by omega); have a2 := h 2 (by omega); have a3 := h 3 (by omega); have a4 := h 4 (by omega); have a5 := h 5 (by omega)
      simp only [hN]
      omega
    · have a0 := h 0 (by omega); have a1 := h 1 (by omega); have a2 := h 2 (by omega); have a3 := h 3 (by omega); have a4 := h 4 (by omega); have a5 := h 5 (by omega); have a6 := h 6 (by omega)
      simp only [hN]
      omega
    · have a0 := h 0 (by omega); have a1 := h 1 (by omega); have a2 := h 2 (by omega); have a3 := h 3 (by omega); have a4 := h 4 (by omega); have a5 := h 5 (by omega); have a6 := h 6 (by omega); have a7 := h 7 (by omega)
      simp only [hN]
      omega
  · rw [wv_9 L (by omega)]
    exact ⟨fun q => absurd q (by decide), fun q => by omega⟩
theorem wd_3 {b : Nat → Nat} {s L : Nat} (h : ∀ i, i < L → 97 ≤ b (s + i) ∧ b (s + i) ≤ 122) (h0 : 0 < L) : wv b s L = 8934941513 ↔ (L = 7 ∧ b (s + 0) = 119 ∧ b (s + 1) = 97 ∧ b (s + 2) = 114 ∧ b (s + 3) = 114 ∧ b (s + 4) = 97 ∧ b (s + 5) = 110 ∧ b (s + 6) = 116) := by
  by_cases c : L ≤ 8
  · rw [wv_h h L (Nat.le_refl L) c, show (8934941513 : Int64) = lN 8934941513 from rfl]
    have hlt := hN_lt h L (Nat.le_refl L)
    have : 27 ^ L ≤ 27 ^ 8 := Nat.pow_le_pow_right (by omega) c
    have h27 : (27 : Nat) ^ 8 = 282429536481 := by decide
    rw [pk_lEQ (by omega) (by omega)]
    clear hlt this h27
    rcases (by omega : L = 1 ∨ L = 2 ∨ L = 3 ∨ L = 4 ∨ L = 5 ∨ L = 6 ∨ L = 7 ∨ L = 8) with rfl | rfl | rfl | rfl | rfl | rfl | rfl | rfl
    · have a0 := h 0 (by omega)
      simp only [hN]
      omega
    · have a0 := h 0 (by omega); have a1 := h 1 (by omega)
      simp only [hN]
      omega
    · have a0 := h 0 (by omega); have a1 := h 1 (by omega); have a2 := h 2 (by omega)
      simp only [hN]
      omega
    · have a0 := h 0 (by omega); have a1 := h 1 (by omega); have a2 := h 2 (by omega); have a3 := h 3 (by omega)
      simp only [hN]
      omega
    · have a0 := h 0 (by omega); have a1 := h 1 (by omega); have a2 := h 2 (by omega); have a3 := h 3 (by omega); have a4 := h 4 (by omega)
      simp only [hN]
      omega
    · have a0 := h 0 (by omega); have a1 := h 1 (by omega); have a2 := h 2 (by omega); have a3 := h 3 (by omega); have a4 := h 4 (by omega); have a5 := h 5 (by omega)
      simp only [hN]
      omega
    · have a0 := h 0 (by omega); have a1 := h 1 (by omega); have a2 := h 2 (by omega); have a3 := h 3 (by omega); have a4 := h 4 (by omega); have a5 := h 5 (by omega); have a6 := h 6 (by omega)
      simp only [hN]
      refine ⟨fun q => ⟨trivial, ?_, ?_, ?_, ?_, ?_, ?_, ?_⟩, fun q => ?_⟩
      all_goals omega
    · have a0 := h 0 (by omega); have a1 := h 1 (by omega); have a2 := h 2 (by omega); have a3 := h 3 (by omega); have a4 := h 4 (by omega); have a5 := h 5 (by omega); have a6 := h 6 (by omega); have a7 := h 7 (by omega)
      simp only [hN]
      omega
  · rw [wv_9 L (by omega)]
    exact ⟨fun q => absurd q (by decide), fun q => by omega⟩
theorem x_sp0 {b : Nat → Nat} {T : Nat} {F : FT} {G : GT} (h : TX b T F G) {s e : Nat} (h15 : F 15 = nI s) (h16 : F 16 = nI e) (hse : s ≤ e) (he : e ≤ T) {Q : Int32 → FT → GT → Prop} (hy : (e - s = 4 ∧ b (s + 0) = 116 ∧ b (s + 1) = 111 ∧ b (s + 2) = 108 ∧ b (s + 3) = 108) → Q 1 F G) (hn : ¬ (e - s = 4 ∧ b (s + 0) = 116 ∧ b (s + 1) = 111 ∧ b (s + 2) = 108 ∧ b (s + 3) = 108) → Q 0 F G) : wp_X3_spells_v0 F G Q := by
  have hT := h.2.1
  unfold wp_X3_spells_v0 wp_X3_spells_v0_0
  rw [h15, h16, pk_sub hse]
  refine ⟨fun q => ⟨5, ?_⟩, fun q => ⟨.inl rfl, hn (fun z => q (by rw [z.1]; rfl))⟩⟩
  have hL : e - s = 4 := (nI_eq (b := 4) (by omega) (by omega)).1 q
  have stp : ∀ (j m : Nat), j < 4 → ∀ cc, cc < 256 → sC 0 j = nI cc → (b (s + j) = cc → wp_X3_spells_v0_20 (fun r F G => (r = 0 ∨ r = 1) ∧ Q r F G) m (nI (j + 1)) F G) → (¬ b (s + j) = cc → Q 0 F G) → wp_X3_spells_v0_20 (fun r F G => (r = 0 ∨ r = 1) ∧ Q r F G) (m + 1) (nI j) F G := by
    intro j m hj cc hcc hsc h1 h2
    rw [wp_X3_spells_v0_20]
    rw [h15, nI_add]
    refine ⟨fun z => absurd z (le_no (b := 4) (by omega) (by omega)), fun _ => x_at h (show s + j < T by omega) ⟨vp_in_nI (by omega) (by omega), ?_⟩⟩
    rw [nI_clamp (by omega), hsc, b_eq (h.2.2.1 _) hcc]
    exact ⟨fun z v hv => by subst hv; rw [nI_1]; exact h1 z, fun z => ⟨.inl rfl, h2 z⟩⟩
  refine stp 0 4 (by omega) 116 (by omega) rfl (fun c0 => ?_) (fun z => hn (fun y => z (by have := y; omega)))
  refine stp 1 3 (by omega) 111 (by omega) rfl (fun c1 => ?_) (fun z => hn (fun y => z (by have := y; omega)))
  refine stp 2 2 (by omega) 108 (by omega) rfl (fun c2 => ?_) (fun z => hn (fun y => z (by have := y; omega)))
  refine stp 3 1 (by omega) 108 (by omega) rfl (fun c3 => ?_) (fun z => hn (fun y => z (by have := y; omega)))
  refine ⟨fun _ => ⟨.inr rfl, hy ⟨hL, c0, c1, c2, c3⟩⟩, fun z => absurd (by decide) z⟩
theorem x_sp1 {b : Nat → Nat} {T : Nat} {F : FT} {G : GT} (h : TX b T F G) {s e : Nat} (h15 : F 15 = nI s) (h16 : F 16 = nI e) (hse : s ≤ e) (he : e ≤ T) {Q : Int32 → FT → GT → Prop} (hy : (e - s = 4 ∧ b (s + 0) = 111 ∧ b (s + 1) = 112 ∧ b (s + 2) = 101 ∧ b (s + 3) = 110) → Q 1 F G) (hn : ¬ (e - s = 4 ∧ b (s + 0) = 111 ∧ b (s + 1) = 112 ∧ b (s + 2) = 101 ∧ b (s + 3) = 110) → Q 0 F G) : wp_X3_spells_v1 F G Q := by
  have hT := h.2.1
  unfold wp_X3_spells_v1 wp_X3_spells_v1_0
  rw [h15, h16, pk_sub hse]
  refine ⟨fun q => ⟨5, ?_⟩, fun q => ⟨.inl rfl, hn (fun z => q (by rw [z.1]; rfl))⟩⟩
  have hL : e - s = 4 := (nI_eq (b := 4) (by omega) (by omega)).1 q
  have stp : ∀ (j m : Nat), j < 4 → ∀ cc, cc < 256 → sC 1 j = nI cc → (b (s + j) = cc → wp_X3_spells_v1_20 (fun r F G => (r = 0 ∨ r = 1) ∧ Q r F G) m (nI (j + 1)) F G) → (¬ b (s + j) = cc → Q 0 F G) → wp_X3_spells_v1_20 (fun r F G => (r = 0 ∨ r = 1) ∧ Q r F G) (m + 1) (nI j) F G := by
    intro j m hj cc hcc hsc h1 h2
    rw [wp_X3_spells_v1_20]
    rw [h15, nI_add]
    refine ⟨fun z => absurd z (le_no (b := 4) (by omega) (by omega)), fun _ => x_at h (show s + j < T by omega) ⟨vp_in_nI (by omega) (by omega), ?_⟩⟩
    rw [nI_clamp (by omega), hsc, b_eq (h.2.2.1 _) hcc]
    exact ⟨fun z v hv => by subst hv; rw [nI_1]; exact h1 z, fun z => ⟨.inl rfl, h2 z⟩⟩
  refine stp 0 4 (by omega) 111 (by omega) rfl (fun c0 => ?_) (fun z => hn (fun y => z (by have := y; omega)))
  refine stp 1 3 (by omega) 112 (by omega) rfl (fun c1 => ?_) (fun z => hn (fun y => z (by have := y; omega)))
  refine stp 2 2 (by omega) 101 (by omega) rfl (fun c2 => ?_) (fun z => hn (fun y => z (by have := y; omega)))
  refine stp 3 1 (by omega) 110 (by omega) rfl (fun c3 => ?_) (fun z => hn (fun y => z (by have := y; omega)))
  refine ⟨fun _ => ⟨.inr rfl, hy ⟨hL, c0, c1, c2, c3⟩⟩, fun z => absurd (by decide) z⟩
theorem x_sp2 {b : Nat → Nat} {T : Nat} {F : FT} {G : GT} (h : TX b T F G) {s e : Nat} (h15 : F 15 = nI s) (h16 : F 16 = nI e) (hse : s ≤ e) (he : e ≤ T) {Q : Int32 → FT → GT → Prop} (hy : (e - s = 4 ∧ b (s + 0) = 100 ∧ b (s + 1) = 97 ∧ b (s + 2) = 121 ∧ b (s + 3) = 115) → Q 1 F G) (hn : ¬ (e - s = 4 ∧ b (s + 0) = 100 ∧ b (s + 1) = 97 ∧ b (s + 2) = 121 ∧ b (s + 3) = 115) → Q 0 F G) : wp_X3_spells_v2 F G Q := by
  have hT := h.2.1
  unfold wp_X3_spells_v2 wp_X3_spells_v2_0
  rw [h15, h16, pk_sub hse]
  refine ⟨fun q => ⟨5, ?_⟩, fun q => ⟨.inl rfl, hn (fun z => q (by rw [z.1]; rfl))⟩⟩
  have hL : e - s = 4 := (nI_eq (b := 4) (by omega) (by omega)).1 q
  have stp : ∀ (j m : Nat), j < 4 → ∀ cc, cc < 256 → sC 2 j = nI cc → (b (s + j) = cc → wp_X3_spells_v2_20 (fun r F G => (r = 0 ∨ r = 1) ∧ Q r F G) m (nI (j + 1)) F G) → (¬ b (s + j) = cc → Q 0 F G) → wp_X3_spells_v2_20 (fun r F G => (r = 0 ∨ r = 1) ∧ Q r F G) (m + 1) (nI j) F G := by
    intro j m hj cc hcc hsc h1 h2
    rw [wp_X3_spells_v2_20]
    rw [h15, nI_add]
    refine ⟨fun z => absurd z (le_no (b := 4) (by omega) (by omega)), fun _ => x_at h (show s + j < T by omega) ⟨vp_in_nI (by omega) (by omega), ?_⟩⟩
    rw [nI_clamp (by omega), hsc, b_eq (h.2.2.1 _) hcc]
    exact ⟨fun z v hv => by subst hv; rw [nI_1]; exact h1 z, fun z => ⟨.inl rfl, h2 z⟩⟩
  refine stp 0 4 (by omega) 100 (by omega) rfl (fun c0 => ?_) (fun z => hn (fun y => z (by have := y; omega)))
  refine stp 1 3 (by omega) 97 (by omega) rfl (fun c1 => ?_) (fun z => hn (fun y => z (by have := y; omega)))
  refine stp 2 2 (by omega) 121 (by omega) rfl (fun c2 => ?_) (fun z => hn (fun y => z (by have := y; omega)))
  refine stp 3 1 (by omega) 115 (by omega) rfl (fun c3 => ?_) (fun z => hn (fun y => z (by have := y; omega)))
  refine ⟨fun _ => ⟨.inr rfl, hy ⟨hL, c0, c1, c2, c3⟩⟩, fun z => absurd (by decide) z⟩
theorem x_sp3 {b : Nat → Nat} {T : Nat} {F : FT} {G : GT} (h : TX b T F G) {s e : Nat} (h15 : F 15 = nI s) (h16 : F 16 = nI e) (hse : s ≤ e) (he : e ≤ T) {Q : Int32 → FT → GT → Prop} (hy : (e - s = 7 ∧ b (s + 0) = 119 ∧ b (s + 1) = 97 ∧ b (s + 2) = 114 ∧ b (s + 3) = 114 ∧ b (s + 4) = 97 ∧ b (s + 5) = 110 ∧ b (s + 6) = 116) → Q 1 F G) (hn : ¬ (e - s = 7 ∧ b (s + 0) = 119 ∧ b (s + 1) = 97 ∧ b (s + 2) = 114 ∧ b (s + 3) = 114 ∧ b (s + 4) = 97 ∧ b (s + 5) = 110 ∧ b (s + 6) = 116) → Q 0 F G) : wp_X3_spells_v3 F G Q := by
  have hT := h.2.1
  unfold wp_X3_spells_v3 wp_X3_spells_v3_0
  rw [h15, h16, pk_sub hse]
  refine ⟨fun q => ⟨8, ?_⟩, fun q => ⟨.inl rfl, hn (fun z => q (by rw [z.1]; rfl))⟩⟩
  have hL : e - s = 7 := (nI_eq (b := 7) (by omega) (by omega)).1 q
  have stp : ∀ (j m : Nat), j < 7 → ∀ cc, cc < 256 → sC 3 j = nI cc → (b (s + j) = cc → wp_X3_spells_v3_20 (fun r F G => (r = 0 ∨ r = 1) ∧ Q r F G) m (nI (j + 1)) F G) → (¬ b (s + j) = cc → Q 0 F G) → wp_X3_spells_v3_20 (fun r F G => (r = 0 ∨ r = 1) ∧ Q r F G) (m + 1) (nI j) F G := by
    intro j m hj cc hcc hsc h1 h2
    rw [wp_X3_spells_v3_20]
    rw [h15, nI_add]
    refine ⟨fun z => absurd z (le_no (b := 7) (by omega) (by omega)), fun _ => x_at h (show s + j < T by omega) ⟨vp_in_nI (by omega) (by omega), ?_⟩⟩
    rw [nI_clamp (by omega), hsc, b_eq (h.2.2.1 _) hcc]
    exact ⟨fun z v hv => by subst hv; rw [nI_1]; exact h1 z, fun z => ⟨.inl rfl, h2 z⟩⟩
  refine stp 0 7 (by omega) 119 (by omega) rfl (fun c0 => ?_) (fun z => hn (fun y => z (by have := y; omega)))
  refine stp 1 6 (by omega) 97 (by omega) rfl (fun c1 => ?_) (fun z => hn (fun y => z (by have := y; omega)))
  refine stp 2 5 (by omega) 114 (by omega) rfl (fun c2 => ?_) (fun z => hn (fun y => z (by have := y; omega)))
  refine stp 3 4 (by omega) 114 (by omega) rfl (fun c3 => ?_) (fun z => hn (fun y => z (by have := y; omega)))
  refine stp 4 3 (by omega) 97 (by omega) rfl (fun c4 => ?_) (fun z => hn (fun y => z (by have := y; omega)))
  refine stp 5 2 (by omega) 110 (by omega) rfl (fun c5 => ?_) (fun z => hn (fun y => z (by have := y; omega)))
  refine stp 6 1 (by omega) 116 (by omega) rfl (fun c6 => ?_) (fun z => hn (fun y => z (by have := y; omega)))
  refine ⟨fun _ => ⟨.inr rfl, hy ⟨hL, c0, c1, c2, c3, c4, c5, c6⟩⟩, fun z => absurd (by decide) z⟩
