theorem sU_i {F : FT} {k : Nat} {a b : Int32} : sU (sU F k a) k b = sU F k b := by
  funext j
  by_cases h : j = k
  · subst h; rw [sU_same, sU_same]
  · rw [sU_ne _ _ h, sU_ne _ _ h, sU_ne _ _ h]
theorem sU_e {F : FT} {k : Nat} {a : Int32} (h : F k = a) : sU F k a = F := by
  funext j
  by_cases e : j = k
  · subst e; rw [sU_same, h]
  · rw [sU_ne _ _ e]
theorem gU_i {G : GT} {k : Nat} {a b : Nat → Int32} : gU (gU G k a) k b = gU G k b := by
  funext j
  by_cases h : j = k
  · subst h; rw [gU_same, gU_same]
  · rw [gU_ne _ _ h, gU_ne _ _ h, gU_ne _ _ h]
theorem gU_e {G : GT} {k : Nat} {a : Nat → Int32} (h : G k = a) : gU G k a = G := by
  funext j
  by_cases e : j = k
  · subst e; rw [gU_same, h]
  · rw [gU_ne _ _ e]
/-- the purses p and what is left of the debts, over the rest of G -/
def st (G : GT) (p lf : Nat → Nat) : GT := gU (gU G 11 (fun i => nI (p i))) 15 (fun i => nI (lf i))
theorem st_11 {G : GT} {p lf : Nat → Nat} : st G p lf 11 = fun i => nI (p i) := by unfold st; rw [gU_ne _ _ (by decide), gU_same]
theorem st_15 {G : GT} {p lf : Nat → Nat} : st G p lf 15 = fun i => nI (lf i) := by unfold st; rw [gU_same]
theorem st_kk {G : GT} {p lf : Nat → Nat} {k : Nat} (h1 : k ≠ 11) (h2 : k ≠ 15) : st G p lf k = G k := by unfold st; rw [gU_ne _ _ h2, gU_ne _ _ h1]
theorem st_e {G : GT} {p lf : Nat → Nat} (h1 : G 11 = fun i => nI (p i)) (h2 : G 15 = fun i => nI (lf i)) : st G p lf = G := by
  unfold st; rw [gU_e h1, gU_e h2]
theorem st_u15 {G : GT} {p lf lf' : Nat → Nat} : gU (st G p lf) 15 (fun i => nI (lf' i)) = st G p lf' := by unfold st; rw [gU_i]
theorem st_u11 {G : GT} {p p' lf : Nat → Nat} : gU (st G p lf) 11 (fun i => nI (p' i)) = st G p' lf := by unfold st; rw [gU_c (by decide), gU_i]
def am (p lf D : Nat → Nat) (k : Nat) : Nat := if p (D k) < lf k then p (D k) else lf k
def pyL (p lf D : Nat → Nat) (k : Nat) : Nat → Nat := nu lf k (lf k - am p lf D k)
def pyP (p lf D C : Nat → Nat) (k : Nat) : Nat → Nat := nu (nu p (D k) (p (D k) - am p lf D k)) (C k) (nu p (D k) (p (D k) - am p lf D k) (C k) + am p lf D k)
section SETTLE
variable {F : FT} {G : GT} {D C : Nat → Nat} {d : Nat}
theorem x_min {p lf : Nat → Nat} {k : Nat} (h1 : p (D k) < 2 ^ 31) (h2 : lf k < 2 ^ 31) : (if nI (p (D k)) < nI (lf k) then nI (p (D k)) else nI (lf k)) = nI (am p lf D k) := by
  unfold am
  by_cases c : p (D k) < lf k
  · rw [if_pos c, if_pos (nI_lt c h2)]
  · rw [if_neg c, if_neg (nI_nlt (by omega) h1)]
theorem x_scan (h12 : G 12 = fun i => nI (D i)) (h13 : G 13 = fun i => nI (C i)) (hD : ∀ i, D i < 16) (hC : ∀ i, C i < 16) (h5 : F 5 = nI d) (hd : d ≤ 80) {p lf : Nat → Nat} (hp : sm p 16 ≤ 1000000000) (hl : ∀ i, lf i ≤ 100000) {Q : Int32 → FT → GT → Prop} : ∀ m k, k + m = d → ((∀ i, k ≤ i → i < d → am p lf D i = 0) → Q 0 F (st G p lf)) → (∀ z, k ≤ z → z < d → am p lf D z ≠ 0 → (∀ i, k ≤ i → i < z → am p lf D i = 0) → Q 1 F (st G (pyP p lf D C z) (pyL p lf D z))) → wp_X4_payOldest_41 Q (m + 1) (nI k) F (st G p lf)
  | 0, k, hk, hn, hy => by
    simp only [wp_X4_payOldest_41, h5, le_ya (show d ≤ k by omega) (by omega), not_true_eq_false, not_false_eq_true, false_implies, true_implies, and_true, true_and, true_or, or_true, ne_eq]
    exact hn (fun i h1 h2 => by omega)
  | m + 1, k, hk, hn, hy => by
    have pD := sm_ge (p := p) 16 (hD k)
    have lk := hl k
    rw [wp_X4_payOldest_41]
    simp (disch := decide) only [h5, le_no (show k < d by omega) (by omega), vp_in_nI (show k < 80 by omega) (show 80 < 2 ^ 31 by omega), nI_clamp (show k < 2 ^ 31 by omega), st_kk, st_11, st_15, h12, h13, vp_in_nI (hD k) (show 16 < 2 ^ 31 by omega), nI_clamp (show D k < 2 ^ 31 from by have := hD k; omega), forall_eq, x_min (p := p) (lf := lf) (D := D) (k := k) (by omega) (by omega), nI_1, not_true_eq_false, not_false_eq_true, false_implies, true_implies, and_true, true_and, true_or, or_true, ne_eq]
    by_cases c : am p lf D k = 0
    · simp +decide only [c, not_true_eq_false, not_false_eq_true, false_implies, true_implies, and_true, true_and, true_or, or_true, ne_eq]
      refine x_scan h12 h13 hD hC h5 hd hp hl m (k + 1) (by omega) (fun h => hn (fun i h1 h2 => ?_)) (fun z z1 z2 z3 z4 => hy z (by omega) z2 z3 (fun i h1 h2 => ?_))
      · by_cases e : i = k
        · rw [e]; exact c
        · exact h i (by omega) h2
      · by_cases e : i = k
        · rw [e]; exact c
        · exact z4 i (by omega) h2
    · have ha1 : am p lf D k ≤ lf k := by unfold am; split <;> omega
      have ha2 : am p lf D k ≤ p (D k) := by unfold am; split <;> omega
      have hQ := hy k (Nat.le_refl k) (by omega) c (fun i h1 h2 => by omega)
      simp only [show ¬ nI (am p lf D k) ≤ 0 from nI_nle (by omega) (by omega), pk_sub ha1, upd_nI, st_u15, not_true_eq_false, not_false_eq_true, false_implies, true_implies, and_true, true_and, true_or, or_true, ne_eq]
      simp (disch := decide) only [st_kk, st_11, st_15, h12, h13, vp_in_nI (hD k) (show 16 < 2 ^ 31 by omega), vp_in_nI (hC k) (show 16 < 2 ^ 31 by omega), nI_clamp (show D k < 2 ^ 31 from by have := hD k; omega), nI_clamp (show C k < 2 ^ 31 from by have := hC k; omega), pk_sub ha2, upd_nI, st_u11, nI_add, not_true_eq_false, not_false_eq_true, false_implies, true_implies, and_true, true_and, true_or, or_true, ne_eq]
      exact hQ
theorem m_min {p lf : Nat → Nat} {k : Nat} (h1 : p (D k) < 2 ^ 31) (h2 : lf k < 2 ^ 31) {A : Int32 → Prop} (h : A (nI (am p lf D k))) : (nI (p (D k)) ≤ nI (lf k) → A (nI (p (D k)))) ∧ (¬ nI (p (D k)) ≤ nI (lf k) → A (nI (lf k))) := by
  unfold am at h
  refine ⟨fun c => ?_, fun c => ?_⟩
  · have c := (nI_leI h1 h2).1 c
    by_cases e : p (D k) < lf k
    · rwa [if_pos e] at h
    · rw [if_neg e] at h
      rwa [show p (D k) = lf k by omega]
  · have c : ¬ p (D k) ≤ lf k := fun q => c ((nI_leI h1 h2).2 q)
    rwa [if_neg (by omega)] at h
theorem m_step (h12 : G 12 = fun i => nI (D i)) (h13 : G 13 = fun i => nI (C i)) (hD : ∀ i, D i < 16) (hC : ∀ i, C i < 16) (h5 : F 5 = nI d) (hd : d ≤ 80) {w : Int64} {p lf : Nat → Nat} (hp : sm p 16 ≤ 1000000000) (hl : ∀ i, lf i ≤ 100000) {Q : FT → GT → Int64 → Prop} {k n : Nat} (hk : k < d) (hz : am p lf D k = 0 → wp_X8_settle_2 Q n (nI (k + 1)) F (st G p lf) w) (hy : am p lf D k ≠ 0 → wp_X8_settle_2 Q n 0 F (st G (pyP p lf D C k) (pyL p lf D k)) w) : wp_X8_settle_2 Q (n + 1) (nI k) F (st G p lf) w := by
  have pD := sm_ge (p := p) 16 (hD k)
  have lk := hl k
  rw [wp_X8_settle_2]
  simp (disch := decide) only [h5, le_no hk (show d < 2 ^ 31 by omega), vp_in_nI (show k < 80 by omega) (show 80 < 2 ^ 31 by omega), nI_clamp (show k < 2 ^ 31 by omega), st_kk, st_11, st_15, h12, h13, vp_in_nI (hD k) (show 16 < 2 ^ 31 by omega), nI_clamp (show D k < 2 ^ 31 from by have := hD k; omega), not_true_eq_false, not_false_eq_true, false_implies, true_implies, and_true, true_and, true_or, or_true, ne_eq]
  refine m_min (A := fun a => wp_X8_settle_50 Q (fun x1 F G w => wp_X8_settle_2 Q n x1 F G w) (nI k) a F (st G p lf) w) (by omega) (by omega) ?_
  by_cases c : am p lf D k = 0
  · simp +decide only [wp_X8_settle_50, c, forall_eq, nI_1, not_true_eq_false, not_false_eq_true, false_implies, true_implies, and_true, true_and, true_or, or_true, ne_eq]
    exact hz c
  · have ha1 : am p lf D k ≤ lf k := by unfold am; split <;> omega
    have ha2 : am p lf D k ≤ p (D k) := by unfold am; split <;> omega
    have hQ := hy c
    simp (disch := decide) only [wp_X8_settle_50, forall_eq, show ¬ nI (am p lf D k) = 0 from nI_ne0 (by omega) (by omega), vp_in_nI (show k < 80 by omega) (show 80 < 2 ^ 31 by omega), nI_clamp (show k < 2 ^ 31 by omega), st_15, pk_sub ha1, upd_nI, st_u15, not_true_eq_false, not_false_eq_true, false_implies, true_implies, and_true, true_and, true_or, or_true, ne_eq]
    simp (disch := decide) only [st_kk, st_11, st_15, h12, h13, vp_in_nI (hD k) (show 16 < 2 ^ 31 by omega), vp_in_nI (hC k) (show 16 < 2 ^ 31 by omega), nI_clamp (show D k < 2 ^ 31 from by have := hD k; omega), nI_clamp (show C k < 2 ^ 31 from by have := hC k; omega), pk_sub ha2, upd_nI, st_u11, nI_add, not_true_eq_false, not_false_eq_true, false_implies, true_implies, and_true, true_and, true_or, or_true, ne_eq]
    exact hQ
theorem m_none (h12 : G 12 = fun i => nI (D i)) (h13 : G 13 = fun i => nI (C i)) (hD : ∀ i, D i < 16) (hC : ∀ i, C i < 16) (h5 : F 5 = nI d) (hd : d ≤ 80) {w : Int64} {p lf : Nat → Nat} (hp : sm p 16 ≤ 1000000000) (hl : ∀ i, lf i ≤ 100000) {Q : FT → GT → Int64 → Prop} (hQ : Q F (st G p lf) w) : ∀ m k, k + m = d → (∀ i, k ≤ i → i < d → am p lf D i = 0) → wp_X8_settle_2 Q (m + 1) (nI k) F (st G p lf) w
  | 0, k, hk, hn => by
    simp only [wp_X8_settle_2, h5, le_ya (show d ≤ k by omega) (by omega), not_true_eq_false, not_false_eq_true, false_implies, true_implies, and_true, true_and, true_or, or_true, ne_eq]
    exact hQ
  | m + 1, k, hk, hn => m_step h12 h13 hD hC h5 hd hp hl (by omega) (fun _ => m_none h12 h13 hD hC h5 hd hp hl hQ m (k + 1) (by omega) (fun i h1 h2 => hn i (by omega) h2)) (fun c => absurd (hn k (Nat.le_refl k) (by omega)) c)
theorem m_some (h12 : G 12 = fun i => nI (D i)) (h13 : G 13 = fun i => nI (C i)) (hD : ∀ i, D i < 16) (hC : ∀ i, C i < 16) (h5 : F 5 = nI d) (hd : d ≤ 80) {w : Int64} {p lf : Nat → Nat} (hp : sm p 16 ≤ 1000000000) (hl : ∀ i, lf i ≤ 100000) {Q : FT → GT → Int64 → Prop} {z n : Nat} (hz : z < d) (hz' : am p lf D z ≠ 0) (hQ : wp_X8_settle_2 Q n 0 F (st G (pyP p lf D C z) (pyL p lf D z)) w) : ∀ m k, k + m = z → (∀ i, k ≤ i → i < z → am p lf D i = 0) → wp_X8_settle_2 Q (n + m + 1) (nI k) F (st G p lf) w
  | 0, k, hk, hn => by
    have : k = z := by omega
    subst this
    exact m_step h12 h13 hD hC h5 hd hp hl hz (fun c => absurd c hz') (fun _ => hQ)
  | m + 1, k, hk, hn => m_step h12 h13 hD hC h5 hd hp hl (by omega) (fun _ => m_some h12 h13 hD hC h5 hd hp hl hz hz' hQ m (k + 1) (by omega) (fun i h1 h2 => hn i (by omega) h2)) (fun c => absurd (hn k (Nat.le_refl k) (by omega)) c)
end SETTLE
