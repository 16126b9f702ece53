/-- what Money has seen lies in 46 (purses) and 47 (left) -/
def sn (G : GT) (A B : Nat → Int32) : GT := gU (gU G 46 A) 47 B
theorem sn_kk {G : GT} {A B : Nat → Int32} {k : Nat} (h1 : k ≠ 46) (h2 : k ≠ 47) : sn G A B k = G k := by unfold sn; rw [gU_ne _ _ h2, gU_ne _ _ h1]
theorem sn_e {G : GT} : sn G (G 46) (G 47) = G := by
  unfold sn
  rw [gU_e rfl, gU_e rfl]
theorem st_46 {G : GT} {A B : Nat → Int32} {p lf : Nat → Nat} : st (sn G A B) p lf 46 = A := by
  rw [st_kk (by decide) (by decide)]; unfold sn; rw [gU_ne _ _ (by decide), gU_same]
theorem st_47 {G : GT} {A B : Nat → Int32} {p lf : Nat → Nat} : st (sn G A B) p lf 47 = B := by
  rw [st_kk (by decide) (by decide)]; unfold sn; rw [gU_same]
theorem st_u46 {G : GT} {A A' B : Nat → Int32} {p lf : Nat → Nat} : gU (st (sn G A B) p lf) 46 A' = st (sn G A' B) p lf := by
  unfold st sn
  rw [gU_c (a := 15) (b := 46) (by decide), gU_c (a := 11) (b := 46) (by decide), gU_c (a := 47) (b := 46) (by decide), gU_i]
theorem st_u47 {G : GT} {A B B' : Nat → Int32} {p lf : Nat → Nat} : gU (st (sn G A B) p lf) 47 B' = st (sn G A B') p lf := by
  unfold st sn
  rw [gU_c (a := 15) (b := 47) (by decide), gU_c (a := 11) (b := 47) (by decide), gU_i]
section SEEN
variable {F : FT} {G : GT} {d q : Nat}
theorem x_see30 (h5 : F 5 = nI d) (hd : d ≤ 80) {p lf : Nat → Nat} {A : Nat → Int32} {Q : FT → GT → Prop} (hQ : ∀ B : Nat → Int32, (∀ i, i < d → B i = nI (lf i)) → Q F (st (sn G A B) p lf)) : ∀ m k (B : Nat → Int32), k + m = d → (∀ i, i < k → B i = nI (lf i)) → wp_X4_see_30 Q (m + 1) (nI k) F (st (sn G A B) p lf)
  | 0, k, B, hk, hB => by
    simp only [wp_X4_see_30, h5, le_ya (show d ≤ k by omega) (by omega), not_true_eq_false, not_false_eq_true, false_implies, true_implies, and_true, true_and, true_or, or_true, ne_eq]
    exact hQ B (fun i hi => hB i (by omega))
  | m + 1, k, B, hk, hB => by
    rw [wp_X4_see_30]
    simp only [h5, le_no (show k < d by omega) (by omega), vp_in_nI (show k < 80 by omega) (show 80 < 2 ^ 31 by omega), nI_clamp (show k < 2 ^ 31 by omega), st_15, st_47, st_u47, forall_eq, nI_1, not_true_eq_false, not_false_eq_true, false_implies, true_implies, and_true, true_and, true_or, or_true, ne_eq]
    refine x_see30 h5 hd hQ m (k + 1) _ (by omega) (fun i hi => ?_)
    by_cases e : i = k
    · subst e; exact pk_us
    · rw [pk_un e]; exact hB i (by omega)
theorem x_see2 (h3 : F 3 = nI q) (hq : q ≤ 16) (h5 : F 5 = nI d) (hd : d ≤ 80) {p lf : Nat → Nat} {B : Nat → Int32} {Q : FT → GT → Prop} (hQ : ∀ A B : Nat → Int32, (∀ i, i < q → A i = nI (p i)) → (∀ i, i < d → B i = nI (lf i)) → Q F (st (sn G A B) p lf)) : ∀ m k (A : Nat → Int32), k + m = q → (∀ i, i < k → A i = nI (p i)) → wp_X4_see_2 Q (m + 1) (nI k) F (st (sn G A B) p lf)
  | 0, k, A, hk, hA => by
    simp only [wp_X4_see_2, h3, le_ya (show q ≤ k by omega) (by omega), not_true_eq_false, not_false_eq_true, false_implies, true_implies, and_true, true_and, true_or, or_true, ne_eq]
    exact ⟨d + 1, x_see30 h5 hd (fun B hB => hQ A B (fun i hi => hA i (by omega)) hB) d 0 B (by omega) (fun i hi => absurd hi (Nat.not_lt_zero i))⟩
  | m + 1, k, A, hk, hA => by
    rw [wp_X4_see_2]
    simp only [h3, le_no (show k < q by omega) (by omega), vp_in_nI (show k < 16 by omega) (show 16 < 2 ^ 31 by omega), nI_clamp (show k < 2 ^ 31 by omega), st_11, st_46, st_u46, forall_eq, nI_1, not_true_eq_false, not_false_eq_true, false_implies, true_implies, and_true, true_and, true_or, or_true, ne_eq]
    refine x_see2 h3 hq h5 hd hQ m (k + 1) _ (by omega) (fun i hi => ?_)
    by_cases e : i = k
    · subst e; exact pk_us
    · rw [pk_un e]; exact hA i (by omega)
theorem x_see (h3 : F 3 = nI q) (hq : q ≤ 16) (h5 : F 5 = nI d) (hd : d ≤ 80) {p lf : Nat → Nat} {A B : Nat → Int32} {Q : FT → GT → Prop} (hQ : ∀ A B : Nat → Int32, (∀ i, i < q → A i = nI (p i)) → (∀ i, i < d → B i = nI (lf i)) → Q F (st (sn G A B) p lf)) : wp_X4_see F (st (sn G A B) p lf) Q :=
  ⟨q + 1, x_see2 h3 hq h5 hd hQ q 0 A (by omega) (fun i hi => absurd hi (Nat.not_lt_zero i))⟩
theorem x_rd2 (h3 : F 3 = nI q) (hq : q ≤ 16) {p lf : Nat → Nat} {A B : Nat → Int32} {Q : Int32 → FT → GT → Prop} (h0 : Q 0 F (st (sn G A B) p lf)) (h1 : (∀ i, i < q → nI (p i) = A i) → Q 1 F (st (sn G A B) p lf)) : ∀ m k, k + m = q → (∀ i, i < k → nI (p i) = A i) → wp_X4_isRound_2 Q (m + 1) (nI k) F (st (sn G A B) p lf)
  | 0, k, hk, hA => by
    simp only [wp_X4_isRound_2, h3, le_ya (show q ≤ k by omega) (by omega), not_true_eq_false, not_false_eq_true, false_implies, true_implies, and_true, true_and, true_or, or_true, ne_eq]
    exact h1 (fun i hi => hA i (by omega))
  | m + 1, k, hk, hA => by
    rw [wp_X4_isRound_2]
    simp only [h3, le_no (show k < q by omega) (by omega), vp_in_nI (show k < 16 by omega) (show 16 < 2 ^ 31 by omega), nI_clamp (show k < 2 ^ 31 by omega), st_11, st_46, forall_eq, nI_1, not_true_eq_false, not_false_eq_true, false_implies, true_implies, and_true, true_and, true_or, or_true, ne_eq]
    refine ⟨fun c => x_rd2 h3 hq h0 h1 m (k + 1) (by omega) (fun i hi => ?_), fun _ => h0⟩
    by_cases e : i = k
    · subst e; exact c
    · exact hA i (by omega)
theorem x_rd (h3 : F 3 = nI q) (hq : q ≤ 16) {p lf : Nat → Nat} {A B : Nat → Int32} {Q : Int32 → FT → GT → Prop} (h0 : Q 0 F (st (sn G A B) p lf)) (h1 : (∀ i, i < q → nI (p i) = A i) → Q 1 F (st (sn G A B) p lf)) : wp_X4_isRound F (st (sn G A B) p lf) Q :=
  ⟨q + 1, x_rd2 h3 hq ⟨.inl rfl, h0⟩ (fun h => ⟨.inr rfl, h1 h⟩) q 0 (by omega) (fun i hi => absurd hi (Nat.not_lt_zero i))⟩
theorem x_sk52 (h3 : F 3 = nI q) (hq : q ≤ 16) (h5 : F 5 = nI d) (hd : d ≤ 80) {p lf ls : Nat → Nat} {A B : Nat → Int32} {r : Nat} (hB : ∀ i, i < d → B i = nI (ls i)) (hle : ∀ i, lf i ≤ ls i) (hld : ∀ i, d ≤ i → lf i = 0) (hr : ∀ i, i < d → r * (ls i - lf i) ≤ lf i) {Q : FT → GT → Prop} (hQ : ∀ A' B' : Nat → Int32, (∀ i, i < q → A' i = nI (p i)) → (∀ i, i < d → B' i = nI (lf i - r * (ls i - lf i))) → Q F (st (sn G A' B') p (fun i => lf i - r * (ls i - lf i)))) : ∀ m k, k + m = d → wp_X4_skipRounds_52 Q (m + 1) (nI r) (nI k) F (st (sn G A B) p (fun i => if i < k then lf i - r * (ls i - lf i) else lf i))
  | 0, k, hk => by
    have e : (fun i => if i < k then lf i - r * (ls i - lf i) else lf i) = fun i => lf i - r * (ls i - lf i) := by
      funext i
      split
      · rfl
      · have := hld i (by omega); omega
    simp only [wp_X4_skipRounds_52, h5, le_ya (show d ≤ k by omega) (by omega), not_true_eq_false, not_false_eq_true, false_implies, true_implies, and_true, true_and, true_or, or_true, ne_eq]
    rw [e]
    exact x_see h3 hq h5 hd hQ
  | m + 1, k, hk => by
    have ih := x_sk52 (A := A) h3 hq h5 hd hB hle hld hr hQ m (k + 1) (by omega)
    have hk' := hr k (by omega)
    have e : (fun i => if i < k + 1 then lf i - r * (ls i - lf i) else lf i) = nu (fun i => if i < k then lf i - r * (ls i - lf i) else lf i) k (lf k - r * (ls k - lf k)) := by
      funext i
      unfold nu
      by_cases c : i = k
      · subst c; rw [if_pos rfl, if_pos (by omega)]
      · rw [if_neg c]
        show (if i < k + 1 then lf i - r * (ls i - lf i) else lf i) = if i < k then lf i - r * (ls i - lf i) else lf i
        by_cases c2 : i < k
        · rw [if_pos c2, if_pos (by omega)]
        · rw [if_neg c2, if_neg (by omega)]
    rw [e] at ih
    rw [wp_X4_skipRounds_52]
    simp only [h5, le_no (show k < d by omega) (by omega), vp_in_nI (show k < 80 by omega) (show 80 < 2 ^ 31 by omega), nI_clamp (show k < 2 ^ 31 by omega), st_15, st_47, hB k (show k < d by omega), show ¬ k < k from Nat.lt_irrefl k, if_false, pk_sub (hle k), pk_mul, pk_sub hk', upd_nI, st_u15, forall_eq, nI_1, not_true_eq_false, not_false_eq_true, false_implies, true_implies, and_true, true_and, true_or, or_true, ne_eq]
    exact ih
theorem x_sk5 (h3 : F 3 = nI q) (hq : q ≤ 16) (h5 : F 5 = nI d) (hd : d ≤ 80) {p lf ls : Nat → Nat} {A B : Nat → Int32} (hB : ∀ i, i < d → B i = nI (ls i)) (hle : ∀ i, lf i ≤ ls i) (hl : ∀ i, ls i ≤ 100000) (hld : ∀ i, d ≤ i → lf i = 0) {Q : FT → GT → Prop} (hQ : ∀ (r : Nat) (A' B' : Nat → Int32), (∀ i, i < d → r * (ls i - lf i) ≤ lf i) → (∀ i, i < q → A' i = nI (p i)) → (∀ i, i < d → B' i = nI (lf i - r * (ls i - lf i))) → Q F (st (sn G A' B') p (fun i => lf i - r * (ls i - lf i)))) : ∀ m k r, k + m = d → r ≤ 8000000 → (∀ i, i < k → r * (ls i - lf i) ≤ lf i) → wp_X4_skipRounds_5 Q (m + 1) (nI r) (nI k) F (st (sn G A B) p lf)
  | 0, k, r, hk, h8, hr => by
    have hr' : ∀ i, i < d → r * (ls i - lf i) ≤ lf i := fun i hi => hr i (by omega)
    have h := x_sk52 (G := G) (A := A) h3 hq h5 hd hB hle hld hr' (hQ r · · hr') d 0 (by omega)
    have e : (fun i => if i < 0 then lf i - r * (ls i - lf i) else lf i) = lf := by
      funext i
      rw [if_neg (Nat.not_lt_zero i)]
    rw [e] at h
    simp only [wp_X4_skipRounds_5, h5, le_ya (show d ≤ k by omega) (by omega), not_true_eq_false, not_false_eq_true, false_implies, true_implies, and_true, true_and, true_or, or_true, ne_eq]
    exact ⟨d + 1, h⟩
  | m + 1, k, r, hk, h8, hr => by
    have lk := hl k
    have lk2 := hle k
    rw [wp_X4_skipRounds_5]
    simp only [h5, le_no (show k < d by omega) (by omega), vp_in_nI (show k < 80 by omega) (show 80 < 2 ^ 31 by omega), nI_clamp (show k < 2 ^ 31 by omega), st_15, st_47, hB k (show k < d by omega), pk_sub (hle k), forall_eq, nI_1, not_true_eq_false, not_false_eq_true, false_implies, true_implies, and_true, true_and, true_or, or_true, ne_eq]
    by_cases c : ls k - lf k = 0
    · simp +decide only [c, not_true_eq_false, not_false_eq_true, false_implies, true_implies, and_true, true_and, true_or, or_true, ne_eq]
      refine x_sk5 h3 hq h5 hd hB hle hl hld hQ m (k + 1) r (by omega) h8 (fun i hi => ?_)
      by_cases e : i = k
      · rw [e, c, Nat.mul_zero]; exact Nat.zero_le _
      · exact hr i (by omega)
    · obtain ⟨r', hr'⟩ : ∃ r', r' = if lf k / (ls k - lf k) < r then lf k / (ls k - lf k) else r := ⟨_, rfl⟩
      have hv : lf k / (ls k - lf k) ≤ lf k := Nat.div_le_self _ _
      have r1 : r' ≤ r := by rw [hr']; split <;> omega
      have r2 : r' ≤ lf k / (ls k - lf k) := by rw [hr']; split <;> omega
      have ev : (if nI (lf k / (ls k - lf k)) < nI r then nI (lf k / (ls k - lf k)) else nI r) = nI r' := by
        rw [hr']
        by_cases e : lf k / (ls k - lf k) < r
        · rw [if_pos e, if_pos (nI_lt e (by omega))]
        · rw [if_neg e, if_neg (nI_nlt (by omega) (by omega))]
      simp only [show ¬ nI (ls k - lf k) ≤ 0 from nI_nle (by omega) (by omega), show ¬ nI (ls k - lf k) = 0 from nI_ne0 (by omega) (by omega), pk_div (show lf k < 2 ^ 31 by omega) (show 0 < ls k - lf k by omega) (show ls k - lf k < 2 ^ 31 by omega), ev, not_true_eq_false, not_false_eq_true, false_implies, true_implies, and_true, true_and, true_or, or_true, ne_eq]
      refine x_sk5 h3 hq h5 hd hB hle hl hld hQ m (k + 1) r' (by omega) (by omega) (fun i hi => ?_)
      by_cases e : i = k
      · rw [e]; exact Nat.le_trans (Nat.mul_le_mul_right _ r2) (Nat.div_mul_le_self _ _)
      · exact Nat.le_trans (Nat.mul_le_mul_right _ r1) (hr i (by omega))
theorem x_skr (h3 : F 3 = nI q) (hq : q ≤ 16) (h5 : F 5 = nI d) (hd : d ≤ 80) {p lf ls : Nat → Nat} {A B : Nat → Int32} (hB : ∀ i, i < d → B i = nI (ls i)) (hle : ∀ i, lf i ≤ ls i) (hl : ∀ i, ls i ≤ 100000) (hld : ∀ i, d ≤ i → lf i = 0) {Q : FT → GT → Prop} (hQ : ∀ (r : Nat) (A' B' : Nat → Int32), (∀ i, i < d → r * (ls i - lf i) ≤ lf i) → (∀ i, i < q → A' i = nI (p i)) → (∀ i, i < d → B' i = nI (lf i - r * (ls i - lf i))) → Q F (st (sn G A' B') p (fun i => lf i - r * (ls i - lf i)))) : wp_X4_skipRounds F (st (sn G A B) p lf) Q :=
  ⟨d + 1, x_sk5 h3 hq h5 hd hB hle hl hld hQ d 0 8000000 (by omega) (Nat.le_refl _) (fun i hi => absurd hi (Nat.not_lt_zero i))⟩
end SEEN
