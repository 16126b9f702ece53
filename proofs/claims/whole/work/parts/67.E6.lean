/-! bits of what was told -/
theorem sh_k : ∀ k, k < 14 → ((nI k &&& 31).toBitVec.smod 32).toNat = k := by decide
theorem told_b {t k : Nat} (ht : t < 2 ^ 14) (hk : k < 14) : ((nI t >>> (nI k &&& 31)) &&& 1) = 1 ↔ t.testBit k = true := by
  rw [pk_shrN (by omega) _ k (sh_k k hk), show (1 : Int32) = nI 1 from rfl, pk_andN (k := 1) (Nat.lt_of_le_of_lt (Nat.div_le_self _ _) (by omega)) rfl]
  rw [nI_eq (by omega) (by omega), Nat.testBit_eq_decide_div_mod_eq, decide_eq_true_eq]
theorem told_s {t k : Nat} (ht : t < 2 ^ 14) (hk : k < 14) : nI t ||| ((1 : Int32) <<< (nI k &&& 31)) = nI (t ||| 2 ^ k) ∧ t ||| 2 ^ k < 2 ^ 14 := by
  have h2 : (2 : Nat) ^ k < 2 ^ 14 := Nat.pow_lt_pow_right (by omega) hk
  refine ⟨?_, Nat.or_lt_two_pow ht h2⟩
  rw [show (1 : Int32) = nI 1 from rfl, pk_shlN _ k (sh_k k hk) (by omega), Nat.one_mul]
  refine Int32.toBitVec_inj.1 ?_
  show BitVec.ofNat 32 t ||| BitVec.ofNat 32 (2 ^ k) = BitVec.ofNat 32 (t ||| 2 ^ k)
  refine BitVec.eq_of_toNat_eq ?_
  rw [BitVec.toNat_or, BitVec.toNat_ofNat, BitVec.toNat_ofNat, BitVec.toNat_ofNat, Nat.or_mod_two_pow]

section SIM
variable {b : Nat → Nat} {T : Nat}
/-- X's state while it reads: at s, awaiting aw, slot sl, ru rules read -/
def XS (b : Nat → Nat) (T : Nat) (F0 : FT) (G0 : GT) (F : FT) (G : GT) (s aw sl ru : Nat) : Prop := TX b T F G ∧ F 15 = nI s ∧ F 13 = nI aw ∧ F 14 = nI sl ∧ F 10 = nI ru ∧ F 11 = 0 ∧ (∀ k, k < 10 ∨ 16 < k → F k = F0 k) ∧ (∀ k, k ≠ 41 → k ≠ 42 → G k = G0 k)
theorem tk_n {F : FT} {G : GT} {x : Int32} {aw : Nat} (haw : F 13 = nI aw) (h4 : aw ≤ 4) (h1 : aw = 1 → x ≠ 1) (h2 : aw = 2 → x ≠ 2) (h3 : aw = 3 → x ≠ 3) (h5 : aw = 4 → x ≠ 2) (h0 : aw ≠ 0) {Q : Int32 → FT → GT → Prop} (hQ : Q 1 F G) : wp_X3_takeToken x F G Q := by
  unfold wp_X3_takeToken wp_X3_takeToken_0
  rw [haw]
  rcases (by omega : aw = 1 ∨ aw = 2 ∨ aw = 3 ∨ aw = 4) with rfl | rfl | rfl | rfl
  · have := h1 rfl
    simp +decide only [this, not_true_eq_false, not_false_eq_true, false_implies, true_implies, and_true, true_and, true_or, or_true, ne_eq]; exact hQ
  · have := h2 rfl
    simp +decide only [this, not_true_eq_false, not_false_eq_true, false_implies, true_implies, and_true, true_and, true_or, or_true, ne_eq]; exact hQ
  · have := h3 rfl
    simp +decide only [this, not_true_eq_false, not_false_eq_true, false_implies, true_implies, and_true, true_and, true_or, or_true, ne_eq]; exact hQ
  · have := h5 rfl
    simp +decide only [this, not_true_eq_false, not_false_eq_true, false_implies, true_implies, and_true, true_and, true_or, or_true, ne_eq]; exact hQ
/-- X takes one token -/
theorem x_step {F : FT} {G : GT} (h : TX b T F G) {s lim x3 n : Nat} (hl : lim ≤ T) (h300 : lim ≤ 300) (hs : s < lim) (hx : x3 < 300) (h11 : F 11 = 0) (h15 : F 15 = nI s) {r : Int32} {F4 : FT} {G4 : GT} (h4 : TX b T F4 G4) (f15 : F4 15 = nI s) (f16 : F4 16 = nI (pa b T s)) {Q : FT → GT → Prop} (hk : ∀ Q' : Int32 → FT → GT → Prop, Q' r F4 G4 → wp_X3_takeToken (nI (tk b T s - 1)) (sU F 16 (nI (pa b T s))) G Q') (hn : wp_X3_readAll_22 Q n (nI lim) (nI (x3 + 1)) (sU (sU (sU F4 11 r) 12 (nI s)) 15 (nI (bk b T (pa b T s)))) G4) : wp_X3_readAll_22 Q (n + 1) (nI lim) (nI x3) F G := by
  have hT := h.2.1
  have hp := pa_gt (b := b) (T := T) (s := s) (by omega)
  rw [wp_X3_readAll_22]
  refine ⟨fun q => absurd q (le_no (b := 300) hx (by omega)), fun _ => ⟨fun q => absurd (h15 ▸ q) (le_no hs (by omega)), fun _ => ⟨fun q => absurd h11 q, fun _ => x_tok h h15 (by omega) (hk _ ?_)⟩⟩⟩
  intro F7 hF7 F8 hF8 F9 hF9
  have e9 : F9 = sU (sU (sU F4 11 r) 12 (nI s)) 15 (nI (pa b T s)) := by
    rw [hF9, hF8, hF7, sU_ne _ _ (show 15 ≠ 11 by decide), f15, sU_ne _ _ (show 16 ≠ 12 by decide), sU_ne _ _ (show 16 ≠ 11 by decide), f16]
  rw [e9]
  have hTX9 : TX b T (sU (sU F4 11 r) 12 (nI s)) G4 := ⟨by rw [sU_ne _ _ (by decide), sU_ne _ _ (by decide)]; exact h4.1, h4.2⟩
  refine ⟨T - pa b T s + 1, x_skip hTX9 (T - pa b T s) (pa b T s) (by omega) hp.2 (fun v hv => ?_)⟩
  subst hv
  rw [nI_1]; exact hn
theorem x_fault {F : FT} {G : GT} {n : Nat} {x y : Int32} (h : ¬ F 11 = 0) {Q : FT → GT → Prop} (hQ : Q F G) : wp_X3_readAll_22 Q (n + 1) x y F G := by
  have k85 : wp_X3_readAll_85 Q x F G := ⟨fun _ => hQ, fun q => absurd q h⟩
  exact ⟨fun _ => k85, fun _ => ⟨fun _ => k85, fun _ => ⟨fun _ => k85, fun q => absurd q h⟩⟩⟩
/-- X at the end of the text -/
theorem x_end {F : FT} {G : GT} {n s lim : Nat} {y : Int32} (hT : T ≤ 320) (h2 : F 2 = nI T) (hlim : lim = if 300 < T then 300 else T) (hs : lim ≤ s) (hsT : s ≤ T) (h15 : F 15 = nI s) (h11 : F 11 = 0) {Q : FT → GT → Prop} (hok : T ≤ 300 → F 13 = 1 → Q F G) (hbad : (300 < T ∨ ¬ F 13 = 1) → Q (sU (sU F 11 1) 12 (nI lim)) G) : wp_X3_readAll_22 Q (n + 1) (nI lim) y F G := by
  have hl : lim ≤ 320 := by rw [hlim]; split <;> omega
  have k85 : wp_X3_readAll_85 Q (nI lim) F G := by
    refine ⟨fun q => absurd h11 q, fun _ => ?_⟩
    have k110 : (300 < T ∨ ¬ F 13 = 1) → wp_X3_readAll_110 Q (nI lim) F G := fun q F1 hF1 F2 hF2 => by subst hF1 hF2; exact hbad q
    rw [h2]
    refine ⟨fun q => k110 (.inl ((nI_ltI (a := 300) (by omega) (by omega)).1 q)), fun q => ⟨fun q' => hok ?_ q', fun q' => k110 (.inr q')⟩⟩
    exact Decidable.byContradiction (fun z => q (nI_lt (a := 300) (by omega) (by omega)))
  exact ⟨fun _ => k85, fun _ => ⟨fun _ => k85, fun q => absurd (by rw [h15]; exact le_ya hs (by omega)) q⟩⟩
end SIM
