def Sp0 (b : Nat → Nat) (s L : Nat) : Prop := L = 4 ∧ b (s + 0) = 116 ∧ b (s + 1) = 111 ∧ b (s + 2) = 108 ∧ b (s + 3) = 108
def Sp1 (b : Nat → Nat) (s L : Nat) : Prop := L = 4 ∧ b (s + 0) = 111 ∧ b (s + 1) = 112 ∧ b (s + 2) = 101 ∧ b (s + 3) = 110
def Sp2 (b : Nat → Nat) (s L : Nat) : Prop := L = 4 ∧ b (s + 0) = 100 ∧ b (s + 1) = 97 ∧ b (s + 2) = 121 ∧ b (s + 3) = 115
def Sp3 (b : Nat → Nat) (s L : Nat) : Prop := L = 7 ∧ b (s + 0) = 119 ∧ b (s + 1) = 97 ∧ b (s + 2) = 114 ∧ b (s + 3) = 114 ∧ b (s + 4) = 97 ∧ b (s + 5) = 110 ∧ b (s + 6) = 116
section WORDS
variable {b : Nat → Nat} {T : Nat}
theorem x_slot {F : FT} {G : GT} (h : TX b T F G) {s e : Nat} (h15 : F 15 = nI s) (h16 : F 16 = nI e) (hse : s ≤ e) (he : e ≤ T) {Q : Int32 → FT → GT → Prop} (h0 : Sp0 b s (e - s) → Q 0 F G) (h1 : ¬ Sp0 b s (e - s) → Sp1 b s (e - s) → Q 1 F G) (h2 : ¬ Sp0 b s (e - s) → ¬ Sp1 b s (e - s) → Sp2 b s (e - s) → Q 2 F G) (h3 : ¬ Sp0 b s (e - s) → ¬ Sp1 b s (e - s) → ¬ Sp2 b s (e - s) → Sp3 b s (e - s) → Q 8 F G) (h4 : ¬ Sp0 b s (e - s) → ¬ Sp1 b s (e - s) → ¬ Sp2 b s (e - s) → ¬ Sp3 b s (e - s) → Q (-1) F G) : wp_X3_slotOfWord F G Q := by
  unfold wp_X3_slotOfWord wp_X3_slotOfWord_0
  refine x_sp0 h h15 h16 hse he (fun y => ⟨fun q => absurd q (by decide), fun _ => h0 y⟩) (fun n0 => ⟨fun _ => ?_, fun q => absurd rfl q⟩)
  refine x_sp1 h h15 h16 hse he (fun y => ⟨fun q => absurd q (by decide), fun _ => h1 n0 y⟩) (fun n1 => ⟨fun _ => ?_, fun q => absurd rfl q⟩)
  refine x_sp2 h h15 h16 hse he (fun y => ⟨fun q => absurd q (by decide), fun _ => h2 n0 n1 y⟩) (fun n2 => ⟨fun _ => ?_, fun q => absurd rfl q⟩)
  exact x_sp3 h h15 h16 hse he (fun y => ⟨fun q => absurd q (by decide), fun _ => h3 n0 n1 n2 y⟩) (fun n3 => ⟨fun _ => h4 n0 n1 n2 n3, fun q => absurd rfl q⟩)
theorem m_keyn {F : FT} {G : GT} {w x : Int64} (h : ¬ F 24 = 2) {Q : Int32 → FT → GT → Int64 → Prop} (hQ : Q 0 F G w) : wp_X8_isKey x F G w Q := ⟨fun _ => ⟨.inl rfl, hQ⟩, fun q => absurd q h⟩
theorem m_key {F : FT} {G : GT} {w x : Int64} {S : Prop} (h : F 24 = 2) (hS : w = x ↔ S) {Q : Int32 → FT → GT → Int64 → Prop} (hy : S → Q 1 F G w) (hn : ¬ S → Q 0 F G w) : wp_X8_isKey x F G w Q := ⟨fun q => absurd h q, fun _ => ⟨fun q => ⟨.inl rfl, hn (fun z => q ((lg_cmp_eq w x).2 (hS.2 z)))⟩, fun q => ⟨.inr rfl, hy (hS.1 ((lg_cmp_eq w x).1 q))⟩⟩⟩
theorem m_bad {F : FT} {G : GT} {w : Int64} {x : Int32} {Q : Int32 → FT → GT → Int64 → Prop} (hQ : Q 0 (sU (sU F 1 (if F 24 = 1 then 1 else x)) 26 (F 23)) G w) : wp_X8_bad x F G w Q := by
  unfold wp_X8_bad wp_X8_bad_0 wp_X8_bad_14
  refine ⟨fun q F1 h1 F2 h2 => ?_, fun q F1 h1 F2 h2 => ?_⟩
  · subst h1 h2
    rw [if_neg q] at hQ
    refine ⟨.inl rfl, ?_⟩
    rw [sU_ne _ _ (show 23 ≠ 1 by decide)]; exact hQ
  · subst h1 h2
    rw [if_pos q] at hQ
    refine ⟨.inl rfl, ?_⟩
    rw [sU_ne _ _ (show 23 ≠ 1 by decide)]; exact hQ
end WORDS
section REACH
variable {b : Nat → Nat} {T : Nat}
/-- after a rule: the next, or the end with what is wrong -/
def RQ (l ru : Nat) (P : Int32 → FT → GT → Int64 → Prop) (n : Nat) : Int32 → FT → GT → Int64 → Prop := fun r F1 G2 w3 => (r = 0 ∨ r = 1) ∧ ((¬ r = 0) → ∀ v5 : Int32, v5 = nI ru + 1 → wp_X8_go F1 G2 w3 (fun F6 G7 w8 => wp_X8_law_77 P n (nI l) v5 F6 G7 w8)) ∧ ((r = 0) → P ((-1 : Int32) - (F1 26)) F1 G2 w3)
/-- M awaits what X awaits -/
def MC (l aw sl ru : Nat) (P : Int32 → FT → GT → Int64 → Prop) (n : Nat) (F : FT) (G : GT) (w : Int64) : Prop :=
  (aw = 1 → wp_X8_law_77 P n (nI l) (nI ru) F G w) ∧
  (aw = 2 → wp_X8_readRule_176 (RQ l ru P n) (nI sl) F G w) ∧
  (aw = 3 → (((F 24) = (4 : Int32)) → RQ l ru P n (1 : Int32) F G w) ∧ ((¬ (F 24) = (4 : Int32)) → wp_X8_bad (1 : Int32) F G w (fun r9 F6 G7 w8 => ((r9 = 0) → RQ l ru P n (0 : Int32) F6 G7 w8) ∧ ((¬ r9 = 0) → RQ l ru P n (1 : Int32) F6 G7 w8)))) ∧
  (aw = 4 → (((F 24) = (3 : Int32)) → (((F 25) < (6 : Int32)) → ∀ v4 : Int32, v4 = (((F 27) >>> ((nI sl + (F 25)) &&& 31)) &&& (1 : Int32)) → ((¬ v4 = (1 : Int32)) → wp_X8_go F G w (fun F5 G6 w7 => wp_X8_readRule_176 (RQ l ru P n) (nI sl + (F 25)) F5 G6 w7)) ∧ ((v4 = (1 : Int32)) → wp_X8_bad (3 : Int32) F G w (fun r11 F8 G9 w10 => RQ l ru P n r11 F8 G9 w10))) ∧ ((¬ (F 25) < (6 : Int32)) → wp_X8_bad (2 : Int32) F G w (fun r15 F12 G13 w14 => RQ l ru P n r15 F12 G13 w14))) ∧ ((¬ (F 24) = (3 : Int32)) → wp_X8_bad (1 : Int32) F G w (fun r19 F16 G17 w18 => RQ l ru P n r19 F16 G17 w18)))
theorem RQ_0 {l ru n : Nat} {P : Int32 → FT → GT → Int64 → Prop} {F : FT} {G : GT} {w : Int64} {v : Int32} (h : P (-1 - F 23) (sU (sU F 1 v) 26 (F 23)) G w) : RQ l ru P n 0 (sU (sU F 1 v) 26 (F 23)) G w := by
  refine ⟨.inl rfl, fun q => absurd rfl q, fun _ => ?_⟩
  rw [sU_same]; exact h
/-- M meets what it does not await -/
theorem MC_bad {l aw sl ru n c : Nat} {P : Int32 → FT → GT → Int64 → Prop} {F : FT} {G : GT} {w : Int64} (haw : 1 ≤ aw ∧ aw ≤ 4) (h24 : F 24 = nI c) (hc : c ≤ 4) (h1 : aw = 1 → c ≠ 0 ∧ c ≠ 2) (h2 : aw = 2 → c ≠ 3) (h3 : aw = 3 → c ≠ 4) (h4 : aw = 4 → c ≠ 3) (hP : P (-1 - F 23) (sU (sU F 1 1) 26 (F 23)) G w) : MC l aw sl ru P (n + 1) F G w := by
  have hne : ∀ k, k < 5 → k ≠ c → ¬ F 24 = nI k := fun k hk hkc q => hkc ((nI_eq (by omega) (by omega)).1 (h24.symm.trans q)).symm
  have hv : (if F 24 = 1 then (1 : Int32) else 1) = 1 := by split <;> rfl
  have bad1 : ∀ (Q : Int32 → FT → GT → Int64 → Prop), Q 0 (sU (sU F 1 1) 26 (F 23)) G w → wp_X8_bad 1 F G w Q := fun Q hQ => m_bad (by rw [hv]; exact hQ)
  refine ⟨fun e => ?_, fun e => ?_, fun e => ?_, fun e => ?_⟩
  · obtain ⟨c0, c2⟩ := h1 e
    have n0 : ¬ F 24 = 0 := hne 0 (by omega) (fun q => c0 q.symm)
    have n2 : ¬ F 24 = 2 := hne 2 (by omega) (fun q => c2 q.symm)
    rw [wp_X8_law_77]
    refine ⟨fun q => absurd q n0, fun _ => ?_⟩
    unfold wp_X8_readRule wp_X8_readRule_0
    refine m_keyn n2 ?_
    refine m_keyn n2 ?_
    refine m_keyn n2 ?_
    simp only [not_true_eq_false, not_false_eq_true, false_implies, true_implies, and_true, true_and, true_or, or_true, ne_eq]
    unfold wp_X8_readRule_50
    simp only [not_true_eq_false, not_false_eq_true, false_implies, true_implies, and_true, true_and, true_or, or_true, ne_eq]
    refine m_keyn n2 ?_
    simp only [not_true_eq_false, not_false_eq_true, false_implies, true_implies, and_true, true_and, true_or, or_true, ne_eq]
    refine bad1 _ ?_
    refine ⟨.inl rfl, fun q => absurd rfl q, fun _ => ?_⟩
    rw [sU_same]; exact hP
  · have n3 : ¬ F 24 = 3 := hne 3 (by omega) (fun q => h2 e q.symm)
    exact ⟨fun q => absurd q n3, fun _ => bad1 _ (RQ_0 hP)⟩
  · have n4 : ¬ F 24 = 4 := hne 4 (by omega) (fun q => h3 e q.symm)
    exact ⟨fun q => absurd q n4, fun _ => bad1 _ ⟨fun _ => RQ_0 hP, fun q => absurd rfl q⟩⟩
  · have n3 : ¬ F 24 = 3 := hne 3 (by omega) (fun q => h4 e q.symm)
    exact ⟨fun q => absurd q n3, fun _ => bad1 _ (RQ_0 hP)⟩
end REACH
