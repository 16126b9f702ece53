/-! the law's text: one reading of it for both sides -/
def iL (c : Nat) : Bool := decide (97 ≤ c) && decide (c ≤ 122)
def iD (c : Nat) : Bool := decide (48 ≤ c) && decide (c ≤ 57)
def iA (c : Nat) : Bool := iL c || iD c
def iB (c : Nat) : Bool := decide (c = 32) || decide (c = 10)
/-- where the run from i ends (T: the text's end; m: what is left) -/
def rn (f : Nat → Bool) (T : Nat) : Nat → Nat → Nat
  | 0, i => i
  | m + 1, i => if i < T ∧ f i = true then rn f T m (i + 1) else i
theorem rn_le {f : Nat → Bool} {T : Nat} : ∀ m i, i ≤ T → i ≤ rn f T m i ∧ rn f T m i ≤ T
  | 0, i, h => ⟨Nat.le_refl i, h⟩
  | m + 1, i, h => by
    rw [rn]
    by_cases c : i < T ∧ f i = true
    · rw [if_pos c]
      have := rn_le (f := f) (T := T) m (i + 1) (by omega)
      omega
    · rw [if_neg c]; omega
theorem rn_in {f : Nat → Bool} {T : Nat} : ∀ m i j, i ≤ j → j < rn f T m i → f j = true
  | 0, i, j, h1, h2 => by rw [rn] at h2; omega
  | m + 1, i, j, h1, h2 => by
    rw [rn] at h2
    by_cases c : i < T ∧ f i = true
    · rw [if_pos c] at h2
      by_cases e : j = i
      · rw [e]; exact c.2
      · exact rn_in m (i + 1) j (by omega) h2
    · rw [if_neg c] at h2; omega
theorem rn_end {f : Nat → Bool} {T : Nat} : ∀ m i, T ≤ i + m → i ≤ T → rn f T m i = T ∨ f (rn f T m i) = false
  | 0, i, h1, h2 => .inl (by rw [rn]; omega)
  | m + 1, i, h1, h2 => by
    rw [rn]
    by_cases c : i < T ∧ f i = true
    · rw [if_pos c]; exact rn_end m (i + 1) (by omega) (by omega)
    · rw [if_neg c]
      by_cases e : i < T
      · right
        cases hf : f i with
        | false => rfl
        | true => exact absurd ⟨e, hf⟩ c
      · left; omega
theorem x_let {Q : Int32 → FT → GT → Prop} {F : FT} {G : GT} {c : Nat} (hc : c < 2 ^ 31) (hQ : Q (if iL c = true then 1 else 0) F G) : wp_X3_isLetter (nI c) F G Q := by
  unfold wp_X3_isLetter wp_X3_isLetter_0
  simp only [show (97 : Int32) = nI 97 from rfl, show (122 : Int32) = nI 122 from rfl, nI_ltI hc (show 97 < 2 ^ 31 by omega), nI_ltI (show 122 < 2 ^ 31 by omega) hc, true_or, or_true, true_and]
  by_cases c1 : c < 97
  · have : ¬ iL c = true := by simp only [iL, Bool.and_eq_true, decide_eq_true_eq]; omega
    rw [if_neg this] at hQ
    exact ⟨fun _ => hQ, fun q => absurd c1 q⟩
  · by_cases c2 : 122 < c
    · have : ¬ iL c = true := by simp only [iL, Bool.and_eq_true, decide_eq_true_eq]; omega
      rw [if_neg this] at hQ
      exact ⟨fun q => absurd q c1, fun _ => ⟨fun _ => hQ, fun q => absurd c2 q⟩⟩
    · have : iL c = true := by simp only [iL, Bool.and_eq_true, decide_eq_true_eq]; omega
      rw [if_pos this] at hQ
      exact ⟨fun q => absurd q c1, fun _ => ⟨fun q => absurd q c2, fun _ => hQ⟩⟩
theorem x_dig {Q : Int32 → FT → GT → Prop} {F : FT} {G : GT} {c : Nat} (hc : c < 2 ^ 31) (hQ : Q (if iD c = true then 1 else 0) F G) : wp_X3_isDigit (nI c) F G Q := by
  unfold wp_X3_isDigit wp_X3_isDigit_0
  simp only [show (48 : Int32) = nI 48 from rfl, show (57 : Int32) = nI 57 from rfl, nI_ltI hc (show 48 < 2 ^ 31 by omega), nI_ltI (show 57 < 2 ^ 31 by omega) hc, true_or, or_true, true_and]
  by_cases c1 : c < 48
  · have : ¬ iD c = true := by simp only [iD, Bool.and_eq_true, decide_eq_true_eq]; omega
    rw [if_neg this] at hQ
    exact ⟨fun _ => hQ, fun q => absurd c1 q⟩
  · by_cases c2 : 57 < c
    · have : ¬ iD c = true := by simp only [iD, Bool.and_eq_true, decide_eq_true_eq]; omega
      rw [if_neg this] at hQ
      exact ⟨fun q => absurd q c1, fun _ => ⟨fun _ => hQ, fun q => absurd c2 q⟩⟩
    · have : iD c = true := by simp only [iD, Bool.and_eq_true, decide_eq_true_eq]; omega
      rw [if_pos this] at hQ
      exact ⟨fun q => absurd q c1, fun _ => ⟨fun q => absurd q c2, fun _ => hQ⟩⟩
theorem m_let {Q : Int32 → FT → GT → Int64 → Prop} {F : FT} {G : GT} {w : Int64} {c : Nat} (hc : c < 2 ^ 31) (hQ : Q (if iL c = true then 1 else 0) F G w) : wp_X8_isLetter (nI c) F G w Q := x_let (Q := fun r F G => Q r F G w) hc hQ
theorem m_dig {Q : Int32 → FT → GT → Int64 → Prop} {F : FT} {G : GT} {w : Int64} {c : Nat} (hc : c < 2 ^ 31) (hQ : Q (if iD c = true then 1 else 0) F G w) : wp_X8_isDigit (nI c) F G w Q := x_dig (Q := fun r F G => Q r F G w) hc hQ
section TEXT
variable {b : Nat → Nat} {T : Nat}
/-- X's text: T bytes b -/
def TX (b : Nat → Nat) (T : Nat) (F : FT) (G : GT) : Prop := F 2 = nI T ∧ T ≤ 320 ∧ (∀ i, b i < 256) ∧ ∀ i, i < 320 → G 40 i &&& 255 = nI (b i)
theorem x_at {F : FT} {G : GT} {i : Nat} (h : TX b T F G) (hi : i < T) {Q : Int32 → FT → GT → Prop} (hQ : Q (nI (b i)) F G) : wp_X6_at (nI i) F G Q := by
  obtain ⟨h2, hT, hb, hg⟩ := h
  simp only [wp_X6_at, wp_X6_at_0, nI_pos (show i < 2 ^ 31 by omega), h2, le_no hi (show T < 2 ^ 31 by omega), vp_in_nI (show i < 320 by omega) (show 320 < 2 ^ 31 by omega), nI_clamp (show i < 2 ^ 31 by omega), hg i (by omega), not_true_eq_false, not_false_eq_true, false_implies, true_implies, and_true, true_and, true_or, or_true, ne_eq]
  exact hQ
theorem b_eq {c k : Nat} (hc : c < 256) (hk : k < 256) : nI c = nI k ↔ c = k := nI_eq (by omega) (by omega)
/-- X skips blanks -/
theorem x_skip {F : FT} {G : GT} (h : TX b T F G) {Q : FT → GT → Prop} : ∀ m i, T ≤ i + m → i ≤ T → Q (sU F 15 (nI (rn (fun i => iB (b i)) T m i))) G → wp_X3_skipBlanks_0 Q (m + 1) (sU F 15 (nI i)) G := by
  intro m
  have hT := h.2.1
  have hX : ∀ i, TX b T (sU F 15 (nI i)) G := fun i => ⟨by rw [sU_ne _ _ (by decide)]; exact h.1, h.2⟩
  induction m with
  | zero =>
    intro i h1 h2 hQ
    simp only [wp_X3_skipBlanks_0, sU_same, sU_ne F (nI i) (show 2 ≠ 15 by decide), h.1, le_ya (show T ≤ i by omega) (by omega), not_true_eq_false, not_false_eq_true, false_implies, true_implies, and_true, true_and, true_or, or_true, ne_eq]
    exact hQ
  | succ m ih =>
    intro i h1 h2 hQ
    rw [wp_X3_skipBlanks_0]
    rw [rn] at hQ
    simp only [sU_same, sU_ne F (nI i) (show 2 ≠ 15 by decide), h.1]
    by_cases c : i < T
    · simp only [le_no c (show T < 2 ^ 31 by omega), not_true_eq_false, not_false_eq_true, false_implies, true_implies, and_true, true_and, true_or, or_true, ne_eq]
      refine x_at (hX i) c ?_
      have hb := h.2.2.1 i
      simp only [show (32 : Int32) = nI 32 from rfl, show (10 : Int32) = nI 10 from rfl, b_eq hb (show 32 < 256 by omega), wp_X3_skipBlanks_37, forall_eq, sU_same, sU_i, nI_1]
      by_cases c1 : b i = 32
      · rw [if_pos ⟨c, by simp only [iB, c1]; decide⟩] at hQ
        simp only [c1, not_true_eq_false, not_false_eq_true, false_implies, true_implies, and_true, true_and, true_or, or_true, ne_eq]
        exact ih (i + 1) (by omega) (by omega) hQ
      · simp only [c1, not_true_eq_false, not_false_eq_true, false_implies, true_implies, and_true, true_and, true_or, or_true, ne_eq]
        refine x_at (hX i) c ?_
        simp only [b_eq hb (show 10 < 256 by omega), wp_X3_skipBlanks_37, forall_eq, sU_same, sU_i, nI_1]
        by_cases c2 : b i = 10
        · rw [if_pos ⟨c, by simp only [iB, c2]; decide⟩] at hQ
          simp only [c2, not_true_eq_false, not_false_eq_true, false_implies, true_implies, and_true, true_and, true_or, or_true, ne_eq]
          exact ih (i + 1) (by omega) (by omega) hQ
        · rw [if_neg (fun q => by have := q.2; simp only [iB, Bool.or_eq_true, decide_eq_true_eq] at this; omega)] at hQ
          simp only [c2, not_true_eq_false, not_false_eq_true, false_implies, true_implies, and_true, true_and, true_or, or_true, ne_eq]
          exact hQ
    · rw [if_neg (fun q => c q.1)] at hQ
      simp only [le_ya (show T ≤ i by omega) (show i < 2 ^ 31 by omega), not_true_eq_false, not_false_eq_true, false_implies, true_implies, and_true, true_and, true_or, or_true, ne_eq]
      exact hQ
/-- M's text -/
def TM (b : Nat → Nat) (T : Nat) (F : FT) (G : GT) : Prop := F 21 = nI T ∧ T ≤ 320 ∧ (∀ i, b i < 256) ∧ ∀ i, i < 320 → G 50 i = nI (b i)
theorem m_skip {F : FT} {G : GT} {w : Int64} (h : TM b T F G) {Q : FT → GT → Int64 → Prop} : ∀ m i, T ≤ i + m → i ≤ T → wp_X8_go_52 Q (sU F 22 (nI (rn (fun i => iB (b i)) T m i))) G w → wp_X8_go_0 Q (m + 1) (sU F 22 (nI i)) G w := by
  intro m
  have hT := h.2.1
  induction m with
  | zero =>
    intro i h1 h2 hQ
    simp only [wp_X8_go_0, sU_same, sU_ne F (nI i) (show 21 ≠ 22 by decide), h.1, le_ya (show T ≤ i by omega) (by omega), not_true_eq_false, not_false_eq_true, false_implies, true_implies, and_true, true_and, true_or, or_true, ne_eq]
    exact hQ
  | succ m ih =>
    intro i h1 h2 hQ
    rw [wp_X8_go_0]
    rw [rn] at hQ
    simp only [sU_same, sU_ne F (nI i) (show 21 ≠ 22 by decide), h.1]
    by_cases c : i < T
    · have hb := h.2.2.1 i
      simp only [le_no c (show T < 2 ^ 31 by omega), vp_in_nI (show i < 320 by omega) (show 320 < 2 ^ 31 by omega), nI_clamp (show i < 2 ^ 31 by omega), h.2.2.2 i (by omega), show (32 : Int32) = nI 32 from rfl, show (10 : Int32) = nI 10 from rfl, b_eq hb (show 32 < 256 by omega), b_eq hb (show 10 < 256 by omega), wp_X8_go_39, forall_eq, sU_same, sU_i, nI_1, not_true_eq_false, not_false_eq_true, false_implies, true_implies, and_true, true_and, true_or, or_true, ne_eq]
      by_cases c1 : b i = 32
      · rw [if_pos ⟨c, by simp only [iB, c1]; decide⟩] at hQ
        simp only [c1, not_true_eq_false, not_false_eq_true, false_implies, true_implies, and_true, true_and, true_or, or_true, ne_eq]
        exact ih (i + 1) (by omega) (by omega) hQ
      · by_cases c2 : b i = 10
        · rw [if_pos ⟨c, by simp only [iB, c2]; decide⟩] at hQ
          simp +decide only [c2, not_true_eq_false, not_false_eq_true, false_implies, true_implies, and_true, true_and, true_or, or_true, ne_eq]
          exact ih (i + 1) (by omega) (by omega) hQ
        · rw [if_neg (fun q => by have := q.2; simp only [iB, Bool.or_eq_true, decide_eq_true_eq] at this; omega)] at hQ
          simp only [c1, c2, not_true_eq_false, not_false_eq_true, false_implies, true_implies, and_true, true_and, true_or, or_true, ne_eq]
          exact hQ
    · rw [if_neg (fun q => c q.1)] at hQ
      simp only [le_ya (show T ≤ i by omega) (show i < 2 ^ 31 by omega), not_true_eq_false, not_false_eq_true, false_implies, true_implies, and_true, true_and, true_or, or_true, ne_eq]
      exact hQ
end TEXT
