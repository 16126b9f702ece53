section TOKM
variable {b : Nat → Nat} {T : Nat}
theorem sU_4 {F : FT} {a i v k : Int32} : sU (sU (sU (sU F 25 a) 22 i) 25 v) 22 k = sU (sU F 25 v) 22 k := by
  rw [sU_c (a := 22) (b := 25) (by decide), sU_i, sU_i]
theorem m_byte {F : FT} {G : GT} {w : Int64} {i : Nat} (h : TM b T F G) (hi : i ≤ T) {Q : Int32 → FT → GT → Int64 → Prop} (hQ : Q (if i < T then nI (b i) else 0) F G w) : wp_X8_byteAt (nI i) F G w Q := by
  obtain ⟨h21, hT, hb, hg⟩ := h
  unfold wp_X8_byteAt wp_X8_byteAt_0
  rw [h21]
  by_cases c : i < T
  · rw [if_pos c] at hQ
    refine ⟨fun q => absurd q (le_no c (by omega)), fun _ => ⟨vp_in_nI (by omega) (by omega), ?_⟩⟩
    rw [nI_clamp (by omega), hg i (by omega)]; exact hQ
  · rw [if_neg c] at hQ
    exact ⟨fun _ => hQ, fun q => absurd (le_ya (by omega) (by omega)) q⟩
def fl (b : Nat → Nat) (s : Nat) : Int32 := if iL (b s) = true then 1 else 0
def gl (b : Nat → Nat) (s j : Nat) : Int32 := if (if iL (b s) = true then nd b s j = 0 else nl b s j = 0) then 1 else 0
/-- the end of M's run -/
def mE (b : Nat → Nat) (s : Nat) (Q : FT → GT → Int64 → Prop) (F : FT) (G : GT) (j : Nat) : Prop := ((gl b s j = 0) → Q (sU (sU (sU F 25 (nv b s j)) 22 (nI (s + j))) 24 1) G (wv b s j)) ∧ ((¬ gl b s j = 0) → (iL (b s) = true → Q (sU (sU (sU F 25 (nv b s j)) 22 (nI (s + j))) 24 2) G (wv b s j)) ∧ (¬ iL (b s) = true → (j ≤ 3 → Q (sU (sU (sU F 25 (nv b s j)) 22 (nI (s + j))) 24 3) G (wv b s j)) ∧ (¬ j ≤ 3 → Q (sU (sU (sU F 25 (nv b s j)) 22 (nI (s + j))) 24 1) G (wv b s j))))
theorem fl_0 {s : Nat} : (fl b s = 0) ↔ ¬ iL (b s) = true := by
  unfold fl; split
  · rename_i h; exact ⟨fun q => absurd q (by decide), fun q => absurd h q⟩
  · rename_i h; exact ⟨fun _ => h, fun _ => rfl⟩
theorem gl_n {s j : Nat} (hA : iA (b (s + j)) = true) (hne : ¬ gl b s j = 0) : ((if iL (b (s + j)) = true then (1 : Int32) else 0) = fl b s → gl b s (j + 1) = 1) ∧ (¬ (if iL (b (s + j)) = true then (1 : Int32) else 0) = fl b s → gl b s (j + 1) = 0) := by
  simp only [iA, Bool.or_eq_true] at hA
  unfold gl at hne ⊢
  unfold fl
  rw [nl, nd]
  by_cases c0 : iL (b s) = true
  · simp only [if_pos c0] at hne ⊢
    have z : nd b s j = 0 := Decidable.byContradiction (fun q => hne (by rw [if_neg q]))
    by_cases c : iL (b (s + j)) = true
    · simp only [c, if_true, iLD c, if_false]
      exact ⟨fun _ => by rw [z]; rfl, fun q => by first | exact absurd trivial q | exact absurd rfl q | exact absurd (by simp) q⟩
    · have d := hA.resolve_left c
      simp only [c, if_false, d, if_true]
      refine ⟨fun q => absurd q (by decide), fun _ => ?_⟩
      rw [z]; rfl
  · simp only [if_neg c0] at hne ⊢
    have z : nl b s j = 0 := Decidable.byContradiction (fun q => hne (by rw [if_neg q]))
    by_cases c : iL (b (s + j)) = true
    · simp only [c, if_true]
      refine ⟨fun q => absurd q (by decide), fun _ => ?_⟩
      rw [z]; rfl
    · simp only [c, if_false]
      exact ⟨fun _ => by rw [z]; rfl, fun q => by first | exact absurd trivial q | exact absurd rfl q | exact absurd (by simp) q⟩
theorem gl_z {s j : Nat} (h : gl b s j = 0) : gl b s (j + 1) = 0 := by
  unfold gl at h ⊢
  rw [nl, nd]
  by_cases c0 : iL (b s) = true
  · simp only [if_pos c0] at h ⊢
    have z : ¬ nd b s j = 0 := fun q => by rw [if_pos q] at h; exact absurd h (by decide)
    rw [if_neg (by omega)]
  · simp only [if_neg c0] at h ⊢
    have z : ¬ nl b s j = 0 := fun q => by rw [if_pos q] at h; exact absurd h (by decide)
    rw [if_neg (by omega)]
theorem m_run {F : FT} {G : GT} (h : TM b T F G) {s : Nat} (h23 : F 23 = nI s) (hs : s < T) {Q : FT → GT → Int64 → Prop} : ∀ m j, T ≤ s + j + m → s + j ≤ T → mE b s Q F G (rn (fun i => iA (b i)) T m (s + j) - s) → wp_X8_go_177 Q (m + 1) (fl b s) (gl b s j) (sU (sU F 25 (nv b s j)) 22 (nI (s + j))) G (wv b s j) := by
  intro m
  have hT := h.2.1
  have hX : ∀ a i, TM b T (sU (sU F 25 a) 22 i) G := fun a i => ⟨by rw [sU_ne _ _ (by decide), sU_ne _ _ (by decide)]; exact h.1, h.2⟩
  have f23 : ∀ a i, (sU (sU F 25 a) 22 i) 23 = nI s := fun a i => by rw [sU_ne _ _ (by decide), sU_ne _ _ (by decide)]; exact h23
  have f25 : ∀ a i, (sU (sU F 25 a) 22 i) 25 = a := fun a i => by rw [sU_ne _ _ (by decide), sU_same]
  have sub : ∀ j, s + j ≤ T → nI (s + j) - nI s = nI j := fun j hj => by rw [pk_sub (by omega), Nat.add_sub_cancel_left]
  -- M stops here
  have stop : ∀ m j, s + j ≤ T → ¬ (s + j < T ∧ iA (b (s + j)) = true) → mE b s Q F G j → wp_X8_go_177 Q (m + 1) (fl b s) (gl b s j) (sU (sU F 25 (nv b s j)) 22 (nI (s + j))) G (wv b s j) := by
    intro m j hj hno hQ
    have hz : ∃ c, c < 256 ∧ (if s + j < T then nI (b (s + j)) else 0) = nI c ∧ iA c = false := by
      by_cases c : s + j < T
      · refine ⟨b (s + j), h.2.2.1 _, if_pos c, ?_⟩
        cases hh : iA (b (s + j)) with
        | false => rfl
        | true => exact absurd ⟨c, hh⟩ hno
      · exact ⟨0, by omega, if_neg c, rfl⟩
    obtain ⟨c, hc, hce, hca⟩ := hz
    have hcL : iL c = false := by simp only [iA, Bool.or_eq_false_iff] at hca; exact hca.1
    have hcD : iD c = false := by simp only [iA, Bool.or_eq_false_iff] at hca; exact hca.2
    rw [wp_X8_go_177, sU_same]
    refine m_byte (hX _ _) hj ?_
    rw [hce]
    refine m_let (by omega) ?_
    rw [hcL]
    refine ⟨fun q => absurd (by simp) q, fun _ => ?_⟩
    rw [sU_same]
    refine m_byte (hX _ _) hj ?_
    rw [hce]
    refine m_dig (by omega) ?_
    rw [hcD]
    refine ⟨fun _ => ⟨fun g0 F17 hF => ?_, fun g0 => ⟨fun f0 => ?_, fun f0 => ?_⟩⟩, fun q => absurd (by simp) q⟩
    · subst hF; exact hQ.1 g0
    · have f0' : iL (b s) = true := Decidable.byContradiction (fun q => f0 (fl_0.2 q))
      exact ⟨fun q => absurd q f0, fun _ F2 hF => by subst hF; exact (hQ.2 g0).1 f0'⟩
    · have f0' : ¬ iL (b s) = true := fl_0.1 f0
      rw [sU_same, f23, sub j hj]
      refine ⟨fun q => ⟨fun _ F1 hF => ?_, fun q' => absurd f0 q'⟩, fun q F1 hF => ?_⟩
      · subst hF; exact ((hQ.2 g0).2 f0').1 ((nI_leI (b := 3) (by omega) (by omega)).1 q)
      · subst hF; exact ((hQ.2 g0).2 f0').2 (fun z => q ((nI_leI (b := 3) (by omega) (by omega)).2 z))
  induction m with
  | zero =>
    intro j h1 h2 hQ
    rw [rn, show s + j - s = j by omega] at hQ
    exact stop 0 j h2 (fun q => by omega) hQ
  | succ m ih =>
    intro j h1 h2 hQ
    rw [rn] at hQ
    by_cases c : s + j < T ∧ iA (b (s + j)) = true
    · rw [if_pos c] at hQ
      have nx := ih (j + 1) (by omega) (by omega)
      rw [show s + (j + 1) = s + j + 1 by omega] at nx
      have nx := nx hQ
      have hb := h.2.2.1 (s + j)
      -- what is written at this byte
      have wr : ∀ g : Int32, g = gl b s (j + 1) → wp_X8_go_234 Q (fun x2 x3 F G w => wp_X8_go_177 Q (m + 1) x2 x3 F G w) (fl b s) (nI (b (s + j))) g (sU (sU F 25 (nv b s j)) 22 (nI (s + j))) G (wv b s j) := by
        intro g hg
        subst hg
        unfold wp_X8_go_234
        have k305 : ∀ w1 : Int64, w1 = wv b s (j + 1) → wp_X8_go_272 Q (fun x2 x3 F G w => wp_X8_go_177 Q (m + 1) x2 x3 F G w) (fl b s) (gl b s (j + 1)) (nI (b (s + j))) w1 (sU (sU F 25 (nv b s j)) 22 (nI (s + j))) G (wv b s j) := by
          intro w1 hw
          subst hw
          simp only [wp_X8_go_272, wp_X8_go_305, forall_eq, sU_same, f23, f25, sub j h2, show (3 : Int32) = nI 3 from rfl, nI_leI (show 3 < 2 ^ 31 by omega) (show j < 2 ^ 31 by omega), sU_i, nI_1]
          rw [nv] at nx
          refine ⟨fun q => ?_, fun q => ?_⟩
          · rw [if_pos q] at nx; exact nx
          · rw [if_neg q] at nx
            rw [sU_ne _ _ (show 22 ≠ 25 by decide), sU_same, nI_1, sU_4]; exact nx
        simp only [sU_same, f23, sub j h2, show (8 : Int32) = nI 8 from rfl, nI_leI (show 8 < 2 ^ 31 by omega) (show j < 2 ^ 31 by omega), forall_eq]
        refine ⟨fun q => k305 _ (by rw [wv, if_pos q]), fun q => k305 _ (by rw [wv, if_neg q])⟩
      have k205 : wp_X8_go_205 Q (fun x2 x3 F G w => wp_X8_go_177 Q (m + 1) x2 x3 F G w) (fl b s) (gl b s j) (sU (sU F 25 (nv b s j)) 22 (nI (s + j))) G (wv b s j) := by
        unfold wp_X8_go_205 wp_X8_go_233
        rw [sU_same, nI_clamp (by omega), h.2.2.2 (s + j) (by omega)]
        refine ⟨vp_in_nI (by omega) (by omega), fun g0 => wr 0 (gl_z g0).symm, fun g0 => m_let (by omega) ⟨fun q => wr 0 ((gl_n c.2 g0).2 q).symm, fun q => wr 1 ((gl_n c.2 g0).1 q).symm⟩⟩
      rw [wp_X8_go_177, sU_same]
      refine m_byte (hX _ _) h2 ?_
      rw [if_pos c.1]
      refine m_let (by omega) ?_
      by_cases cL : iL (b (s + j)) = true
      · rw [if_pos cL]
        exact ⟨fun _ => k205, fun q => absurd q (by decide)⟩
      · rw [if_neg cL]
        refine ⟨fun q => absurd rfl q, fun _ => ?_⟩
        rw [sU_same]
        refine m_byte (hX _ _) h2 ?_
        rw [if_pos c.1]
        refine m_dig (by omega) ?_
        have cD : iD (b (s + j)) = true := by
          have := c.2
          simp only [iA, Bool.or_eq_true] at this
          exact this.resolve_left cL
        rw [if_pos cD]
        exact ⟨fun q => absurd q (by decide), fun _ => k205⟩
    · rw [if_neg c, show s + j - s = j by omega] at hQ
      exact stop (m + 1) j h2 c hQ
end TOKM
