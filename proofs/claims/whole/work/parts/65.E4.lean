def bk (b : Nat → Nat) (T i : Nat) : Nat := rn (fun i => iB (b i)) T (T - i) i
def Lx (b : Nat → Nat) (T s : Nat) (F : FT) (w : Int64) : Prop := (T ≤ s → T ≤ 300 → F 24 = 0 ∧ F 23 = nI T) ∧ (300 < T → 300 ≤ s → F 24 = 1 ∧ F 23 = 300) ∧ (s < T → (T ≤ 300 ∨ s < 300) → F 24 = nI (tk b T s) ∧ F 23 = nI s ∧ F 22 = nI (pa b T s) ∧ (tk b T s = 3 → F 25 = nv b s (re b T s - s)) ∧ (tk b T s = 2 → w = wv b s (re b T s - s)))
section GO
variable {b : Nat → Nat} {T : Nat}
theorem bk_le {i : Nat} (h : i ≤ T) : i ≤ bk b T i ∧ bk b T i ≤ T := rn_le _ _ h
theorem rn_0 {f : Nat → Bool} {m i : Nat} (h : ¬ f i = true) : rn f T m i = i := by
  cases m with
  | zero => rfl
  | succ m => rw [rn, if_neg (fun q => h q.2)]
theorem rn_1 {f : Nat → Bool} {m i : Nat} (hi : i < T) (h : f i = true) : i < rn f T (m + 1) i := by
  rw [rn, if_pos ⟨hi, h⟩]
  have := (rn_le (f := f) (T := T) m (i + 1) (by omega)).1
  omega
theorem gl_0 {s : Nat} : gl b s 0 = 1 := by
  unfold gl
  simp only [nd, nl, ite_self, if_true]
theorem nd_1 {s : Nat} : ∀ L, 0 < L → ¬ iL (b s) = true → iA (b s) = true → 0 < nd b s L
  | 0, h, _, _ => absurd h (Nat.lt_irrefl 0)
  | L + 1, h, h1, h2 => by
    rw [nd]
    by_cases c : L = 0
    · subst c
      have : iD (b s) = true := by
        simp only [iA, Bool.or_eq_true] at h2
        exact h2.resolve_left h1
      rw [Nat.add_zero, if_pos this]; omega
    · have := nd_1 L (by omega) h1 h2
      omega
theorem nl_1 {s : Nat} : ∀ L, 0 < L → iL (b s) = true → 0 < nl b s L
  | 0, h, _ => absurd h (Nat.lt_irrefl 0)
  | L + 1, h, h1 => by
    rw [nl]
    by_cases c : L = 0
    · subst c
      rw [Nat.add_zero, if_pos h1]; omega
    · have := nl_1 L (by omega) h1
      omega
/-- M reads the token at s -/
theorem m_tok {F : FT} {G : GT} {w : Int64} (h : TM b T F G) {s : Nat} (h22 : F 22 = nI s) (h23 : F 23 = nI s) (hs : s < T) {Q : FT → GT → Int64 → Prop} (hQ : ∀ (F' : FT) (w' : Int64), F' 24 = nI (tk b T s) → F' 23 = nI s → F' 22 = nI (pa b T s) → (tk b T s = 3 → F' 25 = nv b s (re b T s - s)) → (tk b T s = 2 → w' = wv b s (re b T s - s)) → (∀ k, k < 22 ∨ 25 < k → F' k = F k) → Q F' G w') : wp_X8_go_93 Q F G w := by
  have hT := h.2.1
  have hb := h.2.2.1 s
  have r1 := re_le (b := b) (T := T) (s := s) (by omega)
  have r2 := re_eq (b := b) (T := T) (s := s) (by omega)
  have k160 : iA (b s) = true → wp_X8_go_160 Q (nI (b s)) F G w := by
    intro hA
    have hne : s < re b T s := by
      unfold re
      obtain ⟨d, hd⟩ : ∃ d, T - s = d + 1 := ⟨T - s - 1, by omega⟩
      rw [hd]
      exact rn_1 (f := fun i => iA (b i)) hs hA
    refine m_let (by omega) (fun w5 hw F6 hF => ?_)
    subst hw hF
    refine ⟨T - s + 1, ?_⟩
    have key := m_run h h23 hs (Q := Q) (T - s) 0 (by omega) (by omega)
    rw [Nat.add_zero, gl_0] at key
    have e1 : sU (sU F 25 (nv b s 0)) 22 (nI s) = sU F 25 0 := sU_e (by rw [sU_ne _ _ (by decide)]; exact h22)
    rw [e1] at key
    refine key ?_
    show mE b s Q F G (re b T s - s)
    have fin : ∀ z : Int32, z = nI (tk b T s) → Q (sU (sU (sU F 25 (nv b s (re b T s - s))) 22 (nI (s + (re b T s - s)))) 24 z) G (wv b s (re b T s - s)) := by
      intro z hz
      have e2 : s + (re b T s - s) = re b T s := by omega
      rw [e2]
      have e3 : pa b T s = re b T s := by unfold pa; rw [if_neg (by omega)]
      refine hQ _ _ (by rw [sU_same]; exact hz) ?_ ?_ (fun _ => ?_) (fun _ => rfl) (fun k hk => ?_)
      · rw [sU_ne _ _ (by decide), sU_ne _ _ (by decide), sU_ne _ _ (by decide)]; exact h23
      · rw [sU_ne _ _ (by decide), sU_same, e3]
      · rw [sU_ne _ _ (by decide), sU_ne _ _ (by decide), sU_same]
      · rw [sU_ne _ _ (by omega), sU_ne _ _ (by omega), sU_ne _ _ (by omega)]
    have tke : tk b T s = if nd b s (re b T s - s) = 0 then 2 else if nl b s (re b T s - s) = 0 ∧ re b T s - s ≤ 3 then 3 else 1 := by
      unfold tk; rw [if_neg (by omega)]
    unfold mE
    by_cases c0 : iL (b s) = true
    · have hnl := nl_1 (b := b) (s := s) (re b T s - s) (by omega) c0
      refine ⟨fun g => fin 1 ?_, fun g => ⟨fun _ => fin 2 ?_, fun q => absurd c0 q⟩⟩
      · have z : ¬ nd b s (re b T s - s) = 0 := fun q => by simp only [gl, if_pos c0, if_pos q] at g; exact absurd g (by decide)
        rw [tke, if_neg z, if_neg (fun q => by omega)]; rfl
      · have z : nd b s (re b T s - s) = 0 := Decidable.byContradiction (fun q => g (by simp only [gl, if_pos c0, if_neg q]))
        rw [tke, if_pos z]; rfl
    · have hnd := nd_1 (b := b) (s := s) (re b T s - s) (by omega) c0 hA
      refine ⟨fun g => fin 1 ?_, fun g => ⟨fun q => absurd q c0, fun _ => ⟨fun q => fin 3 ?_, fun q => fin 1 ?_⟩⟩⟩
      · have z : ¬ nl b s (re b T s - s) = 0 := fun q => by simp only [gl, if_neg c0, if_pos q] at g; exact absurd g (by decide)
        rw [tke, if_neg (by omega), if_neg (fun q => z q.1)]; rfl
      · have z : nl b s (re b T s - s) = 0 := Decidable.byContradiction (fun q' => g (by simp only [gl, if_neg c0, if_neg q']))
        rw [tke, if_neg (by omega), if_pos ⟨z, q⟩]; rfl
      · rw [tke, if_neg (by omega), if_neg (fun q' => q q'.2)]; rfl
  unfold wp_X8_go_93
  rw [h22, h.1, nI_clamp (by omega), h.2.2.2 s (by omega)]
  refine ⟨fun _ => ⟨vp_in_nI (by omega) (by omega), m_let (by omega) ?_⟩, fun q => absurd (nI_lt hs (by omega)) q⟩
  by_cases c0 : iL (b s) = true
  · rw [if_pos c0]
    exact ⟨fun _ => k160 (by simp only [iA, c0]; rfl), fun q => absurd q (by decide)⟩
  · rw [if_neg c0]
    refine ⟨fun q => absurd rfl q, fun _ => m_dig (by omega) ?_⟩
    by_cases c1 : iD (b s) = true
    · rw [if_pos c1]
      exact ⟨fun _ => k160 (by simp only [iA, c1, Bool.or_true]), fun q => absurd q (by decide)⟩
    · rw [if_neg c1]
      refine ⟨fun q => absurd rfl q, fun _ => ?_⟩
      have hr : re b T s = s := rn_0 (f := fun i => iA (b i)) (by
        show ¬ iA (b s) = true
        simp only [iA, Bool.or_eq_true]; exact fun q => q.elim c0 c1)
      have tke : tk b T s = if b s = 59 then 4 else 1 := by unfold tk; rw [if_pos hr]
      have pae : pa b T s = s + 1 := by unfold pa; rw [if_pos hr]
      have fin : ∀ z : Int32, z = nI (tk b T s) → tk b T s ≠ 3 → tk b T s ≠ 2 → wp_X8_go_146 Q z F G w := by
        intro z hz n3 n2 F1 hF1 F2 hF2
        subst hF1 hF2
        refine hQ _ _ ?_ ?_ ?_ (fun q => absurd q n3) (fun q => absurd q n2) (fun k hk => ?_)
        · rw [sU_ne _ _ (by decide), sU_same]; exact hz
        · rw [sU_ne _ _ (by decide), sU_ne _ _ (by decide)]; exact h23
        · rw [sU_same, sU_ne _ _ (by decide), h22, pae]
          show nI s + 1 = nI (s + 1)
          exact nI_1 s
        · rw [sU_ne _ _ (by omega), sU_ne _ _ (by omega)]
      rw [show (59 : Int32) = nI 59 from rfl, b_eq hb (show 59 < 256 by omega)]
      refine ⟨fun q => fin 1 ?_ ?_ ?_, fun q => fin 4 ?_ ?_ ?_⟩
      · rw [tke, if_neg q]; rfl
      · rw [tke, if_neg q]; omega
      · rw [tke, if_neg q]; omega
      · rw [tke, if_pos q]; rfl
      · rw [tke, if_pos q]; omega
      · rw [tke, if_pos q]; omega
theorem m_go {F : FT} {G : GT} {w : Int64} (h : TM b T F G) {i : Nat} (h22 : F 22 = nI i) (hi : i ≤ T) {Q : FT → GT → Int64 → Prop} (hQ : ∀ (F' : FT) (w' : Int64), Lx b T (bk b T i) F' w' → (∀ k, k < 22 ∨ 25 < k → F' k = F k) → Q F' G w') : wp_X8_go F G w Q := by
  have hT := h.2.1
  refine ⟨T - i + 1, ?_⟩
  have hsk := m_skip (w := w) h (Q := Q) (T - i) i (by omega) hi
  rw [sU_e h22] at hsk
  refine hsk ?_
  show wp_X8_go_52 Q (sU F 22 (nI (bk b T i))) G w
  have hs := bk_le (b := b) (T := T) hi
  obtain ⟨s, hse⟩ : ∃ s, s = bk b T i := ⟨_, rfl⟩
  rw [← hse] at hs hQ ⊢
  intro F1 hF1
  rw [sU_same] at hF1
  subst hF1
  have h21 : sU (sU F 22 (nI s)) 23 (nI s) 21 = nI T := by rw [sU_ne _ _ (by decide), sU_ne _ _ (by decide)]; exact h.1
  have h22' : sU (sU F 22 (nI s)) 23 (nI s) 22 = nI s := by rw [sU_ne _ _ (by decide), sU_same]
  have go93 : (T ≤ 300 ∨ s < 300) → wp_X8_go_93 Q (sU (sU F 22 (nI s)) 23 (nI s)) G w := by
    intro hc
    by_cases c : s < T
    · refine m_tok (⟨h21, h.2⟩ : TM b T _ G) h22' (sU_same _ _ _) c (fun F' w' a1 a2 a3 a4 a5 a6 => hQ F' w' ⟨fun q => by omega, fun q q' => by omega, fun _ _ => ⟨a1, a2, a3, a4, a5⟩⟩ (fun k hk => ?_))
      rw [a6 k hk, sU_ne _ _ (by omega), sU_ne _ _ (by omega)]
    · unfold wp_X8_go_93
      rw [h22', h21]
      refine ⟨fun q => absurd q (nI_nlt (by omega) (by omega)), fun _ F9 hF => ?_⟩
      subst hF
      refine hQ _ _ ⟨fun _ _ => ⟨sU_same _ _ _, ?_⟩, fun q q' => by omega, fun q => by omega⟩ (fun k hk => ?_)
      · rw [sU_ne _ _ (by decide), sU_same, show s = T by omega]
      · rw [sU_ne _ _ (by omega), sU_ne _ _ (by omega), sU_ne _ _ (by omega)]
  rw [h21, sU_same]
  refine ⟨fun q => go93 (.inl ((nI_leI (b := 300) (by omega) (by omega)).1 q)), fun q => ⟨fun q' => go93 (.inr ((nI_ltI (b := 300) (by omega) (by omega)).1 q')), fun q' F2 hF2 F3 hF3 => ?_⟩⟩
  subst hF2 hF3
  have t1 : 300 < T := Decidable.byContradiction (fun z => q (le_ya (a := 300) (by omega) (by omega)))
  have t2 : 300 ≤ s := Decidable.byContradiction (fun z => q' (nI_lt (b := 300) (by omega) (by omega)))
  refine hQ _ _ ⟨fun q q' => by omega, fun _ _ => ⟨sU_same _ _ _, ?_⟩, fun q q' => by omega⟩ (fun k hk => ?_)
  · rw [sU_ne _ _ (by decide), sU_same]
  · rw [sU_ne _ _ (by omega), sU_ne _ _ (by omega), sU_ne _ _ (by omega), sU_ne _ _ (by omega)]
end GO
