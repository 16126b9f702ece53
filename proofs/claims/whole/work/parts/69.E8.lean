section SIMUL
variable {b : Nat → Nat} {T : Nat}
def MS (b : Nat → Nat) (T : Nat) (FM0 : FT) (GM0 : GT) (FM : FT) (GM : GT) (w : Int64) (s t : Nat) : Prop := TM b T FM GM ∧ Lx b T s FM w ∧ FM 27 = nI t ∧ (∀ k, k < 21 → FM k = FM0 k) ∧ (∀ k, k ≠ 51 → GM k = GM0 k) ∧ (∀ i, i < 42 → GM 51 i = GM0 51 i)
def HY (l : Nat) (FM0 : FT) (GM0 : GT) (F' : FT) (G' : GT) (P : Int32 → FT → GT → Int64 → Prop) : Prop :=
  (F' 11 = 0 → ∀ (FM' : FT) (GM' : GT) (w' : Int64), (∀ k, k < 21 → FM' k = FM0 k) → (∀ k, k ≠ 51 → GM' k = GM0 k) → (∀ i, i < 42 → GM' 51 i = GM0 51 i) → (∀ k, k < 14 → GM' 51 (42 + k) = G' 41 k) → ∃ n, wp_X8_law_110 P n (nI l) (F' 10) 0 FM' GM' w') ∧
  (¬ F' 11 = 0 → ∀ (FM' : FT) (GM' : GT) (w' : Int64), (∀ k, k < 21 → k ≠ 1 → FM' k = FM0 k) → FM' 1 = F' 11 → (∀ k, k ≠ 51 → GM' k = GM0 k) → (∀ i, i < 42 → GM' 51 i = GM0 51 i) → P (-1 - F' 12) FM' GM' w')
def XF (F0 : FT) (G0 : GT) (F' : FT) (G' : GT) : Prop := (∀ k, k < 10 ∨ 16 < k → F' k = F0 k) ∧ (∀ k, k ≠ 41 → k ≠ 42 → G' k = G0 k) ∧ (∀ k, k < 14 → bd (G' 41 k) 999)
theorem HY.bad {l : Nat} {FM0 : FT} {GM0 : GT} {F' : FT} {G' : GT} {P : Int32 → FT → GT → Int64 → Prop} (h : HY l FM0 GM0 F' G' P) {FM : FT} {GM : GT} {w : Int64} {r pl : Int32} (h11 : F' 11 = r) (hr : ¬ r = 0) (h12 : F' 12 = pl) (m1 : ∀ k, k < 21 → FM k = FM0 k) (m2 : ∀ k, k ≠ 51 → GM k = GM0 k) (m3 : ∀ i, i < 42 → GM 51 i = GM0 51 i) : P (-1 - pl) (sU (sU FM 1 r) 26 pl) GM w := by
  have := h.2 (by rw [h11]; exact hr) (sU (sU FM 1 r) 26 pl) GM w (fun k hk h1 => by rw [sU_ne _ _ (by omega), sU_ne _ _ h1]; exact m1 k hk) (by rw [sU_ne _ _ (by decide), sU_same, h11]) m2 m3
  rw [h12] at this
  exact this
/-- M goes on to the next token -/
theorem MS.go {FM0 : FT} {GM0 : GT} {FM : FT} {GM : GT} {w : Int64} {i t : Nat} (hTM : TM b T FM GM) (h22 : FM 22 = nI i) (hi : i ≤ T) (h27 : FM 27 = nI t) (m1 : ∀ k, k < 21 → FM k = FM0 k) (m2 : ∀ k, k ≠ 51 → GM k = GM0 k) (m3 : ∀ i, i < 42 → GM 51 i = GM0 51 i) {Q : FT → GT → Int64 → Prop} (hQ : ∀ (FM2 : FT) (w2 : Int64), MS b T FM0 GM0 FM2 GM w2 (bk b T i) t → Q FM2 GM w2) : wp_X8_go FM GM w Q :=
  m_go hTM h22 hi (fun F' w' h1 h2 => hQ F' w' ⟨⟨(h2 21 (by omega)).trans hTM.1, hTM.2⟩, h1, (h2 27 (by omega)).trans h27, fun k hk => (h2 k (by omega)).trans (m1 k hk), m2, m3⟩)
theorem told_e {t k : Nat} : (if t.testBit k = true then (1 : Int32) else 0) = 0 ↔ ¬ t.testBit k = true := by
  split
  · rename_i h; exact ⟨fun q => absurd q (by decide), fun q => absurd h q⟩
  · rename_i h; exact ⟨fun _ => h, fun _ => rfl⟩
theorem told_u {g : Nat → Int32} {t sl : Nat} (h : ∀ k, k < 14 → g k = if t.testBit k = true then 1 else 0) : ∀ k, k < 14 → upd g sl 1 k = if (t ||| 2 ^ sl).testBit k = true then 1 else 0 := by
  intro k hk
  rw [upd_e, Nat.testBit_or, Nat.testBit_two_pow]
  by_cases e : k = sl
  · rw [if_pos e, e]; simp
  · rw [if_neg e, h k hk]
    have : decide (sl = k) = false := by simp; omega
    rw [this, Bool.or_false]
theorem tell {F : FT} {G : GT} {sl t : Nat} (hsl : sl < 14) (h14 : F 14 = nI sl) (ht : ∀ k, k < 14 → G 42 k = if t.testBit k = true then 1 else 0) {Q : Int32 → FT → GT → Prop} (hy : ¬ t.testBit sl = true → Q 0 (sU F 13 2) (gU G 42 (upd (G 42) sl 1))) (hn : t.testBit sl = true → Q 3 F G) : wp_X3_tellOnce F G Q := by
  unfold wp_X3_tellOnce wp_X3_tellOnce_0
  rw [h14, nI_clamp (by omega), ht sl hsl, told_e, nb1]
  refine ⟨vp_in_nI hsl (by omega), fun q => ⟨vp_in_nI hsl (by omega), fun G1 h1 F2 h2 => ?_⟩, fun q => hn (Decidable.byContradiction q)⟩
  subst h1 h2
  exact hy q
/-- M at a word -/
theorem m_rr {FM : FT} {GM : GT} {w : Int64} {s L : Nat} (h24 : FM 24 = 2) (hw : w = wv b s L) (hL : 0 < L) (hlet : ∀ i, i < L → 97 ≤ b (s + i) ∧ b (s + i) ≤ 122) {R : Int32 → FT → GT → Int64 → Prop} (h0 : Sp0 b s L → wp_X8_readRule_80 R (nI 0) FM GM w) (h1 : ¬ Sp0 b s L → Sp1 b s L → wp_X8_readRule_80 R (nI 1) FM GM w) (h2 : ¬ Sp0 b s L → ¬ Sp1 b s L → Sp2 b s L → wp_X8_readRule_80 R (nI 2) FM GM w) (h3 : ¬ Sp0 b s L → ¬ Sp1 b s L → ¬ Sp2 b s L → Sp3 b s L → wp_X8_readRule_80 R (nI 8) FM GM w) (h4 : ¬ Sp0 b s L → ¬ Sp1 b s L → ¬ Sp2 b s L → ¬ Sp3 b s L → wp_X8_bad 1 FM GM w (fun r F G w => R r F G w)) : wp_X8_readRule_0 R FM GM w := by
  have k0 : w = 404931 ↔ Sp0 b s L := by rw [hw]; exact wd_0 hlet hL
  have k1 : w = 307058 ↔ Sp1 b s L := by rw [hw]; exact wd_1 hlet hL
  have k2 : w = 80155 ↔ Sp2 b s L := by rw [hw]; exact wd_2 hlet hL
  have k3 : w = 8934941513 ↔ Sp3 b s L := by rw [hw]; exact wd_3 hlet hL
  have a0 : Sp0 b s L → ∀ x y : Int32, wp_X8_readRule_50 R 1 x y 0 FM GM w := fun q x y => ⟨fun _ => h0 q, fun z => absurd z (by decide)⟩
  have a1 : ¬ Sp0 b s L → Sp1 b s L → ∀ y : Int32, wp_X8_readRule_50 R 0 1 y 1 FM GM w := fun q q' y => ⟨fun z => absurd rfl z, fun _ => ⟨fun _ => h1 q q', fun z => absurd z (by decide)⟩⟩
  have a2 : ¬ Sp0 b s L → ¬ Sp1 b s L → Sp2 b s L → wp_X8_readRule_50 R 0 0 1 2 FM GM w := fun q q' q'' => ⟨fun z => absurd rfl z, fun _ => ⟨fun z => absurd rfl z, fun _ => ⟨fun _ => h2 q q' q'', fun z => absurd z (by decide)⟩⟩⟩
  have a3 : ¬ Sp0 b s L → ¬ Sp1 b s L → ¬ Sp2 b s L → wp_X8_readRule_50 R 0 0 0 8 FM GM w := fun q q' q'' => ⟨fun z => absurd rfl z, fun _ => ⟨fun z => absurd rfl z, fun _ => ⟨fun z => absurd rfl z, fun _ => m_key h24 k3 (fun y => ⟨fun _ => h3 q q' q'' y, fun z => absurd z (by decide)⟩) (fun y => ⟨fun z => absurd rfl z, fun _ => h4 q q' q'' y⟩)⟩⟩⟩
  unfold wp_X8_readRule_0
  refine m_key h24 k0 (fun y0 => ?_) (fun n0 => ?_)
  · refine m_key h24 k1 (fun y1 => ?_) (fun n1 => ?_)
    · refine m_key h24 k2 (fun y2 => ?_) (fun n2 => ?_)
      · exact ⟨fun z => absurd z (by decide), fun _ => a0 y0 _ _⟩
      · exact ⟨fun z => absurd z (by decide), fun _ => a0 y0 _ _⟩
    · refine m_key h24 k2 (fun y2 => ?_) (fun n2 => ?_)
      · exact ⟨fun z => absurd z (by decide), fun _ => a0 y0 _ _⟩
      · exact ⟨fun z => absurd z (by decide), fun _ => a0 y0 _ _⟩
  · refine m_key h24 k1 (fun y1 => ?_) (fun n1 => ?_)
    · refine m_key h24 k2 (fun y2 => ?_) (fun n2 => ?_)
      · exact ⟨fun _ => ⟨fun z => absurd z (by decide), fun _ => a1 n0 y1 _⟩, fun z => absurd rfl z⟩
      · exact ⟨fun _ => ⟨fun z => absurd z (by decide), fun _ => a1 n0 y1 _⟩, fun z => absurd rfl z⟩
    · refine m_key h24 k2 (fun y2 => ?_) (fun n2 => ?_)
      · exact ⟨fun _ => ⟨fun _ => ⟨fun z => absurd z (by decide), fun _ => a2 n0 n1 y2⟩, fun z => absurd rfl z⟩, fun z => absurd rfl z⟩
      · exact ⟨fun _ => ⟨fun _ => ⟨fun _ => a3 n0 n1 n2, fun z => absurd rfl z⟩, fun z => absurd rfl z⟩, fun z => absurd rfl z⟩
theorem nI_lt0 : ∀ k, k < 2 → ¬ (2 : Int32) ≤ nI k ∧ nI k < 2 := by decide
set_option maxHeartbeats 8000000 in
theorem sim {l lim : Nat} {F0 : FT} {G0 : GT} {FM0 : FT} {GM0 : GT} (hT : T ≤ 320) (hlim : lim = if 300 < T then 300 else T) : ∀ (n aw sl ru s x3 t : Nat) (F : FT) (G : GT), 1 ≤ n → lim < s + n → s ≤ T → x3 ≤ s → 1 ≤ aw ∧ aw ≤ 4 → (aw = 2 → sl < 14) → (aw = 4 → sl = 2 ∨ sl = 8) → t < 2 ^ 14 → XS b T F0 G0 F G s aw sl ru → (∀ k, k < 14 → bd (G 41 k) 999) → (∀ k, k < 14 → G 42 k = if (if aw = 2 then t ||| 2 ^ sl else t).testBit k = true then 1 else 0) → ∀ Q : FT → GT → Prop, (∀ (F' : FT) (G' : GT), XF F0 G0 F' G' → (∀ (m : Nat) (FM : FT) (GM : GT) (w : Int64) (P : Int32 → FT → GT → Int64 → Prop), n ≤ m → MS b T FM0 GM0 FM GM w s t → (∀ k, k < 14 → GM 51 (42 + k) = G 41 k) → HY l FM0 GM0 F' G' P → MC l aw sl ru P m FM GM w) → Q F' G') → wp_X3_readAll_22 Q n (nI lim) (nI x3) F G := by
  have hl3 : lim ≤ 300 ∧ lim ≤ T := by rw [hlim]; split <;> omega
  intro n
  induction n with
  | zero => intro aw sl ru s x3 t F G h1; omega
  | succ n ih =>
    intro aw sl ru s x3 t F G _ hn hsT hx haw hsl2 hsl4 ht hXS hbd htold Q hQ
    obtain ⟨hTX, h15, h13, h14, h10, h11, fF, fG⟩ := id hXS
    by_cases hs : s < lim
    case neg =>
      refine x_end hT hTX.1 hlim (by omega) hsT h15 h11 (fun t300 a1 => ?_) (fun hbad => ?_)
      · have e1 : aw = 1 := (nI_eq (b := 1) (by omega) (by omega)).1 (h13.symm.trans a1)
        subst e1
        refine hQ F G ⟨fF, fG, hbd⟩ (fun m FM GM w P hm hMS hRN hHY => ⟨fun _ => ?_, fun e => by omega, fun e => by omega, fun e => by omega⟩)
        obtain ⟨m', rfl⟩ : ∃ m', m = m' + 1 := ⟨m - 1, by omega⟩
        have hsT' : T ≤ s := by rw [hlim, if_neg (by omega)] at hs; omega
        rw [wp_X8_law_77]
        refine ⟨fun _ => ?_, fun q => absurd (hMS.2.1.1 hsT' t300).1 q⟩
        have := hHY.1 h11 FM GM w hMS.2.2.2.1 hMS.2.2.2.2.1 hMS.2.2.2.2.2 hRN
        rw [h10] at this
        exact this
      · refine hQ _ G ⟨fun k hk => by rw [sU_ne _ _ (by omega), sU_ne _ _ (by omega)]; exact fF k hk, fG, hbd⟩ (fun m FM GM w P hm hMS hRN hHY => ?_)
        obtain ⟨m', rfl⟩ : ∃ m', m = m' + 1 := ⟨m - 1, by omega⟩
        have hP := hHY.bad (FM := FM) (GM := GM) (w := w) (r := 1) (pl := nI lim) (by rw [sU_ne _ _ (by decide), sU_same]) (by decide) (sU_same _ _ _) hMS.2.2.2.1 hMS.2.2.2.2.1 hMS.2.2.2.2.2
        by_cases c300 : 300 < T
        · have e : lim = 300 := by rw [hlim, if_pos c300]
          obtain ⟨k1, k2⟩ := hMS.2.1.2.1 c300 (by omega)
          rw [e] at hP
          refine MC_bad (c := 1) haw k1 (by omega) (fun _ => by omega) (fun _ => by omega) (fun _ => by omega) (fun _ => by omega) ?_
          rw [k2]; exact hP
        · have e : lim = T := by rw [hlim, if_neg c300]
          obtain ⟨k1, k2⟩ := hMS.2.1.1 (by omega) (by omega)
          have naw : aw ≠ 1 := fun q => (hbad.resolve_left c300) (by rw [h13, q]; rfl)
          rw [e] at hP
          refine MC_bad (c := 0) haw k1 (by omega) (fun q => absurd q naw) (fun _ => by omega) (fun _ => by omega) (fun _ => by omega) ?_
          rw [k2]; exact hP
    case pos =>
    have hsT' : s < T := by omega
    have hcut : T ≤ 300 ∨ s < 300 := by omega
    have hp := pa_gt (b := b) (T := T) (s := s) hsT'
    have hs' := bk_le (b := b) (T := T) (i := pa b T s) hp.2
    obtain ⟨tk1, tk4⟩ := tk_14 (b := b) (T := T) (s := s)
    have hTX1 : TX b T (sU F 16 (nI (pa b T s))) G := ⟨by rw [sU_ne _ _ (by decide)]; exact hTX.1, hTX.2⟩
    have f1 : ∀ k, k ≠ 16 → sU F 16 (nI (pa b T s)) k = F k := fun k hk => sU_ne _ _ hk
    -- X finds fault
    have flt : ∀ (r : Int32) (F4 : FT), ¬ r = 0 → (∀ Q' : Int32 → FT → GT → Prop, Q' r F4 G → wp_X3_takeToken (nI (tk b T s - 1)) (sU F 16 (nI (pa b T s))) G Q') → F4 15 = nI s → F4 16 = nI (pa b T s) → (∀ k, k < 10 ∨ 16 < k → F4 k = F0 k) → F4 2 = nI T → (∀ (m : Nat) (FM : FT) (GM : GT) (w : Int64) (P : Int32 → FT → GT → Int64 → Prop), n + 1 ≤ m → MS b T FM0 GM0 FM GM w s t → P (-1 - nI s) (sU (sU FM 1 r) 26 (nI s)) GM w → MC l aw sl ru P m FM GM w) → wp_X3_readAll_22 Q (n + 1) (nI lim) (nI x3) F G := by
      intro r F4 hr hk f15 f16 fr f2 hM
      obtain ⟨n', rfl⟩ : ∃ n', n = n' + 1 := ⟨n - 1, by omega⟩
      refine x_step hTX hl3.2 hl3.1 hs (by omega) h11 h15 (⟨f2, hTX.2⟩ : TX b T F4 G) f15 f16 hk (x_fault ?_ (hQ _ G ⟨fun k hk => ?_, fG, hbd⟩ (fun m FM GM w P hm hMS hRN hHY => hM m FM GM w P hm hMS ?_)))
      · rw [sU_ne _ _ (by decide), sU_ne _ _ (by decide), sU_same]; exact hr
      · rw [sU_ne _ _ (by omega), sU_ne _ _ (by omega), sU_ne _ _ (by omega)]; exact fr k hk
      · refine hHY.bad ?_ hr ?_ hMS.2.2.2.1 hMS.2.2.2.2.1 hMS.2.2.2.2.2
        · rw [sU_ne _ _ (by decide), sU_ne _ _ (by decide), sU_same]
        · rw [sU_ne _ _ (by decide), sU_same]
    -- not what is awaited
    have odd : (aw = 1 → tk b T s ≠ 2) → (aw = 2 → tk b T s ≠ 3) → (aw = 3 → tk b T s ≠ 4) → (aw = 4 → tk b T s ≠ 3) → wp_X3_readAll_22 Q (n + 1) (nI lim) (nI x3) F G := by
      intro o1 o2 o3 o4
      have hne : ∀ k, k < 4 → tk b T s - 1 ≠ k → nI (tk b T s - 1) ≠ nI k := fun k hk q z => q ((nI_eq (by omega) (by omega)).1 z)
      refine flt 1 (sU F 16 (nI (pa b T s))) (by decide) (fun Q' hQ' => tk_n (aw := aw) (by rw [f1 13 (by decide)]; exact h13) haw.2 (fun e => hne 1 (by omega) (by have := o1 e; omega)) (fun e => hne 2 (by omega) (by have := o2 e; omega)) (fun e => hne 3 (by omega) (by have := o3 e; omega)) (fun e => hne 2 (by omega) (by have := o4 e; omega)) (by omega) hQ') (by rw [f1 15 (by decide)]; exact h15) (sU_same _ _ _) (fun k hk => by rw [f1 k (by omega)]; exact fF k hk) hTX1.1 (fun m FM GM w P hm hMS hP => ?_)
      obtain ⟨m', rfl⟩ : ∃ m', m = m' + 1 := ⟨m - 1, by omega⟩
      obtain ⟨k1, k2, k3, k4, k5⟩ := hMS.2.1.2.2 hsT' hcut
      refine MC_bad (c := tk b T s) haw k1 tk4 (fun e => ⟨by omega, o1 e⟩) o2 o3 o4 ?_
      rw [k2]; exact hP
    -- X goes on
    have nxt : ∀ (aw' sl' ru' t' : Nat) (F4 : FT) (G4 : GT), (∀ Q' : Int32 → FT → GT → Prop, Q' 0 F4 G4 → wp_X3_takeToken (nI (tk b T s - 1)) (sU F 16 (nI (pa b T s))) G Q') → F4 15 = nI s → F4 16 = nI (pa b T s) → (∀ k, k < 10 ∨ 16 < k → F4 k = F0 k) → F4 2 = nI T → F4 13 = nI aw' → F4 14 = nI sl' → F4 10 = nI ru' → (∀ k, k ≠ 41 → k ≠ 42 → G4 k = G0 k) → 1 ≤ aw' ∧ aw' ≤ 4 → (aw' = 2 → sl' < 14) → (aw' = 4 → sl' = 2 ∨ sl' = 8) → t' < 2 ^ 14 → (∀ k, k < 14 → bd (G4 41 k) 999) → (∀ k, k < 14 → G4 42 k = if (if aw' = 2 then t' ||| 2 ^ sl' else t').testBit k = true then 1 else 0) → (∀ (m : Nat) (FM : FT) (GM : GT) (w : Int64) (P : Int32 → FT → GT → Int64 → Prop), n + 1 ≤ m → MS b T FM0 GM0 FM GM w s t → (∀ k, k < 14 → GM 51 (42 + k) = G 41 k) → (∀ (m2 : Nat) (FM2 : FT) (GM2 : GT) (w2 : Int64), n ≤ m2 → MS b T FM0 GM0 FM2 GM2 w2 (bk b T (pa b T s)) t' → (∀ k, k < 14 → GM2 51 (42 + k) = G4 41 k) → MC l aw' sl' ru' P m2 FM2 GM2 w2) → MC l aw sl ru P m FM GM w) → wp_X3_readAll_22 Q (n + 1) (nI lim) (nI x3) F G := by
      intro aw' sl' ru' t' F4 G4 hk f15 f16 fr f2 f13 f14 f10 gr haw' hsl2' hsl4' ht' hbd' htold' hM
      have hTX4 : TX b T F4 G4 := ⟨f2, hTX.2.1, hTX.2.2.1, fun i hi => by rw [gr 40 (by decide) (by decide), ← fG 40 (by decide) (by decide)]; exact hTX.2.2.2 i hi⟩
      refine x_step hTX hl3.2 hl3.1 hs (by omega) h11 h15 hTX4 f15 f16 hk ?_
      refine ih aw' sl' ru' (bk b T (pa b T s)) (x3 + 1) t' _ G4 (by omega) (by omega) hs'.2 (by omega) haw' hsl2' hsl4' ht' ⟨⟨?_, hTX4.2⟩, sU_same _ _ _, ?_, ?_, ?_, ?_, fun k hk => ?_, gr⟩ hbd' htold' Q (fun F' G' hXF hR => hQ F' G' hXF (fun m FM GM w P hm hMS hRN hHY => hM m FM GM w P hm hMS hRN (fun m2 FM2 GM2 w2 hm2 hMS2 hRN2 => hR m2 FM2 GM2 w2 P hm2 hMS2 hRN2 hHY)))
      · rw [sU_ne _ _ (by decide), sU_ne _ _ (by decide), sU_ne _ _ (by decide)]; exact f2
      · rw [sU_ne _ _ (by decide), sU_ne _ _ (by decide), sU_ne _ _ (by decide)]; exact f13
      · rw [sU_ne _ _ (by decide), sU_ne _ _ (by decide), sU_ne _ _ (by decide)]; exact f14
      · rw [sU_ne _ _ (by decide), sU_ne _ _ (by decide), sU_ne _ _ (by decide)]; exact f10
      · rw [sU_ne _ _ (by decide), sU_ne _ _ (by decide), sU_same]
      · rw [sU_ne _ _ (by omega), sU_ne _ _ (by omega), sU_ne _ _ (by omega)]; exact fr k hk
    have re' : tk b T s = 2 ∨ tk b T s = 3 → pa b T s = re b T s ∧ s < re b T s ∧ re b T s ≤ T := by
      intro h
      have r1 := re_le (b := b) (T := T) (s := s) (by omega)
      have : s ≠ re b T s := by
        rcases h with h | h
        · exact (tk_2 h).1
        · exact (tk_3 h).1
      unfold pa
      rw [if_neg (fun q => this q.symm)]
      omega
    have F15 : sU F 16 (nI (pa b T s)) 15 = nI s := by rw [f1 15 (by decide)]; exact h15
    have F16 : sU F 16 (nI (pa b T s)) 16 = nI (pa b T s) := sU_same _ _ _
    have F13 : sU F 16 (nI (pa b T s)) 13 = nI aw := by rw [f1 13 (by decide)]; exact h13
    have F14 : sU F 16 (nI (pa b T s)) 14 = nI sl := by rw [f1 14 (by decide)]; exact h14
    have F10 : sU F 16 (nI (pa b T s)) 10 = nI ru := by rw [f1 10 (by decide)]; exact h10
    have F2 : sU F 16 (nI (pa b T s)) 2 = nI T := hTX1.1
    have Ffr : ∀ k, k < 10 ∨ 16 < k → sU F 16 (nI (pa b T s)) k = F0 k := fun k hk => by rw [f1 k (by omega)]; exact fF k hk
    obtain ⟨F1, hF1⟩ : ∃ F1, F1 = sU F 16 (nI (pa b T s)) := ⟨_, rfl⟩
    rw [← hF1] at F15 F16 F13 F14 F10 F2 Ffr flt nxt hTX1
    rcases (by omega : aw = 1 ∨ aw = 2 ∨ aw = 3 ∨ aw = 4) with e | e | e | e
    · -- a word
      subst e
      by_cases c : tk b T s = 2
      case neg => exact odd (fun _ => c) (fun q => by omega) (fun q => by omega) (fun q => by omega)
      obtain ⟨ep, es, eT⟩ := re' (.inl c)
      obtain ⟨_, hlet⟩ := tk_2 c
      simp only [show ¬ (1 : Nat) = 2 by decide, if_false] at htold
      have hL : 0 < re b T s - s := by omega
      -- X's token
      have X1 : ∀ Q' : Int32 → FT → GT → Prop, wp_X3_slotOfWord F1 G (fun r3 F1 G2 => wp_X3_takeWord r3 F1 G2 (fun r6 F4 G5 => Q' r6 F4 G5)) → wp_X3_takeToken (nI (tk b T s - 1)) F1 G Q' := by
        intro Q' h
        unfold wp_X3_takeToken wp_X3_takeToken_0
        rw [F13, c]
        simp +decide only [not_true_eq_false, not_false_eq_true, false_implies, true_implies, and_true, true_and, true_or, or_true, ne_eq]
        exact h
      have slot : ∀ Q' : Int32 → FT → GT → Prop, (Sp0 b s (re b T s - s) → Q' 0 F1 G) → (¬ Sp0 b s (re b T s - s) → Sp1 b s (re b T s - s) → Q' 1 F1 G) → (¬ Sp0 b s (re b T s - s) → ¬ Sp1 b s (re b T s - s) → Sp2 b s (re b T s - s) → Q' 2 F1 G) → (¬ Sp0 b s (re b T s - s) → ¬ Sp1 b s (re b T s - s) → ¬ Sp2 b s (re b T s - s) → Sp3 b s (re b T s - s) → Q' 8 F1 G) → (¬ Sp0 b s (re b T s - s) → ¬ Sp1 b s (re b T s - s) → ¬ Sp2 b s (re b T s - s) → ¬ Sp3 b s (re b T s - s) → Q' (-1) F1 G) → wp_X3_slotOfWord F1 G Q' := fun Q' h0 h1 h2 h3 h4 => x_slot hTX1 F15 (by rw [F16, ep]) (by omega) eT h0 h1 h2 h3 h4
      -- M's token
      have M1 : ∀ (m : Nat) (FM : FT) (GM : GT) (w : Int64) (P : Int32 → FT → GT → Int64 → Prop), MS b T FM0 GM0 FM GM w s t → (Sp0 b s (re b T s - s) → wp_X8_readRule_80 (RQ l ru P m) (nI 0) FM GM w) → (¬ Sp0 b s (re b T s - s) → Sp1 b s (re b T s - s) → wp_X8_readRule_80 (RQ l ru P m) (nI 1) FM GM w) → (¬ Sp0 b s (re b T s - s) → ¬ Sp1 b s (re b T s - s) → Sp2 b s (re b T s - s) → wp_X8_readRule_80 (RQ l ru P m) (nI 2) FM GM w) → (¬ Sp0 b s (re b T s - s) → ¬ Sp1 b s (re b T s - s) → ¬ Sp2 b s (re b T s - s) → Sp3 b s (re b T s - s) → wp_X8_readRule_80 (RQ l ru P m) (nI 8) FM GM w) → (¬ Sp0 b s (re b T s - s) → ¬ Sp1 b s (re b T s - s) → ¬ Sp2 b s (re b T s - s) → ¬ Sp3 b s (re b T s - s) → wp_X8_bad 1 FM GM w (fun r F G w => RQ l ru P m r F G w)) → MC l 1 sl ru P (m + 1) FM GM w := by
        intro m FM GM w P hMS h0 h1 h2 h3 h4
        obtain ⟨k1, k2, k3, k4, k5⟩ := hMS.2.1.2.2 hsT' hcut
        rw [c] at k1
        refine ⟨fun _ => ?_, fun e => by omega, fun e => by omega, fun e => by omega⟩
        rw [wp_X8_law_77]
        refine ⟨fun q => absurd (k1.symm.trans q) (by decide), fun _ => ?_⟩
        exact m_rr k1 (k5 c) hL hlet h0 h1 h2 h3 h4
      -- told already, or not, for the two plain words
      have simple : ∀ k : Nat, k < 2 → (∀ Q' : Int32 → FT → GT → Prop, Q' (nI k) F1 G → wp_X3_slotOfWord F1 G Q') → (∀ (m : Nat) (FM : FT) (GM : GT) (w : Int64) (P : Int32 → FT → GT → Int64 → Prop), MS b T FM0 GM0 FM GM w s t → wp_X8_readRule_80 (RQ l ru P m) (nI k) FM GM w → MC l 1 sl ru P (m + 1) FM GM w) → wp_X3_readAll_22 Q (n + 1) (nI lim) (nI x3) F G := by
        intro k hk hX hM
        have X2 : ∀ Q' : Int32 → FT → GT → Prop, wp_X3_tellOnce (sU F1 14 (nI k)) G (fun r5 F3 G4 => Q' r5 F3 G4) → wp_X3_takeToken (nI (tk b T s - 1)) F1 G Q' := by
          intro Q' h
          refine X1 Q' (hX _ ?_)
          unfold wp_X3_takeWord wp_X3_takeWord_0
          have n1 : ¬ nI k = -1 := nI_m1 (by omega)
          have n2 : ¬ nI k = 2 := fun q => by have := (nI_eq (b := 2) (by omega) (by omega)).1 q; omega
          have n8 : ¬ nI k = 8 := fun q => by have := (nI_eq (b := 8) (by omega) (by omega)).1 q; omega
          simp only [n1, n2, n8, forall_eq, not_true_eq_false, not_false_eq_true, false_implies, true_implies, and_true, true_and, true_or, or_true, ne_eq]
          exact h
        by_cases told : t.testBit k = true
        · refine flt 3 (sU F1 14 (nI k)) (by decide) (fun Q' hQ' => X2 Q' (tell (sl := k) (by omega) (sU_same _ _ _) htold (fun q => absurd told q) (fun _ => hQ'))) (by rw [sU_ne _ _ (by decide)]; exact F15) (by rw [sU_ne _ _ (by decide)]; exact F16) (fun k hk => by rw [sU_ne _ _ (by omega)]; exact Ffr k hk) (by rw [sU_ne _ _ (by decide)]; exact F2) (fun m FM GM w P hm hMS hP => ?_)
          obtain ⟨m', rfl⟩ : ∃ m', m = m' + 1 := ⟨m - 1, by omega⟩
          obtain ⟨k1, k2, k3, k4, k5⟩ := hMS.2.1.2.2 hsT' hcut
          refine hM m' FM GM w P hMS ?_
          refine ⟨fun q => absurd q (nI_lt0 k hk).1, fun _ => ⟨fun q => ?_, fun _ => ?_⟩⟩
          · rw [hMS.2.2.1] at q
            exact absurd ((told_b ht (by omega)).2 told) q
          · refine m_bad ?_
            rw [if_neg (by rw [k1, c]; decide), k2]
            rw [← k2] at hP ⊢
            exact RQ_0 hP
        · refine nxt 2 k ru t (sU (sU F1 14 (nI k)) 13 2) (gU G 42 (upd (G 42) k 1)) (fun Q' hQ' => X2 Q' (tell (sl := k) (by omega) (sU_same _ _ _) htold (fun _ => hQ') (fun q => absurd q told))) ?_ ?_ (fun k hk => ?_) ?_ (sU_same _ _ _) ?_ ?_ (fun k h1 h2 => ?_) (by omega) (fun _ => by omega) (fun q => by omega) ht ?_ ?_ (fun m FM GM w P hm hMS hRN hnx => ?_)
          · rw [sU_ne _ _ (by decide), sU_ne _ _ (by decide)]; exact F15
          · rw [sU_ne _ _ (by decide), sU_ne _ _ (by decide)]; exact F16
          · rw [sU_ne _ _ (by omega), sU_ne _ _ (by omega)]; exact Ffr k hk
          · rw [sU_ne _ _ (by decide), sU_ne _ _ (by decide)]; exact F2
          · rw [sU_ne _ _ (by decide), sU_same]
          · rw [sU_ne _ _ (by decide), sU_ne _ _ (by decide)]; exact F10
          · rw [gU_ne _ _ h2]; exact fG k h1 h2
          · rw [gU_ne _ _ (by decide)]; exact hbd
          · rw [gU_same]; simp only [if_true]; exact told_u htold
          · obtain ⟨m', rfl⟩ : ∃ m', m = m' + 1 := ⟨m - 1, by omega⟩
            obtain ⟨k1, k2, k3, k4, k5⟩ := hMS.2.1.2.2 hsT' hcut
            refine hM m' FM GM w P hMS ?_
            have g105 : wp_X8_readRule_105 (RQ l ru P m') (nI k) FM GM w := by
              refine MS.go hMS.1 k3 hp.2 hMS.2.2.1 hMS.2.2.2.1 hMS.2.2.2.2.1 hMS.2.2.2.2.2 (fun FM2 w2 hMS2 => ⟨fun _ => ?_, fun q => absurd (nI_lt0 k hk).2 q⟩)
              exact (hnx m' FM2 GM w2 (by omega) hMS2 (fun k hk => by rw [gU_ne _ _ (by decide)]; exact hRN k hk)).2.1 rfl
            refine ⟨fun q => absurd q (nI_lt0 k hk).1, fun _ => ⟨fun q => g105, fun q => ?_⟩⟩
            rw [hMS.2.2.1] at q
            exact absurd ((told_b ht (by omega)).1 q) told
      -- days and warrant: a fault's number follows
      have fault : ∀ k : Nat, (k = 2 ∨ k = 8) → (∀ Q' : Int32 → FT → GT → Prop, Q' (nI k) F1 G → wp_X3_slotOfWord F1 G Q') → (∀ (m : Nat) (FM : FT) (GM : GT) (w : Int64) (P : Int32 → FT → GT → Int64 → Prop), MS b T FM0 GM0 FM GM w s t → wp_X8_readRule_80 (RQ l ru P m) (nI k) FM GM w → MC l 1 sl ru P (m + 1) FM GM w) → wp_X3_readAll_22 Q (n + 1) (nI lim) (nI x3) F G := by
        intro k hk hX hM
        refine nxt 4 k ru t (sU (sU F1 14 (nI k)) 13 4) G (fun Q' hQ' => X1 Q' (hX _ ?_)) ?_ ?_ (fun k hk => ?_) ?_ (sU_same _ _ _) ?_ ?_ fG (by omega) (fun q => by omega) (fun _ => hk) ht hbd ?_ (fun m FM GM w P hm hMS hRN hnx => ?_)
        · unfold wp_X3_takeWord wp_X3_takeWord_0
          have n1 : ¬ nI k = -1 := nI_m1 (by omega)
          rcases hk with rfl | rfl
          · simp +decide only [forall_eq, not_true_eq_false, not_false_eq_true, false_implies, true_implies, and_true, true_and, true_or, or_true, ne_eq]; exact hQ'
          · simp +decide only [forall_eq, not_true_eq_false, not_false_eq_true, false_implies, true_implies, and_true, true_and, true_or, or_true, ne_eq]; exact hQ'
        · rw [sU_ne _ _ (by decide), sU_ne _ _ (by decide)]; exact F15
        · rw [sU_ne _ _ (by decide), sU_ne _ _ (by decide)]; exact F16
        · rw [sU_ne _ _ (by omega), sU_ne _ _ (by omega)]; exact Ffr k hk
        · rw [sU_ne _ _ (by decide), sU_ne _ _ (by decide)]; exact F2
        · rw [sU_ne _ _ (by decide), sU_same]
        · rw [sU_ne _ _ (by decide), sU_ne _ _ (by decide)]; exact F10
        · simp only [show ¬ (4 : Nat) = 2 by decide, if_false]; exact htold
        · obtain ⟨m', rfl⟩ : ∃ m', m = m' + 1 := ⟨m - 1, by omega⟩
          obtain ⟨k1, k2, k3, k4, k5⟩ := hMS.2.1.2.2 hsT' hcut
          refine hM m' FM GM w P hMS ?_
          have k2' : (2 : Int32) ≤ nI k ∧ ¬ nI k < 2 := by rcases hk with rfl | rfl <;> decide
          refine ⟨fun _ => ?_, fun q => absurd k2'.1 q⟩
          refine MS.go hMS.1 k3 hp.2 hMS.2.2.1 hMS.2.2.2.1 hMS.2.2.2.2.1 hMS.2.2.2.2.2 (fun FM2 w2 hMS2 => ⟨fun q => absurd q k2'.2, fun _ => ?_⟩)
          exact (hnx m' FM2 GM w2 (by omega) hMS2 hRN).2.2.2 rfl
      by_cases s0 : Sp0 b s (re b T s - s)
      · exact simple 0 (by omega) (fun Q' h => slot Q' (fun _ => h) (fun q => absurd s0 q) (fun q => absurd s0 q) (fun q => absurd s0 q) (fun q => absurd s0 q)) (fun m FM GM w P hMS h => M1 m FM GM w P hMS (fun _ => h) (fun q => absurd s0 q) (fun q => absurd s0 q) (fun q => absurd s0 q) (fun q => absurd s0 q))
      by_cases s1 : Sp1 b s (re b T s - s)
      · exact simple 1 (by omega) (fun Q' h => slot Q' (fun q => absurd q s0) (fun _ _ => h) (fun _ q => absurd s1 q) (fun _ q => absurd s1 q) (fun _ q => absurd s1 q)) (fun m FM GM w P hMS h => M1 m FM GM w P hMS (fun q => absurd q s0) (fun _ _ => h) (fun _ q => absurd s1 q) (fun _ q => absurd s1 q) (fun _ q => absurd s1 q))
      by_cases s2 : Sp2 b s (re b T s - s)
      · exact fault 2 (.inl rfl) (fun Q' h => slot Q' (fun q => absurd q s0) (fun _ q => absurd q s1) (fun _ _ _ => h) (fun _ _ q => absurd s2 q) (fun _ _ q => absurd s2 q)) (fun m FM GM w P hMS h => M1 m FM GM w P hMS (fun q => absurd q s0) (fun _ q => absurd q s1) (fun _ _ _ => h) (fun _ _ q => absurd s2 q) (fun _ _ q => absurd s2 q))
      by_cases s3 : Sp3 b s (re b T s - s)
      · exact fault 8 (.inr rfl) (fun Q' h => slot Q' (fun q => absurd q s0) (fun _ q => absurd q s1) (fun _ _ q => absurd q s2) (fun _ _ _ _ => h) (fun _ _ _ q => absurd s3 q)) (fun m FM GM w P hMS h => M1 m FM GM w P hMS (fun q => absurd q s0) (fun _ q => absurd q s1) (fun _ _ q => absurd q s2) (fun _ _ _ _ => h) (fun _ _ _ q => absurd s3 q))
      refine flt 1 F1 (by decide) (fun Q' hQ' => X1 Q' (slot _ (fun q => absurd q s0) (fun _ q => absurd q s1) (fun _ _ q => absurd q s2) (fun _ _ _ q => absurd q s3) (fun _ _ _ _ => ⟨fun q => absurd rfl q, fun _ => hQ'⟩))) F15 F16 Ffr F2 (fun m FM GM w P hm hMS hP => ?_)
      obtain ⟨m', rfl⟩ : ∃ m', m = m' + 1 := ⟨m - 1, by omega⟩
      obtain ⟨k1, k2, k3, k4, k5⟩ := hMS.2.1.2.2 hsT' hcut
      refine M1 m' FM GM w P hMS (fun q => absurd q s0) (fun _ q => absurd q s1) (fun _ _ q => absurd q s2) (fun _ _ _ q => absurd q s3) (fun _ _ _ _ => m_bad ?_)
      rw [if_neg (by rw [k1, c]; decide)]
      rw [← k2] at hP
      exact RQ_0 hP
    · -- a number
      subst e
      by_cases c : tk b T s = 3
      case neg => exact odd (fun q => by omega) (fun _ => c) (fun q => by omega) (fun q => by omega)
      obtain ⟨ep, es, eT⟩ := re' (.inr c)
      obtain ⟨_, hL3, _⟩ := tk_3 c
      obtain ⟨v, hv, hve⟩ := nv_9 c
      have hsl := hsl2 rfl
      simp only [if_true] at htold
      refine nxt 3 sl ru (t ||| 2 ^ sl) (sU F1 13 3) (gU G 41 (upd (G 41) sl (nI v))) (fun Q' hQ' => ?_) ?_ ?_ (fun k hk => ?_) ?_ (sU_same _ _ _) ?_ ?_ (fun k h1 h2 => ?_) (by omega) (fun q => by omega) (fun q => by omega) (told_s ht hsl).2 ?_ ?_ (fun m FM GM w P hm hMS hRN hnx => ?_)
      · unfold wp_X3_takeToken wp_X3_takeToken_0
        rw [F13, c]
        simp +decide only [not_true_eq_false, not_false_eq_true, false_implies, true_implies, and_true, true_and, true_or, or_true, ne_eq]
        refine ⟨re b T s - s + 1, ?_⟩
        rw [F15]
        have := x_num hTX1 (s := s) (e := re b T s) (by rw [F16, ep]) (by omega) eT hL3 (Q := fun r9 F7 G8 => wp_X3_takeNumber r9 F7 G8 (fun r12 F10 G11 => Q' r12 F10 G11)) (by
          unfold wp_X3_takeNumber wp_X3_takeNumber_0
          rw [F14, nI_clamp (by omega), hve]
          exact ⟨vp_in_nI hsl (by omega), fun G1 h1 F2 h2 => by subst h1 h2; exact hQ'⟩) (re b T s - s) 0 (by omega)
        exact this
      · rw [sU_ne _ _ (by decide)]; exact F15
      · rw [sU_ne _ _ (by decide)]; exact F16
      · rw [sU_ne _ _ (by omega)]; exact Ffr k hk
      · rw [sU_ne _ _ (by decide)]; exact F2
      · rw [sU_ne _ _ (by decide)]; exact F14
      · rw [sU_ne _ _ (by decide)]; exact F10
      · rw [gU_ne _ _ h1]; exact fG k h1 h2
      · intro k hk
        rw [gU_same, upd_e]
        by_cases ek : k = sl
        · rw [if_pos ek]; exact bd_n hv
        · rw [if_neg ek]; exact hbd k hk
      · rw [gU_ne _ _ (by decide)]; simp only [show ¬ (3 : Nat) = 2 by decide, if_false]; exact htold
      · obtain ⟨k1, k2, k3, k4, k5⟩ := hMS.2.1.2.2 hsT' hcut
        refine ⟨fun e => by omega, fun _ => ?_, fun e => by omega, fun e => by omega⟩
        have k42 : (42 : Int32) + nI sl = nI (42 + sl) := nI_add 42 sl
        have hTM2 : TM b T (sU FM 27 (nI (t ||| 2 ^ sl))) (gU GM 51 (upd (GM 51) (42 + sl) (nI v))) := ⟨by rw [sU_ne _ _ (by decide)]; exact hMS.1.1, hMS.1.2.1, hMS.1.2.2.1, fun i hi => by rw [gU_ne _ _ (by decide)]; exact hMS.1.2.2.2 i hi⟩
        unfold wp_X8_readRule_176
        rw [k1, c, k42, nI_clamp (by omega), k4 c, hve, hMS.2.2.1, (told_s ht hsl).1]
        refine ⟨fun _ => ⟨vp_in_nI (by omega) (by omega), fun G1 h1 F2 h2 => ?_⟩, fun q => absurd rfl q⟩
        subst h1 h2
        refine MS.go (FM0 := FM0) (GM0 := GM0) hTM2 (by rw [sU_ne _ _ (by decide)]; exact k3) hp.2 (sU_same _ _ _) (fun k hk => by rw [sU_ne _ _ (by omega)]; exact hMS.2.2.2.1 k hk) (fun k hk => by rw [gU_ne _ _ hk]; exact hMS.2.2.2.2.1 k hk) (fun i hi => by rw [gU_same, upd_e, if_neg (by omega)]; exact hMS.2.2.2.2.2 i hi) (fun FM2 w2 hMS2 => ?_)
        refine (hnx m FM2 _ w2 (by omega) hMS2 (fun k hk => ?_)).2.2.1 rfl
        rw [gU_same, gU_same, upd_e, upd_e]
        by_cases ek : k = sl
        · rw [if_pos ek, if_pos (by omega)]
        · rw [if_neg ek, if_neg (by omega)]; exact hRN k hk
    · -- the semicolon
      subst e
      by_cases c : tk b T s = 4
      case neg => exact odd (fun q => by omega) (fun q => by omega) (fun _ => c) (fun q => by omega)
      simp only [show ¬ (3 : Nat) = 2 by decide, if_false] at htold
      refine nxt 1 sl (ru + 1) t (sU (sU F1 10 (nI (ru + 1))) 13 1) G (fun Q' hQ' => ?_) ?_ ?_ (fun k hk => ?_) ?_ (sU_same _ _ _) ?_ ?_ fG (by omega) (fun q => by omega) (fun q => by omega) ht hbd ?_ (fun m FM GM w P hm hMS hRN hnx => ?_)
      · unfold wp_X3_takeToken wp_X3_takeToken_0
        rw [F13, c]
        simp +decide only [wp_X3_takeSemicolon, wp_X3_takeSemicolon_0, F10, nI_1, forall_eq, not_true_eq_false, not_false_eq_true, false_implies, true_implies, and_true, true_and, true_or, or_true, ne_eq]
        exact hQ'
      · rw [sU_ne _ _ (by decide), sU_ne _ _ (by decide)]; exact F15
      · rw [sU_ne _ _ (by decide), sU_ne _ _ (by decide)]; exact F16
      · rw [sU_ne _ _ (by omega), sU_ne _ _ (by omega)]; exact Ffr k hk
      · rw [sU_ne _ _ (by decide), sU_ne _ _ (by decide)]; exact F2
      · rw [sU_ne _ _ (by decide), sU_ne _ _ (by decide)]; exact F14
      · rw [sU_ne _ _ (by decide), sU_same]
      · simp only [show ¬ (1 : Nat) = 2 by decide, if_false]; exact htold
      · obtain ⟨k1, k2, k3, k4, k5⟩ := hMS.2.1.2.2 hsT' hcut
        rw [c] at k1
        refine ⟨fun e => by omega, fun e => by omega, fun _ => ⟨fun _ => ⟨.inr rfl, fun _ v5 hv => ?_, fun q => absurd q (by decide)⟩, fun q => absurd k1 q⟩, fun e => by omega⟩
        subst hv
        rw [nI_1]
        refine MS.go hMS.1 k3 hp.2 hMS.2.2.1 hMS.2.2.2.1 hMS.2.2.2.2.1 hMS.2.2.2.2.2 (fun FM2 w2 hMS2 => ?_)
        exact (hnx m FM2 GM w2 (by omega) hMS2 hRN).1 rfl
    · -- a fault's number
      subst e
      by_cases c : tk b T s = 3
      case neg => exact odd (fun q => by omega) (fun q => by omega) (fun q => by omega) (fun _ => c)
      obtain ⟨ep, es, eT⟩ := re' (.inr c)
      obtain ⟨_, hL3, _⟩ := tk_3 c
      obtain ⟨v, hv, hve⟩ := nv_9 c
      have hsl := hsl4 rfl
      simp only [show ¬ (4 : Nat) = 2 by decide, if_false] at htold
      have X1 : ∀ Q' : Int32 → FT → GT → Prop, wp_X3_takeFault (nI v) F1 G (fun r21 F19 G20 => Q' r21 F19 G20) → wp_X3_takeToken (nI (tk b T s - 1)) F1 G Q' := by
        intro Q' h
        unfold wp_X3_takeToken wp_X3_takeToken_0
        rw [F13, c]
        simp +decide only [not_true_eq_false, not_false_eq_true, false_implies, true_implies, and_true, true_and, true_or, or_true, ne_eq]
        refine ⟨re b T s - s + 1, ?_⟩
        rw [F15]
        have := x_num hTX1 (s := s) (e := re b T s) (by rw [F16, ep]) (by omega) eT hL3 (Q := fun r9 F7 G8 => wp_X3_takeFault r9 F7 G8 (fun r12 F10 G11 => Q' r12 F10 G11)) (by rw [hve]; exact h) (re b T s - s) 0 (by omega)
        exact this
      by_cases c6 : v < 6
      · have X2 : ∀ Q' : Int32 → FT → GT → Prop, wp_X3_tellOnce (sU F1 14 (nI (sl + v))) G (fun r5 F3 G4 => Q' r5 F3 G4) → wp_X3_takeToken (nI (tk b T s - 1)) F1 G Q' := by
          intro Q' h
          refine X1 Q' ?_
          unfold wp_X3_takeFault wp_X3_takeFault_0 wp_X7_isFault wp_X7_isFault_0
          have n6 : ¬ 6 ≤ nI v := le_no (b := 6) c6 (by omega)
          simp +decide only [nI_pos (show v < 2 ^ 31 by omega), n6, F14, nI_add, forall_eq, not_true_eq_false, not_false_eq_true, false_implies, true_implies, and_true, true_and, true_or, or_true, ne_eq]
          exact h
        have lt6 : nI v < 6 := nI_lt (b := 6) c6 (by omega)
        by_cases told : t.testBit (sl + v) = true
        · refine flt 3 (sU F1 14 (nI (sl + v))) (by decide) (fun Q' hQ' => X2 Q' (tell (sl := sl + v) (by omega) (sU_same _ _ _) htold (fun q => absurd told q) (fun _ => hQ'))) (by rw [sU_ne _ _ (by decide)]; exact F15) (by rw [sU_ne _ _ (by decide)]; exact F16) (fun k hk => by rw [sU_ne _ _ (by omega)]; exact Ffr k hk) (by rw [sU_ne _ _ (by decide)]; exact F2) (fun m FM GM w P hm hMS hP => ?_)
          obtain ⟨k1, k2, k3, k4, k5⟩ := hMS.2.1.2.2 hsT' hcut
          refine ⟨fun e => by omega, fun e => by omega, fun e => by omega, fun _ => ?_⟩
          rw [k4 c, hve, hMS.2.2.1, nI_add]
          have k1' : FM 24 = 3 := by rw [k1, c]; rfl
          refine ⟨fun _ => ⟨fun _ v4 hv4 => ⟨fun q => absurd (hv4.trans ((told_b ht (by omega)).2 told)) q, fun _ => m_bad ?_⟩, fun q => absurd lt6 q⟩, fun q => absurd k1' q⟩
          rw [if_neg (by rw [k1']; decide)]
          rw [← k2] at hP
          exact RQ_0 hP
        · refine nxt 2 (sl + v) ru t (sU (sU F1 14 (nI (sl + v))) 13 2) (gU G 42 (upd (G 42) (sl + v) 1)) (fun Q' hQ' => X2 Q' (tell (sl := sl + v) (by omega) (sU_same _ _ _) htold (fun _ => hQ') (fun q => absurd q told))) ?_ ?_ (fun k hk => ?_) ?_ (sU_same _ _ _) ?_ ?_ (fun k h1 h2 => ?_) (by omega) (fun _ => by omega) (fun q => by omega) ht ?_ ?_ (fun m FM GM w P hm hMS hRN hnx => ?_)
          · rw [sU_ne _ _ (by decide), sU_ne _ _ (by decide)]; exact F15
          · rw [sU_ne _ _ (by decide), sU_ne _ _ (by decide)]; exact F16
          · rw [sU_ne _ _ (by omega), sU_ne _ _ (by omega)]; exact Ffr k hk
          · rw [sU_ne _ _ (by decide), sU_ne _ _ (by decide)]; exact F2
          · rw [sU_ne _ _ (by decide), sU_same]
          · rw [sU_ne _ _ (by decide), sU_ne _ _ (by decide)]; exact F10
          · rw [gU_ne _ _ h2]; exact fG k h1 h2
          · rw [gU_ne _ _ (by decide)]; exact hbd
          · rw [gU_same]; simp only [if_true]; exact told_u htold
          · obtain ⟨k1, k2, k3, k4, k5⟩ := hMS.2.1.2.2 hsT' hcut
            refine ⟨fun e => by omega, fun e => by omega, fun e => by omega, fun _ => ?_⟩
            rw [k4 c, hve, hMS.2.2.1, nI_add]
            have k1' : FM 24 = 3 := by rw [k1, c]; rfl
            refine ⟨fun _ => ⟨fun _ v4 hv4 => ⟨fun _ => ?_, fun q => absurd ((told_b ht (by omega)).1 (hv4.symm.trans q)) told⟩, fun q => absurd lt6 q⟩, fun q => absurd k1' q⟩
            refine MS.go hMS.1 k3 hp.2 hMS.2.2.1 hMS.2.2.2.1 hMS.2.2.2.2.1 hMS.2.2.2.2.2 (fun FM2 w2 hMS2 => ?_)
            exact (hnx m FM2 GM w2 (by omega) hMS2 (fun k hk => by rw [gU_ne _ _ (by decide)]; exact hRN k hk)).2.1 rfl
      · have ge6 : ¬ nI v < 6 := nI_nlt (b := 6) (by omega) (by omega)
        refine flt 2 F1 (by decide) (fun Q' hQ' => X1 Q' ?_) F15 F16 Ffr F2 (fun m FM GM w P hm hMS hP => ?_)
        · unfold wp_X3_takeFault wp_X3_takeFault_0 wp_X7_isFault wp_X7_isFault_0
          have n6 : 6 ≤ nI v := le_ya (b := 6) (by omega) (by omega)
          simp +decide only [nI_pos (show v < 2 ^ 31 by omega), n6, not_true_eq_false, not_false_eq_true, false_implies, true_implies, and_true, true_and, true_or, or_true, ne_eq]
          exact hQ'
        · obtain ⟨k1, k2, k3, k4, k5⟩ := hMS.2.1.2.2 hsT' hcut
          refine ⟨fun e => by omega, fun e => by omega, fun e => by omega, fun _ => ?_⟩
          rw [k4 c, hve]
          have k1' : FM 24 = 3 := by rw [k1, c]; rfl
          refine ⟨fun _ => ⟨fun q => absurd q ge6, fun _ => m_bad ?_⟩, fun q => absurd k1' q⟩
          rw [if_neg (by rw [k1']; decide)]
          rw [← k2] at hP
          exact RQ_0 hP
end SIMUL
