section SETTL2
variable {F : FT} {G : GT} {D C : Nat → Nat} {d : Nat}
theorem x_old (h12 : G 12 = fun i => nI (D i)) (h13 : G 13 = fun i => nI (C i)) (hD : ∀ i, D i < 16) (hC : ∀ i, C i < 16) (h5 : F 5 = nI d) (hd : d ≤ 80) {p lf : Nat → Nat} (hp : sm p 16 ≤ 1000000000) (hl : ∀ i, lf i ≤ 100000) {Q : Int32 → FT → GT → Prop} (hn : ∀ o, o ≤ d → (∀ i, i < o → lf i = 0) → (∀ i, i < d → am p lf D i = 0) → Q 0 (sU F 17 (nI o)) (st G p lf)) (hy : ∀ o z, o ≤ d → (∀ i, i < o → lf i = 0) → z < d → am p lf D z ≠ 0 → (∀ i, i < z → am p lf D i = 0) → Q 1 (sU F 17 (nI o)) (st G (pyP p lf D C z) (pyL p lf D z))) : ∀ m o, o + m = d → (∀ i, i < o → lf i = 0) → wp_X4_payOldest_0 Q (m + 1) (sU F 17 (nI o)) (st G p lf) := by
  have am0 : ∀ i, lf i = 0 → am p lf D i = 0 := fun i h => by unfold am; split <;> omega
  have fin : ∀ o, o ≤ d → (∀ i, i < o → lf i = 0) → ∃ n, wp_X4_payOldest_41 Q n (nI o) (sU F 17 (nI o)) (st G p lf) := by
    intro o ho hlo
    refine ⟨d - o + 1, x_scan h12 h13 hD hC (by rw [sU_ne _ _ (by decide)]; exact h5) hd hp hl (d - o) o (by omega) (fun h => hn o ho hlo (fun i hi => ?_)) (fun z z1 z2 z3 z4 => hy o z ho hlo z2 z3 (fun i hi => ?_))⟩
    · by_cases c : i < o
      · exact am0 i (hlo i c)
      · exact h i (by omega) hi
    · by_cases c : i < o
      · exact am0 i (hlo i c)
      · exact z4 i (by omega) hi
  intro m
  induction m with
  | zero =>
    intro o ho hlo
    simp only [wp_X4_payOldest_0, sU_same, sU_ne F (nI o) (show 5 ≠ 17 by decide), h5, le_ya (show d ≤ o by omega) (by omega), not_true_eq_false, not_false_eq_true, false_implies, true_implies, and_true, true_and, true_or, or_true, ne_eq]
    exact fin o (by omega) hlo
  | succ m ih =>
    intro o ho hlo
    rw [wp_X4_payOldest_0]
    simp only [sU_same, sU_ne F (nI o) (show 5 ≠ 17 by decide), h5, le_no (show o < d by omega) (by omega), vp_in_nI (show o < 80 by omega) (show 80 < 2 ^ 31 by omega), nI_clamp (show o < 2 ^ 31 by omega), st_15, forall_eq, nI_1, sU_i, not_true_eq_false, not_false_eq_true, false_implies, true_implies, and_true, true_and, true_or, or_true, ne_eq]
    refine ⟨fun _ => fin o (by omega) hlo, fun c => ih (o + 1) (by omega) (fun i hi => ?_)⟩
    have c := (nI_eq (b := 0) (by have := hl o; omega) (by omega)).1 c
    by_cases e : i = o
    · rw [e]; exact c
    · exact hlo i (by omega)
theorem py_am {p lf : Nat → Nat} {z : Nat} : am p lf D z ≤ lf z ∧ am p lf D z ≤ p (D z) := by unfold am; split <;> omega
theorem py_sm {p lf : Nat → Nat} {z : Nat} (hD : ∀ i, D i < 16) (hC : ∀ i, C i < 16) : sm (pyP p lf D C z) 16 = sm p 16 := by
  obtain ⟨a1, a2⟩ := py_am (p := p) (lf := lf) (D := D) (z := z)
  have h1 := sm_nu (p := p) (k := D z) (y := p (D z) - am p lf D z) 16 (hD z)
  have h2 := sm_nu (p := nu p (D z) (p (D z) - am p lf D z)) (k := C z) (y := nu p (D z) (p (D z) - am p lf D z) (C z) + am p lf D z) 16 (hC z)
  unfold pyP
  omega
theorem py_le {p lf : Nat → Nat} {z : Nat} : ∀ i, pyL p lf D z i ≤ lf i := fun i => by
  have := (py_am (p := p) (lf := lf) (D := D) (z := z)).1
  unfold pyL nu
  split
  · rename_i e; rw [e]; omega
  · exact Nat.le_refl _
theorem am_c {p lf : Nat → Nat} {k : Nat} : (am p lf D k = p (D k) ∧ p (D k) ≤ lf k) ∨ (am p lf D k = lf k ∧ lf k ≤ p (D k)) := by unfold am; split <;> omega
/-- m payments lead from purses p, left lf to p', lf' -/
def Pn (D C : Nat → Nat) (d : Nat) : Nat → (Nat → Nat) → (Nat → Nat) → (Nat → Nat) → (Nat → Nat) → Prop
  | 0, p, lf, p', lf' => p = p' ∧ lf = lf'
  | m + 1, p, lf, p', lf' => ∃ z, (z < d ∧ am p lf D z ≠ 0 ∧ ∀ i, i < z → am p lf D i = 0) ∧ Pn D C d m (pyP p lf D C z) (pyL p lf D z) p' lf'
def stuck (D : Nat → Nat) (d : Nat) (p lf : Nat → Nat) : Prop := ∀ i, i < d → am p lf D i = 0
def Ok (q d : Nat) (p lf : Nat → Nat) : Prop := sm p 16 ≤ 1000000000 ∧ (∀ i, lf i ≤ 100000) ∧ (∀ i, d ≤ i → lf i = 0) ∧ (∀ i, q ≤ i → p i = 0)
theorem Pn_app {m : Nat} : ∀ (j : Nat) {p lf p1 lf1 p2 lf2 : Nat → Nat}, Pn D C d j p lf p1 lf1 → Pn D C d m p1 lf1 p2 lf2 → Pn D C d (j + m) p lf p2 lf2
  | 0, p, lf, p1, lf1, p2, lf2, h, h2 => by
    obtain ⟨rfl, rfl⟩ := h
    rw [Nat.zero_add]; exact h2
  | j + 1, p, lf, p1, lf1, p2, lf2, h, h2 => by
    obtain ⟨z, hz, h⟩ := h
    rw [show j + 1 + m = (j + m) + 1 by omega]
    exact ⟨z, hz, Pn_app j h h2⟩
theorem Pn_one {p lf : Nat → Nat} {z : Nat} (h1 : z < d) (h2 : am p lf D z ≠ 0) (h3 : ∀ i, i < z → am p lf D i = 0) : Pn D C d 1 p lf (pyP p lf D C z) (pyL p lf D z) := ⟨z, ⟨h1, h2, h3⟩, rfl, rfl⟩
theorem Pn_cut {p' lf' : Nat → Nat} (hs : stuck D d p' lf') : ∀ (j m : Nat) {p lf p2 lf2 : Nat → Nat}, Pn D C d j p lf p2 lf2 → Pn D C d m p lf p' lf' → ∃ k, k ≤ m ∧ Pn D C d k p2 lf2 p' lf'
  | 0, m, p, lf, p2, lf2, h, h2 => by
    obtain ⟨rfl, rfl⟩ := h
    exact ⟨m, Nat.le_refl m, h2⟩
  | j + 1, 0, p, lf, p2, lf2, h, h2 => by
    obtain ⟨rfl, rfl⟩ := h2
    obtain ⟨z, ⟨h1, h3, _⟩, _⟩ := h
    exact absurd (hs z h1) h3
  | j + 1, m + 1, p, lf, p2, lf2, h, h2 => by
    obtain ⟨z, ⟨a1, a2, a3⟩, h⟩ := h
    obtain ⟨y, ⟨b1, b2, b3⟩, h2⟩ := h2
    have e : y = z := by
      rcases Nat.lt_trichotomy y z with c | c | c
      · exact absurd (a3 y c) b2
      · exact c
      · exact absurd (b3 z c) a2
    subst e
    obtain ⟨k, hk, hp⟩ := Pn_cut hs j m h h2
    exact ⟨k, by omega, hp⟩
theorem Pn_le : ∀ (m : Nat) {p lf p1 lf1 : Nat → Nat}, Pn D C d m p lf p1 lf1 → ∀ i, lf1 i ≤ lf i
  | 0, p, lf, p1, lf1, h, i => by
    obtain ⟨rfl, rfl⟩ := h
    exact Nat.le_refl _
  | m + 1, p, lf, p1, lf1, h, i => by
    obtain ⟨z, _, h⟩ := h
    exact Nat.le_trans (Pn_le m h i) (py_le i)
/-- the same payments come where every debt is less by E, as long as no debt falls short of them -/
theorem Pn_sh {E : Nat → Nat} : ∀ (m : Nat) {p lf p1 lf1 : Nat → Nat}, Pn D C d m p lf p1 lf1 → (∀ i, E i ≤ lf1 i) → Pn D C d m p (fun i => lf i - E i) p1 (fun i => lf1 i - E i)
  | 0, p, lf, p1, lf1, h, hE => by
    obtain ⟨rfl, rfl⟩ := h
    exact ⟨rfl, rfl⟩
  | m + 1, p, lf, p1, lf1, h, hE => by
    obtain ⟨z, ⟨h1, h2, h3⟩, h⟩ := h
    have hz := Pn_le m h z
    have h4 := hE z
    have e1 : pyL p lf D z z = lf z - am p lf D z := nu_s
    obtain ⟨a1, a2⟩ := py_am (p := p) (lf := lf) (D := D) (z := z)
    have am2 : ∀ k, (am p (fun i => lf i - E i) D k = p (D k) ∧ p (D k) ≤ lf k - E k) ∨ (am p (fun i => lf i - E i) D k = lf k - E k ∧ lf k - E k ≤ p (D k)) := fun k => am_c
    have ea : am p (fun i => lf i - E i) D z = am p lf D z := by
      have b1 := am_c (p := p) (lf := lf) (D := D) (k := z)
      have b2 := am2 z
      omega
    have eP : pyP p (fun i => lf i - E i) D C z = pyP p lf D C z := by unfold pyP; rw [ea]
    have eL : pyL p (fun i => lf i - E i) D z = fun i => pyL p lf D z i - E i := by
      funext i
      unfold pyL nu
      rw [ea]
      split
      · rename_i e
        rw [e]
        show lf z - E z - am p lf D z = lf z - am p lf D z - E z
        omega
      · rfl
    refine ⟨z, ⟨h1, by rw [ea]; exact h2, fun i hi => ?_⟩, ?_⟩
    · have b0 := h3 i hi
      have b1 := am_c (p := p) (lf := lf) (D := D) (k := i)
      have b2 := am2 i
      omega
    · rw [eP, eL]; exact Pn_sh m h hE
/-- whole rounds -/
theorem Pn_rd {m : Nat} {p L0 L1 : Nat → Nat} (h : Pn D C d m p L0 p L1) : ∀ r : Nat, (∀ i, r * (L0 i - L1 i) ≤ L1 i) → ∃ k, Pn D C d k p L1 p (fun i => L1 i - r * (L0 i - L1 i))
  | 0, _ => ⟨0, rfl, by funext i; rw [Nat.zero_mul, Nat.sub_zero]⟩
  | r + 1, hr => by
    have hs : ∀ i, (r + 1) * (L0 i - L1 i) = r * (L0 i - L1 i) + (L0 i - L1 i) := fun i => Nat.succ_mul _ _
    obtain ⟨k, hk⟩ := Pn_rd h r (fun i => by have := hr i; rw [hs] at this; omega)
    refine ⟨k + m, Pn_app k hk ?_⟩
    have h1 := Pn_sh (E := fun i => (r + 1) * (L0 i - L1 i)) m h hr
    have e : (fun i => L0 i - (r + 1) * (L0 i - L1 i)) = fun i => L1 i - r * (L0 i - L1 i) := by
      funext i
      have := Pn_le m h i
      have := hr i
      rw [hs] at this ⊢
      omega
    rw [e] at h1
    exact h1
theorem sm_mono {p p' : Nat → Nat} (h : ∀ i, p' i ≤ p i) : ∀ n, sm p' n ≤ sm p n
  | 0 => Nat.le_refl _
  | n + 1 => by
    have := sm_mono h n
    have := h n
    simp only [sm]; omega
theorem Ok.py {q : Nat} {p lf : Nat → Nat} {z : Nat} (hD : ∀ i, D i < 16) (hC : ∀ i, C i < 16) (hq : ∀ i, C i ≤ q - 1) (h : Ok q d p lf) (hz : am p lf D z ≠ 0) : Ok q d (pyP p lf D C z) (pyL p lf D z) := by
  obtain ⟨hp, hl, hld, hpq⟩ := h
  obtain ⟨a1, a2⟩ := py_am (p := p) (lf := lf) (D := D) (z := z)
  have hDq : D z < q := Decidable.byContradiction (fun c => by have := hpq (D z) (by omega); omega)
  have hCq : C z < q := by have := hq z; omega
  refine ⟨by rw [py_sm hD hC]; exact hp, fun i => Nat.le_trans (py_le i) (hl i), fun i hi => by have := py_le (p := p) (lf := lf) (D := D) (z := z) i; have := hld i hi; omega, fun i hi => ?_⟩
  unfold pyP
  rw [nu_n (by omega), nu_n (by omega)]; exact hpq i hi
theorem py_lt {p lf : Nat → Nat} {z : Nat} (hd : d ≤ 80) (hz : z < d) (ha : am p lf D z ≠ 0) : sm (pyL p lf D z) 80 < sm lf 80 := by
  obtain ⟨a1, a2⟩ := py_am (p := p) (lf := lf) (D := D) (z := z)
  have := sm_nu (p := lf) (k := z) (y := lf z - am p lf D z) 80 (by omega)
  unfold pyL
  omega
/-- there is an end -/
theorem Pn_ex {q : Nat} (hD : ∀ i, D i < 16) (hC : ∀ i, C i < 16) (hd : d ≤ 80) (hq : ∀ i, C i ≤ q - 1) : ∀ (S : Nat) (p lf : Nat → Nat), Ok q d p lf → sm lf 80 ≤ S → ∃ m p' lf', Pn D C d m p lf p' lf' ∧ stuck D d p' lf' ∧ Ok q d p' lf' ∧ sm p' 16 = sm p 16 := by
  intro S
  induction S with
  | zero =>
    intro p lf ho hS
    refine ⟨0, p, lf, ⟨rfl, rfl⟩, fun i hi => ?_, ho, rfl⟩
    have := sm_ge (p := lf) (k := i) 80 (by omega)
    have := (py_am (p := p) (lf := lf) (D := D) (z := i)).1
    omega
  | succ S ih =>
    intro p lf ho hS
    by_cases hex : ∃ z, z < d ∧ am p lf D z ≠ 0
    · obtain ⟨z, ⟨hz, haz⟩, hmin⟩ := pk_least (fun z => z < d ∧ am p lf D z ≠ 0) hex
      have hlt := py_lt hd hz haz
      obtain ⟨m, p', lf', h1, h2, h3, h4⟩ := ih _ _ (ho.py hD hC hq haz) (by omega)
      exact ⟨m + 1, p', lf', ⟨z, ⟨hz, haz, fun i hi => Decidable.byContradiction (fun c => hmin i hi ⟨by omega, c⟩)⟩, h1⟩, h2, h3, h4.trans (py_sm hD hC)⟩
    · exact ⟨0, p, lf, ⟨rfl, rfl⟩, fun i hi => Decidable.byContradiction (fun c => hex ⟨i, hi, c⟩), ho, rfl⟩
/-- the other side pays one by one -/
theorem settle_m (h12 : G 12 = fun i => nI (D i)) (h13 : G 13 = fun i => nI (C i)) (hD : ∀ i, D i < 16) (hC : ∀ i, C i < 16) (h5 : F 5 = nI d) (hd : d ≤ 80) {q : Nat} (hq : ∀ i, C i ≤ q - 1) {p' lf' : Nat → Nat} (hs : stuck D d p' lf') {w : Int64} {Q : FT → GT → Int64 → Prop} (hQ : Q F (st G p' lf') w) : ∀ (m : Nat) (p lf : Nat → Nat), Ok q d p lf → Pn D C d m p lf p' lf' → ∃ n, wp_X8_settle_2 Q n 0 F (st G p lf) w
  | 0, p, lf, ho, h => by
    obtain ⟨rfl, rfl⟩ := h
    exact ⟨d + 1, m_none h12 h13 hD hC h5 hd ho.1 ho.2.1 hQ d 0 (by omega) (fun i _ h2 => hs i h2)⟩
  | m + 1, p, lf, ho, h => by
    obtain ⟨z, ⟨h1, h2, h3⟩, h⟩ := h
    obtain ⟨n, hn⟩ := settle_m h12 h13 hD hC h5 hd hq hs hQ m _ _ (ho.py hD hC hq h2) h
    exact ⟨n + z + 1, m_some h12 h13 hD hC h5 hd ho.1 ho.2.1 h1 h2 hn z 0 (by omega) (fun i _ hi => h3 i hi)⟩
end SETTL2
theorem pp_D {q : Nat} {f : Nat → Int32} (hq : q ≤ 16) (h : ∀ i, pp (nI q) (f i)) : ∃ D : Nat → Nat, f = (fun i => nI (D i)) ∧ (∀ i, D i < 16) ∧ ∀ i, D i ≤ q - 1 := by
  refine ⟨fun i => (f i).toNatClampNeg, ?_, fun i => ?_, fun i => ?_⟩
  · funext i
    obtain ⟨j, h1, h2, h3⟩ := pp_q (h i) hq
    show f i = nI (f i).toNatClampNeg
    rw [h3, nI_clamp (by omega)]
  · obtain ⟨j, h1, h2, h3⟩ := pp_q (h i) hq
    show (f i).toNatClampNeg < 16
    rw [h3, nI_clamp (by omega)]; exact h2
  · obtain ⟨j, h1, h2, h3⟩ := pp_q (h i) hq
    show (f i).toNatClampNeg ≤ q - 1
    rw [h3, nI_clamp (by omega)]; exact h1
