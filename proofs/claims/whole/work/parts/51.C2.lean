section SETTL2
variable {F : FT} {G : GT} {D C : Nat → Nat} {d : Nat}
theorem x_old (h12 : G 12 = fun i => nI (D i)) (h13 : G 13 = fun i => nI (C i)) (hD : ∀ i, D i < 16) (hC : ∀ i, C i < 16) (h5 : F 5 = nI d) (hd : d ≤ 80) {p lf : Nat → Nat} (hp : sm p 16 ≤ 1000000000) (hl : ∀ i, lf i ≤ 100000) {Q : Int32 → FT → GT → Prop} (hn : ∀ o, o ≤ d → (∀ i, i < o → lf i = 0) → (∀ i, i < d → am p lf D i = 0) → Q 0 (sU F 17 (nI o)) (st G p lf)) (hy : ∀ o z, o ≤ d → (∀ i, i < o → lf i = 0) → z < d → am p lf D z ≠ 0 → (∀ i, i < z → am p lf D i = 0) → Q 1 (sU F 17 (nI o)) (st G (pyP p lf D C z) (pyL p lf D z))) : ∀ m o, o + m = d → (∀ i, i < o → lf i = 0) → wp_X4_payOldest_0 Q (m + 1) (sU F 17 (nI o)) (st G p lf) := by
  have am0 : ∀ i, lf i = 0 → am p lf D i = 0 := fun i h => by unfold am; split <;> omega
  have fin : ∀ o, o ≤ d → (∀ i, i < o → lf i = 0) → ∃ n, wp_X4_payOldest_41 Q n (nI o) (sU F 17 (nI o)) (st G p lf) := by
    intro o ho hlo
    refine ⟨d - o + 1, x_scan h12 h13 hD hC (by rw [sU_ne _ _ (by decide)]; exact h5) hd hp hl (d - o) o (by omega) (fun h => hn o ho hlo (fun i hi => ?_)) (fun z z1 z2 z3 z4 => hy o z ho hlo z2 z3 (fun i hi => ?_))⟩
    · by_cases c : i < o
      · exact am0 i (hlo i c)
      · exact h i (by omega) hi
    · by_cases c : i < o
      · exact am0 i (hlo i c)
      · exact z4 i (by omega) hi
  intro m
  induction m with
  | zero =>
    intro o ho hlo
    simp only [wp_X4_payOldest_0, sU_same, sU_ne F (nI o) (show 5 ≠ 17 by decide), h5, le_ya (show d ≤ o by omega) (by omega), not_true_eq_false, not_false_eq_true, false_implies, true_implies, and_true, true_and, true_or, or_true, ne_eq]
    exact fin o (by omega) hlo
  | succ m ih =>
    intro o ho hlo
    rw [wp_X4_payOldest_0]
    simp only [sU_same, sU_ne F (nI o) (show 5 ≠ 17 by decide), h5, le_no (show o < d by omega) (by omega), vp_in_nI (show o < 80 by omega) (show 80 < 2 ^ 31 by omega), nI_clamp (show o < 2 ^ 31 by omega), st_15, forall_eq, nI_1, sU_i, not_true_eq_false, not_false_eq_true, false_implies, true_implies, and_true, true_and, true_or, or_true, ne_eq]
    refine ⟨fun _ => fin o (by omega) hlo, fun c => ih (o + 1) (by omega) (fun i hi => ?_)⟩
    have c := (nI_eq (b := 0) (by have := hl o; omega) (by omega)).1 c
    by_cases e : i = o
    · rw [e]; exact c
    · exact hlo i (by omega)
theorem py_am {p lf : Nat → Nat} {z : Nat} : am p lf D z ≤ lf z ∧ am p lf D z ≤ p (D z) := by unfold am; split <;> omega
theorem py_sm {p lf : Nat → Nat} {z : Nat} (hD : ∀ i, D i < 16) (hC : ∀ i, C i < 16) : sm (pyP p lf D C z) 16 = sm p 16 := by
  obtain ⟨a1, a2⟩ := py_am (p := p) (lf := lf) (D := D) (z := z)
  have h1 := sm_nu (p := p) (k := D z) (y := p (D z) - am p lf D z) 16 (hD z)
  have h2 := sm_nu (p := nu p (D z) (p (D z) - am p lf D z)) (k := C z) (y := nu p (D z) (p (D z) - am p lf D z) (C z) + am p lf D z) 16 (hC z)
  unfold pyP
  omega
theorem settle_s (h12 : G 12 = fun i => nI (D i)) (h13 : G 13 = fun i => nI (C i)) (hD : ∀ i, D i < 16) (hC : ∀ i, C i < 16) (h5 : F 5 = nI d) (hd : d ≤ 80) {q : Nat} (hq : ∀ i, C i ≤ q - 1) : ∀ S p lf, sm p 16 ≤ 1000000000 → (∀ i, lf i ≤ 100000) → sm lf 80 ≤ S → (∀ i, d ≤ i → lf i = 0) → (∀ i, q ≤ i → p i = 0) → ∃ p' lf' : Nat → Nat, sm p' 16 = sm p 16 ∧ (∀ i, lf' i ≤ 100000) ∧ (∀ i, d ≤ i → lf' i = 0) ∧ (∀ i, q ≤ i → p' i = 0) ∧ (∀ (Q : FT → GT → Prop) (x1 o : Nat), o ≤ d → (∀ i, i < o → lf i = 0) → x1 + S ≤ 8000000 → (∀ o', o' ≤ d → (∀ i, i < o' → lf' i = 0) → Q (sU F 17 (nI o')) (st G p' lf')) → wp_X4_settle_2 Q (S + 1) (nI x1) (sU F 17 (nI o)) (st G p lf)) ∧ (∀ (FM : FT) (GM : GT) (w : Int64) (Q : FT → GT → Int64 → Prop), GM 12 = G 12 → GM 13 = G 13 → FM 5 = F 5 → Q FM (st GM p' lf') w → ∃ n, wp_X8_settle_2 Q n 0 FM (st GM p lf) w) := by
  have none : ∀ S p lf, sm p 16 ≤ 1000000000 → (∀ i, lf i ≤ 100000) → (∀ i, d ≤ i → lf i = 0) → (∀ i, q ≤ i → p i = 0) → (∀ i, i < d → am p lf D i = 0) → ∃ p' lf' : Nat → Nat, sm p' 16 = sm p 16 ∧ (∀ i, lf' i ≤ 100000) ∧ (∀ i, d ≤ i → lf' i = 0) ∧ (∀ i, q ≤ i → p' i = 0) ∧ (∀ (Q : FT → GT → Prop) (x1 o : Nat), o ≤ d → (∀ i, i < o → lf i = 0) → x1 + S ≤ 8000000 → (∀ o', o' ≤ d → (∀ i, i < o' → lf' i = 0) → Q (sU F 17 (nI o')) (st G p' lf')) → wp_X4_settle_2 Q (S + 1) (nI x1) (sU F 17 (nI o)) (st G p lf)) ∧ (∀ (FM : FT) (GM : GT) (w : Int64) (Q : FT → GT → Int64 → Prop), GM 12 = G 12 → GM 13 = G 13 → FM 5 = F 5 → Q FM (st GM p' lf') w → ∃ n, wp_X8_settle_2 Q n 0 FM (st GM p lf) w) := by
    intro S p lf hp hl hld hpq ha
    refine ⟨p, lf, rfl, hl, hld, hpq, fun Q x1 o ho hlo hx hQ => ?_, fun FM GM w Q g12 g13 f5 hQ => ⟨d + 1, ?_⟩⟩
    · refine ⟨fun _ => hQ o ho hlo, fun _ => ⟨d - o + 1, x_old h12 h13 hD hC h5 hd hp hl (fun o' h1 h2 h3 => ⟨.inl rfl, fun _ => hQ o' h1 h2, fun c => absurd rfl c⟩) (fun o' z h1 h2 h3 h4 h5 => absurd (ha z h3) h4) (d - o) o (by omega) hlo⟩⟩
    · exact m_none (g12.trans h12) (g13.trans h13) hD hC (f5.trans h5) hd hp hl hQ d 0 (by omega) (fun i _ h2 => ha i h2)
  intro S
  induction S with
  | zero =>
    intro p lf hp hl hS hld hpq
    refine none 0 p lf hp hl hld hpq (fun i hi => ?_)
    have := sm_ge (p := lf) (k := i) 80 (by omega)
    have := (py_am (p := p) (lf := lf) (D := D) (z := i)).1
    omega
  | succ S ih =>
    intro p lf hp hl hS hld hpq
    by_cases hex : ∃ z, z < d ∧ am p lf D z ≠ 0
    · obtain ⟨z, ⟨hz, haz⟩, hmin⟩ := pk_least (fun z => z < d ∧ am p lf D z ≠ 0) hex
      have hmin' : ∀ i, i < z → am p lf D i = 0 := fun i hi => Decidable.byContradiction (fun c => hmin i hi ⟨by omega, c⟩)
      obtain ⟨a1, a2⟩ := py_am (p := p) (lf := lf) (D := D) (z := z)
      have hsm := py_sm (p := p) (lf := lf) (D := D) (C := C) (z := z) hD hC
      have hsl := sm_nu (p := lf) (k := z) (y := lf z - am p lf D z) 80 (by omega)
      have hDq : D z < q := Decidable.byContradiction (fun c => by have := hpq (D z) (by omega); omega)
      have hCq : C z < q := by have := hq z; omega
      have hl' : ∀ i, pyL p lf D z i ≤ lf i := fun i => by
        unfold pyL nu
        split
        · rename_i e; rw [e]; omega
        · exact Nat.le_refl _
      obtain ⟨p', lf', r1, r2, r3, r4, r5, r6⟩ := ih (pyP p lf D C z) (pyL p lf D z) (by omega) (fun i => Nat.le_trans (hl' i) (hl i)) (by unfold pyL; omega) (fun i hi => by have := hl' i; have := hld i hi; omega) (fun i hi => by
        unfold pyP
        rw [nu_n (by omega), nu_n (by omega)]; exact hpq i hi)
      refine ⟨p', lf', r1.trans hsm, r2, r3, r4, fun Q x1 o ho hlo hx hQ => ?_, fun FM GM w Q g12 g13 f5 hQ => ?_⟩
      · have hn : ∀ o', o' ≤ d → (∀ i, i < o' → lf i = 0) → wp_X4_settle_2 Q (S + 1) (nI (x1 + 1)) (sU F 17 (nI o')) (st G (pyP p lf D C z) (pyL p lf D z)) := fun o' h1 h2 => r5 Q (x1 + 1) o' h1 (fun i hi => by have := hl' i; have := h2 i hi; omega) (by omega) hQ
        rw [wp_X4_settle_2]
        refine ⟨fun c => absurd c (le_no (b := 8000000) (by omega) (by omega)), fun _ => ⟨d - o + 1, x_old h12 h13 hD hC h5 hd hp hl (fun o' h1 h2 h3 => absurd (h3 z hz) haz) (fun o' z' h1 h2 h3 h4 h5 => ⟨.inr rfl, fun c => absurd c (by decide), fun _ => ?_⟩) (d - o) o (by omega) hlo⟩⟩
        have : z' = z := by
          rcases Nat.lt_trichotomy z' z with c | c | c
          · exact absurd (hmin' z' c) h4
          · exact c
          · exact absurd (h5 z c) haz
        subst this
        intro v hv
        subst hv
        rw [nI_1]; exact hn o' h1 h2
      · obtain ⟨n, hn⟩ := r6 FM GM w Q g12 g13 f5 hQ
        exact ⟨n + z + 1, m_some (g12.trans h12) (g13.trans h13) hD hC (f5.trans h5) hd hp hl hz haz hn z 0 (by omega) (fun i _ h2 => hmin' i h2)⟩
    · exact none (S + 1) p lf hp hl hld hpq (fun i hi => Decidable.byContradiction (fun c => hex ⟨i, hi, c⟩))
end SETTL2
theorem pp_D {q : Nat} {f : Nat → Int32} (hq : q ≤ 16) (h : ∀ i, pp (nI q) (f i)) : ∃ D : Nat → Nat, f = (fun i => nI (D i)) ∧ (∀ i, D i < 16) ∧ ∀ i, D i ≤ q - 1 := by
  refine ⟨fun i => (f i).toNatClampNeg, ?_, fun i => ?_, fun i => ?_⟩
  · funext i
    obtain ⟨j, h1, h2, h3⟩ := pp_q (h i) hq
    show f i = nI (f i).toNatClampNeg
    rw [h3, nI_clamp (by omega)]
  · obtain ⟨j, h1, h2, h3⟩ := pp_q (h i) hq
    show (f i).toNatClampNeg < 16
    rw [h3, nI_clamp (by omega)]; exact h2
  · obtain ⟨j, h1, h2, h3⟩ := pp_q (h i) hq
    show (f i).toNatClampNeg ≤ q - 1
    rw [h3, nI_clamp (by omega)]; exact h1
/-- both sides settle: the same purses, the same left; all else as it was -/
theorem settle_i {F : FT} {G : GT} (hm : Mon F G) (h12 : ∀ i, pp (F 3) (G 12 i)) (h13 : ∀ i, pp (F 3) (G 13 i)) : ∃ p' lf' : Nat → Nat, (∀ (Q : FT → GT → Prop), (∀ o' : Nat, Mon (sU F 17 (nI o')) (st G p' lf') → Q (sU F 17 (nI o')) (st G p' lf')) → wp_X4_settle F G Q) ∧ (∀ (FM : FT) (GM : GT) (w : Int64) (Q : FT → GT → Int64 → Prop), GM 11 = G 11 → GM 12 = G 12 → GM 13 = G 13 → GM 15 = G 15 → FM 5 = F 5 → Q FM (st GM p' lf') w → wp_X8_settle FM GM w Q) := by
  obtain ⟨p, lf, u, c, d, o, q, h11, h15, h30, h4, h5, h17, h3, hsp, hc, hpq, hq, hlf, hu, hdu, hd, hod, hlo, hld⟩ := hm
  rw [h3] at h12 h13
  obtain ⟨D, hD1, hD2, hD3⟩ := pp_D hq h12
  obtain ⟨C, hC1, hC2, hC3⟩ := pp_D hq h13
  have hS := sm_le hlf 80
  obtain ⟨p', lf', r1, r2, r3, r4, r5, r6⟩ := settle_s (F := F) (G := G) hD1 hC1 hD2 hC2 h5 hd hC3 8000000 p lf (by omega) hlf (by omega) hld hpq
  refine ⟨p', lf', fun Q hQ => ?_, fun FM GM w Q m11 m12 m13 m15 f5 hQ => ?_⟩
  · have := r5 Q 0 o hod hlo (by omega) (fun o' h1 h2 => hQ o' ⟨p', lf', u, c, d, o', q, st_11, st_15, (st_kk (by decide) (by decide)).trans h30, (sU_ne _ _ (by decide)).trans h4, (sU_ne _ _ (by decide)).trans h5, sU_same _ _ _, (sU_ne _ _ (by decide)).trans h3, by omega, hc, r4, hq, r2, hu, hdu, hd, h1, h2, r3⟩)
    rw [st_e h11 h15, sU_e h17] at this
    exact ⟨_, this⟩
  · have := r6 FM GM w Q m12 m13 f5 hQ
    rw [st_e (m11.trans h11) (m15.trans h15)] at this
    exact this
