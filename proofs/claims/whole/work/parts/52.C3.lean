theorem EQA.sF {FX : FT} {GX : GT} {FM : FT} {GM : GT} (h : EQA FX GX FM GM) (k : Nat) (v : Int32) : EQA (sU FX k v) GX (sU FM k v) GM := by
  refine ⟨fun j hj h7 => ?_, h.2⟩
  by_cases e : j = k
  · subst e; rw [sU_same, sU_same]
  · rw [sU_ne _ _ e, sU_ne _ _ e]; exact h.1 j hj h7
theorem EQA.sX {FX : FT} {GX : GT} {FM : FT} {GM : GT} (h : EQA FX GX FM GM) (k : Nat) (hk : 9 ≤ k) (v : Int32) : EQA (sU FX k v) GX FM GM := ⟨fun j hj h7 => by rw [sU_ne _ _ (by omega)]; exact h.1 j hj h7, h.2⟩
theorem EQA.gG {FX : FT} {GX : GT} {FM : FT} {GM : GT} (h : EQA FX GX FM GM) (k : Nat) (f : Nat → Int32) : EQA FX (gU GX k f) FM (gU GM k f) := by
  refine ⟨h.1, fun j q1 q2 q3 => ?_⟩
  by_cases e : j = k
  · subst e; rw [gU_same, gU_same]
  · rw [gU_ne _ _ e, gU_ne _ _ e]; exact h.2 j q1 q2 q3
theorem EQA.st {FX : FT} {GX : GT} {FM : FT} {GM : GT} (h : EQA FX GX FM GM) (p lf : Nat → Nat) : EQA FX (st GX p lf) FM (st GM p lf) := (h.gG 11 _).gG 15 _
theorem EQA.sn {FX : FT} {GX : GT} {FM : FT} {GM : GT} (h : EQA FX GX FM GM) (A B : Nat → Int32) : EQA FX (sn GX A B) FM GM := ⟨h.1, fun k q1 q2 q3 => by rw [sn_kk (by omega) (by omega)]; exact h.2 k q1 q2 q3⟩
theorem EQ.sn {FX : FT} {GX : GT} {FM : FT} {GM : GT} (h : EQ FX GX FM GM) (A B : Nat → Int32) : EQ FX (sn GX A B) FM GM := by
  obtain ⟨a, b, c, d, e, g, i⟩ := h
  refine ⟨a, fun j q1 q2 q3 => ?_, fun i hi => ?_, fun l k hl hk => ?_, fun l k hl hk => ?_, fun l k hl hk => ?_, fun l hl => ?_⟩
  · rw [sn_kk (by omega) (by omega)]; exact b j q1 q2 q3
  · rw [sn_kk (by omega) (by omega)]; exact c i hi
  · rw [sn_kk (by omega) (by omega)]; exact d l k hl hk
  · rw [sn_kk (by omega) (by omega)]; exact e l k hl hk
  · rw [sn_kk (by omega) (by omega)]; exact g l k hl hk
  · rw [sn_kk (by omega) (by omega), sn_kk (by omega) (by omega), sn_kk (by omega) (by omega)]; exact i l hl
theorem EQ.st {FX : FT} {GX : GT} {FM : FT} {GM : GT} (h : EQ FX GX FM GM) (p lf : Nat → Nat) : EQ FX (st GX p lf) FM (st GM p lf) := (h.gG 11 (by omega) (by omega) (by omega) (by omega) (by omega) _).gG 15 (by omega) (by omega) (by omega) (by omega) (by omega) _
def BdA (F : FT) (G : GT) : Prop := (∀ i, pp (F 3) (G 12 i)) ∧ (∀ i, pp (F 3) (G 13 i)) ∧ (∀ i, pp (F 3) (G 24 i)) ∧ (∀ i, pp (F 3) (G 25 i)) ∧ (∀ i, bd (G 26 i) 100000)
def InvA (FX : FT) (GX : GT) (FM : FT) (GM : GT) : Prop := EQA FX GX FM GM ∧ Mon FX GX ∧ BdA FX GX
theorem Bds.a {F : FT} {G : GT} (h : Bds F G) : BdA F G := ⟨h.2.2.2.2.2.1, h.2.2.2.2.2.2.1, h.2.2.2.2.2.2.2.2.2.1, h.2.2.2.2.2.2.2.2.2.2.1, h.2.2.2.2.2.2.2.2.2.2.2.1⟩
theorem Inv.a {FX : FT} {GX : GT} {FM : FT} {GM : GT} {w : Int64} (h : Inv FX GX FM GM w) : InvA FX GX FM GM := ⟨h.1.a, h.2.1, h.2.2.a⟩
/-- a settlement on both sides -/
theorem settle_a {FX : FT} {GX : GT} {FM : FT} {GM : GT} (h : InvA FX GX FM GM) : ∃ p' lf' : Nat → Nat, (∀ (Q : FT → GT → Prop), (∀ (o' : Nat) (A B : Nat → Int32), InvA (sU FX 17 (nI o')) (st (sn GX A B) p' lf') FM (st GM p' lf') → Q (sU FX 17 (nI o')) (st (sn GX A B) p' lf')) → wp_X4_settle FX GX Q) ∧ (∀ (w : Int64) (Q : FT → GT → Int64 → Prop), Q FM (st GM p' lf') w → wp_X8_settle FM GM w Q) := by
  obtain ⟨he, hm, b12, b13, b24, b25, b26⟩ := h
  obtain ⟨p', lf', h1, h2⟩ := settle_i hm b12 b13
  refine ⟨p', lf', fun Q hQ => h1 Q (fun o' A B hm' => hQ o' A B ⟨((he.sX 17 (by omega) _).sn A B).st p' lf', hm', ?_⟩), fun w Q hQ => h2 FM GM w Q (he.2 11 (by omega) (by omega) (by omega)) (he.2 12 (by omega) (by omega) (by omega)) (he.2 13 (by omega) (by omega) (by omega)) (he.2 15 (by omega) (by omega) (by omega)) (he.1 5 (by omega) (by omega)) hQ⟩
  unfold BdA
  rw [sU_ne _ _ (by decide), st_kk (by decide) (by decide), sn_kk (by decide) (by decide), st_kk (by decide) (by decide), sn_kk (by decide) (by decide), st_kk (by decide) (by decide), sn_kk (by decide) (by decide), st_kk (by decide) (by decide), sn_kk (by decide) (by decide), st_kk (by decide) (by decide), sn_kk (by decide) (by decide)]
  exact ⟨b12, b13, b24, b25, b26⟩
/-- the money when a sale has just been undone: room for one more debt -/
def Mon1 (F : FT) (G : GT) : Prop :=
  ∃ (p lf u : Nat → Nat) (c d o q : Nat), G 11 = (fun i => nI (p i)) ∧ G 15 = (fun i => nI (lf i)) ∧ G 30 = (fun i => nI (u i)) ∧ F 4 = nI c ∧ F 5 = nI d ∧ F 17 = nI o ∧ F 3 = nI q ∧ sm p 16 ≤ c ∧ c ≤ 1000000000 ∧ (∀ i, q ≤ i → p i = 0) ∧ q ≤ 16 ∧ (∀ i, lf i ≤ 100000) ∧ (∀ i, u i ≤ 1) ∧ d + 1 ≤ sm u 80 ∧ d + 1 ≤ 80 ∧ o ≤ d ∧ (∀ i, i < o → lf i = 0) ∧ (∀ i, d ≤ i → lf i = 0)
theorem Mon.u {F : FT} {G G' : GT} {s : Nat} (h : Mon F G) (hs : s < 80) (h0 : G 30 s = 0) (h11 : G' 11 = G 11) (h15 : G' 15 = G 15) (h30 : G' 30 = upd (G 30) s 1) : Mon1 F G' := by
  obtain ⟨p, lf, u, c, d, o, q, g11, g15, g30, h4, h5, h17, h3, hsp, hc, hpq, hq, hlf, hu, hdu, hd, hod, hlo, hld⟩ := h
  have u0 : u s = 0 := by
    rw [g30] at h0
    exact (nI_eq (b := 0) (by have := hu s; omega) (by omega)).1 h0
  have hs1 := sm_nu (p := u) (k := s) (y := 1) 80 hs
  have hu' : ∀ i, nu u s 1 i ≤ 1 := fun i => by
    unfold nu; split
    · omega
    · exact hu i
  have hs2 := sm_le hu' 80
  refine ⟨p, lf, nu u s 1, c, d, o, q, h11.trans g11, h15.trans g15, ?_, h4, h5, h17, h3, hsp, hc, hpq, hq, hlf, hu', by omega, by omega, hod, hlo, hld⟩
  rw [h30, g30, show (1 : Int32) = nI 1 from rfl, upd_nI]
theorem Mon1.m {F : FT} {G : GT} (h : Mon1 F G) : Mon F G := by
  obtain ⟨p, lf, u, c, d, o, q, h11, h15, h30, h4, h5, h17, h3, hsp, hc, hpq, hq, hlf, hu, hdu, hd, hod, hlo, hld⟩ := h
  exact ⟨p, lf, u, c, d, o, q, h11, h15, h30, h4, h5, h17, h3, hsp, hc, hpq, hq, hlf, hu, by omega, by omega, hod, hlo, hld⟩
/-- a debt falls due on both sides, and all is settled -/
theorem due_a {FX : FT} {GX : GT} {FM : FT} {GM : GT} (he : EQA FX GX FM GM) (hm : Mon1 FX GX) (hb : BdA FX GX) {a b x : Int32} (ha : pp (FX 3) a) (hb' : pp (FX 3) b) (hx : bd x 100000) : ∃ (FM' : FT) (GM' : GT), (∀ (Q : FT → GT → Prop), (∀ (FX' : FT) (GX' : GT), InvA FX' GX' FM' GM' → (∀ k, k ≠ 5 → k ≠ 17 → FX' k = FX k) → (∀ k, (k < 11 ∨ 15 < k) ∧ k ≠ 46 ∧ k ≠ 47 → GX' k = GX k) → Q FX' GX') → wp_X4_due a b x FX GX (fun F2 G3 => wp_X4_settle F2 G3 Q)) ∧ (∀ (w : Int64) (Q : FT → GT → Int64 → Prop), Q FM' GM' w → wp_X8_due a b x FM GM w Q) ∧ (∀ k, k ≠ 5 → FM' k = FM k) ∧ (∀ k, k < 11 ∨ 15 < k → GM' k = GM k) := by
  obtain ⟨p, lf, u, c, d, o, q, h11, h15, h30, h4, h5, h17, h3, hsp, hc, hpq, hq, hlf, hu, hdu, hd, hod, hlo, hld⟩ := id hm
  rw [h3] at ha hb'
  obtain ⟨A, hA, hA', rfl⟩ := pp_q ha hq
  obtain ⟨B, hB, hB', rfl⟩ := pp_q hb' hq
  obtain ⟨P, hP, rfl⟩ := hx
  obtain ⟨b12, b13, b24, b25, b26⟩ := id hb
  have m11 : GM 11 = GX 11 := he.2 11 (by omega) (by omega) (by omega)
  have m12 : GM 12 = GX 12 := he.2 12 (by omega) (by omega) (by omega)
  have m13 : GM 13 = GX 13 := he.2 13 (by omega) (by omega) (by omega)
  have m14 : GM 14 = GX 14 := he.2 14 (by omega) (by omega) (by omega)
  have m15 : GM 15 = GX 15 := he.2 15 (by omega) (by omega) (by omega)
  have f5 : FM 5 = FX 5 := he.1 5 (by omega) (by omega)
  have pA := sm_ge (p := p) 16 hA'
  have pB := sm_ge (p := p) 16 hB'
  obtain ⟨v, hv⟩ : ∃ v, v = if p A < P then p A else P := ⟨_, rfl⟩
  have v1 : v ≤ p A := by rw [hv]; split <;> omega
  have v2 : v ≤ P := by rw [hv]; split <;> omega
  have xv : (if nI (p A) < nI P then nI (p A) else nI P) = nI v := by
    rw [hv]
    by_cases e : p A < P
    · rw [if_pos e, if_pos (nI_lt e (by omega))]
    · rw [if_neg e, if_neg (nI_nlt (by omega) (by omega))]
  have mv : ∀ Z : Int32 → Prop, Z (nI v) → (nI (p A) ≤ nI P → Z (nI (p A))) ∧ (¬ nI (p A) ≤ nI P → Z (nI P)) := by
    intro Z hZ
    refine ⟨fun e => ?_, fun e => ?_⟩
    · have e := (nI_leI (by omega) (by omega)).1 e
      by_cases e' : p A < P
      · rwa [hv, if_pos e'] at hZ
      · rwa [hv, if_neg e', show P = p A by omega] at hZ
    · have e : ¬ p A ≤ P := fun z => e ((nI_leI (by omega) (by omega)).2 z)
      rwa [hv, if_neg (by omega)] at hZ
  have hp1 : ∃ p1, p1 = nu (nu p A (p A - v)) B (nu p A (p A - v) B + v) := ⟨_, rfl⟩
  obtain ⟨p1, hp1⟩ := hp1
  have s1 := sm_nu (p := p) (k := A) (y := p A - v) 16 hA'
  have s2 := sm_nu (p := nu p A (p A - v)) (k := B) (y := nu p A (p A - v) B + v) 16 hB'
  have hs : sm p1 16 = sm p 16 := by rw [hp1]; omega
  have hpq1 : ∀ i, q ≤ i → p1 i = 0 := by
    intro i hi
    by_cases e : q = 0
    · have p0 : ∀ i, p i = 0 := fun i => hpq i (by omega)
      have v0 : v = 0 := by have := p0 A; omega
      rw [hp1, v0]
      unfold nu
      simp only [p0]
      split
      · split <;> rfl
      · split <;> rfl
    · rw [hp1, nu_n (by omega), nu_n (by omega)]; exact hpq i hi
  have x11 : upd (upd (fun i => nI (p i)) A (nI (p A - v))) B (nI (nu p A (p A - v) B + v)) = fun i => nI (p1 i) := by rw [upd_nI, upd_nI, hp1]
  by_cases hc' : P ≤ v
  · -- all paid
    obtain ⟨p', lf', r1, r2⟩ := settle_a (FX := FX) (GX := gU GX 11 (fun i => nI (p1 i))) (FM := FM) (GM := gU GM 11 (fun i => nI (p1 i))) ⟨he.gG 11 _, ⟨p1, lf, u, c, d, o, q, gU_same _ _ _, (gU_ne _ _ (by decide)).trans h15, (gU_ne _ _ (by decide)).trans h30, h4, h5, h17, h3, by omega, hc, hpq1, hq, hlf, hu, by omega, by omega, hod, hlo, hld⟩, by
      unfold BdA
      rw [gU_ne _ _ (by decide), gU_ne _ _ (by decide), gU_ne _ _ (by decide), gU_ne _ _ (by decide), gU_ne _ _ (by decide)]; exact hb⟩
    refine ⟨FM, st (gU GM 11 (fun i => nI (p1 i))) p' lf', fun Q hQ => ?_, fun w Q hQ => ?_, fun k _ => rfl, fun k hk => ?_⟩
    · simp (disch := decide) only [wp_X4_due, wp_X4_due_0, h11, vp_in_nI hA' (show 16 < 2 ^ 31 by omega), vp_in_nI hB' (show 16 < 2 ^ 31 by omega), nI_clamp (show A < 2 ^ 31 by omega), nI_clamp (show B < 2 ^ 31 by omega), xv, forall_eq, pk_sub v1, gU_same, upd_nI, nI_add, gU_i, le_ya hc' (show v < 2 ^ 31 by omega), not_true_eq_false, not_false_eq_true, false_implies, true_implies, and_true, true_and, true_or, or_true, ne_eq]
      rw [← hp1]
      exact r1 _ (fun o' A B h => hQ _ _ h (fun k q1 q2 => sU_ne _ _ q2) (fun k hk => by rw [st_kk (by omega) (by omega), sn_kk (by omega) (by omega), gU_ne _ _ (by omega)]))
    · simp only [wp_X8_due, wp_X8_due_0, m11, h11, vp_in_nI hA' (show 16 < 2 ^ 31 by omega), nI_clamp (show A < 2 ^ 31 by omega), not_true_eq_false, not_false_eq_true, false_implies, true_implies, and_true, true_and, true_or, or_true, ne_eq]
      refine mv (fun z => wp_X8_due_20 Q (nI A) (nI B) (nI P) z FM GM w) ?_
      simp (disch := decide) only [wp_X8_due_20, wp_X8_due_106, m11, h11, vp_in_nI hA' (show 16 < 2 ^ 31 by omega), vp_in_nI hB' (show 16 < 2 ^ 31 by omega), nI_clamp (show A < 2 ^ 31 by omega), nI_clamp (show B < 2 ^ 31 by omega), forall_eq, pk_sub v1, gU_same, upd_nI, nI_add, gU_i, le_ya hc' (show v < 2 ^ 31 by omega), not_true_eq_false, not_false_eq_true, false_implies, true_implies, and_true, true_and, true_or, or_true, ne_eq]
      rw [← hp1]
      exact r2 w _ hQ
    · rw [st_kk (by omega) (by omega), gU_ne _ _ (by omega)]
  · -- a debt is left
    have hd' : d < 80 := by omega
    obtain ⟨dG, hdG⟩ : ∃ dG : GT → GT, dG = fun G => gU (gU (gU (gU (gU G 11 (fun i => nI (p1 i))) 12 (upd (GX 12) d (nI A))) 13 (upd (GX 13) d (nI B))) 14 (upd (GX 14) d (nI (P - v)))) 15 (fun i => nI (nu lf d (P - v) i)) := ⟨_, rfl⟩
    have dG11 : ∀ G, dG G 11 = fun i => nI (p1 i) := fun G => by rw [hdG]; simp (disch := decide) only [gU_ne, gU_same]
    have dG12 : ∀ G, dG G 12 = upd (GX 12) d (nI A) := fun G => by rw [hdG]; simp (disch := decide) only [gU_ne, gU_same]
    have dG13 : ∀ G, dG G 13 = upd (GX 13) d (nI B) := fun G => by rw [hdG]; simp (disch := decide) only [gU_ne, gU_same]
    have dG15 : ∀ G, dG G 15 = fun i => nI (nu lf d (P - v) i) := fun G => by rw [hdG]; simp (disch := decide) only [gU_ne, gU_same]
    have dGk : ∀ G k, k < 11 ∨ 15 < k → dG G k = G k := fun G k hk => by rw [hdG]; show gU _ 15 _ k = G k; rw [gU_ne _ _ (by omega), gU_ne _ _ (by omega), gU_ne _ _ (by omega), gU_ne _ _ (by omega), gU_ne _ _ (by omega)]
    obtain ⟨p', lf', r1, r2⟩ := settle_a (FX := sU FX 5 (nI (d + 1))) (GX := dG GX) (FM := sU FM 5 (nI (d + 1))) (GM := dG GM) ⟨by rw [hdG]; exact (((((he.sF 5 _).gG 11 _).gG 12 _).gG 13 _).gG 14 _).gG 15 _, ⟨p1, nu lf d (P - v), u, c, d + 1, o, q, dG11 _, dG15 _, (dGk _ _ (by omega)).trans h30, (sU_ne _ _ (by decide)).trans h4, sU_same _ _ _, (sU_ne _ _ (by decide)).trans h17, (sU_ne _ _ (by decide)).trans h3, by omega, hc, hpq1, hq, fun i => by unfold nu; split; omega; exact hlf i, hu, by omega, by omega, by omega, fun i hi => by rw [nu_n (by omega)]; exact hlo i hi, fun i hi => by rw [nu_n (by omega)]; exact hld i (by omega)⟩, by
      unfold BdA
      rw [dG12, dG13, dGk _ 24 (by omega), dGk _ 25 (by omega), dGk _ 26 (by omega), sU_ne _ _ (by decide), h3]
      rw [h3] at b12 b13 b24 b25
      exact ⟨pp_upd b12 (pp_n hq hA), pp_upd b13 (pp_n hq hB), b24, b25, b26⟩⟩
    refine ⟨sU FM 5 (nI (d + 1)), st (dG GM) p' lf', fun Q hQ => ?_, fun w Q hQ => ?_, fun k hk => sU_ne _ _ hk, fun k hk => ?_⟩
    · simp (disch := decide) only [wp_X4_due, wp_X4_due_0, h11, h15, h5, vp_in_nI hA' (show 16 < 2 ^ 31 by omega), vp_in_nI hB' (show 16 < 2 ^ 31 by omega), vp_in_nI hd' (show 80 < 2 ^ 31 by omega), nI_clamp (show A < 2 ^ 31 by omega), nI_clamp (show B < 2 ^ 31 by omega), nI_clamp (show d < 2 ^ 31 by omega), xv, forall_eq, pk_sub v1, pk_sub v2, gU_same, gU_ne, upd_nI, nI_add, nI_1, gU_i, le_no (show v < P by omega) (show P < 2 ^ 31 by omega), show ¬ 80 ≤ nI d from le_no (b := 80) hd' (by omega), not_true_eq_false, not_false_eq_true, false_implies, true_implies, and_true, true_and, true_or, or_true, ne_eq]
      rw [← hp1]
      have r1' := r1 Q (fun o' A B h => hQ _ _ h (fun k q1 q2 => by rw [sU_ne _ _ q2, sU_ne _ _ q1]) (fun k hk => by rw [st_kk (by omega) (by omega), sn_kk (by omega) (by omega)]; exact dGk _ _ hk.1))
      rw [hdG] at r1'
      exact r1'
    · simp only [wp_X8_due, wp_X8_due_0, m11, h11, vp_in_nI hA' (show 16 < 2 ^ 31 by omega), nI_clamp (show A < 2 ^ 31 by omega), not_true_eq_false, not_false_eq_true, false_implies, true_implies, and_true, true_and, true_or, or_true, ne_eq]
      refine mv (fun z => wp_X8_due_20 Q (nI A) (nI B) (nI P) z FM GM w) ?_
      simp (disch := decide) only [wp_X8_due_20, wp_X8_due_106, m11, m12, m13, m14, m15, h11, h15, f5, h5, vp_in_nI hA' (show 16 < 2 ^ 31 by omega), vp_in_nI hB' (show 16 < 2 ^ 31 by omega), vp_in_nI hd' (show 80 < 2 ^ 31 by omega), nI_clamp (show A < 2 ^ 31 by omega), nI_clamp (show B < 2 ^ 31 by omega), nI_clamp (show d < 2 ^ 31 by omega), forall_eq, pk_sub v1, pk_sub v2, gU_same, gU_ne, upd_nI, nI_add, nI_1, gU_i, le_no (show v < P by omega) (show P < 2 ^ 31 by omega), not_true_eq_false, not_false_eq_true, false_implies, true_implies, and_true, true_and, true_or, or_true, ne_eq]
      rw [← hp1]
      have r2' := r2 w Q hQ
      rw [hdG] at r2'
      exact r2'
    · rw [st_kk (by omega) (by omega)]; exact dGk _ _ hk
