/-- what was seen leads here by some payments -/
def Seen (D C : Nat → Nat) (d q : Nat) (A B : Nat → Int32) (p lf : Nat → Nat) : Prop := ∃ (j : Nat) (ps ls : Nat → Nat), (∀ i, i < q → A i = nI (ps i)) ∧ (∀ i, i < d → B i = nI (ls i)) ∧ Ok q d ps ls ∧ Pn D C d j ps ls p lf
section SETTL3
variable {F : FT} {G : GT} {D C : Nat → Nat} {d q : Nat}
theorem settle_t (h3 : F 3 = nI q) (hq16 : q ≤ 16) (h5 : F 5 = nI d) (hd : d ≤ 80) {p lf : Nat → Nat} (ho : Ok q d p lf) {A B : Nat → Int32} {x : Nat} (hx : x < 2 ^ 31) (hs : 33 ≤ x → Seen D C d q A B p lf) {Q : FT → GT → Prop} {kb : Int32 → FT → GT → Prop} (hk : ∀ A B : Nat → Int32, (32 ≤ x → Seen D C d q A B p lf) → kb (nI x) F (st (sn G A B) p lf)) : wp_X4_settle_35 Q kb (nI x) F (st (sn G A B) p lf) := by
  have e : nI x - nI x / (32 : Int32) * (32 : Int32) = nI (x % 32) := pk_rem (d := 32) hx (by omega) (by omega)
  unfold wp_X4_settle_35
  rw [e]
  refine ⟨fun c => hk A B (fun h => hs ?_), fun c => x_see h3 hq16 h5 hd (fun A' B' hA hB => hk A' B' (fun _ => ⟨0, p, lf, hA, hB, ho, rfl, rfl⟩))⟩
  by_cases e : x = 32
  · subst e; exact absurd rfl c
  · omega
theorem settle_x (h12 : G 12 = fun i => nI (D i)) (h13 : G 13 = fun i => nI (C i)) (hD : ∀ i, D i < 16) (hC : ∀ i, C i < 16) (h3 : F 3 = nI q) (hq16 : q ≤ 16) (h5 : F 5 = nI d) (hd : d ≤ 80) (hq : ∀ i, C i ≤ q - 1) {p' lf' : Nat → Nat} (hs : stuck D d p' lf') {Q : FT → GT → Prop} (hQ : ∀ (o' : Nat) (A B : Nat → Int32), o' ≤ d → (∀ i, i < o' → lf' i = 0) → Q (sU F 17 (nI o')) (st (sn G A B) p' lf')) : ∀ (n m : Nat) (p lf : Nat → Nat), m < n → Pn D C d m p lf p' lf' → Ok q d p lf → ∀ (x1 o : Nat) (A B : Nat → Int32), o ≤ d → (∀ i, i < o → lf i = 0) → x1 + sm lf 80 ≤ 8000000 → (32 ≤ x1 → Seen D C d q A B p lf) → wp_X4_settle_2 Q n (nI x1) (sU F 17 (nI o)) (st (sn G A B) p lf) := by
  have g12 : ∀ A B : Nat → Int32, sn G A B 12 = fun i => nI (D i) := fun A B => (sn_kk (by decide) (by decide)).trans h12
  have g13 : ∀ A B : Nat → Int32, sn G A B 13 = fun i => nI (C i) := fun A B => (sn_kk (by decide) (by decide)).trans h13
  have f3 : ∀ o : Nat, sU F 17 (nI o) 3 = nI q := fun o => (sU_ne _ _ (by decide)).trans h3
  have f5 : ∀ o : Nat, sU F 17 (nI o) 5 = nI d := fun o => (sU_ne _ _ (by decide)).trans h5
  intro n
  induction n with
  | zero => intro m p lf hm; exact absurd hm (Nat.not_lt_zero m)
  | succ n ih =>
    intro m p lf hm hP ho x1 o A B hod hlo hx hsn
    rw [wp_X4_settle_2]
    cases m with
    | zero =>
      obtain ⟨rfl, rfl⟩ := hP
      exact ⟨fun _ => hQ o A B hod hlo, fun _ => ⟨d - o + 1, x_old (g12 A B) (g13 A B) hD hC h5 hd ho.1 ho.2.1 (fun o' q1 q2 q3 => ⟨.inl rfl, fun _ => hQ o' A B q1 q2, fun c => absurd rfl c⟩) (fun o' z q1 q2 q3 q4 q5 => absurd (hs z q3) q4) (d - o) o (by omega) hlo⟩⟩
    | succ m =>
      obtain ⟨z, ⟨hz, haz, hmin⟩, hP⟩ := hP
      have hlt := py_lt hd hz haz
      have ho1 := ho.py hD hC hq haz
      refine ⟨fun c => absurd c (le_no (b := 8000000) (by omega) (by omega)), fun _ => ⟨d - o + 1, x_old (g12 A B) (g13 A B) hD hC h5 hd ho.1 ho.2.1 (fun o' q1 q2 q3 => absurd (q3 z hz) haz) (fun o' z' q1 q2 q3 q4 q5 => ⟨.inr rfl, fun c => absurd c (by decide), fun _ => ?_⟩) (d - o) o (by omega) hlo⟩⟩
      have : z' = z := by
        rcases Nat.lt_trichotomy z' z with c | c | c
        · exact absurd (hmin z' c) q4
        · exact c
        · exact absurd (q5 z c) haz
      subst this
      intro v hv
      subst hv
      rw [nI_1]
      have hone : Pn D C d 1 p lf (pyP p lf D C z') (pyL p lf D z') := Pn_one hz haz hmin
      have hlo1 : ∀ i, i < o' → pyL p lf D z' i = 0 := fun i hi => by have := py_le (p := p) (lf := lf) (D := D) (z := z') i; have := q2 i hi; omega
      have sn1 : 33 ≤ x1 + 1 → Seen D C d q A B (pyP p lf D C z') (pyL p lf D z') := fun h => by
        obtain ⟨j, ps, ls, s1, s2, s3, s4⟩ := hsn (by omega)
        exact ⟨j + 1, ps, ls, s1, s2, s3, Pn_app j s4 hone⟩
      have t1 : wp_X4_settle_35 Q (fun x1 F G => wp_X4_settle_2 Q n x1 F G) (nI (x1 + 1)) (sU F 17 (nI o')) (st (sn G A B) (pyP p lf D C z') (pyL p lf D z')) :=
        settle_t (f3 o') hq16 (f5 o') hd ho1 (by omega) sn1 (fun A' B' h => ih m _ _ (by omega) hP ho1 (x1 + 1) o' A' B' q1 hlo1 (by omega) h)
      refine ⟨fun _ => t1, fun c => ?_⟩
      have c' : 33 ≤ x1 + 1 := Decidable.byContradiction (fun q => c (le_ya (a := 32) (by omega) (by omega)))
      refine x_rd (f3 o') hq16 ⟨fun _ => t1, fun c => absurd rfl c⟩ (fun hA => ⟨fun c => absurd c (by decide), fun _ => ?_⟩)
      obtain ⟨j, ps, ls, s1, s2, s3, s4⟩ := sn1 c'
      have eps : ps = pyP p lf D C z' := by
        funext i
        by_cases hi : i < q
        · have b1 := sm_ge (p := ps) (k := i) 16 (by omega)
          have b2 := sm_ge (p := pyP p lf D C z') (k := i) 16 (by omega)
          have b3 := s3.1
          have b4 := ho1.1
          exact ((nI_eq (by omega) (by omega)).1 ((hA i hi).trans (s1 i hi))).symm
        · rw [s3.2.2.2 i (by omega), ho1.2.2.2 i (by omega)]
      rw [eps] at s4
      refine x_skr (f3 o') hq16 (f5 o') hd s2 (Pn_le j s4) s3.2.1 ho1.2.2.1 (fun r A' B' hr hA' hB' => ?_)
      have hr' : ∀ i, r * (ls i - pyL p lf D z' i) ≤ pyL p lf D z' i := fun i => by
        by_cases hi : i < d
        · exact hr i hi
        · rw [s3.2.2.1 i (by omega), ho1.2.2.1 i (by omega)]; exact Nat.le_refl _
      obtain ⟨k, hk⟩ := Pn_rd s4 r hr'
      obtain ⟨m2, hm2, hP2⟩ := Pn_cut hs k m hk hP
      have hle := Pn_le k hk
      have ho2 : Ok q d (pyP p lf D C z') (fun i => pyL p lf D z' i - r * (ls i - pyL p lf D z' i)) := ⟨ho1.1, fun i => Nat.le_trans (hle i) (ho1.2.1 i), fun i hi => Nat.le_zero.mp (ho1.2.2.1 i hi ▸ hle i), ho1.2.2.2⟩
      have hsm := sm_mono hle 80
      exact settle_t (f3 o') hq16 (f5 o') hd ho2 (by omega) (fun _ => ⟨0, _, _, hA', hB', ho2, rfl, rfl⟩) (fun A2 B2 h => ih m2 _ _ (by omega) hP2 ho2 (x1 + 1) o' A2 B2 q1 (fun i hi => Nat.le_zero.mp (hlo1 i hi ▸ hle i)) (by omega) h)
end SETTL3
/-- both sides settle: the same purses, the same left; all else as it was, but for what one side has seen -/
theorem settle_i {F : FT} {G : GT} (hm : Mon F G) (h12 : ∀ i, pp (F 3) (G 12 i)) (h13 : ∀ i, pp (F 3) (G 13 i)) : ∃ p' lf' : Nat → Nat, (∀ (Q : FT → GT → Prop), (∀ (o' : Nat) (A B : Nat → Int32), Mon (sU F 17 (nI o')) (st (sn G A B) p' lf') → Q (sU F 17 (nI o')) (st (sn G A B) p' lf')) → wp_X4_settle F G Q) ∧ (∀ (FM : FT) (GM : GT) (w : Int64) (Q : FT → GT → Int64 → Prop), GM 11 = G 11 → GM 12 = G 12 → GM 13 = G 13 → GM 15 = G 15 → FM 5 = F 5 → Q FM (st GM p' lf') w → wp_X8_settle FM GM w Q) := by
  obtain ⟨p, lf, u, c, d, o, q, h11, h15, h30, h4, h5, h17, h3, hsp, hc, hpq, hq, hlf, hu, hdu, hd, hod, hlo, hld⟩ := hm
  rw [h3] at h12 h13
  obtain ⟨D, hD1, hD2, hD3⟩ := pp_D hq h12
  obtain ⟨C, hC1, hC2, hC3⟩ := pp_D hq h13
  have hS := sm_le hlf 80
  have ho : Ok q d p lf := ⟨by omega, hlf, hld, hpq⟩
  obtain ⟨m, p', lf', hP, hst, ho', hsm⟩ := Pn_ex hD2 hC2 hd hC3 8000000 p lf ho (by omega)
  refine ⟨p', lf', fun Q hQ => ?_, fun FM GM w Q m11 m12 m13 m15 f5 hQ => ?_⟩
  · have := settle_x (G := G) hD1 hC1 hD2 hC2 h3 hq h5 hd hC3 hst (Q := Q) (fun o' A B h1 h2 => hQ o' A B ⟨p', lf', u, c, d, o', q, st_11, st_15, (st_kk (by decide) (by decide)).trans ((sn_kk (by decide) (by decide)).trans h30), (sU_ne _ _ (by decide)).trans h4, (sU_ne _ _ (by decide)).trans h5, sU_same _ _ _, (sU_ne _ _ (by decide)).trans h3, by omega, hc, ho'.2.2.2, hq, ho'.2.1, hu, hdu, hd, h1, h2, ho'.2.2.1⟩) (m + 1) m p lf (by omega) hP ho 0 o (G 46) (G 47) hod hlo (by omega) (fun h => absurd h (by omega))
    rw [sn_e, st_e h11 h15, sU_e h17] at this
    exact ⟨_, this⟩
  · have := settle_m (F := FM) (G := GM) (m12.trans hD1) (m13.trans hC1) hD2 hC2 (f5.trans h5) hd hC3 hst hQ m p lf ho hP
    rw [st_e (m11.trans h11) (m15.trans h15)] at this
    exact this
