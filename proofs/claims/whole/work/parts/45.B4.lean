def hF (F : FT) : FT := if F 7 = 400 then F else sU F 7 (F 7 + 1)
def hG (F : FT) (G : GT) (z : Nat) (a how : Int32) : GT := if F 7 = 400 then G else gU (gU (gU (gU G 19 (upd (G 19) (F 7).toNatClampNeg (nI z))) 20 (upd (G 20) (F 7).toNatClampNeg a)) 21 (upd (G 21) (F 7).toNatClampNeg (F 0))) 22 (upd (G 22) (F 7).toNatClampNeg how)
theorem x_hd {F : FT} {G : GT} {z : Nat} {a how : Int32} {Q : FT → GT → Prop} (h7 : bd (F 7) 400) (hQ : Q (hF F) (hG F G z a how)) : wp_X0_add (nI z) a (F 0) how F G Q := by
  obtain ⟨n, hn, h7⟩ := h7
  by_cases e : n = 400
  · subst e
    have e' : F 7 = 400 := h7
    simp only [hF, hG, e', if_true] at hQ
    simp +decide only [wp_X0_add, wp_X0_add_0, e', not_true_eq_false, not_false_eq_true, false_implies, true_implies, and_true, true_and, true_or, or_true, ne_eq]
    exact hQ
  · have e' : ¬ F 7 = 400 := fun q => e ((nI_eq (b := 400) (by omega) (by omega)).1 (h7.symm.trans q))
    have i1 : vp_in (F 7) 400 := by rw [h7]; exact vp_in_nI (by omega) (by omega)
    have i2 : F 7 < 400 := by rw [h7]; exact nI_lt (b := 400) (by omega) (by omega)
    simp only [hF, hG, e', if_false] at hQ
    simp (disch := decide) only [wp_X0_add, wp_X0_add_0, i1, i2, forall_eq, gU_ne, not_true_eq_false, not_false_eq_true, false_implies, true_implies, and_true, true_and, true_or, or_true, ne_eq]
    exact hQ
theorem m_hd {F : FT} {G : GT} {w : Int64} {z : Nat} {a how : Int32} {Q : FT → GT → Int64 → Prop} (h7 : bd (F 7) 400) (hQ : Q (hF F) (hG F G z a how) w) : wp_X8_goes_56 Q (nI z) a how F G w := by
  obtain ⟨n, hn, h7⟩ := h7
  by_cases e : n = 400
  · subst e
    have e' : F 7 = 400 := h7
    simp only [hF, hG, e', if_true] at hQ
    simp +decide only [wp_X8_goes_56, e', not_true_eq_false, not_false_eq_true, false_implies, true_implies, and_true, true_and, true_or, or_true, ne_eq]
    exact hQ
  · have e' : ¬ F 7 = 400 := fun q => e ((nI_eq (b := 400) (by omega) (by omega)).1 (h7.symm.trans q))
    have i1 : vp_in (F 7) 400 := by rw [h7]; exact vp_in_nI (by omega) (by omega)
    simp only [hF, hG, e', if_false] at hQ
    simp (disch := decide) only [wp_X8_goes_56, i1, e', forall_eq, gU_ne, not_true_eq_false, not_false_eq_true, false_implies, true_implies, and_true, true_and, true_or, or_true, ne_eq]
    exact hQ
def mX (F : FT) (G : GT) (z : Nat) (a b : Int32) : GT := gU (gU (if G 16 z = G 17 z then gU G 18 (upd (G 18) z (F 8)) else G) 16 (upd (G 16) z a)) 17 (upd (G 17) z b)
def mM (F : FT) (G : GT) (z : Nat) (a b : Int32) : GT := if G 16 z = G 17 z ∧ a ≠ b then gU (gU (gU G 16 (upd (G 16) z a)) 17 (upd (G 17) z b)) 18 (upd (G 18) z (F 8)) else gU (gU G 16 (upd (G 16) z a)) 17 (upd (G 17) z b)
theorem x_mv {F : FT} {G : GT} {z : Nat} {a b : Int32} {Q : FT → GT → Prop} (hz : z < 40) (hQ : Q F (mX F G z a b)) : wp_X1_move (nI z) a b (F 8) F G Q := by
  have i1 : vp_in (nI z) 40 := vp_in_nI hz (by omega)
  have i2 : (nI z).toNatClampNeg = z := nI_clamp (by omega)
  by_cases e : G 16 z = G 17 z
  · simp only [mX, e, if_true] at hQ
    simp +decide (disch := decide) only [wp_X1_move, wp_X1_move_0, wp_X1_move_16, wp_X1_isApart, wp_X1_isApart_0, forall_eq, i1, i2, e, gU_ne, not_true_eq_false, not_false_eq_true, false_implies, true_implies, and_true, true_and, true_or, or_true, ne_eq]
    exact hQ
  · simp only [mX, e, if_false] at hQ
    simp +decide (disch := decide) only [wp_X1_move, wp_X1_move_0, wp_X1_move_16, wp_X1_isApart, wp_X1_isApart_0, forall_eq, i1, i2, e, gU_ne, not_true_eq_false, not_false_eq_true, false_implies, true_implies, and_true, true_and, true_or, or_true, ne_eq]
    exact hQ
theorem x_ld {F : FT} {G : GT} {z : Nat} {a b how : Int32} {Q : FT → GT → Prop} (hz : z < 40) (h7 : bd (F 7) 400) (hQ : Q (hF F) (hG F (mX F G z a b) z a how)) : wp_X7_lead (nI z) a b how F G Q := x_mv hz (x_hd h7 hQ)
theorem m_ld {F : FT} {G : GT} {w : Int64} {z : Nat} {a b how : Int32} {Q : FT → GT → Int64 → Prop} (hz : z < 40) (h7 : bd (F 7) 400) (hQ : Q (hF F) (hG F (mM F G z a b) z a how) w) : wp_X8_goes (nI z) a b how F G w Q := by
  have i1 : vp_in (nI z) 40 := vp_in_nI hz (by omega)
  have i2 : (nI z).toNatClampNeg = z := nI_clamp (by omega)
  have hd := m_hd (w := w) h7 hQ
  by_cases e : G 16 z = G 17 z
  · by_cases e2 : a = b
    · simp only [mM, e, e2, ne_eq, not_true_eq_false, and_false, if_false] at hd
      simp +decide (disch := decide) only [wp_X8_goes, wp_X8_goes_0, wp_X8_goes_20, forall_eq, i1, i2, e, e2, gU_ne, not_true_eq_false, not_false_eq_true, false_implies, true_implies, and_true, true_and, true_or, or_true, ne_eq]
      exact hd
    · simp only [mM, e, e2, ne_eq, not_false_eq_true, and_true, if_true] at hd
      simp +decide (disch := decide) only [wp_X8_goes, wp_X8_goes_0, wp_X8_goes_20, forall_eq, i1, i2, e, e2, gU_ne, not_true_eq_false, not_false_eq_true, false_implies, true_implies, and_true, true_and, true_or, or_true, ne_eq]
      exact hd
  · simp only [mM, e, false_and, if_false] at hd
    simp +decide (disch := decide) only [wp_X8_goes, wp_X8_goes_0, wp_X8_goes_20, forall_eq, i1, i2, e, gU_ne, not_true_eq_false, not_false_eq_true, false_implies, true_implies, and_true, true_and, true_or, or_true, ne_eq]
    exact hd
theorem hF_k {F : FT} {k : Nat} (h : k ≠ 7) : hF F k = F k := by
  unfold hF; split
  · rfl
  · exact sU_ne _ _ h
theorem hG_k {F : FT} {G : GT} {z : Nat} {a how : Int32} {k : Nat} (h : k < 19 ∨ 22 < k) : hG F G z a how k = G k := by
  unfold hG; split
  · rfl
  · rw [gU_ne _ _ (by omega), gU_ne _ _ (by omega), gU_ne _ _ (by omega), gU_ne _ _ (by omega)]
theorem mX_k {F : FT} {G : GT} {z : Nat} {a b : Int32} {k : Nat} (h : k < 16 ∨ 18 < k) : mX F G z a b k = G k := by
  unfold mX; rw [gU_ne _ _ (by omega), gU_ne _ _ (by omega)]
  split
  · rw [gU_ne _ _ (by omega)]
  · rfl
theorem mM_k {F : FT} {G : GT} {z : Nat} {a b : Int32} {k : Nat} (h : k < 16 ∨ 18 < k) : mM F G z a b k = G k := by
  unfold mM; split
  · rw [gU_ne _ _ (by omega), gU_ne _ _ (by omega), gU_ne _ _ (by omega)]
  · rw [gU_ne _ _ (by omega), gU_ne _ _ (by omega)]
theorem hd_b {F : FT} {G G0 : GT} {z : Nat} {a how : Int32} (h : ∀ k, 19 ≤ k → k ≤ 22 → G k = G0 k) : ((F 7 = 400 ∧ hF F 7 = F 7 ∧ ∀ k, 19 ≤ k → k ≤ 22 → hG F G z a how k = G0 k) ∨ (F 7 ≠ 400 ∧ hF F 7 = F 7 + 1 ∧ hG F G z a how 19 = upd (G0 19) (F 7).toNatClampNeg (nI z) ∧ hG F G z a how 20 = upd (G0 20) (F 7).toNatClampNeg a ∧ hG F G z a how 21 = upd (G0 21) (F 7).toNatClampNeg (F 0) ∧ hG F G z a how 22 = upd (G0 22) (F 7).toNatClampNeg how)) := by
  by_cases e : F 7 = 400
  · left
    simp only [hF, hG, e, if_true, true_and]
    exact h
  · right
    simp (disch := decide) only [hF, hG, e, if_false, sU_same, gU_same, gU_ne, true_and, not_false_eq_true, ne_eq]
    rw [h 19 (by omega) (by omega), h 20 (by omega) (by omega), h 21 (by omega) (by omega), h 22 (by omega) (by omega)]
    exact ⟨rfl, rfl, rfl, rfl⟩
theorem x_ldb {F : FT} {G : GT} {z : Nat} {a b how : Int32} : LdB F G z a b how (hF F) (hG F (mX F G z a b) z a how) := by
  refine ⟨?_, ?_, fun j hj => ?_, fun _ => ?_, hd_b (fun k h1 h2 => mX_k (by omega))⟩
  · rw [hG_k (by omega)]; unfold mX; rw [gU_ne _ _ (by decide), gU_same]
  · rw [hG_k (by omega)]; unfold mX; rw [gU_same]
  · rw [hG_k (by omega)]; unfold mX; rw [gU_ne _ _ (by decide), gU_ne _ _ (by decide)]
    split
    · rw [gU_same, upd_e, if_neg hj]
    · rfl
  · rw [hG_k (by omega)]; unfold mX; rw [gU_ne _ _ (by decide), gU_ne _ _ (by decide)]
    split
    · rw [gU_same, upd_e, if_pos rfl]
    · rfl
theorem m_ldb {F : FT} {G : GT} {z : Nat} {a b how : Int32} : LdB F G z a b how (hF F) (hG F (mM F G z a b) z a how) := by
  refine ⟨?_, ?_, fun j hj => ?_, fun hne => ?_, hd_b (fun k h1 h2 => mM_k (by omega))⟩
  · rw [hG_k (by omega)]; unfold mM
    split
    · rw [gU_ne _ _ (by decide), gU_ne _ _ (by decide), gU_same]
    · rw [gU_ne _ _ (by decide), gU_same]
  · rw [hG_k (by omega)]; unfold mM
    split
    · rw [gU_ne _ _ (by decide), gU_same]
    · rw [gU_same]
  · rw [hG_k (by omega)]; unfold mM
    split
    · rw [gU_same, upd_e, if_neg hj]
    · rw [gU_ne _ _ (by decide), gU_ne _ _ (by decide)]
  · rw [hG_k (by omega)]; unfold mM
    by_cases e : G 16 z = G 17 z
    · rw [if_pos ⟨e, hne⟩, if_pos e, gU_same, upd_e, if_pos rfl]
    · rw [if_neg (fun q => e q.1), if_neg e, gU_ne _ _ (by decide), gU_ne _ _ (by decide)]
theorem hF_bd {F : FT} (h : bd (F 7) 400) : bd (hF F 7) 400 := by
  obtain ⟨n, hn, e⟩ := h
  unfold hF
  by_cases c : F 7 = 400
  · rw [if_pos c]; exact ⟨n, hn, e⟩
  · rw [if_neg c, sU_same, e, nI_1]
    refine bd_n ?_
    have : n ≠ 400 := fun q => c (by rw [e, q]; rfl)
    omega
theorem hd_h {F : FT} {G : GT} {z n6 : Nat} {a how : Int32} (h : Hnd F G) (h6 : F 6 = nI n6) (hn : n6 ≤ 40) (hz : z < n6) : Hnd (hF F) (hG F G z a how) := by
  obtain ⟨m6, n7, e6, e7, q6, q7, hh⟩ := h
  have : m6 = n6 := (nI_eq (by omega) (by omega)).1 (e6.symm.trans h6)
  subst this
  by_cases c : F 7 = 400
  · refine ⟨m6, n7, ?_, ?_, q6, q7, ?_⟩
    · rw [hF_k (by decide)]; exact e6
    · unfold hF; rw [if_pos c]; exact e7
    · unfold hG; rw [if_pos c]; exact hh
  · have c' : n7 ≠ 400 := fun q => c (by rw [e7, q]; rfl)
    refine ⟨m6, n7 + 1, ?_, ?_, q6, by omega, fun i hi => ?_⟩
    · rw [hF_k (by decide)]; exact e6
    · unfold hF; rw [if_neg c, sU_same, e7, nI_1]
    · unfold hG
      rw [if_neg c, e7, nI_clamp (show n7 < 2 ^ 31 by omega)]
      simp (disch := decide) only [gU_ne, gU_same, upd_e]
      by_cases ci : i = n7
      · rw [if_pos ci]; exact ⟨z, hz, rfl⟩
      · rw [if_neg ci]; exact hh i (by omega)
theorem Hnd.cg {F F' : FT} {G G' : GT} (h : Hnd F G) (h6 : F' 6 = F 6) (h7 : F' 7 = F 7) (h19 : G' 19 = G 19) : Hnd F' G' := by
  unfold Hnd at h ⊢
  rw [h6, h7, h19]
  exact h
theorem x_ldB {F : FT} {G : GT} {z : Nat} {a b how : Int32} {n6 : Nat} (h6' : F 6 = nI n6) (hn : n6 ≤ 40) (hz : z < n6) (h : Bds F G) (ha : pp (F 3) a) (hb : pp (F 3) b) : Bds (hF F) (hG F (mX F G z a b) z a how) := by
  obtain ⟨h0, h2, h6, h7, h8, h12, h13, h16, h17, h24, h25, h26, h28, h18, hl, hh⟩ := h
  unfold Bds
  rw [hF_k (by decide : 0 ≠ 7), hF_k (by decide : 2 ≠ 7), hF_k (by decide : 3 ≠ 7), hF_k (by decide : 6 ≠ 7), hF_k (by decide : 8 ≠ 7), hG_k (k := 12) (by omega), hG_k (k := 13) (by omega), hG_k (k := 16) (by omega), hG_k (k := 17) (by omega), hG_k (k := 24) (by omega), hG_k (k := 25) (by omega), hG_k (k := 26) (by omega), hG_k (k := 28) (by omega), hG_k (k := 18) (by omega), mX_k (k := 12) (by omega), mX_k (k := 13) (by omega), mX_k (k := 24) (by omega), mX_k (k := 25) (by omega), mX_k (k := 26) (by omega), mX_k (k := 28) (by omega)]
  refine ⟨h0, h2, h6, hF_bd h7, h8, h12, h13, ?_, ?_, h24, h25, h26, h28, ?_, fun l k hl' => ?_, hd_h (hh.cg rfl rfl (mX_k (by omega))) h6' hn hz⟩
  · unfold mX; rw [gU_ne _ _ (by decide), gU_same]; exact pp_upd h16 ha
  · unfold mX; rw [gU_same]; exact pp_upd h17 hb
  · unfold mX; rw [gU_ne _ _ (by decide), gU_ne _ _ (by decide)]
    split
    · rw [gU_same]; exact bd_upd h18 h8
    · exact h18
  · rw [hG_k (by omega), mX_k (by omega)]; exact hl l k hl'
/-- both sides lead: what held before holds after -/
theorem ld_inv {FX : FT} {GX : GT} {FM : FT} {GM : GT} {w : Int64} {z : Nat} {a b how : Int32} {n6 : Nat} (h6' : FX 6 = nI n6) (hn : n6 ≤ 40) (hz : z < n6) (h : Inv FX GX FM GM w) (ha : pp (FX 3) a) (hb : pp (FX 3) b) : Inv (hF FX) (hG FX (mX FX GX z a b) z a how) (hF FM) (hG FM (mM FM GM z a b) z a how) w := by
  obtain ⟨he, hm, hB⟩ := h
  refine ⟨he.of ⟨fun k h1 h2 => ?_, fun k h1 h2 h3 => ?_⟩ (he.b.ld (he.1 0 (by omega)) (he.1 8 (by omega)) (by omega) x_ldb m_ldb) (fun k hk => ?_) (fun k hk => ?_), hm.cg (fun k hk => hF_k (by omega)) (fun k hk => ?_), x_ldB h6' hn hz hB ha hb⟩
  · rw [hF_k h2, hF_k h2]; exact he.1 k h1
  · rw [hG_k (by omega), hG_k (by omega), mX_k (by omega), mM_k (by omega)]; exact he.2.1 k h1 h2 (by omega)
  · rw [hG_k (by omega), mX_k (by omega)]
  · rw [hG_k (by omega), mM_k (by omega)]
  · rw [hG_k (by omega), mX_k (by omega)]
