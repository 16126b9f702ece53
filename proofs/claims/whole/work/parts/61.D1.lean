theorem lo8 (z : Int32) : ((z.toBitVec.toNat % 2 ^ 8 : Nat) : Int) = z.toInt % 256 := by
  have h1 := BitVec.toInt_eq_toNat_cond z.toBitVec
  have h2 : z.toInt = z.toBitVec.toInt := rfl
  have h3 := z.toBitVec.isLt
  rw [h2, h1]
  split <;> omega
theorem byt (x : Int32) (s : Nat) (hs : s = 0 ∨ s = 8 ∨ s = 16 ∨ s = 24) : (x.toUInt32 >>> ((nI s).toUInt32 &&& Int32.toUInt32 31)).toInt32 &&& 255 = (vp_nar .byte ((x >>> (nI s &&& 31)).toInt8.toInt32)) &&& 255 := by
  rw [pk_vb]
  rw [pk_and _ 8 rfl, pk_and _ 8 rfl]
  congr 1
  refine Int.ofNat_inj.mp ?_
  rw [lo8 ((x >>> (nI s &&& 31)).toInt8.toInt32), Int8.toInt_toInt32, Int32.toInt_toInt8]
  have hb : ∀ a : Int, a.bmod (2 ^ 8) % 256 = a % 256 := fun a => by
    have := @Int.bmod_emod a 256
    exact this
  rw [hb]
  have h1 := BitVec.toInt_eq_toNat_cond x.toBitVec
  have h3 := x.toBitVec.isLt
  have h2 : x.toInt = x.toBitVec.toInt := rfl
  rcases hs with rfl | rfl | rfl | rfl
  · rw [pk_ushr x (nI 0) 0 (by decide), pk_shr x (nI 0 &&& 31) 0 (by decide), Int.shiftRight_eq_div_pow, h2, h1]
    split <;> omega
  · rw [pk_ushr x (nI 8) 8 (by decide), pk_shr x (nI 8 &&& 31) 8 (by decide), Int.shiftRight_eq_div_pow, h2, h1]
    split <;> omega
  · rw [pk_ushr x (nI 16) 16 (by decide), pk_shr x (nI 16 &&& 31) 16 (by decide), Int.shiftRight_eq_div_pow, h2, h1]
    split <;> omega
  · rw [pk_ushr x (nI 24) 24 (by decide), pk_shr x (nI 24 &&& 31) 24 (by decide), Int.shiftRight_eq_div_pow, h2, h1]
    split <;> omega
def bX (x s : Int32) : Int32 := vp_nar .byte ((x >>> (s &&& 31))).toInt8.toInt32
def bM (x s : Int32) : Int32 := (x.toUInt32 >>> (s.toUInt32 &&& Int32.toUInt32 31)).toInt32 &&& 255
def tX (G : GT) (t : Nat) (x : Int32) : GT := gU G 40 (upd (upd (upd (upd (G 40) t (bX x 24)) (t + 1) (bX x 16)) (t + 2) (bX x 8)) (t + 3) (bX x 0))
def tM (G : GT) (t : Nat) (x : Int32) : GT := gU G 50 (upd (upd (upd (upd (G 50) t (bM x 24)) (t + 1) (bM x 16)) (t + 2) (bM x 8)) (t + 3) (bM x 0))
theorem bXM (x : Int32) : bM x 24 = bX x 24 &&& 255 ∧ bM x 16 = bX x 16 &&& 255 ∧ bM x 8 = bX x 8 &&& 255 ∧ bM x 0 = bX x 0 &&& 255 := ⟨byt x 24 (by omega), byt x 16 (by omega), byt x 8 (by omega), byt x 0 (by omega)⟩
theorem x_app {F : FT} {G : GT} {x : Int32} {t : Nat} (h2 : F 2 = nI t) (ht : t + 4 ≤ 320) {Q : FT → GT → Prop} (hQ : Q (sU F 2 (nI (t + 4))) (tX G t x)) : wp_X6_append x F G Q := by
  have k : ∀ i, i < 4 → ¬ 320 ≤ nI (t + i) := fun i hi => le_no (b := 320) (by omega) (by omega)
  have v : ∀ i, i < 4 → vp_in (nI (t + i)) 320 := fun i hi => vp_in_nI (by omega) (by omega)
  have c : ∀ i, i < 4 → (nI (t + i)).toNatClampNeg = t + i := fun i hi => nI_clamp (by omega)
  refine ⟨5, ?_⟩
  simp +decide only [wp_X6_append_3, forall_eq, h2, sU_same, gU_same, sU_i, gU_i, nI_1, Nat.add_assoc, show ¬ 320 ≤ nI t from k 0 (by omega), show vp_in (nI t) 320 from v 0 (by omega), show (nI t).toNatClampNeg = t from c 0 (by omega), k 1 (by omega), v 1 (by omega), c 1 (by omega), k 2 (by omega), v 2 (by omega), c 2 (by omega), k 3 (by omega), v 3 (by omega), c 3 (by omega), not_true_eq_false, not_false_eq_true, false_implies, true_implies, and_true, true_and, true_or, or_true, ne_eq]
  exact hQ
theorem m_app {F : FT} {G : GT} {w : Int64} {x : Int32} {t : Nat} (h2 : F 2 = nI t) (ht : t + 4 ≤ 320) {Q : FT → GT → Int64 → Prop} (hQ : Q (sU F 2 (nI (t + 4))) (tM G t x) w) : wp_X8_come x F G w Q := by
  have v : ∀ i, i < 4 → vp_in (nI (t + i)) 320 := fun i hi => vp_in_nI (by omega) (by omega)
  have c : ∀ i, i < 4 → (nI (t + i)).toNatClampNeg = t + i := fun i hi => nI_clamp (by omega)
  refine ⟨5, ?_⟩
  simp +decide only [wp_X8_come_3, forall_eq, h2, sU_same, gU_same, sU_i, gU_i, nI_1, Nat.add_assoc, show vp_in (nI t) 320 from v 0 (by omega), show (nI t).toNatClampNeg = t from c 0 (by omega), v 1 (by omega), c 1 (by omega), v 2 (by omega), c 2 (by omega), v 3 (by omega), c 3 (by omega), not_true_eq_false, not_false_eq_true, false_implies, true_implies, and_true, true_and, true_or, or_true, ne_eq]
  exact hQ
theorem ap_inv {FX : FT} {GX : GT} {FM : FT} {GM : GT} {w : Int64} {x : Int32} {t : Nat} (hI : Inv FX GX FM GM w) (ht : t + 4 ≤ 320) : Inv (sU FX 2 (nI (t + 4))) (tX GX t x) (sU FM 2 (nI (t + 4))) (tM GM t x) w := by
  obtain ⟨he, hm, hb⟩ := hI
  obtain ⟨a, b, c, d, e, g, i⟩ := he.sF 2 (nI (t + 4))
  obtain ⟨x3, x2, x1, x0⟩ := bXM x
  refine ⟨⟨a, fun k h1 h2 h3 => ?_, fun k hk => ?_, ?_, ?_, ?_, ?_⟩, hm.cg (fun k hk => sU_ne _ _ (by omega)) (fun k hk => gU_ne _ _ (by omega)), ?_⟩
  · unfold tX tM; rw [gU_ne _ _ (by omega), gU_ne _ _ (by omega)]; exact b k h1 h2 h3
  · unfold tX tM; rw [gU_same, gU_same]
    simp only [upd_e]
    by_cases c3 : k = t + 3
    · rw [if_pos c3, if_pos c3]; exact x0
    rw [if_neg c3, if_neg c3]
    by_cases c2 : k = t + 2
    · rw [if_pos c2, if_pos c2]; exact x1
    rw [if_neg c2, if_neg c2]
    by_cases c1 : k = t + 1
    · rw [if_pos c1, if_pos c1]; exact x2
    rw [if_neg c1, if_neg c1]
    by_cases c0 : k = t
    · rw [if_pos c0, if_pos c0]; exact x3
    rw [if_neg c0, if_neg c0]; exact c k hk
  · intro l k hl hk
    unfold tX tM; rw [gU_ne _ _ (by omega), gU_ne _ _ (by omega)]; exact d l k hl hk
  · intro l k hl hk
    unfold tX tM; rw [gU_ne _ _ (by omega), gU_ne _ _ (by omega)]; exact e l k hl hk
  · intro l k hl hk
    unfold tX tM; rw [gU_ne _ _ (by omega), gU_ne _ _ (by omega)]; exact g l k hl hk
  · unfold tX tM; rw [gU_ne _ _ (by omega), gU_ne _ _ (by omega), gU_ne _ _ (by omega), gU_ne _ _ (by omega)]; exact i
  · obtain ⟨b0, b2, b6, b7, b8, b12, b13, b16, b17, b24, b25, b26, b28, b18, bl, bh⟩ := hb
    unfold Bds tX
    simp (disch := decide) only [sU_ne, sU_same, gU_ne]
    refine ⟨b0, bd_n ht, b6, b7, b8, b12, b13, b16, b17, b24, b25, b26, b28, b18, fun l k hl => ?_, Hnd.cg bh (sU_ne _ _ (by decide)) (sU_ne _ _ (by decide)) (gU_ne _ _ (by decide))⟩
    rw [gU_ne _ _ (by omega)]; exact bl l k hl
theorem stp_feed : Stp_feed Inv := by
  intro FX GX FM GM w hI x1 x2 x3 x4 x5
  obtain ⟨t, ht, h2⟩ := hI.2.2.2.1
  have hIt := hI.t (z := 0)
  have m2 : sU FM 20 0 2 = nI t := by rw [sU_ne _ _ (by decide), hI.1.F.2.2.1, h2]
  simp only [wp_X7_feed, wp_X7_feed_0, wp_X8_feed, wp_X8_feed_0, forall_eq, m2, h2, show (20 : Int32) = nI 20 from rfl, show (300 : Int32) = nI 300 from rfl, show (320 : Int32) = nI 320 from rfl, nI_add, nI_leI (show t < 2 ^ 31 by omega) (show 300 < 2 ^ 31 by omega), nI_leI (show t + 20 < 2 ^ 31 by omega) (show 320 < 2 ^ 31 by omega)]
  by_cases c : t ≤ 300
  · have c' : t + 20 ≤ 320 := by omega
    simp only [c, c', not_true_eq_false, not_false_eq_true, false_implies, true_implies, and_true, true_and, true_or, or_true, ne_eq]
    refine x_app h2 (by omega) ?_
    refine x_app (t := t + 4) (sU_same _ _ _) (by omega) ?_
    refine x_app (t := t + 4 + 4) (sU_same _ _ _) (by omega) ?_
    refine x_app (t := t + 4 + 4 + 4) (sU_same _ _ _) (by omega) ?_
    refine x_app (t := t + 4 + 4 + 4 + 4) (sU_same _ _ _) (by omega) ?_
    refine m_app m2 (by omega) ?_
    refine m_app (t := t + 4) (sU_same _ _ _) (by omega) ?_
    refine m_app (t := t + 4 + 4) (sU_same _ _ _) (by omega) ?_
    refine m_app (t := t + 4 + 4 + 4) (sU_same _ _ _) (by omega) ?_
    refine m_app (t := t + 4 + 4 + 4 + 4) (sU_same _ _ _) (by omega) ?_
    refine ⟨by rw [sU_same, sU_same], ?_⟩
    exact ap_inv (ap_inv (ap_inv (ap_inv (ap_inv hIt (by omega)) (by omega)) (by omega)) (by omega)) (by omega)
  · have c' : ¬ t + 20 ≤ 320 := by omega
    simp only [c, c', not_true_eq_false, not_false_eq_true, false_implies, true_implies, and_true, true_and, true_or, or_true, ne_eq]
    exact ⟨rfl, hIt⟩
