def plc (g : Nat → Int32) (x : Int32) (r : Nat) : Nat → Nat → Nat → Int32
  | 0, _, _ => -1
  | m + 1, i, c => if g i = x then (if c = r then nI i else plc g x r m (i + 1) (c + 1)) else plc g x r m (i + 1) c
def cn (g : Nat → Int32) (x : Int32) : Nat → Nat → Nat
  | 0, _ => 0
  | m + 1, i => (if g i = x then 1 else 0) + cn g x m (i + 1)
theorem fo_cn {g : Nat → Int32} {x : Int32} : ∀ m i a, fo (s_eq g x) m i (nI a) = nI (a + cn g x m i)
  | 0, i, a => rfl
  | m + 1, i, a => by
    rw [fo, cn]
    by_cases c : g i = x
    · rw [s_eq, if_pos c, if_pos c, nI_1, fo_cn m (i + 1) (a + 1)]
      congr 1; omega
    · rw [s_eq, if_neg c, if_neg c, fo_cn m (i + 1) a]
      congr 1; omega
theorem cn_le {g : Nat → Int32} {x : Int32} : ∀ m i, cn g x m i ≤ m
  | 0, i => Nat.le_refl 0
  | m + 1, i => by
    have := cn_le (g := g) (x := x) m (i + 1)
    rw [cn]; split <;> omega
theorem cn_0 {g : Nat → Int32} {x : Int32} : ∀ m i, (∀ k, i ≤ k → k < i + m → g k ≠ x) → cn g x m i = 0
  | 0, i, _ => rfl
  | m + 1, i, h => by
    rw [cn, if_neg (h i (by omega) (by omega)), cn_0 m (i + 1) (fun k h1 h2 => h k (by omega) (by omega))]
theorem plc_no {g : Nat → Int32} {x : Int32} {r : Nat} : ∀ m i c, c + cn g x m i ≤ r → plc g x r m i c = -1
  | 0, i, c, h => rfl
  | m + 1, i, c, h => by
    rw [cn] at h
    rw [plc]
    by_cases e : g i = x
    · rw [if_pos e] at h ⊢
      rw [if_neg (by omega)]
      exact plc_no m (i + 1) (c + 1) (by omega)
    · rw [if_neg e] at h ⊢
      exact plc_no m (i + 1) c (by omega)
theorem x_plc {Q : Int32 → FT → GT → Prop} {F : FT} {G : GT} {x1 : Int32} {r e : Nat} (hr : r < 2 ^ 31) (h7 : F 7 = nI e) (he : e ≤ 400) : ∀ m i c, i + m = e → c ≤ i → Q (plc (G 19) x1 r m i c) F G → wp_X0_placeOf_5 Q (m + 1) x1 (nI r) (nI c) (nI i) F G
  | 0, i, c, hi, hc, hQ => by
    simp only [wp_X0_placeOf_5, h7, le_ya (show e ≤ i by omega) (by omega), not_true_eq_false, not_false_eq_true, false_implies, true_implies, and_true, true_and, true_or, or_true, ne_eq]
    exact hQ
  | m + 1, i, c, hi, hc, hQ => by
    rw [wp_X0_placeOf_5]
    simp only [h7, le_no (show i < e by omega) (by omega), vp_in_nI (show i < 400 by omega) (show 400 < 2 ^ 31 by omega), nI_clamp (show i < 2 ^ 31 by omega), nI_eq (show c < 2 ^ 31 by omega) hr, forall_eq, nI_1, not_true_eq_false, not_false_eq_true, false_implies, true_implies, and_true, true_and, true_or, or_true, ne_eq]
    rw [plc] at hQ
    refine ⟨fun q => ?_, fun q => ⟨fun q' => ?_, fun q' => ?_⟩⟩
    · exact x_plc hr h7 he m (i + 1) c (by omega) (by omega) (by rwa [if_neg q] at hQ)
    · exact x_plc hr h7 he m (i + 1) (c + 1) (by omega) (by omega) (by rwa [if_pos q, if_neg q'] at hQ)
    · rwa [if_pos q, if_pos q'] at hQ
theorem x_plcn {Q : Int32 → FT → GT → Prop} {F : FT} {G : GT} {x1 x2 : Int32} {e : Nat} (hr : x2 < 0) (h7 : F 7 = nI e) (he : e ≤ 400) : ∀ m i c, i + m = e → c ≤ i → Q (-1) F G → wp_X0_placeOf_5 Q (m + 1) x1 x2 (nI c) (nI i) F G
  | 0, i, c, hi, hc, hQ => by
    simp only [wp_X0_placeOf_5, h7, le_ya (show e ≤ i by omega) (by omega), not_true_eq_false, not_false_eq_true, false_implies, true_implies, and_true, true_and, true_or, or_true, ne_eq]
    exact hQ
  | m + 1, i, c, hi, hc, hQ => by
    rw [wp_X0_placeOf_5]
    simp only [h7, le_no (show i < e by omega) (by omega), vp_in_nI (show i < 400 by omega) (show 400 < 2 ^ 31 by omega), nI_clamp (show i < 2 ^ 31 by omega), forall_eq, nI_1, not_true_eq_false, not_false_eq_true, false_implies, true_implies, and_true, true_and, true_or, or_true, ne_eq]
    refine ⟨fun q => ?_, fun q => ⟨fun q' => ?_, fun q' => ?_⟩⟩
    · exact x_plcn hr h7 he m (i + 1) c (by omega) (by omega) hQ
    · exact x_plcn hr h7 he m (i + 1) (c + 1) (by omega) (by omega) hQ
    · exact absurd q'.symm (ng_eq hr c (by omega))
theorem m_plc {Q : Int32 → FT → GT → Int64 → Prop} {F : FT} {G : GT} {w : Int64} {x1 x3 : Int32} {r e : Nat} (hr : r < 2 ^ 31) (he : e ≤ 400) : ∀ m i c, i + m = e → c ≤ i → c ≤ r → r < c + cn (G 19) x1 m i → (∀ k, k < e → plc (G 19) x1 r m i c = nI k → ((¬ x3 = 0) → ((¬ x3 = (1 : Int32)) → Q (G 22 k) F G w) ∧ ((x3 = (1 : Int32)) → Q (G 21 k) F G w)) ∧ ((x3 = 0) → Q (G 20 k) F G w)) → wp_X8_hand_46 Q (m + 1) x1 (nI r) x3 (nI c) (nI i) F G w
  | 0, i, c, hi, hc, hcr, hrc, hQ => by rw [cn] at hrc; omega
  | m + 1, i, c, hi, hc, hcr, hrc, hQ => by
    rw [wp_X8_hand_46]
    simp only [vp_in_nI (show i < 400 by omega) (show 400 < 2 ^ 31 by omega), nI_clamp (show i < 2 ^ 31 by omega), nI_leI hr (show c < 2 ^ 31 by omega), wp_X8_hand_63, forall_eq, nI_1, not_true_eq_false, not_false_eq_true, false_implies, true_implies, and_true, true_and, true_or, or_true, ne_eq]
    rw [cn] at hrc
    simp only [plc] at hQ
    refine ⟨fun q => ⟨fun _ => ?_, fun q' => absurd q' q⟩, fun q => ⟨fun q' => ?_, fun q' => ⟨fun q'' => absurd q q'', fun _ => ?_⟩⟩⟩
    · rw [if_neg q] at hrc
      exact m_plc hr he m (i + 1) c (by omega) (by omega) (by omega) (by omega) (fun k hk hk' => hQ k hk (by rw [if_neg q]; exact hk'))
    · have := hQ i (by omega) (by rw [if_pos q, if_pos (by omega)])
      exact this
    · rw [if_pos q] at hrc
      exact m_plc hr he m (i + 1) (c + 1) (by omega) (by omega) (by omega) (by omega) (fun k hk hk' => hQ k hk (by rw [if_pos q, if_neg (by omega)]; exact hk'))
theorem plc_ya {g : Nat → Int32} {x : Int32} {r : Nat} : ∀ m i c, c ≤ r → r < c + cn g x m i → ∃ k, i ≤ k ∧ k < i + m ∧ plc g x r m i c = nI k
  | 0, i, c, h1, h => by rw [cn] at h; omega
  | m + 1, i, c, h1, h => by
    rw [cn] at h
    rw [plc]
    by_cases e : g i = x
    · rw [if_pos e] at h ⊢
      by_cases e' : c = r
      · rw [if_pos e']; exact ⟨i, by omega, by omega, rfl⟩
      · rw [if_neg e']
        obtain ⟨k, q1, q2, q3⟩ := plc_ya (g := g) (x := x) (r := r) m (i + 1) (c + 1) (by omega) (by omega)
        exact ⟨k, by omega, by omega, q3⟩
    · rw [if_neg e] at h ⊢
      obtain ⟨k, q1, q2, q3⟩ := plc_ya (g := g) (x := x) (r := r) m (i + 1) c (by omega) (by omega)
      exact ⟨k, by omega, by omega, q3⟩
theorem stp_hand : Stp_hand Inv := by
  intro FX GX FM GM w hI x1 x2 x3 f
  obtain ⟨he, hm, hb⟩ := id hI
  obtain ⟨e0, e1, e2, e3, e4, e5, e6, e7, e8⟩ := he.F
  obtain ⟨g10, g11, g12, g13, g14, g15, g16, g17, g19, g20, g21, g22, g23, g24, g25, g26, g27, g28, g29, g30, g31⟩ := he.G
  obtain ⟨n6, n7, h6, h7, hn6, hn7, hh⟩ := hb.2.2.2.2.2.2.2.2.2.2.2.2.2.2.2
  have h7' : FM 7 = nI n7 := by rw [e7, h7]
  simp only [wp_X7_hand, wp_X7_hand_0, wp_X0_placeOf, wp_X0_placeOf_0, wp_X8_hand, wp_X8_hand_0, wp_X8_isHorse, wp_X8_isHorse_0, wp_X8_hand_30, wp_X8_refuse, wp_X8_refuse_0, forall_eq, e6, h6]
  have bad : wp_X8_hand_30 (PT Inv FX GX 1 f) FM GM w := fun F1 hF1 => by subst hF1; exact pt_1 hI
  by_cases b : x2 < 0
  · refine ⟨n7 + 1, x_plcn b h7 hn7 n7 0 0 (by omega) (by omega) ?_⟩
    simp +decide only [not_true_eq_false, not_false_eq_true, false_implies, true_implies, and_true, true_and, true_or, or_true, ne_eq]
    rcases pk_ix x1 (n := n6) (by omega) with a | a | ⟨j, hj, rfl⟩
    · simp +decide only [a, not_true_eq_false, not_false_eq_true, false_implies, true_implies, and_true, true_and, true_or, or_true, ne_eq, pt_1 hI]
    · simp +decide only [a, gt_lt a (by omega), not_true_eq_false, not_false_eq_true, false_implies, true_implies, and_true, true_and, true_or, or_true, ne_eq, pt_1 hI]
    · simp +decide only [b, nI_pos (show j < 2 ^ 31 by omega), le_no hj (by omega), not_true_eq_false, not_false_eq_true, false_implies, true_implies, and_true, true_and, true_or, or_true, ne_eq, pt_1 hI]
  · obtain ⟨r, hr, rfl⟩ := nI_of b
    have hM : ∀ Q : Int32 → FT → GT → Int64 → Prop, Q (nI (cn (GX 19) x1 n7 0)) FM GM w → wp_X8_handsOf x1 FM GM w Q := fun Q hQ => ⟨n7 + 1, m_many h7' hn7 n7 0 0 (by omega) (by
      rw [g19, show (0 : Int32) = nI 0 from rfl, fo_cn, Nat.zero_add]; exact hQ)⟩
    have hcl := cn_le (g := GX 19) (x := x1) n7 0
    refine ⟨n7 + 1, x_plc hr h7 hn7 n7 0 0 (by omega) (by omega) ?_⟩
    by_cases hc : cn (GX 19) x1 n7 0 ≤ r
    · rw [plc_no n7 0 0 (by omega)]
      simp +decide only [not_true_eq_false, not_false_eq_true, false_implies, true_implies, and_true, true_and, true_or, or_true, ne_eq]
      rcases pk_ix x1 (n := n6) (by omega) with a | a | ⟨j, hj, rfl⟩
      · simp +decide only [a, not_true_eq_false, not_false_eq_true, false_implies, true_implies, and_true, true_and, true_or, or_true, ne_eq, pt_1 hI]
      · simp +decide only [a, gt_lt a (by omega), not_true_eq_false, not_false_eq_true, false_implies, true_implies, and_true, true_and, true_or, or_true, ne_eq, pt_1 hI]
      · simp +decide only [b, nI_pos (show j < 2 ^ 31 by omega), le_no hj (by omega), not_true_eq_false, not_false_eq_true, false_implies, true_implies, and_true, true_and, true_or, or_true, ne_eq]
        refine hM _ ?_
        simp only [le_ya hc hr, not_true_eq_false, not_false_eq_true, false_implies, true_implies, and_true, true_and, true_or, or_true, ne_eq, pt_1 hI]
    · obtain ⟨k, k1, k2, k3⟩ := plc_ya (g := GX 19) (x := x1) (r := r) n7 0 0 (by omega) (by omega)
      have hno : ∀ y : Prop, (∀ j, j < n6 → ¬ nI j = x1) → y := fun y q => absurd (cn_0 (g := GX 19) (x := x1) n7 0 (fun i _ h2 e => by
        obtain ⟨j, hj, ej⟩ := hh i (by omega)
        exact q j hj (ej.symm.trans e))) (by omega)
      rw [k3]
      simp only [show ¬ nI k = -1 from fun q => absurd (q ▸ nI_pos (show k < 2 ^ 31 by omega)) (by decide), vp_in_nI (show k < 400 by omega) (show 400 < 2 ^ 31 by omega), nI_clamp (show k < 2 ^ 31 by omega), not_true_eq_false, not_false_eq_true, false_implies, true_implies, and_true, true_and, true_or, or_true, ne_eq]
      rcases pk_ix x1 (n := n6) (by omega) with a | a | ⟨j, hj, rfl⟩
      · exact hno _ (fun j hj e => ng_eq a j (by omega) e.symm)
      · exact hno _ (fun j hj e => gt_eq a j hj (by omega) e.symm)
      · simp +decide only [b, nI_pos (show j < 2 ^ 31 by omega), le_no hj (by omega), not_true_eq_false, not_false_eq_true, false_implies, true_implies, and_true, true_and, true_or, or_true, ne_eq]
        have hlt : ¬ nI (cn (GX 19) (nI j) n7 0) ≤ nI r := fun q => hc ((nI_leI (by omega) hr).1 q)
        have hA : ∀ (Q : Int32 → FT → GT → Int64 → Prop) (x3 : Int32), (((¬ x3 = 0) → ((¬ x3 = (1 : Int32)) → Q (GX 22 k) (sU FM 20 0) GM w) ∧ ((x3 = (1 : Int32)) → Q (GX 21 k) (sU FM 20 0) GM w)) ∧ ((x3 = 0) → Q (GX 20 k) (sU FM 20 0) GM w)) → ∃ n, wp_X8_hand_46 Q n (nI j) (nI r) x3 0 0 (sU FM 20 0) GM w := by
          intro Q x3 hQ
          refine ⟨n7 + 1, m_plc hr hn7 n7 0 0 (by omega) (by omega) (by omega) (by rw [g19]; omega) (fun k' hk' e => ?_)⟩
          rw [g19, k3] at e
          have := (nI_eq (by omega) (by omega)).1 e
          subst this
          rw [g20, g21, g22]
          exact hQ
        rcases pk_ix x3 (n := 3) (by omega) with d | d | ⟨z, hz, rfl⟩
        · have q : ∀ z : Nat, z < 3 → ¬ x3 = nI z := fun z hz => ng_eq d z (by omega)
          simp only [show ¬ x3 = 0 from q 0 (by omega), show ¬ x3 = 1 from q 1 (by omega), show ¬ x3 = 2 from q 2 (by omega), not_true_eq_false, not_false_eq_true, false_implies, true_implies, and_true, true_and, true_or, or_true, ne_eq]
          refine hM _ ?_
          simp only [hlt, d, not_true_eq_false, not_false_eq_true, false_implies, true_implies, and_true, true_and, true_or, or_true, ne_eq, pt_1 hI]
        · have q : ∀ z : Nat, z < 3 → ¬ x3 = nI z := fun z hz => gt_eq d z hz (by omega)
          simp only [show ¬ x3 = 0 from q 0 (by omega), show ¬ x3 = 1 from q 1 (by omega), show ¬ x3 = 2 from q 2 (by omega), not_true_eq_false, not_false_eq_true, false_implies, true_implies, and_true, true_and, true_or, or_true, ne_eq]
          refine hM _ ?_
          simp only [hlt, gt_lt d (by omega), show ¬ x3 ≤ 2 from gt_le d 2 (by omega) (by omega), not_true_eq_false, not_false_eq_true, false_implies, true_implies, and_true, true_and, true_or, or_true, ne_eq, pt_1 hI]
        · rcases (by omega : z = 0 ∨ z = 1 ∨ z = 2) with rfl | rfl | rfl
          all_goals simp +decide only [not_true_eq_false, not_false_eq_true, false_implies, true_implies, and_true, true_and, true_or, or_true, ne_eq]
          all_goals refine hM _ ?_
          all_goals simp +decide only [hlt, not_true_eq_false, not_false_eq_true, false_implies, true_implies, and_true, true_and, true_or, or_true, ne_eq]
          all_goals refine hA _ _ ?_
          all_goals simp +decide only [not_true_eq_false, not_false_eq_true, false_implies, true_implies, and_true, true_and, true_or, or_true, ne_eq, pt_0 hI]
