def wp_X7_count_0 (Q : Int32 → FT → GT → Prop) (x1 : Int32) (F : FT) (G : GT) : Prop := (x1 = 0 → Q (F 0) F G) ∧ (x1 = 1 → Q (F 3) F G) ∧ (x1 = 2 → Q (F 6) F G) ∧ (x1 = 3 → Q (F 8) F G) ∧ (x1 = 4 → wp_X5_howManyStand F G (fun r3 F1 G2 => Q r3 F1 G2)) ∧ (x1 = 5 → Q (F 5) F G) ∧ (x1 = 6 → Q (F 2) F G) ∧ (x1 = 7 → Q (F 7) F G) ∧ (¬ x1 = 0 → ¬ x1 = 1 → ¬ x1 = 2 → ¬ x1 = 3 → ¬ x1 = 4 → ¬ x1 = 5 → ¬ x1 = 6 → ¬ x1 = 7 → Q (-1 : Int32) F G)
def wp_X7_count (x1 : Int32) (F : FT) (G : GT) (Q : Int32 → FT → GT → Prop) : Prop := wp_X7_count_0 Q x1 F G
set_option maxHeartbeats 4000000 in
set_option maxRecDepth 100000 in
theorem wk_X7_count_0 {p : Program} {l : Launch} {e : Env} {R : Room} {s : State} {m : MethodId} {args : Array Value} {below : List Frame} {meth : Method} {c : Code} {K : KT} {A : Nat → Prop} {Z : State → Prop} {a : Nat → Nat} (hR : 1 ≤ R.frames ∧ 22 ≤ R.locals) (C : CX p s m args meth c K A cX7_count 2 RX7) {Q : Int32 → FT → GT → Prop} (hq : RetXi p l e R s m args below meth c K A Z a cX7_count Q) (x1 : Int32) (F : FT) (G : GT) {H : Heap} {locs : List Loc} (h : WD K A s (wX K a F G) H locs) {ls : Array Slot} (hl : lv_has ls 2 [(0, .ref (a 0)), (1, .int x1)]) (hw : wp_X7_count_0 Q x1 F G) : W p l e R s m args below meth c H locs 0 0 Z (F0 m 0 ls []) := by
  unfold wp_X7_count_0 at hw
  have hx := C.1
  have hb := C.2.1
  refine lv_iload_n hx hb dX7_count_0 rfl (lv_at hl 1 rfl) ?_
  by_cases k0 : x1 = 0
  · have hw := hw.1 k0
    refine lv_tableIn (tgt := 48) hx hb dX7_count_1 (by rw [k0]; decide) (by rw [k0]; decide) (by rw [k0]; rfl) (by decide) ?_
    refine lv_aload_n hx hb dX7_count_48 rfl (lv_at hl 0 rfl) ?_
    refine gX_7_58 C h dX7_count_49 ?_
    exact hq _ F G _ _ _ _ dX7_count_52 h hw
  by_cases k1 : x1 = 1
  · have hw := hw.2.1 k1
    refine lv_tableIn (tgt := 53) hx hb dX7_count_1 (by rw [k1]; decide) (by rw [k1]; decide) (by rw [k1]; rfl) (by decide) ?_
    refine lv_aload_n hx hb dX7_count_53 rfl (lv_at hl 0 rfl) ?_
    refine gX_7_33 C h dX7_count_54 ?_
    refine gX_7_111 C h dX7_count_57 ?_
    exact hq _ F G _ _ _ _ dX7_count_60 h hw
  by_cases k2 : x1 = 2
  · have hw := hw.2.2.1 k2
    refine lv_tableIn (tgt := 61) hx hb dX7_count_1 (by rw [k2]; decide) (by rw [k2]; decide) (by rw [k2]; rfl) (by decide) ?_
    refine lv_aload_n hx hb dX7_count_61 rfl (lv_at hl 0 rfl) ?_
    refine gX_7_40 C h dX7_count_62 ?_
    refine gX_7_135 C h dX7_count_65 ?_
    exact hq _ F G _ _ _ _ dX7_count_68 h hw
  by_cases k3 : x1 = 3
  · have hw := hw.2.2.2.1 k3
    refine lv_tableIn (tgt := 69) hx hb dX7_count_1 (by rw [k3]; decide) (by rw [k3]; decide) (by rw [k3]; rfl) (by decide) ?_
    refine lv_aload_n hx hb dX7_count_69 rfl (lv_at hl 0 rfl) ?_
    refine gX_7_54 C h dX7_count_70 ?_
    refine gX_7_190 C h dX7_count_73 ?_
    exact hq _ F G _ _ _ _ dX7_count_76 h hw
  by_cases k4 : x1 = 4
  · have hw := hw.2.2.2.2.1 k4
    refine lv_tableIn (tgt := 77) hx hb dX7_count_1 (by rw [k4]; decide) (by rw [k4]; decide) (by rw [k4]; rfl) (by decide) ?_
    refine lv_aload_n hx hb dX7_count_77 rfl (lv_at hl 0 rfl) ?_
    refine gX_7_54 C h dX7_count_78 ?_
    refine kXiV C h (c_X5_howManyStand F G hw) lk_7_296 (rvX_7 K a F G) rfl hl.1 rfl (Nat.le_of_ble_eq_true rfl) ⟨Nat.le_trans (Nat.le_of_ble_eq_true rfl) hR.1, Nat.le_trans (Nat.le_of_ble_eq_true rfl) hR.2⟩ ⟨Nat.zero_le _, Nat.zero_le _⟩ dX7_count_81 (fun r3 F1 G2 H locs hw h => ?_)
    exact hq _ F1 G2 _ _ _ _ dX7_count_84 h hw
  by_cases k5 : x1 = 5
  · have hw := hw.2.2.2.2.2.1 k5
    refine lv_tableIn (tgt := 85) hx hb dX7_count_1 (by rw [k5]; decide) (by rw [k5]; decide) (by rw [k5]; rfl) (by decide) ?_
    refine lv_aload_n hx hb dX7_count_85 rfl (lv_at hl 0 rfl) ?_
    refine gX_7_33 C h dX7_count_86 ?_
    refine gX_7_269 C h dX7_count_89 ?_
    exact hq _ F G _ _ _ _ dX7_count_92 h hw
  by_cases k6 : x1 = 6
  · have hw := hw.2.2.2.2.2.2.1 k6
    refine lv_tableIn (tgt := 93) hx hb dX7_count_1 (by rw [k6]; decide) (by rw [k6]; decide) (by rw [k6]; rfl) (by decide) ?_
    refine lv_aload_n hx hb dX7_count_93 rfl (lv_at hl 0 rfl) ?_
    refine gX_7_10 C h dX7_count_94 ?_
    refine gX_7_65 C h dX7_count_97 ?_
    exact hq _ F G _ _ _ _ dX7_count_100 h hw
  by_cases k7 : x1 = 7
  · have hw := hw.2.2.2.2.2.2.2.1 k7
    refine lv_tableIn (tgt := 101) hx hb dX7_count_1 (by rw [k7]; decide) (by rw [k7]; decide) (by rw [k7]; rfl) (by decide) ?_
    refine lv_aload_n hx hb dX7_count_101 rfl (lv_at hl 0 rfl) ?_
    refine gX_7_47 C h dX7_count_102 ?_
    refine gX_7_300 C h dX7_count_105 ?_
    exact hq _ F G _ _ _ _ dX7_count_108 h hw
  have hw := hw.2.2.2.2.2.2.2.2 k0 k1 k2 k3 k4 k5 k6 k7
  refine lv_tableOut (tgt := 109) hx hb dX7_count_1 (by have n0 := lv_neT k0 (a := 0) (by decide); have n1 := lv_neT k1 (a := 1) (by decide); have n2 := lv_neT k2 (a := 2) (by decide); have n3 := lv_neT k3 (a := 3) (by decide); have n4 := lv_neT k4 (a := 4) (by decide); have n5 := lv_neT k5 (a := 5) (by decide); have n6 := lv_neT k6 (a := 6) (by decide); have n7 := lv_neT k7 (a := 7) (by decide); omega) (by decide) ?_
  refine lv_iconst (v := (-1 : Int32)) hx hb dX7_count_109 (by decide) ?_
  exact hq _ F G _ _ _ _ dX7_count_110 h hw
theorem c_X7_count {l : Launch} {K : KT} {a : Nat → Nat} (x1 : Int32) (F : FT) (G : GT) {Q : Int32 → FT → GT → Prop} (hw : wp_X7_count x1 F G Q) : CtXi l K a yX7_count cX7_count 2 (some .int) 1 22 [.ref (a 0), .int x1] F G Q := fun sz => x_met (Qm := QmXi K a Q) (by decide) (Nat.le_of_ble_eq_true rfl) (fun p e s m below meth c A ls C hr h hl => wk_X7_count_0 ⟨Nat.le_refl _, Nat.le_refl _⟩ C (retX_z C hr (fun r F G _ => rfl)) x1 F G h hl hw)
