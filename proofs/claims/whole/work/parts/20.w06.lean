def wp_X7_about_0 (Q : Int32 → FT → GT → Prop) (QX : FT → GT → Prop) (x1 : Int32) (x2 : Int32) (F : FT) (G : GT) : Prop := wp_X1_has x1 F G (fun r3 F1 G2 => ((¬ r3 = 0) → (x2 = 0 → vp_in x1 40 ∧ Q (G2 16 x1.toNatClampNeg) F1 G2) ∧ (x2 = 1 → vp_in x1 40 ∧ Q (G2 17 x1.toNatClampNeg) F1 G2) ∧ (x2 = 2 → wp_X5_latestStanding x1 F1 G2 (fun r6 F4 G5 => Q r6 F4 G5)) ∧ (x2 = 3 → wp_X1_foundBits x1 F1 G2 (fun r9 F7 G8 => Q r9 F7 G8)) ∧ (x2 = 4 → wp_X0_howMany x1 F1 G2 (fun r12 F10 G11 => Q r12 F10 G11)) ∧ (¬ x2 = 0 → ¬ x2 = 1 → ¬ x2 = 2 → ¬ x2 = 3 → ¬ x2 = 4 → QX F1 G2)) ∧ ((r3 = 0) → QX F1 G2))
def wp_X7_about (x1 : Int32) (x2 : Int32) (F : FT) (G : GT) (Q : Int32 → FT → GT → Prop) (QX : FT → GT → Prop) : Prop := wp_X7_about_0 Q QX x1 x2 F G
set_option maxHeartbeats 4000000 in
set_option maxRecDepth 100000 in
theorem wk_X7_about_0 {p : Program} {l : Launch} {e : Env} {R : Room} {s : State} {m : MethodId} {args : Array Value} {below : List Frame} {meth : Method} {c : Code} {K : KT} {A : Nat → Prop} {Z : State → Prop} {a : Nat → Nat} (hR : 6 ≤ R.frames ∧ 82 ≤ R.locals) (C : CX p s m args meth c K A cX7_about 3 RX7) {Q : Int32 → FT → GT → Prop} (hq : RetXi p l e R s m args below meth c K A Z a cX7_about Q) {QX : FT → GT → Prop} (hthr : ThrX p l e R s m args below meth c K A Z a cX7_about 3 "java/util/NoSuchElementException" QX) (x1 : Int32) (x2 : Int32) (F : FT) (G : GT) {H : Heap} {locs : List Loc} (h : WD K A s (wX K a F G) H locs) {ls : Array Slot} (hl : lv_has ls 3 [(0, .ref (a 0)), (1, .int x1), (2, .int x2)]) (hw : wp_X7_about_0 Q QX x1 x2 F G) : W p l e R s m args below meth c H locs 0 0 Z (F0 m 0 ls []) := by
  unfold wp_X7_about_0 at hw
  have hx := C.1
  have hb := C.2.1
  refine lv_aload_n hx hb dX7_about_0 rfl (lv_at hl 0 rfl) ?_
  refine gX_7_40 C h dX7_about_1 ?_
  refine lv_iload_n hx hb dX7_about_4 rfl (lv_at hl 1 rfl) ?_
  refine kXiV C h (c_X1_has x1 F G hw) lk_7_167 (rvX_5 K a F G) rfl hl.1 rfl (Nat.le_of_ble_eq_true rfl) ⟨Nat.le_trans (Nat.le_of_ble_eq_true rfl) hR.1, Nat.le_trans (Nat.le_of_ble_eq_true rfl) hR.2⟩ ⟨Nat.zero_le _, Nat.zero_le _⟩ dX7_about_5 (fun r3 F1 G2 H locs hw h => ?_)
  have hw := hw.2
  refine lv_if_ne (tgt := 21) hx hb dX7_about_8 (by decide) (fun c => ?_) (fun c => ?_)
  · have hw := hw.1 c
    refine lv_iload_n hx hb dX7_about_21 rfl (lv_at hl 2 rfl) ?_
    by_cases k0 : x2 = 0
    · have hw := hw.1 k0
      refine lv_tableIn (tgt := 56) hx hb dX7_about_22 (by rw [k0]; decide) (by rw [k0]; decide) (by rw [k0]; rfl) (by decide) ?_
      refine lv_aload_n hx hb dX7_about_56 rfl (lv_at hl 0 rfl) ?_
      refine gX_7_40 C h dX7_about_57 ?_
      refine gX_7_148 C h dX7_about_60 ?_
      refine lv_iload_n hx hb dX7_about_63 rfl (lv_at hl 1 rfl) ?_
      have hi := hw.1
      have hw := hw.2
      refine laX_16 C h hi dX7_about_64 ?_
      exact hq _ F1 G2 _ _ _ _ dX7_about_65 h hw
    by_cases k1 : x2 = 1
    · have hw := hw.2.1 k1
      refine lv_tableIn (tgt := 66) hx hb dX7_about_22 (by rw [k1]; decide) (by rw [k1]; decide) (by rw [k1]; rfl) (by decide) ?_
      refine lv_aload_n hx hb dX7_about_66 rfl (lv_at hl 0 rfl) ?_
      refine gX_7_40 C h dX7_about_67 ?_
      refine gX_7_151 C h dX7_about_70 ?_
      refine lv_iload_n hx hb dX7_about_73 rfl (lv_at hl 1 rfl) ?_
      have hi := hw.1
      have hw := hw.2
      refine laX_17 C h hi dX7_about_74 ?_
      exact hq _ F1 G2 _ _ _ _ dX7_about_75 h hw
    by_cases k2 : x2 = 2
    · have hw := hw.2.2.1 k2
      refine lv_tableIn (tgt := 76) hx hb dX7_about_22 (by rw [k2]; decide) (by rw [k2]; decide) (by rw [k2]; rfl) (by decide) ?_
      refine lv_aload_n hx hb dX7_about_76 rfl (lv_at hl 0 rfl) ?_
      refine gX_7_54 C h dX7_about_77 ?_
      refine lv_iload_n hx hb dX7_about_80 rfl (lv_at hl 1 rfl) ?_
      refine kXiV C h (c_X5_latestStanding x1 F1 G2 hw) lk_7_208 (rvX_7 K a F1 G2) rfl hl.1 rfl (Nat.le_of_ble_eq_true rfl) ⟨Nat.le_trans (Nat.le_of_ble_eq_true rfl) hR.1, Nat.le_trans (Nat.le_of_ble_eq_true rfl) hR.2⟩ ⟨Nat.zero_le _, Nat.zero_le _⟩ dX7_about_81 (fun r6 F4 G5 H locs hw h => ?_)
      exact hq _ F4 G5 _ _ _ _ dX7_about_84 h hw
    by_cases k3 : x2 = 3
    · have hw := hw.2.2.2.1 k3
      refine lv_tableIn (tgt := 85) hx hb dX7_about_22 (by rw [k3]; decide) (by rw [k3]; decide) (by rw [k3]; rfl) (by decide) ?_
      refine lv_aload_n hx hb dX7_about_85 rfl (lv_at hl 0 rfl) ?_
      refine gX_7_40 C h dX7_about_86 ?_
      refine lv_iload_n hx hb dX7_about_89 rfl (lv_at hl 1 rfl) ?_
      refine kXiV C h (c_X1_foundBits x1 F1 G2 hw) lk_7_211 (rvX_5 K a F1 G2) rfl hl.1 rfl (Nat.le_of_ble_eq_true rfl) ⟨Nat.le_trans (Nat.le_of_ble_eq_true rfl) hR.1, Nat.le_trans (Nat.le_of_ble_eq_true rfl) hR.2⟩ ⟨Nat.zero_le _, Nat.zero_le _⟩ dX7_about_90 (fun r9 F7 G8 H locs hw h => ?_)
      exact hq _ F7 G8 _ _ _ _ dX7_about_93 h hw
    by_cases k4 : x2 = 4
    · have hw := hw.2.2.2.2.1 k4
      refine lv_tableIn (tgt := 94) hx hb dX7_about_22 (by rw [k4]; decide) (by rw [k4]; decide) (by rw [k4]; rfl) (by decide) ?_
      refine lv_aload_n hx hb dX7_about_94 rfl (lv_at hl 0 rfl) ?_
      refine gX_7_47 C h dX7_about_95 ?_
      refine lv_iload_n hx hb dX7_about_98 rfl (lv_at hl 1 rfl) ?_
      refine kXiV C h (c_X0_howMany x1 F1 G2 hw) lk_7_214 (rvX_6 K a F1 G2) rfl hl.1 rfl (Nat.le_of_ble_eq_true rfl) ⟨Nat.le_trans (Nat.le_of_ble_eq_true rfl) hR.1, Nat.le_trans (Nat.le_of_ble_eq_true rfl) hR.2⟩ ⟨Nat.zero_le _, Nat.zero_le _⟩ dX7_about_99 (fun r12 F10 G11 H locs hw h => ?_)
      exact hq _ F10 G11 _ _ _ _ dX7_about_102 h hw
    have hw := hw.2.2.2.2.2 k0 k1 k2 k3 k4
    refine lv_tableOut (tgt := 103) hx hb dX7_about_22 (by have n0 := lv_neT k0 (a := 0) (by decide); have n1 := lv_neT k1 (a := 1) (by decide); have n2 := lv_neT k2 (a := 2) (by decide); have n3 := lv_neT k3 (a := 3) (by decide); have n4 := lv_neT k4 (a := 4) (by decide); omega) (by decide) ?_
    exact hthr F1 G2 _ _ _ _ tc_X7_about_103 h hl.1 hw
  · have hw := hw.2 c
    exact hthr F1 G2 _ _ _ _ tc_X7_about_11 h hl.1 hw
theorem c_X7_about {l : Launch} (hst : l.stackTraces = false) {K : KT} {a : Nat → Nat} (x1 : Int32) (x2 : Int32) (F : FT) (G : GT) {Q : Int32 → FT → GT → Prop} {QX : FT → GT → Prop} (hw : wp_X7_about x1 x2 F G Q QX) : CtXt l K a yX7_about cX7_about 3 (some .int) 6 82 [.ref (a 0), .int x1, .int x2] F G Q "java/util/NoSuchElementException" QX := fun sz => x_metT (Qm := QmXi K a Q) (XC := XCX K a "java/util/NoSuchElementException" QX) (by decide) (Nat.le_of_ble_eq_true rfl) (fun p e s m below meth c A ls C hr htab h hl => wk_X7_about_0 ⟨Nat.le_refl _, Nat.le_refl _⟩ C (retX_t C hr) (thr_ok C hst htab ⟨Nat.le_of_ble_eq_true rfl, Nat.le_of_ble_eq_true rfl, Nat.le_refl _, Nat.le_refl _⟩) x1 x2 F G h hl hw)
def wp_X7_fault_0 (Q : Int32 → FT → GT → Prop) (QX : FT → GT → Prop) (x1 : Int32) (x2 : Int32) (x3 : Int32) (F : FT) (G : GT) : Prop := wp_X1_has x1 F G (fun r3 F1 G2 => ((r3 = 0) → QX F1 G2) ∧ ((¬ r3 = 0) → wp_X7_isFault x2 F1 G2 (fun r6 F4 G5 => ((¬ r6 = 0) → (x3 = 0 → vp_in x1 40 ∧ vp_in x2 6 ∧ Q (G5 (x1.toNatClampNeg + 100) x2.toNatClampNeg) F4 G5) ∧ (x3 = 1 → vp_in x1 40 ∧ vp_in x2 6 ∧ Q (G5 (x1.toNatClampNeg + 200) x2.toNatClampNeg) F4 G5) ∧ (¬ x3 = 0 → ¬ x3 = 1 → QX F4 G5)) ∧ ((r6 = 0) → QX F4 G5))))
def wp_X7_fault (x1 : Int32) (x2 : Int32) (x3 : Int32) (F : FT) (G : GT) (Q : Int32 → FT → GT → Prop) (QX : FT → GT → Prop) : Prop := wp_X7_fault_0 Q QX x1 x2 x3 F G
set_option maxHeartbeats 4000000 in
set_option maxRecDepth 100000 in
theorem wk_X7_fault_0 {p : Program} {l : Launch} {e : Env} {R : Room} {s : State} {m : MethodId} {args : Array Value} {below : List Frame} {meth : Method} {c : Code} {K : KT} {A : Nat → Prop} {Z : State → Prop} {a : Nat → Nat} (hR : 6 ≤ R.frames ∧ 82 ≤ R.locals) (C : CX p s m args meth c K A cX7_fault 4 RX7) {Q : Int32 → FT → GT → Prop} (hq : RetXi p l e R s m args below meth c K A Z a cX7_fault Q) {QX : FT → GT → Prop} (hthr : ThrX p l e R s m args below meth c K A Z a cX7_fault 4 "java/util/NoSuchElementException" QX) (x1 : Int32) (x2 : Int32) (x3 : Int32) (F : FT) (G : GT) {H : Heap} {locs : List Loc} (h : WD K A s (wX K a F G) H locs) {ls : Array Slot} (hl : lv_has ls 4 [(0, .ref (a 0)), (1, .int x1), (2, .int x2), (3, .int x3)]) (hw : wp_X7_fault_0 Q QX x1 x2 x3 F G) : W p l e R s m args below meth c H locs 0 0 Z (F0 m 0 ls []) := by
  unfold wp_X7_fault_0 at hw
  have hx := C.1
  have hb := C.2.1
  refine lv_aload_n hx hb dX7_fault_0 rfl (lv_at hl 0 rfl) ?_
  refine gX_7_40 C h dX7_fault_1 ?_
  refine lv_iload_n hx hb dX7_fault_4 rfl (lv_at hl 1 rfl) ?_
  refine kXiV C h (c_X1_has x1 F G hw) lk_7_167 (rvX_5 K a F G) rfl hl.1 rfl (Nat.le_of_ble_eq_true rfl) ⟨Nat.le_trans (Nat.le_of_ble_eq_true rfl) hR.1, Nat.le_trans (Nat.le_of_ble_eq_true rfl) hR.2⟩ ⟨Nat.zero_le _, Nat.zero_le _⟩ dX7_fault_5 (fun r3 F1 G2 H locs hw h => ?_)
  have hw := hw.2
  refine lv_if_eq (tgt := 18) hx hb dX7_fault_8 (by decide) (fun c => ?_) (fun c => ?_)
  · have hw := hw.1 c
    exact hthr F1 G2 _ _ _ _ tc_X7_fault_18 h hl.1 hw
  · have hw := hw.2 c
    refine lv_iload_n hx hb dX7_fault_11 rfl (lv_at hl 2 rfl) ?_
    refine kXiS C h (c_X7_isFault x2 F1 G2 hw) lk_7_170 rfl hl.1 rfl (Nat.le_of_ble_eq_true rfl) ⟨Nat.le_trans (Nat.le_of_ble_eq_true rfl) hR.1, Nat.le_trans (Nat.le_of_ble_eq_true rfl) hR.2⟩ ⟨Nat.zero_le _, Nat.zero_le _⟩ dX7_fault_12 (fun r6 F4 G5 H locs hw h => ?_)
    have hw := hw.2
    refine lv_if_ne (tgt := 28) hx hb dX7_fault_15 (by decide) (fun c => ?_) (fun c => ?_)
    · have hw := hw.1 c
      refine lv_iload_n hx hb dX7_fault_28 rfl (lv_at hl 3 rfl) ?_
      by_cases k0 : x3 = 0
      · have hw := hw.1 k0
        refine lv_lookup (tgt := 56) hx hb dX7_fault_29 (by decide) (by rw [k0]; try rfl) (by decide) ?_
        refine lv_aload_n hx hb dX7_fault_56 rfl (lv_at hl 0 rfl) ?_
        refine gX_7_40 C h dX7_fault_57 ?_
        refine gX_7_177 C h dX7_fault_60 ?_
        refine lv_iload_n hx hb dX7_fault_63 rfl (lv_at hl 1 rfl) ?_
        have hi7 := hw.1
        have hw := hw.2
        refine oX_44 C h hi7 dX7_fault_64 ?_
        refine lv_iload_n hx hb dX7_fault_65 rfl (lv_at hl 2 rfl) ?_
        have hi := hw.1
        have hw := hw.2
        refine lr_100 C h (in_lt hi7) hi dX7_fault_66 ?_
        exact hq _ F4 G5 _ _ _ _ dX7_fault_67 h hw
      by_cases k1 : x3 = 1
      · have hw := hw.2.1 k1
        refine lv_lookup (tgt := 68) hx hb dX7_fault_29 (by decide) (by rw [k1]; try rfl) (by decide) ?_
        refine lv_aload_n hx hb dX7_fault_68 rfl (lv_at hl 0 rfl) ?_
        refine gX_7_40 C h dX7_fault_69 ?_
        refine gX_7_181 C h dX7_fault_72 ?_
        refine lv_iload_n hx hb dX7_fault_75 rfl (lv_at hl 1 rfl) ?_
        have hi8 := hw.1
        have hw := hw.2
        refine oX_45 C h hi8 dX7_fault_76 ?_
        refine lv_iload_n hx hb dX7_fault_77 rfl (lv_at hl 2 rfl) ?_
        have hi := hw.1
        have hw := hw.2
        refine lr_200 C h (in_lt hi8) hi dX7_fault_78 ?_
        exact hq _ F4 G5 _ _ _ _ dX7_fault_79 h hw
      have hw := hw.2.2 k0 k1
      refine lv_lookup (tgt := 80) (off := 51) hx hb dX7_fault_29 (by decide) (by show Op.lookupswitch.offset [(0, 27), (1, 39)] (51) _ = _; rw [lv_osw k0 (by decide), lv_osw k1 (by decide)]; rfl) (by decide) ?_
      exact hthr F4 G5 _ _ _ _ tc_X7_fault_80 h hl.1 hw
    · have hw := hw.2 c
      exact hthr F4 G5 _ _ _ _ tc_X7_fault_18 h hl.1 hw
theorem c_X7_fault {l : Launch} (hst : l.stackTraces = false) {K : KT} {a : Nat → Nat} (x1 : Int32) (x2 : Int32) (x3 : Int32) (F : FT) (G : GT) {Q : Int32 → FT → GT → Prop} {QX : FT → GT → Prop} (hw : wp_X7_fault x1 x2 x3 F G Q QX) : CtXt l K a yX7_fault cX7_fault 4 (some .int) 6 82 [.ref (a 0), .int x1, .int x2, .int x3] F G Q "java/util/NoSuchElementException" QX := fun sz => x_metT (Qm := QmXi K a Q) (XC := XCX K a "java/util/NoSuchElementException" QX) (by decide) (Nat.le_of_ble_eq_true rfl) (fun p e s m below meth c A ls C hr htab h hl => wk_X7_fault_0 ⟨Nat.le_refl _, Nat.le_refl _⟩ C (retX_t C hr) (thr_ok C hst htab ⟨Nat.le_of_ble_eq_true rfl, Nat.le_of_ble_eq_true rfl, Nat.le_refl _, Nat.le_refl _⟩) x1 x2 x3 F G h hl hw)
def wp_X7_sale_0 (Q : Int32 → FT → GT → Prop) (QX : FT → GT → Prop) (x1 : Int32) (x2 : Int32) (F : FT) (G : GT) : Prop := ((x1 < 0) → QX F G) ∧ ((¬ x1 < 0) → ((x1 < (F 8)) → (x2 = 0 → vp_in x1 80 ∧ Q (G 23 x1.toNatClampNeg) F G) ∧ (x2 = 1 → vp_in x1 80 ∧ Q (G 24 x1.toNatClampNeg) F G) ∧ (x2 = 2 → vp_in x1 80 ∧ Q (G 25 x1.toNatClampNeg) F G) ∧ (x2 = 3 → vp_in x1 80 ∧ Q (G 26 x1.toNatClampNeg) F G) ∧ (x2 = 4 → vp_in x1 80 ∧ Q (G 27 x1.toNatClampNeg) F G) ∧ (x2 = 5 → vp_in x1 80 ∧ Q (G 28 x1.toNatClampNeg) F G) ∧ (x2 = 6 → vp_in x1 80 ∧ Q (G 29 x1.toNatClampNeg) F G) ∧ (x2 = 7 → vp_in x1 80 ∧ (((G 30 x1.toNatClampNeg) = 0) → Q (0 : Int32) F G) ∧ ((¬ (G 30 x1.toNatClampNeg) = 0) → Q (1 : Int32) F G)) ∧ (¬ x2 = 0 → ¬ x2 = 1 → ¬ x2 = 2 → ¬ x2 = 3 → ¬ x2 = 4 → ¬ x2 = 5 → ¬ x2 = 6 → ¬ x2 = 7 → QX F G)) ∧ ((¬ x1 < (F 8)) → QX F G))
def wp_X7_sale (x1 : Int32) (x2 : Int32) (F : FT) (G : GT) (Q : Int32 → FT → GT → Prop) (QX : FT → GT → Prop) : Prop := wp_X7_sale_0 Q QX x1 x2 F G
set_option maxHeartbeats 4000000 in
set_option maxRecDepth 100000 in
theorem wk_X7_sale_0 {p : Program} {l : Launch} {e : Env} {R : Room} {s : State} {m : MethodId} {args : Array Value} {below : List Frame} {meth : Method} {c : Code} {K : KT} {A : Nat → Prop} {Z : State → Prop} {a : Nat → Nat} (hR : 6 ≤ R.frames ∧ 82 ≤ R.locals) (C : CX p s m args meth c K A cX7_sale 3 RX7) {Q : Int32 → FT → GT → Prop} (hq : RetXi p l e R s m args below meth c K A Z a cX7_sale Q) {QX : FT → GT → Prop} (hthr : ThrX p l e R s m args below meth c K A Z a cX7_sale 3 "java/util/NoSuchElementException" QX) (x1 : Int32) (x2 : Int32) (F : FT) (G : GT) {H : Heap} {locs : List Loc} (h : WD K A s (wX K a F G) H locs) {ls : Array Slot} (hl : lv_has ls 3 [(0, .ref (a 0)), (1, .int x1), (2, .int x2)]) (hw : wp_X7_sale_0 Q QX x1 x2 F G) : W p l e R s m args below meth c H locs 0 0 Z (F0 m 0 ls []) := by
  unfold wp_X7_sale_0 at hw
  have hx := C.1
  have hb := C.2.1
  refine lv_iload_n hx hb dX7_sale_0 rfl (lv_at hl 1 rfl) ?_
  refine lv_if_lt (tgt := 15) hx hb dX7_sale_1 (by decide) (fun c => ?_) (fun c => ?_)
  · have hw := hw.1 c
    exact hthr F G _ _ _ _ tc_X7_sale_15 h hl.1 hw
  · have hw := hw.2 c
    refine lv_iload_n hx hb dX7_sale_4 rfl (lv_at hl 1 rfl) ?_
    refine lv_aload_n hx hb dX7_sale_5 rfl (lv_at hl 0 rfl) ?_
    refine gX_7_54 C h dX7_sale_6 ?_
    refine gX_7_190 C h dX7_sale_9 ?_
    refine lv_icmp_lt (tgt := 25) hx hb dX7_sale_12 (by decide) (fun c => ?_) (fun c => ?_)
    · have hw := hw.1 c
      refine lv_iload_n hx hb dX7_sale_25 rfl (lv_at hl 2 rfl) ?_
      by_cases k0 : x2 = 0
      · have hw := hw.1 k0
        refine lv_tableIn (tgt := 72) hx hb dX7_sale_26 (by rw [k0]; decide) (by rw [k0]; decide) (by rw [k0]; rfl) (by decide) ?_
        refine lv_aload_n hx hb dX7_sale_72 rfl (lv_at hl 0 rfl) ?_
        refine gX_7_54 C h dX7_sale_73 ?_
        refine gX_7_225 C h dX7_sale_76 ?_
        refine lv_iload_n hx hb dX7_sale_79 rfl (lv_at hl 1 rfl) ?_
        have hi := hw.1
        have hw := hw.2
        refine laX_23 C h hi dX7_sale_80 ?_
        exact hq _ F G _ _ _ _ dX7_sale_81 h hw
      by_cases k1 : x2 = 1
      · have hw := hw.2.1 k1
        refine lv_tableIn (tgt := 82) hx hb dX7_sale_26 (by rw [k1]; decide) (by rw [k1]; decide) (by rw [k1]; rfl) (by decide) ?_
        refine lv_aload_n hx hb dX7_sale_82 rfl (lv_at hl 0 rfl) ?_
        refine gX_7_54 C h dX7_sale_83 ?_
        refine gX_7_228 C h dX7_sale_86 ?_
        refine lv_iload_n hx hb dX7_sale_89 rfl (lv_at hl 1 rfl) ?_
        have hi := hw.1
        have hw := hw.2
        refine laX_24 C h hi dX7_sale_90 ?_
        exact hq _ F G _ _ _ _ dX7_sale_91 h hw
      by_cases k2 : x2 = 2
      · have hw := hw.2.2.1 k2
        refine lv_tableIn (tgt := 92) hx hb dX7_sale_26 (by rw [k2]; decide) (by rw [k2]; decide) (by rw [k2]; rfl) (by decide) ?_
        refine lv_aload_n hx hb dX7_sale_92 rfl (lv_at hl 0 rfl) ?_
        refine gX_7_54 C h dX7_sale_93 ?_
        refine gX_7_231 C h dX7_sale_96 ?_
        refine lv_iload_n hx hb dX7_sale_99 rfl (lv_at hl 1 rfl) ?_
        have hi := hw.1
        have hw := hw.2
        refine laX_25 C h hi dX7_sale_100 ?_
        exact hq _ F G _ _ _ _ dX7_sale_101 h hw
      by_cases k3 : x2 = 3
      · have hw := hw.2.2.2.1 k3
        refine lv_tableIn (tgt := 102) hx hb dX7_sale_26 (by rw [k3]; decide) (by rw [k3]; decide) (by rw [k3]; rfl) (by decide) ?_
        refine lv_aload_n hx hb dX7_sale_102 rfl (lv_at hl 0 rfl) ?_
        refine gX_7_54 C h dX7_sale_103 ?_
        refine gX_7_234 C h dX7_sale_106 ?_
        refine lv_iload_n hx hb dX7_sale_109 rfl (lv_at hl 1 rfl) ?_
        have hi := hw.1
        have hw := hw.2
        refine laX_26 C h hi dX7_sale_110 ?_
        exact hq _ F G _ _ _ _ dX7_sale_111 h hw
      by_cases k4 : x2 = 4
      · have hw := hw.2.2.2.2.1 k4
        refine lv_tableIn (tgt := 112) hx hb dX7_sale_26 (by rw [k4]; decide) (by rw [k4]; decide) (by rw [k4]; rfl) (by decide) ?_
        refine lv_aload_n hx hb dX7_sale_112 rfl (lv_at hl 0 rfl) ?_
        refine gX_7_54 C h dX7_sale_113 ?_
        refine gX_7_237 C h dX7_sale_116 ?_
        refine lv_iload_n hx hb dX7_sale_119 rfl (lv_at hl 1 rfl) ?_
        have hi := hw.1
        have hw := hw.2
        refine laX_27 C h hi dX7_sale_120 ?_
        exact hq _ F G _ _ _ _ dX7_sale_121 h hw
      by_cases k5 : x2 = 5
      · have hw := hw.2.2.2.2.2.1 k5
        refine lv_tableIn (tgt := 122) hx hb dX7_sale_26 (by rw [k5]; decide) (by rw [k5]; decide) (by rw [k5]; rfl) (by decide) ?_
        refine lv_aload_n hx hb dX7_sale_122 rfl (lv_at hl 0 rfl) ?_
        refine gX_7_54 C h dX7_sale_123 ?_
        refine gX_7_240 C h dX7_sale_126 ?_
        refine lv_iload_n hx hb dX7_sale_129 rfl (lv_at hl 1 rfl) ?_
        have hi := hw.1
        have hw := hw.2
        refine laX_28 C h hi dX7_sale_130 ?_
        exact hq _ F G _ _ _ _ dX7_sale_131 h hw
      by_cases k6 : x2 = 6
      · have hw := hw.2.2.2.2.2.2.1 k6
        refine lv_tableIn (tgt := 132) hx hb dX7_sale_26 (by rw [k6]; decide) (by rw [k6]; decide) (by rw [k6]; rfl) (by decide) ?_
        refine lv_aload_n hx hb dX7_sale_132 rfl (lv_at hl 0 rfl) ?_
        refine gX_7_54 C h dX7_sale_133 ?_
        refine gX_7_243 C h dX7_sale_136 ?_
        refine lv_iload_n hx hb dX7_sale_139 rfl (lv_at hl 1 rfl) ?_
        have hi := hw.1
        have hw := hw.2
        refine laX_29 C h hi dX7_sale_140 ?_
        exact hq _ F G _ _ _ _ dX7_sale_141 h hw
      by_cases k7 : x2 = 7
      · have hw := hw.2.2.2.2.2.2.2.1 k7
        refine lv_tableIn (tgt := 142) hx hb dX7_sale_26 (by rw [k7]; decide) (by rw [k7]; decide) (by rw [k7]; rfl) (by decide) ?_
        refine lv_aload_n hx hb dX7_sale_142 rfl (lv_at hl 0 rfl) ?_
        refine gX_7_54 C h dX7_sale_143 ?_
        refine gX_7_246 C h dX7_sale_146 ?_
        refine lv_iload_n hx hb dX7_sale_149 rfl (lv_at hl 1 rfl) ?_
        have hi := hw.1
        have hw := hw.2
        refine laX_30 C h hi dX7_sale_150 ?_
        refine lv_if_eq (tgt := 158) hx hb dX7_sale_151 (by decide) (fun c => ?_) (fun c => ?_)
        · have hw := hw.1 c
          refine lv_iconst (v := (0 : Int32)) hx hb dX7_sale_158 (by decide) ?_
          exact hq _ F G _ _ _ _ dX7_sale_159 h hw
        · have hw := hw.2 c
          refine lv_iconst (v := (1 : Int32)) hx hb dX7_sale_154 (by decide) ?_
          refine lv_goto (tgt := 159) hx hb dX7_sale_155 (by decide) ?_
          exact hq _ F G _ _ _ _ dX7_sale_159 h hw
      have hw := hw.2.2.2.2.2.2.2.2 k0 k1 k2 k3 k4 k5 k6 k7
      refine lv_tableOut (tgt := 160) hx hb dX7_sale_26 (by have n0 := lv_neT k0 (a := 0) (by decide); have n1 := lv_neT k1 (a := 1) (by decide); have n2 := lv_neT k2 (a := 2) (by decide); have n3 := lv_neT k3 (a := 3) (by decide); have n4 := lv_neT k4 (a := 4) (by decide); have n5 := lv_neT k5 (a := 5) (by decide); have n6 := lv_neT k6 (a := 6) (by decide); have n7 := lv_neT k7 (a := 7) (by decide); omega) (by decide) ?_
      exact hthr F G _ _ _ _ tc_X7_sale_160 h hl.1 hw
    · have hw := hw.2 c
      exact hthr F G _ _ _ _ tc_X7_sale_15 h hl.1 hw
theorem c_X7_sale {l : Launch} (hst : l.stackTraces = false) {K : KT} {a : Nat → Nat} (x1 : Int32) (x2 : Int32) (F : FT) (G : GT) {Q : Int32 → FT → GT → Prop} {QX : FT → GT → Prop} (hw : wp_X7_sale x1 x2 F G Q QX) : CtXt l K a yX7_sale cX7_sale 3 (some .int) 6 82 [.ref (a 0), .int x1, .int x2] F G Q "java/util/NoSuchElementException" QX := fun sz => x_metT (Qm := QmXi K a Q) (XC := XCX K a "java/util/NoSuchElementException" QX) (by decide) (Nat.le_of_ble_eq_true rfl) (fun p e s m below meth c A ls C hr htab h hl => wk_X7_sale_0 ⟨Nat.le_refl _, Nat.le_refl _⟩ C (retX_t C hr) (thr_ok C hst htab ⟨Nat.le_of_ble_eq_true rfl, Nat.le_of_ble_eq_true rfl, Nat.le_refl _, Nat.le_refl _⟩) x1 x2 F G h hl hw)
def wp_X4_sumLeft_v12_41 (Q : Int32 → FT → GT → Prop) (kb : Int32 → Int32 → Int32 → FT → GT → Prop) (x2 : Int32) (x4 : Int32) (s0 : Int32) (s1 : Int32) (F : FT) (G : GT) : Prop := ∀ v1 : Int32, v1 = (x4 + 1) → kb x2 (s1 + s0) v1 F G
def wp_X4_sumLeft_v12_5 (Q : Int32 → FT → GT → Prop) : Nat → Int32 → Int32 → Int32 → FT → GT → Prop
  | 0, _, _, _, _, _ => False
  | n + 1, x2, x3, x4, F, G => (((F 5) ≤ x4) → Q x3 F G) ∧ ((¬ (F 5) ≤ x4) → (((80 : Int32) ≤ x4) → Q x3 F G) ∧ ((¬ (80 : Int32) ≤ x4) → vp_in x4 80 ∧ ((¬ (G 12 x4.toNatClampNeg) = x2) → wp_X4_sumLeft_v12_41 Q (fun x2 x3 x4 F G => wp_X4_sumLeft_v12_5 Q n x2 x3 x4 F G) x2 x4 (0 : Int32) x3 F G) ∧ (((G 12 x4.toNatClampNeg) = x2) → vp_in x4 80 ∧ wp_X4_sumLeft_v12_41 Q (fun x2 x3 x4 F G => wp_X4_sumLeft_v12_5 Q n x2 x3 x4 F G) x2 x4 (G 15 x4.toNatClampNeg) x3 F G)))
def wp_X4_sumLeft_v12_0 (Q : Int32 → FT → GT → Prop) (x2 : Int32) (F : FT) (G : GT) : Prop := ∃ n : Nat, wp_X4_sumLeft_v12_5 Q n x2 (0 : Int32) (0 : Int32) F G
def wp_X4_sumLeft_v12 (x2 : Int32) (F : FT) (G : GT) (Q : Int32 → FT → GT → Prop) : Prop := wp_X4_sumLeft_v12_0 Q x2 F G
set_option maxHeartbeats 4000000 in
set_option maxRecDepth 100000 in
theorem wk_X4_sumLeft_v12_41 {p : Program} {l : Launch} {e : Env} {R : Room} {s : State} {m : MethodId} {args : Array Value} {below : List Frame} {meth : Method} {c : Code} {K : KT} {A : Nat → Prop} {Z : State → Prop} {a : Nat → Nat} (hR : 0 ≤ R.frames ∧ 0 ≤ R.locals) (C : CX p s m args meth c K A cX4_sumLeft 5 RX4) {Q : Int32 → FT → GT → Prop} (hq : RetXi p l e R s m args below meth c K A Z a cX4_sumLeft Q) {kb : Int32 → Int32 → Int32 → FT → GT → Prop} (hk : ∀ (x2 : Int32) (x3 : Int32) (x4 : Int32) (F : FT) (G : GT) (H : Heap) (locs : List Loc) (ls : Array Slot), WD K A s (wX K a F G) H locs → lv_has ls 5 [(0, .ref (a 4)), (1, .ref (a 12)), (2, .int x2), (3, .int x3), (4, .int x4)] → kb x2 x3 x4 F G → W p l e R s m args below meth c H locs 0 0 Z (F0 m 5 ls [])) (x2 : Int32) (x4 : Int32) (s0 : Int32) (s1 : Int32) (F : FT) (G : GT) {H : Heap} {locs : List Loc} (h : WD K A s (wX K a F G) H locs) {ls : Array Slot} (hl : lv_has ls 5 [(0, .ref (a 4)), (1, .ref (a 12)), (2, .int x2), (4, .int x4)]) (hw : wp_X4_sumLeft_v12_41 Q kb x2 x4 s0 s1 F G) : W p l e R s m args below meth c H locs 0 0 Z (F0 m 41 ls [.int s0, .int s1]) := by
  unfold wp_X4_sumLeft_v12_41 at hw
  have hx := C.1
  have hb := C.2.1
  refine lv_iadd hx hb dX4_sumLeft_41 ?_
  refine lv_istore_n (lv' := [(3, .int (s1 + s0)), (0, .ref (a 4)), (1, .ref (a 12)), (2, .int x2), (4, .int x4)]) hx hb dX4_sumLeft_42 rfl hl (by decide) rfl (fun ls hl => ?_)
  obtain ⟨v1, ev1⟩ : ∃ z : Int32, z = (x4 + 1) := ⟨_, rfl⟩
  have hw := hw v1 ev1
  refine lv_iinc (v := v1) (lv' := [(4, .int v1), (3, .int (s1 + s0)), (0, .ref (a 4)), (1, .ref (a 12)), (2, .int x2)]) hx hb dX4_sumLeft_43 hl (k := 4) rfl (by rw [ev1]; rfl) (by decide) rfl (fun ls hl => ?_)
  refine lv_goto (tgt := 5) hx hb dX4_sumLeft_46 (by decide) ?_
  exact hk x2 (s1 + s0) v1 F G _ _ _ h (lv_sub hl [2, 3, 4, 1, 0] rfl) hw
set_option maxHeartbeats 4000000 in
set_option maxRecDepth 100000 in
theorem wk_X4_sumLeft_v12_5 {p : Program} {l : Launch} {e : Env} {R : Room} {s : State} {m : MethodId} {args : Array Value} {below : List Frame} {meth : Method} {c : Code} {K : KT} {A : Nat → Prop} {Z : State → Prop} {a : Nat → Nat} (hR : 0 ≤ R.frames ∧ 0 ≤ R.locals) (C : CX p s m args meth c K A cX4_sumLeft 5 RX4) {Q : Int32 → FT → GT → Prop} (hq : RetXi p l e R s m args below meth c K A Z a cX4_sumLeft Q) : ∀ (n : Nat) (x2 : Int32) (x3 : Int32) (x4 : Int32) (F : FT) (G : GT) {H : Heap} {locs : List Loc} (h : WD K A s (wX K a F G) H locs) {ls : Array Slot} (hl : lv_has ls 5 [(0, .ref (a 4)), (1, .ref (a 12)), (2, .int x2), (3, .int x3), (4, .int x4)]) (hw : wp_X4_sumLeft_v12_5 Q n x2 x3 x4 F G), W p l e R s m args below meth c H locs 0 0 Z (F0 m 5 ls []) := by
  intro n
  induction n with
  | zero => intro x2 x3 x4 F G H locs h ls hl hw; exact False.elim hw
  | succ n ih =>
    intro x2 x3 x4 F G H locs h ls hl hw
    rw [wp_X4_sumLeft_v12_5] at hw
    have hx := C.1
    have hb := C.2.1
    refine lv_iload hx hb dX4_sumLeft_5 (lv_at hl 4 rfl) ?_
    refine lv_aload_n hx hb dX4_sumLeft_7 rfl (lv_at hl 0 rfl) ?_
    refine gX_4_34 C h dX4_sumLeft_8 ?_
    refine lv_icmp_ge (tgt := 49) hx hb dX4_sumLeft_11 (by decide) (fun c => ?_) (fun c => ?_)
    · have hw := hw.1 c
      refine lv_iload_n hx hb dX4_sumLeft_49 rfl (lv_at hl 3 rfl) ?_
      exact hq _ F G _ _ _ _ dX4_sumLeft_50 h hw
    · have hw := hw.2 c
      refine lv_iload hx hb dX4_sumLeft_14 (lv_at hl 4 rfl) ?_
      refine lv_aload_n hx hb dX4_sumLeft_16 rfl (lv_at hl 1 rfl) ?_
      refine alX_12 C h dX4_sumLeft_17 ?_
      refine lv_icmp_ge (tgt := 49) hx hb dX4_sumLeft_18 (by decide) (fun c => ?_) (fun c => ?_)
      · have hw := hw.1 c
        refine lv_iload_n hx hb dX4_sumLeft_49 rfl (lv_at hl 3 rfl) ?_
        exact hq _ F G _ _ _ _ dX4_sumLeft_50 h hw
      · have hw := hw.2 c
        refine lv_iload_n hx hb dX4_sumLeft_21 rfl (lv_at hl 3 rfl) ?_
        refine lv_aload_n hx hb dX4_sumLeft_22 rfl (lv_at hl 1 rfl) ?_
        refine lv_iload hx hb dX4_sumLeft_23 (lv_at hl 4 rfl) ?_
        have hi := hw.1
        have hw := hw.2
        refine laX_12 C h hi dX4_sumLeft_25 ?_
        refine lv_iload_n hx hb dX4_sumLeft_26 rfl (lv_at hl 2 rfl) ?_
        refine lv_icmp_ne (tgt := 40) hx hb dX4_sumLeft_27 (by decide) (fun c => ?_) (fun c => ?_)
        · have hw := hw.1 c
          refine lv_iconst (v := (0 : Int32)) hx hb dX4_sumLeft_40 (by decide) ?_
          exact wk_X4_sumLeft_v12_41 hR C hq (fun x2 x3 x4 F G H locs ls h hl hw => ih x2 x3 x4 F G h hl hw) x2 x4 (0 : Int32) x3 F G h (lv_sub hl [0, 1, 2, 4] rfl) hw
        · have hw := hw.2 c
          refine lv_aload_n hx hb dX4_sumLeft_30 rfl (lv_at hl 0 rfl) ?_
          refine gX_4_31 C h dX4_sumLeft_31 ?_
          refine lv_iload hx hb dX4_sumLeft_34 (lv_at hl 4 rfl) ?_
          have hi := hw.1
          have hw := hw.2
          refine laX_15 C h hi dX4_sumLeft_36 ?_
          refine lv_goto (tgt := 41) hx hb dX4_sumLeft_37 (by decide) ?_
          exact wk_X4_sumLeft_v12_41 hR C hq (fun x2 x3 x4 F G H locs ls h hl hw => ih x2 x3 x4 F G h hl hw) x2 x4 (G 15 x4.toNatClampNeg) x3 F G h (lv_sub hl [0, 1, 2, 4] rfl) hw
set_option maxHeartbeats 4000000 in
set_option maxRecDepth 100000 in
theorem wk_X4_sumLeft_v12_0 {p : Program} {l : Launch} {e : Env} {R : Room} {s : State} {m : MethodId} {args : Array Value} {below : List Frame} {meth : Method} {c : Code} {K : KT} {A : Nat → Prop} {Z : State → Prop} {a : Nat → Nat} (hR : 0 ≤ R.frames ∧ 0 ≤ R.locals) (C : CX p s m args meth c K A cX4_sumLeft 5 RX4) {Q : Int32 → FT → GT → Prop} (hq : RetXi p l e R s m args below meth c K A Z a cX4_sumLeft Q) (x2 : Int32) (F : FT) (G : GT) {H : Heap} {locs : List Loc} (h : WD K A s (wX K a F G) H locs) {ls : Array Slot} (hl : lv_has ls 5 [(0, .ref (a 4)), (1, .ref (a 12)), (2, .int x2)]) (hw : wp_X4_sumLeft_v12_0 Q x2 F G) : W p l e R s m args below meth c H locs 0 0 Z (F0 m 0 ls []) := by
  unfold wp_X4_sumLeft_v12_0 at hw
  have hx := C.1
  have hb := C.2.1
  refine lv_iconst (v := (0 : Int32)) hx hb dX4_sumLeft_0 (by decide) ?_
  refine lv_istore_n (lv' := [(3, .int (0 : Int32)), (0, .ref (a 4)), (1, .ref (a 12)), (2, .int x2)]) hx hb dX4_sumLeft_1 rfl hl (by decide) rfl (fun ls hl => ?_)
  refine lv_iconst (v := (0 : Int32)) hx hb dX4_sumLeft_2 (by decide) ?_
  refine lv_istore (lv' := [(4, .int (0 : Int32)), (3, .int (0 : Int32)), (0, .ref (a 4)), (1, .ref (a 12)), (2, .int x2)]) hx hb dX4_sumLeft_3 hl (by decide) rfl (fun ls hl => ?_)
  obtain ⟨n, hw⟩ := hw
  exact wk_X4_sumLeft_v12_5 hR C hq n x2 (0 : Int32) (0 : Int32) F G h (lv_sub hl [2, 3, 4, 1, 0] rfl) hw
theorem c_X4_sumLeft_v12 {l : Launch} {K : KT} {a : Nat → Nat} (x2 : Int32) (F : FT) (G : GT) {Q : Int32 → FT → GT → Prop} (hw : wp_X4_sumLeft_v12 x2 F G Q) : CtXi l K a yX4_sumLeft cX4_sumLeft 5 (some .int) 0 0 [.ref (a 4), .ref (a 12), .int x2] F G Q := fun sz => x_met (Qm := QmXi K a Q) (by decide) (Nat.le_of_ble_eq_true rfl) (fun p e s m below meth c A ls C hr h hl => wk_X4_sumLeft_v12_0 ⟨Nat.le_refl _, Nat.le_refl _⟩ C (retX_z C hr (fun r F G _ => rfl)) x2 F G h hl hw)
def wp_X4_sumLeft_v13_41 (Q : Int32 → FT → GT → Prop) (kb : Int32 → Int32 → Int32 → FT → GT → Prop) (x2 : Int32) (x4 : Int32) (s0 : Int32) (s1 : Int32) (F : FT) (G : GT) : Prop := ∀ v1 : Int32, v1 = (x4 + 1) → kb x2 (s1 + s0) v1 F G
def wp_X4_sumLeft_v13_5 (Q : Int32 → FT → GT → Prop) : Nat → Int32 → Int32 → Int32 → FT → GT → Prop
  | 0, _, _, _, _, _ => False
  | n + 1, x2, x3, x4, F, G => (((F 5) ≤ x4) → Q x3 F G) ∧ ((¬ (F 5) ≤ x4) → (((80 : Int32) ≤ x4) → Q x3 F G) ∧ ((¬ (80 : Int32) ≤ x4) → vp_in x4 80 ∧ ((¬ (G 13 x4.toNatClampNeg) = x2) → wp_X4_sumLeft_v13_41 Q (fun x2 x3 x4 F G => wp_X4_sumLeft_v13_5 Q n x2 x3 x4 F G) x2 x4 (0 : Int32) x3 F G) ∧ (((G 13 x4.toNatClampNeg) = x2) → vp_in x4 80 ∧ wp_X4_sumLeft_v13_41 Q (fun x2 x3 x4 F G => wp_X4_sumLeft_v13_5 Q n x2 x3 x4 F G) x2 x4 (G 15 x4.toNatClampNeg) x3 F G)))
def wp_X4_sumLeft_v13_0 (Q : Int32 → FT → GT → Prop) (x2 : Int32) (F : FT) (G : GT) : Prop := ∃ n : Nat, wp_X4_sumLeft_v13_5 Q n x2 (0 : Int32) (0 : Int32) F G
def wp_X4_sumLeft_v13 (x2 : Int32) (F : FT) (G : GT) (Q : Int32 → FT → GT → Prop) : Prop := wp_X4_sumLeft_v13_0 Q x2 F G
set_option maxHeartbeats 4000000 in
set_option maxRecDepth 100000 in
theorem wk_X4_sumLeft_v13_41 {p : Program} {l : Launch} {e : Env} {R : Room} {s : State} {m : MethodId} {args : Array Value} {below : List Frame} {meth : Method} {c : Code} {K : KT} {A : Nat → Prop} {Z : State → Prop} {a : Nat → Nat} (hR : 0 ≤ R.frames ∧ 0 ≤ R.locals) (C : CX p s m args meth c K A cX4_sumLeft 5 RX4) {Q : Int32 → FT → GT → Prop} (hq : RetXi p l e R s m args below meth c K A Z a cX4_sumLeft Q) {kb : Int32 → Int32 → Int32 → FT → GT → Prop} (hk : ∀ (x2 : Int32) (x3 : Int32) (x4 : Int32) (F : FT) (G : GT) (H : Heap) (locs : List Loc) (ls : Array Slot), WD K A s (wX K a F G) H locs → lv_has ls 5 [(0, .ref (a 4)), (1, .ref (a 13)), (2, .int x2), (3, .int x3), (4, .int x4)] → kb x2 x3 x4 F G → W p l e R s m args below meth c H locs 0 0 Z (F0 m 5 ls [])) (x2 : Int32) (x4 : Int32) (s0 : Int32) (s1 : Int32) (F : FT) (G : GT) {H : Heap} {locs : List Loc} (h : WD K A s (wX K a F G) H locs) {ls : Array Slot} (hl : lv_has ls 5 [(0, .ref (a 4)), (1, .ref (a 13)), (2, .int x2), (4, .int x4)]) (hw : wp_X4_sumLeft_v13_41 Q kb x2 x4 s0 s1 F G) : W p l e R s m args below meth c H locs 0 0 Z (F0 m 41 ls [.int s0, .int s1]) := by
  unfold wp_X4_sumLeft_v13_41 at hw
  have hx := C.1
  have hb := C.2.1
  refine lv_iadd hx hb dX4_sumLeft_41 ?_
  refine lv_istore_n (lv' := [(3, .int (s1 + s0)), (0, .ref (a 4)), (1, .ref (a 13)), (2, .int x2), (4, .int x4)]) hx hb dX4_sumLeft_42 rfl hl (by decide) rfl (fun ls hl => ?_)
  obtain ⟨v1, ev1⟩ : ∃ z : Int32, z = (x4 + 1) := ⟨_, rfl⟩
  have hw := hw v1 ev1
  refine lv_iinc (v := v1) (lv' := [(4, .int v1), (3, .int (s1 + s0)), (0, .ref (a 4)), (1, .ref (a 13)), (2, .int x2)]) hx hb dX4_sumLeft_43 hl (k := 4) rfl (by rw [ev1]; rfl) (by decide) rfl (fun ls hl => ?_)
  refine lv_goto (tgt := 5) hx hb dX4_sumLeft_46 (by decide) ?_
  exact hk x2 (s1 + s0) v1 F G _ _ _ h (lv_sub hl [2, 3, 4, 1, 0] rfl) hw
set_option maxHeartbeats 4000000 in
set_option maxRecDepth 100000 in
theorem wk_X4_sumLeft_v13_5 {p : Program} {l : Launch} {e : Env} {R : Room} {s : State} {m : MethodId} {args : Array Value} {below : List Frame} {meth : Method} {c : Code} {K : KT} {A : Nat → Prop} {Z : State → Prop} {a : Nat → Nat} (hR : 0 ≤ R.frames ∧ 0 ≤ R.locals) (C : CX p s m args meth c K A cX4_sumLeft 5 RX4) {Q : Int32 → FT → GT → Prop} (hq : RetXi p l e R s m args below meth c K A Z a cX4_sumLeft Q) : ∀ (n : Nat) (x2 : Int32) (x3 : Int32) (x4 : Int32) (F : FT) (G : GT) {H : Heap} {locs : List Loc} (h : WD K A s (wX K a F G) H locs) {ls : Array Slot} (hl : lv_has ls 5 [(0, .ref (a 4)), (1, .ref (a 13)), (2, .int x2), (3, .int x3), (4, .int x4)]) (hw : wp_X4_sumLeft_v13_5 Q n x2 x3 x4 F G), W p l e R s m args below meth c H locs 0 0 Z (F0 m 5 ls []) := by
  intro n
  induction n with
  | zero => intro x2 x3 x4 F G H locs h ls hl hw; exact False.elim hw
  | succ n ih =>
    intro x2 x3 x4 F G H locs h ls hl hw
    rw [wp_X4_sumLeft_v13_5] at hw
    have hx := C.1
    have hb := C.2.1
    refine lv_iload hx hb dX4_sumLeft_5 (lv_at hl 4 rfl) ?_
    refine lv_aload_n hx hb dX4_sumLeft_7 rfl (lv_at hl 0 rfl) ?_
    refine gX_4_34 C h dX4_sumLeft_8 ?_
    refine lv_icmp_ge (tgt := 49) hx hb dX4_sumLeft_11 (by decide) (fun c => ?_) (fun c => ?_)
    · have hw := hw.1 c
      refine lv_iload_n hx hb dX4_sumLeft_49 rfl (lv_at hl 3 rfl) ?_
      exact hq _ F G _ _ _ _ dX4_sumLeft_50 h hw
    · have hw := hw.2 c
      refine lv_iload hx hb dX4_sumLeft_14 (lv_at hl 4 rfl) ?_
      refine lv_aload_n hx hb dX4_sumLeft_16 rfl (lv_at hl 1 rfl) ?_
      refine alX_13 C h dX4_sumLeft_17 ?_
      refine lv_icmp_ge (tgt := 49) hx hb dX4_sumLeft_18 (by decide) (fun c => ?_) (fun c => ?_)
      · have hw := hw.1 c
        refine lv_iload_n hx hb dX4_sumLeft_49 rfl (lv_at hl 3 rfl) ?_
        exact hq _ F G _ _ _ _ dX4_sumLeft_50 h hw
      · have hw := hw.2 c
        refine lv_iload_n hx hb dX4_sumLeft_21 rfl (lv_at hl 3 rfl) ?_
        refine lv_aload_n hx hb dX4_sumLeft_22 rfl (lv_at hl 1 rfl) ?_
        refine lv_iload hx hb dX4_sumLeft_23 (lv_at hl 4 rfl) ?_
        have hi := hw.1
        have hw := hw.2
        refine laX_13 C h hi dX4_sumLeft_25 ?_
        refine lv_iload_n hx hb dX4_sumLeft_26 rfl (lv_at hl 2 rfl) ?_
        refine lv_icmp_ne (tgt := 40) hx hb dX4_sumLeft_27 (by decide) (fun c => ?_) (fun c => ?_)
        · have hw := hw.1 c
          refine lv_iconst (v := (0 : Int32)) hx hb dX4_sumLeft_40 (by decide) ?_
          exact wk_X4_sumLeft_v13_41 hR C hq (fun x2 x3 x4 F G H locs ls h hl hw => ih x2 x3 x4 F G h hl hw) x2 x4 (0 : Int32) x3 F G h (lv_sub hl [0, 1, 2, 4] rfl) hw
        · have hw := hw.2 c
          refine lv_aload_n hx hb dX4_sumLeft_30 rfl (lv_at hl 0 rfl) ?_
          refine gX_4_31 C h dX4_sumLeft_31 ?_
          refine lv_iload hx hb dX4_sumLeft_34 (lv_at hl 4 rfl) ?_
          have hi := hw.1
          have hw := hw.2
          refine laX_15 C h hi dX4_sumLeft_36 ?_
          refine lv_goto (tgt := 41) hx hb dX4_sumLeft_37 (by decide) ?_
          exact wk_X4_sumLeft_v13_41 hR C hq (fun x2 x3 x4 F G H locs ls h hl hw => ih x2 x3 x4 F G h hl hw) x2 x4 (G 15 x4.toNatClampNeg) x3 F G h (lv_sub hl [0, 1, 2, 4] rfl) hw
set_option maxHeartbeats 4000000 in
set_option maxRecDepth 100000 in
theorem wk_X4_sumLeft_v13_0 {p : Program} {l : Launch} {e : Env} {R : Room} {s : State} {m : MethodId} {args : Array Value} {below : List Frame} {meth : Method} {c : Code} {K : KT} {A : Nat → Prop} {Z : State → Prop} {a : Nat → Nat} (hR : 0 ≤ R.frames ∧ 0 ≤ R.locals) (C : CX p s m args meth c K A cX4_sumLeft 5 RX4) {Q : Int32 → FT → GT → Prop} (hq : RetXi p l e R s m args below meth c K A Z a cX4_sumLeft Q) (x2 : Int32) (F : FT) (G : GT) {H : Heap} {locs : List Loc} (h : WD K A s (wX K a F G) H locs) {ls : Array Slot} (hl : lv_has ls 5 [(0, .ref (a 4)), (1, .ref (a 13)), (2, .int x2)]) (hw : wp_X4_sumLeft_v13_0 Q x2 F G) : W p l e R s m args below meth c H locs 0 0 Z (F0 m 0 ls []) := by
  unfold wp_X4_sumLeft_v13_0 at hw
  have hx := C.1
  have hb := C.2.1
  refine lv_iconst (v := (0 : Int32)) hx hb dX4_sumLeft_0 (by decide) ?_
  refine lv_istore_n (lv' := [(3, .int (0 : Int32)), (0, .ref (a 4)), (1, .ref (a 13)), (2, .int x2)]) hx hb dX4_sumLeft_1 rfl hl (by decide) rfl (fun ls hl => ?_)
  refine lv_iconst (v := (0 : Int32)) hx hb dX4_sumLeft_2 (by decide) ?_
  refine lv_istore (lv' := [(4, .int (0 : Int32)), (3, .int (0 : Int32)), (0, .ref (a 4)), (1, .ref (a 13)), (2, .int x2)]) hx hb dX4_sumLeft_3 hl (by decide) rfl (fun ls hl => ?_)
  obtain ⟨n, hw⟩ := hw
  exact wk_X4_sumLeft_v13_5 hR C hq n x2 (0 : Int32) (0 : Int32) F G h (lv_sub hl [2, 3, 4, 1, 0] rfl) hw
theorem c_X4_sumLeft_v13 {l : Launch} {K : KT} {a : Nat → Nat} (x2 : Int32) (F : FT) (G : GT) {Q : Int32 → FT → GT → Prop} (hw : wp_X4_sumLeft_v13 x2 F G Q) : CtXi l K a yX4_sumLeft cX4_sumLeft 5 (some .int) 0 0 [.ref (a 4), .ref (a 13), .int x2] F G Q := fun sz => x_met (Qm := QmXi K a Q) (by decide) (Nat.le_of_ble_eq_true rfl) (fun p e s m below meth c A ls C hr h hl => wk_X4_sumLeft_v13_0 ⟨Nat.le_refl _, Nat.le_refl _⟩ C (retX_z C hr (fun r F G _ => rfl)) x2 F G h hl hw)
def wp_X1_howOften_v16_35 (Q : Int32 → FT → GT → Prop) (kb : Int32 → Int32 → Int32 → FT → GT → Prop) (x2 : Int32) (x4 : Int32) (s0 : Int32) (s1 : Int32) (F : FT) (G : GT) : Prop := ∀ v1 : Int32, v1 = (x4 + 1) → kb x2 (s1 + s0) v1 F G
def wp_X1_howOften_v16_5 (Q : Int32 → FT → GT → Prop) : Nat → Int32 → Int32 → Int32 → FT → GT → Prop
  | 0, _, _, _, _, _ => False
  | n + 1, x2, x3, x4, F, G => (((F 6) ≤ x4) → Q x3 F G) ∧ ((¬ (F 6) ≤ x4) → (((40 : Int32) ≤ x4) → Q x3 F G) ∧ ((¬ (40 : Int32) ≤ x4) → vp_in x4 40 ∧ ((¬ (G 16 x4.toNatClampNeg) = x2) → wp_X1_howOften_v16_35 Q (fun x2 x3 x4 F G => wp_X1_howOften_v16_5 Q n x2 x3 x4 F G) x2 x4 (0 : Int32) x3 F G) ∧ (((G 16 x4.toNatClampNeg) = x2) → wp_X1_howOften_v16_35 Q (fun x2 x3 x4 F G => wp_X1_howOften_v16_5 Q n x2 x3 x4 F G) x2 x4 (1 : Int32) x3 F G)))
def wp_X1_howOften_v16_0 (Q : Int32 → FT → GT → Prop) (x2 : Int32) (F : FT) (G : GT) : Prop := ∃ n : Nat, wp_X1_howOften_v16_5 Q n x2 (0 : Int32) (0 : Int32) F G
def wp_X1_howOften_v16 (x2 : Int32) (F : FT) (G : GT) (Q : Int32 → FT → GT → Prop) : Prop := wp_X1_howOften_v16_0 Q x2 F G
set_option maxHeartbeats 4000000 in
set_option maxRecDepth 100000 in
theorem wk_X1_howOften_v16_35 {p : Program} {l : Launch} {e : Env} {R : Room} {s : State} {m : MethodId} {args : Array Value} {below : List Frame} {meth : Method} {c : Code} {K : KT} {A : Nat → Prop} {Z : State → Prop} {a : Nat → Nat} (hR : 0 ≤ R.frames ∧ 0 ≤ R.locals) (C : CX p s m args meth c K A cX1_howOften 5 RX1) {Q : Int32 → FT → GT → Prop} (hq : RetXi p l e R s m args below meth c K A Z a cX1_howOften Q) {kb : Int32 → Int32 → Int32 → FT → GT → Prop} (hk : ∀ (x2 : Int32) (x3 : Int32) (x4 : Int32) (F : FT) (G : GT) (H : Heap) (locs : List Loc) (ls : Array Slot), WD K A s (wX K a F G) H locs → lv_has ls 5 [(0, .ref (a 5)), (1, .ref (a 16)), (2, .int x2), (3, .int x3), (4, .int x4)] → kb x2 x3 x4 F G → W p l e R s m args below meth c H locs 0 0 Z (F0 m 5 ls [])) (x2 : Int32) (x4 : Int32) (s0 : Int32) (s1 : Int32) (F : FT) (G : GT) {H : Heap} {locs : List Loc} (h : WD K A s (wX K a F G) H locs) {ls : Array Slot} (hl : lv_has ls 5 [(0, .ref (a 5)), (1, .ref (a 16)), (2, .int x2), (4, .int x4)]) (hw : wp_X1_howOften_v16_35 Q kb x2 x4 s0 s1 F G) : W p l e R s m args below meth c H locs 0 0 Z (F0 m 35 ls [.int s0, .int s1]) := by
  unfold wp_X1_howOften_v16_35 at hw
  have hx := C.1
  have hb := C.2.1
  refine lv_iadd hx hb dX1_howOften_35 ?_
  refine lv_istore_n (lv' := [(3, .int (s1 + s0)), (0, .ref (a 5)), (1, .ref (a 16)), (2, .int x2), (4, .int x4)]) hx hb dX1_howOften_36 rfl hl (by decide) rfl (fun ls hl => ?_)
  obtain ⟨v1, ev1⟩ : ∃ z : Int32, z = (x4 + 1) := ⟨_, rfl⟩
  have hw := hw v1 ev1
  refine lv_iinc (v := v1) (lv' := [(4, .int v1), (3, .int (s1 + s0)), (0, .ref (a 5)), (1, .ref (a 16)), (2, .int x2)]) hx hb dX1_howOften_37 hl (k := 4) rfl (by rw [ev1]; rfl) (by decide) rfl (fun ls hl => ?_)
  refine lv_goto (tgt := 5) hx hb dX1_howOften_40 (by decide) ?_
  exact hk x2 (s1 + s0) v1 F G _ _ _ h (lv_sub hl [2, 3, 4, 1, 0] rfl) hw
set_option maxHeartbeats 4000000 in
set_option maxRecDepth 100000 in
theorem wk_X1_howOften_v16_5 {p : Program} {l : Launch} {e : Env} {R : Room} {s : State} {m : MethodId} {args : Array Value} {below : List Frame} {meth : Method} {c : Code} {K : KT} {A : Nat → Prop} {Z : State → Prop} {a : Nat → Nat} (hR : 0 ≤ R.frames ∧ 0 ≤ R.locals) (C : CX p s m args meth c K A cX1_howOften 5 RX1) {Q : Int32 → FT → GT → Prop} (hq : RetXi p l e R s m args below meth c K A Z a cX1_howOften Q) : ∀ (n : Nat) (x2 : Int32) (x3 : Int32) (x4 : Int32) (F : FT) (G : GT) {H : Heap} {locs : List Loc} (h : WD K A s (wX K a F G) H locs) {ls : Array Slot} (hl : lv_has ls 5 [(0, .ref (a 5)), (1, .ref (a 16)), (2, .int x2), (3, .int x3), (4, .int x4)]) (hw : wp_X1_howOften_v16_5 Q n x2 x3 x4 F G), W p l e R s m args below meth c H locs 0 0 Z (F0 m 5 ls []) := by
  intro n
  induction n with
  | zero => intro x2 x3 x4 F G H locs h ls hl hw; exact False.elim hw
  | succ n ih =>
    intro x2 x3 x4 F G H locs h ls hl hw
    rw [wp_X1_howOften_v16_5] at hw
    have hx := C.1
    have hb := C.2.1
    refine lv_iload hx hb dX1_howOften_5 (lv_at hl 4 rfl) ?_
    refine lv_aload_n hx hb dX1_howOften_7 rfl (lv_at hl 0 rfl) ?_
    refine gX_1_29 C h dX1_howOften_8 ?_
    refine lv_icmp_ge (tgt := 43) hx hb dX1_howOften_11 (by decide) (fun c => ?_) (fun c => ?_)
    · have hw := hw.1 c
      refine lv_iload_n hx hb dX1_howOften_43 rfl (lv_at hl 3 rfl) ?_
      exact hq _ F G _ _ _ _ dX1_howOften_44 h hw
    · have hw := hw.2 c
      refine lv_iload hx hb dX1_howOften_14 (lv_at hl 4 rfl) ?_
      refine lv_aload_n hx hb dX1_howOften_16 rfl (lv_at hl 1 rfl) ?_
      refine alX_16 C h dX1_howOften_17 ?_
      refine lv_icmp_ge (tgt := 43) hx hb dX1_howOften_18 (by decide) (fun c => ?_) (fun c => ?_)
      · have hw := hw.1 c
        refine lv_iload_n hx hb dX1_howOften_43 rfl (lv_at hl 3 rfl) ?_
        exact hq _ F G _ _ _ _ dX1_howOften_44 h hw
      · have hw := hw.2 c
        refine lv_iload_n hx hb dX1_howOften_21 rfl (lv_at hl 3 rfl) ?_
        refine lv_aload_n hx hb dX1_howOften_22 rfl (lv_at hl 1 rfl) ?_
        refine lv_iload hx hb dX1_howOften_23 (lv_at hl 4 rfl) ?_
        have hi := hw.1
        have hw := hw.2
        refine laX_16 C h hi dX1_howOften_25 ?_
        refine lv_iload_n hx hb dX1_howOften_26 rfl (lv_at hl 2 rfl) ?_
        refine lv_icmp_ne (tgt := 34) hx hb dX1_howOften_27 (by decide) (fun c => ?_) (fun c => ?_)
        · have hw := hw.1 c
          refine lv_iconst (v := (0 : Int32)) hx hb dX1_howOften_34 (by decide) ?_
          exact wk_X1_howOften_v16_35 hR C hq (fun x2 x3 x4 F G H locs ls h hl hw => ih x2 x3 x4 F G h hl hw) x2 x4 (0 : Int32) x3 F G h (lv_sub hl [0, 1, 2, 4] rfl) hw
        · have hw := hw.2 c
          refine lv_iconst (v := (1 : Int32)) hx hb dX1_howOften_30 (by decide) ?_
          refine lv_goto (tgt := 35) hx hb dX1_howOften_31 (by decide) ?_
          exact wk_X1_howOften_v16_35 hR C hq (fun x2 x3 x4 F G H locs ls h hl hw => ih x2 x3 x4 F G h hl hw) x2 x4 (1 : Int32) x3 F G h (lv_sub hl [0, 1, 2, 4] rfl) hw
set_option maxHeartbeats 4000000 in
set_option maxRecDepth 100000 in
theorem wk_X1_howOften_v16_0 {p : Program} {l : Launch} {e : Env} {R : Room} {s : State} {m : MethodId} {args : Array Value} {below : List Frame} {meth : Method} {c : Code} {K : KT} {A : Nat → Prop} {Z : State → Prop} {a : Nat → Nat} (hR : 0 ≤ R.frames ∧ 0 ≤ R.locals) (C : CX p s m args meth c K A cX1_howOften 5 RX1) {Q : Int32 → FT → GT → Prop} (hq : RetXi p l e R s m args below meth c K A Z a cX1_howOften Q) (x2 : Int32) (F : FT) (G : GT) {H : Heap} {locs : List Loc} (h : WD K A s (wX K a F G) H locs) {ls : Array Slot} (hl : lv_has ls 5 [(0, .ref (a 5)), (1, .ref (a 16)), (2, .int x2)]) (hw : wp_X1_howOften_v16_0 Q x2 F G) : W p l e R s m args below meth c H locs 0 0 Z (F0 m 0 ls []) := by
  unfold wp_X1_howOften_v16_0 at hw
  have hx := C.1
  have hb := C.2.1
  refine lv_iconst (v := (0 : Int32)) hx hb dX1_howOften_0 (by decide) ?_
  refine lv_istore_n (lv' := [(3, .int (0 : Int32)), (0, .ref (a 5)), (1, .ref (a 16)), (2, .int x2)]) hx hb dX1_howOften_1 rfl hl (by decide) rfl (fun ls hl => ?_)
  refine lv_iconst (v := (0 : Int32)) hx hb dX1_howOften_2 (by decide) ?_
  refine lv_istore (lv' := [(4, .int (0 : Int32)), (3, .int (0 : Int32)), (0, .ref (a 5)), (1, .ref (a 16)), (2, .int x2)]) hx hb dX1_howOften_3 hl (by decide) rfl (fun ls hl => ?_)
  obtain ⟨n, hw⟩ := hw
  exact wk_X1_howOften_v16_5 hR C hq n x2 (0 : Int32) (0 : Int32) F G h (lv_sub hl [2, 3, 4, 1, 0] rfl) hw
theorem c_X1_howOften_v16 {l : Launch} {K : KT} {a : Nat → Nat} (x2 : Int32) (F : FT) (G : GT) {Q : Int32 → FT → GT → Prop} (hw : wp_X1_howOften_v16 x2 F G Q) : CtXi l K a yX1_howOften cX1_howOften 5 (some .int) 0 0 [.ref (a 5), .ref (a 16), .int x2] F G Q := fun sz => x_met (Qm := QmXi K a Q) (by decide) (Nat.le_of_ble_eq_true rfl) (fun p e s m below meth c A ls C hr h hl => wk_X1_howOften_v16_0 ⟨Nat.le_refl _, Nat.le_refl _⟩ C (retX_z C hr (fun r F G _ => rfl)) x2 F G h hl hw)
def wp_X1_howOften_v17_35 (Q : Int32 → FT → GT → Prop) (kb : Int32 → Int32 → Int32 → FT → GT → Prop) (x2 : Int32) (x4 : Int32) (s0 : Int32) (s1 : Int32) (F : FT) (G : GT) : Prop := ∀ v1 : Int32, v1 = (x4 + 1) → kb x2 (s1 + s0) v1 F G
def wp_X1_howOften_v17_5 (Q : Int32 → FT → GT → Prop) : Nat → Int32 → Int32 → Int32 → FT → GT → Prop
  | 0, _, _, _, _, _ => False
  | n + 1, x2, x3, x4, F, G => (((F 6) ≤ x4) → Q x3 F G) ∧ ((¬ (F 6) ≤ x4) → (((40 : Int32) ≤ x4) → Q x3 F G) ∧ ((¬ (40 : Int32) ≤ x4) → vp_in x4 40 ∧ ((¬ (G 17 x4.toNatClampNeg) = x2) → wp_X1_howOften_v17_35 Q (fun x2 x3 x4 F G => wp_X1_howOften_v17_5 Q n x2 x3 x4 F G) x2 x4 (0 : Int32) x3 F G) ∧ (((G 17 x4.toNatClampNeg) = x2) → wp_X1_howOften_v17_35 Q (fun x2 x3 x4 F G => wp_X1_howOften_v17_5 Q n x2 x3 x4 F G) x2 x4 (1 : Int32) x3 F G)))
def wp_X1_howOften_v17_0 (Q : Int32 → FT → GT → Prop) (x2 : Int32) (F : FT) (G : GT) : Prop := ∃ n : Nat, wp_X1_howOften_v17_5 Q n x2 (0 : Int32) (0 : Int32) F G
def wp_X1_howOften_v17 (x2 : Int32) (F : FT) (G : GT) (Q : Int32 → FT → GT → Prop) : Prop := wp_X1_howOften_v17_0 Q x2 F G
set_option maxHeartbeats 4000000 in
set_option maxRecDepth 100000 in
theorem wk_X1_howOften_v17_35 {p : Program} {l : Launch} {e : Env} {R : Room} {s : State} {m : MethodId} {args : Array Value} {below : List Frame} {meth : Method} {c : Code} {K : KT} {A : Nat → Prop} {Z : State → Prop} {a : Nat → Nat} (hR : 0 ≤ R.frames ∧ 0 ≤ R.locals) (C : CX p s m args meth c K A cX1_howOften 5 RX1) {Q : Int32 → FT → GT → Prop} (hq : RetXi p l e R s m args below meth c K A Z a cX1_howOften Q) {kb : Int32 → Int32 → Int32 → FT → GT → Prop} (hk : ∀ (x2 : Int32) (x3 : Int32) (x4 : Int32) (F : FT) (G : GT) (H : Heap) (locs : List Loc) (ls : Array Slot), WD K A s (wX K a F G) H locs → lv_has ls 5 [(0, .ref (a 5)), (1, .ref (a 17)), (2, .int x2), (3, .int x3), (4, .int x4)] → kb x2 x3 x4 F G → W p l e R s m args below meth c H locs 0 0 Z (F0 m 5 ls [])) (x2 : Int32) (x4 : Int32) (s0 : Int32) (s1 : Int32) (F : FT) (G : GT) {H : Heap} {locs : List Loc} (h : WD K A s (wX K a F G) H locs) {ls : Array Slot} (hl : lv_has ls 5 [(0, .ref (a 5)), (1, .ref (a 17)), (2, .int x2), (4, .int x4)]) (hw : wp_X1_howOften_v17_35 Q kb x2 x4 s0 s1 F G) : W p l e R s m args below meth c H locs 0 0 Z (F0 m 35 ls [.int s0, .int s1]) := by
  unfold wp_X1_howOften_v17_35 at hw
  have hx := C.1
  have hb := C.2.1
  refine lv_iadd hx hb dX1_howOften_35 ?_
  refine lv_istore_n (lv' := [(3, .int (s1 + s0)), (0, .ref (a 5)), (1, .ref (a 17)), (2, .int x2), (4, .int x4)]) hx hb dX1_howOften_36 rfl hl (by decide) rfl (fun ls hl => ?_)
  obtain ⟨v1, ev1⟩ : ∃ z : Int32, z = (x4 + 1) := ⟨_, rfl⟩
  have hw := hw v1 ev1
  refine lv_iinc (v := v1) (lv' := [(4, .int v1), (3, .int (s1 + s0)), (0, .ref (a 5)), (1, .ref (a 17)), (2, .int x2)]) hx hb dX1_howOften_37 hl (k := 4) rfl (by rw [ev1]; rfl) (by decide) rfl (fun ls hl => ?_)
  refine lv_goto (tgt := 5) hx hb dX1_howOften_40 (by decide) ?_
  exact hk x2 (s1 + s0) v1 F G _ _ _ h (lv_sub hl [2, 3, 4, 1, 0] rfl) hw
set_option maxHeartbeats 4000000 in
set_option maxRecDepth 100000 in
theorem wk_X1_howOften_v17_5 {p : Program} {l : Launch} {e : Env} {R : Room} {s : State} {m : MethodId} {args : Array Value} {below : List Frame} {meth : Method} {c : Code} {K : KT} {A : Nat → Prop} {Z : State → Prop} {a : Nat → Nat} (hR : 0 ≤ R.frames ∧ 0 ≤ R.locals) (C : CX p s m args meth c K A cX1_howOften 5 RX1) {Q : Int32 → FT → GT → Prop} (hq : RetXi p l e R s m args below meth c K A Z a cX1_howOften Q) : ∀ (n : Nat) (x2 : Int32) (x3 : Int32) (x4 : Int32) (F : FT) (G : GT) {H : Heap} {locs : List Loc} (h : WD K A s (wX K a F G) H locs) {ls : Array Slot} (hl : lv_has ls 5 [(0, .ref (a 5)), (1, .ref (a 17)), (2, .int x2), (3, .int x3), (4, .int x4)]) (hw : wp_X1_howOften_v17_5 Q n x2 x3 x4 F G), W p l e R s m args below meth c H locs 0 0 Z (F0 m 5 ls []) := by
  intro n
  induction n with
  | zero => intro x2 x3 x4 F G H locs h ls hl hw; exact False.elim hw
  | succ n ih =>
    intro x2 x3 x4 F G H locs h ls hl hw
    rw [wp_X1_howOften_v17_5] at hw
    have hx := C.1
    have hb := C.2.1
    refine lv_iload hx hb dX1_howOften_5 (lv_at hl 4 rfl) ?_
    refine lv_aload_n hx hb dX1_howOften_7 rfl (lv_at hl 0 rfl) ?_
    refine gX_1_29 C h dX1_howOften_8 ?_
    refine lv_icmp_ge (tgt := 43) hx hb dX1_howOften_11 (by decide) (fun c => ?_) (fun c => ?_)
    · have hw := hw.1 c
      refine lv_iload_n hx hb dX1_howOften_43 rfl (lv_at hl 3 rfl) ?_
      exact hq _ F G _ _ _ _ dX1_howOften_44 h hw
    · have hw := hw.2 c
      refine lv_iload hx hb dX1_howOften_14 (lv_at hl 4 rfl) ?_
      refine lv_aload_n hx hb dX1_howOften_16 rfl (lv_at hl 1 rfl) ?_
      refine alX_17 C h dX1_howOften_17 ?_
      refine lv_icmp_ge (tgt := 43) hx hb dX1_howOften_18 (by decide) (fun c => ?_) (fun c => ?_)
      · have hw := hw.1 c
        refine lv_iload_n hx hb dX1_howOften_43 rfl (lv_at hl 3 rfl) ?_
        exact hq _ F G _ _ _ _ dX1_howOften_44 h hw
      · have hw := hw.2 c
        refine lv_iload_n hx hb dX1_howOften_21 rfl (lv_at hl 3 rfl) ?_
        refine lv_aload_n hx hb dX1_howOften_22 rfl (lv_at hl 1 rfl) ?_
        refine lv_iload hx hb dX1_howOften_23 (lv_at hl 4 rfl) ?_
        have hi := hw.1
        have hw := hw.2
        refine laX_17 C h hi dX1_howOften_25 ?_
        refine lv_iload_n hx hb dX1_howOften_26 rfl (lv_at hl 2 rfl) ?_
        refine lv_icmp_ne (tgt := 34) hx hb dX1_howOften_27 (by decide) (fun c => ?_) (fun c => ?_)
        · have hw := hw.1 c
          refine lv_iconst (v := (0 : Int32)) hx hb dX1_howOften_34 (by decide) ?_
          exact wk_X1_howOften_v17_35 hR C hq (fun x2 x3 x4 F G H locs ls h hl hw => ih x2 x3 x4 F G h hl hw) x2 x4 (0 : Int32) x3 F G h (lv_sub hl [0, 1, 2, 4] rfl) hw
        · have hw := hw.2 c
          refine lv_iconst (v := (1 : Int32)) hx hb dX1_howOften_30 (by decide) ?_
          refine lv_goto (tgt := 35) hx hb dX1_howOften_31 (by decide) ?_
          exact wk_X1_howOften_v17_35 hR C hq (fun x2 x3 x4 F G H locs ls h hl hw => ih x2 x3 x4 F G h hl hw) x2 x4 (1 : Int32) x3 F G h (lv_sub hl [0, 1, 2, 4] rfl) hw
set_option maxHeartbeats 4000000 in
set_option maxRecDepth 100000 in
theorem wk_X1_howOften_v17_0 {p : Program} {l : Launch} {e : Env} {R : Room} {s : State} {m : MethodId} {args : Array Value} {below : List Frame} {meth : Method} {c : Code} {K : KT} {A : Nat → Prop} {Z : State → Prop} {a : Nat → Nat} (hR : 0 ≤ R.frames ∧ 0 ≤ R.locals) (C : CX p s m args meth c K A cX1_howOften 5 RX1) {Q : Int32 → FT → GT → Prop} (hq : RetXi p l e R s m args below meth c K A Z a cX1_howOften Q) (x2 : Int32) (F : FT) (G : GT) {H : Heap} {locs : List Loc} (h : WD K A s (wX K a F G) H locs) {ls : Array Slot} (hl : lv_has ls 5 [(0, .ref (a 5)), (1, .ref (a 17)), (2, .int x2)]) (hw : wp_X1_howOften_v17_0 Q x2 F G) : W p l e R s m args below meth c H locs 0 0 Z (F0 m 0 ls []) := by
  unfold wp_X1_howOften_v17_0 at hw
  have hx := C.1
  have hb := C.2.1
  refine lv_iconst (v := (0 : Int32)) hx hb dX1_howOften_0 (by decide) ?_
  refine lv_istore_n (lv' := [(3, .int (0 : Int32)), (0, .ref (a 5)), (1, .ref (a 17)), (2, .int x2)]) hx hb dX1_howOften_1 rfl hl (by decide) rfl (fun ls hl => ?_)
  refine lv_iconst (v := (0 : Int32)) hx hb dX1_howOften_2 (by decide) ?_
  refine lv_istore (lv' := [(4, .int (0 : Int32)), (3, .int (0 : Int32)), (0, .ref (a 5)), (1, .ref (a 17)), (2, .int x2)]) hx hb dX1_howOften_3 hl (by decide) rfl (fun ls hl => ?_)
  obtain ⟨n, hw⟩ := hw
  exact wk_X1_howOften_v17_5 hR C hq n x2 (0 : Int32) (0 : Int32) F G h (lv_sub hl [2, 3, 4, 1, 0] rfl) hw
theorem c_X1_howOften_v17 {l : Launch} {K : KT} {a : Nat → Nat} (x2 : Int32) (F : FT) (G : GT) {Q : Int32 → FT → GT → Prop} (hw : wp_X1_howOften_v17 x2 F G Q) : CtXi l K a yX1_howOften cX1_howOften 5 (some .int) 0 0 [.ref (a 5), .ref (a 17), .int x2] F G Q := fun sz => x_met (Qm := QmXi K a Q) (by decide) (Nat.le_of_ble_eq_true rfl) (fun p e s m below meth c A ls C hr h hl => wk_X1_howOften_v17_0 ⟨Nat.le_refl _, Nat.le_refl _⟩ C (retX_z C hr (fun r F G _ => rfl)) x2 F G h hl hw)
def wp_X7_purse_0 (Q : Int32 → FT → GT → Prop) (QX : FT → GT → Prop) (x1 : Int32) (x2 : Int32) (F : FT) (G : GT) : Prop := wp_X4_hasPerson x1 F G (fun r3 F1 G2 => ((¬ r3 = 0) → (x2 = 0 → vp_in x1 16 ∧ Q (G2 11 x1.toNatClampNeg) F1 G2) ∧ (x2 = 1 → wp_X4_sumLeft_v12 x1 F1 G2 (fun r6 F4 G5 => Q r6 F4 G5)) ∧ (x2 = 2 → wp_X4_sumLeft_v13 x1 F1 G2 (fun r9 F7 G8 => Q r9 F7 G8)) ∧ (x2 = 3 → wp_X1_howOften_v16 x1 F1 G2 (fun r12 F10 G11 => Q r12 F10 G11)) ∧ (x2 = 4 → wp_X1_howOften_v17 x1 F1 G2 (fun r15 F13 G14 => Q r15 F13 G14)) ∧ (¬ x2 = 0 → ¬ x2 = 1 → ¬ x2 = 2 → ¬ x2 = 3 → ¬ x2 = 4 → QX F1 G2)) ∧ ((r3 = 0) → QX F1 G2))
def wp_X7_purse (x1 : Int32) (x2 : Int32) (F : FT) (G : GT) (Q : Int32 → FT → GT → Prop) (QX : FT → GT → Prop) : Prop := wp_X7_purse_0 Q QX x1 x2 F G
set_option maxHeartbeats 4000000 in
set_option maxRecDepth 100000 in
theorem wk_X7_purse_0 {p : Program} {l : Launch} {e : Env} {R : Room} {s : State} {m : MethodId} {args : Array Value} {below : List Frame} {meth : Method} {c : Code} {K : KT} {A : Nat → Prop} {Z : State → Prop} {a : Nat → Nat} (hR : 6 ≤ R.frames ∧ 82 ≤ R.locals) (C : CX p s m args meth c K A cX7_purse 3 RX7) {Q : Int32 → FT → GT → Prop} (hq : RetXi p l e R s m args below meth c K A Z a cX7_purse Q) {QX : FT → GT → Prop} (hthr : ThrX p l e R s m args below meth c K A Z a cX7_purse 3 "java/util/NoSuchElementException" QX) (x1 : Int32) (x2 : Int32) (F : FT) (G : GT) {H : Heap} {locs : List Loc} (h : WD K A s (wX K a F G) H locs) {ls : Array Slot} (hl : lv_has ls 3 [(0, .ref (a 0)), (1, .int x1), (2, .int x2)]) (hw : wp_X7_purse_0 Q QX x1 x2 F G) : W p l e R s m args below meth c H locs 0 0 Z (F0 m 0 ls []) := by
  unfold wp_X7_purse_0 at hw
  have hx := C.1
  have hb := C.2.1
  refine lv_aload_n hx hb dX7_purse_0 rfl (lv_at hl 0 rfl) ?_
  refine gX_7_33 C h dX7_purse_1 ?_
  refine lv_iload_n hx hb dX7_purse_4 rfl (lv_at hl 1 rfl) ?_
  refine kXiV C h (c_X4_hasPerson x1 F G hw) lk_7_122 (rvX_4 K a F G) rfl hl.1 rfl (Nat.le_of_ble_eq_true rfl) ⟨Nat.le_trans (Nat.le_of_ble_eq_true rfl) hR.1, Nat.le_trans (Nat.le_of_ble_eq_true rfl) hR.2⟩ ⟨Nat.zero_le _, Nat.zero_le _⟩ dX7_purse_5 (fun r3 F1 G2 H locs hw h => ?_)
  have hw := hw.2
  refine lv_if_ne (tgt := 21) hx hb dX7_purse_8 (by decide) (fun c => ?_) (fun c => ?_)
  · have hw := hw.1 c
    refine lv_iload_n hx hb dX7_purse_21 rfl (lv_at hl 2 rfl) ?_
    by_cases k0 : x2 = 0
    · have hw := hw.1 k0
      refine lv_tableIn (tgt := 56) hx hb dX7_purse_22 (by rw [k0]; decide) (by rw [k0]; decide) (by rw [k0]; rfl) (by decide) ?_
      refine lv_aload_n hx hb dX7_purse_56 rfl (lv_at hl 0 rfl) ?_
      refine gX_7_33 C h dX7_purse_57 ?_
      refine gX_7_132 C h dX7_purse_60 ?_
      refine lv_iload_n hx hb dX7_purse_63 rfl (lv_at hl 1 rfl) ?_
      have hi := hw.1
      have hw := hw.2
      refine laX_11 C h hi dX7_purse_64 ?_
      exact hq _ F1 G2 _ _ _ _ dX7_purse_65 h hw
    by_cases k1 : x2 = 1
    · have hw := hw.2.1 k1
      refine lv_tableIn (tgt := 66) hx hb dX7_purse_22 (by rw [k1]; decide) (by rw [k1]; decide) (by rw [k1]; rfl) (by decide) ?_
      refine lv_aload_n hx hb dX7_purse_66 rfl (lv_at hl 0 rfl) ?_
      refine gX_7_33 C h dX7_purse_67 ?_
      refine lv_aload_n hx hb dX7_purse_70 rfl (lv_at hl 0 rfl) ?_
      refine gX_7_33 C h dX7_purse_71 ?_
      refine gX_7_254 C h dX7_purse_74 ?_
      refine lv_iload_n hx hb dX7_purse_77 rfl (lv_at hl 1 rfl) ?_
      refine kXiV C h (c_X4_sumLeft_v12 x1 F1 G2 hw) lk_7_257 (rvX_4 K a F1 G2) rfl hl.1 rfl (Nat.le_of_ble_eq_true rfl) ⟨Nat.le_trans (Nat.le_of_ble_eq_true rfl) hR.1, Nat.le_trans (Nat.le_of_ble_eq_true rfl) hR.2⟩ ⟨Nat.zero_le _, Nat.zero_le _⟩ dX7_purse_78 (fun r6 F4 G5 H locs hw h => ?_)
      exact hq _ F4 G5 _ _ _ _ dX7_purse_81 h hw
    by_cases k2 : x2 = 2
    · have hw := hw.2.2.1 k2
      refine lv_tableIn (tgt := 82) hx hb dX7_purse_22 (by rw [k2]; decide) (by rw [k2]; decide) (by rw [k2]; rfl) (by decide) ?_
      refine lv_aload_n hx hb dX7_purse_82 rfl (lv_at hl 0 rfl) ?_
      refine gX_7_33 C h dX7_purse_83 ?_
      refine lv_aload_n hx hb dX7_purse_86 rfl (lv_at hl 0 rfl) ?_
      refine gX_7_33 C h dX7_purse_87 ?_
      refine gX_7_261 C h dX7_purse_90 ?_
      refine lv_iload_n hx hb dX7_purse_93 rfl (lv_at hl 1 rfl) ?_
      refine kXiV C h (c_X4_sumLeft_v13 x1 F1 G2 hw) lk_7_257 (rvX_4 K a F1 G2) rfl hl.1 rfl (Nat.le_of_ble_eq_true rfl) ⟨Nat.le_trans (Nat.le_of_ble_eq_true rfl) hR.1, Nat.le_trans (Nat.le_of_ble_eq_true rfl) hR.2⟩ ⟨Nat.zero_le _, Nat.zero_le _⟩ dX7_purse_94 (fun r9 F7 G8 H locs hw h => ?_)
      exact hq _ F7 G8 _ _ _ _ dX7_purse_97 h hw
    by_cases k3 : x2 = 3
    · have hw := hw.2.2.2.1 k3
      refine lv_tableIn (tgt := 98) hx hb dX7_purse_22 (by rw [k3]; decide) (by rw [k3]; decide) (by rw [k3]; rfl) (by decide) ?_
      refine lv_aload_n hx hb dX7_purse_98 rfl (lv_at hl 0 rfl) ?_
      refine gX_7_40 C h dX7_purse_99 ?_
      refine lv_aload_n hx hb dX7_purse_102 rfl (lv_at hl 0 rfl) ?_
      refine gX_7_40 C h dX7_purse_103 ?_
      refine gX_7_148 C h dX7_purse_106 ?_
      refine lv_iload_n hx hb dX7_purse_109 rfl (lv_at hl 1 rfl) ?_
      refine kXiV C h (c_X1_howOften_v16 x1 F1 G2 hw) lk_7_264 (rvX_5 K a F1 G2) rfl hl.1 rfl (Nat.le_of_ble_eq_true rfl) ⟨Nat.le_trans (Nat.le_of_ble_eq_true rfl) hR.1, Nat.le_trans (Nat.le_of_ble_eq_true rfl) hR.2⟩ ⟨Nat.zero_le _, Nat.zero_le _⟩ dX7_purse_110 (fun r12 F10 G11 H locs hw h => ?_)
      exact hq _ F10 G11 _ _ _ _ dX7_purse_113 h hw
    by_cases k4 : x2 = 4
    · have hw := hw.2.2.2.2.1 k4
      refine lv_tableIn (tgt := 114) hx hb dX7_purse_22 (by rw [k4]; decide) (by rw [k4]; decide) (by rw [k4]; rfl) (by decide) ?_
      refine lv_aload_n hx hb dX7_purse_114 rfl (lv_at hl 0 rfl) ?_
      refine gX_7_40 C h dX7_purse_115 ?_
      refine lv_aload_n hx hb dX7_purse_118 rfl (lv_at hl 0 rfl) ?_
      refine gX_7_40 C h dX7_purse_119 ?_
      refine gX_7_151 C h dX7_purse_122 ?_
      refine lv_iload_n hx hb dX7_purse_125 rfl (lv_at hl 1 rfl) ?_
      refine kXiV C h (c_X1_howOften_v17 x1 F1 G2 hw) lk_7_264 (rvX_5 K a F1 G2) rfl hl.1 rfl (Nat.le_of_ble_eq_true rfl) ⟨Nat.le_trans (Nat.le_of_ble_eq_true rfl) hR.1, Nat.le_trans (Nat.le_of_ble_eq_true rfl) hR.2⟩ ⟨Nat.zero_le _, Nat.zero_le _⟩ dX7_purse_126 (fun r15 F13 G14 H locs hw h => ?_)
      exact hq _ F13 G14 _ _ _ _ dX7_purse_129 h hw
    have hw := hw.2.2.2.2.2 k0 k1 k2 k3 k4
    refine lv_tableOut (tgt := 130) hx hb dX7_purse_22 (by have n0 := lv_neT k0 (a := 0) (by decide); have n1 := lv_neT k1 (a := 1) (by decide); have n2 := lv_neT k2 (a := 2) (by decide); have n3 := lv_neT k3 (a := 3) (by decide); have n4 := lv_neT k4 (a := 4) (by decide); omega) (by decide) ?_
    exact hthr F1 G2 _ _ _ _ tc_X7_purse_130 h hl.1 hw
  · have hw := hw.2 c
    exact hthr F1 G2 _ _ _ _ tc_X7_purse_11 h hl.1 hw
theorem c_X7_purse {l : Launch} (hst : l.stackTraces = false) {K : KT} {a : Nat → Nat} (x1 : Int32) (x2 : Int32) (F : FT) (G : GT) {Q : Int32 → FT → GT → Prop} {QX : FT → GT → Prop} (hw : wp_X7_purse x1 x2 F G Q QX) : CtXt l K a yX7_purse cX7_purse 3 (some .int) 6 82 [.ref (a 0), .int x1, .int x2] F G Q "java/util/NoSuchElementException" QX := fun sz => x_metT (Qm := QmXi K a Q) (XC := XCX K a "java/util/NoSuchElementException" QX) (by decide) (Nat.le_of_ble_eq_true rfl) (fun p e s m below meth c A ls C hr htab h hl => wk_X7_purse_0 ⟨Nat.le_refl _, Nat.le_refl _⟩ C (retX_t C hr) (thr_ok C hst htab ⟨Nat.le_of_ble_eq_true rfl, Nat.le_of_ble_eq_true rfl, Nat.le_refl _, Nat.le_refl _⟩) x1 x2 F G h hl hw)
