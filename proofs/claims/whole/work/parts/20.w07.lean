def wp_X7_debt_0 (Q : Int32 → FT → GT → Prop) (QX : FT → GT → Prop) (x1 : Int32) (x2 : Int32) (F : FT) (G : GT) : Prop := ((x1 < 0) → QX F G) ∧ ((¬ x1 < 0) → ((x1 < (F 5)) → (x2 = 0 → vp_in x1 80 ∧ Q (G 12 x1.toNatClampNeg) F G) ∧ (x2 = 1 → vp_in x1 80 ∧ Q (G 13 x1.toNatClampNeg) F G) ∧ (x2 = 2 → vp_in x1 80 ∧ Q (G 14 x1.toNatClampNeg) F G) ∧ (x2 = 3 → vp_in x1 80 ∧ Q (G 15 x1.toNatClampNeg) F G) ∧ (¬ x2 = 0 → ¬ x2 = 1 → ¬ x2 = 2 → ¬ x2 = 3 → QX F G)) ∧ ((¬ x1 < (F 5)) → QX F G))
def wp_X7_debt (x1 : Int32) (x2 : Int32) (F : FT) (G : GT) (Q : Int32 → FT → GT → Prop) (QX : FT → GT → Prop) : Prop := wp_X7_debt_0 Q QX x1 x2 F G
set_option maxHeartbeats 4000000 in
set_option maxRecDepth 100000 in
theorem wk_X7_debt_0 {p : Program} {l : Launch} {e : Env} {R : Room} {s : State} {m : MethodId} {args : Array Value} {below : List Frame} {meth : Method} {c : Code} {K : KT} {A : Nat → Prop} {Z : State → Prop} {a : Nat → Nat} (hR : 6 ≤ R.frames ∧ 82 ≤ R.locals) (C : CX p s m args meth c K A cX7_debt 3 RX7) {Q : Int32 → FT → GT → Prop} (hq : RetXi p l e R s m args below meth c K A Z a cX7_debt Q) {QX : FT → GT → Prop} (hthr : ThrX p l e R s m args below meth c K A Z a cX7_debt 3 "java/util/NoSuchElementException" QX) (x1 : Int32) (x2 : Int32) (F : FT) (G : GT) {H : Heap} {locs : List Loc} (h : WD K A s (wX K a F G) H locs) {ls : Array Slot} (hl : lv_has ls 3 [(0, .ref (a 0)), (1, .int x1), (2, .int x2)]) (hw : wp_X7_debt_0 Q QX x1 x2 F G) : W p l e R s m args below meth c H locs 0 0 Z (F0 m 0 ls []) := by
  unfold wp_X7_debt_0 at hw
  have hx := C.1
  have hb := C.2.1
  refine lv_iload_n hx hb dX7_debt_0 rfl (lv_at hl 1 rfl) ?_
  refine lv_if_lt (tgt := 15) hx hb dX7_debt_1 (by decide) (fun c => ?_) (fun c => ?_)
  · have hw := hw.1 c
    exact hthr F G _ _ _ _ tc_X7_debt_15 h hl.1 hw
  · have hw := hw.2 c
    refine lv_iload_n hx hb dX7_debt_4 rfl (lv_at hl 1 rfl) ?_
    refine lv_aload_n hx hb dX7_debt_5 rfl (lv_at hl 0 rfl) ?_
    refine gX_7_33 C h dX7_debt_6 ?_
    refine gX_7_269 C h dX7_debt_9 ?_
    refine lv_icmp_lt (tgt := 26) hx hb dX7_debt_12 (by decide) (fun c => ?_) (fun c => ?_)
    · have hw := hw.1 c
      refine lv_iload_n hx hb dX7_debt_26 rfl (lv_at hl 2 rfl) ?_
      by_cases k0 : x2 = 0
      · have hw := hw.1 k0
        refine lv_tableIn (tgt := 56) hx hb dX7_debt_27 (by rw [k0]; decide) (by rw [k0]; decide) (by rw [k0]; rfl) (by decide) ?_
        refine lv_aload_n hx hb dX7_debt_56 rfl (lv_at hl 0 rfl) ?_
        refine gX_7_33 C h dX7_debt_57 ?_
        refine gX_7_254 C h dX7_debt_60 ?_
        refine lv_iload_n hx hb dX7_debt_63 rfl (lv_at hl 1 rfl) ?_
        have hi := hw.1
        have hw := hw.2
        refine laX_12 C h hi dX7_debt_64 ?_
        exact hq _ F G _ _ _ _ dX7_debt_65 h hw
      by_cases k1 : x2 = 1
      · have hw := hw.2.1 k1
        refine lv_tableIn (tgt := 66) hx hb dX7_debt_27 (by rw [k1]; decide) (by rw [k1]; decide) (by rw [k1]; rfl) (by decide) ?_
        refine lv_aload_n hx hb dX7_debt_66 rfl (lv_at hl 0 rfl) ?_
        refine gX_7_33 C h dX7_debt_67 ?_
        refine gX_7_261 C h dX7_debt_70 ?_
        refine lv_iload_n hx hb dX7_debt_73 rfl (lv_at hl 1 rfl) ?_
        have hi := hw.1
        have hw := hw.2
        refine laX_13 C h hi dX7_debt_74 ?_
        exact hq _ F G _ _ _ _ dX7_debt_75 h hw
      by_cases k2 : x2 = 2
      · have hw := hw.2.2.1 k2
        refine lv_tableIn (tgt := 76) hx hb dX7_debt_27 (by rw [k2]; decide) (by rw [k2]; decide) (by rw [k2]; rfl) (by decide) ?_
        refine lv_aload_n hx hb dX7_debt_76 rfl (lv_at hl 0 rfl) ?_
        refine gX_7_33 C h dX7_debt_77 ?_
        refine gX_7_274 C h dX7_debt_80 ?_
        refine lv_iload_n hx hb dX7_debt_83 rfl (lv_at hl 1 rfl) ?_
        have hi := hw.1
        have hw := hw.2
        refine laX_14 C h hi dX7_debt_84 ?_
        exact hq _ F G _ _ _ _ dX7_debt_85 h hw
      by_cases k3 : x2 = 3
      · have hw := hw.2.2.2.1 k3
        refine lv_tableIn (tgt := 86) hx hb dX7_debt_27 (by rw [k3]; decide) (by rw [k3]; decide) (by rw [k3]; rfl) (by decide) ?_
        refine lv_aload_n hx hb dX7_debt_86 rfl (lv_at hl 0 rfl) ?_
        refine gX_7_33 C h dX7_debt_87 ?_
        refine gX_7_277 C h dX7_debt_90 ?_
        refine lv_iload_n hx hb dX7_debt_93 rfl (lv_at hl 1 rfl) ?_
        have hi := hw.1
        have hw := hw.2
        refine laX_15 C h hi dX7_debt_94 ?_
        exact hq _ F G _ _ _ _ dX7_debt_95 h hw
      have hw := hw.2.2.2.2 k0 k1 k2 k3
      refine lv_tableOut (tgt := 96) hx hb dX7_debt_27 (by have n0 := lv_neT k0 (a := 0) (by decide); have n1 := lv_neT k1 (a := 1) (by decide); have n2 := lv_neT k2 (a := 2) (by decide); have n3 := lv_neT k3 (a := 3) (by decide); omega) (by decide) ?_
      exact hthr F G _ _ _ _ tc_X7_debt_96 h hl.1 hw
    · have hw := hw.2 c
      exact hthr F G _ _ _ _ tc_X7_debt_15 h hl.1 hw
theorem c_X7_debt {l : Launch} (hst : l.stackTraces = false) {K : KT} {a : Nat → Nat} (x1 : Int32) (x2 : Int32) (F : FT) (G : GT) {Q : Int32 → FT → GT → Prop} {QX : FT → GT → Prop} (hw : wp_X7_debt x1 x2 F G Q QX) : CtXt l K a yX7_debt cX7_debt 3 (some .int) 6 82 [.ref (a 0), .int x1, .int x2] F G Q "java/util/NoSuchElementException" QX := fun sz => x_metT (Qm := QmXi K a Q) (XC := XCX K a "java/util/NoSuchElementException" QX) (by decide) (Nat.le_of_ble_eq_true rfl) (fun p e s m below meth c A ls C hr htab h hl => wk_X7_debt_0 ⟨Nat.le_refl _, Nat.le_refl _⟩ C (retX_t C hr) (thr_ok C hst htab ⟨Nat.le_of_ble_eq_true rfl, Nat.le_of_ble_eq_true rfl, Nat.le_refl _, Nat.le_refl _⟩) x1 x2 F G h hl hw)
def wp_X0_placeOf_5 (Q : Int32 → FT → GT → Prop) : Nat → Int32 → Int32 → Int32 → Int32 → FT → GT → Prop
  | 0, _, _, _, _, _, _ => False
  | n + 1, x1, x2, x3, x4, F, G => (((F 7) ≤ x4) → Q (-1 : Int32) F G) ∧ ((¬ (F 7) ≤ x4) → vp_in x4 400 ∧ ((¬ (G 19 x4.toNatClampNeg) = x1) → ∀ v1 : Int32, v1 = (x4 + 1) → wp_X0_placeOf_5 Q n x1 x2 x3 v1 F G) ∧ (((G 19 x4.toNatClampNeg) = x1) → ((¬ x3 = x2) → ∀ v2 : Int32, v2 = (x3 + 1) → ∀ v3 : Int32, v3 = (x4 + 1) → wp_X0_placeOf_5 Q n x1 x2 v2 v3 F G) ∧ ((x3 = x2) → Q x4 F G)))
def wp_X0_placeOf_0 (Q : Int32 → FT → GT → Prop) (x1 : Int32) (x2 : Int32) (F : FT) (G : GT) : Prop := ∃ n : Nat, wp_X0_placeOf_5 Q n x1 x2 (0 : Int32) (0 : Int32) F G
def wp_X0_placeOf (x1 : Int32) (x2 : Int32) (F : FT) (G : GT) (Q : Int32 → FT → GT → Prop) : Prop := wp_X0_placeOf_0 Q x1 x2 F G
set_option maxHeartbeats 4000000 in
set_option maxRecDepth 100000 in
theorem wk_X0_placeOf_5 {p : Program} {l : Launch} {e : Env} {R : Room} {s : State} {m : MethodId} {args : Array Value} {below : List Frame} {meth : Method} {c : Code} {K : KT} {A : Nat → Prop} {Z : State → Prop} {a : Nat → Nat} (hR : 0 ≤ R.frames ∧ 0 ≤ R.locals) (C : CX p s m args meth c K A cX0_placeOf 5 RX0) {Q : Int32 → FT → GT → Prop} (hq : RetXi p l e R s m args below meth c K A Z a cX0_placeOf Q) : ∀ (n : Nat) (x1 : Int32) (x2 : Int32) (x3 : Int32) (x4 : Int32) (F : FT) (G : GT) {H : Heap} {locs : List Loc} (h : WD K A s (wX K a F G) H locs) {ls : Array Slot} (hl : lv_has ls 5 [(0, .ref (a 6)), (1, .int x1), (2, .int x2), (3, .int x3), (4, .int x4)]) (hw : wp_X0_placeOf_5 Q n x1 x2 x3 x4 F G), W p l e R s m args below meth c H locs 0 0 Z (F0 m 5 ls []) := by
  intro n
  induction n with
  | zero => intro x1 x2 x3 x4 F G H locs h ls hl hw; exact False.elim hw
  | succ n ih =>
    intro x1 x2 x3 x4 F G H locs h ls hl hw
    rw [wp_X0_placeOf_5] at hw
    have hx := C.1
    have hb := C.2.1
    refine lv_iload hx hb dX0_placeOf_5 (lv_at hl 4 rfl) ?_
    refine lv_aload_n hx hb dX0_placeOf_7 rfl (lv_at hl 0 rfl) ?_
    refine gX_0_24 C h dX0_placeOf_8 ?_
    refine lv_icmp_ge (tgt := 42) hx hb dX0_placeOf_11 (by decide) (fun c => ?_) (fun c => ?_)
    · have hw := hw.1 c
      refine lv_iconst (v := (-1 : Int32)) hx hb dX0_placeOf_42 (by decide) ?_
      exact hq _ F G _ _ _ _ dX0_placeOf_43 h hw
    · have hw := hw.2 c
      refine lv_aload_n hx hb dX0_placeOf_14 rfl (lv_at hl 0 rfl) ?_
      refine gX_0_9 C h dX0_placeOf_15 ?_
      refine lv_iload hx hb dX0_placeOf_18 (lv_at hl 4 rfl) ?_
      have hi := hw.1
      have hw := hw.2
      refine laX_19 C h hi dX0_placeOf_20 ?_
      refine lv_iload_n hx hb dX0_placeOf_21 rfl (lv_at hl 1 rfl) ?_
      refine lv_icmp_ne (tgt := 36) hx hb dX0_placeOf_22 (by decide) (fun c => ?_) (fun c => ?_)
      · have hw := hw.1 c
        obtain ⟨v1, ev1⟩ : ∃ z : Int32, z = (x4 + 1) := ⟨_, rfl⟩
        have hw := hw v1 ev1
        refine lv_iinc (v := v1) (lv' := [(4, .int v1), (0, .ref (a 6)), (1, .int x1), (2, .int x2), (3, .int x3)]) hx hb dX0_placeOf_36 hl (k := 4) rfl (by rw [ev1]; rfl) (by decide) rfl (fun ls hl => ?_)
        refine lv_goto (tgt := 5) hx hb dX0_placeOf_39 (by decide) ?_
        exact ih x1 x2 x3 v1 F G h (lv_sub hl [1, 2, 3, 4, 0] rfl) hw
      · have hw := hw.2 c
        refine lv_iload_n hx hb dX0_placeOf_25 rfl (lv_at hl 3 rfl) ?_
        refine lv_iload_n hx hb dX0_placeOf_26 rfl (lv_at hl 2 rfl) ?_
        refine lv_icmp_ne (tgt := 33) hx hb dX0_placeOf_27 (by decide) (fun c => ?_) (fun c => ?_)
        · have hw := hw.1 c
          obtain ⟨v2, ev2⟩ : ∃ z : Int32, z = (x3 + 1) := ⟨_, rfl⟩
          have hw := hw v2 ev2
          refine lv_iinc (v := v2) (lv' := [(3, .int v2), (0, .ref (a 6)), (1, .int x1), (2, .int x2), (4, .int x4)]) hx hb dX0_placeOf_33 hl (k := 3) rfl (by rw [ev2]; rfl) (by decide) rfl (fun ls hl => ?_)
          obtain ⟨v3, ev3⟩ : ∃ z : Int32, z = (x4 + 1) := ⟨_, rfl⟩
          have hw := hw v3 ev3
          refine lv_iinc (v := v3) (lv' := [(4, .int v3), (3, .int v2), (0, .ref (a 6)), (1, .int x1), (2, .int x2)]) hx hb dX0_placeOf_36 hl (k := 4) rfl (by rw [ev3]; rfl) (by decide) rfl (fun ls hl => ?_)
          refine lv_goto (tgt := 5) hx hb dX0_placeOf_39 (by decide) ?_
          exact ih x1 x2 v2 v3 F G h (lv_sub hl [2, 3, 4, 1, 0] rfl) hw
        · have hw := hw.2 c
          refine lv_iload hx hb dX0_placeOf_30 (lv_at hl 4 rfl) ?_
          exact hq _ F G _ _ _ _ dX0_placeOf_32 h hw
set_option maxHeartbeats 4000000 in
set_option maxRecDepth 100000 in
theorem wk_X0_placeOf_0 {p : Program} {l : Launch} {e : Env} {R : Room} {s : State} {m : MethodId} {args : Array Value} {below : List Frame} {meth : Method} {c : Code} {K : KT} {A : Nat → Prop} {Z : State → Prop} {a : Nat → Nat} (hR : 0 ≤ R.frames ∧ 0 ≤ R.locals) (C : CX p s m args meth c K A cX0_placeOf 5 RX0) {Q : Int32 → FT → GT → Prop} (hq : RetXi p l e R s m args below meth c K A Z a cX0_placeOf Q) (x1 : Int32) (x2 : Int32) (F : FT) (G : GT) {H : Heap} {locs : List Loc} (h : WD K A s (wX K a F G) H locs) {ls : Array Slot} (hl : lv_has ls 5 [(0, .ref (a 6)), (1, .int x1), (2, .int x2)]) (hw : wp_X0_placeOf_0 Q x1 x2 F G) : W p l e R s m args below meth c H locs 0 0 Z (F0 m 0 ls []) := by
  unfold wp_X0_placeOf_0 at hw
  have hx := C.1
  have hb := C.2.1
  refine lv_iconst (v := (0 : Int32)) hx hb dX0_placeOf_0 (by decide) ?_
  refine lv_istore_n (lv' := [(3, .int (0 : Int32)), (0, .ref (a 6)), (1, .int x1), (2, .int x2)]) hx hb dX0_placeOf_1 rfl hl (by decide) rfl (fun ls hl => ?_)
  refine lv_iconst (v := (0 : Int32)) hx hb dX0_placeOf_2 (by decide) ?_
  refine lv_istore (lv' := [(4, .int (0 : Int32)), (3, .int (0 : Int32)), (0, .ref (a 6)), (1, .int x1), (2, .int x2)]) hx hb dX0_placeOf_3 hl (by decide) rfl (fun ls hl => ?_)
  obtain ⟨n, hw⟩ := hw
  exact wk_X0_placeOf_5 hR C hq n x1 x2 (0 : Int32) (0 : Int32) F G h (lv_sub hl [2, 3, 4, 1, 0] rfl) hw
theorem c_X0_placeOf {l : Launch} {K : KT} {a : Nat → Nat} (x1 : Int32) (x2 : Int32) (F : FT) (G : GT) {Q : Int32 → FT → GT → Prop} (hw : wp_X0_placeOf x1 x2 F G Q) : CtXi l K a yX0_placeOf cX0_placeOf 5 (some .int) 0 0 [.ref (a 6), .int x1, .int x2] F G Q := fun sz => x_met (Qm := QmXi K a Q) (by decide) (Nat.le_of_ble_eq_true rfl) (fun p e s m below meth c A ls C hr h hl => wk_X0_placeOf_0 ⟨Nat.le_refl _, Nat.le_refl _⟩ C (retX_z C hr (fun r F G _ => rfl)) x1 x2 F G h hl hw)
def wp_X7_hand_0 (Q : Int32 → FT → GT → Prop) (QX : FT → GT → Prop) (x1 : Int32) (x2 : Int32) (x3 : Int32) (F : FT) (G : GT) : Prop := wp_X0_placeOf x1 x2 F G (fun r3 F1 G2 => ((¬ r3 = (-1 : Int32)) → (x3 = 0 → vp_in r3 400 ∧ Q (G2 20 r3.toNatClampNeg) F1 G2) ∧ (x3 = 1 → vp_in r3 400 ∧ Q (G2 21 r3.toNatClampNeg) F1 G2) ∧ (x3 = 2 → vp_in r3 400 ∧ Q (G2 22 r3.toNatClampNeg) F1 G2) ∧ (¬ x3 = 0 → ¬ x3 = 1 → ¬ x3 = 2 → QX F1 G2)) ∧ ((r3 = (-1 : Int32)) → QX F1 G2))
def wp_X7_hand (x1 : Int32) (x2 : Int32) (x3 : Int32) (F : FT) (G : GT) (Q : Int32 → FT → GT → Prop) (QX : FT → GT → Prop) : Prop := wp_X7_hand_0 Q QX x1 x2 x3 F G
set_option maxHeartbeats 4000000 in
set_option maxRecDepth 100000 in
theorem wk_X7_hand_0 {p : Program} {l : Launch} {e : Env} {R : Room} {s : State} {m : MethodId} {args : Array Value} {below : List Frame} {meth : Method} {c : Code} {K : KT} {A : Nat → Prop} {Z : State → Prop} {a : Nat → Nat} (hR : 6 ≤ R.frames ∧ 82 ≤ R.locals) (C : CX p s m args meth c K A cX7_hand 5 RX7) {Q : Int32 → FT → GT → Prop} (hq : RetXi p l e R s m args below meth c K A Z a cX7_hand Q) {QX : FT → GT → Prop} (hthr : ThrX p l e R s m args below meth c K A Z a cX7_hand 5 "java/util/NoSuchElementException" QX) (x1 : Int32) (x2 : Int32) (x3 : Int32) (F : FT) (G : GT) {H : Heap} {locs : List Loc} (h : WD K A s (wX K a F G) H locs) {ls : Array Slot} (hl : lv_has ls 5 [(0, .ref (a 0)), (1, .int x1), (2, .int x2), (3, .int x3)]) (hw : wp_X7_hand_0 Q QX x1 x2 x3 F G) : W p l e R s m args below meth c H locs 0 0 Z (F0 m 0 ls []) := by
  unfold wp_X7_hand_0 at hw
  have hx := C.1
  have hb := C.2.1
  refine lv_aload_n hx hb dX7_hand_0 rfl (lv_at hl 0 rfl) ?_
  refine gX_7_47 C h dX7_hand_1 ?_
  refine lv_iload_n hx hb dX7_hand_4 rfl (lv_at hl 1 rfl) ?_
  refine lv_iload_n hx hb dX7_hand_5 rfl (lv_at hl 2 rfl) ?_
  refine kXiV C h (c_X0_placeOf x1 x2 F G hw) lk_7_282 (rvX_6 K a F G) rfl hl.1 rfl (Nat.le_of_ble_eq_true rfl) ⟨Nat.le_trans (Nat.le_of_ble_eq_true rfl) hR.1, Nat.le_trans (Nat.le_of_ble_eq_true rfl) hR.2⟩ ⟨Nat.zero_le _, Nat.zero_le _⟩ dX7_hand_6 (fun r3 F1 G2 H locs hw h => ?_)
  refine lv_istore (lv' := [(4, .int r3), (0, .ref (a 0)), (1, .int x1), (2, .int x2), (3, .int x3)]) hx hb dX7_hand_9 hl (by decide) rfl (fun ls hl => ?_)
  refine lv_iload hx hb dX7_hand_11 (lv_at hl 0 rfl) ?_
  refine lv_iconst (v := (-1 : Int32)) hx hb dX7_hand_13 (by decide) ?_
  refine lv_icmp_ne (tgt := 28) hx hb dX7_hand_14 (by decide) (fun c => ?_) (fun c => ?_)
  · have hw := hw.1 c
    refine lv_iload_n hx hb dX7_hand_28 rfl (lv_at hl 4 rfl) ?_
    by_cases k0 : x3 = 0
    · have hw := hw.1 k0
      refine lv_tableIn (tgt := 56) hx hb dX7_hand_29 (by rw [k0]; decide) (by rw [k0]; decide) (by rw [k0]; rfl) (by decide) ?_
      refine lv_aload_n hx hb dX7_hand_56 rfl (lv_at hl 1 rfl) ?_
      refine gX_7_47 C h dX7_hand_57 ?_
      refine gX_7_287 C h dX7_hand_60 ?_
      refine lv_iload hx hb dX7_hand_63 (lv_at hl 0 rfl) ?_
      have hi := hw.1
      have hw := hw.2
      refine laX_20 C h hi dX7_hand_65 ?_
      exact hq _ F1 G2 _ _ _ _ dX7_hand_66 h hw
    by_cases k1 : x3 = 1
    · have hw := hw.2.1 k1
      refine lv_tableIn (tgt := 67) hx hb dX7_hand_29 (by rw [k1]; decide) (by rw [k1]; decide) (by rw [k1]; rfl) (by decide) ?_
      refine lv_aload_n hx hb dX7_hand_67 rfl (lv_at hl 1 rfl) ?_
      refine gX_7_47 C h dX7_hand_68 ?_
      refine gX_7_288 C h dX7_hand_71 ?_
      refine lv_iload hx hb dX7_hand_74 (lv_at hl 0 rfl) ?_
      have hi := hw.1
      have hw := hw.2
      refine laX_21 C h hi dX7_hand_76 ?_
      exact hq _ F1 G2 _ _ _ _ dX7_hand_77 h hw
    by_cases k2 : x3 = 2
    · have hw := hw.2.2.1 k2
      refine lv_tableIn (tgt := 78) hx hb dX7_hand_29 (by rw [k2]; decide) (by rw [k2]; decide) (by rw [k2]; rfl) (by decide) ?_
      refine lv_aload_n hx hb dX7_hand_78 rfl (lv_at hl 1 rfl) ?_
      refine gX_7_47 C h dX7_hand_79 ?_
      refine gX_7_291 C h dX7_hand_82 ?_
      refine lv_iload hx hb dX7_hand_85 (lv_at hl 0 rfl) ?_
      have hi := hw.1
      have hw := hw.2
      refine laX_22 C h hi dX7_hand_87 ?_
      exact hq _ F1 G2 _ _ _ _ dX7_hand_88 h hw
    have hw := hw.2.2.2 k0 k1 k2
    refine lv_tableOut (tgt := 89) hx hb dX7_hand_29 (by have n0 := lv_neT k0 (a := 0) (by decide); have n1 := lv_neT k1 (a := 1) (by decide); have n2 := lv_neT k2 (a := 2) (by decide); omega) (by decide) ?_
    exact hthr F1 G2 _ _ _ _ tc_X7_hand_89 h hl.1 hw
  · have hw := hw.2 c
    exact hthr F1 G2 _ _ _ _ tc_X7_hand_17 h hl.1 hw
theorem c_X7_hand {l : Launch} (hst : l.stackTraces = false) {K : KT} {a : Nat → Nat} (x1 : Int32) (x2 : Int32) (x3 : Int32) (F : FT) (G : GT) {Q : Int32 → FT → GT → Prop} {QX : FT → GT → Prop} (hw : wp_X7_hand x1 x2 x3 F G Q QX) : CtXt l K a yX7_hand cX7_hand 5 (some .int) 6 82 [.ref (a 0), .int x1, .int x2, .int x3] F G Q "java/util/NoSuchElementException" QX := fun sz => x_metT (Qm := QmXi K a Q) (XC := XCX K a "java/util/NoSuchElementException" QX) (by decide) (Nat.le_of_ble_eq_true rfl) (fun p e s m below meth c A ls C hr htab h hl => wk_X7_hand_0 ⟨Nat.le_refl _, Nat.le_refl _⟩ C (retX_t C hr) (thr_ok C hst htab ⟨Nat.le_of_ble_eq_true rfl, Nat.le_of_ble_eq_true rfl, Nat.le_refl _, Nat.le_refl _⟩) x1 x2 x3 F G h hl hw)
def wp_X5_howManyStand_27 (Q : Int32 → FT → GT → Prop) (kb : Int32 → Int32 → FT → GT → Prop) (x2 : Int32) (s0 : Int32) (s1 : Int32) (F : FT) (G : GT) : Prop := ∀ v1 : Int32, v1 = (x2 + 1) → kb (s1 + s0) v1 F G
def wp_X5_howManyStand_4 (Q : Int32 → FT → GT → Prop) : Nat → Int32 → Int32 → FT → GT → Prop
  | 0, _, _, _, _ => False
  | n + 1, x1, x2, F, G => (((F 8) ≤ x2) → Q x1 F G) ∧ ((¬ (F 8) ≤ x2) → vp_in x2 80 ∧ (((G 30 x2.toNatClampNeg) = 0) → wp_X5_howManyStand_27 Q (fun x1 x2 F G => wp_X5_howManyStand_4 Q n x1 x2 F G) x2 (1 : Int32) x1 F G) ∧ ((¬ (G 30 x2.toNatClampNeg) = 0) → wp_X5_howManyStand_27 Q (fun x1 x2 F G => wp_X5_howManyStand_4 Q n x1 x2 F G) x2 (0 : Int32) x1 F G))
def wp_X5_howManyStand_0 (Q : Int32 → FT → GT → Prop) (F : FT) (G : GT) : Prop := ∃ n : Nat, wp_X5_howManyStand_4 Q n (0 : Int32) (0 : Int32) F G
def wp_X5_howManyStand (F : FT) (G : GT) (Q : Int32 → FT → GT → Prop) : Prop := wp_X5_howManyStand_0 Q F G
set_option maxHeartbeats 4000000 in
set_option maxRecDepth 100000 in
theorem wk_X5_howManyStand_27 {p : Program} {l : Launch} {e : Env} {R : Room} {s : State} {m : MethodId} {args : Array Value} {below : List Frame} {meth : Method} {c : Code} {K : KT} {A : Nat → Prop} {Z : State → Prop} {a : Nat → Nat} (hR : 0 ≤ R.frames ∧ 0 ≤ R.locals) (C : CX p s m args meth c K A cX5_howManyStand 3 RX5) {Q : Int32 → FT → GT → Prop} (hq : RetXi p l e R s m args below meth c K A Z a cX5_howManyStand Q) {kb : Int32 → Int32 → FT → GT → Prop} (hk : ∀ (x1 : Int32) (x2 : Int32) (F : FT) (G : GT) (H : Heap) (locs : List Loc) (ls : Array Slot), WD K A s (wX K a F G) H locs → lv_has ls 3 [(0, .ref (a 7)), (1, .int x1), (2, .int x2)] → kb x1 x2 F G → W p l e R s m args below meth c H locs 0 0 Z (F0 m 4 ls [])) (x2 : Int32) (s0 : Int32) (s1 : Int32) (F : FT) (G : GT) {H : Heap} {locs : List Loc} (h : WD K A s (wX K a F G) H locs) {ls : Array Slot} (hl : lv_has ls 3 [(0, .ref (a 7)), (2, .int x2)]) (hw : wp_X5_howManyStand_27 Q kb x2 s0 s1 F G) : W p l e R s m args below meth c H locs 0 0 Z (F0 m 27 ls [.int s0, .int s1]) := by
  unfold wp_X5_howManyStand_27 at hw
  have hx := C.1
  have hb := C.2.1
  refine lv_iadd hx hb dX5_howManyStand_27 ?_
  refine lv_istore_n (lv' := [(1, .int (s1 + s0)), (0, .ref (a 7)), (2, .int x2)]) hx hb dX5_howManyStand_28 rfl hl (by decide) rfl (fun ls hl => ?_)
  obtain ⟨v1, ev1⟩ : ∃ z : Int32, z = (x2 + 1) := ⟨_, rfl⟩
  have hw := hw v1 ev1
  refine lv_iinc (v := v1) (lv' := [(2, .int v1), (1, .int (s1 + s0)), (0, .ref (a 7))]) hx hb dX5_howManyStand_29 hl (k := 2) rfl (by rw [ev1]; rfl) (by decide) rfl (fun ls hl => ?_)
  refine lv_goto (tgt := 4) hx hb dX5_howManyStand_32 (by decide) ?_
  exact hk (s1 + s0) v1 F G _ _ _ h (lv_sub hl [2, 1, 0] rfl) hw
set_option maxHeartbeats 4000000 in
set_option maxRecDepth 100000 in
theorem wk_X5_howManyStand_4 {p : Program} {l : Launch} {e : Env} {R : Room} {s : State} {m : MethodId} {args : Array Value} {below : List Frame} {meth : Method} {c : Code} {K : KT} {A : Nat → Prop} {Z : State → Prop} {a : Nat → Nat} (hR : 0 ≤ R.frames ∧ 0 ≤ R.locals) (C : CX p s m args meth c K A cX5_howManyStand 3 RX5) {Q : Int32 → FT → GT → Prop} (hq : RetXi p l e R s m args below meth c K A Z a cX5_howManyStand Q) : ∀ (n : Nat) (x1 : Int32) (x2 : Int32) (F : FT) (G : GT) {H : Heap} {locs : List Loc} (h : WD K A s (wX K a F G) H locs) {ls : Array Slot} (hl : lv_has ls 3 [(0, .ref (a 7)), (1, .int x1), (2, .int x2)]) (hw : wp_X5_howManyStand_4 Q n x1 x2 F G), W p l e R s m args below meth c H locs 0 0 Z (F0 m 4 ls []) := by
  intro n
  induction n with
  | zero => intro x1 x2 F G H locs h ls hl hw; exact False.elim hw
  | succ n ih =>
    intro x1 x2 F G H locs h ls hl hw
    rw [wp_X5_howManyStand_4] at hw
    have hx := C.1
    have hb := C.2.1
    refine lv_iload_n hx hb dX5_howManyStand_4 rfl (lv_at hl 2 rfl) ?_
    refine lv_aload_n hx hb dX5_howManyStand_5 rfl (lv_at hl 0 rfl) ?_
    refine gX_5_40 C h dX5_howManyStand_6 ?_
    refine lv_icmp_ge (tgt := 35) hx hb dX5_howManyStand_9 (by decide) (fun c => ?_) (fun c => ?_)
    · have hw := hw.1 c
      refine lv_iload_n hx hb dX5_howManyStand_35 rfl (lv_at hl 1 rfl) ?_
      exact hq _ F G _ _ _ _ dX5_howManyStand_36 h hw
    · have hw := hw.2 c
      refine lv_iload_n hx hb dX5_howManyStand_12 rfl (lv_at hl 1 rfl) ?_
      refine lv_aload_n hx hb dX5_howManyStand_13 rfl (lv_at hl 0 rfl) ?_
      refine gX_5_33 C h dX5_howManyStand_14 ?_
      refine lv_iload_n hx hb dX5_howManyStand_17 rfl (lv_at hl 2 rfl) ?_
      have hi := hw.1
      have hw := hw.2
      refine laX_30 C h hi dX5_howManyStand_18 ?_
      refine lv_if_eq (tgt := 26) hx hb dX5_howManyStand_19 (by decide) (fun c => ?_) (fun c => ?_)
      · have hw := hw.1 c
        refine lv_iconst (v := (1 : Int32)) hx hb dX5_howManyStand_26 (by decide) ?_
        exact wk_X5_howManyStand_27 hR C hq (fun x1 x2 F G H locs ls h hl hw => ih x1 x2 F G h hl hw) x2 (1 : Int32) x1 F G h (lv_sub hl [0, 2] rfl) hw
      · have hw := hw.2 c
        refine lv_iconst (v := (0 : Int32)) hx hb dX5_howManyStand_22 (by decide) ?_
        refine lv_goto (tgt := 27) hx hb dX5_howManyStand_23 (by decide) ?_
        exact wk_X5_howManyStand_27 hR C hq (fun x1 x2 F G H locs ls h hl hw => ih x1 x2 F G h hl hw) x2 (0 : Int32) x1 F G h (lv_sub hl [0, 2] rfl) hw
set_option maxHeartbeats 4000000 in
set_option maxRecDepth 100000 in
theorem wk_X5_howManyStand_0 {p : Program} {l : Launch} {e : Env} {R : Room} {s : State} {m : MethodId} {args : Array Value} {below : List Frame} {meth : Method} {c : Code} {K : KT} {A : Nat → Prop} {Z : State → Prop} {a : Nat → Nat} (hR : 0 ≤ R.frames ∧ 0 ≤ R.locals) (C : CX p s m args meth c K A cX5_howManyStand 3 RX5) {Q : Int32 → FT → GT → Prop} (hq : RetXi p l e R s m args below meth c K A Z a cX5_howManyStand Q) (F : FT) (G : GT) {H : Heap} {locs : List Loc} (h : WD K A s (wX K a F G) H locs) {ls : Array Slot} (hl : lv_has ls 3 [(0, .ref (a 7))]) (hw : wp_X5_howManyStand_0 Q F G) : W p l e R s m args below meth c H locs 0 0 Z (F0 m 0 ls []) := by
  unfold wp_X5_howManyStand_0 at hw
  have hx := C.1
  have hb := C.2.1
  refine lv_iconst (v := (0 : Int32)) hx hb dX5_howManyStand_0 (by decide) ?_
  refine lv_istore_n (lv' := [(1, .int (0 : Int32)), (0, .ref (a 7))]) hx hb dX5_howManyStand_1 rfl hl (by decide) rfl (fun ls hl => ?_)
  refine lv_iconst (v := (0 : Int32)) hx hb dX5_howManyStand_2 (by decide) ?_
  refine lv_istore_n (lv' := [(2, .int (0 : Int32)), (1, .int (0 : Int32)), (0, .ref (a 7))]) hx hb dX5_howManyStand_3 rfl hl (by decide) rfl (fun ls hl => ?_)
  obtain ⟨n, hw⟩ := hw
  exact wk_X5_howManyStand_4 hR C hq n (0 : Int32) (0 : Int32) F G h (lv_sub hl [2, 1, 0] rfl) hw
theorem c_X5_howManyStand {l : Launch} {K : KT} {a : Nat → Nat} (F : FT) (G : GT) {Q : Int32 → FT → GT → Prop} (hw : wp_X5_howManyStand F G Q) : CtXi l K a yX5_howManyStand cX5_howManyStand 3 (some .int) 0 0 [.ref (a 7)] F G Q := fun sz => x_met (Qm := QmXi K a Q) (by decide) (Nat.le_of_ble_eq_true rfl) (fun p e s m below meth c A ls C hr h hl => wk_X5_howManyStand_0 ⟨Nat.le_refl _, Nat.le_refl _⟩ C (retX_z C hr (fun r F G _ => rfl)) F G h hl hw)
def wp_X7_count_0 (Q : Int32 → FT → GT → Prop) (x1 : Int32) (F : FT) (G : GT) : Prop := (x1 = 0 → Q (F 0) F G) ∧ (x1 = 1 → Q (F 3) F G) ∧ (x1 = 2 → Q (F 6) F G) ∧ (x1 = 3 → Q (F 8) F G) ∧ (x1 = 4 → wp_X5_howManyStand F G (fun r3 F1 G2 => Q r3 F1 G2)) ∧ (x1 = 5 → Q (F 5) F G) ∧ (x1 = 6 → Q (F 2) F G) ∧ (x1 = 7 → Q (F 7) F G) ∧ (¬ x1 = 0 → ¬ x1 = 1 → ¬ x1 = 2 → ¬ x1 = 3 → ¬ x1 = 4 → ¬ x1 = 5 → ¬ x1 = 6 → ¬ x1 = 7 → Q (-1 : Int32) F G)
def wp_X7_count (x1 : Int32) (F : FT) (G : GT) (Q : Int32 → FT → GT → Prop) : Prop := wp_X7_count_0 Q x1 F G
set_option maxHeartbeats 4000000 in
set_option maxRecDepth 100000 in
theorem wk_X7_count_0 {p : Program} {l : Launch} {e : Env} {R : Room} {s : State} {m : MethodId} {args : Array Value} {below : List Frame} {meth : Method} {c : Code} {K : KT} {A : Nat → Prop} {Z : State → Prop} {a : Nat → Nat} (hR : 1 ≤ R.frames ∧ 22 ≤ R.locals) (C : CX p s m args meth c K A cX7_count 2 RX7) {Q : Int32 → FT → GT → Prop} (hq : RetXi p l e R s m args below meth c K A Z a cX7_count Q) (x1 : Int32) (F : FT) (G : GT) {H : Heap} {locs : List Loc} (h : WD K A s (wX K a F G) H locs) {ls : Array Slot} (hl : lv_has ls 2 [(0, .ref (a 0)), (1, .int x1)]) (hw : wp_X7_count_0 Q x1 F G) : W p l e R s m args below meth c H locs 0 0 Z (F0 m 0 ls []) := by
  unfold wp_X7_count_0 at hw
  have hx := C.1
  have hb := C.2.1
  refine lv_iload_n hx hb dX7_count_0 rfl (lv_at hl 1 rfl) ?_
  by_cases k0 : x1 = 0
  · have hw := hw.1 k0
    refine lv_tableIn (tgt := 48) hx hb dX7_count_1 (by rw [k0]; decide) (by rw [k0]; decide) (by rw [k0]; rfl) (by decide) ?_
    refine lv_aload_n hx hb dX7_count_48 rfl (lv_at hl 0 rfl) ?_
    refine gX_7_58 C h dX7_count_49 ?_
    exact hq _ F G _ _ _ _ dX7_count_52 h hw
  by_cases k1 : x1 = 1
  · have hw := hw.2.1 k1
    refine lv_tableIn (tgt := 53) hx hb dX7_count_1 (by rw [k1]; decide) (by rw [k1]; decide) (by rw [k1]; rfl) (by decide) ?_
    refine lv_aload_n hx hb dX7_count_53 rfl (lv_at hl 0 rfl) ?_
    refine gX_7_33 C h dX7_count_54 ?_
    refine gX_7_111 C h dX7_count_57 ?_
    exact hq _ F G _ _ _ _ dX7_count_60 h hw
  by_cases k2 : x1 = 2
  · have hw := hw.2.2.1 k2
    refine lv_tableIn (tgt := 61) hx hb dX7_count_1 (by rw [k2]; decide) (by rw [k2]; decide) (by rw [k2]; rfl) (by decide) ?_
    refine lv_aload_n hx hb dX7_count_61 rfl (lv_at hl 0 rfl) ?_
    refine gX_7_40 C h dX7_count_62 ?_
    refine gX_7_135 C h dX7_count_65 ?_
    exact hq _ F G _ _ _ _ dX7_count_68 h hw
  by_cases k3 : x1 = 3
  · have hw := hw.2.2.2.1 k3
    refine lv_tableIn (tgt := 69) hx hb dX7_count_1 (by rw [k3]; decide) (by rw [k3]; decide) (by rw [k3]; rfl) (by decide) ?_
    refine lv_aload_n hx hb dX7_count_69 rfl (lv_at hl 0 rfl) ?_
    refine gX_7_54 C h dX7_count_70 ?_
    refine gX_7_190 C h dX7_count_73 ?_
    exact hq _ F G _ _ _ _ dX7_count_76 h hw
  by_cases k4 : x1 = 4
  · have hw := hw.2.2.2.2.1 k4
    refine lv_tableIn (tgt := 77) hx hb dX7_count_1 (by rw [k4]; decide) (by rw [k4]; decide) (by rw [k4]; rfl) (by decide) ?_
    refine lv_aload_n hx hb dX7_count_77 rfl (lv_at hl 0 rfl) ?_
    refine gX_7_54 C h dX7_count_78 ?_
    refine kXiV C h (c_X5_howManyStand F G hw) lk_7_296 (rvX_7 K a F G) rfl hl.1 rfl (Nat.le_of_ble_eq_true rfl) ⟨Nat.le_trans (Nat.le_of_ble_eq_true rfl) hR.1, Nat.le_trans (Nat.le_of_ble_eq_true rfl) hR.2⟩ ⟨Nat.zero_le _, Nat.zero_le _⟩ dX7_count_81 (fun r3 F1 G2 H locs hw h => ?_)
    exact hq _ F1 G2 _ _ _ _ dX7_count_84 h hw
  by_cases k5 : x1 = 5
  · have hw := hw.2.2.2.2.2.1 k5
    refine lv_tableIn (tgt := 85) hx hb dX7_count_1 (by rw [k5]; decide) (by rw [k5]; decide) (by rw [k5]; rfl) (by decide) ?_
    refine lv_aload_n hx hb dX7_count_85 rfl (lv_at hl 0 rfl) ?_
    refine gX_7_33 C h dX7_count_86 ?_
    refine gX_7_269 C h dX7_count_89 ?_
    exact hq _ F G _ _ _ _ dX7_count_92 h hw
  by_cases k6 : x1 = 6
  · have hw := hw.2.2.2.2.2.2.1 k6
    refine lv_tableIn (tgt := 93) hx hb dX7_count_1 (by rw [k6]; decide) (by rw [k6]; decide) (by rw [k6]; rfl) (by decide) ?_
    refine lv_aload_n hx hb dX7_count_93 rfl (lv_at hl 0 rfl) ?_
    refine gX_7_10 C h dX7_count_94 ?_
    refine gX_7_65 C h dX7_count_97 ?_
    exact hq _ F G _ _ _ _ dX7_count_100 h hw
  by_cases k7 : x1 = 7
  · have hw := hw.2.2.2.2.2.2.2.1 k7
    refine lv_tableIn (tgt := 101) hx hb dX7_count_1 (by rw [k7]; decide) (by rw [k7]; decide) (by rw [k7]; rfl) (by decide) ?_
    refine lv_aload_n hx hb dX7_count_101 rfl (lv_at hl 0 rfl) ?_
    refine gX_7_47 C h dX7_count_102 ?_
    refine gX_7_300 C h dX7_count_105 ?_
    exact hq _ F G _ _ _ _ dX7_count_108 h hw
  have hw := hw.2.2.2.2.2.2.2.2 k0 k1 k2 k3 k4 k5 k6 k7
  refine lv_tableOut (tgt := 109) hx hb dX7_count_1 (by have n0 := lv_neT k0 (a := 0) (by decide); have n1 := lv_neT k1 (a := 1) (by decide); have n2 := lv_neT k2 (a := 2) (by decide); have n3 := lv_neT k3 (a := 3) (by decide); have n4 := lv_neT k4 (a := 4) (by decide); have n5 := lv_neT k5 (a := 5) (by decide); have n6 := lv_neT k6 (a := 6) (by decide); have n7 := lv_neT k7 (a := 7) (by decide); omega) (by decide) ?_
  refine lv_iconst (v := (-1 : Int32)) hx hb dX7_count_109 (by decide) ?_
  exact hq _ F G _ _ _ _ dX7_count_110 h hw
theorem c_X7_count {l : Launch} {K : KT} {a : Nat → Nat} (x1 : Int32) (F : FT) (G : GT) {Q : Int32 → FT → GT → Prop} (hw : wp_X7_count x1 F G Q) : CtXi l K a yX7_count cX7_count 2 (some .int) 1 22 [.ref (a 0), .int x1] F G Q := fun sz => x_met (Qm := QmXi K a Q) (by decide) (Nat.le_of_ble_eq_true rfl) (fun p e s m below meth c A ls C hr h hl => wk_X7_count_0 ⟨Nat.le_refl _, Nat.le_refl _⟩ C (retX_z C hr (fun r F G _ => rfl)) x1 F G h hl hw)
