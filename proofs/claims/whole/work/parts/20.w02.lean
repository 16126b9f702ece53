def wp_X2_adopt_2 (Q : FT → GT → Prop) : Nat → Int32 → Int32 → FT → GT → Prop
  | 0, _, _, _, _ => False
  | n + 1, x1, x3, F, G => (((14 : Int32) ≤ x3) → Q F G) ∧ ((¬ (14 : Int32) ≤ x3) → (((14 : Int32) ≤ x3) → Q F G) ∧ ((¬ (14 : Int32) ≤ x3) → vp_in x1 3 ∧ vp_in x3 14 ∧ vp_in x3 14 ∧ ∀ G2 : GT, G2 = gU G (x1.toNatClampNeg + 300) (upd (G (x1.toNatClampNeg + 300)) x3.toNatClampNeg (G 41 x3.toNatClampNeg)) → ∀ v3 : Int32, v3 = (x3 + 1) → wp_X2_adopt_2 Q n x1 v3 F G2))
def wp_X2_adopt_0 (Q : FT → GT → Prop) (x1 : Int32) (F : FT) (G : GT) : Prop := ∃ n : Nat, wp_X2_adopt_2 Q n x1 (0 : Int32) F G
def wp_X2_adopt (x1 : Int32) (F : FT) (G : GT) (Q : FT → GT → Prop) : Prop := wp_X2_adopt_0 Q x1 F G
set_option maxHeartbeats 4000000 in
set_option maxRecDepth 100000 in
theorem wk_X2_adopt_2 {p : Program} {l : Launch} {e : Env} {R : Room} {s : State} {m : MethodId} {args : Array Value} {below : List Frame} {meth : Method} {c : Code} {K : KT} {A : Nat → Prop} {Z : State → Prop} {a : Nat → Nat} (hR : 0 ≤ R.frames ∧ 0 ≤ R.locals) (C : CX p s m args meth c K A cX2_adopt 4 RX2) {Q : FT → GT → Prop} (hq : RetXv p l e R s m args below meth c K A Z a cX2_adopt Q) : ∀ (n : Nat) (x1 : Int32) (x3 : Int32) (F : FT) (G : GT) {H : Heap} {locs : List Loc} (h : WD K A s (wX K a F G) H locs) {ls : Array Slot} (hl : lv_has ls 4 [(0, .ref (a 3)), (1, .int x1), (2, .ref (a 41)), (3, .int x3)]) (hw : wp_X2_adopt_2 Q n x1 x3 F G), W p l e R s m args below meth c H locs 0 0 Z (F0 m 2 ls []) := by
  intro n
  induction n with
  | zero => intro x1 x3 F G H locs h ls hl hw; exact False.elim hw
  | succ n ih =>
    intro x1 x3 F G H locs h ls hl hw
    rw [wp_X2_adopt_2] at hw
    have hx := C.1
    have hb := C.2.1
    refine lv_iload_n hx hb dX2_adopt_2 rfl (lv_at hl 3 rfl) ?_
    refine lv_bipush (v := (14 : Int32)) hx hb dX2_adopt_3 (by decide) ?_
    refine lv_icmp_ge (tgt := 31) hx hb dX2_adopt_5 (by decide) (fun c => ?_) (fun c => ?_)
    · have hw := hw.1 c
      exact hq F G _ _ _ _ dX2_adopt_31 h hw
    · have hw := hw.2 c
      refine lv_iload_n hx hb dX2_adopt_8 rfl (lv_at hl 3 rfl) ?_
      refine lv_aload_n hx hb dX2_adopt_9 rfl (lv_at hl 2 rfl) ?_
      refine alX_41 C h dX2_adopt_10 ?_
      refine lv_icmp_ge (tgt := 31) hx hb dX2_adopt_11 (by decide) (fun c => ?_) (fun c => ?_)
      · have hw := hw.1 c
        exact hq F G _ _ _ _ dX2_adopt_31 h hw
      · have hw := hw.2 c
        refine lv_aload_n hx hb dX2_adopt_14 rfl (lv_at hl 0 rfl) ?_
        refine gX_2_11 C h dX2_adopt_15 ?_
        refine lv_iload_n hx hb dX2_adopt_18 rfl (lv_at hl 1 rfl) ?_
        have hi1 := hw.1
        have hw := hw.2
        refine oX_43 C h hi1 dX2_adopt_19 ?_
        refine lv_iload_n hx hb dX2_adopt_20 rfl (lv_at hl 3 rfl) ?_
        refine lv_aload_n hx hb dX2_adopt_21 rfl (lv_at hl 2 rfl) ?_
        refine lv_iload_n hx hb dX2_adopt_22 rfl (lv_at hl 3 rfl) ?_
        have hi := hw.1
        have hw := hw.2
        refine laX_41 C h hi dX2_adopt_23 ?_
        have hi := hw.1
        have hw := hw.2
        refine sr_300 C h (in_lt hi1) hi dX2_adopt_24 (fun G2 H locs eG2 h => ?_)
        have hw := hw G2 eG2
        obtain ⟨v3, ev3⟩ : ∃ z : Int32, z = (x3 + 1) := ⟨_, rfl⟩
        have hw := hw v3 ev3
        refine lv_iinc (v := v3) (lv' := [(3, .int v3), (0, .ref (a 3)), (1, .int x1), (2, .ref (a 41))]) hx hb dX2_adopt_25 hl (k := 3) rfl (by rw [ev3]; rfl) (by decide) rfl (fun ls hl => ?_)
        refine lv_goto (tgt := 2) hx hb dX2_adopt_28 (by decide) ?_
        exact ih x1 v3 F G2 h (lv_sub hl [1, 2, 3, 0] rfl) hw
set_option maxHeartbeats 4000000 in
set_option maxRecDepth 100000 in
theorem wk_X2_adopt_0 {p : Program} {l : Launch} {e : Env} {R : Room} {s : State} {m : MethodId} {args : Array Value} {below : List Frame} {meth : Method} {c : Code} {K : KT} {A : Nat → Prop} {Z : State → Prop} {a : Nat → Nat} (hR : 0 ≤ R.frames ∧ 0 ≤ R.locals) (C : CX p s m args meth c K A cX2_adopt 4 RX2) {Q : FT → GT → Prop} (hq : RetXv p l e R s m args below meth c K A Z a cX2_adopt Q) (x1 : Int32) (F : FT) (G : GT) {H : Heap} {locs : List Loc} (h : WD K A s (wX K a F G) H locs) {ls : Array Slot} (hl : lv_has ls 4 [(0, .ref (a 3)), (1, .int x1), (2, .ref (a 41))]) (hw : wp_X2_adopt_0 Q x1 F G) : W p l e R s m args below meth c H locs 0 0 Z (F0 m 0 ls []) := by
  unfold wp_X2_adopt_0 at hw
  have hx := C.1
  have hb := C.2.1
  refine lv_iconst (v := (0 : Int32)) hx hb dX2_adopt_0 (by decide) ?_
  refine lv_istore_n (lv' := [(3, .int (0 : Int32)), (0, .ref (a 3)), (1, .int x1), (2, .ref (a 41))]) hx hb dX2_adopt_1 rfl hl (by decide) rfl (fun ls hl => ?_)
  obtain ⟨n, hw⟩ := hw
  exact wk_X2_adopt_2 hR C hq n x1 (0 : Int32) F G h (lv_sub hl [1, 2, 3, 0] rfl) hw
theorem c_X2_adopt {l : Launch} {K : KT} {a : Nat → Nat} (x1 : Int32) (F : FT) (G : GT) {Q : FT → GT → Prop} (hw : wp_X2_adopt x1 F G Q) : CtXv l K a yX2_adopt cX2_adopt 4 none 0 0 [.ref (a 3), .int x1, .ref (a 41)] F G Q := fun sz => x_met (Qm := QmXv K a Q) (by decide) (Nat.le_of_ble_eq_true rfl) (fun p e s m below meth c A ls C hr h hl => wk_X2_adopt_0 ⟨Nat.le_refl _, Nat.le_refl _⟩ C (retX_v C hr) x1 F G h hl hw)
def wp_X7_law_0 (Q : Int32 → FT → GT → Prop) (QX : FT → GT → Prop) (x1 : Int32) (F : FT) (G : GT) : Prop := wp_X7_isLand x1 F G (fun r3 F1 G2 => ((¬ r3 = 0) → wp_X3_readAll F1 G2 (fun F4 G5 => ∀ F6 : FT, F6 = sU F4 2 (0 : Int32) → ∀ F7 : FT, F7 = sU F6 1 (F6 11) → (((F7 1) = 0) → wp_X2_adopt x1 F7 G5 (fun F8 G9 => Q (F8 10) F8 G9)) ∧ ((¬ (F7 1) = 0) → Q ((-1 : Int32) - (F7 12)) F7 G5))) ∧ ((r3 = 0) → QX F1 G2))
def wp_X7_law (x1 : Int32) (F : FT) (G : GT) (Q : Int32 → FT → GT → Prop) (QX : FT → GT → Prop) : Prop := wp_X7_law_0 Q QX x1 F G
set_option maxHeartbeats 4000000 in
set_option maxRecDepth 100000 in
theorem wk_X7_law_0 {p : Program} {l : Launch} {e : Env} {R : Room} {s : State} {m : MethodId} {args : Array Value} {below : List Frame} {meth : Method} {c : Code} {K : KT} {A : Nat → Prop} {Z : State → Prop} {a : Nat → Nat} (hR : 8 ≤ R.frames ∧ 209 ≤ R.locals) (C : CX p s m args meth c K A cX7_law 2 RX7) {Q : Int32 → FT → GT → Prop} (hq : RetXi p l e R s m args below meth c K A Z a cX7_law Q) {QX : FT → GT → Prop} (hthr : ThrX p l e R s m args below meth c K A Z a cX7_law 2 "java/lang/IndexOutOfBoundsException" QX) (x1 : Int32) (F : FT) (G : GT) {H : Heap} {locs : List Loc} (h : WD K A s (wX K a F G) H locs) {ls : Array Slot} (hl : lv_has ls 2 [(0, .ref (a 0)), (1, .int x1)]) (hw : wp_X7_law_0 Q QX x1 F G) : W p l e R s m args below meth c H locs 0 0 Z (F0 m 0 ls []) := by
  unfold wp_X7_law_0 at hw
  have hx := C.1
  have hb := C.2.1
  refine lv_iload_n hx hb dX7_law_0 rfl (lv_at hl 1 rfl) ?_
  refine kXiS C h (c_X7_isLand x1 F G hw) lk_7_72 rfl hl.1 rfl (Nat.le_of_ble_eq_true rfl) ⟨Nat.le_trans (Nat.le_of_ble_eq_true rfl) hR.1, Nat.le_trans (Nat.le_of_ble_eq_true rfl) hR.2⟩ ⟨Nat.zero_le _, Nat.zero_le _⟩ dX7_law_1 (fun r3 F1 G2 H locs hw h => ?_)
  have hw := hw.2
  refine lv_if_ne (tgt := 17) hx hb dX7_law_4 (by decide) (fun c => ?_) (fun c => ?_)
  · have hw := hw.1 c
    refine lv_aload_n hx hb dX7_law_17 rfl (lv_at hl 0 rfl) ?_
    refine gX_7_19 C h dX7_law_18 ?_
    refine lv_aload_n hx hb dX7_law_21 rfl (lv_at hl 0 rfl) ?_
    refine gX_7_10 C h dX7_law_22 ?_
    refine kXvV C h (c_X3_readAll F1 G2 hw) lk_7_83 (rvX_2 K a F1 G2) rfl hl.1 rfl (Nat.le_of_ble_eq_true rfl) ⟨Nat.le_trans (Nat.le_of_ble_eq_true rfl) hR.1, Nat.le_trans (Nat.le_of_ble_eq_true rfl) hR.2⟩ ⟨Nat.zero_le _, Nat.zero_le _⟩ dX7_law_25 (fun F4 G5 H locs hw h => ?_)
    refine lv_aload_n hx hb dX7_law_28 rfl (lv_at hl 0 rfl) ?_
    refine gX_7_10 C h dX7_law_29 ?_
    refine lv_iconst (v := (0 : Int32)) hx hb dX7_law_32 (by decide) ?_
    refine pX_7_65 C h dX7_law_33 (fun F6 H locs eF6 h => ?_)
    have hw := hw F6 eF6
    refine lv_aload_n hx hb dX7_law_36 rfl (lv_at hl 0 rfl) ?_
    refine lv_aload_n hx hb dX7_law_37 rfl (lv_at hl 0 rfl) ?_
    refine gX_7_19 C h dX7_law_38 ?_
    refine gX_7_87 C h dX7_law_41 ?_
    refine pX_7_62 C h dX7_law_44 (fun F7 H locs eF7 h => ?_)
    have hw := hw F7 eF7
    refine lv_aload_n hx hb dX7_law_47 rfl (lv_at hl 0 rfl) ?_
    refine gX_7_62 C h dX7_law_48 ?_
    refine lv_if_eq (tgt := 64) hx hb dX7_law_51 (by decide) (fun c => ?_) (fun c => ?_)
    · have hw := hw.1 c
      refine lv_aload_n hx hb dX7_law_64 rfl (lv_at hl 0 rfl) ?_
      refine gX_7_26 C h dX7_law_65 ?_
      refine lv_iload_n hx hb dX7_law_68 rfl (lv_at hl 1 rfl) ?_
      refine lv_aload_n hx hb dX7_law_69 rfl (lv_at hl 0 rfl) ?_
      refine gX_7_19 C h dX7_law_70 ?_
      refine gX_7_93 C h dX7_law_73 ?_
      refine kXvV C h (c_X2_adopt x1 F7 G5 hw) lk_7_97 (rvX_3 K a F7 G5) rfl hl.1 rfl (Nat.le_of_ble_eq_true rfl) ⟨Nat.le_trans (Nat.le_of_ble_eq_true rfl) hR.1, Nat.le_trans (Nat.le_of_ble_eq_true rfl) hR.2⟩ ⟨Nat.zero_le _, Nat.zero_le _⟩ dX7_law_76 (fun F8 G9 H locs hw h => ?_)
      refine lv_aload_n hx hb dX7_law_79 rfl (lv_at hl 0 rfl) ?_
      refine gX_7_19 C h dX7_law_80 ?_
      refine gX_7_101 C h dX7_law_83 ?_
      exact hq _ F8 G9 _ _ _ _ dX7_law_86 h hw
    · have hw := hw.2 c
      refine lv_iconst (v := (-1 : Int32)) hx hb dX7_law_54 (by decide) ?_
      refine lv_aload_n hx hb dX7_law_55 rfl (lv_at hl 0 rfl) ?_
      refine gX_7_19 C h dX7_law_56 ?_
      refine gX_7_90 C h dX7_law_59 ?_
      refine lv_isub hx hb dX7_law_62 ?_
      exact hq _ F7 G5 _ _ _ _ dX7_law_63 h hw
  · have hw := hw.2 c
    exact hthr F1 G2 _ _ _ _ tc_X7_law_7 h hl.1 hw
theorem c_X7_law {l : Launch} (hst : l.stackTraces = false) {K : KT} {a : Nat → Nat} (x1 : Int32) (F : FT) (G : GT) {Q : Int32 → FT → GT → Prop} {QX : FT → GT → Prop} (hw : wp_X7_law x1 F G Q QX) : CtXt l K a yX7_law cX7_law 2 (some .int) 8 209 [.ref (a 0), .int x1] F G Q "java/lang/IndexOutOfBoundsException" QX := fun sz => x_metT (Qm := QmXi K a Q) (XC := XCX K a "java/lang/IndexOutOfBoundsException" QX) (by decide) (Nat.le_of_ble_eq_true rfl) (fun p e s m below meth c A ls C hr htab h hl => wk_X7_law_0 ⟨Nat.le_refl _, Nat.le_refl _⟩ C (retX_t C hr) (thr_ok C hst htab ⟨Nat.le_of_ble_eq_true rfl, Nat.le_of_ble_eq_true rfl, Nat.le_refl _, Nat.le_refl _⟩) x1 F G h hl hw)
def wp_X7_wrong_0 (Q : Int32 → FT → GT → Prop) (F : FT) (G : GT) : Prop := Q (F 1) F G
def wp_X7_wrong (F : FT) (G : GT) (Q : Int32 → FT → GT → Prop) : Prop := wp_X7_wrong_0 Q F G
set_option maxHeartbeats 4000000 in
set_option maxRecDepth 100000 in
theorem wk_X7_wrong_0 {p : Program} {l : Launch} {e : Env} {R : Room} {s : State} {m : MethodId} {args : Array Value} {below : List Frame} {meth : Method} {c : Code} {K : KT} {A : Nat → Prop} {Z : State → Prop} {a : Nat → Nat} (hR : 0 ≤ R.frames ∧ 0 ≤ R.locals) (C : CX p s m args meth c K A cX7_wrong 1 RX7) {Q : Int32 → FT → GT → Prop} (hq : RetXi p l e R s m args below meth c K A Z a cX7_wrong Q) (F : FT) (G : GT) {H : Heap} {locs : List Loc} (h : WD K A s (wX K a F G) H locs) {ls : Array Slot} (hl : lv_has ls 1 [(0, .ref (a 0))]) (hw : wp_X7_wrong_0 Q F G) : W p l e R s m args below meth c H locs 0 0 Z (F0 m 0 ls []) := by
  unfold wp_X7_wrong_0 at hw
  have hx := C.1
  have hb := C.2.1
  refine lv_aload_n hx hb dX7_wrong_0 rfl (lv_at hl 0 rfl) ?_
  refine gX_7_62 C h dX7_wrong_1 ?_
  exact hq _ F G _ _ _ _ dX7_wrong_4 h hw
theorem c_X7_wrong {l : Launch} {K : KT} {a : Nat → Nat} (F : FT) (G : GT) {Q : Int32 → FT → GT → Prop} (hw : wp_X7_wrong F G Q) : CtXi l K a yX7_wrong cX7_wrong 1 (some .int) 0 0 [.ref (a 0)] F G Q := fun sz => x_met (Qm := QmXi K a Q) (by decide) (Nat.le_of_ble_eq_true rfl) (fun p e s m below meth c A ls C hr h hl => wk_X7_wrong_0 ⟨Nat.le_refl _, Nat.le_refl _⟩ C (retX_z C hr (fun r F G _ => rfl)) F G h hl hw)
def wp_X2_number_0 (Q : Int32 → FT → GT → Prop) (x1 : Int32) (x2 : Int32) (F : FT) (G : GT) : Prop := vp_in x1 3 ∧ vp_in x2 14 ∧ Q (G (x1.toNatClampNeg + 300) x2.toNatClampNeg) F G
def wp_X2_number (x1 : Int32) (x2 : Int32) (F : FT) (G : GT) (Q : Int32 → FT → GT → Prop) : Prop := wp_X2_number_0 Q x1 x2 F G
set_option maxHeartbeats 4000000 in
set_option maxRecDepth 100000 in
theorem wk_X2_number_0 {p : Program} {l : Launch} {e : Env} {R : Room} {s : State} {m : MethodId} {args : Array Value} {below : List Frame} {meth : Method} {c : Code} {K : KT} {A : Nat → Prop} {Z : State → Prop} {a : Nat → Nat} (hR : 0 ≤ R.frames ∧ 0 ≤ R.locals) (C : CX p s m args meth c K A cX2_number 3 RX2) {Q : Int32 → FT → GT → Prop} (hq : RetXi p l e R s m args below meth c K A Z a cX2_number Q) (x1 : Int32) (x2 : Int32) (F : FT) (G : GT) {H : Heap} {locs : List Loc} (h : WD K A s (wX K a F G) H locs) {ls : Array Slot} (hl : lv_has ls 3 [(0, .ref (a 3)), (1, .int x1), (2, .int x2)]) (hw : wp_X2_number_0 Q x1 x2 F G) : W p l e R s m args below meth c H locs 0 0 Z (F0 m 0 ls []) := by
  unfold wp_X2_number_0 at hw
  have hx := C.1
  have hb := C.2.1
  refine lv_aload_n hx hb dX2_number_0 rfl (lv_at hl 0 rfl) ?_
  refine gX_2_11 C h dX2_number_1 ?_
  refine lv_iload_n hx hb dX2_number_4 rfl (lv_at hl 1 rfl) ?_
  have hi1 := hw.1
  have hw := hw.2
  refine oX_43 C h hi1 dX2_number_5 ?_
  refine lv_iload_n hx hb dX2_number_6 rfl (lv_at hl 2 rfl) ?_
  have hi := hw.1
  have hw := hw.2
  refine lr_300 C h (in_lt hi1) hi dX2_number_7 ?_
  exact hq _ F G _ _ _ _ dX2_number_8 h hw
theorem c_X2_number {l : Launch} {K : KT} {a : Nat → Nat} (x1 : Int32) (x2 : Int32) (F : FT) (G : GT) {Q : Int32 → FT → GT → Prop} (hw : wp_X2_number x1 x2 F G Q) : CtXi l K a yX2_number cX2_number 3 (some .int) 0 0 [.ref (a 3), .int x1, .int x2] F G Q := fun sz => x_met (Qm := QmXi K a Q) (by decide) (Nat.le_of_ble_eq_true rfl) (fun p e s m below meth c A ls C hr h hl => wk_X2_number_0 ⟨Nat.le_refl _, Nat.le_refl _⟩ C (retX_z C hr (fun r F G _ => rfl)) x1 x2 F G h hl hw)
def wp_X7_rule_0 (Q : Int32 → FT → GT → Prop) (QX : FT → GT → Prop) (x1 : Int32) (x2 : Int32) (F : FT) (G : GT) : Prop := wp_X7_isLand x1 F G (fun r3 F1 G2 => ((¬ r3 = 0) → ((¬ x2 = (14 : Int32)) → ((x2 < 0) → Q (-1 : Int32) F1 G2) ∧ ((¬ x2 < 0) → ((x2 < (14 : Int32)) → wp_X2_number x1 x2 F1 G2 (fun r6 F4 G5 => Q r6 F4 G5)) ∧ ((¬ x2 < (14 : Int32)) → Q (-1 : Int32) F1 G2))) ∧ ((x2 = (14 : Int32)) → vp_in x1 3 ∧ Q (G2 10 x1.toNatClampNeg) F1 G2)) ∧ ((r3 = 0) → QX F1 G2))
def wp_X7_rule (x1 : Int32) (x2 : Int32) (F : FT) (G : GT) (Q : Int32 → FT → GT → Prop) (QX : FT → GT → Prop) : Prop := wp_X7_rule_0 Q QX x1 x2 F G
set_option maxHeartbeats 4000000 in
set_option maxRecDepth 100000 in
theorem wk_X7_rule_0 {p : Program} {l : Launch} {e : Env} {R : Room} {s : State} {m : MethodId} {args : Array Value} {below : List Frame} {meth : Method} {c : Code} {K : KT} {A : Nat → Prop} {Z : State → Prop} {a : Nat → Nat} (hR : 6 ≤ R.frames ∧ 82 ≤ R.locals) (C : CX p s m args meth c K A cX7_rule 3 RX7) {Q : Int32 → FT → GT → Prop} (hq : RetXi p l e R s m args below meth c K A Z a cX7_rule Q) {QX : FT → GT → Prop} (hthr : ThrX p l e R s m args below meth c K A Z a cX7_rule 3 "java/lang/IndexOutOfBoundsException" QX) (x1 : Int32) (x2 : Int32) (F : FT) (G : GT) {H : Heap} {locs : List Loc} (h : WD K A s (wX K a F G) H locs) {ls : Array Slot} (hl : lv_has ls 3 [(0, .ref (a 0)), (1, .int x1), (2, .int x2)]) (hw : wp_X7_rule_0 Q QX x1 x2 F G) : W p l e R s m args below meth c H locs 0 0 Z (F0 m 0 ls []) := by
  unfold wp_X7_rule_0 at hw
  have hx := C.1
  have hb := C.2.1
  refine lv_iload_n hx hb dX7_rule_0 rfl (lv_at hl 1 rfl) ?_
  refine kXiS C h (c_X7_isLand x1 F G hw) lk_7_72 rfl hl.1 rfl (Nat.le_of_ble_eq_true rfl) ⟨Nat.le_trans (Nat.le_of_ble_eq_true rfl) hR.1, Nat.le_trans (Nat.le_of_ble_eq_true rfl) hR.2⟩ ⟨Nat.zero_le _, Nat.zero_le _⟩ dX7_rule_1 (fun r3 F1 G2 H locs hw h => ?_)
  have hw := hw.2
  refine lv_if_ne (tgt := 17) hx hb dX7_rule_4 (by decide) (fun c => ?_) (fun c => ?_)
  · have hw := hw.1 c
    refine lv_iload_n hx hb dX7_rule_17 rfl (lv_at hl 2 rfl) ?_
    refine lv_bipush (v := (14 : Int32)) hx hb dX7_rule_18 (by decide) ?_
    refine lv_icmp_ne (tgt := 33) hx hb dX7_rule_20 (by decide) (fun c => ?_) (fun c => ?_)
    · have hw := hw.1 c
      refine lv_iload_n hx hb dX7_rule_33 rfl (lv_at hl 2 rfl) ?_
      refine lv_if_lt (tgt := 43) hx hb dX7_rule_34 (by decide) (fun c => ?_) (fun c => ?_)
      · have hw := hw.1 c
        refine lv_iconst (v := (-1 : Int32)) hx hb dX7_rule_43 (by decide) ?_
        exact hq _ F1 G2 _ _ _ _ dX7_rule_44 h hw
      · have hw := hw.2 c
        refine lv_iload_n hx hb dX7_rule_37 rfl (lv_at hl 2 rfl) ?_
        refine lv_bipush (v := (14 : Int32)) hx hb dX7_rule_38 (by decide) ?_
        refine lv_icmp_lt (tgt := 45) hx hb dX7_rule_40 (by decide) (fun c => ?_) (fun c => ?_)
        · have hw := hw.1 c
          refine lv_aload_n hx hb dX7_rule_45 rfl (lv_at hl 0 rfl) ?_
          refine gX_7_26 C h dX7_rule_46 ?_
          refine lv_iload_n hx hb dX7_rule_49 rfl (lv_at hl 1 rfl) ?_
          refine lv_iload_n hx hb dX7_rule_50 rfl (lv_at hl 2 rfl) ?_
          refine kXiV C h (c_X2_number x1 x2 F1 G2 hw) lk_7_107 (rvX_3 K a F1 G2) rfl hl.1 rfl (Nat.le_of_ble_eq_true rfl) ⟨Nat.le_trans (Nat.le_of_ble_eq_true rfl) hR.1, Nat.le_trans (Nat.le_of_ble_eq_true rfl) hR.2⟩ ⟨Nat.zero_le _, Nat.zero_le _⟩ dX7_rule_51 (fun r6 F4 G5 H locs hw h => ?_)
          exact hq _ F4 G5 _ _ _ _ dX7_rule_54 h hw
        · have hw := hw.2 c
          refine lv_iconst (v := (-1 : Int32)) hx hb dX7_rule_43 (by decide) ?_
          exact hq _ F1 G2 _ _ _ _ dX7_rule_44 h hw
    · have hw := hw.2 c
      refine lv_aload_n hx hb dX7_rule_23 rfl (lv_at hl 0 rfl) ?_
      refine gX_7_26 C h dX7_rule_24 ?_
      refine gX_7_104 C h dX7_rule_27 ?_
      refine lv_iload_n hx hb dX7_rule_30 rfl (lv_at hl 1 rfl) ?_
      have hi := hw.1
      have hw := hw.2
      refine laX_10 C h hi dX7_rule_31 ?_
      exact hq _ F1 G2 _ _ _ _ dX7_rule_32 h hw
  · have hw := hw.2 c
    exact hthr F1 G2 _ _ _ _ tc_X7_rule_7 h hl.1 hw
theorem c_X7_rule {l : Launch} (hst : l.stackTraces = false) {K : KT} {a : Nat → Nat} (x1 : Int32) (x2 : Int32) (F : FT) (G : GT) {Q : Int32 → FT → GT → Prop} {QX : FT → GT → Prop} (hw : wp_X7_rule x1 x2 F G Q QX) : CtXt l K a yX7_rule cX7_rule 3 (some .int) 6 82 [.ref (a 0), .int x1, .int x2] F G Q "java/lang/IndexOutOfBoundsException" QX := fun sz => x_metT (Qm := QmXi K a Q) (XC := XCX K a "java/lang/IndexOutOfBoundsException" QX) (by decide) (Nat.le_of_ble_eq_true rfl) (fun p e s m below meth c A ls C hr htab h hl => wk_X7_rule_0 ⟨Nat.le_refl _, Nat.le_refl _⟩ C (retX_t C hr) (thr_ok C hst htab ⟨Nat.le_of_ble_eq_true rfl, Nat.le_of_ble_eq_true rfl, Nat.le_refl _, Nat.le_refl _⟩) x1 x2 F G h hl hw)
def wp_X4_mayCome_0 (Q : Int32 → FT → GT → Prop) (x1 : Int32) (F : FT) (G : GT) : Prop := ((((1000000000 : Int32) - x1) < (F 4)) → Q (0 : Int32) F G) ∧ ((¬ ((1000000000 : Int32) - x1) < (F 4)) → Q (1 : Int32) F G)
def wp_X4_mayCome (x1 : Int32) (F : FT) (G : GT) (Q : Int32 → FT → GT → Prop) : Prop := wp_X4_mayCome_0 (fun r F G => (r = 0 ∨ r = 1) ∧ Q r F G) x1 F G
set_option maxHeartbeats 4000000 in
set_option maxRecDepth 100000 in
theorem wk_X4_mayCome_0 {p : Program} {l : Launch} {e : Env} {R : Room} {s : State} {m : MethodId} {args : Array Value} {below : List Frame} {meth : Method} {c : Code} {K : KT} {A : Nat → Prop} {Z : State → Prop} {a : Nat → Nat} (hR : 0 ≤ R.frames ∧ 0 ≤ R.locals) (C : CX p s m args meth c K A cX4_mayCome 2 RX4) {Q : Int32 → FT → GT → Prop} (hq : RetXi p l e R s m args below meth c K A Z a cX4_mayCome Q) (x1 : Int32) (F : FT) (G : GT) {H : Heap} {locs : List Loc} (h : WD K A s (wX K a F G) H locs) {ls : Array Slot} (hl : lv_has ls 2 [(0, .ref (a 4)), (1, .int x1)]) (hw : wp_X4_mayCome_0 Q x1 F G) : W p l e R s m args below meth c H locs 0 0 Z (F0 m 0 ls []) := by
  unfold wp_X4_mayCome_0 at hw
  have hx := C.1
  have hb := C.2.1
  refine lv_aload_n hx hb dX4_mayCome_0 rfl (lv_at hl 0 rfl) ?_
  refine gX_4_19 C h dX4_mayCome_1 ?_
  refine lv_ldc hx hb C.2.2.2.1 (C.2.2.2.2.1 _ kc_4_46) dX4_mayCome_4 ?_
  refine lv_iload_n hx hb dX4_mayCome_6 rfl (lv_at hl 1 rfl) ?_
  refine lv_isub hx hb dX4_mayCome_7 ?_
  refine lv_icmp_gt (tgt := 15) hx hb dX4_mayCome_8 (by decide) (fun c => ?_) (fun c => ?_)
  · have hw := hw.1 c
    refine lv_iconst (v := (0 : Int32)) hx hb dX4_mayCome_15 (by decide) ?_
    exact hq _ F G _ _ _ _ dX4_mayCome_16 h hw
  · have hw := hw.2 c
    refine lv_iconst (v := (1 : Int32)) hx hb dX4_mayCome_11 (by decide) ?_
    refine lv_goto (tgt := 16) hx hb dX4_mayCome_12 (by decide) ?_
    exact hq _ F G _ _ _ _ dX4_mayCome_16 h hw
theorem c_X4_mayCome {l : Launch} {K : KT} {a : Nat → Nat} (x1 : Int32) (F : FT) (G : GT) {Q : Int32 → FT → GT → Prop} (hw : wp_X4_mayCome x1 F G Q) : CtXi l K a yX4_mayCome cX4_mayCome 2 (some .boolean) 0 0 [.ref (a 4), .int x1] F G (fun r F G => (r = 0 ∨ r = 1) ∧ Q r F G) := fun sz => x_met (Qm := QmXi K a (fun r F G => (r = 0 ∨ r = 1) ∧ Q r F G)) (by decide) (Nat.le_of_ble_eq_true rfl) (fun p e s m below meth c A ls C hr h hl => wk_X4_mayCome_0 ⟨Nat.le_refl _, Nat.le_refl _⟩ C (retX_z C hr (fun r F G hz => by rcases hz.1 with z | z <;> rw [z] <;> rfl)) x1 F G h hl hw)
def wp_X4_bring_0 (Q : FT → GT → Prop) (x1 : Int32) (x2 : Int32) (F : FT) (G : GT) : Prop := vp_in x1 16 ∧ vp_in x1 16 ∧ ∀ G1 : GT, G1 = gU G 11 (upd (G 11) x1.toNatClampNeg ((G 11 x1.toNatClampNeg) + x2)) → ∀ F2 : FT, F2 = sU F 4 ((F 4) + x2) → Q F2 G1
def wp_X4_bring (x1 : Int32) (x2 : Int32) (F : FT) (G : GT) (Q : FT → GT → Prop) : Prop := wp_X4_bring_0 Q x1 x2 F G
set_option maxHeartbeats 4000000 in
set_option maxRecDepth 100000 in
theorem wk_X4_bring_0 {p : Program} {l : Launch} {e : Env} {R : Room} {s : State} {m : MethodId} {args : Array Value} {below : List Frame} {meth : Method} {c : Code} {K : KT} {A : Nat → Prop} {Z : State → Prop} {a : Nat → Nat} (hR : 0 ≤ R.frames ∧ 0 ≤ R.locals) (C : CX p s m args meth c K A cX4_bring 3 RX4) {Q : FT → GT → Prop} (hq : RetXv p l e R s m args below meth c K A Z a cX4_bring Q) (x1 : Int32) (x2 : Int32) (F : FT) (G : GT) {H : Heap} {locs : List Loc} (h : WD K A s (wX K a F G) H locs) {ls : Array Slot} (hl : lv_has ls 3 [(0, .ref (a 4)), (1, .int x1), (2, .int x2)]) (hw : wp_X4_bring_0 Q x1 x2 F G) : W p l e R s m args below meth c H locs 0 0 Z (F0 m 0 ls []) := by
  unfold wp_X4_bring_0 at hw
  have hx := C.1
  have hb := C.2.1
  refine lv_aload_n hx hb dX4_bring_0 rfl (lv_at hl 0 rfl) ?_
  refine gX_4_9 C h dX4_bring_1 ?_
  refine lv_iload_n hx hb dX4_bring_4 rfl (lv_at hl 1 rfl) ?_
  refine lv_dup2_11 hx hb dX4_bring_5 rfl rfl ?_
  have hi := hw.1
  have hw := hw.2
  refine laX_11 C h hi dX4_bring_6 ?_
  refine lv_iload_n hx hb dX4_bring_7 rfl (lv_at hl 2 rfl) ?_
  refine lv_iadd hx hb dX4_bring_8 ?_
  have hi := hw.1
  have hw := hw.2
  refine saX_11 C h hi dX4_bring_9 (fun G1 H locs eG1 h => ?_)
  have hw := hw G1 eG1
  refine lv_aload_n hx hb dX4_bring_10 rfl (lv_at hl 0 rfl) ?_
  refine lv_dup hx hb dX4_bring_11 rfl ?_
  refine gX_4_19 C h dX4_bring_12 ?_
  refine lv_iload_n hx hb dX4_bring_15 rfl (lv_at hl 2 rfl) ?_
  refine lv_iadd hx hb dX4_bring_16 ?_
  refine pX_4_19 C h dX4_bring_17 (fun F2 H locs eF2 h => ?_)
  have hw := hw F2 eF2
  exact hq F2 G1 _ _ _ _ dX4_bring_20 h hw
theorem c_X4_bring {l : Launch} {K : KT} {a : Nat → Nat} (x1 : Int32) (x2 : Int32) (F : FT) (G : GT) {Q : FT → GT → Prop} (hw : wp_X4_bring x1 x2 F G Q) : CtXv l K a yX4_bring cX4_bring 3 none 0 0 [.ref (a 4), .int x1, .int x2] F G Q := fun sz => x_met (Qm := QmXv K a Q) (by decide) (Nat.le_of_ble_eq_true rfl) (fun p e s m below meth c A ls C hr h hl => wk_X4_bring_0 ⟨Nat.le_refl _, Nat.le_refl _⟩ C (retX_v C hr) x1 x2 F G h hl hw)
def wp_X4_addPerson_0 (Q : Int32 → FT → GT → Prop) (x1 : Int32) (F : FT) (G : GT) : Prop := ∀ F1 : FT, F1 = sU F 3 ((F 3) + (1 : Int32)) → wp_X4_bring (F 3) x1 F1 G (fun F2 G3 => Q (F 3) F2 G3)
def wp_X4_addPerson (x1 : Int32) (F : FT) (G : GT) (Q : Int32 → FT → GT → Prop) : Prop := wp_X4_addPerson_0 Q x1 F G
set_option maxHeartbeats 4000000 in
set_option maxRecDepth 100000 in
theorem wk_X4_addPerson_0 {p : Program} {l : Launch} {e : Env} {R : Room} {s : State} {m : MethodId} {args : Array Value} {below : List Frame} {meth : Method} {c : Code} {K : KT} {A : Nat → Prop} {Z : State → Prop} {a : Nat → Nat} (hR : 1 ≤ R.frames ∧ 22 ≤ R.locals) (C : CX p s m args meth c K A cX4_addPerson 3 RX4) {Q : Int32 → FT → GT → Prop} (hq : RetXi p l e R s m args below meth c K A Z a cX4_addPerson Q) (x1 : Int32) (F : FT) (G : GT) {H : Heap} {locs : List Loc} (h : WD K A s (wX K a F G) H locs) {ls : Array Slot} (hl : lv_has ls 3 [(0, .ref (a 4)), (1, .int x1)]) (hw : wp_X4_addPerson_0 Q x1 F G) : W p l e R s m args below meth c H locs 0 0 Z (F0 m 0 ls []) := by
  unfold wp_X4_addPerson_0 at hw
  have hx := C.1
  have hb := C.2.1
  refine lv_aload_n hx hb dX4_addPerson_0 rfl (lv_at hl 0 rfl) ?_
  refine gX_4_15 C h dX4_addPerson_1 ?_
  refine lv_istore_n (lv' := [(2, .int (F 3)), (0, .ref (a 4)), (1, .int x1)]) hx hb dX4_addPerson_4 rfl hl (by decide) rfl (fun ls hl => ?_)
  refine lv_aload_n hx hb dX4_addPerson_5 rfl (lv_at hl 1 rfl) ?_
  refine lv_dup hx hb dX4_addPerson_6 rfl ?_
  refine gX_4_15 C h dX4_addPerson_7 ?_
  refine lv_iconst (v := (1 : Int32)) hx hb dX4_addPerson_10 (by decide) ?_
  refine lv_iadd hx hb dX4_addPerson_11 ?_
  refine pX_4_15 C h dX4_addPerson_12 (fun F1 H locs eF1 h => ?_)
  have hw := hw F1 eF1
  refine lv_aload_n hx hb dX4_addPerson_15 rfl (lv_at hl 1 rfl) ?_
  refine lv_iload_n hx hb dX4_addPerson_16 rfl (lv_at hl 0 rfl) ?_
  refine lv_iload_n hx hb dX4_addPerson_17 rfl (lv_at hl 2 rfl) ?_
  refine kXvV C h (c_X4_bring (F 3) x1 F1 G hw) lk_4_47 (rvX_4 K a F1 G) rfl hl.1 rfl (Nat.le_of_ble_eq_true rfl) ⟨Nat.le_trans (Nat.le_of_ble_eq_true rfl) hR.1, Nat.le_trans (Nat.le_of_ble_eq_true rfl) hR.2⟩ ⟨Nat.zero_le _, Nat.zero_le _⟩ dX4_addPerson_18 (fun F2 G3 H locs hw h => ?_)
  refine lv_iload_n hx hb dX4_addPerson_21 rfl (lv_at hl 0 rfl) ?_
  exact hq _ F2 G3 _ _ _ _ dX4_addPerson_22 h hw
theorem c_X4_addPerson {l : Launch} {K : KT} {a : Nat → Nat} (x1 : Int32) (F : FT) (G : GT) {Q : Int32 → FT → GT → Prop} (hw : wp_X4_addPerson x1 F G Q) : CtXi l K a yX4_addPerson cX4_addPerson 3 (some .int) 1 22 [.ref (a 4), .int x1] F G Q := fun sz => x_met (Qm := QmXi K a Q) (by decide) (Nat.le_of_ble_eq_true rfl) (fun p e s m below meth c A ls C hr h hl => wk_X4_addPerson_0 ⟨Nat.le_refl _, Nat.le_refl _⟩ C (retX_z C hr (fun r F G _ => rfl)) x1 F G h hl hw)
def wp_X7_person_0 (Q : Int32 → FT → GT → Prop) (x1 : Int32) (F : FT) (G : GT) : Prop := (((16 : Int32) ≤ (F 3)) → Q (-1 : Int32) F G) ∧ ((¬ (16 : Int32) ≤ (F 3)) → ((x1 < 0) → Q (-1 : Int32) F G) ∧ ((¬ x1 < 0) → (((1000000 : Int32) < x1) → Q (-1 : Int32) F G) ∧ ((¬ (1000000 : Int32) < x1) → wp_X4_mayCome x1 F G (fun r3 F1 G2 => ((¬ r3 = 0) → wp_X4_addPerson x1 F1 G2 (fun r6 F4 G5 => Q r6 F4 G5)) ∧ ((r3 = 0) → Q (-1 : Int32) F1 G2)))))
def wp_X7_person (x1 : Int32) (F : FT) (G : GT) (Q : Int32 → FT → GT → Prop) : Prop := wp_X7_person_0 Q x1 F G
set_option maxHeartbeats 4000000 in
set_option maxRecDepth 100000 in
theorem wk_X7_person_0 {p : Program} {l : Launch} {e : Env} {R : Room} {s : State} {m : MethodId} {args : Array Value} {below : List Frame} {meth : Method} {c : Code} {K : KT} {A : Nat → Prop} {Z : State → Prop} {a : Nat → Nat} (hR : 2 ≤ R.frames ∧ 44 ≤ R.locals) (C : CX p s m args meth c K A cX7_person 2 RX7) {Q : Int32 → FT → GT → Prop} (hq : RetXi p l e R s m args below meth c K A Z a cX7_person Q) (x1 : Int32) (F : FT) (G : GT) {H : Heap} {locs : List Loc} (h : WD K A s (wX K a F G) H locs) {ls : Array Slot} (hl : lv_has ls 2 [(0, .ref (a 0)), (1, .int x1)]) (hw : wp_X7_person_0 Q x1 F G) : W p l e R s m args below meth c H locs 0 0 Z (F0 m 0 ls []) := by
  unfold wp_X7_person_0 at hw
  have hx := C.1
  have hb := C.2.1
  refine lv_aload_n hx hb dX7_person_0 rfl (lv_at hl 0 rfl) ?_
  refine gX_7_33 C h dX7_person_1 ?_
  refine gX_7_111 C h dX7_person_4 ?_
  refine lv_bipush (v := (16 : Int32)) hx hb dX7_person_7 (by decide) ?_
  refine lv_icmp_ge (tgt := 33) hx hb dX7_person_9 (by decide) (fun c => ?_) (fun c => ?_)
  · have hw := hw.1 c
    refine lv_iconst (v := (-1 : Int32)) hx hb dX7_person_33 (by decide) ?_
    exact hq _ F G _ _ _ _ dX7_person_34 h hw
  · have hw := hw.2 c
    refine lv_iload_n hx hb dX7_person_12 rfl (lv_at hl 1 rfl) ?_
    refine lv_if_lt (tgt := 33) hx hb dX7_person_13 (by decide) (fun c => ?_) (fun c => ?_)
    · have hw := hw.1 c
      refine lv_iconst (v := (-1 : Int32)) hx hb dX7_person_33 (by decide) ?_
      exact hq _ F G _ _ _ _ dX7_person_34 h hw
    · have hw := hw.2 c
      refine lv_iload_n hx hb dX7_person_16 rfl (lv_at hl 1 rfl) ?_
      refine lv_ldc hx hb C.2.2.2.1 (C.2.2.2.2.1 _ kc_7_114) dX7_person_17 ?_
      refine lv_icmp_gt (tgt := 33) hx hb dX7_person_19 (by decide) (fun c => ?_) (fun c => ?_)
      · have hw := hw.1 c
        refine lv_iconst (v := (-1 : Int32)) hx hb dX7_person_33 (by decide) ?_
        exact hq _ F G _ _ _ _ dX7_person_34 h hw
      · have hw := hw.2 c
        refine lv_aload_n hx hb dX7_person_22 rfl (lv_at hl 0 rfl) ?_
        refine gX_7_33 C h dX7_person_23 ?_
        refine lv_iload_n hx hb dX7_person_26 rfl (lv_at hl 1 rfl) ?_
        refine kXiV C h (c_X4_mayCome x1 F G hw) lk_7_115 (rvX_4 K a F G) rfl hl.1 rfl (Nat.le_of_ble_eq_true rfl) ⟨Nat.le_trans (Nat.le_of_ble_eq_true rfl) hR.1, Nat.le_trans (Nat.le_of_ble_eq_true rfl) hR.2⟩ ⟨Nat.zero_le _, Nat.zero_le _⟩ dX7_person_27 (fun r3 F1 G2 H locs hw h => ?_)
        have hw := hw.2
        refine lv_if_ne (tgt := 35) hx hb dX7_person_30 (by decide) (fun c => ?_) (fun c => ?_)
        · have hw := hw.1 c
          refine lv_aload_n hx hb dX7_person_35 rfl (lv_at hl 0 rfl) ?_
          refine gX_7_33 C h dX7_person_36 ?_
          refine lv_iload_n hx hb dX7_person_39 rfl (lv_at hl 1 rfl) ?_
          refine kXiV C h (c_X4_addPerson x1 F1 G2 hw) lk_7_118 (rvX_4 K a F1 G2) rfl hl.1 rfl (Nat.le_of_ble_eq_true rfl) ⟨Nat.le_trans (Nat.le_of_ble_eq_true rfl) hR.1, Nat.le_trans (Nat.le_of_ble_eq_true rfl) hR.2⟩ ⟨Nat.zero_le _, Nat.zero_le _⟩ dX7_person_40 (fun r6 F4 G5 H locs hw h => ?_)
          exact hq _ F4 G5 _ _ _ _ dX7_person_43 h hw
        · have hw := hw.2 c
          refine lv_iconst (v := (-1 : Int32)) hx hb dX7_person_33 (by decide) ?_
          exact hq _ F1 G2 _ _ _ _ dX7_person_34 h hw
theorem c_X7_person {l : Launch} {K : KT} {a : Nat → Nat} (x1 : Int32) (F : FT) (G : GT) {Q : Int32 → FT → GT → Prop} (hw : wp_X7_person x1 F G Q) : CtXi l K a yX7_person cX7_person 2 (some .int) 2 44 [.ref (a 0), .int x1] F G Q := fun sz => x_met (Qm := QmXi K a Q) (by decide) (Nat.le_of_ble_eq_true rfl) (fun p e s m below meth c A ls C hr h hl => wk_X7_person_0 ⟨Nat.le_refl _, Nat.le_refl _⟩ C (retX_z C hr (fun r F G _ => rfl)) x1 F G h hl hw)
def wp_X4_hasPerson_0 (Q : Int32 → FT → GT → Prop) (x1 : Int32) (F : FT) (G : GT) : Prop := ((x1 < 0) → Q (0 : Int32) F G) ∧ ((¬ x1 < 0) → (((F 3) ≤ x1) → Q (0 : Int32) F G) ∧ ((¬ (F 3) ≤ x1) → Q (1 : Int32) F G))
def wp_X4_hasPerson (x1 : Int32) (F : FT) (G : GT) (Q : Int32 → FT → GT → Prop) : Prop := wp_X4_hasPerson_0 (fun r F G => (r = 0 ∨ r = 1) ∧ Q r F G) x1 F G
set_option maxHeartbeats 4000000 in
set_option maxRecDepth 100000 in
theorem wk_X4_hasPerson_0 {p : Program} {l : Launch} {e : Env} {R : Room} {s : State} {m : MethodId} {args : Array Value} {below : List Frame} {meth : Method} {c : Code} {K : KT} {A : Nat → Prop} {Z : State → Prop} {a : Nat → Nat} (hR : 0 ≤ R.frames ∧ 0 ≤ R.locals) (C : CX p s m args meth c K A cX4_hasPerson 2 RX4) {Q : Int32 → FT → GT → Prop} (hq : RetXi p l e R s m args below meth c K A Z a cX4_hasPerson Q) (x1 : Int32) (F : FT) (G : GT) {H : Heap} {locs : List Loc} (h : WD K A s (wX K a F G) H locs) {ls : Array Slot} (hl : lv_has ls 2 [(0, .ref (a 4)), (1, .int x1)]) (hw : wp_X4_hasPerson_0 Q x1 F G) : W p l e R s m args below meth c H locs 0 0 Z (F0 m 0 ls []) := by
  unfold wp_X4_hasPerson_0 at hw
  have hx := C.1
  have hb := C.2.1
  refine lv_iload_n hx hb dX4_hasPerson_0 rfl (lv_at hl 1 rfl) ?_
  refine lv_if_lt (tgt := 16) hx hb dX4_hasPerson_1 (by decide) (fun c => ?_) (fun c => ?_)
  · have hw := hw.1 c
    refine lv_iconst (v := (0 : Int32)) hx hb dX4_hasPerson_16 (by decide) ?_
    exact hq _ F G _ _ _ _ dX4_hasPerson_17 h hw
  · have hw := hw.2 c
    refine lv_iload_n hx hb dX4_hasPerson_4 rfl (lv_at hl 1 rfl) ?_
    refine lv_aload_n hx hb dX4_hasPerson_5 rfl (lv_at hl 0 rfl) ?_
    refine gX_4_15 C h dX4_hasPerson_6 ?_
    refine lv_icmp_ge (tgt := 16) hx hb dX4_hasPerson_9 (by decide) (fun c => ?_) (fun c => ?_)
    · have hw := hw.1 c
      refine lv_iconst (v := (0 : Int32)) hx hb dX4_hasPerson_16 (by decide) ?_
      exact hq _ F G _ _ _ _ dX4_hasPerson_17 h hw
    · have hw := hw.2 c
      refine lv_iconst (v := (1 : Int32)) hx hb dX4_hasPerson_12 (by decide) ?_
      refine lv_goto (tgt := 17) hx hb dX4_hasPerson_13 (by decide) ?_
      exact hq _ F G _ _ _ _ dX4_hasPerson_17 h hw
theorem c_X4_hasPerson {l : Launch} {K : KT} {a : Nat → Nat} (x1 : Int32) (F : FT) (G : GT) {Q : Int32 → FT → GT → Prop} (hw : wp_X4_hasPerson x1 F G Q) : CtXi l K a yX4_hasPerson cX4_hasPerson 2 (some .boolean) 0 0 [.ref (a 4), .int x1] F G (fun r F G => (r = 0 ∨ r = 1) ∧ Q r F G) := fun sz => x_met (Qm := QmXi K a (fun r F G => (r = 0 ∨ r = 1) ∧ Q r F G)) (by decide) (Nat.le_of_ble_eq_true rfl) (fun p e s m below meth c A ls C hr h hl => wk_X4_hasPerson_0 ⟨Nat.le_refl _, Nat.le_refl _⟩ C (retX_z C hr (fun r F G hz => by rcases hz.1 with z | z <;> rw [z] <;> rfl)) x1 F G h hl hw)
def wp_X4_payOldest_41 (Q : Int32 → FT → GT → Prop) : Nat → Int32 → FT → GT → Prop
  | 0, _, _, _ => False
  | n + 1, x1, F, G => (((F 5) ≤ x1) → Q (0 : Int32) F G) ∧ ((¬ (F 5) ≤ x1) → vp_in x1 80 ∧ vp_in x1 80 ∧ vp_in (G 12 x1.toNatClampNeg) 16 ∧ ∀ v1 : Int32, v1 = (if (G 11 (G 12 x1.toNatClampNeg).toNatClampNeg) < (G 15 x1.toNatClampNeg) then (G 11 (G 12 x1.toNatClampNeg).toNatClampNeg) else (G 15 x1.toNatClampNeg)) → ((v1 ≤ 0) → ∀ v2 : Int32, v2 = (x1 + 1) → wp_X4_payOldest_41 Q n v2 F G) ∧ ((¬ v1 ≤ 0) → vp_in x1 80 ∧ vp_in x1 80 ∧ ∀ G3 : GT, G3 = gU G 15 (upd (G 15) x1.toNatClampNeg ((G 15 x1.toNatClampNeg) - v1)) → vp_in x1 80 ∧ vp_in (G3 12 x1.toNatClampNeg) 16 ∧ ∀ v4 : Int32, v4 = ((G3 11 (G3 12 x1.toNatClampNeg).toNatClampNeg) - v1) → vp_in (G3 12 x1.toNatClampNeg) 16 ∧ ∀ G5 : GT, G5 = gU G3 11 (upd (G3 11) (G3 12 x1.toNatClampNeg).toNatClampNeg v4) → vp_in x1 80 ∧ vp_in (G5 13 x1.toNatClampNeg) 16 ∧ ∀ v6 : Int32, v6 = ((G5 11 (G5 13 x1.toNatClampNeg).toNatClampNeg) + v1) → vp_in (G5 13 x1.toNatClampNeg) 16 ∧ ∀ G7 : GT, G7 = gU G5 11 (upd (G5 11) (G5 13 x1.toNatClampNeg).toNatClampNeg v6) → Q (1 : Int32) F G7))
def wp_X4_payOldest_0 (Q : Int32 → FT → GT → Prop) : Nat → FT → GT → Prop
  | 0, _, _ => False
  | n + 1, F, G => (((F 5) ≤ (F 17)) → ∃ n : Nat, wp_X4_payOldest_41 Q n (F 17) F G) ∧ ((¬ (F 5) ≤ (F 17)) → vp_in (F 17) 80 ∧ ((¬ (G 15 (F 17).toNatClampNeg) = 0) → ∃ n : Nat, wp_X4_payOldest_41 Q n (F 17) F G) ∧ (((G 15 (F 17).toNatClampNeg) = 0) → ∀ F1 : FT, F1 = sU F 17 ((F 17) + (1 : Int32)) → wp_X4_payOldest_0 Q n F1 G))
def wp_X4_payOldest (F : FT) (G : GT) (Q : Int32 → FT → GT → Prop) : Prop := ∃ n : Nat, wp_X4_payOldest_0 (fun r F G => (r = 0 ∨ r = 1) ∧ Q r F G) n F G
set_option maxHeartbeats 4000000 in
set_option maxRecDepth 100000 in
theorem wk_X4_payOldest_41 {p : Program} {l : Launch} {e : Env} {R : Room} {s : State} {m : MethodId} {args : Array Value} {below : List Frame} {meth : Method} {c : Code} {K : KT} {A : Nat → Prop} {Z : State → Prop} {a : Nat → Nat} (hR : 1 ≤ R.frames ∧ 21 ≤ R.locals) (C : CX p s m args meth c K A cX4_payOldest 3 RX4) {Q : Int32 → FT → GT → Prop} (hq : RetXi p l e R s m args below meth c K A Z a cX4_payOldest Q) : ∀ (n : Nat) (x1 : Int32) (F : FT) (G : GT) {H : Heap} {locs : List Loc} (h : WD K A s (wX K a F G) H locs) {ls : Array Slot} (hl : lv_has ls 3 [(0, .ref (a 4)), (1, .int x1)]) (hw : wp_X4_payOldest_41 Q n x1 F G), W p l e R s m args below meth c H locs 0 0 Z (F0 m 41 ls []) := by
  intro n
  induction n with
  | zero => intro x1 F G H locs h ls hl hw; exact False.elim hw
  | succ n ih =>
    intro x1 F G H locs h ls hl hw
    rw [wp_X4_payOldest_41] at hw
    have hx := C.1
    have hb := C.2.1
    refine lv_iload_n hx hb dX4_payOldest_41 rfl (lv_at hl 1 rfl) ?_
    refine lv_aload_n hx hb dX4_payOldest_42 rfl (lv_at hl 0 rfl) ?_
    refine gX_4_34 C h dX4_payOldest_43 ?_
    refine lv_icmp_ge (tgt := 122) hx hb dX4_payOldest_46 (by decide) (fun c => ?_) (fun c => ?_)
    · have hw := hw.1 c
      refine lv_iconst (v := (0 : Int32)) hx hb dX4_payOldest_122 (by decide) ?_
      exact hq _ F G _ _ _ _ dX4_payOldest_123 h hw
    · have hw := hw.2 c
      refine lv_aload_n hx hb dX4_payOldest_49 rfl (lv_at hl 0 rfl) ?_
      refine gX_4_31 C h dX4_payOldest_50 ?_
      refine lv_iload_n hx hb dX4_payOldest_53 rfl (lv_at hl 1 rfl) ?_
      have hi := hw.1
      have hw := hw.2
      refine laX_15 C h hi dX4_payOldest_54 ?_
      refine lv_aload_n hx hb dX4_payOldest_55 rfl (lv_at hl 0 rfl) ?_
      refine gX_4_9 C h dX4_payOldest_56 ?_
      refine lv_aload_n hx hb dX4_payOldest_59 rfl (lv_at hl 0 rfl) ?_
      refine gX_4_22 C h dX4_payOldest_60 ?_
      refine lv_iload_n hx hb dX4_payOldest_63 rfl (lv_at hl 1 rfl) ?_
      have hi := hw.1
      have hw := hw.2
      refine laX_12 C h hi dX4_payOldest_64 ?_
      have hi := hw.1
      have hw := hw.2
      refine laX_11 C h hi dX4_payOldest_65 ?_
      refine x_mmin C hl.1 lk_4_51 (Nat.le_of_ble_eq_true rfl) ⟨Nat.le_trans (Nat.le_of_ble_eq_true rfl) hR.1, Nat.le_trans (Nat.le_of_ble_eq_true rfl) hR.2⟩ ⟨Nat.zero_le _, Nat.zero_le _⟩ dX4_payOldest_66 ?_
      refine lv_topi (fun v1 ev1 => ?_)
      have hw := hw v1 ev1
      refine lv_istore_n (lv' := [(2, .int v1), (0, .ref (a 4)), (1, .int x1)]) hx hb dX4_payOldest_69 rfl hl (by decide) rfl (fun ls hl => ?_)
      refine lv_iload_n hx hb dX4_payOldest_70 rfl (lv_at hl 0 rfl) ?_
      refine lv_if_le (tgt := 116) hx hb dX4_payOldest_71 (by decide) (fun c => ?_) (fun c => ?_)
      · have hw := hw.1 c
        obtain ⟨v2, ev2⟩ : ∃ z : Int32, z = (x1 + 1) := ⟨_, rfl⟩
        have hw := hw v2 ev2
        refine lv_iinc (v := v2) (lv' := [(1, .int v2), (2, .int v1), (0, .ref (a 4))]) hx hb dX4_payOldest_116 hl (k := 2) rfl (by rw [ev2]; rfl) (by decide) rfl (fun ls hl => ?_)
        refine lv_goto (tgt := 41) hx hb dX4_payOldest_119 (by decide) ?_
        exact ih v2 F G h (lv_sub hl [2, 0] rfl) hw
      · have hw := hw.2 c
        refine lv_aload_n hx hb dX4_payOldest_74 rfl (lv_at hl 1 rfl) ?_
        refine gX_4_31 C h dX4_payOldest_75 ?_
        refine lv_iload_n hx hb dX4_payOldest_78 rfl (lv_at hl 2 rfl) ?_
        refine lv_dup2_11 hx hb dX4_payOldest_79 rfl rfl ?_
        have hi := hw.1
        have hw := hw.2
        refine laX_15 C h hi dX4_payOldest_80 ?_
        refine lv_iload_n hx hb dX4_payOldest_81 rfl (lv_at hl 0 rfl) ?_
        refine lv_isub hx hb dX4_payOldest_82 ?_
        have hi := hw.1
        have hw := hw.2
        refine saX_15 C h hi dX4_payOldest_83 (fun G3 H locs eG3 h => ?_)
        have hw := hw G3 eG3
        refine lv_aload_n hx hb dX4_payOldest_84 rfl (lv_at hl 1 rfl) ?_
        refine gX_4_9 C h dX4_payOldest_85 ?_
        refine lv_aload_n hx hb dX4_payOldest_88 rfl (lv_at hl 1 rfl) ?_
        refine gX_4_22 C h dX4_payOldest_89 ?_
        refine lv_iload_n hx hb dX4_payOldest_92 rfl (lv_at hl 2 rfl) ?_
        have hi := hw.1
        have hw := hw.2
        refine laX_12 C h hi dX4_payOldest_93 ?_
        refine lv_dup2_11 hx hb dX4_payOldest_94 rfl rfl ?_
        have hi := hw.1
        have hw := hw.2
        refine laX_11 C h hi dX4_payOldest_95 ?_
        refine lv_iload_n hx hb dX4_payOldest_96 rfl (lv_at hl 0 rfl) ?_
        refine lv_isub hx hb dX4_payOldest_97 ?_
        refine lv_topi (fun v4 ev4 => ?_)
        have hw := hw v4 ev4
        have hi := hw.1
        have hw := hw.2
        refine saX_11 C h hi dX4_payOldest_98 (fun G5 H locs eG5 h => ?_)
        have hw := hw G5 eG5
        refine lv_aload_n hx hb dX4_payOldest_99 rfl (lv_at hl 1 rfl) ?_
        refine gX_4_9 C h dX4_payOldest_100 ?_
        refine lv_aload_n hx hb dX4_payOldest_103 rfl (lv_at hl 1 rfl) ?_
        refine gX_4_25 C h dX4_payOldest_104 ?_
        refine lv_iload_n hx hb dX4_payOldest_107 rfl (lv_at hl 2 rfl) ?_
        have hi := hw.1
        have hw := hw.2
        refine laX_13 C h hi dX4_payOldest_108 ?_
        refine lv_dup2_11 hx hb dX4_payOldest_109 rfl rfl ?_
        have hi := hw.1
        have hw := hw.2
        refine laX_11 C h hi dX4_payOldest_110 ?_
        refine lv_iload_n hx hb dX4_payOldest_111 rfl (lv_at hl 0 rfl) ?_
        refine lv_iadd hx hb dX4_payOldest_112 ?_
        refine lv_topi (fun v6 ev6 => ?_)
        have hw := hw v6 ev6
        have hi := hw.1
        have hw := hw.2
        refine saX_11 C h hi dX4_payOldest_113 (fun G7 H locs eG7 h => ?_)
        have hw := hw G7 eG7
        refine lv_iconst (v := (1 : Int32)) hx hb dX4_payOldest_114 (by decide) ?_
        exact hq _ F G7 _ _ _ _ dX4_payOldest_115 h hw
set_option maxHeartbeats 4000000 in
set_option maxRecDepth 100000 in
theorem wk_X4_payOldest_0 {p : Program} {l : Launch} {e : Env} {R : Room} {s : State} {m : MethodId} {args : Array Value} {below : List Frame} {meth : Method} {c : Code} {K : KT} {A : Nat → Prop} {Z : State → Prop} {a : Nat → Nat} (hR : 1 ≤ R.frames ∧ 21 ≤ R.locals) (C : CX p s m args meth c K A cX4_payOldest 3 RX4) {Q : Int32 → FT → GT → Prop} (hq : RetXi p l e R s m args below meth c K A Z a cX4_payOldest Q) : ∀ (n : Nat) (F : FT) (G : GT) {H : Heap} {locs : List Loc} (h : WD K A s (wX K a F G) H locs) {ls : Array Slot} (hl : lv_has ls 3 [(0, .ref (a 4))]) (hw : wp_X4_payOldest_0 Q n F G), W p l e R s m args below meth c H locs 0 0 Z (F0 m 0 ls []) := by
  intro n
  induction n with
  | zero => intro F G H locs h ls hl hw; exact False.elim hw
  | succ n ih =>
    intro F G H locs h ls hl hw
    rw [wp_X4_payOldest_0] at hw
    have hx := C.1
    have hb := C.2.1
    refine lv_aload_n hx hb dX4_payOldest_0 rfl (lv_at hl 0 rfl) ?_
    refine gX_4_37 C h dX4_payOldest_1 ?_
    refine lv_aload_n hx hb dX4_payOldest_4 rfl (lv_at hl 0 rfl) ?_
    refine gX_4_34 C h dX4_payOldest_5 ?_
    refine lv_icmp_ge (tgt := 36) hx hb dX4_payOldest_8 (by decide) (fun c => ?_) (fun c => ?_)
    · have hw := hw.1 c
      refine lv_aload_n hx hb dX4_payOldest_36 rfl (lv_at hl 0 rfl) ?_
      refine gX_4_37 C h dX4_payOldest_37 ?_
      refine lv_istore_n (lv' := [(1, .int (F 17)), (0, .ref (a 4))]) hx hb dX4_payOldest_40 rfl hl (by decide) rfl (fun ls hl => ?_)
      obtain ⟨n, hw⟩ := hw
      exact wk_X4_payOldest_41 hR C hq n (F 17) F G h (lv_sub hl [1, 0] rfl) hw
    · have hw := hw.2 c
      refine lv_aload_n hx hb dX4_payOldest_11 rfl (lv_at hl 0 rfl) ?_
      refine gX_4_31 C h dX4_payOldest_12 ?_
      refine lv_aload_n hx hb dX4_payOldest_15 rfl (lv_at hl 0 rfl) ?_
      refine gX_4_37 C h dX4_payOldest_16 ?_
      have hi := hw.1
      have hw := hw.2
      refine laX_15 C h hi dX4_payOldest_19 ?_
      refine lv_if_ne (tgt := 36) hx hb dX4_payOldest_20 (by decide) (fun c => ?_) (fun c => ?_)
      · have hw := hw.1 c
        refine lv_aload_n hx hb dX4_payOldest_36 rfl (lv_at hl 0 rfl) ?_
        refine gX_4_37 C h dX4_payOldest_37 ?_
        refine lv_istore_n (lv' := [(1, .int (F 17)), (0, .ref (a 4))]) hx hb dX4_payOldest_40 rfl hl (by decide) rfl (fun ls hl => ?_)
        obtain ⟨n, hw⟩ := hw
        exact wk_X4_payOldest_41 hR C hq n (F 17) F G h (lv_sub hl [1, 0] rfl) hw
      · have hw := hw.2 c
        refine lv_aload_n hx hb dX4_payOldest_23 rfl (lv_at hl 0 rfl) ?_
        refine lv_dup hx hb dX4_payOldest_24 rfl ?_
        refine gX_4_37 C h dX4_payOldest_25 ?_
        refine lv_iconst (v := (1 : Int32)) hx hb dX4_payOldest_28 (by decide) ?_
        refine lv_iadd hx hb dX4_payOldest_29 ?_
        refine pX_4_37 C h dX4_payOldest_30 (fun F1 H locs eF1 h => ?_)
        have hw := hw F1 eF1
        refine lv_goto (tgt := 0) hx hb dX4_payOldest_33 (by decide) ?_
        exact ih F1 G h (lv_sub hl [0] rfl) hw
theorem c_X4_payOldest {l : Launch} {K : KT} {a : Nat → Nat} (F : FT) (G : GT) {Q : Int32 → FT → GT → Prop} (hw : wp_X4_payOldest F G Q) : CtXi l K a yX4_payOldest cX4_payOldest 3 (some .boolean) 1 21 [.ref (a 4)] F G (fun r F G => (r = 0 ∨ r = 1) ∧ Q r F G) := fun sz => x_met (Qm := QmXi K a (fun r F G => (r = 0 ∨ r = 1) ∧ Q r F G)) (by decide) (Nat.le_of_ble_eq_true rfl) (fun p e s m below meth c A ls C hr h hl => hw.elim (fun n hw => wk_X4_payOldest_0 ⟨Nat.le_refl _, Nat.le_refl _⟩ C (retX_z C hr (fun r F G hz => by rcases hz.1 with z | z <;> rw [z] <;> rfl)) n F G h hl hw))
def wp_X4_see_30 (Q : FT → GT → Prop) : Nat → Int32 → FT → GT → Prop
  | 0, _, _, _ => False
  | n + 1, x1, F, G => (((F 5) ≤ x1) → Q F G) ∧ ((¬ (F 5) ≤ x1) → vp_in x1 80 ∧ vp_in x1 80 ∧ ∀ G1 : GT, G1 = gU G 47 (upd (G 47) x1.toNatClampNeg (G 15 x1.toNatClampNeg)) → ∀ v2 : Int32, v2 = (x1 + 1) → wp_X4_see_30 Q n v2 F G1)
def wp_X4_see_2 (Q : FT → GT → Prop) : Nat → Int32 → FT → GT → Prop
  | 0, _, _, _ => False
  | n + 1, x1, F, G => (((F 3) ≤ x1) → ∃ n : Nat, wp_X4_see_30 Q n (0 : Int32) F G) ∧ ((¬ (F 3) ≤ x1) → vp_in x1 16 ∧ vp_in x1 16 ∧ ∀ G1 : GT, G1 = gU G 46 (upd (G 46) x1.toNatClampNeg (G 11 x1.toNatClampNeg)) → ∀ v2 : Int32, v2 = (x1 + 1) → wp_X4_see_2 Q n v2 F G1)
def wp_X4_see_0 (Q : FT → GT → Prop) (F : FT) (G : GT) : Prop := ∃ n : Nat, wp_X4_see_2 Q n (0 : Int32) F G
def wp_X4_see (F : FT) (G : GT) (Q : FT → GT → Prop) : Prop := wp_X4_see_0 Q F G
set_option maxHeartbeats 4000000 in
set_option maxRecDepth 100000 in
theorem wk_X4_see_30 {p : Program} {l : Launch} {e : Env} {R : Room} {s : State} {m : MethodId} {args : Array Value} {below : List Frame} {meth : Method} {c : Code} {K : KT} {A : Nat → Prop} {Z : State → Prop} {a : Nat → Nat} (hR : 0 ≤ R.frames ∧ 0 ≤ R.locals) (C : CX p s m args meth c K A cX4_see 2 RX4) {Q : FT → GT → Prop} (hq : RetXv p l e R s m args below meth c K A Z a cX4_see Q) : ∀ (n : Nat) (x1 : Int32) (F : FT) (G : GT) {H : Heap} {locs : List Loc} (h : WD K A s (wX K a F G) H locs) {ls : Array Slot} (hl : lv_has ls 2 [(0, .ref (a 4)), (1, .int x1)]) (hw : wp_X4_see_30 Q n x1 F G), W p l e R s m args below meth c H locs 0 0 Z (F0 m 30 ls []) := by
  intro n
  induction n with
  | zero => intro x1 F G H locs h ls hl hw; exact False.elim hw
  | succ n ih =>
    intro x1 F G H locs h ls hl hw
    rw [wp_X4_see_30] at hw
    have hx := C.1
    have hb := C.2.1
    refine lv_iload_n hx hb dX4_see_30 rfl (lv_at hl 1 rfl) ?_
    refine lv_aload_n hx hb dX4_see_31 rfl (lv_at hl 0 rfl) ?_
    refine gX_4_34 C h dX4_see_32 ?_
    refine lv_icmp_ge (tgt := 56) hx hb dX4_see_35 (by decide) (fun c => ?_) (fun c => ?_)
    · have hw := hw.1 c
      exact hq F G _ _ _ _ dX4_see_56 h hw
    · have hw := hw.2 c
      refine lv_aload_n hx hb dX4_see_38 rfl (lv_at hl 0 rfl) ?_
      refine gX_4_43 C h dX4_see_39 ?_
      refine lv_iload_n hx hb dX4_see_42 rfl (lv_at hl 1 rfl) ?_
      refine lv_aload_n hx hb dX4_see_43 rfl (lv_at hl 0 rfl) ?_
      refine gX_4_31 C h dX4_see_44 ?_
      refine lv_iload_n hx hb dX4_see_47 rfl (lv_at hl 1 rfl) ?_
      have hi := hw.1
      have hw := hw.2
      refine laX_15 C h hi dX4_see_48 ?_
      have hi := hw.1
      have hw := hw.2
      refine saX_47 C h hi dX4_see_49 (fun G1 H locs eG1 h => ?_)
      have hw := hw G1 eG1
      obtain ⟨v2, ev2⟩ : ∃ z : Int32, z = (x1 + 1) := ⟨_, rfl⟩
      have hw := hw v2 ev2
      refine lv_iinc (v := v2) (lv' := [(1, .int v2), (0, .ref (a 4))]) hx hb dX4_see_50 hl (k := 1) rfl (by rw [ev2]; rfl) (by decide) rfl (fun ls hl => ?_)
      refine lv_goto (tgt := 30) hx hb dX4_see_53 (by decide) ?_
      exact ih v2 F G1 h (lv_sub hl [1, 0] rfl) hw
set_option maxHeartbeats 4000000 in
set_option maxRecDepth 100000 in
theorem wk_X4_see_2 {p : Program} {l : Launch} {e : Env} {R : Room} {s : State} {m : MethodId} {args : Array Value} {below : List Frame} {meth : Method} {c : Code} {K : KT} {A : Nat → Prop} {Z : State → Prop} {a : Nat → Nat} (hR : 0 ≤ R.frames ∧ 0 ≤ R.locals) (C : CX p s m args meth c K A cX4_see 2 RX4) {Q : FT → GT → Prop} (hq : RetXv p l e R s m args below meth c K A Z a cX4_see Q) : ∀ (n : Nat) (x1 : Int32) (F : FT) (G : GT) {H : Heap} {locs : List Loc} (h : WD K A s (wX K a F G) H locs) {ls : Array Slot} (hl : lv_has ls 2 [(0, .ref (a 4)), (1, .int x1)]) (hw : wp_X4_see_2 Q n x1 F G), W p l e R s m args below meth c H locs 0 0 Z (F0 m 2 ls []) := by
  intro n
  induction n with
  | zero => intro x1 F G H locs h ls hl hw; exact False.elim hw
  | succ n ih =>
    intro x1 F G H locs h ls hl hw
    rw [wp_X4_see_2] at hw
    have hx := C.1
    have hb := C.2.1
    refine lv_iload_n hx hb dX4_see_2 rfl (lv_at hl 1 rfl) ?_
    refine lv_aload_n hx hb dX4_see_3 rfl (lv_at hl 0 rfl) ?_
    refine gX_4_15 C h dX4_see_4 ?_
    refine lv_icmp_ge (tgt := 28) hx hb dX4_see_7 (by decide) (fun c => ?_) (fun c => ?_)
    · have hw := hw.1 c
      refine lv_iconst (v := (0 : Int32)) hx hb dX4_see_28 (by decide) ?_
      refine lv_istore_n (lv' := [(1, .int (0 : Int32)), (0, .ref (a 4))]) hx hb dX4_see_29 rfl hl (by decide) rfl (fun ls hl => ?_)
      obtain ⟨n, hw⟩ := hw
      exact wk_X4_see_30 hR C hq n (0 : Int32) F G h (lv_sub hl [1, 0] rfl) hw
    · have hw := hw.2 c
      refine lv_aload_n hx hb dX4_see_10 rfl (lv_at hl 0 rfl) ?_
      refine gX_4_40 C h dX4_see_11 ?_
      refine lv_iload_n hx hb dX4_see_14 rfl (lv_at hl 1 rfl) ?_
      refine lv_aload_n hx hb dX4_see_15 rfl (lv_at hl 0 rfl) ?_
      refine gX_4_9 C h dX4_see_16 ?_
      refine lv_iload_n hx hb dX4_see_19 rfl (lv_at hl 1 rfl) ?_
      have hi := hw.1
      have hw := hw.2
      refine laX_11 C h hi dX4_see_20 ?_
      have hi := hw.1
      have hw := hw.2
      refine saX_46 C h hi dX4_see_21 (fun G1 H locs eG1 h => ?_)
      have hw := hw G1 eG1
      obtain ⟨v2, ev2⟩ : ∃ z : Int32, z = (x1 + 1) := ⟨_, rfl⟩
      have hw := hw v2 ev2
      refine lv_iinc (v := v2) (lv' := [(1, .int v2), (0, .ref (a 4))]) hx hb dX4_see_22 hl (k := 1) rfl (by rw [ev2]; rfl) (by decide) rfl (fun ls hl => ?_)
      refine lv_goto (tgt := 2) hx hb dX4_see_25 (by decide) ?_
      exact ih v2 F G1 h (lv_sub hl [1, 0] rfl) hw
set_option maxHeartbeats 4000000 in
set_option maxRecDepth 100000 in
theorem wk_X4_see_0 {p : Program} {l : Launch} {e : Env} {R : Room} {s : State} {m : MethodId} {args : Array Value} {below : List Frame} {meth : Method} {c : Code} {K : KT} {A : Nat → Prop} {Z : State → Prop} {a : Nat → Nat} (hR : 0 ≤ R.frames ∧ 0 ≤ R.locals) (C : CX p s m args meth c K A cX4_see 2 RX4) {Q : FT → GT → Prop} (hq : RetXv p l e R s m args below meth c K A Z a cX4_see Q) (F : FT) (G : GT) {H : Heap} {locs : List Loc} (h : WD K A s (wX K a F G) H locs) {ls : Array Slot} (hl : lv_has ls 2 [(0, .ref (a 4))]) (hw : wp_X4_see_0 Q F G) : W p l e R s m args below meth c H locs 0 0 Z (F0 m 0 ls []) := by
  unfold wp_X4_see_0 at hw
  have hx := C.1
  have hb := C.2.1
  refine lv_iconst (v := (0 : Int32)) hx hb dX4_see_0 (by decide) ?_
  refine lv_istore_n (lv' := [(1, .int (0 : Int32)), (0, .ref (a 4))]) hx hb dX4_see_1 rfl hl (by decide) rfl (fun ls hl => ?_)
  obtain ⟨n, hw⟩ := hw
  exact wk_X4_see_2 hR C hq n (0 : Int32) F G h (lv_sub hl [1, 0] rfl) hw
theorem c_X4_see {l : Launch} {K : KT} {a : Nat → Nat} (F : FT) (G : GT) {Q : FT → GT → Prop} (hw : wp_X4_see F G Q) : CtXv l K a yX4_see cX4_see 2 none 0 0 [.ref (a 4)] F G Q := fun sz => x_met (Qm := QmXv K a Q) (by decide) (Nat.le_of_ble_eq_true rfl) (fun p e s m below meth c A ls C hr h hl => wk_X4_see_0 ⟨Nat.le_refl _, Nat.le_refl _⟩ C (retX_v C hr) F G h hl hw)
def wp_X4_isRound_2 (Q : Int32 → FT → GT → Prop) : Nat → Int32 → FT → GT → Prop
  | 0, _, _, _ => False
  | n + 1, x1, F, G => (((F 3) ≤ x1) → Q (1 : Int32) F G) ∧ ((¬ (F 3) ≤ x1) → vp_in x1 16 ∧ vp_in x1 16 ∧ (((G 11 x1.toNatClampNeg) = (G 46 x1.toNatClampNeg)) → ∀ v1 : Int32, v1 = (x1 + 1) → wp_X4_isRound_2 Q n v1 F G) ∧ ((¬ (G 11 x1.toNatClampNeg) = (G 46 x1.toNatClampNeg)) → Q (0 : Int32) F G))
def wp_X4_isRound_0 (Q : Int32 → FT → GT → Prop) (F : FT) (G : GT) : Prop := ∃ n : Nat, wp_X4_isRound_2 Q n (0 : Int32) F G
def wp_X4_isRound (F : FT) (G : GT) (Q : Int32 → FT → GT → Prop) : Prop := wp_X4_isRound_0 (fun r F G => (r = 0 ∨ r = 1) ∧ Q r F G) F G
set_option maxHeartbeats 4000000 in
set_option maxRecDepth 100000 in
theorem wk_X4_isRound_2 {p : Program} {l : Launch} {e : Env} {R : Room} {s : State} {m : MethodId} {args : Array Value} {below : List Frame} {meth : Method} {c : Code} {K : KT} {A : Nat → Prop} {Z : State → Prop} {a : Nat → Nat} (hR : 0 ≤ R.frames ∧ 0 ≤ R.locals) (C : CX p s m args meth c K A cX4_isRound 2 RX4) {Q : Int32 → FT → GT → Prop} (hq : RetXi p l e R s m args below meth c K A Z a cX4_isRound Q) : ∀ (n : Nat) (x1 : Int32) (F : FT) (G : GT) {H : Heap} {locs : List Loc} (h : WD K A s (wX K a F G) H locs) {ls : Array Slot} (hl : lv_has ls 2 [(0, .ref (a 4)), (1, .int x1)]) (hw : wp_X4_isRound_2 Q n x1 F G), W p l e R s m args below meth c H locs 0 0 Z (F0 m 2 ls []) := by
  intro n
  induction n with
  | zero => intro x1 F G H locs h ls hl hw; exact False.elim hw
  | succ n ih =>
    intro x1 F G H locs h ls hl hw
    rw [wp_X4_isRound_2] at hw
    have hx := C.1
    have hb := C.2.1
    refine lv_iload_n hx hb dX4_isRound_2 rfl (lv_at hl 1 rfl) ?_
    refine lv_aload_n hx hb dX4_isRound_3 rfl (lv_at hl 0 rfl) ?_
    refine gX_4_15 C h dX4_isRound_4 ?_
    refine lv_icmp_ge (tgt := 33) hx hb dX4_isRound_7 (by decide) (fun c => ?_) (fun c => ?_)
    · have hw := hw.1 c
      refine lv_iconst (v := (1 : Int32)) hx hb dX4_isRound_33 (by decide) ?_
      exact hq _ F G _ _ _ _ dX4_isRound_34 h hw
    · have hw := hw.2 c
      refine lv_aload_n hx hb dX4_isRound_10 rfl (lv_at hl 0 rfl) ?_
      refine gX_4_9 C h dX4_isRound_11 ?_
      refine lv_iload_n hx hb dX4_isRound_14 rfl (lv_at hl 1 rfl) ?_
      have hi := hw.1
      have hw := hw.2
      refine laX_11 C h hi dX4_isRound_15 ?_
      refine lv_aload_n hx hb dX4_isRound_16 rfl (lv_at hl 0 rfl) ?_
      refine gX_4_40 C h dX4_isRound_17 ?_
      refine lv_iload_n hx hb dX4_isRound_20 rfl (lv_at hl 1 rfl) ?_
      have hi := hw.1
      have hw := hw.2
      refine laX_46 C h hi dX4_isRound_21 ?_
      refine lv_icmp_eq (tgt := 27) hx hb dX4_isRound_22 (by decide) (fun c => ?_) (fun c => ?_)
      · have hw := hw.1 c
        obtain ⟨v1, ev1⟩ : ∃ z : Int32, z = (x1 + 1) := ⟨_, rfl⟩
        have hw := hw v1 ev1
        refine lv_iinc (v := v1) (lv' := [(1, .int v1), (0, .ref (a 4))]) hx hb dX4_isRound_27 hl (k := 1) rfl (by rw [ev1]; rfl) (by decide) rfl (fun ls hl => ?_)
        refine lv_goto (tgt := 2) hx hb dX4_isRound_30 (by decide) ?_
        exact ih v1 F G h (lv_sub hl [1, 0] rfl) hw
      · have hw := hw.2 c
        refine lv_iconst (v := (0 : Int32)) hx hb dX4_isRound_25 (by decide) ?_
        exact hq _ F G _ _ _ _ dX4_isRound_26 h hw
set_option maxHeartbeats 4000000 in
set_option maxRecDepth 100000 in
theorem wk_X4_isRound_0 {p : Program} {l : Launch} {e : Env} {R : Room} {s : State} {m : MethodId} {args : Array Value} {below : List Frame} {meth : Method} {c : Code} {K : KT} {A : Nat → Prop} {Z : State → Prop} {a : Nat → Nat} (hR : 0 ≤ R.frames ∧ 0 ≤ R.locals) (C : CX p s m args meth c K A cX4_isRound 2 RX4) {Q : Int32 → FT → GT → Prop} (hq : RetXi p l e R s m args below meth c K A Z a cX4_isRound Q) (F : FT) (G : GT) {H : Heap} {locs : List Loc} (h : WD K A s (wX K a F G) H locs) {ls : Array Slot} (hl : lv_has ls 2 [(0, .ref (a 4))]) (hw : wp_X4_isRound_0 Q F G) : W p l e R s m args below meth c H locs 0 0 Z (F0 m 0 ls []) := by
  unfold wp_X4_isRound_0 at hw
  have hx := C.1
  have hb := C.2.1
  refine lv_iconst (v := (0 : Int32)) hx hb dX4_isRound_0 (by decide) ?_
  refine lv_istore_n (lv' := [(1, .int (0 : Int32)), (0, .ref (a 4))]) hx hb dX4_isRound_1 rfl hl (by decide) rfl (fun ls hl => ?_)
  obtain ⟨n, hw⟩ := hw
  exact wk_X4_isRound_2 hR C hq n (0 : Int32) F G h (lv_sub hl [1, 0] rfl) hw
theorem c_X4_isRound {l : Launch} {K : KT} {a : Nat → Nat} (F : FT) (G : GT) {Q : Int32 → FT → GT → Prop} (hw : wp_X4_isRound F G Q) : CtXi l K a yX4_isRound cX4_isRound 2 (some .boolean) 0 0 [.ref (a 4)] F G (fun r F G => (r = 0 ∨ r = 1) ∧ Q r F G) := fun sz => x_met (Qm := QmXi K a (fun r F G => (r = 0 ∨ r = 1) ∧ Q r F G)) (by decide) (Nat.le_of_ble_eq_true rfl) (fun p e s m below meth c A ls C hr h hl => wk_X4_isRound_0 ⟨Nat.le_refl _, Nat.le_refl _⟩ C (retX_z C hr (fun r F G hz => by rcases hz.1 with z | z <;> rw [z] <;> rfl)) F G h hl hw)
def wp_X4_skipRounds_52 (Q : FT → GT → Prop) : Nat → Int32 → Int32 → FT → GT → Prop
  | 0, _, _, _, _ => False
  | n + 1, x1, x2, F, G => (((F 5) ≤ x2) → wp_X4_see F G (fun F1 G2 => Q F1 G2)) ∧ ((¬ (F 5) ≤ x2) → vp_in x2 80 ∧ vp_in x2 80 ∧ vp_in x2 80 ∧ ∀ v3 : Int32, v3 = ((G 47 x2.toNatClampNeg) - (G 15 x2.toNatClampNeg)) → vp_in x2 80 ∧ ∀ G4 : GT, G4 = gU G 15 (upd (G 15) x2.toNatClampNeg ((G 15 x2.toNatClampNeg) - (x1 * v3))) → ∀ v5 : Int32, v5 = (x2 + 1) → wp_X4_skipRounds_52 Q n x1 v5 F G4)
def wp_X4_skipRounds_5 (Q : FT → GT → Prop) : Nat → Int32 → Int32 → FT → GT → Prop
  | 0, _, _, _, _ => False
  | n + 1, x1, x2, F, G => (((F 5) ≤ x2) → ∃ n : Nat, wp_X4_skipRounds_52 Q n x1 (0 : Int32) F G) ∧ ((¬ (F 5) ≤ x2) → vp_in x2 80 ∧ vp_in x2 80 ∧ ∀ v1 : Int32, v1 = ((G 47 x2.toNatClampNeg) - (G 15 x2.toNatClampNeg)) → ((v1 ≤ 0) → ∀ v2 : Int32, v2 = (x2 + 1) → wp_X4_skipRounds_5 Q n x1 v2 F G) ∧ ((¬ v1 ≤ 0) → vp_in x2 80 ∧ (¬ v1 = 0) ∧ ∀ v3 : Int32, v3 = (if ((G 15 x2.toNatClampNeg) / v1) < x1 then ((G 15 x2.toNatClampNeg) / v1) else x1) → ∀ v4 : Int32, v4 = (x2 + 1) → wp_X4_skipRounds_5 Q n v3 v4 F G))
def wp_X4_skipRounds_0 (Q : FT → GT → Prop) (F : FT) (G : GT) : Prop := ∃ n : Nat, wp_X4_skipRounds_5 Q n (8000000 : Int32) (0 : Int32) F G
def wp_X4_skipRounds (F : FT) (G : GT) (Q : FT → GT → Prop) : Prop := wp_X4_skipRounds_0 Q F G
set_option maxHeartbeats 4000000 in
set_option maxRecDepth 100000 in
theorem wk_X4_skipRounds_52 {p : Program} {l : Launch} {e : Env} {R : Room} {s : State} {m : MethodId} {args : Array Value} {below : List Frame} {meth : Method} {c : Code} {K : KT} {A : Nat → Prop} {Z : State → Prop} {a : Nat → Nat} (hR : 1 ≤ R.frames ∧ 21 ≤ R.locals) (C : CX p s m args meth c K A cX4_skipRounds 4 RX4) {Q : FT → GT → Prop} (hq : RetXv p l e R s m args below meth c K A Z a cX4_skipRounds Q) : ∀ (n : Nat) (x1 : Int32) (x2 : Int32) (F : FT) (G : GT) {H : Heap} {locs : List Loc} (h : WD K A s (wX K a F G) H locs) {ls : Array Slot} (hl : lv_has ls 4 [(0, .ref (a 4)), (1, .int x1), (2, .int x2)]) (hw : wp_X4_skipRounds_52 Q n x1 x2 F G), W p l e R s m args below meth c H locs 0 0 Z (F0 m 52 ls []) := by
  intro n
  induction n with
  | zero => intro x1 x2 F G H locs h ls hl hw; exact False.elim hw
  | succ n ih =>
    intro x1 x2 F G H locs h ls hl hw
    rw [wp_X4_skipRounds_52] at hw
    have hx := C.1
    have hb := C.2.1
    refine lv_iload_n hx hb dX4_skipRounds_52 rfl (lv_at hl 2 rfl) ?_
    refine lv_aload_n hx hb dX4_skipRounds_53 rfl (lv_at hl 0 rfl) ?_
    refine gX_4_34 C h dX4_skipRounds_54 ?_
    refine lv_icmp_ge (tgt := 90) hx hb dX4_skipRounds_57 (by decide) (fun c => ?_) (fun c => ?_)
    · have hw := hw.1 c
      refine lv_aload_n hx hb dX4_skipRounds_90 rfl (lv_at hl 0 rfl) ?_
      refine kXvV C h (c_X4_see F G hw) lk_4_68 (rvX_4 K a F G) rfl hl.1 rfl (Nat.le_of_ble_eq_true rfl) ⟨Nat.le_trans (Nat.le_of_ble_eq_true rfl) hR.1, Nat.le_trans (Nat.le_of_ble_eq_true rfl) hR.2⟩ ⟨Nat.zero_le _, Nat.zero_le _⟩ dX4_skipRounds_91 (fun F1 G2 H locs hw h => ?_)
      exact hq F1 G2 _ _ _ _ dX4_skipRounds_94 h hw
    · have hw := hw.2 c
      refine lv_aload_n hx hb dX4_skipRounds_60 rfl (lv_at hl 0 rfl) ?_
      refine gX_4_31 C h dX4_skipRounds_61 ?_
      refine lv_iload_n hx hb dX4_skipRounds_64 rfl (lv_at hl 2 rfl) ?_
      refine lv_dup2_11 hx hb dX4_skipRounds_65 rfl rfl ?_
      have hi := hw.1
      have hw := hw.2
      refine laX_15 C h hi dX4_skipRounds_66 ?_
      refine lv_iload_n hx hb dX4_skipRounds_67 rfl (lv_at hl 1 rfl) ?_
      refine lv_aload_n hx hb dX4_skipRounds_68 rfl (lv_at hl 0 rfl) ?_
      refine gX_4_43 C h dX4_skipRounds_69 ?_
      refine lv_iload_n hx hb dX4_skipRounds_72 rfl (lv_at hl 2 rfl) ?_
      have hi := hw.1
      have hw := hw.2
      refine laX_47 C h hi dX4_skipRounds_73 ?_
      refine lv_aload_n hx hb dX4_skipRounds_74 rfl (lv_at hl 0 rfl) ?_
      refine gX_4_31 C h dX4_skipRounds_75 ?_
      refine lv_iload_n hx hb dX4_skipRounds_78 rfl (lv_at hl 2 rfl) ?_
      have hi := hw.1
      have hw := hw.2
      refine laX_15 C h hi dX4_skipRounds_79 ?_
      refine lv_isub hx hb dX4_skipRounds_80 ?_
      refine lv_topi (fun v3 ev3 => ?_)
      have hw := hw v3 ev3
      refine lv_imul hx hb dX4_skipRounds_81 ?_
      refine lv_isub hx hb dX4_skipRounds_82 ?_
      have hi := hw.1
      have hw := hw.2
      refine saX_15 C h hi dX4_skipRounds_83 (fun G4 H locs eG4 h => ?_)
      have hw := hw G4 eG4
      obtain ⟨v5, ev5⟩ : ∃ z : Int32, z = (x2 + 1) := ⟨_, rfl⟩
      have hw := hw v5 ev5
      refine lv_iinc (v := v5) (lv' := [(2, .int v5), (0, .ref (a 4)), (1, .int x1)]) hx hb dX4_skipRounds_84 hl (k := 2) rfl (by rw [ev5]; rfl) (by decide) rfl (fun ls hl => ?_)
      refine lv_goto (tgt := 52) hx hb dX4_skipRounds_87 (by decide) ?_
      exact ih x1 v5 F G4 h (lv_sub hl [1, 2, 0] rfl) hw
set_option maxHeartbeats 4000000 in
set_option maxRecDepth 100000 in
theorem wk_X4_skipRounds_5 {p : Program} {l : Launch} {e : Env} {R : Room} {s : State} {m : MethodId} {args : Array Value} {below : List Frame} {meth : Method} {c : Code} {K : KT} {A : Nat → Prop} {Z : State → Prop} {a : Nat → Nat} (hR : 1 ≤ R.frames ∧ 21 ≤ R.locals) (C : CX p s m args meth c K A cX4_skipRounds 4 RX4) {Q : FT → GT → Prop} (hq : RetXv p l e R s m args below meth c K A Z a cX4_skipRounds Q) : ∀ (n : Nat) (x1 : Int32) (x2 : Int32) (F : FT) (G : GT) {H : Heap} {locs : List Loc} (h : WD K A s (wX K a F G) H locs) {ls : Array Slot} (hl : lv_has ls 4 [(0, .ref (a 4)), (1, .int x1), (2, .int x2)]) (hw : wp_X4_skipRounds_5 Q n x1 x2 F G), W p l e R s m args below meth c H locs 0 0 Z (F0 m 5 ls []) := by
  intro n
  induction n with
  | zero => intro x1 x2 F G H locs h ls hl hw; exact False.elim hw
  | succ n ih =>
    intro x1 x2 F G H locs h ls hl hw
    rw [wp_X4_skipRounds_5] at hw
    have hx := C.1
    have hb := C.2.1
    refine lv_iload_n hx hb dX4_skipRounds_5 rfl (lv_at hl 2 rfl) ?_
    refine lv_aload_n hx hb dX4_skipRounds_6 rfl (lv_at hl 0 rfl) ?_
    refine gX_4_34 C h dX4_skipRounds_7 ?_
    refine lv_icmp_ge (tgt := 50) hx hb dX4_skipRounds_10 (by decide) (fun c => ?_) (fun c => ?_)
    · have hw := hw.1 c
      refine lv_iconst (v := (0 : Int32)) hx hb dX4_skipRounds_50 (by decide) ?_
      refine lv_istore_n (lv' := [(2, .int (0 : Int32)), (0, .ref (a 4)), (1, .int x1)]) hx hb dX4_skipRounds_51 rfl hl (by decide) rfl (fun ls hl => ?_)
      obtain ⟨n, hw⟩ := hw
      exact wk_X4_skipRounds_52 hR C hq n x1 (0 : Int32) F G h (lv_sub hl [1, 2, 0] rfl) hw
    · have hw := hw.2 c
      refine lv_aload_n hx hb dX4_skipRounds_13 rfl (lv_at hl 0 rfl) ?_
      refine gX_4_43 C h dX4_skipRounds_14 ?_
      refine lv_iload_n hx hb dX4_skipRounds_17 rfl (lv_at hl 2 rfl) ?_
      have hi := hw.1
      have hw := hw.2
      refine laX_47 C h hi dX4_skipRounds_18 ?_
      refine lv_aload_n hx hb dX4_skipRounds_19 rfl (lv_at hl 0 rfl) ?_
      refine gX_4_31 C h dX4_skipRounds_20 ?_
      refine lv_iload_n hx hb dX4_skipRounds_23 rfl (lv_at hl 2 rfl) ?_
      have hi := hw.1
      have hw := hw.2
      refine laX_15 C h hi dX4_skipRounds_24 ?_
      refine lv_isub hx hb dX4_skipRounds_25 ?_
      refine lv_topi (fun v1 ev1 => ?_)
      have hw := hw v1 ev1
      refine lv_istore_n (lv' := [(3, .int v1), (0, .ref (a 4)), (1, .int x1), (2, .int x2)]) hx hb dX4_skipRounds_26 rfl hl (by decide) rfl (fun ls hl => ?_)
      refine lv_iload_n hx hb dX4_skipRounds_27 rfl (lv_at hl 0 rfl) ?_
      refine lv_if_le (tgt := 44) hx hb dX4_skipRounds_28 (by decide) (fun c => ?_) (fun c => ?_)
      · have hw := hw.1 c
        obtain ⟨v2, ev2⟩ : ∃ z : Int32, z = (x2 + 1) := ⟨_, rfl⟩
        have hw := hw v2 ev2
        refine lv_iinc (v := v2) (lv' := [(2, .int v2), (3, .int v1), (0, .ref (a 4)), (1, .int x1)]) hx hb dX4_skipRounds_44 hl (k := 3) rfl (by rw [ev2]; rfl) (by decide) rfl (fun ls hl => ?_)
        refine lv_goto (tgt := 5) hx hb dX4_skipRounds_47 (by decide) ?_
        exact ih x1 v2 F G h (lv_sub hl [2, 3, 0] rfl) hw
      · have hw := hw.2 c
        refine lv_iload_n hx hb dX4_skipRounds_31 rfl (lv_at hl 2 rfl) ?_
        refine lv_aload_n hx hb dX4_skipRounds_32 rfl (lv_at hl 1 rfl) ?_
        refine gX_4_31 C h dX4_skipRounds_33 ?_
        refine lv_iload_n hx hb dX4_skipRounds_36 rfl (lv_at hl 3 rfl) ?_
        have hi := hw.1
        have hw := hw.2
        refine laX_15 C h hi dX4_skipRounds_37 ?_
        refine lv_iload_n hx hb dX4_skipRounds_38 rfl (lv_at hl 0 rfl) ?_
        have hi := hw.1
        have hw := hw.2
        refine lv_idiv hx hb dX4_skipRounds_39 hi ?_
        refine x_mmin C hl.1 lk_4_51 (Nat.le_of_ble_eq_true rfl) ⟨Nat.le_trans (Nat.le_of_ble_eq_true rfl) hR.1, Nat.le_trans (Nat.le_of_ble_eq_true rfl) hR.2⟩ ⟨Nat.zero_le _, Nat.zero_le _⟩ dX4_skipRounds_40 ?_
        refine lv_topi (fun v3 ev3 => ?_)
        have hw := hw v3 ev3
        refine lv_istore_n (lv' := [(1, .int v3), (3, .int v1), (0, .ref (a 4)), (2, .int x2)]) hx hb dX4_skipRounds_43 rfl hl (by decide) rfl (fun ls hl => ?_)
        obtain ⟨v4, ev4⟩ : ∃ z : Int32, z = (x2 + 1) := ⟨_, rfl⟩
        have hw := hw v4 ev4
        refine lv_iinc (v := v4) (lv' := [(2, .int v4), (1, .int v3), (3, .int v1), (0, .ref (a 4))]) hx hb dX4_skipRounds_44 hl (k := 3) rfl (by rw [ev4]; rfl) (by decide) rfl (fun ls hl => ?_)
        refine lv_goto (tgt := 5) hx hb dX4_skipRounds_47 (by decide) ?_
        exact ih v3 v4 F G h (lv_sub hl [3, 1, 0] rfl) hw
set_option maxHeartbeats 4000000 in
set_option maxRecDepth 100000 in
theorem wk_X4_skipRounds_0 {p : Program} {l : Launch} {e : Env} {R : Room} {s : State} {m : MethodId} {args : Array Value} {below : List Frame} {meth : Method} {c : Code} {K : KT} {A : Nat → Prop} {Z : State → Prop} {a : Nat → Nat} (hR : 1 ≤ R.frames ∧ 21 ≤ R.locals) (C : CX p s m args meth c K A cX4_skipRounds 4 RX4) {Q : FT → GT → Prop} (hq : RetXv p l e R s m args below meth c K A Z a cX4_skipRounds Q) (F : FT) (G : GT) {H : Heap} {locs : List Loc} (h : WD K A s (wX K a F G) H locs) {ls : Array Slot} (hl : lv_has ls 4 [(0, .ref (a 4))]) (hw : wp_X4_skipRounds_0 Q F G) : W p l e R s m args below meth c H locs 0 0 Z (F0 m 0 ls []) := by
  unfold wp_X4_skipRounds_0 at hw
  have hx := C.1
  have hb := C.2.1
  refine lv_ldc hx hb C.2.2.2.1 (C.2.2.2.2.1 _ kc_4_57) dX4_skipRounds_0 ?_
  refine lv_istore_n (lv' := [(1, .int (8000000 : Int32)), (0, .ref (a 4))]) hx hb dX4_skipRounds_2 rfl hl (by decide) rfl (fun ls hl => ?_)
  refine lv_iconst (v := (0 : Int32)) hx hb dX4_skipRounds_3 (by decide) ?_
  refine lv_istore_n (lv' := [(2, .int (0 : Int32)), (1, .int (8000000 : Int32)), (0, .ref (a 4))]) hx hb dX4_skipRounds_4 rfl hl (by decide) rfl (fun ls hl => ?_)
  obtain ⟨n, hw⟩ := hw
  exact wk_X4_skipRounds_5 hR C hq n (8000000 : Int32) (0 : Int32) F G h (lv_sub hl [2, 1, 0] rfl) hw
theorem c_X4_skipRounds {l : Launch} {K : KT} {a : Nat → Nat} (F : FT) (G : GT) {Q : FT → GT → Prop} (hw : wp_X4_skipRounds F G Q) : CtXv l K a yX4_skipRounds cX4_skipRounds 4 none 1 21 [.ref (a 4)] F G Q := fun sz => x_met (Qm := QmXv K a Q) (by decide) (Nat.le_of_ble_eq_true rfl) (fun p e s m below meth c A ls C hr h hl => wk_X4_skipRounds_0 ⟨Nat.le_refl _, Nat.le_refl _⟩ C (retX_v C hr) F G h hl hw)
