def wp_X6_append_3 (Q : FT → GT → Prop) : Nat → Int32 → Int32 → FT → GT → Prop
  | 0, _, _, _, _ => False
  | n + 1, x1, x2, F, G => ((x2 < 0) → Q F G) ∧ ((¬ x2 < 0) → (((320 : Int32) ≤ (F 2)) → Q F G) ∧ ((¬ (320 : Int32) ≤ (F 2)) → vp_in (F 2) 320 ∧ ∀ G1 : GT, G1 = gU G 40 (upd (G 40) (F 2).toNatClampNeg (vp_nar .byte ((x1 >>> (x2 &&& 31))).toInt8.toInt32)) → ∀ F2 : FT, F2 = sU F 2 ((F 2) + (1 : Int32)) → ∀ v3 : Int32, v3 = (x2 + (-8)) → wp_X6_append_3 Q n x1 v3 F2 G1))
def wp_X6_append_0 (Q : FT → GT → Prop) (x1 : Int32) (F : FT) (G : GT) : Prop := ∃ n : Nat, wp_X6_append_3 Q n x1 (24 : Int32) F G
def wp_X6_append (x1 : Int32) (F : FT) (G : GT) (Q : FT → GT → Prop) : Prop := wp_X6_append_0 Q x1 F G
set_option maxHeartbeats 4000000 in
set_option maxRecDepth 100000 in
theorem wk_X6_append_3 {p : Program} {l : Launch} {e : Env} {R : Room} {s : State} {m : MethodId} {args : Array Value} {below : List Frame} {meth : Method} {c : Code} {K : KT} {A : Nat → Prop} {Z : State → Prop} {a : Nat → Nat} (hR : 0 ≤ R.frames ∧ 0 ≤ R.locals) (C : CX p s m args meth c K A cX6_append 3 RX6) {Q : FT → GT → Prop} (hq : RetXv p l e R s m args below meth c K A Z a cX6_append Q) : ∀ (n : Nat) (x1 : Int32) (x2 : Int32) (F : FT) (G : GT) {H : Heap} {locs : List Loc} (h : WD K A s (wX K a F G) H locs) {ls : Array Slot} (hl : lv_has ls 3 [(0, .ref (a 1)), (1, .int x1), (2, .int x2)]) (hw : wp_X6_append_3 Q n x1 x2 F G), W p l e R s m args below meth c H locs 0 0 Z (F0 m 3 ls []) := by
  intro n
  induction n with
  | zero => intro x1 x2 F G H locs h ls hl hw; exact False.elim hw
  | succ n ih =>
    intro x1 x2 F G H locs h ls hl hw
    rw [wp_X6_append_3] at hw
    have hx := C.1
    have hb := C.2.1
    refine lv_iload_n hx hb dX6_append_3 rfl (lv_at hl 2 rfl) ?_
    refine lv_if_lt (tgt := 46) hx hb dX6_append_4 (by decide) (fun c => ?_) (fun c => ?_)
    · have hw := hw.1 c
      exact hq F G _ _ _ _ dX6_append_46 h hw
    · have hw := hw.2 c
      refine lv_aload_n hx hb dX6_append_7 rfl (lv_at hl 0 rfl) ?_
      refine gX_6_15 C h dX6_append_8 ?_
      refine lv_sipush (v := (320 : Int32)) hx hb dX6_append_11 (by decide) ?_
      refine lv_icmp_ge (tgt := 46) hx hb dX6_append_14 (by decide) (fun c => ?_) (fun c => ?_)
      · have hw := hw.1 c
        exact hq F G _ _ _ _ dX6_append_46 h hw
      · have hw := hw.2 c
        refine lv_aload_n hx hb dX6_append_17 rfl (lv_at hl 0 rfl) ?_
        refine gX_6_9 C h dX6_append_18 ?_
        refine lv_aload_n hx hb dX6_append_21 rfl (lv_at hl 0 rfl) ?_
        refine gX_6_15 C h dX6_append_22 ?_
        refine lv_iload_n hx hb dX6_append_25 rfl (lv_at hl 1 rfl) ?_
        refine lv_iload_n hx hb dX6_append_26 rfl (lv_at hl 2 rfl) ?_
        refine lv_ishr hx hb dX6_append_27 ?_
        refine lv_i2b hx hb dX6_append_28 rfl ?_
        have hi := hw.1
        have hw := hw.2
        refine saX_40 C h hi dX6_append_29 (fun G1 H locs eG1 h => ?_)
        have hw := hw G1 eG1
        refine lv_aload_n hx hb dX6_append_30 rfl (lv_at hl 0 rfl) ?_
        refine lv_dup hx hb dX6_append_31 rfl ?_
        refine gX_6_15 C h dX6_append_32 ?_
        refine lv_iconst (v := (1 : Int32)) hx hb dX6_append_35 (by decide) ?_
        refine lv_iadd hx hb dX6_append_36 ?_
        refine pX_6_15 C h dX6_append_37 (fun F2 H locs eF2 h => ?_)
        have hw := hw F2 eF2
        obtain ⟨v3, ev3⟩ : ∃ z : Int32, z = (x2 + (-8)) := ⟨_, rfl⟩
        have hw := hw v3 ev3
        refine lv_iinc (v := v3) (lv' := [(2, .int v3), (0, .ref (a 1)), (1, .int x1)]) hx hb dX6_append_40 hl (k := 2) rfl (by rw [ev3]; rfl) (by decide) rfl (fun ls hl => ?_)
        refine lv_goto (tgt := 3) hx hb dX6_append_43 (by decide) ?_
        exact ih x1 v3 F2 G1 h (lv_sub hl [1, 2, 0] rfl) hw
set_option maxHeartbeats 4000000 in
set_option maxRecDepth 100000 in
theorem wk_X6_append_0 {p : Program} {l : Launch} {e : Env} {R : Room} {s : State} {m : MethodId} {args : Array Value} {below : List Frame} {meth : Method} {c : Code} {K : KT} {A : Nat → Prop} {Z : State → Prop} {a : Nat → Nat} (hR : 0 ≤ R.frames ∧ 0 ≤ R.locals) (C : CX p s m args meth c K A cX6_append 3 RX6) {Q : FT → GT → Prop} (hq : RetXv p l e R s m args below meth c K A Z a cX6_append Q) (x1 : Int32) (F : FT) (G : GT) {H : Heap} {locs : List Loc} (h : WD K A s (wX K a F G) H locs) {ls : Array Slot} (hl : lv_has ls 3 [(0, .ref (a 1)), (1, .int x1)]) (hw : wp_X6_append_0 Q x1 F G) : W p l e R s m args below meth c H locs 0 0 Z (F0 m 0 ls []) := by
  unfold wp_X6_append_0 at hw
  have hx := C.1
  have hb := C.2.1
  refine lv_bipush (v := (24 : Int32)) hx hb dX6_append_0 (by decide) ?_
  refine lv_istore_n (lv' := [(2, .int (24 : Int32)), (0, .ref (a 1)), (1, .int x1)]) hx hb dX6_append_2 rfl hl (by decide) rfl (fun ls hl => ?_)
  obtain ⟨n, hw⟩ := hw
  exact wk_X6_append_3 hR C hq n x1 (24 : Int32) F G h (lv_sub hl [1, 2, 0] rfl) hw
theorem c_X6_append {l : Launch} {K : KT} {a : Nat → Nat} (x1 : Int32) (F : FT) (G : GT) {Q : FT → GT → Prop} (hw : wp_X6_append x1 F G Q) : CtXv l K a yX6_append cX6_append 3 none 0 0 [.ref (a 1), .int x1] F G Q := fun sz => x_met (Qm := QmXv K a Q) (by decide) (Nat.le_of_ble_eq_true rfl) (fun p e s m below meth c A ls C hr h hl => wk_X6_append_0 ⟨Nat.le_refl _, Nat.le_refl _⟩ C (retX_v C hr) x1 F G h hl hw)
def wp_X7_feed_0 (Q : Int32 → FT → GT → Prop) (x1 : Int32) (x2 : Int32) (x3 : Int32) (x4 : Int32) (x5 : Int32) (F : FT) (G : GT) : Prop := (((F 2) ≤ (300 : Int32)) → wp_X6_append x1 F G (fun F1 G2 => wp_X6_append x2 F1 G2 (fun F3 G4 => wp_X6_append x3 F3 G4 (fun F5 G6 => wp_X6_append x4 F5 G6 (fun F7 G8 => wp_X6_append x5 F7 G8 (fun F9 G10 => Q (F9 2) F9 G10)))))) ∧ ((¬ (F 2) ≤ (300 : Int32)) → Q (-1 : Int32) F G)
def wp_X7_feed (x1 : Int32) (x2 : Int32) (x3 : Int32) (x4 : Int32) (x5 : Int32) (F : FT) (G : GT) (Q : Int32 → FT → GT → Prop) : Prop := wp_X7_feed_0 Q x1 x2 x3 x4 x5 F G
set_option maxHeartbeats 4000000 in
set_option maxRecDepth 100000 in
theorem wk_X7_feed_0 {p : Program} {l : Launch} {e : Env} {R : Room} {s : State} {m : MethodId} {args : Array Value} {below : List Frame} {meth : Method} {c : Code} {K : KT} {A : Nat → Prop} {Z : State → Prop} {a : Nat → Nat} (hR : 1 ≤ R.frames ∧ 22 ≤ R.locals) (C : CX p s m args meth c K A cX7_feed 6 RX7) {Q : Int32 → FT → GT → Prop} (hq : RetXi p l e R s m args below meth c K A Z a cX7_feed Q) (x1 : Int32) (x2 : Int32) (x3 : Int32) (x4 : Int32) (x5 : Int32) (F : FT) (G : GT) {H : Heap} {locs : List Loc} (h : WD K A s (wX K a F G) H locs) {ls : Array Slot} (hl : lv_has ls 6 [(0, .ref (a 0)), (1, .int x1), (2, .int x2), (3, .int x3), (4, .int x4), (5, .int x5)]) (hw : wp_X7_feed_0 Q x1 x2 x3 x4 x5 F G) : W p l e R s m args below meth c H locs 0 0 Z (F0 m 0 ls []) := by
  unfold wp_X7_feed_0 at hw
  have hx := C.1
  have hb := C.2.1
  refine lv_aload_n hx hb dX7_feed_0 rfl (lv_at hl 0 rfl) ?_
  refine gX_7_10 C h dX7_feed_1 ?_
  refine gX_7_65 C h dX7_feed_4 ?_
  refine lv_sipush (v := (300 : Int32)) hx hb dX7_feed_7 (by decide) ?_
  refine lv_icmp_le (tgt := 15) hx hb dX7_feed_10 (by decide) (fun c => ?_) (fun c => ?_)
  · have hw := hw.1 c
    refine lv_aload_n hx hb dX7_feed_15 rfl (lv_at hl 0 rfl) ?_
    refine gX_7_10 C h dX7_feed_16 ?_
    refine lv_iload_n hx hb dX7_feed_19 rfl (lv_at hl 1 rfl) ?_
    refine kXvV C h (c_X6_append x1 F G hw) lk_7_68 (rvX_1 K a F G) rfl hl.1 rfl (Nat.le_of_ble_eq_true rfl) ⟨Nat.le_trans (Nat.le_of_ble_eq_true rfl) hR.1, Nat.le_trans (Nat.le_of_ble_eq_true rfl) hR.2⟩ ⟨Nat.zero_le _, Nat.zero_le _⟩ dX7_feed_20 (fun F1 G2 H locs hw h => ?_)
    refine lv_aload_n hx hb dX7_feed_23 rfl (lv_at hl 0 rfl) ?_
    refine gX_7_10 C h dX7_feed_24 ?_
    refine lv_iload_n hx hb dX7_feed_27 rfl (lv_at hl 2 rfl) ?_
    refine kXvV C h (c_X6_append x2 F1 G2 hw) lk_7_68 (rvX_1 K a F1 G2) rfl hl.1 rfl (Nat.le_of_ble_eq_true rfl) ⟨Nat.le_trans (Nat.le_of_ble_eq_true rfl) hR.1, Nat.le_trans (Nat.le_of_ble_eq_true rfl) hR.2⟩ ⟨Nat.zero_le _, Nat.zero_le _⟩ dX7_feed_28 (fun F3 G4 H locs hw h => ?_)
    refine lv_aload_n hx hb dX7_feed_31 rfl (lv_at hl 0 rfl) ?_
    refine gX_7_10 C h dX7_feed_32 ?_
    refine lv_iload_n hx hb dX7_feed_35 rfl (lv_at hl 3 rfl) ?_
    refine kXvV C h (c_X6_append x3 F3 G4 hw) lk_7_68 (rvX_1 K a F3 G4) rfl hl.1 rfl (Nat.le_of_ble_eq_true rfl) ⟨Nat.le_trans (Nat.le_of_ble_eq_true rfl) hR.1, Nat.le_trans (Nat.le_of_ble_eq_true rfl) hR.2⟩ ⟨Nat.zero_le _, Nat.zero_le _⟩ dX7_feed_36 (fun F5 G6 H locs hw h => ?_)
    refine lv_aload_n hx hb dX7_feed_39 rfl (lv_at hl 0 rfl) ?_
    refine gX_7_10 C h dX7_feed_40 ?_
    refine lv_iload hx hb dX7_feed_43 (lv_at hl 4 rfl) ?_
    refine kXvV C h (c_X6_append x4 F5 G6 hw) lk_7_68 (rvX_1 K a F5 G6) rfl hl.1 rfl (Nat.le_of_ble_eq_true rfl) ⟨Nat.le_trans (Nat.le_of_ble_eq_true rfl) hR.1, Nat.le_trans (Nat.le_of_ble_eq_true rfl) hR.2⟩ ⟨Nat.zero_le _, Nat.zero_le _⟩ dX7_feed_45 (fun F7 G8 H locs hw h => ?_)
    refine lv_aload_n hx hb dX7_feed_48 rfl (lv_at hl 0 rfl) ?_
    refine gX_7_10 C h dX7_feed_49 ?_
    refine lv_iload hx hb dX7_feed_52 (lv_at hl 5 rfl) ?_
    refine kXvV C h (c_X6_append x5 F7 G8 hw) lk_7_68 (rvX_1 K a F7 G8) rfl hl.1 rfl (Nat.le_of_ble_eq_true rfl) ⟨Nat.le_trans (Nat.le_of_ble_eq_true rfl) hR.1, Nat.le_trans (Nat.le_of_ble_eq_true rfl) hR.2⟩ ⟨Nat.zero_le _, Nat.zero_le _⟩ dX7_feed_54 (fun F9 G10 H locs hw h => ?_)
    refine lv_aload_n hx hb dX7_feed_57 rfl (lv_at hl 0 rfl) ?_
    refine gX_7_10 C h dX7_feed_58 ?_
    refine gX_7_65 C h dX7_feed_61 ?_
    exact hq _ F9 G10 _ _ _ _ dX7_feed_64 h hw
  · have hw := hw.2 c
    refine lv_iconst (v := (-1 : Int32)) hx hb dX7_feed_13 (by decide) ?_
    exact hq _ F G _ _ _ _ dX7_feed_14 h hw
theorem c_X7_feed {l : Launch} {K : KT} {a : Nat → Nat} (x1 : Int32) (x2 : Int32) (x3 : Int32) (x4 : Int32) (x5 : Int32) (F : FT) (G : GT) {Q : Int32 → FT → GT → Prop} (hw : wp_X7_feed x1 x2 x3 x4 x5 F G Q) : CtXi l K a yX7_feed cX7_feed 6 (some .int) 1 22 [.ref (a 0), .int x1, .int x2, .int x3, .int x4, .int x5] F G Q := fun sz => x_met (Qm := QmXi K a Q) (by decide) (Nat.le_of_ble_eq_true rfl) (fun p e s m below meth c A ls C hr h hl => wk_X7_feed_0 ⟨Nat.le_refl _, Nat.le_refl _⟩ C (retX_z C hr (fun r F G _ => rfl)) x1 x2 x3 x4 x5 F G h hl hw)
def wp_X7_end_0 (Q : Int32 → FT → GT → Prop) (x1 : Int32) (F : FT) (G : GT) : Prop := ((x1 < 0) → Q (0 : Int32) F G) ∧ ((¬ x1 < 0) → ((x1 ≤ (F 2)) → ∀ F1 : FT, F1 = sU F 2 x1 → Q (1 : Int32) F1 G) ∧ ((¬ x1 ≤ (F 2)) → Q (0 : Int32) F G))
def wp_X7_end (x1 : Int32) (F : FT) (G : GT) (Q : Int32 → FT → GT → Prop) : Prop := wp_X7_end_0 (fun r F G => (r = 0 ∨ r = 1) ∧ Q r F G) x1 F G
set_option maxHeartbeats 4000000 in
set_option maxRecDepth 100000 in
theorem wk_X7_end_0 {p : Program} {l : Launch} {e : Env} {R : Room} {s : State} {m : MethodId} {args : Array Value} {below : List Frame} {meth : Method} {c : Code} {K : KT} {A : Nat → Prop} {Z : State → Prop} {a : Nat → Nat} (hR : 0 ≤ R.frames ∧ 0 ≤ R.locals) (C : CX p s m args meth c K A cX7_end 2 RX7) {Q : Int32 → FT → GT → Prop} (hq : RetXi p l e R s m args below meth c K A Z a cX7_end Q) (x1 : Int32) (F : FT) (G : GT) {H : Heap} {locs : List Loc} (h : WD K A s (wX K a F G) H locs) {ls : Array Slot} (hl : lv_has ls 2 [(0, .ref (a 0)), (1, .int x1)]) (hw : wp_X7_end_0 Q x1 F G) : W p l e R s m args below meth c H locs 0 0 Z (F0 m 0 ls []) := by
  unfold wp_X7_end_0 at hw
  have hx := C.1
  have hb := C.2.1
  refine lv_iload_n hx hb dX7_end_0 rfl (lv_at hl 1 rfl) ?_
  refine lv_if_lt (tgt := 15) hx hb dX7_end_1 (by decide) (fun c => ?_) (fun c => ?_)
  · have hw := hw.1 c
    refine lv_iconst (v := (0 : Int32)) hx hb dX7_end_15 (by decide) ?_
    exact hq _ F G _ _ _ _ dX7_end_16 h hw
  · have hw := hw.2 c
    refine lv_iload_n hx hb dX7_end_4 rfl (lv_at hl 1 rfl) ?_
    refine lv_aload_n hx hb dX7_end_5 rfl (lv_at hl 0 rfl) ?_
    refine gX_7_10 C h dX7_end_6 ?_
    refine gX_7_65 C h dX7_end_9 ?_
    refine lv_icmp_le (tgt := 17) hx hb dX7_end_12 (by decide) (fun c => ?_) (fun c => ?_)
    · have hw := hw.1 c
      refine lv_aload_n hx hb dX7_end_17 rfl (lv_at hl 0 rfl) ?_
      refine gX_7_10 C h dX7_end_18 ?_
      refine lv_iload_n hx hb dX7_end_21 rfl (lv_at hl 1 rfl) ?_
      refine pX_7_65 C h dX7_end_22 (fun F1 H locs eF1 h => ?_)
      have hw := hw F1 eF1
      refine lv_iconst (v := (1 : Int32)) hx hb dX7_end_25 (by decide) ?_
      exact hq _ F1 G _ _ _ _ dX7_end_26 h hw
    · have hw := hw.2 c
      refine lv_iconst (v := (0 : Int32)) hx hb dX7_end_15 (by decide) ?_
      exact hq _ F G _ _ _ _ dX7_end_16 h hw
theorem c_X7_end {l : Launch} {K : KT} {a : Nat → Nat} (x1 : Int32) (F : FT) (G : GT) {Q : Int32 → FT → GT → Prop} (hw : wp_X7_end x1 F G Q) : CtXi l K a yX7_end cX7_end 2 (some .boolean) 0 0 [.ref (a 0), .int x1] F G (fun r F G => (r = 0 ∨ r = 1) ∧ Q r F G) := fun sz => x_met (Qm := QmXi K a (fun r F G => (r = 0 ∨ r = 1) ∧ Q r F G)) (by decide) (Nat.le_of_ble_eq_true rfl) (fun p e s m below meth c A ls C hr h hl => wk_X7_end_0 ⟨Nat.le_refl _, Nat.le_refl _⟩ C (retX_z C hr (fun r F G hz => by rcases hz.1 with z | z <;> rw [z] <;> rfl)) x1 F G h hl hw)
def wp_X7_isLand_0 (Q : Int32 → FT → GT → Prop) (x0 : Int32) (F : FT) (G : GT) : Prop := ((x0 < 0) → Q (0 : Int32) F G) ∧ ((¬ x0 < 0) → (((3 : Int32) ≤ x0) → Q (0 : Int32) F G) ∧ ((¬ (3 : Int32) ≤ x0) → Q (1 : Int32) F G))
def wp_X7_isLand (x0 : Int32) (F : FT) (G : GT) (Q : Int32 → FT → GT → Prop) : Prop := wp_X7_isLand_0 (fun r F G => (r = 0 ∨ r = 1) ∧ Q r F G) x0 F G
set_option maxHeartbeats 4000000 in
set_option maxRecDepth 100000 in
theorem wk_X7_isLand_0 {p : Program} {l : Launch} {e : Env} {R : Room} {s : State} {m : MethodId} {args : Array Value} {below : List Frame} {meth : Method} {c : Code} {K : KT} {A : Nat → Prop} {Z : State → Prop} {a : Nat → Nat} (hR : 0 ≤ R.frames ∧ 0 ≤ R.locals) (C : CX p s m args meth c K A cX7_isLand 1 RX7) {Q : Int32 → FT → GT → Prop} (hq : RetXi p l e R s m args below meth c K A Z a cX7_isLand Q) (x0 : Int32) (F : FT) (G : GT) {H : Heap} {locs : List Loc} (h : WD K A s (wX K a F G) H locs) {ls : Array Slot} (hl : lv_has ls 1 [(0, .int x0)]) (hw : wp_X7_isLand_0 Q x0 F G) : W p l e R s m args below meth c H locs 0 0 Z (F0 m 0 ls []) := by
  unfold wp_X7_isLand_0 at hw
  have hx := C.1
  have hb := C.2.1
  refine lv_iload_n hx hb dX7_isLand_0 rfl (lv_at hl 0 rfl) ?_
  refine lv_if_lt (tgt := 13) hx hb dX7_isLand_1 (by decide) (fun c => ?_) (fun c => ?_)
  · have hw := hw.1 c
    refine lv_iconst (v := (0 : Int32)) hx hb dX7_isLand_13 (by decide) ?_
    exact hq _ F G _ _ _ _ dX7_isLand_14 h hw
  · have hw := hw.2 c
    refine lv_iload_n hx hb dX7_isLand_4 rfl (lv_at hl 0 rfl) ?_
    refine lv_iconst (v := (3 : Int32)) hx hb dX7_isLand_5 (by decide) ?_
    refine lv_icmp_ge (tgt := 13) hx hb dX7_isLand_6 (by decide) (fun c => ?_) (fun c => ?_)
    · have hw := hw.1 c
      refine lv_iconst (v := (0 : Int32)) hx hb dX7_isLand_13 (by decide) ?_
      exact hq _ F G _ _ _ _ dX7_isLand_14 h hw
    · have hw := hw.2 c
      refine lv_iconst (v := (1 : Int32)) hx hb dX7_isLand_9 (by decide) ?_
      refine lv_goto (tgt := 14) hx hb dX7_isLand_10 (by decide) ?_
      exact hq _ F G _ _ _ _ dX7_isLand_14 h hw
theorem c_X7_isLand {l : Launch} {K : KT} {a : Nat → Nat} (x0 : Int32) (F : FT) (G : GT) {Q : Int32 → FT → GT → Prop} (hw : wp_X7_isLand x0 F G Q) : CtXi l K a yX7_isLand cX7_isLand 1 (some .boolean) 0 0 [.int x0] F G (fun r F G => (r = 0 ∨ r = 1) ∧ Q r F G) := fun sz => x_met (Qm := QmXi K a (fun r F G => (r = 0 ∨ r = 1) ∧ Q r F G)) (by decide) (Nat.le_of_ble_eq_true rfl) (fun p e s m below meth c A ls C hr h hl => wk_X7_isLand_0 ⟨Nat.le_refl _, Nat.le_refl _⟩ C (retX_z C hr (fun r F G hz => by rcases hz.1 with z | z <;> rw [z] <;> rfl)) x0 F G h hl hw)
def wp_X3_clear_2 (Q : FT → GT → Prop) : Nat → Int32 → FT → GT → Prop
  | 0, _, _, _ => False
  | n + 1, x1, F, G => (((14 : Int32) ≤ x1) → ∀ F1 : FT, F1 = sU F 10 (0 : Int32) → ∀ F2 : FT, F2 = sU F1 11 (0 : Int32) → ∀ F3 : FT, F3 = sU F2 12 (0 : Int32) → ∀ F4 : FT, F4 = sU F3 13 (1 : Int32) → ∀ F5 : FT, F5 = sU F4 14 (0 : Int32) → ∀ F6 : FT, F6 = sU F5 15 (0 : Int32) → ∀ F7 : FT, F7 = sU F6 16 (0 : Int32) → Q F7 G) ∧ ((¬ (14 : Int32) ≤ x1) → vp_in x1 14 ∧ ∀ G8 : GT, G8 = gU G 41 (upd (G 41) x1.toNatClampNeg (0 : Int32)) → vp_in x1 14 ∧ ∀ G9 : GT, G9 = gU G8 42 (upd (G8 42) x1.toNatClampNeg (vp_nar .boolean (0 : Int32))) → ∀ v10 : Int32, v10 = (x1 + 1) → wp_X3_clear_2 Q n v10 F G9)
def wp_X3_clear_0 (Q : FT → GT → Prop) (F : FT) (G : GT) : Prop := ∃ n : Nat, wp_X3_clear_2 Q n (0 : Int32) F G
def wp_X3_clear (F : FT) (G : GT) (Q : FT → GT → Prop) : Prop := wp_X3_clear_0 Q F G
set_option maxHeartbeats 4000000 in
set_option maxRecDepth 100000 in
theorem wk_X3_clear_2 {p : Program} {l : Launch} {e : Env} {R : Room} {s : State} {m : MethodId} {args : Array Value} {below : List Frame} {meth : Method} {c : Code} {K : KT} {A : Nat → Prop} {Z : State → Prop} {a : Nat → Nat} (hR : 0 ≤ R.frames ∧ 0 ≤ R.locals) (C : CX p s m args meth c K A cX3_clear 2 RX3) {Q : FT → GT → Prop} (hq : RetXv p l e R s m args below meth c K A Z a cX3_clear Q) : ∀ (n : Nat) (x1 : Int32) (F : FT) (G : GT) {H : Heap} {locs : List Loc} (h : WD K A s (wX K a F G) H locs) {ls : Array Slot} (hl : lv_has ls 2 [(0, .ref (a 2)), (1, .int x1)]) (hw : wp_X3_clear_2 Q n x1 F G), W p l e R s m args below meth c H locs 0 0 Z (F0 m 2 ls []) := by
  intro n
  induction n with
  | zero => intro x1 F G H locs h ls hl hw; exact False.elim hw
  | succ n ih =>
    intro x1 F G H locs h ls hl hw
    rw [wp_X3_clear_2] at hw
    have hx := C.1
    have hb := C.2.1
    refine lv_iload_n hx hb dX3_clear_2 rfl (lv_at hl 1 rfl) ?_
    refine lv_bipush (v := (14 : Int32)) hx hb dX3_clear_3 (by decide) ?_
    refine lv_icmp_ge (tgt := 28) hx hb dX3_clear_5 (by decide) (fun c => ?_) (fun c => ?_)
    · have hw := hw.1 c
      refine lv_aload_n hx hb dX3_clear_28 rfl (lv_at hl 0 rfl) ?_
      refine lv_iconst (v := (0 : Int32)) hx hb dX3_clear_29 (by decide) ?_
      refine pX_3_19 C h dX3_clear_30 (fun F1 H locs eF1 h => ?_)
      have hw := hw F1 eF1
      refine lv_aload_n hx hb dX3_clear_33 rfl (lv_at hl 0 rfl) ?_
      refine lv_iconst (v := (0 : Int32)) hx hb dX3_clear_34 (by decide) ?_
      refine pX_3_23 C h dX3_clear_35 (fun F2 H locs eF2 h => ?_)
      have hw := hw F2 eF2
      refine lv_aload_n hx hb dX3_clear_38 rfl (lv_at hl 0 rfl) ?_
      refine lv_iconst (v := (0 : Int32)) hx hb dX3_clear_39 (by decide) ?_
      refine pX_3_26 C h dX3_clear_40 (fun F3 H locs eF3 h => ?_)
      have hw := hw F3 eF3
      refine lv_aload_n hx hb dX3_clear_43 rfl (lv_at hl 0 rfl) ?_
      refine lv_iconst (v := (1 : Int32)) hx hb dX3_clear_44 (by decide) ?_
      refine pX_3_29 C h dX3_clear_45 (fun F4 H locs eF4 h => ?_)
      have hw := hw F4 eF4
      refine lv_aload_n hx hb dX3_clear_48 rfl (lv_at hl 0 rfl) ?_
      refine lv_iconst (v := (0 : Int32)) hx hb dX3_clear_49 (by decide) ?_
      refine pX_3_32 C h dX3_clear_50 (fun F5 H locs eF5 h => ?_)
      have hw := hw F5 eF5
      refine lv_aload_n hx hb dX3_clear_53 rfl (lv_at hl 0 rfl) ?_
      refine lv_iconst (v := (0 : Int32)) hx hb dX3_clear_54 (by decide) ?_
      refine pX_3_35 C h dX3_clear_55 (fun F6 H locs eF6 h => ?_)
      have hw := hw F6 eF6
      refine lv_aload_n hx hb dX3_clear_58 rfl (lv_at hl 0 rfl) ?_
      refine lv_iconst (v := (0 : Int32)) hx hb dX3_clear_59 (by decide) ?_
      refine pX_3_38 C h dX3_clear_60 (fun F7 H locs eF7 h => ?_)
      have hw := hw F7 eF7
      exact hq F7 G _ _ _ _ dX3_clear_63 h hw
    · have hw := hw.2 c
      refine lv_aload_n hx hb dX3_clear_8 rfl (lv_at hl 0 rfl) ?_
      refine gX_3_9 C h dX3_clear_9 ?_
      refine lv_iload_n hx hb dX3_clear_12 rfl (lv_at hl 1 rfl) ?_
      refine lv_iconst (v := (0 : Int32)) hx hb dX3_clear_13 (by decide) ?_
      have hi := hw.1
      have hw := hw.2
      refine saX_41 C h hi dX3_clear_14 (fun G8 H locs eG8 h => ?_)
      have hw := hw G8 eG8
      refine lv_aload_n hx hb dX3_clear_15 rfl (lv_at hl 0 rfl) ?_
      refine gX_3_15 C h dX3_clear_16 ?_
      refine lv_iload_n hx hb dX3_clear_19 rfl (lv_at hl 1 rfl) ?_
      refine lv_iconst (v := (0 : Int32)) hx hb dX3_clear_20 (by decide) ?_
      have hi := hw.1
      have hw := hw.2
      refine saX_42 C h hi dX3_clear_21 (fun G9 H locs eG9 h => ?_)
      have hw := hw G9 eG9
      obtain ⟨v10, ev10⟩ : ∃ z : Int32, z = (x1 + 1) := ⟨_, rfl⟩
      have hw := hw v10 ev10
      refine lv_iinc (v := v10) (lv' := [(1, .int v10), (0, .ref (a 2))]) hx hb dX3_clear_22 hl (k := 1) rfl (by rw [ev10]; rfl) (by decide) rfl (fun ls hl => ?_)
      refine lv_goto (tgt := 2) hx hb dX3_clear_25 (by decide) ?_
      exact ih v10 F G9 h (lv_sub hl [1, 0] rfl) hw
set_option maxHeartbeats 4000000 in
set_option maxRecDepth 100000 in
theorem wk_X3_clear_0 {p : Program} {l : Launch} {e : Env} {R : Room} {s : State} {m : MethodId} {args : Array Value} {below : List Frame} {meth : Method} {c : Code} {K : KT} {A : Nat → Prop} {Z : State → Prop} {a : Nat → Nat} (hR : 0 ≤ R.frames ∧ 0 ≤ R.locals) (C : CX p s m args meth c K A cX3_clear 2 RX3) {Q : FT → GT → Prop} (hq : RetXv p l e R s m args below meth c K A Z a cX3_clear Q) (F : FT) (G : GT) {H : Heap} {locs : List Loc} (h : WD K A s (wX K a F G) H locs) {ls : Array Slot} (hl : lv_has ls 2 [(0, .ref (a 2))]) (hw : wp_X3_clear_0 Q F G) : W p l e R s m args below meth c H locs 0 0 Z (F0 m 0 ls []) := by
  unfold wp_X3_clear_0 at hw
  have hx := C.1
  have hb := C.2.1
  refine lv_iconst (v := (0 : Int32)) hx hb dX3_clear_0 (by decide) ?_
  refine lv_istore_n (lv' := [(1, .int (0 : Int32)), (0, .ref (a 2))]) hx hb dX3_clear_1 rfl hl (by decide) rfl (fun ls hl => ?_)
  obtain ⟨n, hw⟩ := hw
  exact wk_X3_clear_2 hR C hq n (0 : Int32) F G h (lv_sub hl [1, 0] rfl) hw
theorem c_X3_clear {l : Launch} {K : KT} {a : Nat → Nat} (F : FT) (G : GT) {Q : FT → GT → Prop} (hw : wp_X3_clear F G Q) : CtXv l K a yX3_clear cX3_clear 2 none 0 0 [.ref (a 2)] F G Q := fun sz => x_met (Qm := QmXv K a Q) (by decide) (Nat.le_of_ble_eq_true rfl) (fun p e s m below meth c A ls C hr h hl => wk_X3_clear_0 ⟨Nat.le_refl _, Nat.le_refl _⟩ C (retX_v C hr) F G h hl hw)
def wp_X6_at_0 (Q : Int32 → FT → GT → Prop) (x1 : Int32) (F : FT) (G : GT) : Prop := ((x1 < 0) → Q (-1 : Int32) F G) ∧ ((¬ x1 < 0) → (((F 2) ≤ x1) → Q (-1 : Int32) F G) ∧ ((¬ (F 2) ≤ x1) → vp_in x1 320 ∧ Q ((G 40 x1.toNatClampNeg) &&& (255 : Int32)) F G))
def wp_X6_at (x1 : Int32) (F : FT) (G : GT) (Q : Int32 → FT → GT → Prop) : Prop := wp_X6_at_0 Q x1 F G
set_option maxHeartbeats 4000000 in
set_option maxRecDepth 100000 in
theorem wk_X6_at_0 {p : Program} {l : Launch} {e : Env} {R : Room} {s : State} {m : MethodId} {args : Array Value} {below : List Frame} {meth : Method} {c : Code} {K : KT} {A : Nat → Prop} {Z : State → Prop} {a : Nat → Nat} (hR : 0 ≤ R.frames ∧ 0 ≤ R.locals) (C : CX p s m args meth c K A cX6_at 2 RX6) {Q : Int32 → FT → GT → Prop} (hq : RetXi p l e R s m args below meth c K A Z a cX6_at Q) (x1 : Int32) (F : FT) (G : GT) {H : Heap} {locs : List Loc} (h : WD K A s (wX K a F G) H locs) {ls : Array Slot} (hl : lv_has ls 2 [(0, .ref (a 1)), (1, .int x1)]) (hw : wp_X6_at_0 Q x1 F G) : W p l e R s m args below meth c H locs 0 0 Z (F0 m 0 ls []) := by
  unfold wp_X6_at_0 at hw
  have hx := C.1
  have hb := C.2.1
  refine lv_iload_n hx hb dX6_at_0 rfl (lv_at hl 1 rfl) ?_
  refine lv_if_lt (tgt := 25) hx hb dX6_at_1 (by decide) (fun c => ?_) (fun c => ?_)
  · have hw := hw.1 c
    refine lv_iconst (v := (-1 : Int32)) hx hb dX6_at_25 (by decide) ?_
    exact hq _ F G _ _ _ _ dX6_at_26 h hw
  · have hw := hw.2 c
    refine lv_iload_n hx hb dX6_at_4 rfl (lv_at hl 1 rfl) ?_
    refine lv_aload_n hx hb dX6_at_5 rfl (lv_at hl 0 rfl) ?_
    refine gX_6_15 C h dX6_at_6 ?_
    refine lv_icmp_ge (tgt := 25) hx hb dX6_at_9 (by decide) (fun c => ?_) (fun c => ?_)
    · have hw := hw.1 c
      refine lv_iconst (v := (-1 : Int32)) hx hb dX6_at_25 (by decide) ?_
      exact hq _ F G _ _ _ _ dX6_at_26 h hw
    · have hw := hw.2 c
      refine lv_aload_n hx hb dX6_at_12 rfl (lv_at hl 0 rfl) ?_
      refine gX_6_9 C h dX6_at_13 ?_
      refine lv_iload_n hx hb dX6_at_16 rfl (lv_at hl 1 rfl) ?_
      have hi := hw.1
      have hw := hw.2
      refine laX_40 C h hi dX6_at_17 ?_
      refine lv_sipush (v := (255 : Int32)) hx hb dX6_at_18 (by decide) ?_
      refine lv_iand hx hb dX6_at_21 ?_
      refine lv_goto (tgt := 26) hx hb dX6_at_22 (by decide) ?_
      exact hq _ F G _ _ _ _ dX6_at_26 h hw
theorem c_X6_at {l : Launch} {K : KT} {a : Nat → Nat} (x1 : Int32) (F : FT) (G : GT) {Q : Int32 → FT → GT → Prop} (hw : wp_X6_at x1 F G Q) : CtXi l K a yX6_at cX6_at 2 (some .int) 0 0 [.ref (a 1), .int x1] F G Q := fun sz => x_met (Qm := QmXi K a Q) (by decide) (Nat.le_of_ble_eq_true rfl) (fun p e s m below meth c A ls C hr h hl => wk_X6_at_0 ⟨Nat.le_refl _, Nat.le_refl _⟩ C (retX_z C hr (fun r F G _ => rfl)) x1 F G h hl hw)
def wp_X3_skipBlanks_37 (Q : FT → GT → Prop) (kb : FT → GT → Prop) (F : FT) (G : GT) : Prop := ∀ F1 : FT, F1 = sU F 15 ((F 15) + (1 : Int32)) → kb F1 G
def wp_X3_skipBlanks_0 (Q : FT → GT → Prop) : Nat → FT → GT → Prop
  | 0, _, _ => False
  | n + 1, F, G => (((F 2) ≤ (F 15)) → Q F G) ∧ ((¬ (F 2) ≤ (F 15)) → wp_X6_at (F 15) F G (fun r3 F1 G2 => ((r3 = (32 : Int32)) → wp_X3_skipBlanks_37 Q (fun F G => wp_X3_skipBlanks_0 Q n F G) F1 G2) ∧ ((¬ r3 = (32 : Int32)) → wp_X6_at (F1 15) F1 G2 (fun r6 F4 G5 => ((¬ r6 = (10 : Int32)) → Q F4 G5) ∧ ((r6 = (10 : Int32)) → wp_X3_skipBlanks_37 Q (fun F G => wp_X3_skipBlanks_0 Q n F G) F4 G5)))))
def wp_X3_skipBlanks (F : FT) (G : GT) (Q : FT → GT → Prop) : Prop := ∃ n : Nat, wp_X3_skipBlanks_0 Q n F G
set_option maxHeartbeats 4000000 in
set_option maxRecDepth 100000 in
theorem wk_X3_skipBlanks_37 {p : Program} {l : Launch} {e : Env} {R : Room} {s : State} {m : MethodId} {args : Array Value} {below : List Frame} {meth : Method} {c : Code} {K : KT} {A : Nat → Prop} {Z : State → Prop} {a : Nat → Nat} (hR : 1 ≤ R.frames ∧ 21 ≤ R.locals) (C : CX p s m args meth c K A cX3_skipBlanks 2 RX3) {Q : FT → GT → Prop} (hq : RetXv p l e R s m args below meth c K A Z a cX3_skipBlanks Q) {kb : FT → GT → Prop} (hk : ∀ (F : FT) (G : GT) (H : Heap) (locs : List Loc) (ls : Array Slot), WD K A s (wX K a F G) H locs → lv_has ls 2 [(0, .ref (a 2)), (1, .ref (a 1))] → kb  F G → W p l e R s m args below meth c H locs 0 0 Z (F0 m 0 ls [])) (F : FT) (G : GT) {H : Heap} {locs : List Loc} (h : WD K A s (wX K a F G) H locs) {ls : Array Slot} (hl : lv_has ls 2 [(0, .ref (a 2)), (1, .ref (a 1))]) (hw : wp_X3_skipBlanks_37 Q kb F G) : W p l e R s m args below meth c H locs 0 0 Z (F0 m 37 ls []) := by
  unfold wp_X3_skipBlanks_37 at hw
  have hx := C.1
  have hb := C.2.1
  refine lv_aload_n hx hb dX3_skipBlanks_37 rfl (lv_at hl 0 rfl) ?_
  refine lv_dup hx hb dX3_skipBlanks_38 rfl ?_
  refine gX_3_35 C h dX3_skipBlanks_39 ?_
  refine lv_iconst (v := (1 : Int32)) hx hb dX3_skipBlanks_42 (by decide) ?_
  refine lv_iadd hx hb dX3_skipBlanks_43 ?_
  refine pX_3_35 C h dX3_skipBlanks_44 (fun F1 H locs eF1 h => ?_)
  have hw := hw F1 eF1
  refine lv_goto (tgt := 0) hx hb dX3_skipBlanks_47 (by decide) ?_
  exact hk F1 G _ _ _ h (lv_sub hl [0, 1] rfl) hw
set_option maxHeartbeats 4000000 in
set_option maxRecDepth 100000 in
theorem wk_X3_skipBlanks_0 {p : Program} {l : Launch} {e : Env} {R : Room} {s : State} {m : MethodId} {args : Array Value} {below : List Frame} {meth : Method} {c : Code} {K : KT} {A : Nat → Prop} {Z : State → Prop} {a : Nat → Nat} (hR : 1 ≤ R.frames ∧ 21 ≤ R.locals) (C : CX p s m args meth c K A cX3_skipBlanks 2 RX3) {Q : FT → GT → Prop} (hq : RetXv p l e R s m args below meth c K A Z a cX3_skipBlanks Q) : ∀ (n : Nat) (F : FT) (G : GT) {H : Heap} {locs : List Loc} (h : WD K A s (wX K a F G) H locs) {ls : Array Slot} (hl : lv_has ls 2 [(0, .ref (a 2)), (1, .ref (a 1))]) (hw : wp_X3_skipBlanks_0 Q n F G), W p l e R s m args below meth c H locs 0 0 Z (F0 m 0 ls []) := by
  intro n
  induction n with
  | zero => intro F G H locs h ls hl hw; exact False.elim hw
  | succ n ih =>
    intro F G H locs h ls hl hw
    rw [wp_X3_skipBlanks_0] at hw
    have hx := C.1
    have hb := C.2.1
    refine lv_aload_n hx hb dX3_skipBlanks_0 rfl (lv_at hl 0 rfl) ?_
    refine gX_3_35 C h dX3_skipBlanks_1 ?_
    refine lv_aload_n hx hb dX3_skipBlanks_4 rfl (lv_at hl 1 rfl) ?_
    refine gX_3_44 C h dX3_skipBlanks_5 ?_
    refine lv_icmp_ge (tgt := 50) hx hb dX3_skipBlanks_8 (by decide) (fun c => ?_) (fun c => ?_)
    · have hw := hw.1 c
      exact hq F G _ _ _ _ dX3_skipBlanks_50 h hw
    · have hw := hw.2 c
      refine lv_aload_n hx hb dX3_skipBlanks_11 rfl (lv_at hl 1 rfl) ?_
      refine lv_aload_n hx hb dX3_skipBlanks_12 rfl (lv_at hl 0 rfl) ?_
      refine gX_3_35 C h dX3_skipBlanks_13 ?_
      refine kXiV C h (c_X6_at (F 15) F G hw) lk_3_67 (rvX_1 K a F G) rfl hl.1 rfl (Nat.le_of_ble_eq_true rfl) ⟨Nat.le_trans (Nat.le_of_ble_eq_true rfl) hR.1, Nat.le_trans (Nat.le_of_ble_eq_true rfl) hR.2⟩ ⟨Nat.zero_le _, Nat.zero_le _⟩ dX3_skipBlanks_16 (fun r3 F1 G2 H locs hw h => ?_)
      refine lv_bipush (v := (32 : Int32)) hx hb dX3_skipBlanks_19 (by decide) ?_
      refine lv_icmp_eq (tgt := 37) hx hb dX3_skipBlanks_21 (by decide) (fun c => ?_) (fun c => ?_)
      · have hw := hw.1 c
        exact wk_X3_skipBlanks_37 hR C hq (fun F G H locs ls h hl hw => ih F G h hl hw) F1 G2 h (lv_sub hl [0, 1] rfl) hw
      · have hw := hw.2 c
        refine lv_aload_n hx hb dX3_skipBlanks_24 rfl (lv_at hl 1 rfl) ?_
        refine lv_aload_n hx hb dX3_skipBlanks_25 rfl (lv_at hl 0 rfl) ?_
        refine gX_3_35 C h dX3_skipBlanks_26 ?_
        refine kXiV C h (c_X6_at (F1 15) F1 G2 hw) lk_3_67 (rvX_1 K a F1 G2) rfl hl.1 rfl (Nat.le_of_ble_eq_true rfl) ⟨Nat.le_trans (Nat.le_of_ble_eq_true rfl) hR.1, Nat.le_trans (Nat.le_of_ble_eq_true rfl) hR.2⟩ ⟨Nat.zero_le _, Nat.zero_le _⟩ dX3_skipBlanks_29 (fun r6 F4 G5 H locs hw h => ?_)
        refine lv_bipush (v := (10 : Int32)) hx hb dX3_skipBlanks_32 (by decide) ?_
        refine lv_icmp_ne (tgt := 50) hx hb dX3_skipBlanks_34 (by decide) (fun c => ?_) (fun c => ?_)
        · have hw := hw.1 c
          exact hq F4 G5 _ _ _ _ dX3_skipBlanks_50 h hw
        · have hw := hw.2 c
          exact wk_X3_skipBlanks_37 hR C hq (fun F G H locs ls h hl hw => ih F G h hl hw) F4 G5 h (lv_sub hl [0, 1] rfl) hw
theorem c_X3_skipBlanks {l : Launch} {K : KT} {a : Nat → Nat} (F : FT) (G : GT) {Q : FT → GT → Prop} (hw : wp_X3_skipBlanks F G Q) : CtXv l K a yX3_skipBlanks cX3_skipBlanks 2 none 1 21 [.ref (a 2), .ref (a 1)] F G Q := fun sz => x_met (Qm := QmXv K a Q) (by decide) (Nat.le_of_ble_eq_true rfl) (fun p e s m below meth c A ls C hr h hl => hw.elim (fun n hw => wk_X3_skipBlanks_0 ⟨Nat.le_refl _, Nat.le_refl _⟩ C (retX_v C hr) n F G h hl hw))
def wp_X3_isLetter_0 (Q : Int32 → FT → GT → Prop) (x0 : Int32) (F : FT) (G : GT) : Prop := ((x0 < (97 : Int32)) → Q (0 : Int32) F G) ∧ ((¬ x0 < (97 : Int32)) → (((122 : Int32) < x0) → Q (0 : Int32) F G) ∧ ((¬ (122 : Int32) < x0) → Q (1 : Int32) F G))
def wp_X3_isLetter (x0 : Int32) (F : FT) (G : GT) (Q : Int32 → FT → GT → Prop) : Prop := wp_X3_isLetter_0 (fun r F G => (r = 0 ∨ r = 1) ∧ Q r F G) x0 F G
set_option maxHeartbeats 4000000 in
set_option maxRecDepth 100000 in
theorem wk_X3_isLetter_0 {p : Program} {l : Launch} {e : Env} {R : Room} {s : State} {m : MethodId} {args : Array Value} {below : List Frame} {meth : Method} {c : Code} {K : KT} {A : Nat → Prop} {Z : State → Prop} {a : Nat → Nat} (hR : 0 ≤ R.frames ∧ 0 ≤ R.locals) (C : CX p s m args meth c K A cX3_isLetter 1 RX3) {Q : Int32 → FT → GT → Prop} (hq : RetXi p l e R s m args below meth c K A Z a cX3_isLetter Q) (x0 : Int32) (F : FT) (G : GT) {H : Heap} {locs : List Loc} (h : WD K A s (wX K a F G) H locs) {ls : Array Slot} (hl : lv_has ls 1 [(0, .int x0)]) (hw : wp_X3_isLetter_0 Q x0 F G) : W p l e R s m args below meth c H locs 0 0 Z (F0 m 0 ls []) := by
  unfold wp_X3_isLetter_0 at hw
  have hx := C.1
  have hb := C.2.1
  refine lv_iload_n hx hb dX3_isLetter_0 rfl (lv_at hl 0 rfl) ?_
  refine lv_bipush (v := (97 : Int32)) hx hb dX3_isLetter_1 (by decide) ?_
  refine lv_icmp_lt (tgt := 16) hx hb dX3_isLetter_3 (by decide) (fun c => ?_) (fun c => ?_)
  · have hw := hw.1 c
    refine lv_iconst (v := (0 : Int32)) hx hb dX3_isLetter_16 (by decide) ?_
    exact hq _ F G _ _ _ _ dX3_isLetter_17 h hw
  · have hw := hw.2 c
    refine lv_iload_n hx hb dX3_isLetter_6 rfl (lv_at hl 0 rfl) ?_
    refine lv_bipush (v := (122 : Int32)) hx hb dX3_isLetter_7 (by decide) ?_
    refine lv_icmp_gt (tgt := 16) hx hb dX3_isLetter_9 (by decide) (fun c => ?_) (fun c => ?_)
    · have hw := hw.1 c
      refine lv_iconst (v := (0 : Int32)) hx hb dX3_isLetter_16 (by decide) ?_
      exact hq _ F G _ _ _ _ dX3_isLetter_17 h hw
    · have hw := hw.2 c
      refine lv_iconst (v := (1 : Int32)) hx hb dX3_isLetter_12 (by decide) ?_
      refine lv_goto (tgt := 17) hx hb dX3_isLetter_13 (by decide) ?_
      exact hq _ F G _ _ _ _ dX3_isLetter_17 h hw
theorem c_X3_isLetter {l : Launch} {K : KT} {a : Nat → Nat} (x0 : Int32) (F : FT) (G : GT) {Q : Int32 → FT → GT → Prop} (hw : wp_X3_isLetter x0 F G Q) : CtXi l K a yX3_isLetter cX3_isLetter 1 (some .boolean) 0 0 [.int x0] F G (fun r F G => (r = 0 ∨ r = 1) ∧ Q r F G) := fun sz => x_met (Qm := QmXi K a (fun r F G => (r = 0 ∨ r = 1) ∧ Q r F G)) (by decide) (Nat.le_of_ble_eq_true rfl) (fun p e s m below meth c A ls C hr h hl => wk_X3_isLetter_0 ⟨Nat.le_refl _, Nat.le_refl _⟩ C (retX_z C hr (fun r F G hz => by rcases hz.1 with z | z <;> rw [z] <;> rfl)) x0 F G h hl hw)
def wp_X3_isDigit_0 (Q : Int32 → FT → GT → Prop) (x0 : Int32) (F : FT) (G : GT) : Prop := ((x0 < (48 : Int32)) → Q (0 : Int32) F G) ∧ ((¬ x0 < (48 : Int32)) → (((57 : Int32) < x0) → Q (0 : Int32) F G) ∧ ((¬ (57 : Int32) < x0) → Q (1 : Int32) F G))
def wp_X3_isDigit (x0 : Int32) (F : FT) (G : GT) (Q : Int32 → FT → GT → Prop) : Prop := wp_X3_isDigit_0 (fun r F G => (r = 0 ∨ r = 1) ∧ Q r F G) x0 F G
set_option maxHeartbeats 4000000 in
set_option maxRecDepth 100000 in
theorem wk_X3_isDigit_0 {p : Program} {l : Launch} {e : Env} {R : Room} {s : State} {m : MethodId} {args : Array Value} {below : List Frame} {meth : Method} {c : Code} {K : KT} {A : Nat → Prop} {Z : State → Prop} {a : Nat → Nat} (hR : 0 ≤ R.frames ∧ 0 ≤ R.locals) (C : CX p s m args meth c K A cX3_isDigit 1 RX3) {Q : Int32 → FT → GT → Prop} (hq : RetXi p l e R s m args below meth c K A Z a cX3_isDigit Q) (x0 : Int32) (F : FT) (G : GT) {H : Heap} {locs : List Loc} (h : WD K A s (wX K a F G) H locs) {ls : Array Slot} (hl : lv_has ls 1 [(0, .int x0)]) (hw : wp_X3_isDigit_0 Q x0 F G) : W p l e R s m args below meth c H locs 0 0 Z (F0 m 0 ls []) := by
  unfold wp_X3_isDigit_0 at hw
  have hx := C.1
  have hb := C.2.1
  refine lv_iload_n hx hb dX3_isDigit_0 rfl (lv_at hl 0 rfl) ?_
  refine lv_bipush (v := (48 : Int32)) hx hb dX3_isDigit_1 (by decide) ?_
  refine lv_icmp_lt (tgt := 16) hx hb dX3_isDigit_3 (by decide) (fun c => ?_) (fun c => ?_)
  · have hw := hw.1 c
    refine lv_iconst (v := (0 : Int32)) hx hb dX3_isDigit_16 (by decide) ?_
    exact hq _ F G _ _ _ _ dX3_isDigit_17 h hw
  · have hw := hw.2 c
    refine lv_iload_n hx hb dX3_isDigit_6 rfl (lv_at hl 0 rfl) ?_
    refine lv_bipush (v := (57 : Int32)) hx hb dX3_isDigit_7 (by decide) ?_
    refine lv_icmp_gt (tgt := 16) hx hb dX3_isDigit_9 (by decide) (fun c => ?_) (fun c => ?_)
    · have hw := hw.1 c
      refine lv_iconst (v := (0 : Int32)) hx hb dX3_isDigit_16 (by decide) ?_
      exact hq _ F G _ _ _ _ dX3_isDigit_17 h hw
    · have hw := hw.2 c
      refine lv_iconst (v := (1 : Int32)) hx hb dX3_isDigit_12 (by decide) ?_
      refine lv_goto (tgt := 17) hx hb dX3_isDigit_13 (by decide) ?_
      exact hq _ F G _ _ _ _ dX3_isDigit_17 h hw
theorem c_X3_isDigit {l : Launch} {K : KT} {a : Nat → Nat} (x0 : Int32) (F : FT) (G : GT) {Q : Int32 → FT → GT → Prop} (hw : wp_X3_isDigit x0 F G Q) : CtXi l K a yX3_isDigit cX3_isDigit 1 (some .boolean) 0 0 [.int x0] F G (fun r F G => (r = 0 ∨ r = 1) ∧ Q r F G) := fun sz => x_met (Qm := QmXi K a (fun r F G => (r = 0 ∨ r = 1) ∧ Q r F G)) (by decide) (Nat.le_of_ble_eq_true rfl) (fun p e s m below meth c A ls C hr h hl => wk_X3_isDigit_0 ⟨Nat.le_refl _, Nat.le_refl _⟩ C (retX_z C hr (fun r F G hz => by rcases hz.1 with z | z <;> rw [z] <;> rfl)) x0 F G h hl hw)
def wp_X3_tokenKind_87 (Q : Int32 → FT → GT → Prop) (x2 : Int32) (x3 : Int32) (F : FT) (G : GT) : Prop := ((¬ (F 16) = (F 15)) → ((¬ x3 = 0) → ((¬ x2 = 0) → Q (0 : Int32) F G) ∧ ((x2 = 0) → (((3 : Int32) < x3) → Q (0 : Int32) F G) ∧ ((¬ (3 : Int32) < x3) → Q (2 : Int32) F G))) ∧ ((x3 = 0) → Q (1 : Int32) F G)) ∧ (((F 16) = (F 15)) → ∀ F1 : FT, F1 = sU F 16 ((F 15) + (1 : Int32)) → wp_X6_at (F1 15) F1 G (fun r4 F2 G3 => ((¬ r4 = (59 : Int32)) → Q (0 : Int32) F2 G3) ∧ ((r4 = (59 : Int32)) → Q (3 : Int32) F2 G3)))
def wp_X3_tokenKind_74 (Q : Int32 → FT → GT → Prop) (kb : Int32 → Int32 → FT → GT → Prop) (x2 : Int32) (x3 : Int32) (F : FT) (G : GT) : Prop := ∀ F1 : FT, F1 = sU F 16 ((F 16) + (1 : Int32)) → kb x2 x3 F1 G
def wp_X3_tokenKind_51 (Q : Int32 → FT → GT → Prop) (kb : Int32 → Int32 → FT → GT → Prop) (x2 : Int32) (x3 : Int32) (F : FT) (G : GT) : Prop := wp_X6_at (F 16) F G (fun r3 F1 G2 => wp_X3_isLetter r3 F1 G2 (fun r6 F4 G5 => ((r6 = 0) → ∀ v7 : Int32, v7 = (x3 + 1) → wp_X3_tokenKind_74 Q kb x2 v7 F4 G5) ∧ ((¬ r6 = 0) → ∀ v8 : Int32, v8 = (x2 + 1) → wp_X3_tokenKind_74 Q kb v8 x3 F4 G5)))
def wp_X3_tokenKind_12 (Q : Int32 → FT → GT → Prop) : Nat → Int32 → Int32 → FT → GT → Prop
  | 0, _, _, _, _ => False
  | n + 1, x2, x3, F, G => (((F 2) ≤ (F 16)) → wp_X3_tokenKind_87 Q x2 x3 F G) ∧ ((¬ (F 2) ≤ (F 16)) → wp_X6_at (F 16) F G (fun r3 F1 G2 => wp_X3_isLetter r3 F1 G2 (fun r6 F4 G5 => ((¬ r6 = 0) → wp_X3_tokenKind_51 Q (fun x2 x3 F G => wp_X3_tokenKind_12 Q n x2 x3 F G) x2 x3 F4 G5) ∧ ((r6 = 0) → wp_X6_at (F4 16) F4 G5 (fun r9 F7 G8 => wp_X3_isDigit r9 F7 G8 (fun r12 F10 G11 => ((r12 = 0) → wp_X3_tokenKind_87 Q x2 x3 F10 G11) ∧ ((¬ r12 = 0) → wp_X3_tokenKind_51 Q (fun x2 x3 F G => wp_X3_tokenKind_12 Q n x2 x3 F G) x2 x3 F10 G11)))))))
def wp_X3_tokenKind_0 (Q : Int32 → FT → GT → Prop) (F : FT) (G : GT) : Prop := ∀ F1 : FT, F1 = sU F 16 (F 15) → ∃ n : Nat, wp_X3_tokenKind_12 Q n (0 : Int32) (0 : Int32) F1 G
def wp_X3_tokenKind (F : FT) (G : GT) (Q : Int32 → FT → GT → Prop) : Prop := wp_X3_tokenKind_0 Q F G
set_option maxHeartbeats 4000000 in
set_option maxRecDepth 100000 in
theorem wk_X3_tokenKind_87 {p : Program} {l : Launch} {e : Env} {R : Room} {s : State} {m : MethodId} {args : Array Value} {below : List Frame} {meth : Method} {c : Code} {K : KT} {A : Nat → Prop} {Z : State → Prop} {a : Nat → Nat} (hR : 1 ≤ R.frames ∧ 21 ≤ R.locals) (C : CX p s m args meth c K A cX3_tokenKind 4 RX3) {Q : Int32 → FT → GT → Prop} (hq : RetXi p l e R s m args below meth c K A Z a cX3_tokenKind Q) (x2 : Int32) (x3 : Int32) (F : FT) (G : GT) {H : Heap} {locs : List Loc} (h : WD K A s (wX K a F G) H locs) {ls : Array Slot} (hl : lv_has ls 4 [(0, .ref (a 2)), (1, .ref (a 1)), (2, .int x2), (3, .int x3)]) (hw : wp_X3_tokenKind_87 Q x2 x3 F G) : W p l e R s m args below meth c H locs 0 0 Z (F0 m 87 ls []) := by
  unfold wp_X3_tokenKind_87 at hw
  have hx := C.1
  have hb := C.2.1
  refine lv_aload_n hx hb dX3_tokenKind_87 rfl (lv_at hl 0 rfl) ?_
  refine gX_3_38 C h dX3_tokenKind_88 ?_
  refine lv_aload_n hx hb dX3_tokenKind_91 rfl (lv_at hl 0 rfl) ?_
  refine gX_3_35 C h dX3_tokenKind_92 ?_
  refine lv_icmp_ne (tgt := 127) hx hb dX3_tokenKind_95 (by decide) (fun c => ?_) (fun c => ?_)
  · have hw := hw.1 c
    refine lv_iload_n hx hb dX3_tokenKind_127 rfl (lv_at hl 3 rfl) ?_
    refine lv_if_ne (tgt := 133) hx hb dX3_tokenKind_128 (by decide) (fun c => ?_) (fun c => ?_)
    · have hw := hw.1 c
      refine lv_iload_n hx hb dX3_tokenKind_133 rfl (lv_at hl 2 rfl) ?_
      refine lv_if_ne (tgt := 146) hx hb dX3_tokenKind_134 (by decide) (fun c => ?_) (fun c => ?_)
      · have hw := hw.1 c
        refine lv_iconst (v := (0 : Int32)) hx hb dX3_tokenKind_146 (by decide) ?_
        exact hq _ F G _ _ _ _ dX3_tokenKind_147 h hw
      · have hw := hw.2 c
        refine lv_iload_n hx hb dX3_tokenKind_137 rfl (lv_at hl 3 rfl) ?_
        refine lv_iconst (v := (3 : Int32)) hx hb dX3_tokenKind_138 (by decide) ?_
        refine lv_icmp_gt (tgt := 146) hx hb dX3_tokenKind_139 (by decide) (fun c => ?_) (fun c => ?_)
        · have hw := hw.1 c
          refine lv_iconst (v := (0 : Int32)) hx hb dX3_tokenKind_146 (by decide) ?_
          exact hq _ F G _ _ _ _ dX3_tokenKind_147 h hw
        · have hw := hw.2 c
          refine lv_iconst (v := (2 : Int32)) hx hb dX3_tokenKind_142 (by decide) ?_
          refine lv_goto (tgt := 147) hx hb dX3_tokenKind_143 (by decide) ?_
          exact hq _ F G _ _ _ _ dX3_tokenKind_147 h hw
    · have hw := hw.2 c
      refine lv_iconst (v := (1 : Int32)) hx hb dX3_tokenKind_131 (by decide) ?_
      exact hq _ F G _ _ _ _ dX3_tokenKind_132 h hw
  · have hw := hw.2 c
    refine lv_aload_n hx hb dX3_tokenKind_98 rfl (lv_at hl 0 rfl) ?_
    refine lv_aload_n hx hb dX3_tokenKind_99 rfl (lv_at hl 0 rfl) ?_
    refine gX_3_35 C h dX3_tokenKind_100 ?_
    refine lv_iconst (v := (1 : Int32)) hx hb dX3_tokenKind_103 (by decide) ?_
    refine lv_iadd hx hb dX3_tokenKind_104 ?_
    refine pX_3_38 C h dX3_tokenKind_105 (fun F1 H locs eF1 h => ?_)
    have hw := hw F1 eF1
    refine lv_aload_n hx hb dX3_tokenKind_108 rfl (lv_at hl 1 rfl) ?_
    refine lv_aload_n hx hb dX3_tokenKind_109 rfl (lv_at hl 0 rfl) ?_
    refine gX_3_35 C h dX3_tokenKind_110 ?_
    refine kXiV C h (c_X6_at (F1 15) F1 G hw) lk_3_67 (rvX_1 K a F1 G) rfl hl.1 rfl (Nat.le_of_ble_eq_true rfl) ⟨Nat.le_trans (Nat.le_of_ble_eq_true rfl) hR.1, Nat.le_trans (Nat.le_of_ble_eq_true rfl) hR.2⟩ ⟨Nat.zero_le _, Nat.zero_le _⟩ dX3_tokenKind_113 (fun r4 F2 G3 H locs hw h => ?_)
    refine lv_bipush (v := (59 : Int32)) hx hb dX3_tokenKind_116 (by decide) ?_
    refine lv_icmp_ne (tgt := 125) hx hb dX3_tokenKind_118 (by decide) (fun c => ?_) (fun c => ?_)
    · have hw := hw.1 c
      refine lv_iconst (v := (0 : Int32)) hx hb dX3_tokenKind_125 (by decide) ?_
      exact hq _ F2 G3 _ _ _ _ dX3_tokenKind_126 h hw
    · have hw := hw.2 c
      refine lv_iconst (v := (3 : Int32)) hx hb dX3_tokenKind_121 (by decide) ?_
      refine lv_goto (tgt := 126) hx hb dX3_tokenKind_122 (by decide) ?_
      exact hq _ F2 G3 _ _ _ _ dX3_tokenKind_126 h hw
set_option maxHeartbeats 4000000 in
set_option maxRecDepth 100000 in
theorem wk_X3_tokenKind_74 {p : Program} {l : Launch} {e : Env} {R : Room} {s : State} {m : MethodId} {args : Array Value} {below : List Frame} {meth : Method} {c : Code} {K : KT} {A : Nat → Prop} {Z : State → Prop} {a : Nat → Nat} (hR : 1 ≤ R.frames ∧ 21 ≤ R.locals) (C : CX p s m args meth c K A cX3_tokenKind 4 RX3) {Q : Int32 → FT → GT → Prop} (hq : RetXi p l e R s m args below meth c K A Z a cX3_tokenKind Q) {kb : Int32 → Int32 → FT → GT → Prop} (hk : ∀ (x2 : Int32) (x3 : Int32) (F : FT) (G : GT) (H : Heap) (locs : List Loc) (ls : Array Slot), WD K A s (wX K a F G) H locs → lv_has ls 4 [(0, .ref (a 2)), (1, .ref (a 1)), (2, .int x2), (3, .int x3)] → kb x2 x3 F G → W p l e R s m args below meth c H locs 0 0 Z (F0 m 12 ls [])) (x2 : Int32) (x3 : Int32) (F : FT) (G : GT) {H : Heap} {locs : List Loc} (h : WD K A s (wX K a F G) H locs) {ls : Array Slot} (hl : lv_has ls 4 [(0, .ref (a 2)), (1, .ref (a 1)), (2, .int x2), (3, .int x3)]) (hw : wp_X3_tokenKind_74 Q kb x2 x3 F G) : W p l e R s m args below meth c H locs 0 0 Z (F0 m 74 ls []) := by
  unfold wp_X3_tokenKind_74 at hw
  have hx := C.1
  have hb := C.2.1
  refine lv_aload_n hx hb dX3_tokenKind_74 rfl (lv_at hl 0 rfl) ?_
  refine lv_dup hx hb dX3_tokenKind_75 rfl ?_
  refine gX_3_38 C h dX3_tokenKind_76 ?_
  refine lv_iconst (v := (1 : Int32)) hx hb dX3_tokenKind_79 (by decide) ?_
  refine lv_iadd hx hb dX3_tokenKind_80 ?_
  refine pX_3_38 C h dX3_tokenKind_81 (fun F1 H locs eF1 h => ?_)
  have hw := hw F1 eF1
  refine lv_goto (tgt := 12) hx hb dX3_tokenKind_84 (by decide) ?_
  exact hk x2 x3 F1 G _ _ _ h (lv_sub hl [0, 1, 2, 3] rfl) hw
set_option maxHeartbeats 4000000 in
set_option maxRecDepth 100000 in
theorem wk_X3_tokenKind_51 {p : Program} {l : Launch} {e : Env} {R : Room} {s : State} {m : MethodId} {args : Array Value} {below : List Frame} {meth : Method} {c : Code} {K : KT} {A : Nat → Prop} {Z : State → Prop} {a : Nat → Nat} (hR : 1 ≤ R.frames ∧ 21 ≤ R.locals) (C : CX p s m args meth c K A cX3_tokenKind 4 RX3) {Q : Int32 → FT → GT → Prop} (hq : RetXi p l e R s m args below meth c K A Z a cX3_tokenKind Q) {kb : Int32 → Int32 → FT → GT → Prop} (hk : ∀ (x2 : Int32) (x3 : Int32) (F : FT) (G : GT) (H : Heap) (locs : List Loc) (ls : Array Slot), WD K A s (wX K a F G) H locs → lv_has ls 4 [(0, .ref (a 2)), (1, .ref (a 1)), (2, .int x2), (3, .int x3)] → kb x2 x3 F G → W p l e R s m args below meth c H locs 0 0 Z (F0 m 12 ls [])) (x2 : Int32) (x3 : Int32) (F : FT) (G : GT) {H : Heap} {locs : List Loc} (h : WD K A s (wX K a F G) H locs) {ls : Array Slot} (hl : lv_has ls 4 [(0, .ref (a 2)), (1, .ref (a 1)), (2, .int x2), (3, .int x3)]) (hw : wp_X3_tokenKind_51 Q kb x2 x3 F G) : W p l e R s m args below meth c H locs 0 0 Z (F0 m 51 ls []) := by
  unfold wp_X3_tokenKind_51 at hw
  have hx := C.1
  have hb := C.2.1
  refine lv_aload_n hx hb dX3_tokenKind_51 rfl (lv_at hl 1 rfl) ?_
  refine lv_aload_n hx hb dX3_tokenKind_52 rfl (lv_at hl 0 rfl) ?_
  refine gX_3_38 C h dX3_tokenKind_53 ?_
  refine kXiV C h (c_X6_at (F 16) F G hw) lk_3_67 (rvX_1 K a F G) rfl hl.1 rfl (Nat.le_of_ble_eq_true rfl) ⟨Nat.le_trans (Nat.le_of_ble_eq_true rfl) hR.1, Nat.le_trans (Nat.le_of_ble_eq_true rfl) hR.2⟩ ⟨Nat.zero_le _, Nat.zero_le _⟩ dX3_tokenKind_56 (fun r3 F1 G2 H locs hw h => ?_)
  refine kXiS C h (c_X3_isLetter r3 F1 G2 hw) lk_3_71 rfl hl.1 rfl (Nat.le_of_ble_eq_true rfl) ⟨Nat.le_trans (Nat.le_of_ble_eq_true rfl) hR.1, Nat.le_trans (Nat.le_of_ble_eq_true rfl) hR.2⟩ ⟨Nat.zero_le _, Nat.zero_le _⟩ dX3_tokenKind_59 (fun r6 F4 G5 H locs hw h => ?_)
  have hw := hw.2
  refine lv_if_eq (tgt := 71) hx hb dX3_tokenKind_62 (by decide) (fun c => ?_) (fun c => ?_)
  · have hw := hw.1 c
    obtain ⟨v7, ev7⟩ : ∃ z : Int32, z = (x3 + 1) := ⟨_, rfl⟩
    have hw := hw v7 ev7
    refine lv_iinc (v := v7) (lv' := [(3, .int v7), (0, .ref (a 2)), (1, .ref (a 1)), (2, .int x2)]) hx hb dX3_tokenKind_71 hl (k := 3) rfl (by rw [ev7]; rfl) (by decide) rfl (fun ls hl => ?_)
    exact wk_X3_tokenKind_74 hR C hq hk x2 v7 F4 G5 h (lv_sub hl [1, 2, 3, 0] rfl) hw
  · have hw := hw.2 c
    obtain ⟨v8, ev8⟩ : ∃ z : Int32, z = (x2 + 1) := ⟨_, rfl⟩
    have hw := hw v8 ev8
    refine lv_iinc (v := v8) (lv' := [(2, .int v8), (0, .ref (a 2)), (1, .ref (a 1)), (3, .int x3)]) hx hb dX3_tokenKind_65 hl (k := 2) rfl (by rw [ev8]; rfl) (by decide) rfl (fun ls hl => ?_)
    refine lv_goto (tgt := 74) hx hb dX3_tokenKind_68 (by decide) ?_
    exact wk_X3_tokenKind_74 hR C hq hk v8 x3 F4 G5 h (lv_sub hl [1, 2, 0, 3] rfl) hw
set_option maxHeartbeats 4000000 in
set_option maxRecDepth 100000 in
theorem wk_X3_tokenKind_12 {p : Program} {l : Launch} {e : Env} {R : Room} {s : State} {m : MethodId} {args : Array Value} {below : List Frame} {meth : Method} {c : Code} {K : KT} {A : Nat → Prop} {Z : State → Prop} {a : Nat → Nat} (hR : 1 ≤ R.frames ∧ 21 ≤ R.locals) (C : CX p s m args meth c K A cX3_tokenKind 4 RX3) {Q : Int32 → FT → GT → Prop} (hq : RetXi p l e R s m args below meth c K A Z a cX3_tokenKind Q) : ∀ (n : Nat) (x2 : Int32) (x3 : Int32) (F : FT) (G : GT) {H : Heap} {locs : List Loc} (h : WD K A s (wX K a F G) H locs) {ls : Array Slot} (hl : lv_has ls 4 [(0, .ref (a 2)), (1, .ref (a 1)), (2, .int x2), (3, .int x3)]) (hw : wp_X3_tokenKind_12 Q n x2 x3 F G), W p l e R s m args below meth c H locs 0 0 Z (F0 m 12 ls []) := by
  intro n
  induction n with
  | zero => intro x2 x3 F G H locs h ls hl hw; exact False.elim hw
  | succ n ih =>
    intro x2 x3 F G H locs h ls hl hw
    rw [wp_X3_tokenKind_12] at hw
    have hx := C.1
    have hb := C.2.1
    refine lv_aload_n hx hb dX3_tokenKind_12 rfl (lv_at hl 0 rfl) ?_
    refine gX_3_38 C h dX3_tokenKind_13 ?_
    refine lv_aload_n hx hb dX3_tokenKind_16 rfl (lv_at hl 1 rfl) ?_
    refine gX_3_44 C h dX3_tokenKind_17 ?_
    refine lv_icmp_ge (tgt := 87) hx hb dX3_tokenKind_20 (by decide) (fun c => ?_) (fun c => ?_)
    · have hw := hw.1 c
      exact wk_X3_tokenKind_87 hR C hq x2 x3 F G h (lv_sub hl [0, 1, 2, 3] rfl) hw
    · have hw := hw.2 c
      refine lv_aload_n hx hb dX3_tokenKind_23 rfl (lv_at hl 1 rfl) ?_
      refine lv_aload_n hx hb dX3_tokenKind_24 rfl (lv_at hl 0 rfl) ?_
      refine gX_3_38 C h dX3_tokenKind_25 ?_
      refine kXiV C h (c_X6_at (F 16) F G hw) lk_3_67 (rvX_1 K a F G) rfl hl.1 rfl (Nat.le_of_ble_eq_true rfl) ⟨Nat.le_trans (Nat.le_of_ble_eq_true rfl) hR.1, Nat.le_trans (Nat.le_of_ble_eq_true rfl) hR.2⟩ ⟨Nat.zero_le _, Nat.zero_le _⟩ dX3_tokenKind_28 (fun r3 F1 G2 H locs hw h => ?_)
      refine kXiS C h (c_X3_isLetter r3 F1 G2 hw) lk_3_71 rfl hl.1 rfl (Nat.le_of_ble_eq_true rfl) ⟨Nat.le_trans (Nat.le_of_ble_eq_true rfl) hR.1, Nat.le_trans (Nat.le_of_ble_eq_true rfl) hR.2⟩ ⟨Nat.zero_le _, Nat.zero_le _⟩ dX3_tokenKind_31 (fun r6 F4 G5 H locs hw h => ?_)
      have hw := hw.2
      refine lv_if_ne (tgt := 51) hx hb dX3_tokenKind_34 (by decide) (fun c => ?_) (fun c => ?_)
      · have hw := hw.1 c
        exact wk_X3_tokenKind_51 hR C hq (fun x2 x3 F G H locs ls h hl hw => ih x2 x3 F G h hl hw) x2 x3 F4 G5 h (lv_sub hl [0, 1, 2, 3] rfl) hw
      · have hw := hw.2 c
        refine lv_aload_n hx hb dX3_tokenKind_37 rfl (lv_at hl 1 rfl) ?_
        refine lv_aload_n hx hb dX3_tokenKind_38 rfl (lv_at hl 0 rfl) ?_
        refine gX_3_38 C h dX3_tokenKind_39 ?_
        refine kXiV C h (c_X6_at (F4 16) F4 G5 hw) lk_3_67 (rvX_1 K a F4 G5) rfl hl.1 rfl (Nat.le_of_ble_eq_true rfl) ⟨Nat.le_trans (Nat.le_of_ble_eq_true rfl) hR.1, Nat.le_trans (Nat.le_of_ble_eq_true rfl) hR.2⟩ ⟨Nat.zero_le _, Nat.zero_le _⟩ dX3_tokenKind_42 (fun r9 F7 G8 H locs hw h => ?_)
        refine kXiS C h (c_X3_isDigit r9 F7 G8 hw) lk_3_75 rfl hl.1 rfl (Nat.le_of_ble_eq_true rfl) ⟨Nat.le_trans (Nat.le_of_ble_eq_true rfl) hR.1, Nat.le_trans (Nat.le_of_ble_eq_true rfl) hR.2⟩ ⟨Nat.zero_le _, Nat.zero_le _⟩ dX3_tokenKind_45 (fun r12 F10 G11 H locs hw h => ?_)
        have hw := hw.2
        refine lv_if_eq (tgt := 87) hx hb dX3_tokenKind_48 (by decide) (fun c => ?_) (fun c => ?_)
        · have hw := hw.1 c
          exact wk_X3_tokenKind_87 hR C hq x2 x3 F10 G11 h (lv_sub hl [0, 1, 2, 3] rfl) hw
        · have hw := hw.2 c
          exact wk_X3_tokenKind_51 hR C hq (fun x2 x3 F G H locs ls h hl hw => ih x2 x3 F G h hl hw) x2 x3 F10 G11 h (lv_sub hl [0, 1, 2, 3] rfl) hw
set_option maxHeartbeats 4000000 in
set_option maxRecDepth 100000 in
theorem wk_X3_tokenKind_0 {p : Program} {l : Launch} {e : Env} {R : Room} {s : State} {m : MethodId} {args : Array Value} {below : List Frame} {meth : Method} {c : Code} {K : KT} {A : Nat → Prop} {Z : State → Prop} {a : Nat → Nat} (hR : 1 ≤ R.frames ∧ 21 ≤ R.locals) (C : CX p s m args meth c K A cX3_tokenKind 4 RX3) {Q : Int32 → FT → GT → Prop} (hq : RetXi p l e R s m args below meth c K A Z a cX3_tokenKind Q) (F : FT) (G : GT) {H : Heap} {locs : List Loc} (h : WD K A s (wX K a F G) H locs) {ls : Array Slot} (hl : lv_has ls 4 [(0, .ref (a 2)), (1, .ref (a 1))]) (hw : wp_X3_tokenKind_0 Q F G) : W p l e R s m args below meth c H locs 0 0 Z (F0 m 0 ls []) := by
  unfold wp_X3_tokenKind_0 at hw
  have hx := C.1
  have hb := C.2.1
  refine lv_iconst (v := (0 : Int32)) hx hb dX3_tokenKind_0 (by decide) ?_
  refine lv_istore_n (lv' := [(2, .int (0 : Int32)), (0, .ref (a 2)), (1, .ref (a 1))]) hx hb dX3_tokenKind_1 rfl hl (by decide) rfl (fun ls hl => ?_)
  refine lv_iconst (v := (0 : Int32)) hx hb dX3_tokenKind_2 (by decide) ?_
  refine lv_istore_n (lv' := [(3, .int (0 : Int32)), (2, .int (0 : Int32)), (0, .ref (a 2)), (1, .ref (a 1))]) hx hb dX3_tokenKind_3 rfl hl (by decide) rfl (fun ls hl => ?_)
  refine lv_aload_n hx hb dX3_tokenKind_4 rfl (lv_at hl 2 rfl) ?_
  refine lv_aload_n hx hb dX3_tokenKind_5 rfl (lv_at hl 2 rfl) ?_
  refine gX_3_35 C h dX3_tokenKind_6 ?_
  refine pX_3_38 C h dX3_tokenKind_9 (fun F1 H locs eF1 h => ?_)
  have hw := hw F1 eF1
  obtain ⟨n, hw⟩ := hw
  exact wk_X3_tokenKind_12 hR C hq n (0 : Int32) (0 : Int32) F1 G h (lv_sub hl [2, 3, 1, 0] rfl) hw
theorem c_X3_tokenKind {l : Launch} {K : KT} {a : Nat → Nat} (F : FT) (G : GT) {Q : Int32 → FT → GT → Prop} (hw : wp_X3_tokenKind F G Q) : CtXi l K a yX3_tokenKind cX3_tokenKind 4 (some .int) 1 21 [.ref (a 2), .ref (a 1)] F G Q := fun sz => x_met (Qm := QmXi K a Q) (by decide) (Nat.le_of_ble_eq_true rfl) (fun p e s m below meth c A ls C hr h hl => wk_X3_tokenKind_0 ⟨Nat.le_refl _, Nat.le_refl _⟩ C (retX_z C hr (fun r F G _ => rfl)) F G h hl hw)
def wp_X3_spells_v0_20 (Q : Int32 → FT → GT → Prop) : Nat → Int32 → FT → GT → Prop
  | 0, _, _, _ => False
  | n + 1, x3, F, G => (((4 : Int32) ≤ x3) → Q (1 : Int32) F G) ∧ ((¬ (4 : Int32) ≤ x3) → wp_X6_at ((F 15) + x3) F G (fun r3 F1 G2 => vp_in x3 4 ∧ ((r3 = (sC 0 x3.toNatClampNeg)) → ∀ v4 : Int32, v4 = (x3 + 1) → wp_X3_spells_v0_20 Q n v4 F1 G2) ∧ ((¬ r3 = (sC 0 x3.toNatClampNeg)) → Q (0 : Int32) F1 G2)))
def wp_X3_spells_v0_0 (Q : Int32 → FT → GT → Prop) (F : FT) (G : GT) : Prop := ((((F 16) - (F 15)) = (4 : Int32)) → ∃ n : Nat, wp_X3_spells_v0_20 Q n (0 : Int32) F G) ∧ ((¬ ((F 16) - (F 15)) = (4 : Int32)) → Q (0 : Int32) F G)
def wp_X3_spells_v0 (F : FT) (G : GT) (Q : Int32 → FT → GT → Prop) : Prop := wp_X3_spells_v0_0 (fun r F G => (r = 0 ∨ r = 1) ∧ Q r F G) F G
set_option maxHeartbeats 4000000 in
set_option maxRecDepth 100000 in
theorem wk_X3_spells_v0_20 {p : Program} {l : Launch} {e : Env} {R : Room} {s : State} {m : MethodId} {args : Array Value} {below : List Frame} {meth : Method} {c : Code} {K : KT} {A : Nat → Prop} {Z : State → Prop} {a : Nat → Nat} (hR : 4 ≤ R.frames ∧ 120 ≤ R.locals) (C : CX p s m args meth c K A cX3_spells 4 RX3) {Q : Int32 → FT → GT → Prop} (hq : RetXi p l e R s m args below meth c K A Z a cX3_spells Q) : ∀ (n : Nat) (x3 : Int32) (F : FT) (G : GT) {H : Heap} {locs : List Loc} (h : WD K A s (wX K a F G) H locs) {ls : Array Slot} (hl : lv_has ls 4 [(0, .ref (a 2)), (1, .ref (a 1)), (2, .ref (K.2.2.2.1 0)), (3, .int x3)]) (hw : wp_X3_spells_v0_20 Q n x3 F G), W p l e R s m args below meth c H locs 0 0 Z (F0 m 20 ls []) := by
  intro n
  induction n with
  | zero => intro x3 F G H locs h ls hl hw; exact False.elim hw
  | succ n ih =>
    intro x3 F G H locs h ls hl hw
    rw [wp_X3_spells_v0_20] at hw
    have hx := C.1
    have hb := C.2.1
    refine lv_iload_n hx hb dX3_spells_20 rfl (lv_at hl 3 rfl) ?_
    refine lv_aload_n hx hb dX3_spells_21 rfl (lv_at hl 2 rfl) ?_
    refine x_strlen_0 C h hl.1 (Nat.le_of_ble_eq_true rfl) ⟨Nat.le_trans (Nat.le_of_ble_eq_true rfl) hR.1, Nat.le_trans (Nat.le_of_ble_eq_true rfl) hR.2⟩ ⟨Nat.zero_le _, Nat.zero_le _⟩ dX3_spells_22 (fun H locs h => ?_)
    refine lv_icmp_ge (tgt := 54) hx hb dX3_spells_25 (by decide) (fun c => ?_) (fun c => ?_)
    · have hw := hw.1 c
      refine lv_iconst (v := (1 : Int32)) hx hb dX3_spells_54 (by decide) ?_
      exact hq _ F G _ _ _ _ dX3_spells_55 h hw
    · have hw := hw.2 c
      refine lv_aload_n hx hb dX3_spells_28 rfl (lv_at hl 1 rfl) ?_
      refine lv_aload_n hx hb dX3_spells_29 rfl (lv_at hl 0 rfl) ?_
      refine gX_3_35 C h dX3_spells_30 ?_
      refine lv_iload_n hx hb dX3_spells_33 rfl (lv_at hl 3 rfl) ?_
      refine lv_iadd hx hb dX3_spells_34 ?_
      refine kXiV C h (c_X6_at ((F 15) + x3) F G hw) lk_3_67 (rvX_1 K a F G) rfl hl.1 rfl (Nat.le_of_ble_eq_true rfl) ⟨Nat.le_trans (Nat.le_of_ble_eq_true rfl) hR.1, Nat.le_trans (Nat.le_of_ble_eq_true rfl) hR.2⟩ ⟨Nat.zero_le _, Nat.zero_le _⟩ dX3_spells_35 (fun r3 F1 G2 H locs hw h => ?_)
      refine lv_aload_n hx hb dX3_spells_38 rfl (lv_at hl 2 rfl) ?_
      refine lv_iload_n hx hb dX3_spells_39 rfl (lv_at hl 3 rfl) ?_
      have hi := hw.1
      have hw := hw.2
      refine x_charAt_0 C h hi hl.1 (Nat.le_of_ble_eq_true rfl) ⟨Nat.le_trans (Nat.le_of_ble_eq_true rfl) hR.1, Nat.le_trans (Nat.le_of_ble_eq_true rfl) hR.2⟩ ⟨Nat.zero_le _, Nat.zero_le _⟩ dX3_spells_40 (fun H locs h => ?_)
      refine lv_icmp_eq (tgt := 48) hx hb dX3_spells_43 (by decide) (fun c => ?_) (fun c => ?_)
      · have hw := hw.1 c
        obtain ⟨v4, ev4⟩ : ∃ z : Int32, z = (x3 + 1) := ⟨_, rfl⟩
        have hw := hw v4 ev4
        refine lv_iinc (v := v4) (lv' := [(3, .int v4), (0, .ref (a 2)), (1, .ref (a 1)), (2, .ref (K.2.2.2.1 0))]) hx hb dX3_spells_48 hl (k := 3) rfl (by rw [ev4]; rfl) (by decide) rfl (fun ls hl => ?_)
        refine lv_goto (tgt := 20) hx hb dX3_spells_51 (by decide) ?_
        exact ih v4 F1 G2 h (lv_sub hl [1, 2, 3, 0] rfl) hw
      · have hw := hw.2 c
        refine lv_iconst (v := (0 : Int32)) hx hb dX3_spells_46 (by decide) ?_
        exact hq _ F1 G2 _ _ _ _ dX3_spells_47 h hw
set_option maxHeartbeats 4000000 in
set_option maxRecDepth 100000 in
theorem wk_X3_spells_v0_0 {p : Program} {l : Launch} {e : Env} {R : Room} {s : State} {m : MethodId} {args : Array Value} {below : List Frame} {meth : Method} {c : Code} {K : KT} {A : Nat → Prop} {Z : State → Prop} {a : Nat → Nat} (hR : 4 ≤ R.frames ∧ 120 ≤ R.locals) (C : CX p s m args meth c K A cX3_spells 4 RX3) {Q : Int32 → FT → GT → Prop} (hq : RetXi p l e R s m args below meth c K A Z a cX3_spells Q) (F : FT) (G : GT) {H : Heap} {locs : List Loc} (h : WD K A s (wX K a F G) H locs) {ls : Array Slot} (hl : lv_has ls 4 [(0, .ref (a 2)), (1, .ref (a 1)), (2, .ref (K.2.2.2.1 0))]) (hw : wp_X3_spells_v0_0 Q F G) : W p l e R s m args below meth c H locs 0 0 Z (F0 m 0 ls []) := by
  unfold wp_X3_spells_v0_0 at hw
  have hx := C.1
  have hb := C.2.1
  refine lv_aload_n hx hb dX3_spells_0 rfl (lv_at hl 0 rfl) ?_
  refine gX_3_38 C h dX3_spells_1 ?_
  refine lv_aload_n hx hb dX3_spells_4 rfl (lv_at hl 0 rfl) ?_
  refine gX_3_35 C h dX3_spells_5 ?_
  refine lv_isub hx hb dX3_spells_8 ?_
  refine lv_aload_n hx hb dX3_spells_9 rfl (lv_at hl 2 rfl) ?_
  refine x_strlen_0 C h hl.1 (Nat.le_of_ble_eq_true rfl) ⟨Nat.le_trans (Nat.le_of_ble_eq_true rfl) hR.1, Nat.le_trans (Nat.le_of_ble_eq_true rfl) hR.2⟩ ⟨Nat.zero_le _, Nat.zero_le _⟩ dX3_spells_10 (fun H locs h => ?_)
  refine lv_icmp_eq (tgt := 18) hx hb dX3_spells_13 (by decide) (fun c => ?_) (fun c => ?_)
  · have hw := hw.1 c
    refine lv_iconst (v := (0 : Int32)) hx hb dX3_spells_18 (by decide) ?_
    refine lv_istore_n (lv' := [(3, .int (0 : Int32)), (0, .ref (a 2)), (1, .ref (a 1)), (2, .ref (K.2.2.2.1 0))]) hx hb dX3_spells_19 rfl hl (by decide) rfl (fun ls hl => ?_)
    obtain ⟨n, hw⟩ := hw
    exact wk_X3_spells_v0_20 hR C hq n (0 : Int32) F G h (lv_sub hl [1, 2, 3, 0] rfl) hw
  · have hw := hw.2 c
    refine lv_iconst (v := (0 : Int32)) hx hb dX3_spells_16 (by decide) ?_
    exact hq _ F G _ _ _ _ dX3_spells_17 h hw
theorem c_X3_spells_v0 {l : Launch} {K : KT} {a : Nat → Nat} (F : FT) (G : GT) {Q : Int32 → FT → GT → Prop} (hw : wp_X3_spells_v0 F G Q) : CtXi l K a yX3_spells cX3_spells 4 (some .boolean) 4 120 [.ref (a 2), .ref (a 1), .ref (K.2.2.2.1 0)] F G (fun r F G => (r = 0 ∨ r = 1) ∧ Q r F G) := fun sz => x_met (Qm := QmXi K a (fun r F G => (r = 0 ∨ r = 1) ∧ Q r F G)) (by decide) (Nat.le_of_ble_eq_true rfl) (fun p e s m below meth c A ls C hr h hl => wk_X3_spells_v0_0 ⟨Nat.le_refl _, Nat.le_refl _⟩ C (retX_z C hr (fun r F G hz => by rcases hz.1 with z | z <;> rw [z] <;> rfl)) F G h hl hw)
def wp_X3_spells_v1_20 (Q : Int32 → FT → GT → Prop) : Nat → Int32 → FT → GT → Prop
  | 0, _, _, _ => False
  | n + 1, x3, F, G => (((4 : Int32) ≤ x3) → Q (1 : Int32) F G) ∧ ((¬ (4 : Int32) ≤ x3) → wp_X6_at ((F 15) + x3) F G (fun r3 F1 G2 => vp_in x3 4 ∧ ((r3 = (sC 1 x3.toNatClampNeg)) → ∀ v4 : Int32, v4 = (x3 + 1) → wp_X3_spells_v1_20 Q n v4 F1 G2) ∧ ((¬ r3 = (sC 1 x3.toNatClampNeg)) → Q (0 : Int32) F1 G2)))
def wp_X3_spells_v1_0 (Q : Int32 → FT → GT → Prop) (F : FT) (G : GT) : Prop := ((((F 16) - (F 15)) = (4 : Int32)) → ∃ n : Nat, wp_X3_spells_v1_20 Q n (0 : Int32) F G) ∧ ((¬ ((F 16) - (F 15)) = (4 : Int32)) → Q (0 : Int32) F G)
def wp_X3_spells_v1 (F : FT) (G : GT) (Q : Int32 → FT → GT → Prop) : Prop := wp_X3_spells_v1_0 (fun r F G => (r = 0 ∨ r = 1) ∧ Q r F G) F G
set_option maxHeartbeats 4000000 in
set_option maxRecDepth 100000 in
theorem wk_X3_spells_v1_20 {p : Program} {l : Launch} {e : Env} {R : Room} {s : State} {m : MethodId} {args : Array Value} {below : List Frame} {meth : Method} {c : Code} {K : KT} {A : Nat → Prop} {Z : State → Prop} {a : Nat → Nat} (hR : 4 ≤ R.frames ∧ 120 ≤ R.locals) (C : CX p s m args meth c K A cX3_spells 4 RX3) {Q : Int32 → FT → GT → Prop} (hq : RetXi p l e R s m args below meth c K A Z a cX3_spells Q) : ∀ (n : Nat) (x3 : Int32) (F : FT) (G : GT) {H : Heap} {locs : List Loc} (h : WD K A s (wX K a F G) H locs) {ls : Array Slot} (hl : lv_has ls 4 [(0, .ref (a 2)), (1, .ref (a 1)), (2, .ref (K.2.2.2.1 1)), (3, .int x3)]) (hw : wp_X3_spells_v1_20 Q n x3 F G), W p l e R s m args below meth c H locs 0 0 Z (F0 m 20 ls []) := by
  intro n
  induction n with
  | zero => intro x3 F G H locs h ls hl hw; exact False.elim hw
  | succ n ih =>
    intro x3 F G H locs h ls hl hw
    rw [wp_X3_spells_v1_20] at hw
    have hx := C.1
    have hb := C.2.1
    refine lv_iload_n hx hb dX3_spells_20 rfl (lv_at hl 3 rfl) ?_
    refine lv_aload_n hx hb dX3_spells_21 rfl (lv_at hl 2 rfl) ?_
    refine x_strlen_1 C h hl.1 (Nat.le_of_ble_eq_true rfl) ⟨Nat.le_trans (Nat.le_of_ble_eq_true rfl) hR.1, Nat.le_trans (Nat.le_of_ble_eq_true rfl) hR.2⟩ ⟨Nat.zero_le _, Nat.zero_le _⟩ dX3_spells_22 (fun H locs h => ?_)
    refine lv_icmp_ge (tgt := 54) hx hb dX3_spells_25 (by decide) (fun c => ?_) (fun c => ?_)
    · have hw := hw.1 c
      refine lv_iconst (v := (1 : Int32)) hx hb dX3_spells_54 (by decide) ?_
      exact hq _ F G _ _ _ _ dX3_spells_55 h hw
    · have hw := hw.2 c
      refine lv_aload_n hx hb dX3_spells_28 rfl (lv_at hl 1 rfl) ?_
      refine lv_aload_n hx hb dX3_spells_29 rfl (lv_at hl 0 rfl) ?_
      refine gX_3_35 C h dX3_spells_30 ?_
      refine lv_iload_n hx hb dX3_spells_33 rfl (lv_at hl 3 rfl) ?_
      refine lv_iadd hx hb dX3_spells_34 ?_
      refine kXiV C h (c_X6_at ((F 15) + x3) F G hw) lk_3_67 (rvX_1 K a F G) rfl hl.1 rfl (Nat.le_of_ble_eq_true rfl) ⟨Nat.le_trans (Nat.le_of_ble_eq_true rfl) hR.1, Nat.le_trans (Nat.le_of_ble_eq_true rfl) hR.2⟩ ⟨Nat.zero_le _, Nat.zero_le _⟩ dX3_spells_35 (fun r3 F1 G2 H locs hw h => ?_)
      refine lv_aload_n hx hb dX3_spells_38 rfl (lv_at hl 2 rfl) ?_
      refine lv_iload_n hx hb dX3_spells_39 rfl (lv_at hl 3 rfl) ?_
      have hi := hw.1
      have hw := hw.2
      refine x_charAt_1 C h hi hl.1 (Nat.le_of_ble_eq_true rfl) ⟨Nat.le_trans (Nat.le_of_ble_eq_true rfl) hR.1, Nat.le_trans (Nat.le_of_ble_eq_true rfl) hR.2⟩ ⟨Nat.zero_le _, Nat.zero_le _⟩ dX3_spells_40 (fun H locs h => ?_)
      refine lv_icmp_eq (tgt := 48) hx hb dX3_spells_43 (by decide) (fun c => ?_) (fun c => ?_)
      · have hw := hw.1 c
        obtain ⟨v4, ev4⟩ : ∃ z : Int32, z = (x3 + 1) := ⟨_, rfl⟩
        have hw := hw v4 ev4
        refine lv_iinc (v := v4) (lv' := [(3, .int v4), (0, .ref (a 2)), (1, .ref (a 1)), (2, .ref (K.2.2.2.1 1))]) hx hb dX3_spells_48 hl (k := 3) rfl (by rw [ev4]; rfl) (by decide) rfl (fun ls hl => ?_)
        refine lv_goto (tgt := 20) hx hb dX3_spells_51 (by decide) ?_
        exact ih v4 F1 G2 h (lv_sub hl [1, 2, 3, 0] rfl) hw
      · have hw := hw.2 c
        refine lv_iconst (v := (0 : Int32)) hx hb dX3_spells_46 (by decide) ?_
        exact hq _ F1 G2 _ _ _ _ dX3_spells_47 h hw
set_option maxHeartbeats 4000000 in
set_option maxRecDepth 100000 in
theorem wk_X3_spells_v1_0 {p : Program} {l : Launch} {e : Env} {R : Room} {s : State} {m : MethodId} {args : Array Value} {below : List Frame} {meth : Method} {c : Code} {K : KT} {A : Nat → Prop} {Z : State → Prop} {a : Nat → Nat} (hR : 4 ≤ R.frames ∧ 120 ≤ R.locals) (C : CX p s m args meth c K A cX3_spells 4 RX3) {Q : Int32 → FT → GT → Prop} (hq : RetXi p l e R s m args below meth c K A Z a cX3_spells Q) (F : FT) (G : GT) {H : Heap} {locs : List Loc} (h : WD K A s (wX K a F G) H locs) {ls : Array Slot} (hl : lv_has ls 4 [(0, .ref (a 2)), (1, .ref (a 1)), (2, .ref (K.2.2.2.1 1))]) (hw : wp_X3_spells_v1_0 Q F G) : W p l e R s m args below meth c H locs 0 0 Z (F0 m 0 ls []) := by
  unfold wp_X3_spells_v1_0 at hw
  have hx := C.1
  have hb := C.2.1
  refine lv_aload_n hx hb dX3_spells_0 rfl (lv_at hl 0 rfl) ?_
  refine gX_3_38 C h dX3_spells_1 ?_
  refine lv_aload_n hx hb dX3_spells_4 rfl (lv_at hl 0 rfl) ?_
  refine gX_3_35 C h dX3_spells_5 ?_
  refine lv_isub hx hb dX3_spells_8 ?_
  refine lv_aload_n hx hb dX3_spells_9 rfl (lv_at hl 2 rfl) ?_
  refine x_strlen_1 C h hl.1 (Nat.le_of_ble_eq_true rfl) ⟨Nat.le_trans (Nat.le_of_ble_eq_true rfl) hR.1, Nat.le_trans (Nat.le_of_ble_eq_true rfl) hR.2⟩ ⟨Nat.zero_le _, Nat.zero_le _⟩ dX3_spells_10 (fun H locs h => ?_)
  refine lv_icmp_eq (tgt := 18) hx hb dX3_spells_13 (by decide) (fun c => ?_) (fun c => ?_)
  · have hw := hw.1 c
    refine lv_iconst (v := (0 : Int32)) hx hb dX3_spells_18 (by decide) ?_
    refine lv_istore_n (lv' := [(3, .int (0 : Int32)), (0, .ref (a 2)), (1, .ref (a 1)), (2, .ref (K.2.2.2.1 1))]) hx hb dX3_spells_19 rfl hl (by decide) rfl (fun ls hl => ?_)
    obtain ⟨n, hw⟩ := hw
    exact wk_X3_spells_v1_20 hR C hq n (0 : Int32) F G h (lv_sub hl [1, 2, 3, 0] rfl) hw
  · have hw := hw.2 c
    refine lv_iconst (v := (0 : Int32)) hx hb dX3_spells_16 (by decide) ?_
    exact hq _ F G _ _ _ _ dX3_spells_17 h hw
theorem c_X3_spells_v1 {l : Launch} {K : KT} {a : Nat → Nat} (F : FT) (G : GT) {Q : Int32 → FT → GT → Prop} (hw : wp_X3_spells_v1 F G Q) : CtXi l K a yX3_spells cX3_spells 4 (some .boolean) 4 120 [.ref (a 2), .ref (a 1), .ref (K.2.2.2.1 1)] F G (fun r F G => (r = 0 ∨ r = 1) ∧ Q r F G) := fun sz => x_met (Qm := QmXi K a (fun r F G => (r = 0 ∨ r = 1) ∧ Q r F G)) (by decide) (Nat.le_of_ble_eq_true rfl) (fun p e s m below meth c A ls C hr h hl => wk_X3_spells_v1_0 ⟨Nat.le_refl _, Nat.le_refl _⟩ C (retX_z C hr (fun r F G hz => by rcases hz.1 with z | z <;> rw [z] <;> rfl)) F G h hl hw)
