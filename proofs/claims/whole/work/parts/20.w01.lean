def wp_X3_spells_v2_20 (Q : Int32 → FT → GT → Prop) : Nat → Int32 → FT → GT → Prop
  | 0, _, _, _ => False
  | n + 1, x3, F, G => (((4 : Int32) ≤ x3) → Q (1 : Int32) F G) ∧ ((¬ (4 : Int32) ≤ x3) → wp_X6_at ((F 15) + x3) F G (fun r3 F1 G2 => vp_in x3 4 ∧ ((r3 = (sC 2 x3.toNatClampNeg)) → ∀ v4 : Int32, v4 = (x3 + 1) → wp_X3_spells_v2_20 Q n v4 F1 G2) ∧ ((¬ r3 = (sC 2 x3.toNatClampNeg)) → Q (0 : Int32) F1 G2)))
def wp_X3_spells_v2_0 (Q : Int32 → FT → GT → Prop) (F : FT) (G : GT) : Prop := ((((F 16) - (F 15)) = (4 : Int32)) → ∃ n : Nat, wp_X3_spells_v2_20 Q n (0 : Int32) F G) ∧ ((¬ ((F 16) - (F 15)) = (4 : Int32)) → Q (0 : Int32) F G)
def wp_X3_spells_v2 (F : FT) (G : GT) (Q : Int32 → FT → GT → Prop) : Prop := wp_X3_spells_v2_0 (fun r F G => (r = 0 ∨ r = 1) ∧ Q r F G) F G
set_option maxHeartbeats 4000000 in
set_option maxRecDepth 100000 in
theorem wk_X3_spells_v2_20 {p : Program} {l : Launch} {e : Env} {R : Room} {s : State} {m : MethodId} {args : Array Value} {below : List Frame} {meth : Method} {c : Code} {K : KT} {A : Nat → Prop} {Z : State → Prop} {a : Nat → Nat} (hR : 4 ≤ R.frames ∧ 120 ≤ R.locals) (C : CX p s m args meth c K A cX3_spells 4 RX3) {Q : Int32 → FT → GT → Prop} (hq : RetXi p l e R s m args below meth c K A Z a cX3_spells Q) : ∀ (n : Nat) (x3 : Int32) (F : FT) (G : GT) {H : Heap} {locs : List Loc} (h : WD K A s (wX K a F G) H locs) {ls : Array Slot} (hl : lv_has ls 4 [(0, .ref (a 2)), (1, .ref (a 1)), (2, .ref (K.2.2.2.1 2)), (3, .int x3)]) (hw : wp_X3_spells_v2_20 Q n x3 F G), W p l e R s m args below meth c H locs 0 0 Z (F0 m 20 ls []) := by
  intro n
  induction n with
  | zero => intro x3 F G H locs h ls hl hw; exact False.elim hw
  | succ n ih =>
    intro x3 F G H locs h ls hl hw
    rw [wp_X3_spells_v2_20] at hw
    have hx := C.1
    have hb := C.2.1
    refine lv_iload_n hx hb dX3_spells_20 rfl (lv_at hl 3 rfl) ?_
    refine lv_aload_n hx hb dX3_spells_21 rfl (lv_at hl 2 rfl) ?_
    refine x_strlen_2 C h hl.1 (Nat.le_of_ble_eq_true rfl) ⟨Nat.le_trans (Nat.le_of_ble_eq_true rfl) hR.1, Nat.le_trans (Nat.le_of_ble_eq_true rfl) hR.2⟩ ⟨Nat.zero_le _, Nat.zero_le _⟩ dX3_spells_22 (fun H locs h => ?_)
    refine lv_icmp_ge (tgt := 54) hx hb dX3_spells_25 (by decide) (fun c => ?_) (fun c => ?_)
    · have hw := hw.1 c
      refine lv_iconst (v := (1 : Int32)) hx hb dX3_spells_54 (by decide) ?_
      exact hq _ F G _ _ _ _ dX3_spells_55 h hw
    · have hw := hw.2 c
      refine lv_aload_n hx hb dX3_spells_28 rfl (lv_at hl 1 rfl) ?_
      refine lv_aload_n hx hb dX3_spells_29 rfl (lv_at hl 0 rfl) ?_
      refine gX_3_35 C h dX3_spells_30 ?_
      refine lv_iload_n hx hb dX3_spells_33 rfl (lv_at hl 3 rfl) ?_
      refine lv_iadd hx hb dX3_spells_34 ?_
      refine kXiV C h (c_X6_at ((F 15) + x3) F G hw) lk_3_67 (rvX_1 K a F G) rfl hl.1 rfl (Nat.le_of_ble_eq_true rfl) ⟨Nat.le_trans (Nat.le_of_ble_eq_true rfl) hR.1, Nat.le_trans (Nat.le_of_ble_eq_true rfl) hR.2⟩ ⟨Nat.zero_le _, Nat.zero_le _⟩ dX3_spells_35 (fun r3 F1 G2 H locs hw h => ?_)
      refine lv_aload_n hx hb dX3_spells_38 rfl (lv_at hl 2 rfl) ?_
      refine lv_iload_n hx hb dX3_spells_39 rfl (lv_at hl 3 rfl) ?_
      have hi := hw.1
      have hw := hw.2
      refine x_charAt_2 C h hi hl.1 (Nat.le_of_ble_eq_true rfl) ⟨Nat.le_trans (Nat.le_of_ble_eq_true rfl) hR.1, Nat.le_trans (Nat.le_of_ble_eq_true rfl) hR.2⟩ ⟨Nat.zero_le _, Nat.zero_le _⟩ dX3_spells_40 (fun H locs h => ?_)
      refine lv_icmp_eq (tgt := 48) hx hb dX3_spells_43 (by decide) (fun c => ?_) (fun c => ?_)
      · have hw := hw.1 c
        obtain ⟨v4, ev4⟩ : ∃ z : Int32, z = (x3 + 1) := ⟨_, rfl⟩
        have hw := hw v4 ev4
        refine lv_iinc (v := v4) (lv' := [(3, .int v4), (0, .ref (a 2)), (1, .ref (a 1)), (2, .ref (K.2.2.2.1 2))]) hx hb dX3_spells_48 hl (k := 3) rfl (by rw [ev4]; rfl) (by decide) rfl (fun ls hl => ?_)
        refine lv_goto (tgt := 20) hx hb dX3_spells_51 (by decide) ?_
        exact ih v4 F1 G2 h (lv_sub hl [1, 2, 3, 0] rfl) hw
      · have hw := hw.2 c
        refine lv_iconst (v := (0 : Int32)) hx hb dX3_spells_46 (by decide) ?_
        exact hq _ F1 G2 _ _ _ _ dX3_spells_47 h hw
set_option maxHeartbeats 4000000 in
set_option maxRecDepth 100000 in
theorem wk_X3_spells_v2_0 {p : Program} {l : Launch} {e : Env} {R : Room} {s : State} {m : MethodId} {args : Array Value} {below : List Frame} {meth : Method} {c : Code} {K : KT} {A : Nat → Prop} {Z : State → Prop} {a : Nat → Nat} (hR : 4 ≤ R.frames ∧ 120 ≤ R.locals) (C : CX p s m args meth c K A cX3_spells 4 RX3) {Q : Int32 → FT → GT → Prop} (hq : RetXi p l e R s m args below meth c K A Z a cX3_spells Q) (F : FT) (G : GT) {H : Heap} {locs : List Loc} (h : WD K A s (wX K a F G) H locs) {ls : Array Slot} (hl : lv_has ls 4 [(0, .ref (a 2)), (1, .ref (a 1)), (2, .ref (K.2.2.2.1 2))]) (hw : wp_X3_spells_v2_0 Q F G) : W p l e R s m args below meth c H locs 0 0 Z (F0 m 0 ls []) := by
  unfold wp_X3_spells_v2_0 at hw
  have hx := C.1
  have hb := C.2.1
  refine lv_aload_n hx hb dX3_spells_0 rfl (lv_at hl 0 rfl) ?_
  refine gX_3_38 C h dX3_spells_1 ?_
  refine lv_aload_n hx hb dX3_spells_4 rfl (lv_at hl 0 rfl) ?_
  refine gX_3_35 C h dX3_spells_5 ?_
  refine lv_isub hx hb dX3_spells_8 ?_
  refine lv_aload_n hx hb dX3_spells_9 rfl (lv_at hl 2 rfl) ?_
  refine x_strlen_2 C h hl.1 (Nat.le_of_ble_eq_true rfl) ⟨Nat.le_trans (Nat.le_of_ble_eq_true rfl) hR.1, Nat.le_trans (Nat.le_of_ble_eq_true rfl) hR.2⟩ ⟨Nat.zero_le _, Nat.zero_le _⟩ dX3_spells_10 (fun H locs h => ?_)
  refine lv_icmp_eq (tgt := 18) hx hb dX3_spells_13 (by decide) (fun c => ?_) (fun c => ?_)
  · have hw := hw.1 c
    refine lv_iconst (v := (0 : Int32)) hx hb dX3_spells_18 (by decide) ?_
    refine lv_istore_n (lv' := [(3, .int (0 : Int32)), (0, .ref (a 2)), (1, .ref (a 1)), (2, .ref (K.2.2.2.1 2))]) hx hb dX3_spells_19 rfl hl (by decide) rfl (fun ls hl => ?_)
    obtain ⟨n, hw⟩ := hw
    exact wk_X3_spells_v2_20 hR C hq n (0 : Int32) F G h (lv_sub hl [1, 2, 3, 0] rfl) hw
  · have hw := hw.2 c
    refine lv_iconst (v := (0 : Int32)) hx hb dX3_spells_16 (by decide) ?_
    exact hq _ F G _ _ _ _ dX3_spells_17 h hw
theorem c_X3_spells_v2 {l : Launch} {K : KT} {a : Nat → Nat} (F : FT) (G : GT) {Q : Int32 → FT → GT → Prop} (hw : wp_X3_spells_v2 F G Q) : CtXi l K a yX3_spells cX3_spells 4 (some .boolean) 4 120 [.ref (a 2), .ref (a 1), .ref (K.2.2.2.1 2)] F G (fun r F G => (r = 0 ∨ r = 1) ∧ Q r F G) := fun sz => x_met (Qm := QmXi K a (fun r F G => (r = 0 ∨ r = 1) ∧ Q r F G)) (by decide) (Nat.le_of_ble_eq_true rfl) (fun p e s m below meth c A ls C hr h hl => wk_X3_spells_v2_0 ⟨Nat.le_refl _, Nat.le_refl _⟩ C (retX_z C hr (fun r F G hz => by rcases hz.1 with z | z <;> rw [z] <;> rfl)) F G h hl hw)
def wp_X3_spells_v3_20 (Q : Int32 → FT → GT → Prop) : Nat → Int32 → FT → GT → Prop
  | 0, _, _, _ => False
  | n + 1, x3, F, G => (((7 : Int32) ≤ x3) → Q (1 : Int32) F G) ∧ ((¬ (7 : Int32) ≤ x3) → wp_X6_at ((F 15) + x3) F G (fun r3 F1 G2 => vp_in x3 7 ∧ ((r3 = (sC 3 x3.toNatClampNeg)) → ∀ v4 : Int32, v4 = (x3 + 1) → wp_X3_spells_v3_20 Q n v4 F1 G2) ∧ ((¬ r3 = (sC 3 x3.toNatClampNeg)) → Q (0 : Int32) F1 G2)))
def wp_X3_spells_v3_0 (Q : Int32 → FT → GT → Prop) (F : FT) (G : GT) : Prop := ((((F 16) - (F 15)) = (7 : Int32)) → ∃ n : Nat, wp_X3_spells_v3_20 Q n (0 : Int32) F G) ∧ ((¬ ((F 16) - (F 15)) = (7 : Int32)) → Q (0 : Int32) F G)
def wp_X3_spells_v3 (F : FT) (G : GT) (Q : Int32 → FT → GT → Prop) : Prop := wp_X3_spells_v3_0 (fun r F G => (r = 0 ∨ r = 1) ∧ Q r F G) F G
set_option maxHeartbeats 4000000 in
set_option maxRecDepth 100000 in
theorem wk_X3_spells_v3_20 {p : Program} {l : Launch} {e : Env} {R : Room} {s : State} {m : MethodId} {args : Array Value} {below : List Frame} {meth : Method} {c : Code} {K : KT} {A : Nat → Prop} {Z : State → Prop} {a : Nat → Nat} (hR : 4 ≤ R.frames ∧ 120 ≤ R.locals) (C : CX p s m args meth c K A cX3_spells 4 RX3) {Q : Int32 → FT → GT → Prop} (hq : RetXi p l e R s m args below meth c K A Z a cX3_spells Q) : ∀ (n : Nat) (x3 : Int32) (F : FT) (G : GT) {H : Heap} {locs : List Loc} (h : WD K A s (wX K a F G) H locs) {ls : Array Slot} (hl : lv_has ls 4 [(0, .ref (a 2)), (1, .ref (a 1)), (2, .ref (K.2.2.2.1 3)), (3, .int x3)]) (hw : wp_X3_spells_v3_20 Q n x3 F G), W p l e R s m args below meth c H locs 0 0 Z (F0 m 20 ls []) := by
  intro n
  induction n with
  | zero => intro x3 F G H locs h ls hl hw; exact False.elim hw
  | succ n ih =>
    intro x3 F G H locs h ls hl hw
    rw [wp_X3_spells_v3_20] at hw
    have hx := C.1
    have hb := C.2.1
    refine lv_iload_n hx hb dX3_spells_20 rfl (lv_at hl 3 rfl) ?_
    refine lv_aload_n hx hb dX3_spells_21 rfl (lv_at hl 2 rfl) ?_
    refine x_strlen_3 C h hl.1 (Nat.le_of_ble_eq_true rfl) ⟨Nat.le_trans (Nat.le_of_ble_eq_true rfl) hR.1, Nat.le_trans (Nat.le_of_ble_eq_true rfl) hR.2⟩ ⟨Nat.zero_le _, Nat.zero_le _⟩ dX3_spells_22 (fun H locs h => ?_)
    refine lv_icmp_ge (tgt := 54) hx hb dX3_spells_25 (by decide) (fun c => ?_) (fun c => ?_)
    · have hw := hw.1 c
      refine lv_iconst (v := (1 : Int32)) hx hb dX3_spells_54 (by decide) ?_
      exact hq _ F G _ _ _ _ dX3_spells_55 h hw
    · have hw := hw.2 c
      refine lv_aload_n hx hb dX3_spells_28 rfl (lv_at hl 1 rfl) ?_
      refine lv_aload_n hx hb dX3_spells_29 rfl (lv_at hl 0 rfl) ?_
      refine gX_3_35 C h dX3_spells_30 ?_
      refine lv_iload_n hx hb dX3_spells_33 rfl (lv_at hl 3 rfl) ?_
      refine lv_iadd hx hb dX3_spells_34 ?_
      refine kXiV C h (c_X6_at ((F 15) + x3) F G hw) lk_3_67 (rvX_1 K a F G) rfl hl.1 rfl (Nat.le_of_ble_eq_true rfl) ⟨Nat.le_trans (Nat.le_of_ble_eq_true rfl) hR.1, Nat.le_trans (Nat.le_of_ble_eq_true rfl) hR.2⟩ ⟨Nat.zero_le _, Nat.zero_le _⟩ dX3_spells_35 (fun r3 F1 G2 H locs hw h => ?_)
      refine lv_aload_n hx hb dX3_spells_38 rfl (lv_at hl 2 rfl) ?_
      refine lv_iload_n hx hb dX3_spells_39 rfl (lv_at hl 3 rfl) ?_
      have hi := hw.1
      have hw := hw.2
      refine x_charAt_3 C h hi hl.1 (Nat.le_of_ble_eq_true rfl) ⟨Nat.le_trans (Nat.le_of_ble_eq_true rfl) hR.1, Nat.le_trans (Nat.le_of_ble_eq_true rfl) hR.2⟩ ⟨Nat.zero_le _, Nat.zero_le _⟩ dX3_spells_40 (fun H locs h => ?_)
      refine lv_icmp_eq (tgt := 48) hx hb dX3_spells_43 (by decide) (fun c => ?_) (fun c => ?_)
      · have hw := hw.1 c
        obtain ⟨v4, ev4⟩ : ∃ z : Int32, z = (x3 + 1) := ⟨_, rfl⟩
        have hw := hw v4 ev4
        refine lv_iinc (v := v4) (lv' := [(3, .int v4), (0, .ref (a 2)), (1, .ref (a 1)), (2, .ref (K.2.2.2.1 3))]) hx hb dX3_spells_48 hl (k := 3) rfl (by rw [ev4]; rfl) (by decide) rfl (fun ls hl => ?_)
        refine lv_goto (tgt := 20) hx hb dX3_spells_51 (by decide) ?_
        exact ih v4 F1 G2 h (lv_sub hl [1, 2, 3, 0] rfl) hw
      · have hw := hw.2 c
        refine lv_iconst (v := (0 : Int32)) hx hb dX3_spells_46 (by decide) ?_
        exact hq _ F1 G2 _ _ _ _ dX3_spells_47 h hw
set_option maxHeartbeats 4000000 in
set_option maxRecDepth 100000 in
theorem wk_X3_spells_v3_0 {p : Program} {l : Launch} {e : Env} {R : Room} {s : State} {m : MethodId} {args : Array Value} {below : List Frame} {meth : Method} {c : Code} {K : KT} {A : Nat → Prop} {Z : State → Prop} {a : Nat → Nat} (hR : 4 ≤ R.frames ∧ 120 ≤ R.locals) (C : CX p s m args meth c K A cX3_spells 4 RX3) {Q : Int32 → FT → GT → Prop} (hq : RetXi p l e R s m args below meth c K A Z a cX3_spells Q) (F : FT) (G : GT) {H : Heap} {locs : List Loc} (h : WD K A s (wX K a F G) H locs) {ls : Array Slot} (hl : lv_has ls 4 [(0, .ref (a 2)), (1, .ref (a 1)), (2, .ref (K.2.2.2.1 3))]) (hw : wp_X3_spells_v3_0 Q F G) : W p l e R s m args below meth c H locs 0 0 Z (F0 m 0 ls []) := by
  unfold wp_X3_spells_v3_0 at hw
  have hx := C.1
  have hb := C.2.1
  refine lv_aload_n hx hb dX3_spells_0 rfl (lv_at hl 0 rfl) ?_
  refine gX_3_38 C h dX3_spells_1 ?_
  refine lv_aload_n hx hb dX3_spells_4 rfl (lv_at hl 0 rfl) ?_
  refine gX_3_35 C h dX3_spells_5 ?_
  refine lv_isub hx hb dX3_spells_8 ?_
  refine lv_aload_n hx hb dX3_spells_9 rfl (lv_at hl 2 rfl) ?_
  refine x_strlen_3 C h hl.1 (Nat.le_of_ble_eq_true rfl) ⟨Nat.le_trans (Nat.le_of_ble_eq_true rfl) hR.1, Nat.le_trans (Nat.le_of_ble_eq_true rfl) hR.2⟩ ⟨Nat.zero_le _, Nat.zero_le _⟩ dX3_spells_10 (fun H locs h => ?_)
  refine lv_icmp_eq (tgt := 18) hx hb dX3_spells_13 (by decide) (fun c => ?_) (fun c => ?_)
  · have hw := hw.1 c
    refine lv_iconst (v := (0 : Int32)) hx hb dX3_spells_18 (by decide) ?_
    refine lv_istore_n (lv' := [(3, .int (0 : Int32)), (0, .ref (a 2)), (1, .ref (a 1)), (2, .ref (K.2.2.2.1 3))]) hx hb dX3_spells_19 rfl hl (by decide) rfl (fun ls hl => ?_)
    obtain ⟨n, hw⟩ := hw
    exact wk_X3_spells_v3_20 hR C hq n (0 : Int32) F G h (lv_sub hl [1, 2, 3, 0] rfl) hw
  · have hw := hw.2 c
    refine lv_iconst (v := (0 : Int32)) hx hb dX3_spells_16 (by decide) ?_
    exact hq _ F G _ _ _ _ dX3_spells_17 h hw
theorem c_X3_spells_v3 {l : Launch} {K : KT} {a : Nat → Nat} (F : FT) (G : GT) {Q : Int32 → FT → GT → Prop} (hw : wp_X3_spells_v3 F G Q) : CtXi l K a yX3_spells cX3_spells 4 (some .boolean) 4 120 [.ref (a 2), .ref (a 1), .ref (K.2.2.2.1 3)] F G (fun r F G => (r = 0 ∨ r = 1) ∧ Q r F G) := fun sz => x_met (Qm := QmXi K a (fun r F G => (r = 0 ∨ r = 1) ∧ Q r F G)) (by decide) (Nat.le_of_ble_eq_true rfl) (fun p e s m below meth c A ls C hr h hl => wk_X3_spells_v3_0 ⟨Nat.le_refl _, Nat.le_refl _⟩ C (retX_z C hr (fun r F G hz => by rcases hz.1 with z | z <;> rw [z] <;> rfl)) F G h hl hw)
def wp_X3_slotOfWord_0 (Q : Int32 → FT → GT → Prop) (F : FT) (G : GT) : Prop := wp_X3_spells_v0 F G (fun r3 F1 G2 => ((r3 = 0) → wp_X3_spells_v1 F1 G2 (fun r6 F4 G5 => ((r6 = 0) → wp_X3_spells_v2 F4 G5 (fun r9 F7 G8 => ((r9 = 0) → wp_X3_spells_v3 F7 G8 (fun r12 F10 G11 => ((r12 = 0) → Q (-1 : Int32) F10 G11) ∧ ((¬ r12 = 0) → Q (8 : Int32) F10 G11))) ∧ ((¬ r9 = 0) → Q (2 : Int32) F7 G8))) ∧ ((¬ r6 = 0) → Q (1 : Int32) F4 G5))) ∧ ((¬ r3 = 0) → Q (0 : Int32) F1 G2))
def wp_X3_slotOfWord (F : FT) (G : GT) (Q : Int32 → FT → GT → Prop) : Prop := wp_X3_slotOfWord_0 Q F G
set_option maxHeartbeats 4000000 in
set_option maxRecDepth 100000 in
theorem wk_X3_slotOfWord_0 {p : Program} {l : Launch} {e : Env} {R : Room} {s : State} {m : MethodId} {args : Array Value} {below : List Frame} {meth : Method} {c : Code} {K : KT} {A : Nat → Prop} {Z : State → Prop} {a : Nat → Nat} (hR : 5 ≤ R.frames ∧ 143 ≤ R.locals) (C : CX p s m args meth c K A cX3_slotOfWord 2 RX3) {Q : Int32 → FT → GT → Prop} (hq : RetXi p l e R s m args below meth c K A Z a cX3_slotOfWord Q) (F : FT) (G : GT) {H : Heap} {locs : List Loc} (h : WD K A s (wX K a F G) H locs) {ls : Array Slot} (hl : lv_has ls 2 [(0, .ref (a 2)), (1, .ref (a 1))]) (hw : wp_X3_slotOfWord_0 Q F G) : W p l e R s m args below meth c H locs 0 0 Z (F0 m 0 ls []) := by
  unfold wp_X3_slotOfWord_0 at hw
  have hx := C.1
  have hb := C.2.1
  refine lv_aload_n hx hb dX3_slotOfWord_0 rfl (lv_at hl 0 rfl) ?_
  refine lv_aload_n hx hb dX3_slotOfWord_1 rfl (lv_at hl 1 rfl) ?_
  refine va_ldcS hx hb C.2.2.2.1 C.2.2.2.2.2.2.2.1.2.1.1 dX3_slotOfWord_2 ?_
  refine kXiV C h (c_X3_spells_v0 F G hw) lk_3_105 (rvX_2 K a F G) rfl hl.1 rfl (Nat.le_of_ble_eq_true rfl) ⟨Nat.le_trans (Nat.le_of_ble_eq_true rfl) hR.1, Nat.le_trans (Nat.le_of_ble_eq_true rfl) hR.2⟩ ⟨Nat.zero_le _, Nat.zero_le _⟩ dX3_slotOfWord_4 (fun r3 F1 G2 H locs hw h => ?_)
  have hw := hw.2
  refine lv_if_eq (tgt := 12) hx hb dX3_slotOfWord_7 (by decide) (fun c => ?_) (fun c => ?_)
  · have hw := hw.1 c
    refine lv_aload_n hx hb dX3_slotOfWord_12 rfl (lv_at hl 0 rfl) ?_
    refine lv_aload_n hx hb dX3_slotOfWord_13 rfl (lv_at hl 1 rfl) ?_
    refine va_ldcS hx hb C.2.2.2.1 C.2.2.2.2.2.2.2.1.2.1.2.1 dX3_slotOfWord_14 ?_
    refine kXiV C h (c_X3_spells_v1 F1 G2 hw) lk_3_105 (rvX_2 K a F1 G2) rfl hl.1 rfl (Nat.le_of_ble_eq_true rfl) ⟨Nat.le_trans (Nat.le_of_ble_eq_true rfl) hR.1, Nat.le_trans (Nat.le_of_ble_eq_true rfl) hR.2⟩ ⟨Nat.zero_le _, Nat.zero_le _⟩ dX3_slotOfWord_16 (fun r6 F4 G5 H locs hw h => ?_)
    have hw := hw.2
    refine lv_if_eq (tgt := 24) hx hb dX3_slotOfWord_19 (by decide) (fun c => ?_) (fun c => ?_)
    · have hw := hw.1 c
      refine lv_aload_n hx hb dX3_slotOfWord_24 rfl (lv_at hl 0 rfl) ?_
      refine lv_aload_n hx hb dX3_slotOfWord_25 rfl (lv_at hl 1 rfl) ?_
      refine va_ldcS hx hb C.2.2.2.1 C.2.2.2.2.2.2.2.1.2.1.2.2.1 dX3_slotOfWord_26 ?_
      refine kXiV C h (c_X3_spells_v2 F4 G5 hw) lk_3_105 (rvX_2 K a F4 G5) rfl hl.1 rfl (Nat.le_of_ble_eq_true rfl) ⟨Nat.le_trans (Nat.le_of_ble_eq_true rfl) hR.1, Nat.le_trans (Nat.le_of_ble_eq_true rfl) hR.2⟩ ⟨Nat.zero_le _, Nat.zero_le _⟩ dX3_slotOfWord_28 (fun r9 F7 G8 H locs hw h => ?_)
      have hw := hw.2
      refine lv_if_eq (tgt := 36) hx hb dX3_slotOfWord_31 (by decide) (fun c => ?_) (fun c => ?_)
      · have hw := hw.1 c
        refine lv_aload_n hx hb dX3_slotOfWord_36 rfl (lv_at hl 0 rfl) ?_
        refine lv_aload_n hx hb dX3_slotOfWord_37 rfl (lv_at hl 1 rfl) ?_
        refine va_ldcS hx hb C.2.2.2.1 C.2.2.2.2.2.2.2.1.2.1.2.2.2 dX3_slotOfWord_38 ?_
        refine kXiV C h (c_X3_spells_v3 F7 G8 hw) lk_3_105 (rvX_2 K a F7 G8) rfl hl.1 rfl (Nat.le_of_ble_eq_true rfl) ⟨Nat.le_trans (Nat.le_of_ble_eq_true rfl) hR.1, Nat.le_trans (Nat.le_of_ble_eq_true rfl) hR.2⟩ ⟨Nat.zero_le _, Nat.zero_le _⟩ dX3_slotOfWord_40 (fun r12 F10 G11 H locs hw h => ?_)
        have hw := hw.2
        refine lv_if_eq (tgt := 51) hx hb dX3_slotOfWord_43 (by decide) (fun c => ?_) (fun c => ?_)
        · have hw := hw.1 c
          refine lv_iconst (v := (-1 : Int32)) hx hb dX3_slotOfWord_51 (by decide) ?_
          exact hq _ F10 G11 _ _ _ _ dX3_slotOfWord_52 h hw
        · have hw := hw.2 c
          refine lv_bipush (v := (8 : Int32)) hx hb dX3_slotOfWord_46 (by decide) ?_
          refine lv_goto (tgt := 52) hx hb dX3_slotOfWord_48 (by decide) ?_
          exact hq _ F10 G11 _ _ _ _ dX3_slotOfWord_52 h hw
      · have hw := hw.2 c
        refine lv_iconst (v := (2 : Int32)) hx hb dX3_slotOfWord_34 (by decide) ?_
        exact hq _ F7 G8 _ _ _ _ dX3_slotOfWord_35 h hw
    · have hw := hw.2 c
      refine lv_iconst (v := (1 : Int32)) hx hb dX3_slotOfWord_22 (by decide) ?_
      exact hq _ F4 G5 _ _ _ _ dX3_slotOfWord_23 h hw
  · have hw := hw.2 c
    refine lv_iconst (v := (0 : Int32)) hx hb dX3_slotOfWord_10 (by decide) ?_
    exact hq _ F1 G2 _ _ _ _ dX3_slotOfWord_11 h hw
theorem c_X3_slotOfWord {l : Launch} {K : KT} {a : Nat → Nat} (F : FT) (G : GT) {Q : Int32 → FT → GT → Prop} (hw : wp_X3_slotOfWord F G Q) : CtXi l K a yX3_slotOfWord cX3_slotOfWord 2 (some .int) 5 143 [.ref (a 2), .ref (a 1)] F G Q := fun sz => x_met (Qm := QmXi K a Q) (by decide) (Nat.le_of_ble_eq_true rfl) (fun p e s m below meth c A ls C hr h hl => wk_X3_slotOfWord_0 ⟨Nat.le_refl _, Nat.le_refl _⟩ C (retX_z C hr (fun r F G _ => rfl)) F G h hl hw)
def wp_X3_tellOnce_0 (Q : Int32 → FT → GT → Prop) (F : FT) (G : GT) : Prop := vp_in (F 14) 14 ∧ (((G 42 (F 14).toNatClampNeg) = 0) → vp_in (F 14) 14 ∧ ∀ G1 : GT, G1 = gU G 42 (upd (G 42) (F 14).toNatClampNeg (vp_nar .boolean (1 : Int32))) → ∀ F2 : FT, F2 = sU F 13 (2 : Int32) → Q (0 : Int32) F2 G1) ∧ ((¬ (G 42 (F 14).toNatClampNeg) = 0) → Q (3 : Int32) F G)
def wp_X3_tellOnce (F : FT) (G : GT) (Q : Int32 → FT → GT → Prop) : Prop := wp_X3_tellOnce_0 Q F G
set_option maxHeartbeats 4000000 in
set_option maxRecDepth 100000 in
theorem wk_X3_tellOnce_0 {p : Program} {l : Launch} {e : Env} {R : Room} {s : State} {m : MethodId} {args : Array Value} {below : List Frame} {meth : Method} {c : Code} {K : KT} {A : Nat → Prop} {Z : State → Prop} {a : Nat → Nat} (hR : 0 ≤ R.frames ∧ 0 ≤ R.locals) (C : CX p s m args meth c K A cX3_tellOnce 1 RX3) {Q : Int32 → FT → GT → Prop} (hq : RetXi p l e R s m args below meth c K A Z a cX3_tellOnce Q) (F : FT) (G : GT) {H : Heap} {locs : List Loc} (h : WD K A s (wX K a F G) H locs) {ls : Array Slot} (hl : lv_has ls 1 [(0, .ref (a 2))]) (hw : wp_X3_tellOnce_0 Q F G) : W p l e R s m args below meth c H locs 0 0 Z (F0 m 0 ls []) := by
  unfold wp_X3_tellOnce_0 at hw
  have hx := C.1
  have hb := C.2.1
  refine lv_aload_n hx hb dX3_tellOnce_0 rfl (lv_at hl 0 rfl) ?_
  refine gX_3_15 C h dX3_tellOnce_1 ?_
  refine lv_aload_n hx hb dX3_tellOnce_4 rfl (lv_at hl 0 rfl) ?_
  refine gX_3_32 C h dX3_tellOnce_5 ?_
  have hi := hw.1
  have hw := hw.2
  refine laX_42 C h hi dX3_tellOnce_8 ?_
  refine lv_if_eq (tgt := 14) hx hb dX3_tellOnce_9 (by decide) (fun c => ?_) (fun c => ?_)
  · have hw := hw.1 c
    refine lv_aload_n hx hb dX3_tellOnce_14 rfl (lv_at hl 0 rfl) ?_
    refine gX_3_15 C h dX3_tellOnce_15 ?_
    refine lv_aload_n hx hb dX3_tellOnce_18 rfl (lv_at hl 0 rfl) ?_
    refine gX_3_32 C h dX3_tellOnce_19 ?_
    refine lv_iconst (v := (1 : Int32)) hx hb dX3_tellOnce_22 (by decide) ?_
    have hi := hw.1
    have hw := hw.2
    refine saX_42 C h hi dX3_tellOnce_23 (fun G1 H locs eG1 h => ?_)
    have hw := hw G1 eG1
    refine lv_aload_n hx hb dX3_tellOnce_24 rfl (lv_at hl 0 rfl) ?_
    refine lv_iconst (v := (2 : Int32)) hx hb dX3_tellOnce_25 (by decide) ?_
    refine pX_3_29 C h dX3_tellOnce_26 (fun F2 H locs eF2 h => ?_)
    have hw := hw F2 eF2
    refine lv_iconst (v := (0 : Int32)) hx hb dX3_tellOnce_29 (by decide) ?_
    exact hq _ F2 G1 _ _ _ _ dX3_tellOnce_30 h hw
  · have hw := hw.2 c
    refine lv_iconst (v := (3 : Int32)) hx hb dX3_tellOnce_12 (by decide) ?_
    exact hq _ F G _ _ _ _ dX3_tellOnce_13 h hw
theorem c_X3_tellOnce {l : Launch} {K : KT} {a : Nat → Nat} (F : FT) (G : GT) {Q : Int32 → FT → GT → Prop} (hw : wp_X3_tellOnce F G Q) : CtXi l K a yX3_tellOnce cX3_tellOnce 1 (some .int) 0 0 [.ref (a 2)] F G Q := fun sz => x_met (Qm := QmXi K a Q) (by decide) (Nat.le_of_ble_eq_true rfl) (fun p e s m below meth c A ls C hr h hl => wk_X3_tellOnce_0 ⟨Nat.le_refl _, Nat.le_refl _⟩ C (retX_z C hr (fun r F G _ => rfl)) F G h hl hw)
def wp_X3_takeWord_0 (Q : Int32 → FT → GT → Prop) (x1 : Int32) (F : FT) (G : GT) : Prop := ((¬ x1 = (-1 : Int32)) → ∀ F1 : FT, F1 = sU F 14 x1 → ((x1 = (2 : Int32)) → ∀ F2 : FT, F2 = sU F1 13 (4 : Int32) → Q (0 : Int32) F2 G) ∧ ((¬ x1 = (2 : Int32)) → ((¬ x1 = (8 : Int32)) → wp_X3_tellOnce F1 G (fun r5 F3 G4 => Q r5 F3 G4)) ∧ ((x1 = (8 : Int32)) → ∀ F6 : FT, F6 = sU F1 13 (4 : Int32) → Q (0 : Int32) F6 G))) ∧ ((x1 = (-1 : Int32)) → Q (1 : Int32) F G)
def wp_X3_takeWord (x1 : Int32) (F : FT) (G : GT) (Q : Int32 → FT → GT → Prop) : Prop := wp_X3_takeWord_0 Q x1 F G
set_option maxHeartbeats 4000000 in
set_option maxRecDepth 100000 in
theorem wk_X3_takeWord_0 {p : Program} {l : Launch} {e : Env} {R : Room} {s : State} {m : MethodId} {args : Array Value} {below : List Frame} {meth : Method} {c : Code} {K : KT} {A : Nat → Prop} {Z : State → Prop} {a : Nat → Nat} (hR : 1 ≤ R.frames ∧ 20 ≤ R.locals) (C : CX p s m args meth c K A cX3_takeWord 2 RX3) {Q : Int32 → FT → GT → Prop} (hq : RetXi p l e R s m args below meth c K A Z a cX3_takeWord Q) (x1 : Int32) (F : FT) (G : GT) {H : Heap} {locs : List Loc} (h : WD K A s (wX K a F G) H locs) {ls : Array Slot} (hl : lv_has ls 2 [(0, .ref (a 2)), (1, .int x1)]) (hw : wp_X3_takeWord_0 Q x1 F G) : W p l e R s m args below meth c H locs 0 0 Z (F0 m 0 ls []) := by
  unfold wp_X3_takeWord_0 at hw
  have hx := C.1
  have hb := C.2.1
  refine lv_iload_n hx hb dX3_takeWord_0 rfl (lv_at hl 1 rfl) ?_
  refine lv_iconst (v := (-1 : Int32)) hx hb dX3_takeWord_1 (by decide) ?_
  refine lv_icmp_ne (tgt := 7) hx hb dX3_takeWord_2 (by decide) (fun c => ?_) (fun c => ?_)
  · have hw := hw.1 c
    refine lv_aload_n hx hb dX3_takeWord_7 rfl (lv_at hl 0 rfl) ?_
    refine lv_iload_n hx hb dX3_takeWord_8 rfl (lv_at hl 1 rfl) ?_
    refine pX_3_32 C h dX3_takeWord_9 (fun F1 H locs eF1 h => ?_)
    have hw := hw F1 eF1
    refine lv_iload_n hx hb dX3_takeWord_12 rfl (lv_at hl 1 rfl) ?_
    refine lv_iconst (v := (2 : Int32)) hx hb dX3_takeWord_13 (by decide) ?_
    refine lv_icmp_eq (tgt := 23) hx hb dX3_takeWord_14 (by decide) (fun c => ?_) (fun c => ?_)
    · have hw := hw.1 c
      refine lv_aload_n hx hb dX3_takeWord_23 rfl (lv_at hl 0 rfl) ?_
      refine lv_iconst (v := (4 : Int32)) hx hb dX3_takeWord_24 (by decide) ?_
      refine pX_3_29 C h dX3_takeWord_25 (fun F2 H locs eF2 h => ?_)
      have hw := hw F2 eF2
      refine lv_iconst (v := (0 : Int32)) hx hb dX3_takeWord_28 (by decide) ?_
      exact hq _ F2 G _ _ _ _ dX3_takeWord_29 h hw
    · have hw := hw.2 c
      refine lv_iload_n hx hb dX3_takeWord_17 rfl (lv_at hl 1 rfl) ?_
      refine lv_bipush (v := (8 : Int32)) hx hb dX3_takeWord_18 (by decide) ?_
      refine lv_icmp_ne (tgt := 30) hx hb dX3_takeWord_20 (by decide) (fun c => ?_) (fun c => ?_)
      · have hw := hw.1 c
        refine lv_aload_n hx hb dX3_takeWord_30 rfl (lv_at hl 0 rfl) ?_
        refine kXiV C h (c_X3_tellOnce F1 G hw) lk_3_97 (rvX_2 K a F1 G) rfl hl.1 rfl (Nat.le_of_ble_eq_true rfl) ⟨Nat.le_trans (Nat.le_of_ble_eq_true rfl) hR.1, Nat.le_trans (Nat.le_of_ble_eq_true rfl) hR.2⟩ ⟨Nat.zero_le _, Nat.zero_le _⟩ dX3_takeWord_31 (fun r5 F3 G4 H locs hw h => ?_)
        exact hq _ F3 G4 _ _ _ _ dX3_takeWord_34 h hw
      · have hw := hw.2 c
        refine lv_aload_n hx hb dX3_takeWord_23 rfl (lv_at hl 0 rfl) ?_
        refine lv_iconst (v := (4 : Int32)) hx hb dX3_takeWord_24 (by decide) ?_
        refine pX_3_29 C h dX3_takeWord_25 (fun F6 H locs eF6 h => ?_)
        have hw := hw F6 eF6
        refine lv_iconst (v := (0 : Int32)) hx hb dX3_takeWord_28 (by decide) ?_
        exact hq _ F6 G _ _ _ _ dX3_takeWord_29 h hw
  · have hw := hw.2 c
    refine lv_iconst (v := (1 : Int32)) hx hb dX3_takeWord_5 (by decide) ?_
    exact hq _ F G _ _ _ _ dX3_takeWord_6 h hw
theorem c_X3_takeWord {l : Launch} {K : KT} {a : Nat → Nat} (x1 : Int32) (F : FT) (G : GT) {Q : Int32 → FT → GT → Prop} (hw : wp_X3_takeWord x1 F G Q) : CtXi l K a yX3_takeWord cX3_takeWord 2 (some .int) 1 20 [.ref (a 2), .int x1] F G Q := fun sz => x_met (Qm := QmXi K a Q) (by decide) (Nat.le_of_ble_eq_true rfl) (fun p e s m below meth c A ls C hr h hl => wk_X3_takeWord_0 ⟨Nat.le_refl _, Nat.le_refl _⟩ C (retX_z C hr (fun r F G _ => rfl)) x1 F G h hl hw)
def wp_X3_numberValue_7 (Q : Int32 → FT → GT → Prop) : Nat → Int32 → Int32 → FT → GT → Prop
  | 0, _, _, _, _ => False
  | n + 1, x2, x3, F, G => (((F 16) ≤ x3) → Q x2 F G) ∧ ((¬ (F 16) ≤ x3) → wp_X6_at x3 F G (fun r3 F1 G2 => ∀ v4 : Int32, v4 = (x3 + 1) → wp_X3_numberValue_7 Q n (((x2 * (10 : Int32)) + r3) - (48 : Int32)) v4 F1 G2))
def wp_X3_numberValue_0 (Q : Int32 → FT → GT → Prop) (F : FT) (G : GT) : Prop := ∃ n : Nat, wp_X3_numberValue_7 Q n (0 : Int32) (F 15) F G
def wp_X3_numberValue (F : FT) (G : GT) (Q : Int32 → FT → GT → Prop) : Prop := wp_X3_numberValue_0 Q F G
set_option maxHeartbeats 4000000 in
set_option maxRecDepth 100000 in
theorem wk_X3_numberValue_7 {p : Program} {l : Launch} {e : Env} {R : Room} {s : State} {m : MethodId} {args : Array Value} {below : List Frame} {meth : Method} {c : Code} {K : KT} {A : Nat → Prop} {Z : State → Prop} {a : Nat → Nat} (hR : 1 ≤ R.frames ∧ 21 ≤ R.locals) (C : CX p s m args meth c K A cX3_numberValue 4 RX3) {Q : Int32 → FT → GT → Prop} (hq : RetXi p l e R s m args below meth c K A Z a cX3_numberValue Q) : ∀ (n : Nat) (x2 : Int32) (x3 : Int32) (F : FT) (G : GT) {H : Heap} {locs : List Loc} (h : WD K A s (wX K a F G) H locs) {ls : Array Slot} (hl : lv_has ls 4 [(0, .ref (a 2)), (1, .ref (a 1)), (2, .int x2), (3, .int x3)]) (hw : wp_X3_numberValue_7 Q n x2 x3 F G), W p l e R s m args below meth c H locs 0 0 Z (F0 m 7 ls []) := by
  intro n
  induction n with
  | zero => intro x2 x3 F G H locs h ls hl hw; exact False.elim hw
  | succ n ih =>
    intro x2 x3 F G H locs h ls hl hw
    rw [wp_X3_numberValue_7] at hw
    have hx := C.1
    have hb := C.2.1
    refine lv_iload_n hx hb dX3_numberValue_7 rfl (lv_at hl 3 rfl) ?_
    refine lv_aload_n hx hb dX3_numberValue_8 rfl (lv_at hl 0 rfl) ?_
    refine gX_3_38 C h dX3_numberValue_9 ?_
    refine lv_icmp_ge (tgt := 35) hx hb dX3_numberValue_12 (by decide) (fun c => ?_) (fun c => ?_)
    · have hw := hw.1 c
      refine lv_iload_n hx hb dX3_numberValue_35 rfl (lv_at hl 2 rfl) ?_
      exact hq _ F G _ _ _ _ dX3_numberValue_36 h hw
    · have hw := hw.2 c
      refine lv_iload_n hx hb dX3_numberValue_15 rfl (lv_at hl 2 rfl) ?_
      refine lv_bipush (v := (10 : Int32)) hx hb dX3_numberValue_16 (by decide) ?_
      refine lv_imul hx hb dX3_numberValue_18 ?_
      refine lv_aload_n hx hb dX3_numberValue_19 rfl (lv_at hl 1 rfl) ?_
      refine lv_iload_n hx hb dX3_numberValue_20 rfl (lv_at hl 3 rfl) ?_
      refine kXiV C h (c_X6_at x3 F G hw) lk_3_67 (rvX_1 K a F G) rfl hl.1 rfl (Nat.le_of_ble_eq_true rfl) ⟨Nat.le_trans (Nat.le_of_ble_eq_true rfl) hR.1, Nat.le_trans (Nat.le_of_ble_eq_true rfl) hR.2⟩ ⟨Nat.zero_le _, Nat.zero_le _⟩ dX3_numberValue_21 (fun r3 F1 G2 H locs hw h => ?_)
      refine lv_iadd hx hb dX3_numberValue_24 ?_
      refine lv_bipush (v := (48 : Int32)) hx hb dX3_numberValue_25 (by decide) ?_
      refine lv_isub hx hb dX3_numberValue_27 ?_
      refine lv_istore_n (lv' := [(2, .int (((x2 * (10 : Int32)) + r3) - (48 : Int32))), (0, .ref (a 2)), (1, .ref (a 1)), (3, .int x3)]) hx hb dX3_numberValue_28 rfl hl (by decide) rfl (fun ls hl => ?_)
      obtain ⟨v4, ev4⟩ : ∃ z : Int32, z = (x3 + 1) := ⟨_, rfl⟩
      have hw := hw v4 ev4
      refine lv_iinc (v := v4) (lv' := [(3, .int v4), (2, .int (((x2 * (10 : Int32)) + r3) - (48 : Int32))), (0, .ref (a 2)), (1, .ref (a 1))]) hx hb dX3_numberValue_29 hl (k := 3) rfl (by rw [ev4]; rfl) (by decide) rfl (fun ls hl => ?_)
      refine lv_goto (tgt := 7) hx hb dX3_numberValue_32 (by decide) ?_
      exact ih (((x2 * (10 : Int32)) + r3) - (48 : Int32)) v4 F1 G2 h (lv_sub hl [2, 3, 1, 0] rfl) hw
set_option maxHeartbeats 4000000 in
set_option maxRecDepth 100000 in
theorem wk_X3_numberValue_0 {p : Program} {l : Launch} {e : Env} {R : Room} {s : State} {m : MethodId} {args : Array Value} {below : List Frame} {meth : Method} {c : Code} {K : KT} {A : Nat → Prop} {Z : State → Prop} {a : Nat → Nat} (hR : 1 ≤ R.frames ∧ 21 ≤ R.locals) (C : CX p s m args meth c K A cX3_numberValue 4 RX3) {Q : Int32 → FT → GT → Prop} (hq : RetXi p l e R s m args below meth c K A Z a cX3_numberValue Q) (F : FT) (G : GT) {H : Heap} {locs : List Loc} (h : WD K A s (wX K a F G) H locs) {ls : Array Slot} (hl : lv_has ls 4 [(0, .ref (a 2)), (1, .ref (a 1))]) (hw : wp_X3_numberValue_0 Q F G) : W p l e R s m args below meth c H locs 0 0 Z (F0 m 0 ls []) := by
  unfold wp_X3_numberValue_0 at hw
  have hx := C.1
  have hb := C.2.1
  refine lv_iconst (v := (0 : Int32)) hx hb dX3_numberValue_0 (by decide) ?_
  refine lv_istore_n (lv' := [(2, .int (0 : Int32)), (0, .ref (a 2)), (1, .ref (a 1))]) hx hb dX3_numberValue_1 rfl hl (by decide) rfl (fun ls hl => ?_)
  refine lv_aload_n hx hb dX3_numberValue_2 rfl (lv_at hl 1 rfl) ?_
  refine gX_3_35 C h dX3_numberValue_3 ?_
  refine lv_istore_n (lv' := [(3, .int (F 15)), (2, .int (0 : Int32)), (0, .ref (a 2)), (1, .ref (a 1))]) hx hb dX3_numberValue_6 rfl hl (by decide) rfl (fun ls hl => ?_)
  obtain ⟨n, hw⟩ := hw
  exact wk_X3_numberValue_7 hR C hq n (0 : Int32) (F 15) F G h (lv_sub hl [2, 3, 1, 0] rfl) hw
theorem c_X3_numberValue {l : Launch} {K : KT} {a : Nat → Nat} (F : FT) (G : GT) {Q : Int32 → FT → GT → Prop} (hw : wp_X3_numberValue F G Q) : CtXi l K a yX3_numberValue cX3_numberValue 4 (some .int) 1 21 [.ref (a 2), .ref (a 1)] F G Q := fun sz => x_met (Qm := QmXi K a Q) (by decide) (Nat.le_of_ble_eq_true rfl) (fun p e s m below meth c A ls C hr h hl => wk_X3_numberValue_0 ⟨Nat.le_refl _, Nat.le_refl _⟩ C (retX_z C hr (fun r F G _ => rfl)) F G h hl hw)
def wp_X3_takeNumber_0 (Q : Int32 → FT → GT → Prop) (x1 : Int32) (F : FT) (G : GT) : Prop := vp_in (F 14) 14 ∧ ∀ G1 : GT, G1 = gU G 41 (upd (G 41) (F 14).toNatClampNeg x1) → ∀ F2 : FT, F2 = sU F 13 (3 : Int32) → Q (0 : Int32) F2 G1
def wp_X3_takeNumber (x1 : Int32) (F : FT) (G : GT) (Q : Int32 → FT → GT → Prop) : Prop := wp_X3_takeNumber_0 Q x1 F G
set_option maxHeartbeats 4000000 in
set_option maxRecDepth 100000 in
theorem wk_X3_takeNumber_0 {p : Program} {l : Launch} {e : Env} {R : Room} {s : State} {m : MethodId} {args : Array Value} {below : List Frame} {meth : Method} {c : Code} {K : KT} {A : Nat → Prop} {Z : State → Prop} {a : Nat → Nat} (hR : 0 ≤ R.frames ∧ 0 ≤ R.locals) (C : CX p s m args meth c K A cX3_takeNumber 2 RX3) {Q : Int32 → FT → GT → Prop} (hq : RetXi p l e R s m args below meth c K A Z a cX3_takeNumber Q) (x1 : Int32) (F : FT) (G : GT) {H : Heap} {locs : List Loc} (h : WD K A s (wX K a F G) H locs) {ls : Array Slot} (hl : lv_has ls 2 [(0, .ref (a 2)), (1, .int x1)]) (hw : wp_X3_takeNumber_0 Q x1 F G) : W p l e R s m args below meth c H locs 0 0 Z (F0 m 0 ls []) := by
  unfold wp_X3_takeNumber_0 at hw
  have hx := C.1
  have hb := C.2.1
  refine lv_aload_n hx hb dX3_takeNumber_0 rfl (lv_at hl 0 rfl) ?_
  refine gX_3_9 C h dX3_takeNumber_1 ?_
  refine lv_aload_n hx hb dX3_takeNumber_4 rfl (lv_at hl 0 rfl) ?_
  refine gX_3_32 C h dX3_takeNumber_5 ?_
  refine lv_iload_n hx hb dX3_takeNumber_8 rfl (lv_at hl 1 rfl) ?_
  have hi := hw.1
  have hw := hw.2
  refine saX_41 C h hi dX3_takeNumber_9 (fun G1 H locs eG1 h => ?_)
  have hw := hw G1 eG1
  refine lv_aload_n hx hb dX3_takeNumber_10 rfl (lv_at hl 0 rfl) ?_
  refine lv_iconst (v := (3 : Int32)) hx hb dX3_takeNumber_11 (by decide) ?_
  refine pX_3_29 C h dX3_takeNumber_12 (fun F2 H locs eF2 h => ?_)
  have hw := hw F2 eF2
  refine lv_iconst (v := (0 : Int32)) hx hb dX3_takeNumber_15 (by decide) ?_
  exact hq _ F2 G1 _ _ _ _ dX3_takeNumber_16 h hw
theorem c_X3_takeNumber {l : Launch} {K : KT} {a : Nat → Nat} (x1 : Int32) (F : FT) (G : GT) {Q : Int32 → FT → GT → Prop} (hw : wp_X3_takeNumber x1 F G Q) : CtXi l K a yX3_takeNumber cX3_takeNumber 2 (some .int) 0 0 [.ref (a 2), .int x1] F G Q := fun sz => x_met (Qm := QmXi K a Q) (by decide) (Nat.le_of_ble_eq_true rfl) (fun p e s m below meth c A ls C hr h hl => wk_X3_takeNumber_0 ⟨Nat.le_refl _, Nat.le_refl _⟩ C (retX_z C hr (fun r F G _ => rfl)) x1 F G h hl hw)
def wp_X3_takeSemicolon_0 (Q : Int32 → FT → GT → Prop) (F : FT) (G : GT) : Prop := ∀ F1 : FT, F1 = sU F 10 ((F 10) + (1 : Int32)) → ∀ F2 : FT, F2 = sU F1 13 (1 : Int32) → Q (0 : Int32) F2 G
def wp_X3_takeSemicolon (F : FT) (G : GT) (Q : Int32 → FT → GT → Prop) : Prop := wp_X3_takeSemicolon_0 Q F G
set_option maxHeartbeats 4000000 in
set_option maxRecDepth 100000 in
theorem wk_X3_takeSemicolon_0 {p : Program} {l : Launch} {e : Env} {R : Room} {s : State} {m : MethodId} {args : Array Value} {below : List Frame} {meth : Method} {c : Code} {K : KT} {A : Nat → Prop} {Z : State → Prop} {a : Nat → Nat} (hR : 0 ≤ R.frames ∧ 0 ≤ R.locals) (C : CX p s m args meth c K A cX3_takeSemicolon 1 RX3) {Q : Int32 → FT → GT → Prop} (hq : RetXi p l e R s m args below meth c K A Z a cX3_takeSemicolon Q) (F : FT) (G : GT) {H : Heap} {locs : List Loc} (h : WD K A s (wX K a F G) H locs) {ls : Array Slot} (hl : lv_has ls 1 [(0, .ref (a 2))]) (hw : wp_X3_takeSemicolon_0 Q F G) : W p l e R s m args below meth c H locs 0 0 Z (F0 m 0 ls []) := by
  unfold wp_X3_takeSemicolon_0 at hw
  have hx := C.1
  have hb := C.2.1
  refine lv_aload_n hx hb dX3_takeSemicolon_0 rfl (lv_at hl 0 rfl) ?_
  refine lv_dup hx hb dX3_takeSemicolon_1 rfl ?_
  refine gX_3_19 C h dX3_takeSemicolon_2 ?_
  refine lv_iconst (v := (1 : Int32)) hx hb dX3_takeSemicolon_5 (by decide) ?_
  refine lv_iadd hx hb dX3_takeSemicolon_6 ?_
  refine pX_3_19 C h dX3_takeSemicolon_7 (fun F1 H locs eF1 h => ?_)
  have hw := hw F1 eF1
  refine lv_aload_n hx hb dX3_takeSemicolon_10 rfl (lv_at hl 0 rfl) ?_
  refine lv_iconst (v := (1 : Int32)) hx hb dX3_takeSemicolon_11 (by decide) ?_
  refine pX_3_29 C h dX3_takeSemicolon_12 (fun F2 H locs eF2 h => ?_)
  have hw := hw F2 eF2
  refine lv_iconst (v := (0 : Int32)) hx hb dX3_takeSemicolon_15 (by decide) ?_
  exact hq _ F2 G _ _ _ _ dX3_takeSemicolon_16 h hw
theorem c_X3_takeSemicolon {l : Launch} {K : KT} {a : Nat → Nat} (F : FT) (G : GT) {Q : Int32 → FT → GT → Prop} (hw : wp_X3_takeSemicolon F G Q) : CtXi l K a yX3_takeSemicolon cX3_takeSemicolon 1 (some .int) 0 0 [.ref (a 2)] F G Q := fun sz => x_met (Qm := QmXi K a Q) (by decide) (Nat.le_of_ble_eq_true rfl) (fun p e s m below meth c A ls C hr h hl => wk_X3_takeSemicolon_0 ⟨Nat.le_refl _, Nat.le_refl _⟩ C (retX_z C hr (fun r F G _ => rfl)) F G h hl hw)
def wp_X7_isFault_0 (Q : Int32 → FT → GT → Prop) (x0 : Int32) (F : FT) (G : GT) : Prop := ((x0 < 0) → Q (0 : Int32) F G) ∧ ((¬ x0 < 0) → (((6 : Int32) ≤ x0) → Q (0 : Int32) F G) ∧ ((¬ (6 : Int32) ≤ x0) → Q (1 : Int32) F G))
def wp_X7_isFault (x0 : Int32) (F : FT) (G : GT) (Q : Int32 → FT → GT → Prop) : Prop := wp_X7_isFault_0 (fun r F G => (r = 0 ∨ r = 1) ∧ Q r F G) x0 F G
set_option maxHeartbeats 4000000 in
set_option maxRecDepth 100000 in
theorem wk_X7_isFault_0 {p : Program} {l : Launch} {e : Env} {R : Room} {s : State} {m : MethodId} {args : Array Value} {below : List Frame} {meth : Method} {c : Code} {K : KT} {A : Nat → Prop} {Z : State → Prop} {a : Nat → Nat} (hR : 0 ≤ R.frames ∧ 0 ≤ R.locals) (C : CX p s m args meth c K A cX7_isFault 1 RX7) {Q : Int32 → FT → GT → Prop} (hq : RetXi p l e R s m args below meth c K A Z a cX7_isFault Q) (x0 : Int32) (F : FT) (G : GT) {H : Heap} {locs : List Loc} (h : WD K A s (wX K a F G) H locs) {ls : Array Slot} (hl : lv_has ls 1 [(0, .int x0)]) (hw : wp_X7_isFault_0 Q x0 F G) : W p l e R s m args below meth c H locs 0 0 Z (F0 m 0 ls []) := by
  unfold wp_X7_isFault_0 at hw
  have hx := C.1
  have hb := C.2.1
  refine lv_iload_n hx hb dX7_isFault_0 rfl (lv_at hl 0 rfl) ?_
  refine lv_if_lt (tgt := 14) hx hb dX7_isFault_1 (by decide) (fun c => ?_) (fun c => ?_)
  · have hw := hw.1 c
    refine lv_iconst (v := (0 : Int32)) hx hb dX7_isFault_14 (by decide) ?_
    exact hq _ F G _ _ _ _ dX7_isFault_15 h hw
  · have hw := hw.2 c
    refine lv_iload_n hx hb dX7_isFault_4 rfl (lv_at hl 0 rfl) ?_
    refine lv_bipush (v := (6 : Int32)) hx hb dX7_isFault_5 (by decide) ?_
    refine lv_icmp_ge (tgt := 14) hx hb dX7_isFault_7 (by decide) (fun c => ?_) (fun c => ?_)
    · have hw := hw.1 c
      refine lv_iconst (v := (0 : Int32)) hx hb dX7_isFault_14 (by decide) ?_
      exact hq _ F G _ _ _ _ dX7_isFault_15 h hw
    · have hw := hw.2 c
      refine lv_iconst (v := (1 : Int32)) hx hb dX7_isFault_10 (by decide) ?_
      refine lv_goto (tgt := 15) hx hb dX7_isFault_11 (by decide) ?_
      exact hq _ F G _ _ _ _ dX7_isFault_15 h hw
theorem c_X7_isFault {l : Launch} {K : KT} {a : Nat → Nat} (x0 : Int32) (F : FT) (G : GT) {Q : Int32 → FT → GT → Prop} (hw : wp_X7_isFault x0 F G Q) : CtXi l K a yX7_isFault cX7_isFault 1 (some .boolean) 0 0 [.int x0] F G (fun r F G => (r = 0 ∨ r = 1) ∧ Q r F G) := fun sz => x_met (Qm := QmXi K a (fun r F G => (r = 0 ∨ r = 1) ∧ Q r F G)) (by decide) (Nat.le_of_ble_eq_true rfl) (fun p e s m below meth c A ls C hr h hl => wk_X7_isFault_0 ⟨Nat.le_refl _, Nat.le_refl _⟩ C (retX_z C hr (fun r F G hz => by rcases hz.1 with z | z <;> rw [z] <;> rfl)) x0 F G h hl hw)
def wp_X3_takeFault_0 (Q : Int32 → FT → GT → Prop) (x1 : Int32) (F : FT) (G : GT) : Prop := wp_X7_isFault x1 F G (fun r3 F1 G2 => ((¬ r3 = 0) → ∀ F4 : FT, F4 = sU F1 14 ((F1 14) + x1) → wp_X3_tellOnce F4 G2 (fun r7 F5 G6 => Q r7 F5 G6)) ∧ ((r3 = 0) → Q (2 : Int32) F1 G2))
def wp_X3_takeFault (x1 : Int32) (F : FT) (G : GT) (Q : Int32 → FT → GT → Prop) : Prop := wp_X3_takeFault_0 Q x1 F G
set_option maxHeartbeats 4000000 in
set_option maxRecDepth 100000 in
theorem wk_X3_takeFault_0 {p : Program} {l : Launch} {e : Env} {R : Room} {s : State} {m : MethodId} {args : Array Value} {below : List Frame} {meth : Method} {c : Code} {K : KT} {A : Nat → Prop} {Z : State → Prop} {a : Nat → Nat} (hR : 1 ≤ R.frames ∧ 20 ≤ R.locals) (C : CX p s m args meth c K A cX3_takeFault 2 RX3) {Q : Int32 → FT → GT → Prop} (hq : RetXi p l e R s m args below meth c K A Z a cX3_takeFault Q) (x1 : Int32) (F : FT) (G : GT) {H : Heap} {locs : List Loc} (h : WD K A s (wX K a F G) H locs) {ls : Array Slot} (hl : lv_has ls 2 [(0, .ref (a 2)), (1, .int x1)]) (hw : wp_X3_takeFault_0 Q x1 F G) : W p l e R s m args below meth c H locs 0 0 Z (F0 m 0 ls []) := by
  unfold wp_X3_takeFault_0 at hw
  have hx := C.1
  have hb := C.2.1
  refine lv_iload_n hx hb dX3_takeFault_0 rfl (lv_at hl 1 rfl) ?_
  refine kXiN C h (c_X7_isFault x1 F G hw) lk_3_100 rfl hl.1 rfl (Nat.le_of_ble_eq_true rfl) ⟨Nat.le_trans (Nat.le_of_ble_eq_true rfl) hR.1, Nat.le_trans (Nat.le_of_ble_eq_true rfl) hR.2⟩ ⟨Nat.zero_le _, Nat.zero_le _⟩ dX3_takeFault_1 (fun r3 F1 G2 H locs hw h => ?_)
  have hw := hw.2
  refine lv_if_ne (tgt := 9) hx hb dX3_takeFault_4 (by decide) (fun c => ?_) (fun c => ?_)
  · have hw := hw.1 c
    refine lv_aload_n hx hb dX3_takeFault_9 rfl (lv_at hl 0 rfl) ?_
    refine lv_dup hx hb dX3_takeFault_10 rfl ?_
    refine gX_3_32 C h dX3_takeFault_11 ?_
    refine lv_iload_n hx hb dX3_takeFault_14 rfl (lv_at hl 1 rfl) ?_
    refine lv_iadd hx hb dX3_takeFault_15 ?_
    refine pX_3_32 C h dX3_takeFault_16 (fun F4 H locs eF4 h => ?_)
    have hw := hw F4 eF4
    refine lv_aload_n hx hb dX3_takeFault_19 rfl (lv_at hl 0 rfl) ?_
    refine kXiV C h (c_X3_tellOnce F4 G2 hw) lk_3_97 (rvX_2 K a F4 G2) rfl hl.1 rfl (Nat.le_of_ble_eq_true rfl) ⟨Nat.le_trans (Nat.le_of_ble_eq_true rfl) hR.1, Nat.le_trans (Nat.le_of_ble_eq_true rfl) hR.2⟩ ⟨Nat.zero_le _, Nat.zero_le _⟩ dX3_takeFault_20 (fun r7 F5 G6 H locs hw h => ?_)
    exact hq _ F5 G6 _ _ _ _ dX3_takeFault_23 h hw
  · have hw := hw.2 c
    refine lv_iconst (v := (2 : Int32)) hx hb dX3_takeFault_7 (by decide) ?_
    exact hq _ F1 G2 _ _ _ _ dX3_takeFault_8 h hw
theorem c_X3_takeFault {l : Launch} {K : KT} {a : Nat → Nat} (x1 : Int32) (F : FT) (G : GT) {Q : Int32 → FT → GT → Prop} (hw : wp_X3_takeFault x1 F G Q) : CtXi l K a yX3_takeFault cX3_takeFault 2 (some .int) 1 20 [.ref (a 2), .int x1] F G Q := fun sz => x_met (Qm := QmXi K a Q) (by decide) (Nat.le_of_ble_eq_true rfl) (fun p e s m below meth c A ls C hr h hl => wk_X3_takeFault_0 ⟨Nat.le_refl _, Nat.le_refl _⟩ C (retX_z C hr (fun r F G _ => rfl)) x1 F G h hl hw)
def wp_X3_takeToken_0 (Q : Int32 → FT → GT → Prop) (x2 : Int32) (F : FT) (G : GT) : Prop := ((F 13) = 1 → ((¬ x2 = (1 : Int32)) → Q (1 : Int32) F G) ∧ ((x2 = (1 : Int32)) → wp_X3_slotOfWord F G (fun r3 F1 G2 => wp_X3_takeWord r3 F1 G2 (fun r6 F4 G5 => Q r6 F4 G5)))) ∧ ((F 13) = 2 → ((¬ x2 = (2 : Int32)) → Q (1 : Int32) F G) ∧ ((x2 = (2 : Int32)) → wp_X3_numberValue F G (fun r9 F7 G8 => wp_X3_takeNumber r9 F7 G8 (fun r12 F10 G11 => Q r12 F10 G11)))) ∧ ((F 13) = 3 → ((¬ x2 = (3 : Int32)) → Q (1 : Int32) F G) ∧ ((x2 = (3 : Int32)) → wp_X3_takeSemicolon F G (fun r15 F13 G14 => Q r15 F13 G14))) ∧ ((F 13) = 4 → ((¬ x2 = (2 : Int32)) → Q (1 : Int32) F G) ∧ ((x2 = (2 : Int32)) → wp_X3_numberValue F G (fun r18 F16 G17 => wp_X3_takeFault r18 F16 G17 (fun r21 F19 G20 => Q r21 F19 G20)))) ∧ (¬ (F 13) = 1 → ¬ (F 13) = 2 → ¬ (F 13) = 3 → ¬ (F 13) = 4 → ((¬ x2 = (3 : Int32)) → Q (1 : Int32) F G) ∧ ((x2 = (3 : Int32)) → wp_X3_takeSemicolon F G (fun r24 F22 G23 => Q r24 F22 G23)))
def wp_X3_takeToken (x2 : Int32) (F : FT) (G : GT) (Q : Int32 → FT → GT → Prop) : Prop := wp_X3_takeToken_0 Q x2 F G
set_option maxHeartbeats 4000000 in
set_option maxRecDepth 100000 in
theorem wk_X3_takeToken_0 {p : Program} {l : Launch} {e : Env} {R : Room} {s : State} {m : MethodId} {args : Array Value} {below : List Frame} {meth : Method} {c : Code} {K : KT} {A : Nat → Prop} {Z : State → Prop} {a : Nat → Nat} (hR : 6 ≤ R.frames ∧ 164 ≤ R.locals) (C : CX p s m args meth c K A cX3_takeToken 3 RX3) {Q : Int32 → FT → GT → Prop} (hq : RetXi p l e R s m args below meth c K A Z a cX3_takeToken Q) (x2 : Int32) (F : FT) (G : GT) {H : Heap} {locs : List Loc} (h : WD K A s (wX K a F G) H locs) {ls : Array Slot} (hl : lv_has ls 3 [(0, .ref (a 2)), (1, .ref (a 1)), (2, .int x2)]) (hw : wp_X3_takeToken_0 Q x2 F G) : W p l e R s m args below meth c H locs 0 0 Z (F0 m 0 ls []) := by
  unfold wp_X3_takeToken_0 at hw
  have hx := C.1
  have hb := C.2.1
  refine lv_aload_n hx hb dX3_takeToken_0 rfl (lv_at hl 0 rfl) ?_
  refine gX_3_29 C h dX3_takeToken_1 ?_
  by_cases k1 : (F 13) = 1
  · have hw := hw.1 k1
    refine lv_tableIn (tgt := 36) hx hb dX3_takeToken_4 (by rw [k1]; decide) (by rw [k1]; decide) (by rw [k1]; rfl) (by decide) ?_
    refine lv_iload_n hx hb dX3_takeToken_36 rfl (lv_at hl 2 rfl) ?_
    refine lv_iconst (v := (1 : Int32)) hx hb dX3_takeToken_37 (by decide) ?_
    refine lv_icmp_ne (tgt := 53) hx hb dX3_takeToken_38 (by decide) (fun c => ?_) (fun c => ?_)
    · have hw := hw.1 c
      refine lv_iconst (v := (1 : Int32)) hx hb dX3_takeToken_53 (by decide) ?_
      exact hq _ F G _ _ _ _ dX3_takeToken_54 h hw
    · have hw := hw.2 c
      refine lv_aload_n hx hb dX3_takeToken_41 rfl (lv_at hl 0 rfl) ?_
      refine lv_aload_n hx hb dX3_takeToken_42 rfl (lv_at hl 0 rfl) ?_
      refine lv_aload_n hx hb dX3_takeToken_43 rfl (lv_at hl 1 rfl) ?_
      refine kXiV C h (c_X3_slotOfWord F G hw) lk_3_78 (rvX_2 K a F G) rfl hl.1 rfl (Nat.le_of_ble_eq_true rfl) ⟨Nat.le_trans (Nat.le_of_ble_eq_true rfl) hR.1, Nat.le_trans (Nat.le_of_ble_eq_true rfl) hR.2⟩ ⟨Nat.zero_le _, Nat.zero_le _⟩ dX3_takeToken_44 (fun r3 F1 G2 H locs hw h => ?_)
      refine kXiV C h (c_X3_takeWord r3 F1 G2 hw) lk_3_81 (rvX_2 K a F1 G2) rfl hl.1 rfl (Nat.le_of_ble_eq_true rfl) ⟨Nat.le_trans (Nat.le_of_ble_eq_true rfl) hR.1, Nat.le_trans (Nat.le_of_ble_eq_true rfl) hR.2⟩ ⟨Nat.zero_le _, Nat.zero_le _⟩ dX3_takeToken_47 (fun r6 F4 G5 H locs hw h => ?_)
      refine lv_goto (tgt := 54) hx hb dX3_takeToken_50 (by decide) ?_
      exact hq _ F4 G5 _ _ _ _ dX3_takeToken_54 h hw
  by_cases k2 : (F 13) = 2
  · have hw := hw.2.1 k2
    refine lv_tableIn (tgt := 74) hx hb dX3_takeToken_4 (by rw [k2]; decide) (by rw [k2]; decide) (by rw [k2]; rfl) (by decide) ?_
    refine lv_iload_n hx hb dX3_takeToken_74 rfl (lv_at hl 2 rfl) ?_
    refine lv_iconst (v := (2 : Int32)) hx hb dX3_takeToken_75 (by decide) ?_
    refine lv_icmp_ne (tgt := 91) hx hb dX3_takeToken_76 (by decide) (fun c => ?_) (fun c => ?_)
    · have hw := hw.1 c
      refine lv_iconst (v := (1 : Int32)) hx hb dX3_takeToken_91 (by decide) ?_
      exact hq _ F G _ _ _ _ dX3_takeToken_92 h hw
    · have hw := hw.2 c
      refine lv_aload_n hx hb dX3_takeToken_79 rfl (lv_at hl 0 rfl) ?_
      refine lv_aload_n hx hb dX3_takeToken_80 rfl (lv_at hl 0 rfl) ?_
      refine lv_aload_n hx hb dX3_takeToken_81 rfl (lv_at hl 1 rfl) ?_
      refine kXiV C h (c_X3_numberValue F G hw) lk_3_84 (rvX_2 K a F G) rfl hl.1 rfl (Nat.le_of_ble_eq_true rfl) ⟨Nat.le_trans (Nat.le_of_ble_eq_true rfl) hR.1, Nat.le_trans (Nat.le_of_ble_eq_true rfl) hR.2⟩ ⟨Nat.zero_le _, Nat.zero_le _⟩ dX3_takeToken_82 (fun r9 F7 G8 H locs hw h => ?_)
      refine kXiV C h (c_X3_takeNumber r9 F7 G8 hw) lk_3_90 (rvX_2 K a F7 G8) rfl hl.1 rfl (Nat.le_of_ble_eq_true rfl) ⟨Nat.le_trans (Nat.le_of_ble_eq_true rfl) hR.1, Nat.le_trans (Nat.le_of_ble_eq_true rfl) hR.2⟩ ⟨Nat.zero_le _, Nat.zero_le _⟩ dX3_takeToken_85 (fun r12 F10 G11 H locs hw h => ?_)
      refine lv_goto (tgt := 92) hx hb dX3_takeToken_88 (by decide) ?_
      exact hq _ F10 G11 _ _ _ _ dX3_takeToken_92 h hw
  by_cases k3 : (F 13) = 3
  · have hw := hw.2.2.1 k3
    refine lv_tableIn (tgt := 93) hx hb dX3_takeToken_4 (by rw [k3]; decide) (by rw [k3]; decide) (by rw [k3]; rfl) (by decide) ?_
    refine lv_iload_n hx hb dX3_takeToken_93 rfl (lv_at hl 2 rfl) ?_
    refine lv_iconst (v := (3 : Int32)) hx hb dX3_takeToken_94 (by decide) ?_
    refine lv_icmp_ne (tgt := 105) hx hb dX3_takeToken_95 (by decide) (fun c => ?_) (fun c => ?_)
    · have hw := hw.1 c
      refine lv_iconst (v := (1 : Int32)) hx hb dX3_takeToken_105 (by decide) ?_
      exact hq _ F G _ _ _ _ dX3_takeToken_106 h hw
    · have hw := hw.2 c
      refine lv_aload_n hx hb dX3_takeToken_98 rfl (lv_at hl 0 rfl) ?_
      refine kXiV C h (c_X3_takeSemicolon F G hw) lk_3_93 (rvX_2 K a F G) rfl hl.1 rfl (Nat.le_of_ble_eq_true rfl) ⟨Nat.le_trans (Nat.le_of_ble_eq_true rfl) hR.1, Nat.le_trans (Nat.le_of_ble_eq_true rfl) hR.2⟩ ⟨Nat.zero_le _, Nat.zero_le _⟩ dX3_takeToken_99 (fun r15 F13 G14 H locs hw h => ?_)
      refine lv_goto (tgt := 106) hx hb dX3_takeToken_102 (by decide) ?_
      exact hq _ F13 G14 _ _ _ _ dX3_takeToken_106 h hw
  by_cases k4 : (F 13) = 4
  · have hw := hw.2.2.2.1 k4
    refine lv_tableIn (tgt := 55) hx hb dX3_takeToken_4 (by rw [k4]; decide) (by rw [k4]; decide) (by rw [k4]; rfl) (by decide) ?_
    refine lv_iload_n hx hb dX3_takeToken_55 rfl (lv_at hl 2 rfl) ?_
    refine lv_iconst (v := (2 : Int32)) hx hb dX3_takeToken_56 (by decide) ?_
    refine lv_icmp_ne (tgt := 72) hx hb dX3_takeToken_57 (by decide) (fun c => ?_) (fun c => ?_)
    · have hw := hw.1 c
      refine lv_iconst (v := (1 : Int32)) hx hb dX3_takeToken_72 (by decide) ?_
      exact hq _ F G _ _ _ _ dX3_takeToken_73 h hw
    · have hw := hw.2 c
      refine lv_aload_n hx hb dX3_takeToken_60 rfl (lv_at hl 0 rfl) ?_
      refine lv_aload_n hx hb dX3_takeToken_61 rfl (lv_at hl 0 rfl) ?_
      refine lv_aload_n hx hb dX3_takeToken_62 rfl (lv_at hl 1 rfl) ?_
      refine kXiV C h (c_X3_numberValue F G hw) lk_3_84 (rvX_2 K a F G) rfl hl.1 rfl (Nat.le_of_ble_eq_true rfl) ⟨Nat.le_trans (Nat.le_of_ble_eq_true rfl) hR.1, Nat.le_trans (Nat.le_of_ble_eq_true rfl) hR.2⟩ ⟨Nat.zero_le _, Nat.zero_le _⟩ dX3_takeToken_63 (fun r18 F16 G17 H locs hw h => ?_)
      refine kXiV C h (c_X3_takeFault r18 F16 G17 hw) lk_3_87 (rvX_2 K a F16 G17) rfl hl.1 rfl (Nat.le_of_ble_eq_true rfl) ⟨Nat.le_trans (Nat.le_of_ble_eq_true rfl) hR.1, Nat.le_trans (Nat.le_of_ble_eq_true rfl) hR.2⟩ ⟨Nat.zero_le _, Nat.zero_le _⟩ dX3_takeToken_66 (fun r21 F19 G20 H locs hw h => ?_)
      refine lv_goto (tgt := 73) hx hb dX3_takeToken_69 (by decide) ?_
      exact hq _ F19 G20 _ _ _ _ dX3_takeToken_73 h hw
  have hw := hw.2.2.2.2 k1 k2 k3 k4
  refine lv_tableOut (tgt := 93) hx hb dX3_takeToken_4 (by have n1 := lv_neT k1 (a := 1) (by decide); have n2 := lv_neT k2 (a := 2) (by decide); have n3 := lv_neT k3 (a := 3) (by decide); have n4 := lv_neT k4 (a := 4) (by decide); omega) (by decide) ?_
  refine lv_iload_n hx hb dX3_takeToken_93 rfl (lv_at hl 2 rfl) ?_
  refine lv_iconst (v := (3 : Int32)) hx hb dX3_takeToken_94 (by decide) ?_
  refine lv_icmp_ne (tgt := 105) hx hb dX3_takeToken_95 (by decide) (fun c => ?_) (fun c => ?_)
  · have hw := hw.1 c
    refine lv_iconst (v := (1 : Int32)) hx hb dX3_takeToken_105 (by decide) ?_
    exact hq _ F G _ _ _ _ dX3_takeToken_106 h hw
  · have hw := hw.2 c
    refine lv_aload_n hx hb dX3_takeToken_98 rfl (lv_at hl 0 rfl) ?_
    refine kXiV C h (c_X3_takeSemicolon F G hw) lk_3_93 (rvX_2 K a F G) rfl hl.1 rfl (Nat.le_of_ble_eq_true rfl) ⟨Nat.le_trans (Nat.le_of_ble_eq_true rfl) hR.1, Nat.le_trans (Nat.le_of_ble_eq_true rfl) hR.2⟩ ⟨Nat.zero_le _, Nat.zero_le _⟩ dX3_takeToken_99 (fun r24 F22 G23 H locs hw h => ?_)
    refine lv_goto (tgt := 106) hx hb dX3_takeToken_102 (by decide) ?_
    exact hq _ F22 G23 _ _ _ _ dX3_takeToken_106 h hw
theorem c_X3_takeToken {l : Launch} {K : KT} {a : Nat → Nat} (x2 : Int32) (F : FT) (G : GT) {Q : Int32 → FT → GT → Prop} (hw : wp_X3_takeToken x2 F G Q) : CtXi l K a yX3_takeToken cX3_takeToken 3 (some .int) 6 164 [.ref (a 2), .ref (a 1), .int x2] F G Q := fun sz => x_met (Qm := QmXi K a Q) (by decide) (Nat.le_of_ble_eq_true rfl) (fun p e s m below meth c A ls C hr h hl => wk_X3_takeToken_0 ⟨Nat.le_refl _, Nat.le_refl _⟩ C (retX_z C hr (fun r F G _ => rfl)) x2 F G h hl hw)
def wp_X3_readAll_110 (Q : FT → GT → Prop) (x2 : Int32) (F : FT) (G : GT) : Prop := ∀ F1 : FT, F1 = sU F 11 (1 : Int32) → ∀ F2 : FT, F2 = sU F1 12 x2 → Q F2 G
def wp_X3_readAll_85 (Q : FT → GT → Prop) (x2 : Int32) (F : FT) (G : GT) : Prop := ((¬ (F 11) = 0) → Q F G) ∧ (((F 11) = 0) → (((300 : Int32) < (F 2)) → wp_X3_readAll_110 Q x2 F G) ∧ ((¬ (300 : Int32) < (F 2)) → (((F 13) = (1 : Int32)) → Q F G) ∧ ((¬ (F 13) = (1 : Int32)) → wp_X3_readAll_110 Q x2 F G)))
def wp_X3_readAll_22 (Q : FT → GT → Prop) : Nat → Int32 → Int32 → FT → GT → Prop
  | 0, _, _, _, _ => False
  | n + 1, x2, x3, F, G => (((300 : Int32) ≤ x3) → wp_X3_readAll_85 Q x2 F G) ∧ ((¬ (300 : Int32) ≤ x3) → ((x2 ≤ (F 15)) → wp_X3_readAll_85 Q x2 F G) ∧ ((¬ x2 ≤ (F 15)) → ((¬ (F 11) = 0) → wp_X3_readAll_85 Q x2 F G) ∧ (((F 11) = 0) → wp_X3_tokenKind F G (fun r3 F1 G2 => wp_X3_takeToken r3 F1 G2 (fun r6 F4 G5 => ∀ F7 : FT, F7 = sU F4 11 r6 → ∀ F8 : FT, F8 = sU F7 12 (F7 15) → ∀ F9 : FT, F9 = sU F8 15 (F8 16) → wp_X3_skipBlanks F9 G5 (fun F10 G11 => ∀ v12 : Int32, v12 = (x3 + 1) → wp_X3_readAll_22 Q n x2 v12 F10 G11))))))
def wp_X3_readAll_0 (Q : FT → GT → Prop) (F : FT) (G : GT) : Prop := wp_X3_clear F G (fun F1 G2 => ∀ v3 : Int32, v3 = (if (300 : Int32) < (F1 2) then (300 : Int32) else (F1 2)) → wp_X3_skipBlanks F1 G2 (fun F4 G5 => ∃ n : Nat, wp_X3_readAll_22 Q n v3 (0 : Int32) F4 G5))
def wp_X3_readAll (F : FT) (G : GT) (Q : FT → GT → Prop) : Prop := wp_X3_readAll_0 Q F G
set_option maxHeartbeats 4000000 in
set_option maxRecDepth 100000 in
theorem wk_X3_readAll_110 {p : Program} {l : Launch} {e : Env} {R : Room} {s : State} {m : MethodId} {args : Array Value} {below : List Frame} {meth : Method} {c : Code} {K : KT} {A : Nat → Prop} {Z : State → Prop} {a : Nat → Nat} (hR : 7 ≤ R.frames ∧ 186 ≤ R.locals) (C : CX p s m args meth c K A cX3_readAll 4 RX3) {Q : FT → GT → Prop} (hq : RetXv p l e R s m args below meth c K A Z a cX3_readAll Q) (x2 : Int32) (F : FT) (G : GT) {H : Heap} {locs : List Loc} (h : WD K A s (wX K a F G) H locs) {ls : Array Slot} (hl : lv_has ls 4 [(0, .ref (a 2)), (2, .int x2)]) (hw : wp_X3_readAll_110 Q x2 F G) : W p l e R s m args below meth c H locs 0 0 Z (F0 m 110 ls []) := by
  unfold wp_X3_readAll_110 at hw
  have hx := C.1
  have hb := C.2.1
  refine lv_aload_n hx hb dX3_readAll_110 rfl (lv_at hl 0 rfl) ?_
  refine lv_iconst (v := (1 : Int32)) hx hb dX3_readAll_111 (by decide) ?_
  refine pX_3_23 C h dX3_readAll_112 (fun F1 H locs eF1 h => ?_)
  have hw := hw F1 eF1
  refine lv_aload_n hx hb dX3_readAll_115 rfl (lv_at hl 0 rfl) ?_
  refine lv_iload_n hx hb dX3_readAll_116 rfl (lv_at hl 1 rfl) ?_
  refine pX_3_26 C h dX3_readAll_117 (fun F2 H locs eF2 h => ?_)
  have hw := hw F2 eF2
  exact hq F2 G _ _ _ _ dX3_readAll_120 h hw
set_option maxHeartbeats 4000000 in
set_option maxRecDepth 100000 in
theorem wk_X3_readAll_85 {p : Program} {l : Launch} {e : Env} {R : Room} {s : State} {m : MethodId} {args : Array Value} {below : List Frame} {meth : Method} {c : Code} {K : KT} {A : Nat → Prop} {Z : State → Prop} {a : Nat → Nat} (hR : 7 ≤ R.frames ∧ 186 ≤ R.locals) (C : CX p s m args meth c K A cX3_readAll 4 RX3) {Q : FT → GT → Prop} (hq : RetXv p l e R s m args below meth c K A Z a cX3_readAll Q) (x2 : Int32) (F : FT) (G : GT) {H : Heap} {locs : List Loc} (h : WD K A s (wX K a F G) H locs) {ls : Array Slot} (hl : lv_has ls 4 [(0, .ref (a 2)), (1, .ref (a 1)), (2, .int x2)]) (hw : wp_X3_readAll_85 Q x2 F G) : W p l e R s m args below meth c H locs 0 0 Z (F0 m 85 ls []) := by
  unfold wp_X3_readAll_85 at hw
  have hx := C.1
  have hb := C.2.1
  refine lv_aload_n hx hb dX3_readAll_85 rfl (lv_at hl 0 rfl) ?_
  refine gX_3_23 C h dX3_readAll_86 ?_
  refine lv_if_ne (tgt := 120) hx hb dX3_readAll_89 (by decide) (fun c => ?_) (fun c => ?_)
  · have hw := hw.1 c
    exact hq F G _ _ _ _ dX3_readAll_120 h hw
  · have hw := hw.2 c
    refine lv_aload_n hx hb dX3_readAll_92 rfl (lv_at hl 1 rfl) ?_
    refine gX_3_44 C h dX3_readAll_93 ?_
    refine lv_sipush (v := (300 : Int32)) hx hb dX3_readAll_96 (by decide) ?_
    refine lv_icmp_gt (tgt := 110) hx hb dX3_readAll_99 (by decide) (fun c => ?_) (fun c => ?_)
    · have hw := hw.1 c
      exact wk_X3_readAll_110 hR C hq x2 F G h (lv_sub hl [0, 2] rfl) hw
    · have hw := hw.2 c
      refine lv_aload_n hx hb dX3_readAll_102 rfl (lv_at hl 0 rfl) ?_
      refine gX_3_29 C h dX3_readAll_103 ?_
      refine lv_iconst (v := (1 : Int32)) hx hb dX3_readAll_106 (by decide) ?_
      refine lv_icmp_eq (tgt := 120) hx hb dX3_readAll_107 (by decide) (fun c => ?_) (fun c => ?_)
      · have hw := hw.1 c
        exact hq F G _ _ _ _ dX3_readAll_120 h hw
      · have hw := hw.2 c
        exact wk_X3_readAll_110 hR C hq x2 F G h (lv_sub hl [0, 2] rfl) hw
set_option maxHeartbeats 4000000 in
set_option maxRecDepth 100000 in
theorem wk_X3_readAll_22 {p : Program} {l : Launch} {e : Env} {R : Room} {s : State} {m : MethodId} {args : Array Value} {below : List Frame} {meth : Method} {c : Code} {K : KT} {A : Nat → Prop} {Z : State → Prop} {a : Nat → Nat} (hR : 7 ≤ R.frames ∧ 186 ≤ R.locals) (C : CX p s m args meth c K A cX3_readAll 4 RX3) {Q : FT → GT → Prop} (hq : RetXv p l e R s m args below meth c K A Z a cX3_readAll Q) : ∀ (n : Nat) (x2 : Int32) (x3 : Int32) (F : FT) (G : GT) {H : Heap} {locs : List Loc} (h : WD K A s (wX K a F G) H locs) {ls : Array Slot} (hl : lv_has ls 4 [(0, .ref (a 2)), (1, .ref (a 1)), (2, .int x2), (3, .int x3)]) (hw : wp_X3_readAll_22 Q n x2 x3 F G), W p l e R s m args below meth c H locs 0 0 Z (F0 m 22 ls []) := by
  intro n
  induction n with
  | zero => intro x2 x3 F G H locs h ls hl hw; exact False.elim hw
  | succ n ih =>
    intro x2 x3 F G H locs h ls hl hw
    rw [wp_X3_readAll_22] at hw
    have hx := C.1
    have hb := C.2.1
    refine lv_iload_n hx hb dX3_readAll_22 rfl (lv_at hl 3 rfl) ?_
    refine lv_sipush (v := (300 : Int32)) hx hb dX3_readAll_23 (by decide) ?_
    refine lv_icmp_ge (tgt := 85) hx hb dX3_readAll_26 (by decide) (fun c => ?_) (fun c => ?_)
    · have hw := hw.1 c
      exact wk_X3_readAll_85 hR C hq x2 F G h (lv_sub hl [0, 1, 2] rfl) hw
    · have hw := hw.2 c
      refine lv_aload_n hx hb dX3_readAll_29 rfl (lv_at hl 0 rfl) ?_
      refine gX_3_35 C h dX3_readAll_30 ?_
      refine lv_iload_n hx hb dX3_readAll_33 rfl (lv_at hl 2 rfl) ?_
      refine lv_icmp_ge (tgt := 85) hx hb dX3_readAll_34 (by decide) (fun c => ?_) (fun c => ?_)
      · have hw := hw.1 c
        exact wk_X3_readAll_85 hR C hq x2 F G h (lv_sub hl [0, 1, 2] rfl) hw
      · have hw := hw.2 c
        refine lv_aload_n hx hb dX3_readAll_37 rfl (lv_at hl 0 rfl) ?_
        refine gX_3_23 C h dX3_readAll_38 ?_
        refine lv_if_ne (tgt := 85) hx hb dX3_readAll_41 (by decide) (fun c => ?_) (fun c => ?_)
        · have hw := hw.1 c
          exact wk_X3_readAll_85 hR C hq x2 F G h (lv_sub hl [0, 1, 2] rfl) hw
        · have hw := hw.2 c
          refine lv_aload_n hx hb dX3_readAll_44 rfl (lv_at hl 0 rfl) ?_
          refine lv_aload_n hx hb dX3_readAll_45 rfl (lv_at hl 0 rfl) ?_
          refine lv_aload_n hx hb dX3_readAll_46 rfl (lv_at hl 1 rfl) ?_
          refine lv_aload_n hx hb dX3_readAll_47 rfl (lv_at hl 0 rfl) ?_
          refine lv_aload_n hx hb dX3_readAll_48 rfl (lv_at hl 1 rfl) ?_
          refine kXiV C h (c_X3_tokenKind F G hw) lk_3_59 (rvX_2 K a F G) rfl hl.1 rfl (Nat.le_of_ble_eq_true rfl) ⟨Nat.le_trans (Nat.le_of_ble_eq_true rfl) hR.1, Nat.le_trans (Nat.le_of_ble_eq_true rfl) hR.2⟩ ⟨Nat.zero_le _, Nat.zero_le _⟩ dX3_readAll_49 (fun r3 F1 G2 H locs hw h => ?_)
          refine kXiV C h (c_X3_takeToken r3 F1 G2 hw) lk_3_63 (rvX_2 K a F1 G2) rfl hl.1 rfl (Nat.le_of_ble_eq_true rfl) ⟨Nat.le_trans (Nat.le_of_ble_eq_true rfl) hR.1, Nat.le_trans (Nat.le_of_ble_eq_true rfl) hR.2⟩ ⟨Nat.zero_le _, Nat.zero_le _⟩ dX3_readAll_52 (fun r6 F4 G5 H locs hw h => ?_)
          refine pX_3_23 C h dX3_readAll_55 (fun F7 H locs eF7 h => ?_)
          have hw := hw F7 eF7
          refine lv_aload_n hx hb dX3_readAll_58 rfl (lv_at hl 0 rfl) ?_
          refine lv_aload_n hx hb dX3_readAll_59 rfl (lv_at hl 0 rfl) ?_
          refine gX_3_35 C h dX3_readAll_60 ?_
          refine pX_3_26 C h dX3_readAll_63 (fun F8 H locs eF8 h => ?_)
          have hw := hw F8 eF8
          refine lv_aload_n hx hb dX3_readAll_66 rfl (lv_at hl 0 rfl) ?_
          refine lv_aload_n hx hb dX3_readAll_67 rfl (lv_at hl 0 rfl) ?_
          refine gX_3_38 C h dX3_readAll_68 ?_
          refine pX_3_35 C h dX3_readAll_71 (fun F9 H locs eF9 h => ?_)
          have hw := hw F9 eF9
          refine lv_aload_n hx hb dX3_readAll_74 rfl (lv_at hl 0 rfl) ?_
          refine lv_aload_n hx hb dX3_readAll_75 rfl (lv_at hl 1 rfl) ?_
          refine kXvV C h (c_X3_skipBlanks F9 G5 hw) lk_3_55 (rvX_2 K a F9 G5) rfl hl.1 rfl (Nat.le_of_ble_eq_true rfl) ⟨Nat.le_trans (Nat.le_of_ble_eq_true rfl) hR.1, Nat.le_trans (Nat.le_of_ble_eq_true rfl) hR.2⟩ ⟨Nat.zero_le _, Nat.zero_le _⟩ dX3_readAll_76 (fun F10 G11 H locs hw h => ?_)
          obtain ⟨v12, ev12⟩ : ∃ z : Int32, z = (x3 + 1) := ⟨_, rfl⟩
          have hw := hw v12 ev12
          refine lv_iinc (v := v12) (lv' := [(3, .int v12), (0, .ref (a 2)), (1, .ref (a 1)), (2, .int x2)]) hx hb dX3_readAll_79 hl (k := 3) rfl (by rw [ev12]; rfl) (by decide) rfl (fun ls hl => ?_)
          refine lv_goto (tgt := 22) hx hb dX3_readAll_82 (by decide) ?_
          exact ih x2 v12 F10 G11 h (lv_sub hl [1, 2, 3, 0] rfl) hw
set_option maxHeartbeats 4000000 in
set_option maxRecDepth 100000 in
theorem wk_X3_readAll_0 {p : Program} {l : Launch} {e : Env} {R : Room} {s : State} {m : MethodId} {args : Array Value} {below : List Frame} {meth : Method} {c : Code} {K : KT} {A : Nat → Prop} {Z : State → Prop} {a : Nat → Nat} (hR : 7 ≤ R.frames ∧ 186 ≤ R.locals) (C : CX p s m args meth c K A cX3_readAll 4 RX3) {Q : FT → GT → Prop} (hq : RetXv p l e R s m args below meth c K A Z a cX3_readAll Q) (F : FT) (G : GT) {H : Heap} {locs : List Loc} (h : WD K A s (wX K a F G) H locs) {ls : Array Slot} (hl : lv_has ls 4 [(0, .ref (a 2)), (1, .ref (a 1))]) (hw : wp_X3_readAll_0 Q F G) : W p l e R s m args below meth c H locs 0 0 Z (F0 m 0 ls []) := by
  unfold wp_X3_readAll_0 at hw
  have hx := C.1
  have hb := C.2.1
  refine lv_aload_n hx hb dX3_readAll_0 rfl (lv_at hl 0 rfl) ?_
  refine kXvV C h (c_X3_clear F G hw) lk_3_41 (rvX_2 K a F G) rfl hl.1 rfl (Nat.le_of_ble_eq_true rfl) ⟨Nat.le_trans (Nat.le_of_ble_eq_true rfl) hR.1, Nat.le_trans (Nat.le_of_ble_eq_true rfl) hR.2⟩ ⟨Nat.zero_le _, Nat.zero_le _⟩ dX3_readAll_1 (fun F1 G2 H locs hw h => ?_)
  refine lv_aload_n hx hb dX3_readAll_4 rfl (lv_at hl 1 rfl) ?_
  refine gX_3_44 C h dX3_readAll_5 ?_
  refine lv_sipush (v := (300 : Int32)) hx hb dX3_readAll_8 (by decide) ?_
  refine x_mmin C hl.1 lk_3_49 (Nat.le_of_ble_eq_true rfl) ⟨Nat.le_trans (Nat.le_of_ble_eq_true rfl) hR.1, Nat.le_trans (Nat.le_of_ble_eq_true rfl) hR.2⟩ ⟨Nat.zero_le _, Nat.zero_le _⟩ dX3_readAll_11 ?_
  refine lv_topi (fun v3 ev3 => ?_)
  have hw := hw v3 ev3
  refine lv_istore_n (lv' := [(2, .int v3), (0, .ref (a 2)), (1, .ref (a 1))]) hx hb dX3_readAll_14 rfl hl (by decide) rfl (fun ls hl => ?_)
  refine lv_aload_n hx hb dX3_readAll_15 rfl (lv_at hl 1 rfl) ?_
  refine lv_aload_n hx hb dX3_readAll_16 rfl (lv_at hl 2 rfl) ?_
  refine kXvV C h (c_X3_skipBlanks F1 G2 hw) lk_3_55 (rvX_2 K a F1 G2) rfl hl.1 rfl (Nat.le_of_ble_eq_true rfl) ⟨Nat.le_trans (Nat.le_of_ble_eq_true rfl) hR.1, Nat.le_trans (Nat.le_of_ble_eq_true rfl) hR.2⟩ ⟨Nat.zero_le _, Nat.zero_le _⟩ dX3_readAll_17 (fun F4 G5 H locs hw h => ?_)
  refine lv_iconst (v := (0 : Int32)) hx hb dX3_readAll_20 (by decide) ?_
  refine lv_istore_n (lv' := [(3, .int (0 : Int32)), (2, .int v3), (0, .ref (a 2)), (1, .ref (a 1))]) hx hb dX3_readAll_21 rfl hl (by decide) rfl (fun ls hl => ?_)
  obtain ⟨n, hw⟩ := hw
  exact wk_X3_readAll_22 hR C hq n v3 (0 : Int32) F4 G5 h (lv_sub hl [2, 3, 1, 0] rfl) hw
theorem c_X3_readAll {l : Launch} {K : KT} {a : Nat → Nat} (F : FT) (G : GT) {Q : FT → GT → Prop} (hw : wp_X3_readAll F G Q) : CtXv l K a yX3_readAll cX3_readAll 4 none 7 186 [.ref (a 2), .ref (a 1)] F G Q := fun sz => x_met (Qm := QmXv K a Q) (by decide) (Nat.le_of_ble_eq_true rfl) (fun p e s m below meth c A ls C hr h hl => wk_X3_readAll_0 ⟨Nat.le_refl _, Nat.le_refl _⟩ C (retX_v C hr) F G h hl hw)
