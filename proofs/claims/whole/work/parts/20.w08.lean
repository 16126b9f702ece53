def wp_X8_thrown_0 (Q : Int32 → FT → GT → Int64 → Prop) (F : FT) (G : GT) (w : Int64) : Prop := Q (F 20) F G w
def wp_X8_thrown (F : FT) (G : GT) (w : Int64) (Q : Int32 → FT → GT → Int64 → Prop) : Prop := wp_X8_thrown_0 Q F G w
set_option maxHeartbeats 4000000 in
set_option maxRecDepth 100000 in
theorem wk_X8_thrown_0 {p : Program} {l : Launch} {e : Env} {R : Room} {s : State} {m : MethodId} {args : Array Value} {below : List Frame} {meth : Method} {c : Code} {K : KT} {A : Nat → Prop} {Z : State → Prop} {a : Nat → Nat} (hR : 0 ≤ R.frames ∧ 0 ≤ R.locals) (C : CX p s m args meth c K A cX8_thrown 1 RX8) {Q : Int32 → FT → GT → Int64 → Prop} (hq : RetMi p l e R s m args below meth c K A Z a cX8_thrown Q) (F : FT) (G : GT) (w : Int64) {H : Heap} {locs : List Loc} (h : WD K A s (wM K a F G w) H locs) {ls : Array Slot} (hl : lv_has ls 1 [(0, .ref (a 0))]) (hw : wp_X8_thrown_0 Q F G w) : W p l e R s m args below meth c H locs 0 0 Z (F0 m 0 ls []) := by
  unfold wp_X8_thrown_0 at hw
  have hx := C.1
  have hb := C.2.1
  refine lv_aload_n hx hb dX8_thrown_0 rfl (lv_at hl 0 rfl) ?_
  refine gM_8_89 C h dX8_thrown_1 ?_
  exact hq _ F G w _ _ _ _ dX8_thrown_4 h hw
theorem c_X8_thrown {l : Launch} {K : KT} {a : Nat → Nat} (F : FT) (G : GT) (w : Int64) {Q : Int32 → FT → GT → Int64 → Prop} (hw : wp_X8_thrown F G w Q) : CtMi l K a yX8_thrown cX8_thrown 1 (some .int) 0 0 [.ref (a 0)] F G w Q := fun sz => x_met (Qm := QmMi K a Q) (by decide) (Nat.le_of_ble_eq_true rfl) (fun p e s m below meth c A ls C hr h hl => wk_X8_thrown_0 ⟨Nat.le_refl _, Nat.le_refl _⟩ C (retM_z C hr (fun r F G w _ => rfl)) F G w h hl hw)
def wp_X8_refuse_0 (Q : Int32 → FT → GT → Int64 → Prop) (F : FT) (G : GT) (w : Int64) : Prop := ∀ F1 : FT, F1 = sU F 20 (1 : Int32) → Q (0 : Int32) F1 G w
def wp_X8_refuse (F : FT) (G : GT) (w : Int64) (Q : Int32 → FT → GT → Int64 → Prop) : Prop := wp_X8_refuse_0 Q F G w
set_option maxHeartbeats 4000000 in
set_option maxRecDepth 100000 in
theorem wk_X8_refuse_0 {p : Program} {l : Launch} {e : Env} {R : Room} {s : State} {m : MethodId} {args : Array Value} {below : List Frame} {meth : Method} {c : Code} {K : KT} {A : Nat → Prop} {Z : State → Prop} {a : Nat → Nat} (hR : 0 ≤ R.frames ∧ 0 ≤ R.locals) (C : CX p s m args meth c K A cX8_refuse 1 RX8) {Q : Int32 → FT → GT → Int64 → Prop} (hq : RetMi p l e R s m args below meth c K A Z a cX8_refuse Q) (F : FT) (G : GT) (w : Int64) {H : Heap} {locs : List Loc} (h : WD K A s (wM K a F G w) H locs) {ls : Array Slot} (hl : lv_has ls 1 [(0, .ref (a 0))]) (hw : wp_X8_refuse_0 Q F G w) : W p l e R s m args below meth c H locs 0 0 Z (F0 m 0 ls []) := by
  unfold wp_X8_refuse_0 at hw
  have hx := C.1
  have hb := C.2.1
  refine lv_aload_n hx hb dX8_refuse_0 rfl (lv_at hl 0 rfl) ?_
  refine lv_iconst (v := (1 : Int32)) hx hb dX8_refuse_1 (by decide) ?_
  refine pM_8_89 C h dX8_refuse_2 (fun F1 H locs eF1 h => ?_)
  have hw := hw F1 eF1
  refine lv_iconst (v := (0 : Int32)) hx hb dX8_refuse_5 (by decide) ?_
  exact hq _ F1 G w _ _ _ _ dX8_refuse_6 h hw
theorem c_X8_refuse {l : Launch} {K : KT} {a : Nat → Nat} (F : FT) (G : GT) (w : Int64) {Q : Int32 → FT → GT → Int64 → Prop} (hw : wp_X8_refuse F G w Q) : CtMi l K a yX8_refuse cX8_refuse 1 (some .int) 0 0 [.ref (a 0)] F G w Q := fun sz => x_met (Qm := QmMi K a Q) (by decide) (Nat.le_of_ble_eq_true rfl) (fun p e s m below meth c A ls C hr h hl => wk_X8_refuse_0 ⟨Nat.le_refl _, Nat.le_refl _⟩ C (retM_z C hr (fun r F G w _ => rfl)) F G w h hl hw)
def wp_X8_come_3 (Q : FT → GT → Int64 → Prop) : Nat → Int32 → Int32 → FT → GT → Int64 → Prop
  | 0, _, _, _, _, _ => False
  | n + 1, x1, x2, F, G, w => ((x2 < 0) → Q F G w) ∧ ((¬ x2 < 0) → ∀ v1 : Int32, v1 = (x1.toUInt32 >>> (x2.toUInt32 &&& Int32.toUInt32 31)).toInt32 → vp_in (F 2) 320 ∧ ∀ G2 : GT, G2 = gU G 50 (upd (G 50) (F 2).toNatClampNeg (v1 &&& (255 : Int32))) → ∀ F3 : FT, F3 = sU F 2 ((F 2) + (1 : Int32)) → ∀ v4 : Int32, v4 = (x2 + (-8)) → wp_X8_come_3 Q n x1 v4 F3 G2 w)
def wp_X8_come_0 (Q : FT → GT → Int64 → Prop) (x1 : Int32) (F : FT) (G : GT) (w : Int64) : Prop := ∃ n : Nat, wp_X8_come_3 Q n x1 (24 : Int32) F G w
def wp_X8_come (x1 : Int32) (F : FT) (G : GT) (w : Int64) (Q : FT → GT → Int64 → Prop) : Prop := wp_X8_come_0 Q x1 F G w
set_option maxHeartbeats 4000000 in
set_option maxRecDepth 100000 in
theorem wk_X8_come_3 {p : Program} {l : Launch} {e : Env} {R : Room} {s : State} {m : MethodId} {args : Array Value} {below : List Frame} {meth : Method} {c : Code} {K : KT} {A : Nat → Prop} {Z : State → Prop} {a : Nat → Nat} (hR : 0 ≤ R.frames ∧ 0 ≤ R.locals) (C : CX p s m args meth c K A cX8_come 3 RX8) {Q : FT → GT → Int64 → Prop} (hq : RetMv p l e R s m args below meth c K A Z a cX8_come Q) : ∀ (n : Nat) (x1 : Int32) (x2 : Int32) (F : FT) (G : GT) (w : Int64) {H : Heap} {locs : List Loc} (h : WD K A s (wM K a F G w) H locs) {ls : Array Slot} (hl : lv_has ls 3 [(0, .ref (a 0)), (1, .int x1), (2, .int x2)]) (hw : wp_X8_come_3 Q n x1 x2 F G w), W p l e R s m args below meth c H locs 0 0 Z (F0 m 3 ls []) := by
  intro n
  induction n with
  | zero => intro x1 x2 F G w H locs h ls hl hw; exact False.elim hw
  | succ n ih =>
    intro x1 x2 F G w H locs h ls hl hw
    rw [wp_X8_come_3] at hw
    have hx := C.1
    have hb := C.2.1
    refine lv_iload_n hx hb dX8_come_3 rfl (lv_at hl 2 rfl) ?_
    refine lv_if_lt (tgt := 39) hx hb dX8_come_4 (by decide) (fun c => ?_) (fun c => ?_)
    · have hw := hw.1 c
      exact hq F G w _ _ _ _ dX8_come_39 h hw
    · have hw := hw.2 c
      refine lv_aload_n hx hb dX8_come_7 rfl (lv_at hl 0 rfl) ?_
      refine gM_8_7 C h dX8_come_8 ?_
      refine lv_aload_n hx hb dX8_come_11 rfl (lv_at hl 0 rfl) ?_
      refine gM_8_93 C h dX8_come_12 ?_
      refine lv_iload_n hx hb dX8_come_15 rfl (lv_at hl 1 rfl) ?_
      refine lv_iload_n hx hb dX8_come_16 rfl (lv_at hl 2 rfl) ?_
      refine lv_iushr hx hb dX8_come_17 rfl ?_
      refine lv_topi (fun v1 ev1 => ?_)
      have hw := hw v1 ev1
      refine lv_sipush (v := (255 : Int32)) hx hb dX8_come_18 (by decide) ?_
      refine lv_iand hx hb dX8_come_21 ?_
      have hi := hw.1
      have hw := hw.2
      refine saM_50 C h hi dX8_come_22 (fun G2 H locs eG2 h => ?_)
      have hw := hw G2 eG2
      refine lv_aload_n hx hb dX8_come_23 rfl (lv_at hl 0 rfl) ?_
      refine lv_dup hx hb dX8_come_24 rfl ?_
      refine gM_8_93 C h dX8_come_25 ?_
      refine lv_iconst (v := (1 : Int32)) hx hb dX8_come_28 (by decide) ?_
      refine lv_iadd hx hb dX8_come_29 ?_
      refine pM_8_93 C h dX8_come_30 (fun F3 H locs eF3 h => ?_)
      have hw := hw F3 eF3
      obtain ⟨v4, ev4⟩ : ∃ z : Int32, z = (x2 + (-8)) := ⟨_, rfl⟩
      have hw := hw v4 ev4
      refine lv_iinc (v := v4) (lv' := [(2, .int v4), (0, .ref (a 0)), (1, .int x1)]) hx hb dX8_come_33 hl (k := 2) rfl (by rw [ev4]; rfl) (by decide) rfl (fun ls hl => ?_)
      refine lv_goto (tgt := 3) hx hb dX8_come_36 (by decide) ?_
      exact ih x1 v4 F3 G2 w h (lv_sub hl [1, 2, 0] rfl) hw
set_option maxHeartbeats 4000000 in
set_option maxRecDepth 100000 in
theorem wk_X8_come_0 {p : Program} {l : Launch} {e : Env} {R : Room} {s : State} {m : MethodId} {args : Array Value} {below : List Frame} {meth : Method} {c : Code} {K : KT} {A : Nat → Prop} {Z : State → Prop} {a : Nat → Nat} (hR : 0 ≤ R.frames ∧ 0 ≤ R.locals) (C : CX p s m args meth c K A cX8_come 3 RX8) {Q : FT → GT → Int64 → Prop} (hq : RetMv p l e R s m args below meth c K A Z a cX8_come Q) (x1 : Int32) (F : FT) (G : GT) (w : Int64) {H : Heap} {locs : List Loc} (h : WD K A s (wM K a F G w) H locs) {ls : Array Slot} (hl : lv_has ls 3 [(0, .ref (a 0)), (1, .int x1)]) (hw : wp_X8_come_0 Q x1 F G w) : W p l e R s m args below meth c H locs 0 0 Z (F0 m 0 ls []) := by
  unfold wp_X8_come_0 at hw
  have hx := C.1
  have hb := C.2.1
  refine lv_bipush (v := (24 : Int32)) hx hb dX8_come_0 (by decide) ?_
  refine lv_istore_n (lv' := [(2, .int (24 : Int32)), (0, .ref (a 0)), (1, .int x1)]) hx hb dX8_come_2 rfl hl (by decide) rfl (fun ls hl => ?_)
  obtain ⟨n, hw⟩ := hw
  exact wk_X8_come_3 hR C hq n x1 (24 : Int32) F G w h (lv_sub hl [1, 2, 0] rfl) hw
theorem c_X8_come {l : Launch} {K : KT} {a : Nat → Nat} (x1 : Int32) (F : FT) (G : GT) (w : Int64) {Q : FT → GT → Int64 → Prop} (hw : wp_X8_come x1 F G w Q) : CtMv l K a yX8_come cX8_come 3 none 0 0 [.ref (a 0), .int x1] F G w Q := fun sz => x_met (Qm := QmMv K a Q) (by decide) (Nat.le_of_ble_eq_true rfl) (fun p e s m below meth c A ls C hr h hl => wk_X8_come_0 ⟨Nat.le_refl _, Nat.le_refl _⟩ C (retM_v C hr) x1 F G w h hl hw)
def wp_X8_feed_0 (Q : Int32 → FT → GT → Int64 → Prop) (x1 : Int32) (x2 : Int32) (x3 : Int32) (x4 : Int32) (x5 : Int32) (F : FT) (G : GT) (w : Int64) : Prop := ∀ F1 : FT, F1 = sU F 20 (0 : Int32) → ((((F1 2) + (20 : Int32)) ≤ (320 : Int32)) → wp_X8_come x1 F1 G w (fun F2 G3 w4 => wp_X8_come x2 F2 G3 w4 (fun F5 G6 w7 => wp_X8_come x3 F5 G6 w7 (fun F8 G9 w10 => wp_X8_come x4 F8 G9 w10 (fun F11 G12 w13 => wp_X8_come x5 F11 G12 w13 (fun F14 G15 w16 => Q (F14 2) F14 G15 w16)))))) ∧ ((¬ ((F1 2) + (20 : Int32)) ≤ (320 : Int32)) → Q (-1 : Int32) F1 G w)
def wp_X8_feed (x1 : Int32) (x2 : Int32) (x3 : Int32) (x4 : Int32) (x5 : Int32) (F : FT) (G : GT) (w : Int64) (Q : Int32 → FT → GT → Int64 → Prop) : Prop := wp_X8_feed_0 Q x1 x2 x3 x4 x5 F G w
set_option maxHeartbeats 4000000 in
set_option maxRecDepth 100000 in
theorem wk_X8_feed_0 {p : Program} {l : Launch} {e : Env} {R : Room} {s : State} {m : MethodId} {args : Array Value} {below : List Frame} {meth : Method} {c : Code} {K : KT} {A : Nat → Prop} {Z : State → Prop} {a : Nat → Nat} (hR : 1 ≤ R.frames ∧ 22 ≤ R.locals) (C : CX p s m args meth c K A cX8_feed 6 RX8) {Q : Int32 → FT → GT → Int64 → Prop} (hq : RetMi p l e R s m args below meth c K A Z a cX8_feed Q) (x1 : Int32) (x2 : Int32) (x3 : Int32) (x4 : Int32) (x5 : Int32) (F : FT) (G : GT) (w : Int64) {H : Heap} {locs : List Loc} (h : WD K A s (wM K a F G w) H locs) {ls : Array Slot} (hl : lv_has ls 6 [(0, .ref (a 0)), (1, .int x1), (2, .int x2), (3, .int x3), (4, .int x4), (5, .int x5)]) (hw : wp_X8_feed_0 Q x1 x2 x3 x4 x5 F G w) : W p l e R s m args below meth c H locs 0 0 Z (F0 m 0 ls []) := by
  unfold wp_X8_feed_0 at hw
  have hx := C.1
  have hb := C.2.1
  refine lv_aload_n hx hb dX8_feed_0 rfl (lv_at hl 0 rfl) ?_
  refine lv_iconst (v := (0 : Int32)) hx hb dX8_feed_1 (by decide) ?_
  refine pM_8_89 C h dX8_feed_2 (fun F1 H locs eF1 h => ?_)
  have hw := hw F1 eF1
  refine lv_aload_n hx hb dX8_feed_5 rfl (lv_at hl 0 rfl) ?_
  refine gM_8_93 C h dX8_feed_6 ?_
  refine lv_bipush (v := (20 : Int32)) hx hb dX8_feed_9 (by decide) ?_
  refine lv_iadd hx hb dX8_feed_11 ?_
  refine lv_sipush (v := (320 : Int32)) hx hb dX8_feed_12 (by decide) ?_
  refine lv_icmp_le (tgt := 20) hx hb dX8_feed_15 (by decide) (fun c => ?_) (fun c => ?_)
  · have hw := hw.1 c
    refine lv_aload_n hx hb dX8_feed_20 rfl (lv_at hl 0 rfl) ?_
    refine lv_iload_n hx hb dX8_feed_21 rfl (lv_at hl 1 rfl) ?_
    refine kMvV C h (c_X8_come x1 F1 G w hw) lk_8_96 (rvM_0 K a F1 G w) rfl hl.1 rfl (Nat.le_of_ble_eq_true rfl) ⟨Nat.le_trans (Nat.le_of_ble_eq_true rfl) hR.1, Nat.le_trans (Nat.le_of_ble_eq_true rfl) hR.2⟩ ⟨Nat.zero_le _, Nat.zero_le _⟩ dX8_feed_22 (fun F2 G3 w4 H locs hw h => ?_)
    refine lv_aload_n hx hb dX8_feed_25 rfl (lv_at hl 0 rfl) ?_
    refine lv_iload_n hx hb dX8_feed_26 rfl (lv_at hl 2 rfl) ?_
    refine kMvV C h (c_X8_come x2 F2 G3 w4 hw) lk_8_96 (rvM_0 K a F2 G3 w4) rfl hl.1 rfl (Nat.le_of_ble_eq_true rfl) ⟨Nat.le_trans (Nat.le_of_ble_eq_true rfl) hR.1, Nat.le_trans (Nat.le_of_ble_eq_true rfl) hR.2⟩ ⟨Nat.zero_le _, Nat.zero_le _⟩ dX8_feed_27 (fun F5 G6 w7 H locs hw h => ?_)
    refine lv_aload_n hx hb dX8_feed_30 rfl (lv_at hl 0 rfl) ?_
    refine lv_iload_n hx hb dX8_feed_31 rfl (lv_at hl 3 rfl) ?_
    refine kMvV C h (c_X8_come x3 F5 G6 w7 hw) lk_8_96 (rvM_0 K a F5 G6 w7) rfl hl.1 rfl (Nat.le_of_ble_eq_true rfl) ⟨Nat.le_trans (Nat.le_of_ble_eq_true rfl) hR.1, Nat.le_trans (Nat.le_of_ble_eq_true rfl) hR.2⟩ ⟨Nat.zero_le _, Nat.zero_le _⟩ dX8_feed_32 (fun F8 G9 w10 H locs hw h => ?_)
    refine lv_aload_n hx hb dX8_feed_35 rfl (lv_at hl 0 rfl) ?_
    refine lv_iload hx hb dX8_feed_36 (lv_at hl 4 rfl) ?_
    refine kMvV C h (c_X8_come x4 F8 G9 w10 hw) lk_8_96 (rvM_0 K a F8 G9 w10) rfl hl.1 rfl (Nat.le_of_ble_eq_true rfl) ⟨Nat.le_trans (Nat.le_of_ble_eq_true rfl) hR.1, Nat.le_trans (Nat.le_of_ble_eq_true rfl) hR.2⟩ ⟨Nat.zero_le _, Nat.zero_le _⟩ dX8_feed_38 (fun F11 G12 w13 H locs hw h => ?_)
    refine lv_aload_n hx hb dX8_feed_41 rfl (lv_at hl 0 rfl) ?_
    refine lv_iload hx hb dX8_feed_42 (lv_at hl 5 rfl) ?_
    refine kMvV C h (c_X8_come x5 F11 G12 w13 hw) lk_8_96 (rvM_0 K a F11 G12 w13) rfl hl.1 rfl (Nat.le_of_ble_eq_true rfl) ⟨Nat.le_trans (Nat.le_of_ble_eq_true rfl) hR.1, Nat.le_trans (Nat.le_of_ble_eq_true rfl) hR.2⟩ ⟨Nat.zero_le _, Nat.zero_le _⟩ dX8_feed_44 (fun F14 G15 w16 H locs hw h => ?_)
    refine lv_aload_n hx hb dX8_feed_47 rfl (lv_at hl 0 rfl) ?_
    refine gM_8_93 C h dX8_feed_48 ?_
    exact hq _ F14 G15 w16 _ _ _ _ dX8_feed_51 h hw
  · have hw := hw.2 c
    refine lv_iconst (v := (-1 : Int32)) hx hb dX8_feed_18 (by decide) ?_
    exact hq _ F1 G w _ _ _ _ dX8_feed_19 h hw
theorem c_X8_feed {l : Launch} {K : KT} {a : Nat → Nat} (x1 : Int32) (x2 : Int32) (x3 : Int32) (x4 : Int32) (x5 : Int32) (F : FT) (G : GT) (w : Int64) {Q : Int32 → FT → GT → Int64 → Prop} (hw : wp_X8_feed x1 x2 x3 x4 x5 F G w Q) : CtMi l K a yX8_feed cX8_feed 6 (some .int) 1 22 [.ref (a 0), .int x1, .int x2, .int x3, .int x4, .int x5] F G w Q := fun sz => x_met (Qm := QmMi K a Q) (by decide) (Nat.le_of_ble_eq_true rfl) (fun p e s m below meth c A ls C hr h hl => wk_X8_feed_0 ⟨Nat.le_refl _, Nat.le_refl _⟩ C (retM_z C hr (fun r F G w _ => rfl)) x1 x2 x3 x4 x5 F G w h hl hw)
def wp_X8_end_0 (Q : Int32 → FT → GT → Int64 → Prop) (x1 : Int32) (F : FT) (G : GT) (w : Int64) : Prop := ∀ F1 : FT, F1 = sU F 20 (0 : Int32) → ((x1 < 0) → Q (0 : Int32) F1 G w) ∧ ((¬ x1 < 0) → ((x1 ≤ (F1 2)) → ∀ F2 : FT, F2 = sU F1 2 x1 → Q (1 : Int32) F2 G w) ∧ ((¬ x1 ≤ (F1 2)) → Q (0 : Int32) F1 G w))
def wp_X8_end (x1 : Int32) (F : FT) (G : GT) (w : Int64) (Q : Int32 → FT → GT → Int64 → Prop) : Prop := wp_X8_end_0 (fun r F G w => (r = 0 ∨ r = 1) ∧ Q r F G w) x1 F G w
set_option maxHeartbeats 4000000 in
set_option maxRecDepth 100000 in
theorem wk_X8_end_0 {p : Program} {l : Launch} {e : Env} {R : Room} {s : State} {m : MethodId} {args : Array Value} {below : List Frame} {meth : Method} {c : Code} {K : KT} {A : Nat → Prop} {Z : State → Prop} {a : Nat → Nat} (hR : 0 ≤ R.frames ∧ 0 ≤ R.locals) (C : CX p s m args meth c K A cX8_end 2 RX8) {Q : Int32 → FT → GT → Int64 → Prop} (hq : RetMi p l e R s m args below meth c K A Z a cX8_end Q) (x1 : Int32) (F : FT) (G : GT) (w : Int64) {H : Heap} {locs : List Loc} (h : WD K A s (wM K a F G w) H locs) {ls : Array Slot} (hl : lv_has ls 2 [(0, .ref (a 0)), (1, .int x1)]) (hw : wp_X8_end_0 Q x1 F G w) : W p l e R s m args below meth c H locs 0 0 Z (F0 m 0 ls []) := by
  unfold wp_X8_end_0 at hw
  have hx := C.1
  have hb := C.2.1
  refine lv_aload_n hx hb dX8_end_0 rfl (lv_at hl 0 rfl) ?_
  refine lv_iconst (v := (0 : Int32)) hx hb dX8_end_1 (by decide) ?_
  refine pM_8_89 C h dX8_end_2 (fun F1 H locs eF1 h => ?_)
  have hw := hw F1 eF1
  refine lv_iload_n hx hb dX8_end_5 rfl (lv_at hl 1 rfl) ?_
  refine lv_if_lt (tgt := 17) hx hb dX8_end_6 (by decide) (fun c => ?_) (fun c => ?_)
  · have hw := hw.1 c
    refine lv_iconst (v := (0 : Int32)) hx hb dX8_end_17 (by decide) ?_
    exact hq _ F1 G w _ _ _ _ dX8_end_18 h hw
  · have hw := hw.2 c
    refine lv_iload_n hx hb dX8_end_9 rfl (lv_at hl 1 rfl) ?_
    refine lv_aload_n hx hb dX8_end_10 rfl (lv_at hl 0 rfl) ?_
    refine gM_8_93 C h dX8_end_11 ?_
    refine lv_icmp_le (tgt := 19) hx hb dX8_end_14 (by decide) (fun c => ?_) (fun c => ?_)
    · have hw := hw.1 c
      refine lv_aload_n hx hb dX8_end_19 rfl (lv_at hl 0 rfl) ?_
      refine lv_iload_n hx hb dX8_end_20 rfl (lv_at hl 1 rfl) ?_
      refine pM_8_93 C h dX8_end_21 (fun F2 H locs eF2 h => ?_)
      have hw := hw F2 eF2
      refine lv_iconst (v := (1 : Int32)) hx hb dX8_end_24 (by decide) ?_
      exact hq _ F2 G w _ _ _ _ dX8_end_25 h hw
    · have hw := hw.2 c
      refine lv_iconst (v := (0 : Int32)) hx hb dX8_end_17 (by decide) ?_
      exact hq _ F1 G w _ _ _ _ dX8_end_18 h hw
theorem c_X8_end {l : Launch} {K : KT} {a : Nat → Nat} (x1 : Int32) (F : FT) (G : GT) (w : Int64) {Q : Int32 → FT → GT → Int64 → Prop} (hw : wp_X8_end x1 F G w Q) : CtMi l K a yX8_end cX8_end 2 (some .boolean) 0 0 [.ref (a 0), .int x1] F G w (fun r F G w => (r = 0 ∨ r = 1) ∧ Q r F G w) := fun sz => x_met (Qm := QmMi K a (fun r F G w => (r = 0 ∨ r = 1) ∧ Q r F G w)) (by decide) (Nat.le_of_ble_eq_true rfl) (fun p e s m below meth c A ls C hr h hl => wk_X8_end_0 ⟨Nat.le_refl _, Nat.le_refl _⟩ C (retM_z C hr (fun r F G w hz => by rcases hz.1 with z | z <;> rw [z] <;> rfl)) x1 F G w h hl hw)
def wp_X8_byteAt_0 (Q : Int32 → FT → GT → Int64 → Prop) (x1 : Int32) (F : FT) (G : GT) (w : Int64) : Prop := (((F 21) ≤ x1) → Q (0 : Int32) F G w) ∧ ((¬ (F 21) ≤ x1) → vp_in x1 320 ∧ Q (G 50 x1.toNatClampNeg) F G w)
def wp_X8_byteAt (x1 : Int32) (F : FT) (G : GT) (w : Int64) (Q : Int32 → FT → GT → Int64 → Prop) : Prop := wp_X8_byteAt_0 Q x1 F G w
set_option maxHeartbeats 4000000 in
set_option maxRecDepth 100000 in
theorem wk_X8_byteAt_0 {p : Program} {l : Launch} {e : Env} {R : Room} {s : State} {m : MethodId} {args : Array Value} {below : List Frame} {meth : Method} {c : Code} {K : KT} {A : Nat → Prop} {Z : State → Prop} {a : Nat → Nat} (hR : 0 ≤ R.frames ∧ 0 ≤ R.locals) (C : CX p s m args meth c K A cX8_byteAt 2 RX8) {Q : Int32 → FT → GT → Int64 → Prop} (hq : RetMi p l e R s m args below meth c K A Z a cX8_byteAt Q) (x1 : Int32) (F : FT) (G : GT) (w : Int64) {H : Heap} {locs : List Loc} (h : WD K A s (wM K a F G w) H locs) {ls : Array Slot} (hl : lv_has ls 2 [(0, .ref (a 0)), (1, .int x1)]) (hw : wp_X8_byteAt_0 Q x1 F G w) : W p l e R s m args below meth c H locs 0 0 Z (F0 m 0 ls []) := by
  unfold wp_X8_byteAt_0 at hw
  have hx := C.1
  have hb := C.2.1
  refine lv_iload_n hx hb dX8_byteAt_0 rfl (lv_at hl 1 rfl) ?_
  refine lv_aload_n hx hb dX8_byteAt_1 rfl (lv_at hl 0 rfl) ?_
  refine gM_8_100 C h dX8_byteAt_2 ?_
  refine lv_icmp_ge (tgt := 17) hx hb dX8_byteAt_5 (by decide) (fun c => ?_) (fun c => ?_)
  · have hw := hw.1 c
    refine lv_iconst (v := (0 : Int32)) hx hb dX8_byteAt_17 (by decide) ?_
    exact hq _ F G w _ _ _ _ dX8_byteAt_18 h hw
  · have hw := hw.2 c
    refine lv_aload_n hx hb dX8_byteAt_8 rfl (lv_at hl 0 rfl) ?_
    refine gM_8_7 C h dX8_byteAt_9 ?_
    refine lv_iload_n hx hb dX8_byteAt_12 rfl (lv_at hl 1 rfl) ?_
    have hi := hw.1
    have hw := hw.2
    refine laM_50 C h hi dX8_byteAt_13 ?_
    refine lv_goto (tgt := 18) hx hb dX8_byteAt_14 (by decide) ?_
    exact hq _ F G w _ _ _ _ dX8_byteAt_18 h hw
theorem c_X8_byteAt {l : Launch} {K : KT} {a : Nat → Nat} (x1 : Int32) (F : FT) (G : GT) (w : Int64) {Q : Int32 → FT → GT → Int64 → Prop} (hw : wp_X8_byteAt x1 F G w Q) : CtMi l K a yX8_byteAt cX8_byteAt 2 (some .int) 0 0 [.ref (a 0), .int x1] F G w Q := fun sz => x_met (Qm := QmMi K a Q) (by decide) (Nat.le_of_ble_eq_true rfl) (fun p e s m below meth c A ls C hr h hl => wk_X8_byteAt_0 ⟨Nat.le_refl _, Nat.le_refl _⟩ C (retM_z C hr (fun r F G w _ => rfl)) x1 F G w h hl hw)
def wp_X8_isDigit_0 (Q : Int32 → FT → GT → Int64 → Prop) (x0 : Int32) (F : FT) (G : GT) (w : Int64) : Prop := ((x0 < (48 : Int32)) → Q (0 : Int32) F G w) ∧ ((¬ x0 < (48 : Int32)) → (((57 : Int32) < x0) → Q (0 : Int32) F G w) ∧ ((¬ (57 : Int32) < x0) → Q (1 : Int32) F G w))
def wp_X8_isDigit (x0 : Int32) (F : FT) (G : GT) (w : Int64) (Q : Int32 → FT → GT → Int64 → Prop) : Prop := wp_X8_isDigit_0 (fun r F G w => (r = 0 ∨ r = 1) ∧ Q r F G w) x0 F G w
set_option maxHeartbeats 4000000 in
set_option maxRecDepth 100000 in
theorem wk_X8_isDigit_0 {p : Program} {l : Launch} {e : Env} {R : Room} {s : State} {m : MethodId} {args : Array Value} {below : List Frame} {meth : Method} {c : Code} {K : KT} {A : Nat → Prop} {Z : State → Prop} {a : Nat → Nat} (hR : 0 ≤ R.frames ∧ 0 ≤ R.locals) (C : CX p s m args meth c K A cX8_isDigit 1 RX8) {Q : Int32 → FT → GT → Int64 → Prop} (hq : RetMi p l e R s m args below meth c K A Z a cX8_isDigit Q) (x0 : Int32) (F : FT) (G : GT) (w : Int64) {H : Heap} {locs : List Loc} (h : WD K A s (wM K a F G w) H locs) {ls : Array Slot} (hl : lv_has ls 1 [(0, .int x0)]) (hw : wp_X8_isDigit_0 Q x0 F G w) : W p l e R s m args below meth c H locs 0 0 Z (F0 m 0 ls []) := by
  unfold wp_X8_isDigit_0 at hw
  have hx := C.1
  have hb := C.2.1
  refine lv_iload_n hx hb dX8_isDigit_0 rfl (lv_at hl 0 rfl) ?_
  refine lv_bipush (v := (48 : Int32)) hx hb dX8_isDigit_1 (by decide) ?_
  refine lv_icmp_lt (tgt := 16) hx hb dX8_isDigit_3 (by decide) (fun c => ?_) (fun c => ?_)
  · have hw := hw.1 c
    refine lv_iconst (v := (0 : Int32)) hx hb dX8_isDigit_16 (by decide) ?_
    exact hq _ F G w _ _ _ _ dX8_isDigit_17 h hw
  · have hw := hw.2 c
    refine lv_iload_n hx hb dX8_isDigit_6 rfl (lv_at hl 0 rfl) ?_
    refine lv_bipush (v := (57 : Int32)) hx hb dX8_isDigit_7 (by decide) ?_
    refine lv_icmp_gt (tgt := 16) hx hb dX8_isDigit_9 (by decide) (fun c => ?_) (fun c => ?_)
    · have hw := hw.1 c
      refine lv_iconst (v := (0 : Int32)) hx hb dX8_isDigit_16 (by decide) ?_
      exact hq _ F G w _ _ _ _ dX8_isDigit_17 h hw
    · have hw := hw.2 c
      refine lv_iconst (v := (1 : Int32)) hx hb dX8_isDigit_12 (by decide) ?_
      refine lv_goto (tgt := 17) hx hb dX8_isDigit_13 (by decide) ?_
      exact hq _ F G w _ _ _ _ dX8_isDigit_17 h hw
theorem c_X8_isDigit {l : Launch} {K : KT} {a : Nat → Nat} (x0 : Int32) (F : FT) (G : GT) (w : Int64) {Q : Int32 → FT → GT → Int64 → Prop} (hw : wp_X8_isDigit x0 F G w Q) : CtMi l K a yX8_isDigit cX8_isDigit 1 (some .boolean) 0 0 [.int x0] F G w (fun r F G w => (r = 0 ∨ r = 1) ∧ Q r F G w) := fun sz => x_met (Qm := QmMi K a (fun r F G w => (r = 0 ∨ r = 1) ∧ Q r F G w)) (by decide) (Nat.le_of_ble_eq_true rfl) (fun p e s m below meth c A ls C hr h hl => wk_X8_isDigit_0 ⟨Nat.le_refl _, Nat.le_refl _⟩ C (retM_z C hr (fun r F G w hz => by rcases hz.1 with z | z <;> rw [z] <;> rfl)) x0 F G w h hl hw)
def wp_X8_isLetter_0 (Q : Int32 → FT → GT → Int64 → Prop) (x0 : Int32) (F : FT) (G : GT) (w : Int64) : Prop := ((x0 < (97 : Int32)) → Q (0 : Int32) F G w) ∧ ((¬ x0 < (97 : Int32)) → (((122 : Int32) < x0) → Q (0 : Int32) F G w) ∧ ((¬ (122 : Int32) < x0) → Q (1 : Int32) F G w))
def wp_X8_isLetter (x0 : Int32) (F : FT) (G : GT) (w : Int64) (Q : Int32 → FT → GT → Int64 → Prop) : Prop := wp_X8_isLetter_0 (fun r F G w => (r = 0 ∨ r = 1) ∧ Q r F G w) x0 F G w
set_option maxHeartbeats 4000000 in
set_option maxRecDepth 100000 in
theorem wk_X8_isLetter_0 {p : Program} {l : Launch} {e : Env} {R : Room} {s : State} {m : MethodId} {args : Array Value} {below : List Frame} {meth : Method} {c : Code} {K : KT} {A : Nat → Prop} {Z : State → Prop} {a : Nat → Nat} (hR : 0 ≤ R.frames ∧ 0 ≤ R.locals) (C : CX p s m args meth c K A cX8_isLetter 1 RX8) {Q : Int32 → FT → GT → Int64 → Prop} (hq : RetMi p l e R s m args below meth c K A Z a cX8_isLetter Q) (x0 : Int32) (F : FT) (G : GT) (w : Int64) {H : Heap} {locs : List Loc} (h : WD K A s (wM K a F G w) H locs) {ls : Array Slot} (hl : lv_has ls 1 [(0, .int x0)]) (hw : wp_X8_isLetter_0 Q x0 F G w) : W p l e R s m args below meth c H locs 0 0 Z (F0 m 0 ls []) := by
  unfold wp_X8_isLetter_0 at hw
  have hx := C.1
  have hb := C.2.1
  refine lv_iload_n hx hb dX8_isLetter_0 rfl (lv_at hl 0 rfl) ?_
  refine lv_bipush (v := (97 : Int32)) hx hb dX8_isLetter_1 (by decide) ?_
  refine lv_icmp_lt (tgt := 16) hx hb dX8_isLetter_3 (by decide) (fun c => ?_) (fun c => ?_)
  · have hw := hw.1 c
    refine lv_iconst (v := (0 : Int32)) hx hb dX8_isLetter_16 (by decide) ?_
    exact hq _ F G w _ _ _ _ dX8_isLetter_17 h hw
  · have hw := hw.2 c
    refine lv_iload_n hx hb dX8_isLetter_6 rfl (lv_at hl 0 rfl) ?_
    refine lv_bipush (v := (122 : Int32)) hx hb dX8_isLetter_7 (by decide) ?_
    refine lv_icmp_gt (tgt := 16) hx hb dX8_isLetter_9 (by decide) (fun c => ?_) (fun c => ?_)
    · have hw := hw.1 c
      refine lv_iconst (v := (0 : Int32)) hx hb dX8_isLetter_16 (by decide) ?_
      exact hq _ F G w _ _ _ _ dX8_isLetter_17 h hw
    · have hw := hw.2 c
      refine lv_iconst (v := (1 : Int32)) hx hb dX8_isLetter_12 (by decide) ?_
      refine lv_goto (tgt := 17) hx hb dX8_isLetter_13 (by decide) ?_
      exact hq _ F G w _ _ _ _ dX8_isLetter_17 h hw
theorem c_X8_isLetter {l : Launch} {K : KT} {a : Nat → Nat} (x0 : Int32) (F : FT) (G : GT) (w : Int64) {Q : Int32 → FT → GT → Int64 → Prop} (hw : wp_X8_isLetter x0 F G w Q) : CtMi l K a yX8_isLetter cX8_isLetter 1 (some .boolean) 0 0 [.int x0] F G w (fun r F G w => (r = 0 ∨ r = 1) ∧ Q r F G w) := fun sz => x_met (Qm := QmMi K a (fun r F G w => (r = 0 ∨ r = 1) ∧ Q r F G w)) (by decide) (Nat.le_of_ble_eq_true rfl) (fun p e s m below meth c A ls C hr h hl => wk_X8_isLetter_0 ⟨Nat.le_refl _, Nat.le_refl _⟩ C (retM_z C hr (fun r F G w hz => by rcases hz.1 with z | z <;> rw [z] <;> rfl)) x0 F G w h hl hw)
def wp_X8_go_305 (Q : FT → GT → Int64 → Prop) (kb : Int32 → Int32 → FT → GT → Int64 → Prop) (x2 : Int32) (x3 : Int32) (F : FT) (G : GT) (w : Int64) : Prop := ∀ F1 : FT, F1 = sU F 22 ((F 22) + (1 : Int32)) → kb x2 x3 F1 G w
def wp_X8_go_272 (Q : FT → GT → Int64 → Prop) (kb : Int32 → Int32 → FT → GT → Int64 → Prop) (x2 : Int32) (x3 : Int32) (x4 : Int32) (s0 : Int64) (F : FT) (G : GT) (w : Int64) : Prop := ∀ w1 : Int64, w1 = s0 → (((3 : Int32) ≤ ((F 22) - (F 23))) → wp_X8_go_305 Q kb x2 x3 F G w1) ∧ ((¬ (3 : Int32) ≤ ((F 22) - (F 23))) → ∀ v2 : Int32, v2 = ((((10 : Int32) * (F 25)) + x4) - (48 : Int32)) → ∀ F3 : FT, F3 = sU F 25 v2 → wp_X8_go_305 Q kb x2 x3 F3 G w1)
def wp_X8_go_234 (Q : FT → GT → Int64 → Prop) (kb : Int32 → Int32 → FT → GT → Int64 → Prop) (x2 : Int32) (x4 : Int32) (s0 : Int32) (F : FT) (G : GT) (w : Int64) : Prop := (((8 : Int32) ≤ ((F 22) - (F 23))) → wp_X8_go_272 Q kb x2 s0 x4 (-1 : Int64) F G w) ∧ ((¬ (8 : Int32) ≤ ((F 22) - (F 23))) → ∀ v1 : Int64, v1 = ((((27 : Int64) * w) + (x4).toInt64) - (96 : Int64)) → wp_X8_go_272 Q kb x2 s0 x4 v1 F G w)
def wp_X8_go_233 (Q : FT → GT → Int64 → Prop) (kb : Int32 → Int32 → FT → GT → Int64 → Prop) (x2 : Int32) (x4 : Int32) (F : FT) (G : GT) (w : Int64) : Prop := wp_X8_go_234 Q kb x2 x4 (0 : Int32) F G w
def wp_X8_go_205 (Q : FT → GT → Int64 → Prop) (kb : Int32 → Int32 → FT → GT → Int64 → Prop) (x2 : Int32) (x3 : Int32) (F : FT) (G : GT) (w : Int64) : Prop := vp_in (F 22) 320 ∧ ((x3 = 0) → wp_X8_go_233 Q kb x2 (G 50 (F 22).toNatClampNeg) F G w) ∧ ((¬ x3 = 0) → wp_X8_isLetter (G 50 (F 22).toNatClampNeg) F G w (fun r4 F1 G2 w3 => ((¬ r4 = x2) → wp_X8_go_233 Q kb x2 (G 50 (F 22).toNatClampNeg) F1 G2 w3) ∧ ((r4 = x2) → wp_X8_go_234 Q kb x2 (G 50 (F 22).toNatClampNeg) (1 : Int32) F1 G2 w3)))
def wp_X8_go_344 (Q : FT → GT → Int64 → Prop) (x2 : Int32) (F : FT) (G : GT) (w : Int64) : Prop := ((x2 = 0) → ∀ F1 : FT, F1 = sU F 24 (3 : Int32) → Q F1 G w) ∧ ((¬ x2 = 0) → ∀ F2 : FT, F2 = sU F 24 (2 : Int32) → Q F2 G w)
def wp_X8_go_177 (Q : FT → GT → Int64 → Prop) : Nat → Int32 → Int32 → FT → GT → Int64 → Prop
  | 0, _, _, _, _, _ => False
  | n + 1, x2, x3, F, G, w => wp_X8_byteAt (F 22) F G w (fun r4 F1 G2 w3 => wp_X8_isLetter r4 F1 G2 w3 (fun r8 F5 G6 w7 => ((¬ r8 = 0) → wp_X8_go_205 Q (fun x2 x3 F G w => wp_X8_go_177 Q n x2 x3 F G w) x2 x3 F5 G6 w7) ∧ ((r8 = 0) → wp_X8_byteAt (F5 22) F5 G6 w7 (fun r12 F9 G10 w11 => wp_X8_isDigit r12 F9 G10 w11 (fun r16 F13 G14 w15 => ((r16 = 0) → ((x3 = 0) → ∀ F17 : FT, F17 = sU F13 24 (1 : Int32) → Q F17 G14 w15) ∧ ((¬ x3 = 0) → ((¬ x2 = 0) → wp_X8_go_344 Q x2 F13 G14 w15) ∧ ((x2 = 0) → ((((F13 22) - (F13 23)) ≤ (3 : Int32)) → wp_X8_go_344 Q x2 F13 G14 w15) ∧ ((¬ ((F13 22) - (F13 23)) ≤ (3 : Int32)) → ∀ F18 : FT, F18 = sU F13 24 (1 : Int32) → Q F18 G14 w15)))) ∧ ((¬ r16 = 0) → wp_X8_go_205 Q (fun x2 x3 F G w => wp_X8_go_177 Q n x2 x3 F G w) x2 x3 F13 G14 w15))))))
def wp_X8_go_160 (Q : FT → GT → Int64 → Prop) (x1 : Int32) (F : FT) (G : GT) (w : Int64) : Prop := wp_X8_isLetter x1 F G w (fun r4 F1 G2 w3 => ∀ w5 : Int64, w5 = (0 : Int64) → ∀ F6 : FT, F6 = sU F1 25 (0 : Int32) → ∃ n : Nat, wp_X8_go_177 Q n r4 (1 : Int32) F6 G2 w5)
def wp_X8_go_146 (Q : FT → GT → Int64 → Prop) (s0 : Int32) (F : FT) (G : GT) (w : Int64) : Prop := ∀ F1 : FT, F1 = sU F 24 s0 → ∀ F2 : FT, F2 = sU F1 22 ((F1 22) + (1 : Int32)) → Q F2 G w
def wp_X8_go_93 (Q : FT → GT → Int64 → Prop) (F : FT) (G : GT) (w : Int64) : Prop := (((F 22) < (F 21)) → vp_in (F 22) 320 ∧ wp_X8_isLetter (G 50 (F 22).toNatClampNeg) F G w (fun r4 F1 G2 w3 => ((¬ r4 = 0) → wp_X8_go_160 Q (G 50 (F 22).toNatClampNeg) F1 G2 w3) ∧ ((r4 = 0) → wp_X8_isDigit (G 50 (F 22).toNatClampNeg) F1 G2 w3 (fun r8 F5 G6 w7 => ((¬ r8 = 0) → wp_X8_go_160 Q (G 50 (F 22).toNatClampNeg) F5 G6 w7) ∧ ((r8 = 0) → ((¬ (G 50 (F 22).toNatClampNeg) = (59 : Int32)) → wp_X8_go_146 Q (1 : Int32) F5 G6 w7) ∧ (((G 50 (F 22).toNatClampNeg) = (59 : Int32)) → wp_X8_go_146 Q (4 : Int32) F5 G6 w7)))))) ∧ ((¬ (F 22) < (F 21)) → ∀ F9 : FT, F9 = sU F 24 (0 : Int32) → Q F9 G w)
def wp_X8_go_52 (Q : FT → GT → Int64 → Prop) (F : FT) (G : GT) (w : Int64) : Prop := ∀ F1 : FT, F1 = sU F 23 (F 22) → (((F1 21) ≤ (300 : Int32)) → wp_X8_go_93 Q F1 G w) ∧ ((¬ (F1 21) ≤ (300 : Int32)) → (((F1 23) < (300 : Int32)) → wp_X8_go_93 Q F1 G w) ∧ ((¬ (F1 23) < (300 : Int32)) → ∀ F2 : FT, F2 = sU F1 23 (300 : Int32) → ∀ F3 : FT, F3 = sU F2 24 (1 : Int32) → Q F3 G w))
def wp_X8_go_39 (Q : FT → GT → Int64 → Prop) (kb : FT → GT → Int64 → Prop) (F : FT) (G : GT) (w : Int64) : Prop := ∀ F1 : FT, F1 = sU F 22 ((F 22) + (1 : Int32)) → kb F1 G w
def wp_X8_go_0 (Q : FT → GT → Int64 → Prop) : Nat → FT → GT → Int64 → Prop
  | 0, _, _, _ => False
  | n + 1, F, G, w => (((F 21) ≤ (F 22)) → wp_X8_go_52 Q F G w) ∧ ((¬ (F 21) ≤ (F 22)) → vp_in (F 22) 320 ∧ (((G 50 (F 22).toNatClampNeg) = (32 : Int32)) → wp_X8_go_39 Q (fun F G w => wp_X8_go_0 Q n F G w) F G w) ∧ ((¬ (G 50 (F 22).toNatClampNeg) = (32 : Int32)) → vp_in (F 22) 320 ∧ ((¬ (G 50 (F 22).toNatClampNeg) = (10 : Int32)) → wp_X8_go_52 Q F G w) ∧ (((G 50 (F 22).toNatClampNeg) = (10 : Int32)) → wp_X8_go_39 Q (fun F G w => wp_X8_go_0 Q n F G w) F G w)))
def wp_X8_go (F : FT) (G : GT) (w : Int64) (Q : FT → GT → Int64 → Prop) : Prop := ∃ n : Nat, wp_X8_go_0 Q n F G w
set_option maxHeartbeats 4000000 in
set_option maxRecDepth 100000 in
theorem wk_X8_go_305 {p : Program} {l : Launch} {e : Env} {R : Room} {s : State} {m : MethodId} {args : Array Value} {below : List Frame} {meth : Method} {c : Code} {K : KT} {A : Nat → Prop} {Z : State → Prop} {a : Nat → Nat} (hR : 1 ≤ R.frames ∧ 21 ≤ R.locals) (C : CX p s m args meth c K A cX8_go 5 RX8) {Q : FT → GT → Int64 → Prop} (hq : RetMv p l e R s m args below meth c K A Z a cX8_go Q) {kb : Int32 → Int32 → FT → GT → Int64 → Prop} (hk : ∀ (x2 : Int32) (x3 : Int32) (F : FT) (G : GT) (w : Int64) (H : Heap) (locs : List Loc) (ls : Array Slot), WD K A s (wM K a F G w) H locs → lv_has ls 5 [(0, .ref (a 0)), (2, .int x2), (3, .int x3)] → kb x2 x3 F G w → W p l e R s m args below meth c H locs 0 0 Z (F0 m 177 ls [])) (x2 : Int32) (x3 : Int32) (F : FT) (G : GT) (w : Int64) {H : Heap} {locs : List Loc} (h : WD K A s (wM K a F G w) H locs) {ls : Array Slot} (hl : lv_has ls 5 [(0, .ref (a 0)), (2, .int x2), (3, .int x3)]) (hw : wp_X8_go_305 Q kb x2 x3 F G w) : W p l e R s m args below meth c H locs 0 0 Z (F0 m 305 ls []) := by
  unfold wp_X8_go_305 at hw
  have hx := C.1
  have hb := C.2.1
  refine lv_aload_n hx hb dX8_go_305 rfl (lv_at hl 0 rfl) ?_
  refine lv_dup hx hb dX8_go_306 rfl ?_
  refine gM_8_103 C h dX8_go_307 ?_
  refine lv_iconst (v := (1 : Int32)) hx hb dX8_go_310 (by decide) ?_
  refine lv_iadd hx hb dX8_go_311 ?_
  refine pM_8_103 C h dX8_go_312 (fun F1 H locs eF1 h => ?_)
  have hw := hw F1 eF1
  refine lv_goto (tgt := 177) hx hb dX8_go_315 (by decide) ?_
  exact hk x2 x3 F1 G w _ _ _ h (lv_sub hl [0, 1, 2] rfl) hw
set_option maxHeartbeats 4000000 in
set_option maxRecDepth 100000 in
theorem wk_X8_go_272 {p : Program} {l : Launch} {e : Env} {R : Room} {s : State} {m : MethodId} {args : Array Value} {below : List Frame} {meth : Method} {c : Code} {K : KT} {A : Nat → Prop} {Z : State → Prop} {a : Nat → Nat} (hR : 1 ≤ R.frames ∧ 21 ≤ R.locals) (C : CX p s m args meth c K A cX8_go 5 RX8) {Q : FT → GT → Int64 → Prop} (hq : RetMv p l e R s m args below meth c K A Z a cX8_go Q) {kb : Int32 → Int32 → FT → GT → Int64 → Prop} (hk : ∀ (x2 : Int32) (x3 : Int32) (F : FT) (G : GT) (w : Int64) (H : Heap) (locs : List Loc) (ls : Array Slot), WD K A s (wM K a F G w) H locs → lv_has ls 5 [(0, .ref (a 0)), (2, .int x2), (3, .int x3)] → kb x2 x3 F G w → W p l e R s m args below meth c H locs 0 0 Z (F0 m 177 ls [])) (x2 : Int32) (x3 : Int32) (x4 : Int32) (s0 : Int64) (F : FT) (G : GT) (w : Int64) {H : Heap} {locs : List Loc} (h : WD K A s (wM K a F G w) H locs) {ls : Array Slot} (hl : lv_has ls 5 [(0, .ref (a 0)), (2, .int x2), (3, .int x3), (4, .int x4)]) (hw : wp_X8_go_272 Q kb x2 x3 x4 s0 F G w) : W p l e R s m args below meth c H locs 0 0 Z (F0 m 272 ls [.long s0, .ref (a 0)]) := by
  unfold wp_X8_go_272 at hw
  have hx := C.1
  have hb := C.2.1
  refine pM_8_119 C h dX8_go_272 (fun w1 H locs ew1 h => ?_)
  have hw := hw w1 ew1
  refine lv_aload_n hx hb dX8_go_275 rfl (lv_at hl 0 rfl) ?_
  refine gM_8_103 C h dX8_go_276 ?_
  refine lv_aload_n hx hb dX8_go_279 rfl (lv_at hl 0 rfl) ?_
  refine gM_8_106 C h dX8_go_280 ?_
  refine lv_isub hx hb dX8_go_283 ?_
  refine lv_iconst (v := (3 : Int32)) hx hb dX8_go_284 (by decide) ?_
  refine lv_icmp_ge (tgt := 305) hx hb dX8_go_285 (by decide) (fun c => ?_) (fun c => ?_)
  · have hw := hw.1 c
    exact wk_X8_go_305 hR C hq hk x2 x3 F G w1 h (lv_sub hl [0, 1, 2] rfl) hw
  · have hw := hw.2 c
    refine lv_aload_n hx hb dX8_go_288 rfl (lv_at hl 0 rfl) ?_
    refine lv_bipush (v := (10 : Int32)) hx hb dX8_go_289 (by decide) ?_
    refine lv_aload_n hx hb dX8_go_291 rfl (lv_at hl 0 rfl) ?_
    refine gM_8_123 C h dX8_go_292 ?_
    refine lv_imul hx hb dX8_go_295 ?_
    refine lv_iload hx hb dX8_go_296 (lv_at hl 3 rfl) ?_
    refine lv_iadd hx hb dX8_go_298 ?_
    refine lv_bipush (v := (48 : Int32)) hx hb dX8_go_299 (by decide) ?_
    refine lv_isub hx hb dX8_go_301 ?_
    refine lv_topi (fun v2 ev2 => ?_)
    have hw := hw v2 ev2
    refine pM_8_123 C h dX8_go_302 (fun F3 H locs eF3 h => ?_)
    have hw := hw F3 eF3
    exact wk_X8_go_305 hR C hq hk x2 x3 F3 G w1 h (lv_sub hl [0, 1, 2] rfl) hw
set_option maxHeartbeats 4000000 in
set_option maxRecDepth 100000 in
theorem wk_X8_go_234 {p : Program} {l : Launch} {e : Env} {R : Room} {s : State} {m : MethodId} {args : Array Value} {below : List Frame} {meth : Method} {c : Code} {K : KT} {A : Nat → Prop} {Z : State → Prop} {a : Nat → Nat} (hR : 1 ≤ R.frames ∧ 21 ≤ R.locals) (C : CX p s m args meth c K A cX8_go 5 RX8) {Q : FT → GT → Int64 → Prop} (hq : RetMv p l e R s m args below meth c K A Z a cX8_go Q) {kb : Int32 → Int32 → FT → GT → Int64 → Prop} (hk : ∀ (x2 : Int32) (x3 : Int32) (F : FT) (G : GT) (w : Int64) (H : Heap) (locs : List Loc) (ls : Array Slot), WD K A s (wM K a F G w) H locs → lv_has ls 5 [(0, .ref (a 0)), (2, .int x2), (3, .int x3)] → kb x2 x3 F G w → W p l e R s m args below meth c H locs 0 0 Z (F0 m 177 ls [])) (x2 : Int32) (x4 : Int32) (s0 : Int32) (F : FT) (G : GT) (w : Int64) {H : Heap} {locs : List Loc} (h : WD K A s (wM K a F G w) H locs) {ls : Array Slot} (hl : lv_has ls 5 [(0, .ref (a 0)), (2, .int x2), (4, .int x4)]) (hw : wp_X8_go_234 Q kb x2 x4 s0 F G w) : W p l e R s m args below meth c H locs 0 0 Z (F0 m 234 ls [.int s0]) := by
  unfold wp_X8_go_234 at hw
  have hx := C.1
  have hb := C.2.1
  refine lv_istore_n (lv' := [(3, .int s0), (0, .ref (a 0)), (2, .int x2), (4, .int x4)]) hx hb dX8_go_234 rfl hl (by decide) rfl (fun ls hl => ?_)
  refine lv_aload_n hx hb dX8_go_235 rfl (lv_at hl 1 rfl) ?_
  refine lv_aload_n hx hb dX8_go_236 rfl (lv_at hl 1 rfl) ?_
  refine gM_8_103 C h dX8_go_237 ?_
  refine lv_aload_n hx hb dX8_go_240 rfl (lv_at hl 1 rfl) ?_
  refine gM_8_106 C h dX8_go_241 ?_
  refine lv_isub hx hb dX8_go_244 ?_
  refine lv_bipush (v := (8 : Int32)) hx hb dX8_go_245 (by decide) ?_
  refine lv_icmp_ge (tgt := 269) hx hb dX8_go_247 (by decide) (fun c => ?_) (fun c => ?_)
  · have hw := hw.1 c
    refine lv_ldc2 hx hb C.2.2.2.1 (C.2.2.2.2.1 _ kc_8_134) dX8_go_269 ?_
    exact wk_X8_go_272 hR C hq hk x2 s0 x4 (-1 : Int64) F G w h (lv_sub hl [1, 2, 0, 3] rfl) hw
  · have hw := hw.2 c
    refine lv_ldc2 hx hb C.2.2.2.1 (C.2.2.2.2.1 _ kc_8_130) dX8_go_250 ?_
    refine lv_aload_n hx hb dX8_go_253 rfl (lv_at hl 1 rfl) ?_
    refine gM_8_119 C h dX8_go_254 ?_
    refine lv_lmul hx hb dX8_go_257 ?_
    refine lv_iload hx hb dX8_go_258 (lv_at hl 3 rfl) ?_
    refine lv_i2l hx hb dX8_go_260 rfl ?_
    refine lv_ladd hx hb dX8_go_261 ?_
    refine lv_ldc2 hx hb C.2.2.2.1 (C.2.2.2.2.1 _ kc_8_132) dX8_go_262 ?_
    refine lv_lsub hx hb dX8_go_265 ?_
    refine lv_topl (fun v1 ev1 => ?_)
    have hw := hw v1 ev1
    refine lv_goto (tgt := 272) hx hb dX8_go_266 (by decide) ?_
    exact wk_X8_go_272 hR C hq hk x2 s0 x4 v1 F G w h (lv_sub hl [1, 2, 0, 3] rfl) hw
set_option maxHeartbeats 4000000 in
set_option maxRecDepth 100000 in
theorem wk_X8_go_233 {p : Program} {l : Launch} {e : Env} {R : Room} {s : State} {m : MethodId} {args : Array Value} {below : List Frame} {meth : Method} {c : Code} {K : KT} {A : Nat → Prop} {Z : State → Prop} {a : Nat → Nat} (hR : 1 ≤ R.frames ∧ 21 ≤ R.locals) (C : CX p s m args meth c K A cX8_go 5 RX8) {Q : FT → GT → Int64 → Prop} (hq : RetMv p l e R s m args below meth c K A Z a cX8_go Q) {kb : Int32 → Int32 → FT → GT → Int64 → Prop} (hk : ∀ (x2 : Int32) (x3 : Int32) (F : FT) (G : GT) (w : Int64) (H : Heap) (locs : List Loc) (ls : Array Slot), WD K A s (wM K a F G w) H locs → lv_has ls 5 [(0, .ref (a 0)), (2, .int x2), (3, .int x3)] → kb x2 x3 F G w → W p l e R s m args below meth c H locs 0 0 Z (F0 m 177 ls [])) (x2 : Int32) (x4 : Int32) (F : FT) (G : GT) (w : Int64) {H : Heap} {locs : List Loc} (h : WD K A s (wM K a F G w) H locs) {ls : Array Slot} (hl : lv_has ls 5 [(0, .ref (a 0)), (2, .int x2), (4, .int x4)]) (hw : wp_X8_go_233 Q kb x2 x4 F G w) : W p l e R s m args below meth c H locs 0 0 Z (F0 m 233 ls []) := by
  unfold wp_X8_go_233 at hw
  have hx := C.1
  have hb := C.2.1
  refine lv_iconst (v := (0 : Int32)) hx hb dX8_go_233 (by decide) ?_
  exact wk_X8_go_234 hR C hq hk x2 x4 (0 : Int32) F G w h (lv_sub hl [0, 1, 2] rfl) hw
set_option maxHeartbeats 4000000 in
set_option maxRecDepth 100000 in
theorem wk_X8_go_205 {p : Program} {l : Launch} {e : Env} {R : Room} {s : State} {m : MethodId} {args : Array Value} {below : List Frame} {meth : Method} {c : Code} {K : KT} {A : Nat → Prop} {Z : State → Prop} {a : Nat → Nat} (hR : 1 ≤ R.frames ∧ 21 ≤ R.locals) (C : CX p s m args meth c K A cX8_go 5 RX8) {Q : FT → GT → Int64 → Prop} (hq : RetMv p l e R s m args below meth c K A Z a cX8_go Q) {kb : Int32 → Int32 → FT → GT → Int64 → Prop} (hk : ∀ (x2 : Int32) (x3 : Int32) (F : FT) (G : GT) (w : Int64) (H : Heap) (locs : List Loc) (ls : Array Slot), WD K A s (wM K a F G w) H locs → lv_has ls 5 [(0, .ref (a 0)), (2, .int x2), (3, .int x3)] → kb x2 x3 F G w → W p l e R s m args below meth c H locs 0 0 Z (F0 m 177 ls [])) (x2 : Int32) (x3 : Int32) (F : FT) (G : GT) (w : Int64) {H : Heap} {locs : List Loc} (h : WD K A s (wM K a F G w) H locs) {ls : Array Slot} (hl : lv_has ls 5 [(0, .ref (a 0)), (2, .int x2), (3, .int x3)]) (hw : wp_X8_go_205 Q kb x2 x3 F G w) : W p l e R s m args below meth c H locs 0 0 Z (F0 m 205 ls []) := by
  unfold wp_X8_go_205 at hw
  have hx := C.1
  have hb := C.2.1
  refine lv_aload_n hx hb dX8_go_205 rfl (lv_at hl 0 rfl) ?_
  refine gM_8_7 C h dX8_go_206 ?_
  refine lv_aload_n hx hb dX8_go_209 rfl (lv_at hl 0 rfl) ?_
  refine gM_8_103 C h dX8_go_210 ?_
  have hi := hw.1
  have hw := hw.2
  refine laM_50 C h hi dX8_go_213 ?_
  refine lv_istore (lv' := [(4, .int (G 50 (F 22).toNatClampNeg)), (0, .ref (a 0)), (2, .int x2), (3, .int x3)]) hx hb dX8_go_214 hl (by decide) rfl (fun ls hl => ?_)
  refine lv_iload_n hx hb dX8_go_216 rfl (lv_at hl 3 rfl) ?_
  refine lv_if_eq (tgt := 233) hx hb dX8_go_217 (by decide) (fun c => ?_) (fun c => ?_)
  · have hw := hw.1 c
    exact wk_X8_go_233 hR C hq hk x2 (G 50 (F 22).toNatClampNeg) F G w h (lv_sub hl [1, 2, 0] rfl) hw
  · have hw := hw.2 c
    refine lv_iload hx hb dX8_go_220 (lv_at hl 0 rfl) ?_
    refine kMiS C h (c_X8_isLetter (G 50 (F 22).toNatClampNeg) F G w hw) lk_8_112 rfl hl.1 rfl (Nat.le_of_ble_eq_true rfl) ⟨Nat.le_trans (Nat.le_of_ble_eq_true rfl) hR.1, Nat.le_trans (Nat.le_of_ble_eq_true rfl) hR.2⟩ ⟨Nat.zero_le _, Nat.zero_le _⟩ dX8_go_222 (fun r4 F1 G2 w3 H locs hw h => ?_)
    have hw := hw.2
    refine lv_iload_n hx hb dX8_go_225 rfl (lv_at hl 2 rfl) ?_
    refine lv_icmp_ne (tgt := 233) hx hb dX8_go_226 (by decide) (fun c => ?_) (fun c => ?_)
    · have hw := hw.1 c
      exact wk_X8_go_233 hR C hq hk x2 (G 50 (F 22).toNatClampNeg) F1 G2 w3 h (lv_sub hl [1, 2, 0] rfl) hw
    · have hw := hw.2 c
      refine lv_iconst (v := (1 : Int32)) hx hb dX8_go_229 (by decide) ?_
      refine lv_goto (tgt := 234) hx hb dX8_go_230 (by decide) ?_
      exact wk_X8_go_234 hR C hq hk x2 (G 50 (F 22).toNatClampNeg) (1 : Int32) F1 G2 w3 h (lv_sub hl [1, 2, 0] rfl) hw
set_option maxHeartbeats 4000000 in
set_option maxRecDepth 100000 in
theorem wk_X8_go_344 {p : Program} {l : Launch} {e : Env} {R : Room} {s : State} {m : MethodId} {args : Array Value} {below : List Frame} {meth : Method} {c : Code} {K : KT} {A : Nat → Prop} {Z : State → Prop} {a : Nat → Nat} (hR : 1 ≤ R.frames ∧ 21 ≤ R.locals) (C : CX p s m args meth c K A cX8_go 5 RX8) {Q : FT → GT → Int64 → Prop} (hq : RetMv p l e R s m args below meth c K A Z a cX8_go Q) (x2 : Int32) (F : FT) (G : GT) (w : Int64) {H : Heap} {locs : List Loc} (h : WD K A s (wM K a F G w) H locs) {ls : Array Slot} (hl : lv_has ls 5 [(2, .int x2)]) (hw : wp_X8_go_344 Q x2 F G w) : W p l e R s m args below meth c H locs 0 0 Z (F0 m 344 ls [.ref (a 0)]) := by
  unfold wp_X8_go_344 at hw
  have hx := C.1
  have hb := C.2.1
  refine lv_iload_n hx hb dX8_go_344 rfl (lv_at hl 0 rfl) ?_
  refine lv_if_eq (tgt := 352) hx hb dX8_go_345 (by decide) (fun c => ?_) (fun c => ?_)
  · have hw := hw.1 c
    refine lv_iconst (v := (3 : Int32)) hx hb dX8_go_352 (by decide) ?_
    refine pM_8_109 C h dX8_go_353 (fun F1 H locs eF1 h => ?_)
    have hw := hw F1 eF1
    exact hq F1 G w _ _ _ _ dX8_go_356 h hw
  · have hw := hw.2 c
    refine lv_iconst (v := (2 : Int32)) hx hb dX8_go_348 (by decide) ?_
    refine lv_goto (tgt := 353) hx hb dX8_go_349 (by decide) ?_
    refine pM_8_109 C h dX8_go_353 (fun F2 H locs eF2 h => ?_)
    have hw := hw F2 eF2
    exact hq F2 G w _ _ _ _ dX8_go_356 h hw
set_option maxHeartbeats 4000000 in
set_option maxRecDepth 100000 in
theorem wk_X8_go_177 {p : Program} {l : Launch} {e : Env} {R : Room} {s : State} {m : MethodId} {args : Array Value} {below : List Frame} {meth : Method} {c : Code} {K : KT} {A : Nat → Prop} {Z : State → Prop} {a : Nat → Nat} (hR : 1 ≤ R.frames ∧ 21 ≤ R.locals) (C : CX p s m args meth c K A cX8_go 5 RX8) {Q : FT → GT → Int64 → Prop} (hq : RetMv p l e R s m args below meth c K A Z a cX8_go Q) : ∀ (n : Nat) (x2 : Int32) (x3 : Int32) (F : FT) (G : GT) (w : Int64) {H : Heap} {locs : List Loc} (h : WD K A s (wM K a F G w) H locs) {ls : Array Slot} (hl : lv_has ls 5 [(0, .ref (a 0)), (2, .int x2), (3, .int x3)]) (hw : wp_X8_go_177 Q n x2 x3 F G w), W p l e R s m args below meth c H locs 0 0 Z (F0 m 177 ls []) := by
  intro n
  induction n with
  | zero => intro x2 x3 F G w H locs h ls hl hw; exact False.elim hw
  | succ n ih =>
    intro x2 x3 F G w H locs h ls hl hw
    rw [wp_X8_go_177] at hw
    have hx := C.1
    have hb := C.2.1
    refine lv_aload_n hx hb dX8_go_177 rfl (lv_at hl 0 rfl) ?_
    refine lv_aload_n hx hb dX8_go_178 rfl (lv_at hl 0 rfl) ?_
    refine gM_8_103 C h dX8_go_179 ?_
    refine kMiV C h (c_X8_byteAt (F 22) F G w hw) lk_8_126 (rvM_0 K a F G w) rfl hl.1 rfl (Nat.le_of_ble_eq_true rfl) ⟨Nat.le_trans (Nat.le_of_ble_eq_true rfl) hR.1, Nat.le_trans (Nat.le_of_ble_eq_true rfl) hR.2⟩ ⟨Nat.zero_le _, Nat.zero_le _⟩ dX8_go_182 (fun r4 F1 G2 w3 H locs hw h => ?_)
    refine kMiS C h (c_X8_isLetter r4 F1 G2 w3 hw) lk_8_112 rfl hl.1 rfl (Nat.le_of_ble_eq_true rfl) ⟨Nat.le_trans (Nat.le_of_ble_eq_true rfl) hR.1, Nat.le_trans (Nat.le_of_ble_eq_true rfl) hR.2⟩ ⟨Nat.zero_le _, Nat.zero_le _⟩ dX8_go_185 (fun r8 F5 G6 w7 H locs hw h => ?_)
    have hw := hw.2
    refine lv_if_ne (tgt := 205) hx hb dX8_go_188 (by decide) (fun c => ?_) (fun c => ?_)
    · have hw := hw.1 c
      exact wk_X8_go_205 hR C hq (fun x2 x3 F G w H locs ls h hl hw => ih x2 x3 F G w h hl hw) x2 x3 F5 G6 w7 h (lv_sub hl [0, 1, 2] rfl) hw
    · have hw := hw.2 c
      refine lv_aload_n hx hb dX8_go_191 rfl (lv_at hl 0 rfl) ?_
      refine lv_aload_n hx hb dX8_go_192 rfl (lv_at hl 0 rfl) ?_
      refine gM_8_103 C h dX8_go_193 ?_
      refine kMiV C h (c_X8_byteAt (F5 22) F5 G6 w7 hw) lk_8_126 (rvM_0 K a F5 G6 w7) rfl hl.1 rfl (Nat.le_of_ble_eq_true rfl) ⟨Nat.le_trans (Nat.le_of_ble_eq_true rfl) hR.1, Nat.le_trans (Nat.le_of_ble_eq_true rfl) hR.2⟩ ⟨Nat.zero_le _, Nat.zero_le _⟩ dX8_go_196 (fun r12 F9 G10 w11 H locs hw h => ?_)
      refine kMiS C h (c_X8_isDigit r12 F9 G10 w11 hw) lk_8_116 rfl hl.1 rfl (Nat.le_of_ble_eq_true rfl) ⟨Nat.le_trans (Nat.le_of_ble_eq_true rfl) hR.1, Nat.le_trans (Nat.le_of_ble_eq_true rfl) hR.2⟩ ⟨Nat.zero_le _, Nat.zero_le _⟩ dX8_go_199 (fun r16 F13 G14 w15 H locs hw h => ?_)
      have hw := hw.2
      refine lv_if_eq (tgt := 318) hx hb dX8_go_202 (by decide) (fun c => ?_) (fun c => ?_)
      · have hw := hw.1 c
        refine lv_aload_n hx hb dX8_go_318 rfl (lv_at hl 0 rfl) ?_
        refine lv_iload_n hx hb dX8_go_319 rfl (lv_at hl 2 rfl) ?_
        refine lv_if_eq (tgt := 340) hx hb dX8_go_320 (by decide) (fun c => ?_) (fun c => ?_)
        · have hw := hw.1 c
          refine lv_iconst (v := (1 : Int32)) hx hb dX8_go_340 (by decide) ?_
          refine lv_goto (tgt := 353) hx hb dX8_go_341 (by decide) ?_
          refine pM_8_109 C h dX8_go_353 (fun F17 H locs eF17 h => ?_)
          have hw := hw F17 eF17
          exact hq F17 G14 w15 _ _ _ _ dX8_go_356 h hw
        · have hw := hw.2 c
          refine lv_iload_n hx hb dX8_go_323 rfl (lv_at hl 1 rfl) ?_
          refine lv_if_ne (tgt := 344) hx hb dX8_go_324 (by decide) (fun c => ?_) (fun c => ?_)
          · have hw := hw.1 c
            exact wk_X8_go_344 hR C hq x2 F13 G14 w15 h (lv_sub hl [1] rfl) hw
          · have hw := hw.2 c
            refine lv_aload_n hx hb dX8_go_327 rfl (lv_at hl 0 rfl) ?_
            refine gM_8_103 C h dX8_go_328 ?_
            refine lv_aload_n hx hb dX8_go_331 rfl (lv_at hl 0 rfl) ?_
            refine gM_8_106 C h dX8_go_332 ?_
            refine lv_isub hx hb dX8_go_335 ?_
            refine lv_iconst (v := (3 : Int32)) hx hb dX8_go_336 (by decide) ?_
            refine lv_icmp_le (tgt := 344) hx hb dX8_go_337 (by decide) (fun c => ?_) (fun c => ?_)
            · have hw := hw.1 c
              exact wk_X8_go_344 hR C hq x2 F13 G14 w15 h (lv_sub hl [1] rfl) hw
            · have hw := hw.2 c
              refine lv_iconst (v := (1 : Int32)) hx hb dX8_go_340 (by decide) ?_
              refine lv_goto (tgt := 353) hx hb dX8_go_341 (by decide) ?_
              refine pM_8_109 C h dX8_go_353 (fun F18 H locs eF18 h => ?_)
              have hw := hw F18 eF18
              exact hq F18 G14 w15 _ _ _ _ dX8_go_356 h hw
      · have hw := hw.2 c
        exact wk_X8_go_205 hR C hq (fun x2 x3 F G w H locs ls h hl hw => ih x2 x3 F G w h hl hw) x2 x3 F13 G14 w15 h (lv_sub hl [0, 1, 2] rfl) hw
set_option maxHeartbeats 4000000 in
set_option maxRecDepth 100000 in
theorem wk_X8_go_160 {p : Program} {l : Launch} {e : Env} {R : Room} {s : State} {m : MethodId} {args : Array Value} {below : List Frame} {meth : Method} {c : Code} {K : KT} {A : Nat → Prop} {Z : State → Prop} {a : Nat → Nat} (hR : 1 ≤ R.frames ∧ 21 ≤ R.locals) (C : CX p s m args meth c K A cX8_go 5 RX8) {Q : FT → GT → Int64 → Prop} (hq : RetMv p l e R s m args below meth c K A Z a cX8_go Q) (x1 : Int32) (F : FT) (G : GT) (w : Int64) {H : Heap} {locs : List Loc} (h : WD K A s (wM K a F G w) H locs) {ls : Array Slot} (hl : lv_has ls 5 [(0, .ref (a 0)), (1, .int x1)]) (hw : wp_X8_go_160 Q x1 F G w) : W p l e R s m args below meth c H locs 0 0 Z (F0 m 160 ls []) := by
  unfold wp_X8_go_160 at hw
  have hx := C.1
  have hb := C.2.1
  refine lv_iload_n hx hb dX8_go_160 rfl (lv_at hl 1 rfl) ?_
  refine kMiS C h (c_X8_isLetter x1 F G w hw) lk_8_112 rfl hl.1 rfl (Nat.le_of_ble_eq_true rfl) ⟨Nat.le_trans (Nat.le_of_ble_eq_true rfl) hR.1, Nat.le_trans (Nat.le_of_ble_eq_true rfl) hR.2⟩ ⟨Nat.zero_le _, Nat.zero_le _⟩ dX8_go_161 (fun r4 F1 G2 w3 H locs hw h => ?_)
  have hw := hw.2
  refine lv_istore_n (lv' := [(2, .int r4), (0, .ref (a 0)), (1, .int x1)]) hx hb dX8_go_164 rfl hl (by decide) rfl (fun ls hl => ?_)
  refine lv_iconst (v := (1 : Int32)) hx hb dX8_go_165 (by decide) ?_
  refine lv_istore_n (lv' := [(3, .int (1 : Int32)), (2, .int r4), (0, .ref (a 0)), (1, .int x1)]) hx hb dX8_go_166 rfl hl (by decide) rfl (fun ls hl => ?_)
  refine lv_aload_n hx hb dX8_go_167 rfl (lv_at hl 2 rfl) ?_
  refine lv_lconst (v := 0) hx hb dX8_go_168 (by decide) ?_
  refine pM_8_119 C h dX8_go_169 (fun w5 H locs ew5 h => ?_)
  have hw := hw w5 ew5
  refine lv_aload_n hx hb dX8_go_172 rfl (lv_at hl 2 rfl) ?_
  refine lv_iconst (v := (0 : Int32)) hx hb dX8_go_173 (by decide) ?_
  refine pM_8_123 C h dX8_go_174 (fun F6 H locs eF6 h => ?_)
  have hw := hw F6 eF6
  obtain ⟨n, hw⟩ := hw
  exact wk_X8_go_177 hR C hq n r4 (1 : Int32) F6 G2 w5 h (lv_sub hl [2, 1, 0] rfl) hw
set_option maxHeartbeats 4000000 in
set_option maxRecDepth 100000 in
theorem wk_X8_go_146 {p : Program} {l : Launch} {e : Env} {R : Room} {s : State} {m : MethodId} {args : Array Value} {below : List Frame} {meth : Method} {c : Code} {K : KT} {A : Nat → Prop} {Z : State → Prop} {a : Nat → Nat} (hR : 1 ≤ R.frames ∧ 21 ≤ R.locals) (C : CX p s m args meth c K A cX8_go 5 RX8) {Q : FT → GT → Int64 → Prop} (hq : RetMv p l e R s m args below meth c K A Z a cX8_go Q) (s0 : Int32) (F : FT) (G : GT) (w : Int64) {H : Heap} {locs : List Loc} (h : WD K A s (wM K a F G w) H locs) {ls : Array Slot} (hl : lv_has ls 5 [(0, .ref (a 0))]) (hw : wp_X8_go_146 Q s0 F G w) : W p l e R s m args below meth c H locs 0 0 Z (F0 m 146 ls [.int s0, .ref (a 0)]) := by
  unfold wp_X8_go_146 at hw
  have hx := C.1
  have hb := C.2.1
  refine pM_8_109 C h dX8_go_146 (fun F1 H locs eF1 h => ?_)
  have hw := hw F1 eF1
  refine lv_aload_n hx hb dX8_go_149 rfl (lv_at hl 0 rfl) ?_
  refine lv_dup hx hb dX8_go_150 rfl ?_
  refine gM_8_103 C h dX8_go_151 ?_
  refine lv_iconst (v := (1 : Int32)) hx hb dX8_go_154 (by decide) ?_
  refine lv_iadd hx hb dX8_go_155 ?_
  refine pM_8_103 C h dX8_go_156 (fun F2 H locs eF2 h => ?_)
  have hw := hw F2 eF2
  exact hq F2 G w _ _ _ _ dX8_go_159 h hw
set_option maxHeartbeats 4000000 in
set_option maxRecDepth 100000 in
theorem wk_X8_go_93 {p : Program} {l : Launch} {e : Env} {R : Room} {s : State} {m : MethodId} {args : Array Value} {below : List Frame} {meth : Method} {c : Code} {K : KT} {A : Nat → Prop} {Z : State → Prop} {a : Nat → Nat} (hR : 1 ≤ R.frames ∧ 21 ≤ R.locals) (C : CX p s m args meth c K A cX8_go 5 RX8) {Q : FT → GT → Int64 → Prop} (hq : RetMv p l e R s m args below meth c K A Z a cX8_go Q) (F : FT) (G : GT) (w : Int64) {H : Heap} {locs : List Loc} (h : WD K A s (wM K a F G w) H locs) {ls : Array Slot} (hl : lv_has ls 5 [(0, .ref (a 0))]) (hw : wp_X8_go_93 Q F G w) : W p l e R s m args below meth c H locs 0 0 Z (F0 m 93 ls []) := by
  unfold wp_X8_go_93 at hw
  have hx := C.1
  have hb := C.2.1
  refine lv_aload_n hx hb dX8_go_93 rfl (lv_at hl 0 rfl) ?_
  refine gM_8_103 C h dX8_go_94 ?_
  refine lv_aload_n hx hb dX8_go_97 rfl (lv_at hl 0 rfl) ?_
  refine gM_8_100 C h dX8_go_98 ?_
  refine lv_icmp_lt (tgt := 110) hx hb dX8_go_101 (by decide) (fun c => ?_) (fun c => ?_)
  · have hw := hw.1 c
    refine lv_aload_n hx hb dX8_go_110 rfl (lv_at hl 0 rfl) ?_
    refine gM_8_7 C h dX8_go_111 ?_
    refine lv_aload_n hx hb dX8_go_114 rfl (lv_at hl 0 rfl) ?_
    refine gM_8_103 C h dX8_go_115 ?_
    have hi := hw.1
    have hw := hw.2
    refine laM_50 C h hi dX8_go_118 ?_
    refine lv_istore_n (lv' := [(1, .int (G 50 (F 22).toNatClampNeg)), (0, .ref (a 0))]) hx hb dX8_go_119 rfl hl (by decide) rfl (fun ls hl => ?_)
    refine lv_iload_n hx hb dX8_go_120 rfl (lv_at hl 0 rfl) ?_
    refine kMiS C h (c_X8_isLetter (G 50 (F 22).toNatClampNeg) F G w hw) lk_8_112 rfl hl.1 rfl (Nat.le_of_ble_eq_true rfl) ⟨Nat.le_trans (Nat.le_of_ble_eq_true rfl) hR.1, Nat.le_trans (Nat.le_of_ble_eq_true rfl) hR.2⟩ ⟨Nat.zero_le _, Nat.zero_le _⟩ dX8_go_121 (fun r4 F1 G2 w3 H locs hw h => ?_)
    have hw := hw.2
    refine lv_if_ne (tgt := 160) hx hb dX8_go_124 (by decide) (fun c => ?_) (fun c => ?_)
    · have hw := hw.1 c
      exact wk_X8_go_160 hR C hq (G 50 (F 22).toNatClampNeg) F1 G2 w3 h (lv_sub hl [1, 0] rfl) hw
    · have hw := hw.2 c
      refine lv_iload_n hx hb dX8_go_127 rfl (lv_at hl 0 rfl) ?_
      refine kMiS C h (c_X8_isDigit (G 50 (F 22).toNatClampNeg) F1 G2 w3 hw) lk_8_116 rfl hl.1 rfl (Nat.le_of_ble_eq_true rfl) ⟨Nat.le_trans (Nat.le_of_ble_eq_true rfl) hR.1, Nat.le_trans (Nat.le_of_ble_eq_true rfl) hR.2⟩ ⟨Nat.zero_le _, Nat.zero_le _⟩ dX8_go_128 (fun r8 F5 G6 w7 H locs hw h => ?_)
      have hw := hw.2
      refine lv_if_ne (tgt := 160) hx hb dX8_go_131 (by decide) (fun c => ?_) (fun c => ?_)
      · have hw := hw.1 c
        exact wk_X8_go_160 hR C hq (G 50 (F 22).toNatClampNeg) F5 G6 w7 h (lv_sub hl [1, 0] rfl) hw
      · have hw := hw.2 c
        refine lv_aload_n hx hb dX8_go_134 rfl (lv_at hl 1 rfl) ?_
        refine lv_iload_n hx hb dX8_go_135 rfl (lv_at hl 0 rfl) ?_
        refine lv_bipush (v := (59 : Int32)) hx hb dX8_go_136 (by decide) ?_
        refine lv_icmp_ne (tgt := 145) hx hb dX8_go_138 (by decide) (fun c => ?_) (fun c => ?_)
        · have hw := hw.1 c
          refine lv_iconst (v := (1 : Int32)) hx hb dX8_go_145 (by decide) ?_
          exact wk_X8_go_146 hR C hq (1 : Int32) F5 G6 w7 h (lv_sub hl [1] rfl) hw
        · have hw := hw.2 c
          refine lv_iconst (v := (4 : Int32)) hx hb dX8_go_141 (by decide) ?_
          refine lv_goto (tgt := 146) hx hb dX8_go_142 (by decide) ?_
          exact wk_X8_go_146 hR C hq (4 : Int32) F5 G6 w7 h (lv_sub hl [1] rfl) hw
  · have hw := hw.2 c
    refine lv_aload_n hx hb dX8_go_104 rfl (lv_at hl 0 rfl) ?_
    refine lv_iconst (v := (0 : Int32)) hx hb dX8_go_105 (by decide) ?_
    refine pM_8_109 C h dX8_go_106 (fun F9 H locs eF9 h => ?_)
    have hw := hw F9 eF9
    exact hq F9 G w _ _ _ _ dX8_go_109 h hw
set_option maxHeartbeats 4000000 in
set_option maxRecDepth 100000 in
theorem wk_X8_go_52 {p : Program} {l : Launch} {e : Env} {R : Room} {s : State} {m : MethodId} {args : Array Value} {below : List Frame} {meth : Method} {c : Code} {K : KT} {A : Nat → Prop} {Z : State → Prop} {a : Nat → Nat} (hR : 1 ≤ R.frames ∧ 21 ≤ R.locals) (C : CX p s m args meth c K A cX8_go 5 RX8) {Q : FT → GT → Int64 → Prop} (hq : RetMv p l e R s m args below meth c K A Z a cX8_go Q) (F : FT) (G : GT) (w : Int64) {H : Heap} {locs : List Loc} (h : WD K A s (wM K a F G w) H locs) {ls : Array Slot} (hl : lv_has ls 5 [(0, .ref (a 0))]) (hw : wp_X8_go_52 Q F G w) : W p l e R s m args below meth c H locs 0 0 Z (F0 m 52 ls []) := by
  unfold wp_X8_go_52 at hw
  have hx := C.1
  have hb := C.2.1
  refine lv_aload_n hx hb dX8_go_52 rfl (lv_at hl 0 rfl) ?_
  refine lv_aload_n hx hb dX8_go_53 rfl (lv_at hl 0 rfl) ?_
  refine gM_8_103 C h dX8_go_54 ?_
  refine pM_8_106 C h dX8_go_57 (fun F1 H locs eF1 h => ?_)
  have hw := hw F1 eF1
  refine lv_aload_n hx hb dX8_go_60 rfl (lv_at hl 0 rfl) ?_
  refine gM_8_100 C h dX8_go_61 ?_
  refine lv_sipush (v := (300 : Int32)) hx hb dX8_go_64 (by decide) ?_
  refine lv_icmp_le (tgt := 93) hx hb dX8_go_67 (by decide) (fun c => ?_) (fun c => ?_)
  · have hw := hw.1 c
    exact wk_X8_go_93 hR C hq F1 G w h (lv_sub hl [0] rfl) hw
  · have hw := hw.2 c
    refine lv_aload_n hx hb dX8_go_70 rfl (lv_at hl 0 rfl) ?_
    refine gM_8_106 C h dX8_go_71 ?_
    refine lv_sipush (v := (300 : Int32)) hx hb dX8_go_74 (by decide) ?_
    refine lv_icmp_lt (tgt := 93) hx hb dX8_go_77 (by decide) (fun c => ?_) (fun c => ?_)
    · have hw := hw.1 c
      exact wk_X8_go_93 hR C hq F1 G w h (lv_sub hl [0] rfl) hw
    · have hw := hw.2 c
      refine lv_aload_n hx hb dX8_go_80 rfl (lv_at hl 0 rfl) ?_
      refine lv_sipush (v := (300 : Int32)) hx hb dX8_go_81 (by decide) ?_
      refine pM_8_106 C h dX8_go_84 (fun F2 H locs eF2 h => ?_)
      have hw := hw F2 eF2
      refine lv_aload_n hx hb dX8_go_87 rfl (lv_at hl 0 rfl) ?_
      refine lv_iconst (v := (1 : Int32)) hx hb dX8_go_88 (by decide) ?_
      refine pM_8_109 C h dX8_go_89 (fun F3 H locs eF3 h => ?_)
      have hw := hw F3 eF3
      exact hq F3 G w _ _ _ _ dX8_go_92 h hw
set_option maxHeartbeats 4000000 in
set_option maxRecDepth 100000 in
theorem wk_X8_go_39 {p : Program} {l : Launch} {e : Env} {R : Room} {s : State} {m : MethodId} {args : Array Value} {below : List Frame} {meth : Method} {c : Code} {K : KT} {A : Nat → Prop} {Z : State → Prop} {a : Nat → Nat} (hR : 1 ≤ R.frames ∧ 21 ≤ R.locals) (C : CX p s m args meth c K A cX8_go 5 RX8) {Q : FT → GT → Int64 → Prop} (hq : RetMv p l e R s m args below meth c K A Z a cX8_go Q) {kb : FT → GT → Int64 → Prop} (hk : ∀ (F : FT) (G : GT) (w : Int64) (H : Heap) (locs : List Loc) (ls : Array Slot), WD K A s (wM K a F G w) H locs → lv_has ls 5 [(0, .ref (a 0))] → kb  F G w → W p l e R s m args below meth c H locs 0 0 Z (F0 m 0 ls [])) (F : FT) (G : GT) (w : Int64) {H : Heap} {locs : List Loc} (h : WD K A s (wM K a F G w) H locs) {ls : Array Slot} (hl : lv_has ls 5 [(0, .ref (a 0))]) (hw : wp_X8_go_39 Q kb F G w) : W p l e R s m args below meth c H locs 0 0 Z (F0 m 39 ls []) := by
  unfold wp_X8_go_39 at hw
  have hx := C.1
  have hb := C.2.1
  refine lv_aload_n hx hb dX8_go_39 rfl (lv_at hl 0 rfl) ?_
  refine lv_dup hx hb dX8_go_40 rfl ?_
  refine gM_8_103 C h dX8_go_41 ?_
  refine lv_iconst (v := (1 : Int32)) hx hb dX8_go_44 (by decide) ?_
  refine lv_iadd hx hb dX8_go_45 ?_
  refine pM_8_103 C h dX8_go_46 (fun F1 H locs eF1 h => ?_)
  have hw := hw F1 eF1
  refine lv_goto (tgt := 0) hx hb dX8_go_49 (by decide) ?_
  exact hk F1 G w _ _ _ h (lv_sub hl [0] rfl) hw
set_option maxHeartbeats 4000000 in
set_option maxRecDepth 100000 in
theorem wk_X8_go_0 {p : Program} {l : Launch} {e : Env} {R : Room} {s : State} {m : MethodId} {args : Array Value} {below : List Frame} {meth : Method} {c : Code} {K : KT} {A : Nat → Prop} {Z : State → Prop} {a : Nat → Nat} (hR : 1 ≤ R.frames ∧ 21 ≤ R.locals) (C : CX p s m args meth c K A cX8_go 5 RX8) {Q : FT → GT → Int64 → Prop} (hq : RetMv p l e R s m args below meth c K A Z a cX8_go Q) : ∀ (n : Nat) (F : FT) (G : GT) (w : Int64) {H : Heap} {locs : List Loc} (h : WD K A s (wM K a F G w) H locs) {ls : Array Slot} (hl : lv_has ls 5 [(0, .ref (a 0))]) (hw : wp_X8_go_0 Q n F G w), W p l e R s m args below meth c H locs 0 0 Z (F0 m 0 ls []) := by
  intro n
  induction n with
  | zero => intro F G w H locs h ls hl hw; exact False.elim hw
  | succ n ih =>
    intro F G w H locs h ls hl hw
    rw [wp_X8_go_0] at hw
    have hx := C.1
    have hb := C.2.1
    refine lv_aload_n hx hb dX8_go_0 rfl (lv_at hl 0 rfl) ?_
    refine gM_8_103 C h dX8_go_1 ?_
    refine lv_aload_n hx hb dX8_go_4 rfl (lv_at hl 0 rfl) ?_
    refine gM_8_100 C h dX8_go_5 ?_
    refine lv_icmp_ge (tgt := 52) hx hb dX8_go_8 (by decide) (fun c => ?_) (fun c => ?_)
    · have hw := hw.1 c
      exact wk_X8_go_52 hR C hq F G w h (lv_sub hl [0] rfl) hw
    · have hw := hw.2 c
      refine lv_aload_n hx hb dX8_go_11 rfl (lv_at hl 0 rfl) ?_
      refine gM_8_7 C h dX8_go_12 ?_
      refine lv_aload_n hx hb dX8_go_15 rfl (lv_at hl 0 rfl) ?_
      refine gM_8_103 C h dX8_go_16 ?_
      have hi := hw.1
      have hw := hw.2
      refine laM_50 C h hi dX8_go_19 ?_
      refine lv_bipush (v := (32 : Int32)) hx hb dX8_go_20 (by decide) ?_
      refine lv_icmp_eq (tgt := 39) hx hb dX8_go_22 (by decide) (fun c => ?_) (fun c => ?_)
      · have hw := hw.1 c
        exact wk_X8_go_39 hR C hq (fun F G w H locs ls h hl hw => ih F G w h hl hw) F G w h (lv_sub hl [0] rfl) hw
      · have hw := hw.2 c
        refine lv_aload_n hx hb dX8_go_25 rfl (lv_at hl 0 rfl) ?_
        refine gM_8_7 C h dX8_go_26 ?_
        refine lv_aload_n hx hb dX8_go_29 rfl (lv_at hl 0 rfl) ?_
        refine gM_8_103 C h dX8_go_30 ?_
        have hi := hw.1
        have hw := hw.2
        refine laM_50 C h hi dX8_go_33 ?_
        refine lv_bipush (v := (10 : Int32)) hx hb dX8_go_34 (by decide) ?_
        refine lv_icmp_ne (tgt := 52) hx hb dX8_go_36 (by decide) (fun c => ?_) (fun c => ?_)
        · have hw := hw.1 c
          exact wk_X8_go_52 hR C hq F G w h (lv_sub hl [0] rfl) hw
        · have hw := hw.2 c
          exact wk_X8_go_39 hR C hq (fun F G w H locs ls h hl hw => ih F G w h hl hw) F G w h (lv_sub hl [0] rfl) hw
theorem c_X8_go {l : Launch} {K : KT} {a : Nat → Nat} (F : FT) (G : GT) (w : Int64) {Q : FT → GT → Int64 → Prop} (hw : wp_X8_go F G w Q) : CtMv l K a yX8_go cX8_go 5 none 1 21 [.ref (a 0)] F G w Q := fun sz => x_met (Qm := QmMv K a Q) (by decide) (Nat.le_of_ble_eq_true rfl) (fun p e s m below meth c A ls C hr h hl => hw.elim (fun n hw => wk_X8_go_0 ⟨Nat.le_refl _, Nat.le_refl _⟩ C (retM_v C hr) n F G w h hl hw))
