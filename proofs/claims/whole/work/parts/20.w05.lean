def wp_X7_bringBack_122 (Q : Int32 → FT → GT → Prop) (x2 : Int32) (s0 : Int32) (s1 : Int32) (s2 : Int32) (F : FT) (G : GT) : Prop := wp_X7_lead s2 s1 s0 (2 : Int32) F G (fun F1 G2 => Q x2 F1 G2)
def wp_X7_bringBack_94 (Q : Int32 → FT → GT → Prop) (x1 : Int32) (x2 : Int32) (x3 : Int32) (s0 : Int32) (F : FT) (G : GT) : Prop := wp_X7_undo x2 F G (fun F1 G2 => ((s0 = 0) → vp_in x1 40 ∧ wp_X7_bringBack_122 Q x2 (G2 17 x1.toNatClampNeg) x3 x1 F1 G2) ∧ ((¬ s0 = 0) → wp_X7_bringBack_122 Q x2 x3 x3 x1 F1 G2))
def wp_X7_bringBack_93 (Q : Int32 → FT → GT → Prop) (x1 : Int32) (x2 : Int32) (x3 : Int32) (F : FT) (G : GT) : Prop := wp_X7_bringBack_94 Q x1 x2 x3 (0 : Int32) F G
def wp_X7_bringBack_0 (Q : Int32 → FT → GT → Prop) (x1 : Int32) (F : FT) (G : GT) : Prop := wp_X5_latestStanding x1 F G (fun r3 F1 G2 => ((r3 = (-1 : Int32)) → Q (-1 : Int32) F1 G2) ∧ ((¬ r3 = (-1 : Int32)) → vp_in r3 80 ∧ vp_in x1 40 ∧ ((¬ (G2 25 r3.toNatClampNeg) = (G2 16 x1.toNatClampNeg)) → Q (-1 : Int32) F1 G2) ∧ (((G2 25 r3.toNatClampNeg) = (G2 16 x1.toNatClampNeg)) → wp_X7_lawLetsBack x1 r3 F1 G2 (fun r6 F4 G5 => ((¬ r6 = 0) → vp_in r3 80 ∧ vp_in r3 80 ∧ (((G5 31 r3.toNatClampNeg) = 0) → wp_X7_bringBack_93 Q x1 r3 (G5 24 r3.toNatClampNeg) F4 G5) ∧ ((¬ (G5 31 r3.toNatClampNeg) = 0) → vp_in x1 40 ∧ vp_in r3 80 ∧ ((¬ (G5 17 x1.toNatClampNeg) = (G5 25 r3.toNatClampNeg)) → wp_X7_bringBack_93 Q x1 r3 (G5 24 r3.toNatClampNeg) F4 G5) ∧ (((G5 17 x1.toNatClampNeg) = (G5 25 r3.toNatClampNeg)) → wp_X7_bringBack_94 Q x1 r3 (G5 24 r3.toNatClampNeg) (1 : Int32) F4 G5))) ∧ ((r6 = 0) → Q (-1 : Int32) F4 G5)))))
def wp_X7_bringBack (x1 : Int32) (F : FT) (G : GT) (Q : Int32 → FT → GT → Prop) : Prop := wp_X7_bringBack_0 Q x1 F G
set_option maxHeartbeats 4000000 in
set_option maxRecDepth 100000 in
theorem wk_X7_bringBack_122 {p : Program} {l : Launch} {e : Env} {R : Room} {s : State} {m : MethodId} {args : Array Value} {below : List Frame} {meth : Method} {c : Code} {K : KT} {A : Nat → Prop} {Z : State → Prop} {a : Nat → Nat} (hR : 4 ≤ R.frames ∧ 86 ≤ R.locals) (C : CX p s m args meth c K A cX7_bringBack 5 RX7) {Q : Int32 → FT → GT → Prop} (hq : RetXi p l e R s m args below meth c K A Z a cX7_bringBack Q) (x2 : Int32) (s0 : Int32) (s1 : Int32) (s2 : Int32) (F : FT) (G : GT) {H : Heap} {locs : List Loc} (h : WD K A s (wX K a F G) H locs) {ls : Array Slot} (hl : lv_has ls 5 [(2, .int x2)]) (hw : wp_X7_bringBack_122 Q x2 s0 s1 s2 F G) : W p l e R s m args below meth c H locs 0 0 Z (F0 m 122 ls [.int s0, .int s1, .int s2, .ref (a 0)]) := by
  unfold wp_X7_bringBack_122 at hw
  have hx := C.1
  have hb := C.2.1
  refine lv_iconst (v := (2 : Int32)) hx hb dX7_bringBack_122 (by decide) ?_
  refine kXvV C h (c_X7_lead s2 s1 s0 (2 : Int32) F G hw) lk_7_164 (rvX_0 K a F G) rfl hl.1 rfl (Nat.le_of_ble_eq_true rfl) ⟨Nat.le_trans (Nat.le_of_ble_eq_true rfl) hR.1, Nat.le_trans (Nat.le_of_ble_eq_true rfl) hR.2⟩ ⟨Nat.zero_le _, Nat.zero_le _⟩ dX7_bringBack_123 (fun F1 G2 H locs hw h => ?_)
  refine lv_iload_n hx hb dX7_bringBack_126 rfl (lv_at hl 0 rfl) ?_
  exact hq _ F1 G2 _ _ _ _ dX7_bringBack_127 h hw
set_option maxHeartbeats 4000000 in
set_option maxRecDepth 100000 in
theorem wk_X7_bringBack_94 {p : Program} {l : Launch} {e : Env} {R : Room} {s : State} {m : MethodId} {args : Array Value} {below : List Frame} {meth : Method} {c : Code} {K : KT} {A : Nat → Prop} {Z : State → Prop} {a : Nat → Nat} (hR : 4 ≤ R.frames ∧ 86 ≤ R.locals) (C : CX p s m args meth c K A cX7_bringBack 5 RX7) {Q : Int32 → FT → GT → Prop} (hq : RetXi p l e R s m args below meth c K A Z a cX7_bringBack Q) (x1 : Int32) (x2 : Int32) (x3 : Int32) (s0 : Int32) (F : FT) (G : GT) {H : Heap} {locs : List Loc} (h : WD K A s (wX K a F G) H locs) {ls : Array Slot} (hl : lv_has ls 5 [(0, .ref (a 0)), (1, .int x1), (2, .int x2), (3, .int x3)]) (hw : wp_X7_bringBack_94 Q x1 x2 x3 s0 F G) : W p l e R s m args below meth c H locs 0 0 Z (F0 m 94 ls [.int s0]) := by
  unfold wp_X7_bringBack_94 at hw
  have hx := C.1
  have hb := C.2.1
  refine lv_istore (lv' := [(4, .int s0), (0, .ref (a 0)), (1, .int x1), (2, .int x2), (3, .int x3)]) hx hb dX7_bringBack_94 hl (by decide) rfl (fun ls hl => ?_)
  refine lv_aload_n hx hb dX7_bringBack_96 rfl (lv_at hl 1 rfl) ?_
  refine lv_iload_n hx hb dX7_bringBack_97 rfl (lv_at hl 3 rfl) ?_
  refine kXvV C h (c_X7_undo x2 F G hw) lk_7_197 (rvX_0 K a F G) rfl hl.1 rfl (Nat.le_of_ble_eq_true rfl) ⟨Nat.le_trans (Nat.le_of_ble_eq_true rfl) hR.1, Nat.le_trans (Nat.le_of_ble_eq_true rfl) hR.2⟩ ⟨Nat.zero_le _, Nat.zero_le _⟩ dX7_bringBack_98 (fun F1 G2 H locs hw h => ?_)
  refine lv_aload_n hx hb dX7_bringBack_101 rfl (lv_at hl 1 rfl) ?_
  refine lv_iload_n hx hb dX7_bringBack_102 rfl (lv_at hl 2 rfl) ?_
  refine lv_iload_n hx hb dX7_bringBack_103 rfl (lv_at hl 4 rfl) ?_
  refine lv_iload hx hb dX7_bringBack_104 (lv_at hl 0 rfl) ?_
  refine lv_if_eq (tgt := 113) hx hb dX7_bringBack_106 (by decide) (fun c => ?_) (fun c => ?_)
  · have hw := hw.1 c
    refine lv_aload_n hx hb dX7_bringBack_113 rfl (lv_at hl 1 rfl) ?_
    refine gX_7_40 C h dX7_bringBack_114 ?_
    refine gX_7_151 C h dX7_bringBack_117 ?_
    refine lv_iload_n hx hb dX7_bringBack_120 rfl (lv_at hl 2 rfl) ?_
    have hi := hw.1
    have hw := hw.2
    refine laX_17 C h hi dX7_bringBack_121 ?_
    exact wk_X7_bringBack_122 hR C hq x2 (G2 17 x1.toNatClampNeg) x3 x1 F1 G2 h (lv_sub hl [3] rfl) hw
  · have hw := hw.2 c
    refine lv_iload_n hx hb dX7_bringBack_109 rfl (lv_at hl 4 rfl) ?_
    refine lv_goto (tgt := 122) hx hb dX7_bringBack_110 (by decide) ?_
    exact wk_X7_bringBack_122 hR C hq x2 x3 x3 x1 F1 G2 h (lv_sub hl [3] rfl) hw
set_option maxHeartbeats 4000000 in
set_option maxRecDepth 100000 in
theorem wk_X7_bringBack_93 {p : Program} {l : Launch} {e : Env} {R : Room} {s : State} {m : MethodId} {args : Array Value} {below : List Frame} {meth : Method} {c : Code} {K : KT} {A : Nat → Prop} {Z : State → Prop} {a : Nat → Nat} (hR : 4 ≤ R.frames ∧ 86 ≤ R.locals) (C : CX p s m args meth c K A cX7_bringBack 5 RX7) {Q : Int32 → FT → GT → Prop} (hq : RetXi p l e R s m args below meth c K A Z a cX7_bringBack Q) (x1 : Int32) (x2 : Int32) (x3 : Int32) (F : FT) (G : GT) {H : Heap} {locs : List Loc} (h : WD K A s (wX K a F G) H locs) {ls : Array Slot} (hl : lv_has ls 5 [(0, .ref (a 0)), (1, .int x1), (2, .int x2), (3, .int x3)]) (hw : wp_X7_bringBack_93 Q x1 x2 x3 F G) : W p l e R s m args below meth c H locs 0 0 Z (F0 m 93 ls []) := by
  unfold wp_X7_bringBack_93 at hw
  have hx := C.1
  have hb := C.2.1
  refine lv_iconst (v := (0 : Int32)) hx hb dX7_bringBack_93 (by decide) ?_
  exact wk_X7_bringBack_94 hR C hq x1 x2 x3 (0 : Int32) F G h (lv_sub hl [0, 1, 2, 3] rfl) hw
set_option maxHeartbeats 4000000 in
set_option maxRecDepth 100000 in
theorem wk_X7_bringBack_0 {p : Program} {l : Launch} {e : Env} {R : Room} {s : State} {m : MethodId} {args : Array Value} {below : List Frame} {meth : Method} {c : Code} {K : KT} {A : Nat → Prop} {Z : State → Prop} {a : Nat → Nat} (hR : 4 ≤ R.frames ∧ 86 ≤ R.locals) (C : CX p s m args meth c K A cX7_bringBack 5 RX7) {Q : Int32 → FT → GT → Prop} (hq : RetXi p l e R s m args below meth c K A Z a cX7_bringBack Q) (x1 : Int32) (F : FT) (G : GT) {H : Heap} {locs : List Loc} (h : WD K A s (wX K a F G) H locs) {ls : Array Slot} (hl : lv_has ls 5 [(0, .ref (a 0)), (1, .int x1)]) (hw : wp_X7_bringBack_0 Q x1 F G) : W p l e R s m args below meth c H locs 0 0 Z (F0 m 0 ls []) := by
  unfold wp_X7_bringBack_0 at hw
  have hx := C.1
  have hb := C.2.1
  refine lv_aload_n hx hb dX7_bringBack_0 rfl (lv_at hl 0 rfl) ?_
  refine gX_7_54 C h dX7_bringBack_1 ?_
  refine lv_iload_n hx hb dX7_bringBack_4 rfl (lv_at hl 1 rfl) ?_
  refine kXiV C h (c_X5_latestStanding x1 F G hw) lk_7_208 (rvX_7 K a F G) rfl hl.1 rfl (Nat.le_of_ble_eq_true rfl) ⟨Nat.le_trans (Nat.le_of_ble_eq_true rfl) hR.1, Nat.le_trans (Nat.le_of_ble_eq_true rfl) hR.2⟩ ⟨Nat.zero_le _, Nat.zero_le _⟩ dX7_bringBack_5 (fun r3 F1 G2 H locs hw h => ?_)
  refine lv_istore_n (lv' := [(2, .int r3), (0, .ref (a 0)), (1, .int x1)]) hx hb dX7_bringBack_8 rfl hl (by decide) rfl (fun ls hl => ?_)
  refine lv_iload_n hx hb dX7_bringBack_9 rfl (lv_at hl 0 rfl) ?_
  refine lv_iconst (v := (-1 : Int32)) hx hb dX7_bringBack_10 (by decide) ?_
  refine lv_icmp_eq (tgt := 44) hx hb dX7_bringBack_11 (by decide) (fun c => ?_) (fun c => ?_)
  · have hw := hw.1 c
    refine lv_iconst (v := (-1 : Int32)) hx hb dX7_bringBack_44 (by decide) ?_
    exact hq _ F1 G2 _ _ _ _ dX7_bringBack_45 h hw
  · have hw := hw.2 c
    refine lv_aload_n hx hb dX7_bringBack_14 rfl (lv_at hl 1 rfl) ?_
    refine gX_7_54 C h dX7_bringBack_15 ?_
    refine gX_7_231 C h dX7_bringBack_18 ?_
    refine lv_iload_n hx hb dX7_bringBack_21 rfl (lv_at hl 0 rfl) ?_
    have hi := hw.1
    have hw := hw.2
    refine laX_25 C h hi dX7_bringBack_22 ?_
    refine lv_aload_n hx hb dX7_bringBack_23 rfl (lv_at hl 1 rfl) ?_
    refine gX_7_40 C h dX7_bringBack_24 ?_
    refine gX_7_148 C h dX7_bringBack_27 ?_
    refine lv_iload_n hx hb dX7_bringBack_30 rfl (lv_at hl 2 rfl) ?_
    have hi := hw.1
    have hw := hw.2
    refine laX_16 C h hi dX7_bringBack_31 ?_
    refine lv_icmp_ne (tgt := 44) hx hb dX7_bringBack_32 (by decide) (fun c => ?_) (fun c => ?_)
    · have hw := hw.1 c
      refine lv_iconst (v := (-1 : Int32)) hx hb dX7_bringBack_44 (by decide) ?_
      exact hq _ F1 G2 _ _ _ _ dX7_bringBack_45 h hw
    · have hw := hw.2 c
      refine lv_aload_n hx hb dX7_bringBack_35 rfl (lv_at hl 1 rfl) ?_
      refine lv_iload_n hx hb dX7_bringBack_36 rfl (lv_at hl 2 rfl) ?_
      refine lv_iload_n hx hb dX7_bringBack_37 rfl (lv_at hl 0 rfl) ?_
      refine kXiV C h (c_X7_lawLetsBack x1 r3 F1 G2 hw) lk_7_309 (rvX_0 K a F1 G2) rfl hl.1 rfl (Nat.le_of_ble_eq_true rfl) ⟨Nat.le_trans (Nat.le_of_ble_eq_true rfl) hR.1, Nat.le_trans (Nat.le_of_ble_eq_true rfl) hR.2⟩ ⟨Nat.zero_le _, Nat.zero_le _⟩ dX7_bringBack_38 (fun r6 F4 G5 H locs hw h => ?_)
      have hw := hw.2
      refine lv_if_ne (tgt := 46) hx hb dX7_bringBack_41 (by decide) (fun c => ?_) (fun c => ?_)
      · have hw := hw.1 c
        refine lv_aload_n hx hb dX7_bringBack_46 rfl (lv_at hl 1 rfl) ?_
        refine gX_7_54 C h dX7_bringBack_47 ?_
        refine gX_7_228 C h dX7_bringBack_50 ?_
        refine lv_iload_n hx hb dX7_bringBack_53 rfl (lv_at hl 0 rfl) ?_
        have hi := hw.1
        have hw := hw.2
        refine laX_24 C h hi dX7_bringBack_54 ?_
        refine lv_istore_n (lv' := [(3, .int (G5 24 r3.toNatClampNeg)), (2, .int r3), (0, .ref (a 0)), (1, .int x1)]) hx hb dX7_bringBack_55 rfl hl (by decide) rfl (fun ls hl => ?_)
        refine lv_aload_n hx hb dX7_bringBack_56 rfl (lv_at hl 2 rfl) ?_
        refine gX_7_54 C h dX7_bringBack_57 ?_
        refine gX_7_312 C h dX7_bringBack_60 ?_
        refine lv_iload_n hx hb dX7_bringBack_63 rfl (lv_at hl 1 rfl) ?_
        have hi := hw.1
        have hw := hw.2
        refine laX_31 C h hi dX7_bringBack_64 ?_
        refine lv_if_eq (tgt := 93) hx hb dX7_bringBack_65 (by decide) (fun c => ?_) (fun c => ?_)
        · have hw := hw.1 c
          exact wk_X7_bringBack_93 hR C hq x1 r3 (G5 24 r3.toNatClampNeg) F4 G5 h (lv_sub hl [2, 3, 1, 0] rfl) hw
        · have hw := hw.2 c
          refine lv_aload_n hx hb dX7_bringBack_68 rfl (lv_at hl 2 rfl) ?_
          refine gX_7_40 C h dX7_bringBack_69 ?_
          refine gX_7_151 C h dX7_bringBack_72 ?_
          refine lv_iload_n hx hb dX7_bringBack_75 rfl (lv_at hl 3 rfl) ?_
          have hi := hw.1
          have hw := hw.2
          refine laX_17 C h hi dX7_bringBack_76 ?_
          refine lv_aload_n hx hb dX7_bringBack_77 rfl (lv_at hl 2 rfl) ?_
          refine gX_7_54 C h dX7_bringBack_78 ?_
          refine gX_7_231 C h dX7_bringBack_81 ?_
          refine lv_iload_n hx hb dX7_bringBack_84 rfl (lv_at hl 1 rfl) ?_
          have hi := hw.1
          have hw := hw.2
          refine laX_25 C h hi dX7_bringBack_85 ?_
          refine lv_icmp_ne (tgt := 93) hx hb dX7_bringBack_86 (by decide) (fun c => ?_) (fun c => ?_)
          · have hw := hw.1 c
            exact wk_X7_bringBack_93 hR C hq x1 r3 (G5 24 r3.toNatClampNeg) F4 G5 h (lv_sub hl [2, 3, 1, 0] rfl) hw
          · have hw := hw.2 c
            refine lv_iconst (v := (1 : Int32)) hx hb dX7_bringBack_89 (by decide) ?_
            refine lv_goto (tgt := 94) hx hb dX7_bringBack_90 (by decide) ?_
            exact wk_X7_bringBack_94 hR C hq x1 r3 (G5 24 r3.toNatClampNeg) (1 : Int32) F4 G5 h (lv_sub hl [2, 3, 1, 0] rfl) hw
      · have hw := hw.2 c
        refine lv_iconst (v := (-1 : Int32)) hx hb dX7_bringBack_44 (by decide) ?_
        exact hq _ F4 G5 _ _ _ _ dX7_bringBack_45 h hw
theorem c_X7_bringBack {l : Launch} {K : KT} {a : Nat → Nat} (x1 : Int32) (F : FT) (G : GT) {Q : Int32 → FT → GT → Prop} (hw : wp_X7_bringBack x1 F G Q) : CtXi l K a yX7_bringBack cX7_bringBack 5 (some .int) 4 86 [.ref (a 0), .int x1] F G Q := fun sz => x_met (Qm := QmXi K a Q) (by decide) (Nat.le_of_ble_eq_true rfl) (fun p e s m below meth c A ls C hr h hl => wk_X7_bringBack_0 ⟨Nat.le_refl _, Nat.le_refl _⟩ C (retX_z C hr (fun r F G _ => rfl)) x1 F G h hl hw)
def wp_X7_back_0 (Q : Int32 → FT → GT → Prop) (x1 : Int32) (F : FT) (G : GT) : Prop := wp_X1_has x1 F G (fun r3 F1 G2 => ((r3 = 0) → Q (-1 : Int32) F1 G2) ∧ ((¬ r3 = 0) → wp_X7_bringBack x1 F1 G2 (fun r6 F4 G5 => Q r6 F4 G5)))
def wp_X7_back (x1 : Int32) (F : FT) (G : GT) (Q : Int32 → FT → GT → Prop) : Prop := wp_X7_back_0 Q x1 F G
set_option maxHeartbeats 4000000 in
set_option maxRecDepth 100000 in
theorem wk_X7_back_0 {p : Program} {l : Launch} {e : Env} {R : Room} {s : State} {m : MethodId} {args : Array Value} {below : List Frame} {meth : Method} {c : Code} {K : KT} {A : Nat → Prop} {Z : State → Prop} {a : Nat → Nat} (hR : 5 ≤ R.frames ∧ 110 ≤ R.locals) (C : CX p s m args meth c K A cX7_back 2 RX7) {Q : Int32 → FT → GT → Prop} (hq : RetXi p l e R s m args below meth c K A Z a cX7_back Q) (x1 : Int32) (F : FT) (G : GT) {H : Heap} {locs : List Loc} (h : WD K A s (wX K a F G) H locs) {ls : Array Slot} (hl : lv_has ls 2 [(0, .ref (a 0)), (1, .int x1)]) (hw : wp_X7_back_0 Q x1 F G) : W p l e R s m args below meth c H locs 0 0 Z (F0 m 0 ls []) := by
  unfold wp_X7_back_0 at hw
  have hx := C.1
  have hb := C.2.1
  refine lv_aload_n hx hb dX7_back_0 rfl (lv_at hl 0 rfl) ?_
  refine gX_7_40 C h dX7_back_1 ?_
  refine lv_iload_n hx hb dX7_back_4 rfl (lv_at hl 1 rfl) ?_
  refine kXiV C h (c_X1_has x1 F G hw) lk_7_167 (rvX_5 K a F G) rfl hl.1 rfl (Nat.le_of_ble_eq_true rfl) ⟨Nat.le_trans (Nat.le_of_ble_eq_true rfl) hR.1, Nat.le_trans (Nat.le_of_ble_eq_true rfl) hR.2⟩ ⟨Nat.zero_le _, Nat.zero_le _⟩ dX7_back_5 (fun r3 F1 G2 H locs hw h => ?_)
  have hw := hw.2
  refine lv_if_eq (tgt := 19) hx hb dX7_back_8 (by decide) (fun c => ?_) (fun c => ?_)
  · have hw := hw.1 c
    refine lv_iconst (v := (-1 : Int32)) hx hb dX7_back_19 (by decide) ?_
    exact hq _ F1 G2 _ _ _ _ dX7_back_20 h hw
  · have hw := hw.2 c
    refine lv_aload_n hx hb dX7_back_11 rfl (lv_at hl 0 rfl) ?_
    refine lv_iload_n hx hb dX7_back_12 rfl (lv_at hl 1 rfl) ?_
    refine kXiV C h (c_X7_bringBack x1 F1 G2 hw) lk_7_184 (rvX_0 K a F1 G2) rfl hl.1 rfl (Nat.le_of_ble_eq_true rfl) ⟨Nat.le_trans (Nat.le_of_ble_eq_true rfl) hR.1, Nat.le_trans (Nat.le_of_ble_eq_true rfl) hR.2⟩ ⟨Nat.zero_le _, Nat.zero_le _⟩ dX7_back_13 (fun r6 F4 G5 H locs hw h => ?_)
    refine lv_goto (tgt := 20) hx hb dX7_back_16 (by decide) ?_
    exact hq _ F4 G5 _ _ _ _ dX7_back_20 h hw
theorem c_X7_back {l : Launch} {K : KT} {a : Nat → Nat} (x1 : Int32) (F : FT) (G : GT) {Q : Int32 → FT → GT → Prop} (hw : wp_X7_back x1 F G Q) : CtXi l K a yX7_back cX7_back 2 (some .int) 5 110 [.ref (a 0), .int x1] F G Q := fun sz => x_met (Qm := QmXi K a Q) (by decide) (Nat.le_of_ble_eq_true rfl) (fun p e s m below meth c A ls C hr h hl => wk_X7_back_0 ⟨Nat.le_refl _, Nat.le_refl _⟩ C (retX_z C hr (fun r F G _ => rfl)) x1 F G h hl hw)
def wp_X7_trace_15 (Q : Int32 → FT → GT → Prop) : Nat → Int32 → Int32 → FT → GT → Prop
  | 0, _, _, _, _ => False
  | n + 1, x1, x2, F, G => (((80 : Int32) ≤ x2) → Q x2 F G) ∧ ((¬ (80 : Int32) ≤ x2) → wp_X7_bringBack x1 F G (fun r3 F1 G2 => ((r3 = (-1 : Int32)) → Q x2 F1 G2) ∧ ((¬ r3 = (-1 : Int32)) → ∀ v4 : Int32, v4 = (x2 + 1) → wp_X7_trace_15 Q n x1 v4 F1 G2)))
def wp_X7_trace_0 (Q : Int32 → FT → GT → Prop) (x1 : Int32) (F : FT) (G : GT) : Prop := wp_X1_has x1 F G (fun r3 F1 G2 => ((¬ r3 = 0) → ∃ n : Nat, wp_X7_trace_15 Q n x1 (0 : Int32) F1 G2) ∧ ((r3 = 0) → Q (-1 : Int32) F1 G2))
def wp_X7_trace (x1 : Int32) (F : FT) (G : GT) (Q : Int32 → FT → GT → Prop) : Prop := wp_X7_trace_0 Q x1 F G
set_option maxHeartbeats 4000000 in
set_option maxRecDepth 100000 in
theorem wk_X7_trace_15 {p : Program} {l : Launch} {e : Env} {R : Room} {s : State} {m : MethodId} {args : Array Value} {below : List Frame} {meth : Method} {c : Code} {K : KT} {A : Nat → Prop} {Z : State → Prop} {a : Nat → Nat} (hR : 5 ≤ R.frames ∧ 110 ≤ R.locals) (C : CX p s m args meth c K A cX7_trace 3 RX7) {Q : Int32 → FT → GT → Prop} (hq : RetXi p l e R s m args below meth c K A Z a cX7_trace Q) : ∀ (n : Nat) (x1 : Int32) (x2 : Int32) (F : FT) (G : GT) {H : Heap} {locs : List Loc} (h : WD K A s (wX K a F G) H locs) {ls : Array Slot} (hl : lv_has ls 3 [(0, .ref (a 0)), (1, .int x1), (2, .int x2)]) (hw : wp_X7_trace_15 Q n x1 x2 F G), W p l e R s m args below meth c H locs 0 0 Z (F0 m 15 ls []) := by
  intro n
  induction n with
  | zero => intro x1 x2 F G H locs h ls hl hw; exact False.elim hw
  | succ n ih =>
    intro x1 x2 F G H locs h ls hl hw
    rw [wp_X7_trace_15] at hw
    have hx := C.1
    have hb := C.2.1
    refine lv_iload_n hx hb dX7_trace_15 rfl (lv_at hl 2 rfl) ?_
    refine lv_bipush (v := (80 : Int32)) hx hb dX7_trace_16 (by decide) ?_
    refine lv_icmp_ge (tgt := 36) hx hb dX7_trace_18 (by decide) (fun c => ?_) (fun c => ?_)
    · have hw := hw.1 c
      refine lv_iload_n hx hb dX7_trace_36 rfl (lv_at hl 2 rfl) ?_
      exact hq _ F G _ _ _ _ dX7_trace_37 h hw
    · have hw := hw.2 c
      refine lv_aload_n hx hb dX7_trace_21 rfl (lv_at hl 0 rfl) ?_
      refine lv_iload_n hx hb dX7_trace_22 rfl (lv_at hl 1 rfl) ?_
      refine kXiV C h (c_X7_bringBack x1 F G hw) lk_7_184 (rvX_0 K a F G) rfl hl.1 rfl (Nat.le_of_ble_eq_true rfl) ⟨Nat.le_trans (Nat.le_of_ble_eq_true rfl) hR.1, Nat.le_trans (Nat.le_of_ble_eq_true rfl) hR.2⟩ ⟨Nat.zero_le _, Nat.zero_le _⟩ dX7_trace_23 (fun r3 F1 G2 H locs hw h => ?_)
      refine lv_iconst (v := (-1 : Int32)) hx hb dX7_trace_26 (by decide) ?_
      refine lv_icmp_eq (tgt := 36) hx hb dX7_trace_27 (by decide) (fun c => ?_) (fun c => ?_)
      · have hw := hw.1 c
        refine lv_iload_n hx hb dX7_trace_36 rfl (lv_at hl 2 rfl) ?_
        exact hq _ F1 G2 _ _ _ _ dX7_trace_37 h hw
      · have hw := hw.2 c
        obtain ⟨v4, ev4⟩ : ∃ z : Int32, z = (x2 + 1) := ⟨_, rfl⟩
        have hw := hw v4 ev4
        refine lv_iinc (v := v4) (lv' := [(2, .int v4), (0, .ref (a 0)), (1, .int x1)]) hx hb dX7_trace_30 hl (k := 2) rfl (by rw [ev4]; rfl) (by decide) rfl (fun ls hl => ?_)
        refine lv_goto (tgt := 15) hx hb dX7_trace_33 (by decide) ?_
        exact ih x1 v4 F1 G2 h (lv_sub hl [1, 2, 0] rfl) hw
set_option maxHeartbeats 4000000 in
set_option maxRecDepth 100000 in
theorem wk_X7_trace_0 {p : Program} {l : Launch} {e : Env} {R : Room} {s : State} {m : MethodId} {args : Array Value} {below : List Frame} {meth : Method} {c : Code} {K : KT} {A : Nat → Prop} {Z : State → Prop} {a : Nat → Nat} (hR : 5 ≤ R.frames ∧ 110 ≤ R.locals) (C : CX p s m args meth c K A cX7_trace 3 RX7) {Q : Int32 → FT → GT → Prop} (hq : RetXi p l e R s m args below meth c K A Z a cX7_trace Q) (x1 : Int32) (F : FT) (G : GT) {H : Heap} {locs : List Loc} (h : WD K A s (wX K a F G) H locs) {ls : Array Slot} (hl : lv_has ls 3 [(0, .ref (a 0)), (1, .int x1)]) (hw : wp_X7_trace_0 Q x1 F G) : W p l e R s m args below meth c H locs 0 0 Z (F0 m 0 ls []) := by
  unfold wp_X7_trace_0 at hw
  have hx := C.1
  have hb := C.2.1
  refine lv_aload_n hx hb dX7_trace_0 rfl (lv_at hl 0 rfl) ?_
  refine gX_7_40 C h dX7_trace_1 ?_
  refine lv_iload_n hx hb dX7_trace_4 rfl (lv_at hl 1 rfl) ?_
  refine kXiV C h (c_X1_has x1 F G hw) lk_7_167 (rvX_5 K a F G) rfl hl.1 rfl (Nat.le_of_ble_eq_true rfl) ⟨Nat.le_trans (Nat.le_of_ble_eq_true rfl) hR.1, Nat.le_trans (Nat.le_of_ble_eq_true rfl) hR.2⟩ ⟨Nat.zero_le _, Nat.zero_le _⟩ dX7_trace_5 (fun r3 F1 G2 H locs hw h => ?_)
  have hw := hw.2
  refine lv_if_ne (tgt := 13) hx hb dX7_trace_8 (by decide) (fun c => ?_) (fun c => ?_)
  · have hw := hw.1 c
    refine lv_iconst (v := (0 : Int32)) hx hb dX7_trace_13 (by decide) ?_
    refine lv_istore_n (lv' := [(2, .int (0 : Int32)), (0, .ref (a 0)), (1, .int x1)]) hx hb dX7_trace_14 rfl hl (by decide) rfl (fun ls hl => ?_)
    obtain ⟨n, hw⟩ := hw
    exact wk_X7_trace_15 hR C hq n x1 (0 : Int32) F1 G2 h (lv_sub hl [1, 2, 0] rfl) hw
  · have hw := hw.2 c
    refine lv_iconst (v := (-1 : Int32)) hx hb dX7_trace_11 (by decide) ?_
    exact hq _ F1 G2 _ _ _ _ dX7_trace_12 h hw
theorem c_X7_trace {l : Launch} {K : KT} {a : Nat → Nat} (x1 : Int32) (F : FT) (G : GT) {Q : Int32 → FT → GT → Prop} (hw : wp_X7_trace x1 F G Q) : CtXi l K a yX7_trace cX7_trace 3 (some .int) 5 110 [.ref (a 0), .int x1] F G Q := fun sz => x_met (Qm := QmXi K a Q) (by decide) (Nat.le_of_ble_eq_true rfl) (fun p e s m below meth c A ls C hr h hl => wk_X7_trace_0 ⟨Nat.le_refl _, Nat.le_refl _⟩ C (retX_z C hr (fun r F G _ => rfl)) x1 F G h hl hw)
def wp_X7_steal_0 (Q : Int32 → FT → GT → Prop) (x1 : Int32) (x2 : Int32) (F : FT) (G : GT) : Prop := wp_X1_has x1 F G (fun r3 F1 G2 => ((r3 = 0) → Q (0 : Int32) F1 G2) ∧ ((¬ r3 = 0) → wp_X4_hasPerson x2 F1 G2 (fun r6 F4 G5 => ((r6 = 0) → Q (0 : Int32) F4 G5) ∧ ((¬ r6 = 0) → vp_in x1 40 ∧ ((¬ (G5 16 x1.toNatClampNeg) = x2) → vp_in x1 40 ∧ wp_X7_lead x1 x2 (G5 17 x1.toNatClampNeg) (3 : Int32) F4 G5 (fun F7 G8 => Q (1 : Int32) F7 G8)) ∧ (((G5 16 x1.toNatClampNeg) = x2) → Q (0 : Int32) F4 G5)))))
def wp_X7_steal (x1 : Int32) (x2 : Int32) (F : FT) (G : GT) (Q : Int32 → FT → GT → Prop) : Prop := wp_X7_steal_0 (fun r F G => (r = 0 ∨ r = 1) ∧ Q r F G) x1 x2 F G
set_option maxHeartbeats 4000000 in
set_option maxRecDepth 100000 in
theorem wk_X7_steal_0 {p : Program} {l : Launch} {e : Env} {R : Room} {s : State} {m : MethodId} {args : Array Value} {below : List Frame} {meth : Method} {c : Code} {K : KT} {A : Nat → Prop} {Z : State → Prop} {a : Nat → Nat} (hR : 3 ≤ R.frames ∧ 69 ≤ R.locals) (C : CX p s m args meth c K A cX7_steal 3 RX7) {Q : Int32 → FT → GT → Prop} (hq : RetXi p l e R s m args below meth c K A Z a cX7_steal Q) (x1 : Int32) (x2 : Int32) (F : FT) (G : GT) {H : Heap} {locs : List Loc} (h : WD K A s (wX K a F G) H locs) {ls : Array Slot} (hl : lv_has ls 3 [(0, .ref (a 0)), (1, .int x1), (2, .int x2)]) (hw : wp_X7_steal_0 Q x1 x2 F G) : W p l e R s m args below meth c H locs 0 0 Z (F0 m 0 ls []) := by
  unfold wp_X7_steal_0 at hw
  have hx := C.1
  have hb := C.2.1
  refine lv_aload_n hx hb dX7_steal_0 rfl (lv_at hl 0 rfl) ?_
  refine gX_7_40 C h dX7_steal_1 ?_
  refine lv_iload_n hx hb dX7_steal_4 rfl (lv_at hl 1 rfl) ?_
  refine kXiV C h (c_X1_has x1 F G hw) lk_7_167 (rvX_5 K a F G) rfl hl.1 rfl (Nat.le_of_ble_eq_true rfl) ⟨Nat.le_trans (Nat.le_of_ble_eq_true rfl) hR.1, Nat.le_trans (Nat.le_of_ble_eq_true rfl) hR.2⟩ ⟨Nat.zero_le _, Nat.zero_le _⟩ dX7_steal_5 (fun r3 F1 G2 H locs hw h => ?_)
  have hw := hw.2
  refine lv_if_eq (tgt := 35) hx hb dX7_steal_8 (by decide) (fun c => ?_) (fun c => ?_)
  · have hw := hw.1 c
    refine lv_iconst (v := (0 : Int32)) hx hb dX7_steal_35 (by decide) ?_
    exact hq _ F1 G2 _ _ _ _ dX7_steal_36 h hw
  · have hw := hw.2 c
    refine lv_aload_n hx hb dX7_steal_11 rfl (lv_at hl 0 rfl) ?_
    refine gX_7_33 C h dX7_steal_12 ?_
    refine lv_iload_n hx hb dX7_steal_15 rfl (lv_at hl 2 rfl) ?_
    refine kXiV C h (c_X4_hasPerson x2 F1 G2 hw) lk_7_122 (rvX_4 K a F1 G2) rfl hl.1 rfl (Nat.le_of_ble_eq_true rfl) ⟨Nat.le_trans (Nat.le_of_ble_eq_true rfl) hR.1, Nat.le_trans (Nat.le_of_ble_eq_true rfl) hR.2⟩ ⟨Nat.zero_le _, Nat.zero_le _⟩ dX7_steal_16 (fun r6 F4 G5 H locs hw h => ?_)
    have hw := hw.2
    refine lv_if_eq (tgt := 35) hx hb dX7_steal_19 (by decide) (fun c => ?_) (fun c => ?_)
    · have hw := hw.1 c
      refine lv_iconst (v := (0 : Int32)) hx hb dX7_steal_35 (by decide) ?_
      exact hq _ F4 G5 _ _ _ _ dX7_steal_36 h hw
    · have hw := hw.2 c
      refine lv_aload_n hx hb dX7_steal_22 rfl (lv_at hl 0 rfl) ?_
      refine gX_7_40 C h dX7_steal_23 ?_
      refine gX_7_148 C h dX7_steal_26 ?_
      refine lv_iload_n hx hb dX7_steal_29 rfl (lv_at hl 1 rfl) ?_
      have hi := hw.1
      have hw := hw.2
      refine laX_16 C h hi dX7_steal_30 ?_
      refine lv_iload_n hx hb dX7_steal_31 rfl (lv_at hl 2 rfl) ?_
      refine lv_icmp_ne (tgt := 37) hx hb dX7_steal_32 (by decide) (fun c => ?_) (fun c => ?_)
      · have hw := hw.1 c
        refine lv_aload_n hx hb dX7_steal_37 rfl (lv_at hl 0 rfl) ?_
        refine lv_iload_n hx hb dX7_steal_38 rfl (lv_at hl 1 rfl) ?_
        refine lv_iload_n hx hb dX7_steal_39 rfl (lv_at hl 2 rfl) ?_
        refine lv_aload_n hx hb dX7_steal_40 rfl (lv_at hl 0 rfl) ?_
        refine gX_7_40 C h dX7_steal_41 ?_
        refine gX_7_151 C h dX7_steal_44 ?_
        refine lv_iload_n hx hb dX7_steal_47 rfl (lv_at hl 1 rfl) ?_
        have hi := hw.1
        have hw := hw.2
        refine laX_17 C h hi dX7_steal_48 ?_
        refine lv_iconst (v := (3 : Int32)) hx hb dX7_steal_49 (by decide) ?_
        refine kXvV C h (c_X7_lead x1 x2 (G5 17 x1.toNatClampNeg) (3 : Int32) F4 G5 hw) lk_7_164 (rvX_0 K a F4 G5) rfl hl.1 rfl (Nat.le_of_ble_eq_true rfl) ⟨Nat.le_trans (Nat.le_of_ble_eq_true rfl) hR.1, Nat.le_trans (Nat.le_of_ble_eq_true rfl) hR.2⟩ ⟨Nat.zero_le _, Nat.zero_le _⟩ dX7_steal_50 (fun F7 G8 H locs hw h => ?_)
        refine lv_iconst (v := (1 : Int32)) hx hb dX7_steal_53 (by decide) ?_
        exact hq _ F7 G8 _ _ _ _ dX7_steal_54 h hw
      · have hw := hw.2 c
        refine lv_iconst (v := (0 : Int32)) hx hb dX7_steal_35 (by decide) ?_
        exact hq _ F4 G5 _ _ _ _ dX7_steal_36 h hw
theorem c_X7_steal {l : Launch} {K : KT} {a : Nat → Nat} (x1 : Int32) (x2 : Int32) (F : FT) (G : GT) {Q : Int32 → FT → GT → Prop} (hw : wp_X7_steal x1 x2 F G Q) : CtXi l K a yX7_steal cX7_steal 3 (some .boolean) 3 69 [.ref (a 0), .int x1, .int x2] F G (fun r F G => (r = 0 ∨ r = 1) ∧ Q r F G) := fun sz => x_met (Qm := QmXi K a (fun r F G => (r = 0 ∨ r = 1) ∧ Q r F G)) (by decide) (Nat.le_of_ble_eq_true rfl) (fun p e s m below meth c A ls C hr h hl => wk_X7_steal_0 ⟨Nat.le_refl _, Nat.le_refl _⟩ C (retX_z C hr (fun r F G hz => by rcases hz.1 with z | z <;> rw [z] <;> rfl)) x1 x2 F G h hl hw)
def wp_X7_claim_36 (Q : Int32 → FT → GT → Prop) : Nat → Int32 → Int32 → Int32 → FT → GT → Prop
  | 0, _, _, _, _, _ => False
  | n + 1, x1, x2, x3, F, G => vp_in x1 40 ∧ ((x3 < (G 18 x1.toNatClampNeg)) → vp_in x1 40 ∧ vp_in x1 40 ∧ wp_X7_lead x1 (G 17 x1.toNatClampNeg) (G 17 x1.toNatClampNeg) (4 : Int32) F G (fun F1 G2 => Q x2 F1 G2)) ∧ ((¬ x3 < (G 18 x1.toNatClampNeg)) → wp_X5_stands x3 x1 F G (fun r5 F3 G4 => ((r5 = 0) → ∀ v6 : Int32, v6 = (x3 + (-1)) → wp_X7_claim_36 Q n x1 x2 v6 F3 G4) ∧ ((¬ r5 = 0) → wp_X7_undo x3 F3 G4 (fun F7 G8 => ∀ v9 : Int32, v9 = (x2 + 1) → ∀ v10 : Int32, v10 = (x3 + (-1)) → wp_X7_claim_36 Q n x1 v9 v10 F7 G8))))
def wp_X7_claim_0 (Q : Int32 → FT → GT → Prop) (x1 : Int32) (F : FT) (G : GT) : Prop := wp_X1_has x1 F G (fun r3 F1 G2 => ((r3 = 0) → Q (-1 : Int32) F1 G2) ∧ ((¬ r3 = 0) → wp_X1_isApart x1 F1 G2 (fun r6 F4 G5 => ((¬ r6 = 0) → ∃ n : Nat, wp_X7_claim_36 Q n x1 (0 : Int32) ((F4 8) - (1 : Int32)) F4 G5) ∧ ((r6 = 0) → Q (-1 : Int32) F4 G5))))
def wp_X7_claim (x1 : Int32) (F : FT) (G : GT) (Q : Int32 → FT → GT → Prop) : Prop := wp_X7_claim_0 Q x1 F G
set_option maxHeartbeats 4000000 in
set_option maxRecDepth 100000 in
theorem wk_X7_claim_36 {p : Program} {l : Launch} {e : Env} {R : Room} {s : State} {m : MethodId} {args : Array Value} {below : List Frame} {meth : Method} {c : Code} {K : KT} {A : Nat → Prop} {Z : State → Prop} {a : Nat → Nat} (hR : 4 ≤ R.frames ∧ 86 ≤ R.locals) (C : CX p s m args meth c K A cX7_claim 4 RX7) {Q : Int32 → FT → GT → Prop} (hq : RetXi p l e R s m args below meth c K A Z a cX7_claim Q) : ∀ (n : Nat) (x1 : Int32) (x2 : Int32) (x3 : Int32) (F : FT) (G : GT) {H : Heap} {locs : List Loc} (h : WD K A s (wX K a F G) H locs) {ls : Array Slot} (hl : lv_has ls 4 [(0, .ref (a 0)), (1, .int x1), (2, .int x2), (3, .int x3)]) (hw : wp_X7_claim_36 Q n x1 x2 x3 F G), W p l e R s m args below meth c H locs 0 0 Z (F0 m 36 ls []) := by
  intro n
  induction n with
  | zero => intro x1 x2 x3 F G H locs h ls hl hw; exact False.elim hw
  | succ n ih =>
    intro x1 x2 x3 F G H locs h ls hl hw
    rw [wp_X7_claim_36] at hw
    have hx := C.1
    have hb := C.2.1
    refine lv_iload_n hx hb dX7_claim_36 rfl (lv_at hl 3 rfl) ?_
    refine lv_aload_n hx hb dX7_claim_37 rfl (lv_at hl 0 rfl) ?_
    refine gX_7_40 C h dX7_claim_38 ?_
    refine gX_7_191 C h dX7_claim_41 ?_
    refine lv_iload_n hx hb dX7_claim_44 rfl (lv_at hl 1 rfl) ?_
    have hi := hw.1
    have hw := hw.2
    refine laX_18 C h hi dX7_claim_45 ?_
    refine lv_icmp_lt (tgt := 75) hx hb dX7_claim_46 (by decide) (fun c => ?_) (fun c => ?_)
    · have hw := hw.1 c
      refine lv_aload_n hx hb dX7_claim_75 rfl (lv_at hl 0 rfl) ?_
      refine lv_iload_n hx hb dX7_claim_76 rfl (lv_at hl 1 rfl) ?_
      refine lv_aload_n hx hb dX7_claim_77 rfl (lv_at hl 0 rfl) ?_
      refine gX_7_40 C h dX7_claim_78 ?_
      refine gX_7_151 C h dX7_claim_81 ?_
      refine lv_iload_n hx hb dX7_claim_84 rfl (lv_at hl 1 rfl) ?_
      have hi := hw.1
      have hw := hw.2
      refine laX_17 C h hi dX7_claim_85 ?_
      refine lv_aload_n hx hb dX7_claim_86 rfl (lv_at hl 0 rfl) ?_
      refine gX_7_40 C h dX7_claim_87 ?_
      refine gX_7_151 C h dX7_claim_90 ?_
      refine lv_iload_n hx hb dX7_claim_93 rfl (lv_at hl 1 rfl) ?_
      have hi := hw.1
      have hw := hw.2
      refine laX_17 C h hi dX7_claim_94 ?_
      refine lv_iconst (v := (4 : Int32)) hx hb dX7_claim_95 (by decide) ?_
      refine kXvV C h (c_X7_lead x1 (G 17 x1.toNatClampNeg) (G 17 x1.toNatClampNeg) (4 : Int32) F G hw) lk_7_164 (rvX_0 K a F G) rfl hl.1 rfl (Nat.le_of_ble_eq_true rfl) ⟨Nat.le_trans (Nat.le_of_ble_eq_true rfl) hR.1, Nat.le_trans (Nat.le_of_ble_eq_true rfl) hR.2⟩ ⟨Nat.zero_le _, Nat.zero_le _⟩ dX7_claim_96 (fun F1 G2 H locs hw h => ?_)
      refine lv_iload_n hx hb dX7_claim_99 rfl (lv_at hl 2 rfl) ?_
      exact hq _ F1 G2 _ _ _ _ dX7_claim_100 h hw
    · have hw := hw.2 c
      refine lv_aload_n hx hb dX7_claim_49 rfl (lv_at hl 0 rfl) ?_
      refine gX_7_54 C h dX7_claim_50 ?_
      refine lv_iload_n hx hb dX7_claim_53 rfl (lv_at hl 3 rfl) ?_
      refine lv_iload_n hx hb dX7_claim_54 rfl (lv_at hl 1 rfl) ?_
      refine kXiV C h (c_X5_stands x3 x1 F G hw) lk_7_194 (rvX_7 K a F G) rfl hl.1 rfl (Nat.le_of_ble_eq_true rfl) ⟨Nat.le_trans (Nat.le_of_ble_eq_true rfl) hR.1, Nat.le_trans (Nat.le_of_ble_eq_true rfl) hR.2⟩ ⟨Nat.zero_le _, Nat.zero_le _⟩ dX7_claim_55 (fun r5 F3 G4 H locs hw h => ?_)
      have hw := hw.2
      refine lv_if_eq (tgt := 69) hx hb dX7_claim_58 (by decide) (fun c => ?_) (fun c => ?_)
      · have hw := hw.1 c
        obtain ⟨v6, ev6⟩ : ∃ z : Int32, z = (x3 + (-1)) := ⟨_, rfl⟩
        have hw := hw v6 ev6
        refine lv_iinc (v := v6) (lv' := [(3, .int v6), (0, .ref (a 0)), (1, .int x1), (2, .int x2)]) hx hb dX7_claim_69 hl (k := 3) rfl (by rw [ev6]; rfl) (by decide) rfl (fun ls hl => ?_)
        refine lv_goto (tgt := 36) hx hb dX7_claim_72 (by decide) ?_
        exact ih x1 x2 v6 F3 G4 h (lv_sub hl [1, 2, 3, 0] rfl) hw
      · have hw := hw.2 c
        refine lv_aload_n hx hb dX7_claim_61 rfl (lv_at hl 0 rfl) ?_
        refine lv_iload_n hx hb dX7_claim_62 rfl (lv_at hl 3 rfl) ?_
        refine kXvV C h (c_X7_undo x3 F3 G4 hw) lk_7_197 (rvX_0 K a F3 G4) rfl hl.1 rfl (Nat.le_of_ble_eq_true rfl) ⟨Nat.le_trans (Nat.le_of_ble_eq_true rfl) hR.1, Nat.le_trans (Nat.le_of_ble_eq_true rfl) hR.2⟩ ⟨Nat.zero_le _, Nat.zero_le _⟩ dX7_claim_63 (fun F7 G8 H locs hw h => ?_)
        obtain ⟨v9, ev9⟩ : ∃ z : Int32, z = (x2 + 1) := ⟨_, rfl⟩
        have hw := hw v9 ev9
        refine lv_iinc (v := v9) (lv' := [(2, .int v9), (0, .ref (a 0)), (1, .int x1), (3, .int x3)]) hx hb dX7_claim_66 hl (k := 2) rfl (by rw [ev9]; rfl) (by decide) rfl (fun ls hl => ?_)
        obtain ⟨v10, ev10⟩ : ∃ z : Int32, z = (x3 + (-1)) := ⟨_, rfl⟩
        have hw := hw v10 ev10
        refine lv_iinc (v := v10) (lv' := [(3, .int v10), (2, .int v9), (0, .ref (a 0)), (1, .int x1)]) hx hb dX7_claim_69 hl (k := 3) rfl (by rw [ev10]; rfl) (by decide) rfl (fun ls hl => ?_)
        refine lv_goto (tgt := 36) hx hb dX7_claim_72 (by decide) ?_
        exact ih x1 v9 v10 F7 G8 h (lv_sub hl [2, 3, 1, 0] rfl) hw
set_option maxHeartbeats 4000000 in
set_option maxRecDepth 100000 in
theorem wk_X7_claim_0 {p : Program} {l : Launch} {e : Env} {R : Room} {s : State} {m : MethodId} {args : Array Value} {below : List Frame} {meth : Method} {c : Code} {K : KT} {A : Nat → Prop} {Z : State → Prop} {a : Nat → Nat} (hR : 4 ≤ R.frames ∧ 86 ≤ R.locals) (C : CX p s m args meth c K A cX7_claim 4 RX7) {Q : Int32 → FT → GT → Prop} (hq : RetXi p l e R s m args below meth c K A Z a cX7_claim Q) (x1 : Int32) (F : FT) (G : GT) {H : Heap} {locs : List Loc} (h : WD K A s (wX K a F G) H locs) {ls : Array Slot} (hl : lv_has ls 4 [(0, .ref (a 0)), (1, .int x1)]) (hw : wp_X7_claim_0 Q x1 F G) : W p l e R s m args below meth c H locs 0 0 Z (F0 m 0 ls []) := by
  unfold wp_X7_claim_0 at hw
  have hx := C.1
  have hb := C.2.1
  refine lv_aload_n hx hb dX7_claim_0 rfl (lv_at hl 0 rfl) ?_
  refine gX_7_40 C h dX7_claim_1 ?_
  refine lv_iload_n hx hb dX7_claim_4 rfl (lv_at hl 1 rfl) ?_
  refine kXiV C h (c_X1_has x1 F G hw) lk_7_167 (rvX_5 K a F G) rfl hl.1 rfl (Nat.le_of_ble_eq_true rfl) ⟨Nat.le_trans (Nat.le_of_ble_eq_true rfl) hR.1, Nat.le_trans (Nat.le_of_ble_eq_true rfl) hR.2⟩ ⟨Nat.zero_le _, Nat.zero_le _⟩ dX7_claim_5 (fun r3 F1 G2 H locs hw h => ?_)
  have hw := hw.2
  refine lv_if_eq (tgt := 22) hx hb dX7_claim_8 (by decide) (fun c => ?_) (fun c => ?_)
  · have hw := hw.1 c
    refine lv_iconst (v := (-1 : Int32)) hx hb dX7_claim_22 (by decide) ?_
    exact hq _ F1 G2 _ _ _ _ dX7_claim_23 h hw
  · have hw := hw.2 c
    refine lv_aload_n hx hb dX7_claim_11 rfl (lv_at hl 0 rfl) ?_
    refine gX_7_40 C h dX7_claim_12 ?_
    refine lv_iload_n hx hb dX7_claim_15 rfl (lv_at hl 1 rfl) ?_
    refine kXiV C h (c_X1_isApart x1 F1 G2 hw) lk_7_187 (rvX_5 K a F1 G2) rfl hl.1 rfl (Nat.le_of_ble_eq_true rfl) ⟨Nat.le_trans (Nat.le_of_ble_eq_true rfl) hR.1, Nat.le_trans (Nat.le_of_ble_eq_true rfl) hR.2⟩ ⟨Nat.zero_le _, Nat.zero_le _⟩ dX7_claim_16 (fun r6 F4 G5 H locs hw h => ?_)
    have hw := hw.2
    refine lv_if_ne (tgt := 24) hx hb dX7_claim_19 (by decide) (fun c => ?_) (fun c => ?_)
    · have hw := hw.1 c
      refine lv_iconst (v := (0 : Int32)) hx hb dX7_claim_24 (by decide) ?_
      refine lv_istore_n (lv' := [(2, .int (0 : Int32)), (0, .ref (a 0)), (1, .int x1)]) hx hb dX7_claim_25 rfl hl (by decide) rfl (fun ls hl => ?_)
      refine lv_aload_n hx hb dX7_claim_26 rfl (lv_at hl 1 rfl) ?_
      refine gX_7_54 C h dX7_claim_27 ?_
      refine gX_7_190 C h dX7_claim_30 ?_
      refine lv_iconst (v := (1 : Int32)) hx hb dX7_claim_33 (by decide) ?_
      refine lv_isub hx hb dX7_claim_34 ?_
      refine lv_istore_n (lv' := [(3, .int ((F4 8) - (1 : Int32))), (2, .int (0 : Int32)), (0, .ref (a 0)), (1, .int x1)]) hx hb dX7_claim_35 rfl hl (by decide) rfl (fun ls hl => ?_)
      obtain ⟨n, hw⟩ := hw
      exact wk_X7_claim_36 hR C hq n x1 (0 : Int32) ((F4 8) - (1 : Int32)) F4 G5 h (lv_sub hl [2, 3, 1, 0] rfl) hw
    · have hw := hw.2 c
      refine lv_iconst (v := (-1 : Int32)) hx hb dX7_claim_22 (by decide) ?_
      exact hq _ F4 G5 _ _ _ _ dX7_claim_23 h hw
theorem c_X7_claim {l : Launch} {K : KT} {a : Nat → Nat} (x1 : Int32) (F : FT) (G : GT) {Q : Int32 → FT → GT → Prop} (hw : wp_X7_claim x1 F G Q) : CtXi l K a yX7_claim cX7_claim 4 (some .int) 4 86 [.ref (a 0), .int x1] F G Q := fun sz => x_met (Qm := QmXi K a Q) (by decide) (Nat.le_of_ble_eq_true rfl) (fun p e s m below meth c A ls C hr h hl => wk_X7_claim_0 ⟨Nat.le_refl _, Nat.le_refl _⟩ C (retX_z C hr (fun r F G _ => rfl)) x1 F G h hl hw)
def wp_X7_openTitle_0 (Q : FT → GT → Prop) (x1 : Int32) (F : FT) (G : GT) : Prop := wp_X5_latestStanding x1 F G (fun r3 F1 G2 => wp_X1_isApart x1 F1 G2 (fun r6 F4 G5 => ((r6 = 0) → Q F4 G5) ∧ ((¬ r6 = 0) → ((r3 = (-1 : Int32)) → Q F4 G5) ∧ ((¬ r3 = (-1 : Int32)) → vp_in r3 80 ∧ vp_in x1 40 ∧ (((G5 25 r3.toNatClampNeg) = (G5 16 x1.toNatClampNeg)) → vp_in r3 80 ∧ wp_X2_number (G5 28 r3.toNatClampNeg) (1 : Int32) F4 G5 (fun r9 F7 G8 => ((r9 < (1 : Int32)) → Q F7 G8) ∧ ((¬ r9 < (1 : Int32)) → vp_in r3 80 ∧ ((((F7 0) - (G8 29 r3.toNatClampNeg)) < r9) → Q F7 G8) ∧ ((¬ ((F7 0) - (G8 29 r3.toNatClampNeg)) < r9) → vp_in x1 40 ∧ vp_in x1 40 ∧ wp_X1_move x1 (G8 16 x1.toNatClampNeg) (G8 16 x1.toNatClampNeg) (F7 8) F7 G8 (fun F10 G11 => vp_in r3 80 ∧ ∀ G12 : GT, G12 = gU G11 31 (upd (G11 31) r3.toNatClampNeg (vp_nar .boolean (1 : Int32))) → Q F10 G12))))) ∧ ((¬ (G5 25 r3.toNatClampNeg) = (G5 16 x1.toNatClampNeg)) → Q F4 G5)))))
def wp_X7_openTitle (x1 : Int32) (F : FT) (G : GT) (Q : FT → GT → Prop) : Prop := wp_X7_openTitle_0 Q x1 F G
set_option maxHeartbeats 4000000 in
set_option maxRecDepth 100000 in
theorem wk_X7_openTitle_0 {p : Program} {l : Launch} {e : Env} {R : Room} {s : State} {m : MethodId} {args : Array Value} {below : List Frame} {meth : Method} {c : Code} {K : KT} {A : Nat → Prop} {Z : State → Prop} {a : Nat → Nat} (hR : 2 ≤ R.frames ∧ 45 ≤ R.locals) (C : CX p s m args meth c K A cX7_openTitle 4 RX7) {Q : FT → GT → Prop} (hq : RetXv p l e R s m args below meth c K A Z a cX7_openTitle Q) (x1 : Int32) (F : FT) (G : GT) {H : Heap} {locs : List Loc} (h : WD K A s (wX K a F G) H locs) {ls : Array Slot} (hl : lv_has ls 4 [(0, .ref (a 0)), (1, .int x1)]) (hw : wp_X7_openTitle_0 Q x1 F G) : W p l e R s m args below meth c H locs 0 0 Z (F0 m 0 ls []) := by
  unfold wp_X7_openTitle_0 at hw
  have hx := C.1
  have hb := C.2.1
  refine lv_aload_n hx hb dX7_openTitle_0 rfl (lv_at hl 0 rfl) ?_
  refine gX_7_54 C h dX7_openTitle_1 ?_
  refine lv_iload_n hx hb dX7_openTitle_4 rfl (lv_at hl 1 rfl) ?_
  refine kXiV C h (c_X5_latestStanding x1 F G hw) lk_7_208 (rvX_7 K a F G) rfl hl.1 rfl (Nat.le_of_ble_eq_true rfl) ⟨Nat.le_trans (Nat.le_of_ble_eq_true rfl) hR.1, Nat.le_trans (Nat.le_of_ble_eq_true rfl) hR.2⟩ ⟨Nat.zero_le _, Nat.zero_le _⟩ dX7_openTitle_5 (fun r3 F1 G2 H locs hw h => ?_)
  refine lv_istore_n (lv' := [(2, .int r3), (0, .ref (a 0)), (1, .int x1)]) hx hb dX7_openTitle_8 rfl hl (by decide) rfl (fun ls hl => ?_)
  refine lv_aload_n hx hb dX7_openTitle_9 rfl (lv_at hl 1 rfl) ?_
  refine gX_7_40 C h dX7_openTitle_10 ?_
  refine lv_iload_n hx hb dX7_openTitle_13 rfl (lv_at hl 2 rfl) ?_
  refine kXiV C h (c_X1_isApart x1 F1 G2 hw) lk_7_187 (rvX_5 K a F1 G2) rfl hl.1 rfl (Nat.le_of_ble_eq_true rfl) ⟨Nat.le_trans (Nat.le_of_ble_eq_true rfl) hR.1, Nat.le_trans (Nat.le_of_ble_eq_true rfl) hR.2⟩ ⟨Nat.zero_le _, Nat.zero_le _⟩ dX7_openTitle_14 (fun r6 F4 G5 H locs hw h => ?_)
  have hw := hw.2
  refine lv_if_eq (tgt := 46) hx hb dX7_openTitle_17 (by decide) (fun c => ?_) (fun c => ?_)
  · have hw := hw.1 c
    exact hq F4 G5 _ _ _ _ dX7_openTitle_46 h hw
  · have hw := hw.2 c
    refine lv_iload_n hx hb dX7_openTitle_20 rfl (lv_at hl 0 rfl) ?_
    refine lv_iconst (v := (-1 : Int32)) hx hb dX7_openTitle_21 (by decide) ?_
    refine lv_icmp_eq (tgt := 46) hx hb dX7_openTitle_22 (by decide) (fun c => ?_) (fun c => ?_)
    · have hw := hw.1 c
      exact hq F4 G5 _ _ _ _ dX7_openTitle_46 h hw
    · have hw := hw.2 c
      refine lv_aload_n hx hb dX7_openTitle_25 rfl (lv_at hl 1 rfl) ?_
      refine gX_7_54 C h dX7_openTitle_26 ?_
      refine gX_7_231 C h dX7_openTitle_29 ?_
      refine lv_iload_n hx hb dX7_openTitle_32 rfl (lv_at hl 0 rfl) ?_
      have hi := hw.1
      have hw := hw.2
      refine laX_25 C h hi dX7_openTitle_33 ?_
      refine lv_aload_n hx hb dX7_openTitle_34 rfl (lv_at hl 1 rfl) ?_
      refine gX_7_40 C h dX7_openTitle_35 ?_
      refine gX_7_148 C h dX7_openTitle_38 ?_
      refine lv_iload_n hx hb dX7_openTitle_41 rfl (lv_at hl 2 rfl) ?_
      have hi := hw.1
      have hw := hw.2
      refine laX_16 C h hi dX7_openTitle_42 ?_
      refine lv_icmp_eq (tgt := 47) hx hb dX7_openTitle_43 (by decide) (fun c => ?_) (fun c => ?_)
      · have hw := hw.1 c
        refine lv_aload_n hx hb dX7_openTitle_47 rfl (lv_at hl 1 rfl) ?_
        refine gX_7_26 C h dX7_openTitle_48 ?_
        refine lv_aload_n hx hb dX7_openTitle_51 rfl (lv_at hl 1 rfl) ?_
        refine gX_7_54 C h dX7_openTitle_52 ?_
        refine gX_7_240 C h dX7_openTitle_55 ?_
        refine lv_iload_n hx hb dX7_openTitle_58 rfl (lv_at hl 0 rfl) ?_
        have hi := hw.1
        have hw := hw.2
        refine laX_28 C h hi dX7_openTitle_59 ?_
        refine lv_iconst (v := (1 : Int32)) hx hb dX7_openTitle_60 (by decide) ?_
        refine kXiV C h (c_X2_number (G5 28 r3.toNatClampNeg) (1 : Int32) F4 G5 hw) lk_7_107 (rvX_3 K a F4 G5) rfl hl.1 rfl (Nat.le_of_ble_eq_true rfl) ⟨Nat.le_trans (Nat.le_of_ble_eq_true rfl) hR.1, Nat.le_trans (Nat.le_of_ble_eq_true rfl) hR.2⟩ ⟨Nat.zero_le _, Nat.zero_le _⟩ dX7_openTitle_61 (fun r9 F7 G8 H locs hw h => ?_)
        refine lv_istore_n (lv' := [(3, .int r9), (2, .int r3), (0, .ref (a 0)), (1, .int x1)]) hx hb dX7_openTitle_64 rfl hl (by decide) rfl (fun ls hl => ?_)
        refine lv_iload_n hx hb dX7_openTitle_65 rfl (lv_at hl 0 rfl) ?_
        refine lv_iconst (v := (1 : Int32)) hx hb dX7_openTitle_66 (by decide) ?_
        refine lv_icmp_lt (tgt := 131) hx hb dX7_openTitle_67 (by decide) (fun c => ?_) (fun c => ?_)
        · have hw := hw.1 c
          exact hq F7 G8 _ _ _ _ dX7_openTitle_131 h hw
        · have hw := hw.2 c
          refine lv_aload_n hx hb dX7_openTitle_70 rfl (lv_at hl 2 rfl) ?_
          refine gX_7_58 C h dX7_openTitle_71 ?_
          refine lv_aload_n hx hb dX7_openTitle_74 rfl (lv_at hl 2 rfl) ?_
          refine gX_7_54 C h dX7_openTitle_75 ?_
          refine gX_7_243 C h dX7_openTitle_78 ?_
          refine lv_iload_n hx hb dX7_openTitle_81 rfl (lv_at hl 1 rfl) ?_
          have hi := hw.1
          have hw := hw.2
          refine laX_29 C h hi dX7_openTitle_82 ?_
          refine lv_isub hx hb dX7_openTitle_83 ?_
          refine lv_iload_n hx hb dX7_openTitle_84 rfl (lv_at hl 0 rfl) ?_
          refine lv_icmp_lt (tgt := 131) hx hb dX7_openTitle_85 (by decide) (fun c => ?_) (fun c => ?_)
          · have hw := hw.1 c
            exact hq F7 G8 _ _ _ _ dX7_openTitle_131 h hw
          · have hw := hw.2 c
            refine lv_aload_n hx hb dX7_openTitle_88 rfl (lv_at hl 2 rfl) ?_
            refine gX_7_40 C h dX7_openTitle_89 ?_
            refine lv_iload_n hx hb dX7_openTitle_92 rfl (lv_at hl 3 rfl) ?_
            refine lv_aload_n hx hb dX7_openTitle_93 rfl (lv_at hl 2 rfl) ?_
            refine gX_7_40 C h dX7_openTitle_94 ?_
            refine gX_7_148 C h dX7_openTitle_97 ?_
            refine lv_iload_n hx hb dX7_openTitle_100 rfl (lv_at hl 3 rfl) ?_
            have hi := hw.1
            have hw := hw.2
            refine laX_16 C h hi dX7_openTitle_101 ?_
            refine lv_aload_n hx hb dX7_openTitle_102 rfl (lv_at hl 2 rfl) ?_
            refine gX_7_40 C h dX7_openTitle_103 ?_
            refine gX_7_148 C h dX7_openTitle_106 ?_
            refine lv_iload_n hx hb dX7_openTitle_109 rfl (lv_at hl 3 rfl) ?_
            have hi := hw.1
            have hw := hw.2
            refine laX_16 C h hi dX7_openTitle_110 ?_
            refine lv_aload_n hx hb dX7_openTitle_111 rfl (lv_at hl 2 rfl) ?_
            refine gX_7_54 C h dX7_openTitle_112 ?_
            refine gX_7_190 C h dX7_openTitle_115 ?_
            refine kXvV C h (c_X1_move x1 (G8 16 x1.toNatClampNeg) (G8 16 x1.toNatClampNeg) (F7 8) F7 G8 hw) lk_7_306 (rvX_5 K a F7 G8) rfl hl.1 rfl (Nat.le_of_ble_eq_true rfl) ⟨Nat.le_trans (Nat.le_of_ble_eq_true rfl) hR.1, Nat.le_trans (Nat.le_of_ble_eq_true rfl) hR.2⟩ ⟨Nat.zero_le _, Nat.zero_le _⟩ dX7_openTitle_118 (fun F10 G11 H locs hw h => ?_)
            refine lv_aload_n hx hb dX7_openTitle_121 rfl (lv_at hl 2 rfl) ?_
            refine gX_7_54 C h dX7_openTitle_122 ?_
            refine gX_7_312 C h dX7_openTitle_125 ?_
            refine lv_iload_n hx hb dX7_openTitle_128 rfl (lv_at hl 1 rfl) ?_
            refine lv_iconst (v := (1 : Int32)) hx hb dX7_openTitle_129 (by decide) ?_
            have hi := hw.1
            have hw := hw.2
            refine saX_31 C h hi dX7_openTitle_130 (fun G12 H locs eG12 h => ?_)
            have hw := hw G12 eG12
            exact hq F10 G12 _ _ _ _ dX7_openTitle_131 h hw
      · have hw := hw.2 c
        exact hq F4 G5 _ _ _ _ dX7_openTitle_46 h hw
theorem c_X7_openTitle {l : Launch} {K : KT} {a : Nat → Nat} (x1 : Int32) (F : FT) (G : GT) {Q : FT → GT → Prop} (hw : wp_X7_openTitle x1 F G Q) : CtXv l K a yX7_openTitle cX7_openTitle 4 none 2 45 [.ref (a 0), .int x1] F G Q := fun sz => x_met (Qm := QmXv K a Q) (by decide) (Nat.le_of_ble_eq_true rfl) (fun p e s m below meth c A ls C hr h hl => wk_X7_openTitle_0 ⟨Nat.le_refl _, Nat.le_refl _⟩ C (retX_v C hr) x1 F G h hl hw)
def wp_X7_next_24 (Q : Int32 → FT → GT → Prop) : Nat → Int32 → FT → GT → Prop
  | 0, _, _, _ => False
  | n + 1, x1, F, G => (((F 6) ≤ x1) → Q (F 0) F G) ∧ ((¬ (F 6) ≤ x1) → wp_X7_openTitle x1 F G (fun F1 G2 => ∀ v3 : Int32, v3 = (x1 + 1) → wp_X7_next_24 Q n v3 F1 G2))
def wp_X7_next_0 (Q : Int32 → FT → GT → Prop) (F : FT) (G : GT) : Prop := (((F 0) < (999 : Int32)) → ∀ F1 : FT, F1 = sU F 0 ((F 0) + (1 : Int32)) → ∃ n : Nat, wp_X7_next_24 Q n (0 : Int32) F1 G) ∧ ((¬ (F 0) < (999 : Int32)) → Q (-1 : Int32) F G)
def wp_X7_next (F : FT) (G : GT) (Q : Int32 → FT → GT → Prop) : Prop := wp_X7_next_0 Q F G
set_option maxHeartbeats 4000000 in
set_option maxRecDepth 100000 in
theorem wk_X7_next_24 {p : Program} {l : Launch} {e : Env} {R : Room} {s : State} {m : MethodId} {args : Array Value} {below : List Frame} {meth : Method} {c : Code} {K : KT} {A : Nat → Prop} {Z : State → Prop} {a : Nat → Nat} (hR : 3 ≤ R.frames ∧ 68 ≤ R.locals) (C : CX p s m args meth c K A cX7_next 2 RX7) {Q : Int32 → FT → GT → Prop} (hq : RetXi p l e R s m args below meth c K A Z a cX7_next Q) : ∀ (n : Nat) (x1 : Int32) (F : FT) (G : GT) {H : Heap} {locs : List Loc} (h : WD K A s (wX K a F G) H locs) {ls : Array Slot} (hl : lv_has ls 2 [(0, .ref (a 0)), (1, .int x1)]) (hw : wp_X7_next_24 Q n x1 F G), W p l e R s m args below meth c H locs 0 0 Z (F0 m 24 ls []) := by
  intro n
  induction n with
  | zero => intro x1 F G H locs h ls hl hw; exact False.elim hw
  | succ n ih =>
    intro x1 F G H locs h ls hl hw
    rw [wp_X7_next_24] at hw
    have hx := C.1
    have hb := C.2.1
    refine lv_iload_n hx hb dX7_next_24 rfl (lv_at hl 1 rfl) ?_
    refine lv_aload_n hx hb dX7_next_25 rfl (lv_at hl 0 rfl) ?_
    refine gX_7_40 C h dX7_next_26 ?_
    refine gX_7_135 C h dX7_next_29 ?_
    refine lv_icmp_ge (tgt := 46) hx hb dX7_next_32 (by decide) (fun c => ?_) (fun c => ?_)
    · have hw := hw.1 c
      refine lv_aload_n hx hb dX7_next_46 rfl (lv_at hl 0 rfl) ?_
      refine gX_7_58 C h dX7_next_47 ?_
      exact hq _ F G _ _ _ _ dX7_next_50 h hw
    · have hw := hw.2 c
      refine lv_aload_n hx hb dX7_next_35 rfl (lv_at hl 0 rfl) ?_
      refine lv_iload_n hx hb dX7_next_36 rfl (lv_at hl 1 rfl) ?_
      refine kXvV C h (c_X7_openTitle x1 F G hw) lk_7_200 (rvX_0 K a F G) rfl hl.1 rfl (Nat.le_of_ble_eq_true rfl) ⟨Nat.le_trans (Nat.le_of_ble_eq_true rfl) hR.1, Nat.le_trans (Nat.le_of_ble_eq_true rfl) hR.2⟩ ⟨Nat.zero_le _, Nat.zero_le _⟩ dX7_next_37 (fun F1 G2 H locs hw h => ?_)
      obtain ⟨v3, ev3⟩ : ∃ z : Int32, z = (x1 + 1) := ⟨_, rfl⟩
      have hw := hw v3 ev3
      refine lv_iinc (v := v3) (lv' := [(1, .int v3), (0, .ref (a 0))]) hx hb dX7_next_40 hl (k := 1) rfl (by rw [ev3]; rfl) (by decide) rfl (fun ls hl => ?_)
      refine lv_goto (tgt := 24) hx hb dX7_next_43 (by decide) ?_
      exact ih v3 F1 G2 h (lv_sub hl [1, 0] rfl) hw
set_option maxHeartbeats 4000000 in
set_option maxRecDepth 100000 in
theorem wk_X7_next_0 {p : Program} {l : Launch} {e : Env} {R : Room} {s : State} {m : MethodId} {args : Array Value} {below : List Frame} {meth : Method} {c : Code} {K : KT} {A : Nat → Prop} {Z : State → Prop} {a : Nat → Nat} (hR : 3 ≤ R.frames ∧ 68 ≤ R.locals) (C : CX p s m args meth c K A cX7_next 2 RX7) {Q : Int32 → FT → GT → Prop} (hq : RetXi p l e R s m args below meth c K A Z a cX7_next Q) (F : FT) (G : GT) {H : Heap} {locs : List Loc} (h : WD K A s (wX K a F G) H locs) {ls : Array Slot} (hl : lv_has ls 2 [(0, .ref (a 0))]) (hw : wp_X7_next_0 Q F G) : W p l e R s m args below meth c H locs 0 0 Z (F0 m 0 ls []) := by
  unfold wp_X7_next_0 at hw
  have hx := C.1
  have hb := C.2.1
  refine lv_aload_n hx hb dX7_next_0 rfl (lv_at hl 0 rfl) ?_
  refine gX_7_58 C h dX7_next_1 ?_
  refine lv_sipush (v := (999 : Int32)) hx hb dX7_next_4 (by decide) ?_
  refine lv_icmp_lt (tgt := 12) hx hb dX7_next_7 (by decide) (fun c => ?_) (fun c => ?_)
  · have hw := hw.1 c
    refine lv_aload_n hx hb dX7_next_12 rfl (lv_at hl 0 rfl) ?_
    refine lv_dup hx hb dX7_next_13 rfl ?_
    refine gX_7_58 C h dX7_next_14 ?_
    refine lv_iconst (v := (1 : Int32)) hx hb dX7_next_17 (by decide) ?_
    refine lv_iadd hx hb dX7_next_18 ?_
    refine pX_7_58 C h dX7_next_19 (fun F1 H locs eF1 h => ?_)
    have hw := hw F1 eF1
    refine lv_iconst (v := (0 : Int32)) hx hb dX7_next_22 (by decide) ?_
    refine lv_istore_n (lv' := [(1, .int (0 : Int32)), (0, .ref (a 0))]) hx hb dX7_next_23 rfl hl (by decide) rfl (fun ls hl => ?_)
    obtain ⟨n, hw⟩ := hw
    exact wk_X7_next_24 hR C hq n (0 : Int32) F1 G h (lv_sub hl [1, 0] rfl) hw
  · have hw := hw.2 c
    refine lv_iconst (v := (-1 : Int32)) hx hb dX7_next_10 (by decide) ?_
    exact hq _ F G _ _ _ _ dX7_next_11 h hw
theorem c_X7_next {l : Launch} {K : KT} {a : Nat → Nat} (F : FT) (G : GT) {Q : Int32 → FT → GT → Prop} (hw : wp_X7_next F G Q) : CtXi l K a yX7_next cX7_next 2 (some .int) 3 68 [.ref (a 0)] F G Q := fun sz => x_met (Qm := QmXi K a Q) (by decide) (Nat.le_of_ble_eq_true rfl) (fun p e s m below meth c A ls C hr h hl => wk_X7_next_0 ⟨Nat.le_refl _, Nat.le_refl _⟩ C (retX_z C hr (fun r F G _ => rfl)) F G h hl hw)
def wp_X1_foundBits_27 (Q : Int32 → FT → GT → Prop) (kb : Int32 → Int32 → Int32 → FT → GT → Prop) (x1 : Int32) (x3 : Int32) (s0 : Int32) (s1 : Int32) (F : FT) (G : GT) : Prop := ∀ v1 : Int32, v1 = (x3 + 1) → kb x1 (s1 ||| s0) v1 F G
def wp_X1_foundBits_4 (Q : Int32 → FT → GT → Prop) : Nat → Int32 → Int32 → Int32 → FT → GT → Prop
  | 0, _, _, _, _, _ => False
  | n + 1, x1, x2, x3, F, G => (((6 : Int32) ≤ x3) → Q x2 F G) ∧ ((¬ (6 : Int32) ≤ x3) → wp_X1_isFound x1 x3 F G (fun r3 F1 G2 => ((r3 = 0) → wp_X1_foundBits_27 Q (fun x1 x2 x3 F G => wp_X1_foundBits_4 Q n x1 x2 x3 F G) x1 x3 (0 : Int32) x2 F1 G2) ∧ ((¬ r3 = 0) → wp_X1_foundBits_27 Q (fun x1 x2 x3 F G => wp_X1_foundBits_4 Q n x1 x2 x3 F G) x1 x3 ((1 : Int32) <<< (x3 &&& 31)) x2 F1 G2)))
def wp_X1_foundBits_0 (Q : Int32 → FT → GT → Prop) (x1 : Int32) (F : FT) (G : GT) : Prop := ∃ n : Nat, wp_X1_foundBits_4 Q n x1 (0 : Int32) (0 : Int32) F G
def wp_X1_foundBits (x1 : Int32) (F : FT) (G : GT) (Q : Int32 → FT → GT → Prop) : Prop := wp_X1_foundBits_0 Q x1 F G
set_option maxHeartbeats 4000000 in
set_option maxRecDepth 100000 in
theorem wk_X1_foundBits_27 {p : Program} {l : Launch} {e : Env} {R : Room} {s : State} {m : MethodId} {args : Array Value} {below : List Frame} {meth : Method} {c : Code} {K : KT} {A : Nat → Prop} {Z : State → Prop} {a : Nat → Nat} (hR : 1 ≤ R.frames ∧ 22 ≤ R.locals) (C : CX p s m args meth c K A cX1_foundBits 4 RX1) {Q : Int32 → FT → GT → Prop} (hq : RetXi p l e R s m args below meth c K A Z a cX1_foundBits Q) {kb : Int32 → Int32 → Int32 → FT → GT → Prop} (hk : ∀ (x1 : Int32) (x2 : Int32) (x3 : Int32) (F : FT) (G : GT) (H : Heap) (locs : List Loc) (ls : Array Slot), WD K A s (wX K a F G) H locs → lv_has ls 4 [(0, .ref (a 5)), (1, .int x1), (2, .int x2), (3, .int x3)] → kb x1 x2 x3 F G → W p l e R s m args below meth c H locs 0 0 Z (F0 m 4 ls [])) (x1 : Int32) (x3 : Int32) (s0 : Int32) (s1 : Int32) (F : FT) (G : GT) {H : Heap} {locs : List Loc} (h : WD K A s (wX K a F G) H locs) {ls : Array Slot} (hl : lv_has ls 4 [(0, .ref (a 5)), (1, .int x1), (3, .int x3)]) (hw : wp_X1_foundBits_27 Q kb x1 x3 s0 s1 F G) : W p l e R s m args below meth c H locs 0 0 Z (F0 m 27 ls [.int s0, .int s1]) := by
  unfold wp_X1_foundBits_27 at hw
  have hx := C.1
  have hb := C.2.1
  refine lv_ior hx hb dX1_foundBits_27 ?_
  refine lv_istore_n (lv' := [(2, .int (s1 ||| s0)), (0, .ref (a 5)), (1, .int x1), (3, .int x3)]) hx hb dX1_foundBits_28 rfl hl (by decide) rfl (fun ls hl => ?_)
  obtain ⟨v1, ev1⟩ : ∃ z : Int32, z = (x3 + 1) := ⟨_, rfl⟩
  have hw := hw v1 ev1
  refine lv_iinc (v := v1) (lv' := [(3, .int v1), (2, .int (s1 ||| s0)), (0, .ref (a 5)), (1, .int x1)]) hx hb dX1_foundBits_29 hl (k := 3) rfl (by rw [ev1]; rfl) (by decide) rfl (fun ls hl => ?_)
  refine lv_goto (tgt := 4) hx hb dX1_foundBits_32 (by decide) ?_
  exact hk x1 (s1 ||| s0) v1 F G _ _ _ h (lv_sub hl [2, 3, 1, 0] rfl) hw
set_option maxHeartbeats 4000000 in
set_option maxRecDepth 100000 in
theorem wk_X1_foundBits_4 {p : Program} {l : Launch} {e : Env} {R : Room} {s : State} {m : MethodId} {args : Array Value} {below : List Frame} {meth : Method} {c : Code} {K : KT} {A : Nat → Prop} {Z : State → Prop} {a : Nat → Nat} (hR : 1 ≤ R.frames ∧ 22 ≤ R.locals) (C : CX p s m args meth c K A cX1_foundBits 4 RX1) {Q : Int32 → FT → GT → Prop} (hq : RetXi p l e R s m args below meth c K A Z a cX1_foundBits Q) : ∀ (n : Nat) (x1 : Int32) (x2 : Int32) (x3 : Int32) (F : FT) (G : GT) {H : Heap} {locs : List Loc} (h : WD K A s (wX K a F G) H locs) {ls : Array Slot} (hl : lv_has ls 4 [(0, .ref (a 5)), (1, .int x1), (2, .int x2), (3, .int x3)]) (hw : wp_X1_foundBits_4 Q n x1 x2 x3 F G), W p l e R s m args below meth c H locs 0 0 Z (F0 m 4 ls []) := by
  intro n
  induction n with
  | zero => intro x1 x2 x3 F G H locs h ls hl hw; exact False.elim hw
  | succ n ih =>
    intro x1 x2 x3 F G H locs h ls hl hw
    rw [wp_X1_foundBits_4] at hw
    have hx := C.1
    have hb := C.2.1
    refine lv_iload_n hx hb dX1_foundBits_4 rfl (lv_at hl 3 rfl) ?_
    refine lv_bipush (v := (6 : Int32)) hx hb dX1_foundBits_5 (by decide) ?_
    refine lv_icmp_ge (tgt := 35) hx hb dX1_foundBits_7 (by decide) (fun c => ?_) (fun c => ?_)
    · have hw := hw.1 c
      refine lv_iload_n hx hb dX1_foundBits_35 rfl (lv_at hl 2 rfl) ?_
      exact hq _ F G _ _ _ _ dX1_foundBits_36 h hw
    · have hw := hw.2 c
      refine lv_iload_n hx hb dX1_foundBits_10 rfl (lv_at hl 2 rfl) ?_
      refine lv_aload_n hx hb dX1_foundBits_11 rfl (lv_at hl 0 rfl) ?_
      refine lv_iload_n hx hb dX1_foundBits_12 rfl (lv_at hl 1 rfl) ?_
      refine lv_iload_n hx hb dX1_foundBits_13 rfl (lv_at hl 3 rfl) ?_
      refine kXiV C h (c_X1_isFound x1 x3 F G hw) lk_1_37 (rvX_5 K a F G) rfl hl.1 rfl (Nat.le_of_ble_eq_true rfl) ⟨Nat.le_trans (Nat.le_of_ble_eq_true rfl) hR.1, Nat.le_trans (Nat.le_of_ble_eq_true rfl) hR.2⟩ ⟨Nat.zero_le _, Nat.zero_le _⟩ dX1_foundBits_14 (fun r3 F1 G2 H locs hw h => ?_)
      have hw := hw.2
      refine lv_if_eq (tgt := 26) hx hb dX1_foundBits_17 (by decide) (fun c => ?_) (fun c => ?_)
      · have hw := hw.1 c
        refine lv_iconst (v := (0 : Int32)) hx hb dX1_foundBits_26 (by decide) ?_
        exact wk_X1_foundBits_27 hR C hq (fun x1 x2 x3 F G H locs ls h hl hw => ih x1 x2 x3 F G h hl hw) x1 x3 (0 : Int32) x2 F1 G2 h (lv_sub hl [0, 1, 3] rfl) hw
      · have hw := hw.2 c
        refine lv_iconst (v := (1 : Int32)) hx hb dX1_foundBits_20 (by decide) ?_
        refine lv_iload_n hx hb dX1_foundBits_21 rfl (lv_at hl 3 rfl) ?_
        refine lv_ishl hx hb dX1_foundBits_22 ?_
        refine lv_goto (tgt := 27) hx hb dX1_foundBits_23 (by decide) ?_
        exact wk_X1_foundBits_27 hR C hq (fun x1 x2 x3 F G H locs ls h hl hw => ih x1 x2 x3 F G h hl hw) x1 x3 ((1 : Int32) <<< (x3 &&& 31)) x2 F1 G2 h (lv_sub hl [0, 1, 3] rfl) hw
set_option maxHeartbeats 4000000 in
set_option maxRecDepth 100000 in
theorem wk_X1_foundBits_0 {p : Program} {l : Launch} {e : Env} {R : Room} {s : State} {m : MethodId} {args : Array Value} {below : List Frame} {meth : Method} {c : Code} {K : KT} {A : Nat → Prop} {Z : State → Prop} {a : Nat → Nat} (hR : 1 ≤ R.frames ∧ 22 ≤ R.locals) (C : CX p s m args meth c K A cX1_foundBits 4 RX1) {Q : Int32 → FT → GT → Prop} (hq : RetXi p l e R s m args below meth c K A Z a cX1_foundBits Q) (x1 : Int32) (F : FT) (G : GT) {H : Heap} {locs : List Loc} (h : WD K A s (wX K a F G) H locs) {ls : Array Slot} (hl : lv_has ls 4 [(0, .ref (a 5)), (1, .int x1)]) (hw : wp_X1_foundBits_0 Q x1 F G) : W p l e R s m args below meth c H locs 0 0 Z (F0 m 0 ls []) := by
  unfold wp_X1_foundBits_0 at hw
  have hx := C.1
  have hb := C.2.1
  refine lv_iconst (v := (0 : Int32)) hx hb dX1_foundBits_0 (by decide) ?_
  refine lv_istore_n (lv' := [(2, .int (0 : Int32)), (0, .ref (a 5)), (1, .int x1)]) hx hb dX1_foundBits_1 rfl hl (by decide) rfl (fun ls hl => ?_)
  refine lv_iconst (v := (0 : Int32)) hx hb dX1_foundBits_2 (by decide) ?_
  refine lv_istore_n (lv' := [(3, .int (0 : Int32)), (2, .int (0 : Int32)), (0, .ref (a 5)), (1, .int x1)]) hx hb dX1_foundBits_3 rfl hl (by decide) rfl (fun ls hl => ?_)
  obtain ⟨n, hw⟩ := hw
  exact wk_X1_foundBits_4 hR C hq n x1 (0 : Int32) (0 : Int32) F G h (lv_sub hl [2, 3, 1, 0] rfl) hw
theorem c_X1_foundBits {l : Launch} {K : KT} {a : Nat → Nat} (x1 : Int32) (F : FT) (G : GT) {Q : Int32 → FT → GT → Prop} (hw : wp_X1_foundBits x1 F G Q) : CtXi l K a yX1_foundBits cX1_foundBits 4 (some .int) 1 22 [.ref (a 5), .int x1] F G Q := fun sz => x_met (Qm := QmXi K a Q) (by decide) (Nat.le_of_ble_eq_true rfl) (fun p e s m below meth c A ls C hr h hl => wk_X1_foundBits_0 ⟨Nat.le_refl _, Nat.le_refl _⟩ C (retX_z C hr (fun r F G _ => rfl)) x1 F G h hl hw)
def wp_X0_howMany_28 (Q : Int32 → FT → GT → Prop) (kb : Int32 → Int32 → Int32 → FT → GT → Prop) (x1 : Int32) (x3 : Int32) (s0 : Int32) (s1 : Int32) (F : FT) (G : GT) : Prop := ∀ v1 : Int32, v1 = (x3 + 1) → kb x1 (s1 + s0) v1 F G
def wp_X0_howMany_4 (Q : Int32 → FT → GT → Prop) : Nat → Int32 → Int32 → Int32 → FT → GT → Prop
  | 0, _, _, _, _, _ => False
  | n + 1, x1, x2, x3, F, G => (((F 7) ≤ x3) → Q x2 F G) ∧ ((¬ (F 7) ≤ x3) → vp_in x3 400 ∧ ((¬ (G 19 x3.toNatClampNeg) = x1) → wp_X0_howMany_28 Q (fun x1 x2 x3 F G => wp_X0_howMany_4 Q n x1 x2 x3 F G) x1 x3 (0 : Int32) x2 F G) ∧ (((G 19 x3.toNatClampNeg) = x1) → wp_X0_howMany_28 Q (fun x1 x2 x3 F G => wp_X0_howMany_4 Q n x1 x2 x3 F G) x1 x3 (1 : Int32) x2 F G))
def wp_X0_howMany_0 (Q : Int32 → FT → GT → Prop) (x1 : Int32) (F : FT) (G : GT) : Prop := ∃ n : Nat, wp_X0_howMany_4 Q n x1 (0 : Int32) (0 : Int32) F G
def wp_X0_howMany (x1 : Int32) (F : FT) (G : GT) (Q : Int32 → FT → GT → Prop) : Prop := wp_X0_howMany_0 Q x1 F G
set_option maxHeartbeats 4000000 in
set_option maxRecDepth 100000 in
theorem wk_X0_howMany_28 {p : Program} {l : Launch} {e : Env} {R : Room} {s : State} {m : MethodId} {args : Array Value} {below : List Frame} {meth : Method} {c : Code} {K : KT} {A : Nat → Prop} {Z : State → Prop} {a : Nat → Nat} (hR : 0 ≤ R.frames ∧ 0 ≤ R.locals) (C : CX p s m args meth c K A cX0_howMany 4 RX0) {Q : Int32 → FT → GT → Prop} (hq : RetXi p l e R s m args below meth c K A Z a cX0_howMany Q) {kb : Int32 → Int32 → Int32 → FT → GT → Prop} (hk : ∀ (x1 : Int32) (x2 : Int32) (x3 : Int32) (F : FT) (G : GT) (H : Heap) (locs : List Loc) (ls : Array Slot), WD K A s (wX K a F G) H locs → lv_has ls 4 [(0, .ref (a 6)), (1, .int x1), (2, .int x2), (3, .int x3)] → kb x1 x2 x3 F G → W p l e R s m args below meth c H locs 0 0 Z (F0 m 4 ls [])) (x1 : Int32) (x3 : Int32) (s0 : Int32) (s1 : Int32) (F : FT) (G : GT) {H : Heap} {locs : List Loc} (h : WD K A s (wX K a F G) H locs) {ls : Array Slot} (hl : lv_has ls 4 [(0, .ref (a 6)), (1, .int x1), (3, .int x3)]) (hw : wp_X0_howMany_28 Q kb x1 x3 s0 s1 F G) : W p l e R s m args below meth c H locs 0 0 Z (F0 m 28 ls [.int s0, .int s1]) := by
  unfold wp_X0_howMany_28 at hw
  have hx := C.1
  have hb := C.2.1
  refine lv_iadd hx hb dX0_howMany_28 ?_
  refine lv_istore_n (lv' := [(2, .int (s1 + s0)), (0, .ref (a 6)), (1, .int x1), (3, .int x3)]) hx hb dX0_howMany_29 rfl hl (by decide) rfl (fun ls hl => ?_)
  obtain ⟨v1, ev1⟩ : ∃ z : Int32, z = (x3 + 1) := ⟨_, rfl⟩
  have hw := hw v1 ev1
  refine lv_iinc (v := v1) (lv' := [(3, .int v1), (2, .int (s1 + s0)), (0, .ref (a 6)), (1, .int x1)]) hx hb dX0_howMany_30 hl (k := 3) rfl (by rw [ev1]; rfl) (by decide) rfl (fun ls hl => ?_)
  refine lv_goto (tgt := 4) hx hb dX0_howMany_33 (by decide) ?_
  exact hk x1 (s1 + s0) v1 F G _ _ _ h (lv_sub hl [2, 3, 1, 0] rfl) hw
set_option maxHeartbeats 4000000 in
set_option maxRecDepth 100000 in
theorem wk_X0_howMany_4 {p : Program} {l : Launch} {e : Env} {R : Room} {s : State} {m : MethodId} {args : Array Value} {below : List Frame} {meth : Method} {c : Code} {K : KT} {A : Nat → Prop} {Z : State → Prop} {a : Nat → Nat} (hR : 0 ≤ R.frames ∧ 0 ≤ R.locals) (C : CX p s m args meth c K A cX0_howMany 4 RX0) {Q : Int32 → FT → GT → Prop} (hq : RetXi p l e R s m args below meth c K A Z a cX0_howMany Q) : ∀ (n : Nat) (x1 : Int32) (x2 : Int32) (x3 : Int32) (F : FT) (G : GT) {H : Heap} {locs : List Loc} (h : WD K A s (wX K a F G) H locs) {ls : Array Slot} (hl : lv_has ls 4 [(0, .ref (a 6)), (1, .int x1), (2, .int x2), (3, .int x3)]) (hw : wp_X0_howMany_4 Q n x1 x2 x3 F G), W p l e R s m args below meth c H locs 0 0 Z (F0 m 4 ls []) := by
  intro n
  induction n with
  | zero => intro x1 x2 x3 F G H locs h ls hl hw; exact False.elim hw
  | succ n ih =>
    intro x1 x2 x3 F G H locs h ls hl hw
    rw [wp_X0_howMany_4] at hw
    have hx := C.1
    have hb := C.2.1
    refine lv_iload_n hx hb dX0_howMany_4 rfl (lv_at hl 3 rfl) ?_
    refine lv_aload_n hx hb dX0_howMany_5 rfl (lv_at hl 0 rfl) ?_
    refine gX_0_24 C h dX0_howMany_6 ?_
    refine lv_icmp_ge (tgt := 36) hx hb dX0_howMany_9 (by decide) (fun c => ?_) (fun c => ?_)
    · have hw := hw.1 c
      refine lv_iload_n hx hb dX0_howMany_36 rfl (lv_at hl 2 rfl) ?_
      exact hq _ F G _ _ _ _ dX0_howMany_37 h hw
    · have hw := hw.2 c
      refine lv_iload_n hx hb dX0_howMany_12 rfl (lv_at hl 2 rfl) ?_
      refine lv_aload_n hx hb dX0_howMany_13 rfl (lv_at hl 0 rfl) ?_
      refine gX_0_9 C h dX0_howMany_14 ?_
      refine lv_iload_n hx hb dX0_howMany_17 rfl (lv_at hl 3 rfl) ?_
      have hi := hw.1
      have hw := hw.2
      refine laX_19 C h hi dX0_howMany_18 ?_
      refine lv_iload_n hx hb dX0_howMany_19 rfl (lv_at hl 1 rfl) ?_
      refine lv_icmp_ne (tgt := 27) hx hb dX0_howMany_20 (by decide) (fun c => ?_) (fun c => ?_)
      · have hw := hw.1 c
        refine lv_iconst (v := (0 : Int32)) hx hb dX0_howMany_27 (by decide) ?_
        exact wk_X0_howMany_28 hR C hq (fun x1 x2 x3 F G H locs ls h hl hw => ih x1 x2 x3 F G h hl hw) x1 x3 (0 : Int32) x2 F G h (lv_sub hl [0, 1, 3] rfl) hw
      · have hw := hw.2 c
        refine lv_iconst (v := (1 : Int32)) hx hb dX0_howMany_23 (by decide) ?_
        refine lv_goto (tgt := 28) hx hb dX0_howMany_24 (by decide) ?_
        exact wk_X0_howMany_28 hR C hq (fun x1 x2 x3 F G H locs ls h hl hw => ih x1 x2 x3 F G h hl hw) x1 x3 (1 : Int32) x2 F G h (lv_sub hl [0, 1, 3] rfl) hw
set_option maxHeartbeats 4000000 in
set_option maxRecDepth 100000 in
theorem wk_X0_howMany_0 {p : Program} {l : Launch} {e : Env} {R : Room} {s : State} {m : MethodId} {args : Array Value} {below : List Frame} {meth : Method} {c : Code} {K : KT} {A : Nat → Prop} {Z : State → Prop} {a : Nat → Nat} (hR : 0 ≤ R.frames ∧ 0 ≤ R.locals) (C : CX p s m args meth c K A cX0_howMany 4 RX0) {Q : Int32 → FT → GT → Prop} (hq : RetXi p l e R s m args below meth c K A Z a cX0_howMany Q) (x1 : Int32) (F : FT) (G : GT) {H : Heap} {locs : List Loc} (h : WD K A s (wX K a F G) H locs) {ls : Array Slot} (hl : lv_has ls 4 [(0, .ref (a 6)), (1, .int x1)]) (hw : wp_X0_howMany_0 Q x1 F G) : W p l e R s m args below meth c H locs 0 0 Z (F0 m 0 ls []) := by
  unfold wp_X0_howMany_0 at hw
  have hx := C.1
  have hb := C.2.1
  refine lv_iconst (v := (0 : Int32)) hx hb dX0_howMany_0 (by decide) ?_
  refine lv_istore_n (lv' := [(2, .int (0 : Int32)), (0, .ref (a 6)), (1, .int x1)]) hx hb dX0_howMany_1 rfl hl (by decide) rfl (fun ls hl => ?_)
  refine lv_iconst (v := (0 : Int32)) hx hb dX0_howMany_2 (by decide) ?_
  refine lv_istore_n (lv' := [(3, .int (0 : Int32)), (2, .int (0 : Int32)), (0, .ref (a 6)), (1, .int x1)]) hx hb dX0_howMany_3 rfl hl (by decide) rfl (fun ls hl => ?_)
  obtain ⟨n, hw⟩ := hw
  exact wk_X0_howMany_4 hR C hq n x1 (0 : Int32) (0 : Int32) F G h (lv_sub hl [2, 3, 1, 0] rfl) hw
theorem c_X0_howMany {l : Launch} {K : KT} {a : Nat → Nat} (x1 : Int32) (F : FT) (G : GT) {Q : Int32 → FT → GT → Prop} (hw : wp_X0_howMany x1 F G Q) : CtXi l K a yX0_howMany cX0_howMany 4 (some .int) 0 0 [.ref (a 6), .int x1] F G Q := fun sz => x_met (Qm := QmXi K a Q) (by decide) (Nat.le_of_ble_eq_true rfl) (fun p e s m below meth c A ls C hr h hl => wk_X0_howMany_0 ⟨Nat.le_refl _, Nat.le_refl _⟩ C (retX_z C hr (fun r F G _ => rfl)) x1 F G h hl hw)
