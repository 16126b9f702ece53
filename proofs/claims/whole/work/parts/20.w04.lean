def wp_X7_lead_0 (Q : FT → GT → Prop) (x1 : Int32) (x2 : Int32) (x3 : Int32) (x4 : Int32) (F : FT) (G : GT) : Prop := wp_X1_move x1 x2 x3 (F 8) F G (fun F1 G2 => wp_X0_add x1 x2 (F1 0) x4 F1 G2 (fun F3 G4 => Q F3 G4))
def wp_X7_lead (x1 : Int32) (x2 : Int32) (x3 : Int32) (x4 : Int32) (F : FT) (G : GT) (Q : FT → GT → Prop) : Prop := wp_X7_lead_0 Q x1 x2 x3 x4 F G
set_option maxHeartbeats 4000000 in
set_option maxRecDepth 100000 in
theorem wk_X7_lead_0 {p : Program} {l : Launch} {e : Env} {R : Room} {s : State} {m : MethodId} {args : Array Value} {below : List Frame} {meth : Method} {c : Code} {K : KT} {A : Nat → Prop} {Z : State → Prop} {a : Nat → Nat} (hR : 2 ≤ R.frames ∧ 45 ≤ R.locals) (C : CX p s m args meth c K A cX7_lead 5 RX7) {Q : FT → GT → Prop} (hq : RetXv p l e R s m args below meth c K A Z a cX7_lead Q) (x1 : Int32) (x2 : Int32) (x3 : Int32) (x4 : Int32) (F : FT) (G : GT) {H : Heap} {locs : List Loc} (h : WD K A s (wX K a F G) H locs) {ls : Array Slot} (hl : lv_has ls 5 [(0, .ref (a 0)), (1, .int x1), (2, .int x2), (3, .int x3), (4, .int x4)]) (hw : wp_X7_lead_0 Q x1 x2 x3 x4 F G) : W p l e R s m args below meth c H locs 0 0 Z (F0 m 0 ls []) := by
  unfold wp_X7_lead_0 at hw
  have hx := C.1
  have hb := C.2.1
  refine lv_aload_n hx hb dX7_lead_0 rfl (lv_at hl 0 rfl) ?_
  refine gX_7_40 C h dX7_lead_1 ?_
  refine lv_iload_n hx hb dX7_lead_4 rfl (lv_at hl 1 rfl) ?_
  refine lv_iload_n hx hb dX7_lead_5 rfl (lv_at hl 2 rfl) ?_
  refine lv_iload_n hx hb dX7_lead_6 rfl (lv_at hl 3 rfl) ?_
  refine lv_aload_n hx hb dX7_lead_7 rfl (lv_at hl 0 rfl) ?_
  refine gX_7_54 C h dX7_lead_8 ?_
  refine gX_7_190 C h dX7_lead_11 ?_
  refine kXvV C h (c_X1_move x1 x2 x3 (F 8) F G hw) lk_7_306 (rvX_5 K a F G) rfl hl.1 rfl (Nat.le_of_ble_eq_true rfl) ⟨Nat.le_trans (Nat.le_of_ble_eq_true rfl) hR.1, Nat.le_trans (Nat.le_of_ble_eq_true rfl) hR.2⟩ ⟨Nat.zero_le _, Nat.zero_le _⟩ dX7_lead_14 (fun F1 G2 H locs hw h => ?_)
  refine lv_aload_n hx hb dX7_lead_17 rfl (lv_at hl 0 rfl) ?_
  refine gX_7_47 C h dX7_lead_18 ?_
  refine lv_iload_n hx hb dX7_lead_21 rfl (lv_at hl 1 rfl) ?_
  refine lv_iload_n hx hb dX7_lead_22 rfl (lv_at hl 2 rfl) ?_
  refine lv_aload_n hx hb dX7_lead_23 rfl (lv_at hl 0 rfl) ?_
  refine gX_7_58 C h dX7_lead_24 ?_
  refine lv_iload hx hb dX7_lead_27 (lv_at hl 4 rfl) ?_
  refine kXvV C h (c_X0_add x1 x2 (F1 0) x4 F1 G2 hw) lk_7_141 (rvX_6 K a F1 G2) rfl hl.1 rfl (Nat.le_of_ble_eq_true rfl) ⟨Nat.le_trans (Nat.le_of_ble_eq_true rfl) hR.1, Nat.le_trans (Nat.le_of_ble_eq_true rfl) hR.2⟩ ⟨Nat.zero_le _, Nat.zero_le _⟩ dX7_lead_29 (fun F3 G4 H locs hw h => ?_)
  exact hq F3 G4 _ _ _ _ dX7_lead_32 h hw
theorem c_X7_lead {l : Launch} {K : KT} {a : Nat → Nat} (x1 : Int32) (x2 : Int32) (x3 : Int32) (x4 : Int32) (F : FT) (G : GT) {Q : FT → GT → Prop} (hw : wp_X7_lead x1 x2 x3 x4 F G Q) : CtXv l K a yX7_lead cX7_lead 5 none 2 45 [.ref (a 0), .int x1, .int x2, .int x3, .int x4] F G Q := fun sz => x_met (Qm := QmXv K a Q) (by decide) (Nat.le_of_ble_eq_true rfl) (fun p e s m below meth c A ls C hr h hl => wk_X7_lead_0 ⟨Nat.le_refl _, Nat.le_refl _⟩ C (retX_v C hr) x1 x2 x3 x4 F G h hl hw)
def wp_X7_sell_115 (Q : Int32 → FT → GT → Prop) (x9 : Int32) (s0 : Int32) (s1 : Int32) (s2 : Int32) (F : FT) (G : GT) : Prop := wp_X7_lead s2 s1 s0 (1 : Int32) F G (fun F1 G2 => Q x9 F1 G2)
def wp_X7_sell_53 (Q : Int32 → FT → GT → Prop) (x1 : Int32) (x2 : Int32) (x3 : Int32) (x4 : Int32) (x5 : Int32) (x7 : Int32) (s0 : Int32) (F : FT) (G : GT) : Prop := wp_X5_add x1 x7 x2 s0 F G (fun r3 F1 G2 => wp_X5_setTerms r3 x3 x4 x5 (F1 0) F1 G2 (fun F4 G5 => wp_X7_payPrice r3 F4 G5 (fun F6 G7 => ((s0 = 0) → vp_in x1 40 ∧ wp_X7_sell_115 Q r3 (G7 17 x1.toNatClampNeg) x2 x1 F6 G7) ∧ ((¬ s0 = 0) → wp_X7_sell_115 Q r3 x2 x2 x1 F6 G7))))
def wp_X7_sell_0 (Q : Int32 → FT → GT → Prop) (x1 : Int32) (x2 : Int32) (x3 : Int32) (x4 : Int32) (x5 : Int32) (F : FT) (G : GT) : Prop := wp_X7_whyNoSale x1 x2 x3 x4 x5 F G (fun r3 F1 G2 => ((r3 = 0) → vp_in x1 40 ∧ vp_in x1 40 ∧ ((¬ (G2 17 x1.toNatClampNeg) = (G2 16 x1.toNatClampNeg)) → wp_X7_sell_53 Q x1 x2 x3 x4 x5 (G2 16 x1.toNatClampNeg) (0 : Int32) F1 G2) ∧ (((G2 17 x1.toNatClampNeg) = (G2 16 x1.toNatClampNeg)) → wp_X7_sell_53 Q x1 x2 x3 x4 x5 (G2 16 x1.toNatClampNeg) (1 : Int32) F1 G2)) ∧ ((¬ r3 = 0) → Q ((-1 : Int32) - r3) F1 G2))
def wp_X7_sell (x1 : Int32) (x2 : Int32) (x3 : Int32) (x4 : Int32) (x5 : Int32) (F : FT) (G : GT) (Q : Int32 → FT → GT → Prop) : Prop := wp_X7_sell_0 Q x1 x2 x3 x4 x5 F G
set_option maxHeartbeats 4000000 in
set_option maxRecDepth 100000 in
theorem wk_X7_sell_115 {p : Program} {l : Launch} {e : Env} {R : Room} {s : State} {m : MethodId} {args : Array Value} {below : List Frame} {meth : Method} {c : Code} {K : KT} {A : Nat → Prop} {Z : State → Prop} {a : Nat → Nat} (hR : 4 ≤ R.frames ∧ 89 ≤ R.locals) (C : CX p s m args meth c K A cX7_sell 10 RX7) {Q : Int32 → FT → GT → Prop} (hq : RetXi p l e R s m args below meth c K A Z a cX7_sell Q) (x9 : Int32) (s0 : Int32) (s1 : Int32) (s2 : Int32) (F : FT) (G : GT) {H : Heap} {locs : List Loc} (h : WD K A s (wX K a F G) H locs) {ls : Array Slot} (hl : lv_has ls 10 [(9, .int x9)]) (hw : wp_X7_sell_115 Q x9 s0 s1 s2 F G) : W p l e R s m args below meth c H locs 0 0 Z (F0 m 115 ls [.int s0, .int s1, .int s2, .ref (a 0)]) := by
  unfold wp_X7_sell_115 at hw
  have hx := C.1
  have hb := C.2.1
  refine lv_iconst (v := (1 : Int32)) hx hb dX7_sell_115 (by decide) ?_
  refine kXvV C h (c_X7_lead s2 s1 s0 (1 : Int32) F G hw) lk_7_164 (rvX_0 K a F G) rfl hl.1 rfl (Nat.le_of_ble_eq_true rfl) ⟨Nat.le_trans (Nat.le_of_ble_eq_true rfl) hR.1, Nat.le_trans (Nat.le_of_ble_eq_true rfl) hR.2⟩ ⟨Nat.zero_le _, Nat.zero_le _⟩ dX7_sell_116 (fun F1 G2 H locs hw h => ?_)
  refine lv_iload hx hb dX7_sell_119 (lv_at hl 0 rfl) ?_
  exact hq _ F1 G2 _ _ _ _ dX7_sell_121 h hw
set_option maxHeartbeats 4000000 in
set_option maxRecDepth 100000 in
theorem wk_X7_sell_53 {p : Program} {l : Launch} {e : Env} {R : Room} {s : State} {m : MethodId} {args : Array Value} {below : List Frame} {meth : Method} {c : Code} {K : KT} {A : Nat → Prop} {Z : State → Prop} {a : Nat → Nat} (hR : 4 ≤ R.frames ∧ 89 ≤ R.locals) (C : CX p s m args meth c K A cX7_sell 10 RX7) {Q : Int32 → FT → GT → Prop} (hq : RetXi p l e R s m args below meth c K A Z a cX7_sell Q) (x1 : Int32) (x2 : Int32) (x3 : Int32) (x4 : Int32) (x5 : Int32) (x7 : Int32) (s0 : Int32) (F : FT) (G : GT) {H : Heap} {locs : List Loc} (h : WD K A s (wX K a F G) H locs) {ls : Array Slot} (hl : lv_has ls 10 [(0, .ref (a 0)), (1, .int x1), (2, .int x2), (3, .int x3), (4, .int x4), (5, .int x5), (7, .int x7)]) (hw : wp_X7_sell_53 Q x1 x2 x3 x4 x5 x7 s0 F G) : W p l e R s m args below meth c H locs 0 0 Z (F0 m 53 ls [.int s0]) := by
  unfold wp_X7_sell_53 at hw
  have hx := C.1
  have hb := C.2.1
  refine lv_istore (lv' := [(8, .int s0), (0, .ref (a 0)), (1, .int x1), (2, .int x2), (3, .int x3), (4, .int x4), (5, .int x5), (7, .int x7)]) hx hb dX7_sell_53 hl (by decide) rfl (fun ls hl => ?_)
  refine lv_aload_n hx hb dX7_sell_55 rfl (lv_at hl 1 rfl) ?_
  refine gX_7_54 C h dX7_sell_56 ?_
  refine lv_iload_n hx hb dX7_sell_59 rfl (lv_at hl 2 rfl) ?_
  refine lv_iload hx hb dX7_sell_60 (lv_at hl 7 rfl) ?_
  refine lv_iload_n hx hb dX7_sell_62 rfl (lv_at hl 3 rfl) ?_
  refine lv_iload hx hb dX7_sell_63 (lv_at hl 0 rfl) ?_
  refine kXiV C h (c_X5_add x1 x7 x2 s0 F G hw) lk_7_154 (rvX_7 K a F G) rfl hl.1 rfl (Nat.le_of_ble_eq_true rfl) ⟨Nat.le_trans (Nat.le_of_ble_eq_true rfl) hR.1, Nat.le_trans (Nat.le_of_ble_eq_true rfl) hR.2⟩ ⟨Nat.zero_le _, Nat.zero_le _⟩ dX7_sell_65 (fun r3 F1 G2 H locs hw h => ?_)
  refine lv_istore (lv' := [(9, .int r3), (8, .int s0), (0, .ref (a 0)), (1, .int x1), (2, .int x2), (3, .int x3), (4, .int x4), (5, .int x5), (7, .int x7)]) hx hb dX7_sell_68 hl (by decide) rfl (fun ls hl => ?_)
  refine lv_aload_n hx hb dX7_sell_70 rfl (lv_at hl 2 rfl) ?_
  refine gX_7_54 C h dX7_sell_71 ?_
  refine lv_iload hx hb dX7_sell_74 (lv_at hl 0 rfl) ?_
  refine lv_iload_n hx hb dX7_sell_76 rfl (lv_at hl 5 rfl) ?_
  refine lv_iload hx hb dX7_sell_77 (lv_at hl 6 rfl) ?_
  refine lv_iload hx hb dX7_sell_79 (lv_at hl 7 rfl) ?_
  refine lv_aload_n hx hb dX7_sell_81 rfl (lv_at hl 2 rfl) ?_
  refine gX_7_58 C h dX7_sell_82 ?_
  refine kXvV C h (c_X5_setTerms r3 x3 x4 x5 (F1 0) F1 G2 hw) lk_7_157 (rvX_7 K a F1 G2) rfl hl.1 rfl (Nat.le_of_ble_eq_true rfl) ⟨Nat.le_trans (Nat.le_of_ble_eq_true rfl) hR.1, Nat.le_trans (Nat.le_of_ble_eq_true rfl) hR.2⟩ ⟨Nat.zero_le _, Nat.zero_le _⟩ dX7_sell_85 (fun F4 G5 H locs hw h => ?_)
  refine lv_aload_n hx hb dX7_sell_88 rfl (lv_at hl 2 rfl) ?_
  refine lv_iload hx hb dX7_sell_89 (lv_at hl 0 rfl) ?_
  refine kXvV C h (c_X7_payPrice r3 F4 G5 hw) lk_7_161 (rvX_0 K a F4 G5) rfl hl.1 rfl (Nat.le_of_ble_eq_true rfl) ⟨Nat.le_trans (Nat.le_of_ble_eq_true rfl) hR.1, Nat.le_trans (Nat.le_of_ble_eq_true rfl) hR.2⟩ ⟨Nat.zero_le _, Nat.zero_le _⟩ dX7_sell_91 (fun F6 G7 H locs hw h => ?_)
  refine lv_aload_n hx hb dX7_sell_94 rfl (lv_at hl 2 rfl) ?_
  refine lv_iload_n hx hb dX7_sell_95 rfl (lv_at hl 3 rfl) ?_
  refine lv_iload_n hx hb dX7_sell_96 rfl (lv_at hl 4 rfl) ?_
  refine lv_iload hx hb dX7_sell_97 (lv_at hl 1 rfl) ?_
  refine lv_if_eq (tgt := 106) hx hb dX7_sell_99 (by decide) (fun c => ?_) (fun c => ?_)
  · have hw := hw.1 c
    refine lv_aload_n hx hb dX7_sell_106 rfl (lv_at hl 2 rfl) ?_
    refine gX_7_40 C h dX7_sell_107 ?_
    refine gX_7_151 C h dX7_sell_110 ?_
    refine lv_iload_n hx hb dX7_sell_113 rfl (lv_at hl 3 rfl) ?_
    have hi := hw.1
    have hw := hw.2
    refine laX_17 C h hi dX7_sell_114 ?_
    exact wk_X7_sell_115 hR C hq r3 (G7 17 x1.toNatClampNeg) x2 x1 F6 G7 h (lv_sub hl [0] rfl) hw
  · have hw := hw.2 c
    refine lv_iload_n hx hb dX7_sell_102 rfl (lv_at hl 4 rfl) ?_
    refine lv_goto (tgt := 115) hx hb dX7_sell_103 (by decide) ?_
    exact wk_X7_sell_115 hR C hq r3 x2 x2 x1 F6 G7 h (lv_sub hl [0] rfl) hw
set_option maxHeartbeats 4000000 in
set_option maxRecDepth 100000 in
theorem wk_X7_sell_0 {p : Program} {l : Launch} {e : Env} {R : Room} {s : State} {m : MethodId} {args : Array Value} {below : List Frame} {meth : Method} {c : Code} {K : KT} {A : Nat → Prop} {Z : State → Prop} {a : Nat → Nat} (hR : 4 ≤ R.frames ∧ 89 ≤ R.locals) (C : CX p s m args meth c K A cX7_sell 10 RX7) {Q : Int32 → FT → GT → Prop} (hq : RetXi p l e R s m args below meth c K A Z a cX7_sell Q) (x1 : Int32) (x2 : Int32) (x3 : Int32) (x4 : Int32) (x5 : Int32) (F : FT) (G : GT) {H : Heap} {locs : List Loc} (h : WD K A s (wX K a F G) H locs) {ls : Array Slot} (hl : lv_has ls 10 [(0, .ref (a 0)), (1, .int x1), (2, .int x2), (3, .int x3), (4, .int x4), (5, .int x5)]) (hw : wp_X7_sell_0 Q x1 x2 x3 x4 x5 F G) : W p l e R s m args below meth c H locs 0 0 Z (F0 m 0 ls []) := by
  unfold wp_X7_sell_0 at hw
  have hx := C.1
  have hb := C.2.1
  refine lv_aload_n hx hb dX7_sell_0 rfl (lv_at hl 0 rfl) ?_
  refine lv_iload_n hx hb dX7_sell_1 rfl (lv_at hl 1 rfl) ?_
  refine lv_iload_n hx hb dX7_sell_2 rfl (lv_at hl 2 rfl) ?_
  refine lv_iload_n hx hb dX7_sell_3 rfl (lv_at hl 3 rfl) ?_
  refine lv_iload hx hb dX7_sell_4 (lv_at hl 4 rfl) ?_
  refine lv_iload hx hb dX7_sell_6 (lv_at hl 5 rfl) ?_
  refine kXiV C h (c_X7_whyNoSale x1 x2 x3 x4 x5 F G hw) lk_7_144 (rvX_0 K a F G) rfl hl.1 rfl (Nat.le_of_ble_eq_true rfl) ⟨Nat.le_trans (Nat.le_of_ble_eq_true rfl) hR.1, Nat.le_trans (Nat.le_of_ble_eq_true rfl) hR.2⟩ ⟨Nat.zero_le _, Nat.zero_le _⟩ dX7_sell_8 (fun r3 F1 G2 H locs hw h => ?_)
  refine lv_istore (lv' := [(6, .int r3), (0, .ref (a 0)), (1, .int x1), (2, .int x2), (3, .int x3), (4, .int x4), (5, .int x5)]) hx hb dX7_sell_11 hl (by decide) rfl (fun ls hl => ?_)
  refine lv_iload hx hb dX7_sell_13 (lv_at hl 0 rfl) ?_
  refine lv_if_eq (tgt := 23) hx hb dX7_sell_15 (by decide) (fun c => ?_) (fun c => ?_)
  · have hw := hw.1 c
    refine lv_aload_n hx hb dX7_sell_23 rfl (lv_at hl 1 rfl) ?_
    refine gX_7_40 C h dX7_sell_24 ?_
    refine gX_7_148 C h dX7_sell_27 ?_
    refine lv_iload_n hx hb dX7_sell_30 rfl (lv_at hl 2 rfl) ?_
    have hi := hw.1
    have hw := hw.2
    refine laX_16 C h hi dX7_sell_31 ?_
    refine lv_istore (lv' := [(7, .int (G2 16 x1.toNatClampNeg)), (6, .int r3), (0, .ref (a 0)), (1, .int x1), (2, .int x2), (3, .int x3), (4, .int x4), (5, .int x5)]) hx hb dX7_sell_32 hl (by decide) rfl (fun ls hl => ?_)
    refine lv_aload_n hx hb dX7_sell_34 rfl (lv_at hl 2 rfl) ?_
    refine gX_7_40 C h dX7_sell_35 ?_
    refine gX_7_151 C h dX7_sell_38 ?_
    refine lv_iload_n hx hb dX7_sell_41 rfl (lv_at hl 3 rfl) ?_
    have hi := hw.1
    have hw := hw.2
    refine laX_17 C h hi dX7_sell_42 ?_
    refine lv_iload hx hb dX7_sell_43 (lv_at hl 0 rfl) ?_
    refine lv_icmp_ne (tgt := 52) hx hb dX7_sell_45 (by decide) (fun c => ?_) (fun c => ?_)
    · have hw := hw.1 c
      refine lv_iconst (v := (0 : Int32)) hx hb dX7_sell_52 (by decide) ?_
      exact wk_X7_sell_53 hR C hq x1 x2 x3 x4 x5 (G2 16 x1.toNatClampNeg) (0 : Int32) F1 G2 h (lv_sub hl [2, 3, 4, 5, 6, 7, 0] rfl) hw
    · have hw := hw.2 c
      refine lv_iconst (v := (1 : Int32)) hx hb dX7_sell_48 (by decide) ?_
      refine lv_goto (tgt := 53) hx hb dX7_sell_49 (by decide) ?_
      exact wk_X7_sell_53 hR C hq x1 x2 x3 x4 x5 (G2 16 x1.toNatClampNeg) (1 : Int32) F1 G2 h (lv_sub hl [2, 3, 4, 5, 6, 7, 0] rfl) hw
  · have hw := hw.2 c
    refine lv_iconst (v := (-1 : Int32)) hx hb dX7_sell_18 (by decide) ?_
    refine lv_iload hx hb dX7_sell_19 (lv_at hl 0 rfl) ?_
    refine lv_isub hx hb dX7_sell_21 ?_
    exact hq _ F1 G2 _ _ _ _ dX7_sell_22 h hw
theorem c_X7_sell {l : Launch} {K : KT} {a : Nat → Nat} (x1 : Int32) (x2 : Int32) (x3 : Int32) (x4 : Int32) (x5 : Int32) (F : FT) (G : GT) {Q : Int32 → FT → GT → Prop} (hw : wp_X7_sell x1 x2 x3 x4 x5 F G Q) : CtXi l K a yX7_sell cX7_sell 10 (some .int) 4 89 [.ref (a 0), .int x1, .int x2, .int x3, .int x4, .int x5] F G Q := fun sz => x_met (Qm := QmXi K a Q) (by decide) (Nat.le_of_ble_eq_true rfl) (fun p e s m below meth c A ls C hr h hl => wk_X7_sell_0 ⟨Nat.le_refl _, Nat.le_refl _⟩ C (retX_z C hr (fun r F G _ => rfl)) x1 x2 x3 x4 x5 F G h hl hw)
def wp_X1_isFound_0 (Q : Int32 → FT → GT → Prop) (x1 : Int32) (x2 : Int32) (F : FT) (G : GT) : Prop := vp_in x1 40 ∧ vp_in x2 6 ∧ (((G (x1.toNatClampNeg + 100) x2.toNatClampNeg) = (-1 : Int32)) → Q (0 : Int32) F G) ∧ ((¬ (G (x1.toNatClampNeg + 100) x2.toNatClampNeg) = (-1 : Int32)) → Q (1 : Int32) F G)
def wp_X1_isFound (x1 : Int32) (x2 : Int32) (F : FT) (G : GT) (Q : Int32 → FT → GT → Prop) : Prop := wp_X1_isFound_0 (fun r F G => (r = 0 ∨ r = 1) ∧ Q r F G) x1 x2 F G
set_option maxHeartbeats 4000000 in
set_option maxRecDepth 100000 in
theorem wk_X1_isFound_0 {p : Program} {l : Launch} {e : Env} {R : Room} {s : State} {m : MethodId} {args : Array Value} {below : List Frame} {meth : Method} {c : Code} {K : KT} {A : Nat → Prop} {Z : State → Prop} {a : Nat → Nat} (hR : 0 ≤ R.frames ∧ 0 ≤ R.locals) (C : CX p s m args meth c K A cX1_isFound 3 RX1) {Q : Int32 → FT → GT → Prop} (hq : RetXi p l e R s m args below meth c K A Z a cX1_isFound Q) (x1 : Int32) (x2 : Int32) (F : FT) (G : GT) {H : Heap} {locs : List Loc} (h : WD K A s (wX K a F G) H locs) {ls : Array Slot} (hl : lv_has ls 3 [(0, .ref (a 5)), (1, .int x1), (2, .int x2)]) (hw : wp_X1_isFound_0 Q x1 x2 F G) : W p l e R s m args below meth c H locs 0 0 Z (F0 m 0 ls []) := by
  unfold wp_X1_isFound_0 at hw
  have hx := C.1
  have hb := C.2.1
  refine lv_aload_n hx hb dX1_isFound_0 rfl (lv_at hl 0 rfl) ?_
  refine gX_1_23 C h dX1_isFound_1 ?_
  refine lv_iload_n hx hb dX1_isFound_4 rfl (lv_at hl 1 rfl) ?_
  have hi1 := hw.1
  have hw := hw.2
  refine oX_44 C h hi1 dX1_isFound_5 ?_
  refine lv_iload_n hx hb dX1_isFound_6 rfl (lv_at hl 2 rfl) ?_
  have hi := hw.1
  have hw := hw.2
  refine lr_100 C h (in_lt hi1) hi dX1_isFound_7 ?_
  refine lv_iconst (v := (-1 : Int32)) hx hb dX1_isFound_8 (by decide) ?_
  refine lv_icmp_eq (tgt := 16) hx hb dX1_isFound_9 (by decide) (fun c => ?_) (fun c => ?_)
  · have hw := hw.1 c
    refine lv_iconst (v := (0 : Int32)) hx hb dX1_isFound_16 (by decide) ?_
    exact hq _ F G _ _ _ _ dX1_isFound_17 h hw
  · have hw := hw.2 c
    refine lv_iconst (v := (1 : Int32)) hx hb dX1_isFound_12 (by decide) ?_
    refine lv_goto (tgt := 17) hx hb dX1_isFound_13 (by decide) ?_
    exact hq _ F G _ _ _ _ dX1_isFound_17 h hw
theorem c_X1_isFound {l : Launch} {K : KT} {a : Nat → Nat} (x1 : Int32) (x2 : Int32) (F : FT) (G : GT) {Q : Int32 → FT → GT → Prop} (hw : wp_X1_isFound x1 x2 F G Q) : CtXi l K a yX1_isFound cX1_isFound 3 (some .boolean) 0 0 [.ref (a 5), .int x1, .int x2] F G (fun r F G => (r = 0 ∨ r = 1) ∧ Q r F G) := fun sz => x_met (Qm := QmXi K a (fun r F G => (r = 0 ∨ r = 1) ∧ Q r F G)) (by decide) (Nat.le_of_ble_eq_true rfl) (fun p e s m below meth c A ls C hr h hl => wk_X1_isFound_0 ⟨Nat.le_refl _, Nat.le_refl _⟩ C (retX_z C hr (fun r F G hz => by rcases hz.1 with z | z <;> rw [z] <;> rfl)) x1 x2 F G h hl hw)
def wp_X7_find_0 (Q : Int32 → FT → GT → Prop) (x1 : Int32) (x2 : Int32) (x3 : Int32) (F : FT) (G : GT) : Prop := wp_X1_has x1 F G (fun r3 F1 G2 => ((r3 = 0) → Q (0 : Int32) F1 G2) ∧ ((¬ r3 = 0) → wp_X7_isFault x2 F1 G2 (fun r6 F4 G5 => ((r6 = 0) → Q (0 : Int32) F4 G5) ∧ ((¬ r6 = 0) → ((x3 < 0) → Q (0 : Int32) F4 G5) ∧ ((¬ x3 < 0) → (((F4 0) < x3) → Q (0 : Int32) F4 G5) ∧ ((¬ (F4 0) < x3) → wp_X1_isFound x1 x2 F4 G5 (fun r9 F7 G8 => ((r9 = 0) → vp_in x1 40 ∧ vp_in x2 6 ∧ ∀ G11 : GT, G11 = gU G8 (x1.toNatClampNeg + 100) (upd (G8 (x1.toNatClampNeg + 100)) x2.toNatClampNeg (F7 0)) → vp_in x1 40 ∧ vp_in x2 6 ∧ ∀ G13 : GT, G13 = gU G11 (x1.toNatClampNeg + 200) (upd (G11 (x1.toNatClampNeg + 200)) x2.toNatClampNeg x3) → Q (1 : Int32) F7 G13) ∧ ((¬ r9 = 0) → Q (0 : Int32) F7 G8))))))))
def wp_X7_find (x1 : Int32) (x2 : Int32) (x3 : Int32) (F : FT) (G : GT) (Q : Int32 → FT → GT → Prop) : Prop := wp_X7_find_0 (fun r F G => (r = 0 ∨ r = 1) ∧ Q r F G) x1 x2 x3 F G
set_option maxHeartbeats 4000000 in
set_option maxRecDepth 100000 in
theorem wk_X7_find_0 {p : Program} {l : Launch} {e : Env} {R : Room} {s : State} {m : MethodId} {args : Array Value} {below : List Frame} {meth : Method} {c : Code} {K : KT} {A : Nat → Prop} {Z : State → Prop} {a : Nat → Nat} (hR : 1 ≤ R.frames ∧ 22 ≤ R.locals) (C : CX p s m args meth c K A cX7_find 4 RX7) {Q : Int32 → FT → GT → Prop} (hq : RetXi p l e R s m args below meth c K A Z a cX7_find Q) (x1 : Int32) (x2 : Int32) (x3 : Int32) (F : FT) (G : GT) {H : Heap} {locs : List Loc} (h : WD K A s (wX K a F G) H locs) {ls : Array Slot} (hl : lv_has ls 4 [(0, .ref (a 0)), (1, .int x1), (2, .int x2), (3, .int x3)]) (hw : wp_X7_find_0 Q x1 x2 x3 F G) : W p l e R s m args below meth c H locs 0 0 Z (F0 m 0 ls []) := by
  unfold wp_X7_find_0 at hw
  have hx := C.1
  have hb := C.2.1
  refine lv_aload_n hx hb dX7_find_0 rfl (lv_at hl 0 rfl) ?_
  refine gX_7_40 C h dX7_find_1 ?_
  refine lv_iload_n hx hb dX7_find_4 rfl (lv_at hl 1 rfl) ?_
  refine kXiV C h (c_X1_has x1 F G hw) lk_7_167 (rvX_5 K a F G) rfl hl.1 rfl (Nat.le_of_ble_eq_true rfl) ⟨Nat.le_trans (Nat.le_of_ble_eq_true rfl) hR.1, Nat.le_trans (Nat.le_of_ble_eq_true rfl) hR.2⟩ ⟨Nat.zero_le _, Nat.zero_le _⟩ dX7_find_5 (fun r3 F1 G2 H locs hw h => ?_)
  have hw := hw.2
  refine lv_if_eq (tgt := 42) hx hb dX7_find_8 (by decide) (fun c => ?_) (fun c => ?_)
  · have hw := hw.1 c
    refine lv_iconst (v := (0 : Int32)) hx hb dX7_find_42 (by decide) ?_
    exact hq _ F1 G2 _ _ _ _ dX7_find_43 h hw
  · have hw := hw.2 c
    refine lv_iload_n hx hb dX7_find_11 rfl (lv_at hl 2 rfl) ?_
    refine kXiS C h (c_X7_isFault x2 F1 G2 hw) lk_7_170 rfl hl.1 rfl (Nat.le_of_ble_eq_true rfl) ⟨Nat.le_trans (Nat.le_of_ble_eq_true rfl) hR.1, Nat.le_trans (Nat.le_of_ble_eq_true rfl) hR.2⟩ ⟨Nat.zero_le _, Nat.zero_le _⟩ dX7_find_12 (fun r6 F4 G5 H locs hw h => ?_)
    have hw := hw.2
    refine lv_if_eq (tgt := 42) hx hb dX7_find_15 (by decide) (fun c => ?_) (fun c => ?_)
    · have hw := hw.1 c
      refine lv_iconst (v := (0 : Int32)) hx hb dX7_find_42 (by decide) ?_
      exact hq _ F4 G5 _ _ _ _ dX7_find_43 h hw
    · have hw := hw.2 c
      refine lv_iload_n hx hb dX7_find_18 rfl (lv_at hl 3 rfl) ?_
      refine lv_if_lt (tgt := 42) hx hb dX7_find_19 (by decide) (fun c => ?_) (fun c => ?_)
      · have hw := hw.1 c
        refine lv_iconst (v := (0 : Int32)) hx hb dX7_find_42 (by decide) ?_
        exact hq _ F4 G5 _ _ _ _ dX7_find_43 h hw
      · have hw := hw.2 c
        refine lv_iload_n hx hb dX7_find_22 rfl (lv_at hl 3 rfl) ?_
        refine lv_aload_n hx hb dX7_find_23 rfl (lv_at hl 0 rfl) ?_
        refine gX_7_58 C h dX7_find_24 ?_
        refine lv_icmp_gt (tgt := 42) hx hb dX7_find_27 (by decide) (fun c => ?_) (fun c => ?_)
        · have hw := hw.1 c
          refine lv_iconst (v := (0 : Int32)) hx hb dX7_find_42 (by decide) ?_
          exact hq _ F4 G5 _ _ _ _ dX7_find_43 h hw
        · have hw := hw.2 c
          refine lv_aload_n hx hb dX7_find_30 rfl (lv_at hl 0 rfl) ?_
          refine gX_7_40 C h dX7_find_31 ?_
          refine lv_iload_n hx hb dX7_find_34 rfl (lv_at hl 1 rfl) ?_
          refine lv_iload_n hx hb dX7_find_35 rfl (lv_at hl 2 rfl) ?_
          refine kXiV C h (c_X1_isFound x1 x2 F4 G5 hw) lk_7_173 (rvX_5 K a F4 G5) rfl hl.1 rfl (Nat.le_of_ble_eq_true rfl) ⟨Nat.le_trans (Nat.le_of_ble_eq_true rfl) hR.1, Nat.le_trans (Nat.le_of_ble_eq_true rfl) hR.2⟩ ⟨Nat.zero_le _, Nat.zero_le _⟩ dX7_find_36 (fun r9 F7 G8 H locs hw h => ?_)
          have hw := hw.2
          refine lv_if_eq (tgt := 44) hx hb dX7_find_39 (by decide) (fun c => ?_) (fun c => ?_)
          · have hw := hw.1 c
            refine lv_aload_n hx hb dX7_find_44 rfl (lv_at hl 0 rfl) ?_
            refine gX_7_40 C h dX7_find_45 ?_
            refine gX_7_177 C h dX7_find_48 ?_
            refine lv_iload_n hx hb dX7_find_51 rfl (lv_at hl 1 rfl) ?_
            have hi10 := hw.1
            have hw := hw.2
            refine oX_44 C h hi10 dX7_find_52 ?_
            refine lv_iload_n hx hb dX7_find_53 rfl (lv_at hl 2 rfl) ?_
            refine lv_aload_n hx hb dX7_find_54 rfl (lv_at hl 0 rfl) ?_
            refine gX_7_58 C h dX7_find_55 ?_
            have hi := hw.1
            have hw := hw.2
            refine sr_100 C h (in_lt hi10) hi dX7_find_58 (fun G11 H locs eG11 h => ?_)
            have hw := hw G11 eG11
            refine lv_aload_n hx hb dX7_find_59 rfl (lv_at hl 0 rfl) ?_
            refine gX_7_40 C h dX7_find_60 ?_
            refine gX_7_181 C h dX7_find_63 ?_
            refine lv_iload_n hx hb dX7_find_66 rfl (lv_at hl 1 rfl) ?_
            have hi12 := hw.1
            have hw := hw.2
            refine oX_45 C h hi12 dX7_find_67 ?_
            refine lv_iload_n hx hb dX7_find_68 rfl (lv_at hl 2 rfl) ?_
            refine lv_iload_n hx hb dX7_find_69 rfl (lv_at hl 3 rfl) ?_
            have hi := hw.1
            have hw := hw.2
            refine sr_200 C h (in_lt hi12) hi dX7_find_70 (fun G13 H locs eG13 h => ?_)
            have hw := hw G13 eG13
            refine lv_iconst (v := (1 : Int32)) hx hb dX7_find_71 (by decide) ?_
            exact hq _ F7 G13 _ _ _ _ dX7_find_72 h hw
          · have hw := hw.2 c
            refine lv_iconst (v := (0 : Int32)) hx hb dX7_find_42 (by decide) ?_
            exact hq _ F7 G8 _ _ _ _ dX7_find_43 h hw
theorem c_X7_find {l : Launch} {K : KT} {a : Nat → Nat} (x1 : Int32) (x2 : Int32) (x3 : Int32) (F : FT) (G : GT) {Q : Int32 → FT → GT → Prop} (hw : wp_X7_find x1 x2 x3 F G Q) : CtXi l K a yX7_find cX7_find 4 (some .boolean) 1 22 [.ref (a 0), .int x1, .int x2, .int x3] F G (fun r F G => (r = 0 ∨ r = 1) ∧ Q r F G) := fun sz => x_met (Qm := QmXi K a (fun r F G => (r = 0 ∨ r = 1) ∧ Q r F G)) (by decide) (Nat.le_of_ble_eq_true rfl) (fun p e s m below meth c A ls C hr h hl => wk_X7_find_0 ⟨Nat.le_refl _, Nat.le_refl _⟩ C (retX_z C hr (fun r F G hz => by rcases hz.1 with z | z <;> rw [z] <;> rfl)) x1 x2 x3 F G h hl hw)
def wp_X5_stands_0 (Q : Int32 → FT → GT → Prop) (x1 : Int32) (x2 : Int32) (F : FT) (G : GT) : Prop := vp_in x1 80 ∧ ((¬ (G 23 x1.toNatClampNeg) = x2) → Q (0 : Int32) F G) ∧ (((G 23 x1.toNatClampNeg) = x2) → vp_in x1 80 ∧ ((¬ (G 30 x1.toNatClampNeg) = 0) → Q (0 : Int32) F G) ∧ (((G 30 x1.toNatClampNeg) = 0) → Q (1 : Int32) F G))
def wp_X5_stands (x1 : Int32) (x2 : Int32) (F : FT) (G : GT) (Q : Int32 → FT → GT → Prop) : Prop := wp_X5_stands_0 (fun r F G => (r = 0 ∨ r = 1) ∧ Q r F G) x1 x2 F G
set_option maxHeartbeats 4000000 in
set_option maxRecDepth 100000 in
theorem wk_X5_stands_0 {p : Program} {l : Launch} {e : Env} {R : Room} {s : State} {m : MethodId} {args : Array Value} {below : List Frame} {meth : Method} {c : Code} {K : KT} {A : Nat → Prop} {Z : State → Prop} {a : Nat → Nat} (hR : 0 ≤ R.frames ∧ 0 ≤ R.locals) (C : CX p s m args meth c K A cX5_stands 3 RX5) {Q : Int32 → FT → GT → Prop} (hq : RetXi p l e R s m args below meth c K A Z a cX5_stands Q) (x1 : Int32) (x2 : Int32) (F : FT) (G : GT) {H : Heap} {locs : List Loc} (h : WD K A s (wX K a F G) H locs) {ls : Array Slot} (hl : lv_has ls 3 [(0, .ref (a 7)), (1, .int x1), (2, .int x2)]) (hw : wp_X5_stands_0 Q x1 x2 F G) : W p l e R s m args below meth c H locs 0 0 Z (F0 m 0 ls []) := by
  unfold wp_X5_stands_0 at hw
  have hx := C.1
  have hb := C.2.1
  refine lv_aload_n hx hb dX5_stands_0 rfl (lv_at hl 0 rfl) ?_
  refine gX_5_9 C h dX5_stands_1 ?_
  refine lv_iload_n hx hb dX5_stands_4 rfl (lv_at hl 1 rfl) ?_
  have hi := hw.1
  have hw := hw.2
  refine laX_23 C h hi dX5_stands_5 ?_
  refine lv_iload_n hx hb dX5_stands_6 rfl (lv_at hl 2 rfl) ?_
  refine lv_icmp_ne (tgt := 23) hx hb dX5_stands_7 (by decide) (fun c => ?_) (fun c => ?_)
  · have hw := hw.1 c
    refine lv_iconst (v := (0 : Int32)) hx hb dX5_stands_23 (by decide) ?_
    exact hq _ F G _ _ _ _ dX5_stands_24 h hw
  · have hw := hw.2 c
    refine lv_aload_n hx hb dX5_stands_10 rfl (lv_at hl 0 rfl) ?_
    refine gX_5_33 C h dX5_stands_11 ?_
    refine lv_iload_n hx hb dX5_stands_14 rfl (lv_at hl 1 rfl) ?_
    have hi := hw.1
    have hw := hw.2
    refine laX_30 C h hi dX5_stands_15 ?_
    refine lv_if_ne (tgt := 23) hx hb dX5_stands_16 (by decide) (fun c => ?_) (fun c => ?_)
    · have hw := hw.1 c
      refine lv_iconst (v := (0 : Int32)) hx hb dX5_stands_23 (by decide) ?_
      exact hq _ F G _ _ _ _ dX5_stands_24 h hw
    · have hw := hw.2 c
      refine lv_iconst (v := (1 : Int32)) hx hb dX5_stands_19 (by decide) ?_
      refine lv_goto (tgt := 24) hx hb dX5_stands_20 (by decide) ?_
      exact hq _ F G _ _ _ _ dX5_stands_24 h hw
theorem c_X5_stands {l : Launch} {K : KT} {a : Nat → Nat} (x1 : Int32) (x2 : Int32) (F : FT) (G : GT) {Q : Int32 → FT → GT → Prop} (hw : wp_X5_stands x1 x2 F G Q) : CtXi l K a yX5_stands cX5_stands 3 (some .boolean) 0 0 [.ref (a 7), .int x1, .int x2] F G (fun r F G => (r = 0 ∨ r = 1) ∧ Q r F G) := fun sz => x_met (Qm := QmXi K a (fun r F G => (r = 0 ∨ r = 1) ∧ Q r F G)) (by decide) (Nat.le_of_ble_eq_true rfl) (fun p e s m below meth c A ls C hr h hl => wk_X5_stands_0 ⟨Nat.le_refl _, Nat.le_refl _⟩ C (retX_z C hr (fun r F G hz => by rcases hz.1 with z | z <;> rw [z] <;> rfl)) x1 x2 F G h hl hw)
def wp_X5_latestStanding_7 (Q : Int32 → FT → GT → Prop) : Nat → Int32 → Int32 → FT → GT → Prop
  | 0, _, _, _, _ => False
  | n + 1, x1, x2, F, G => ((x2 < 0) → Q (-1 : Int32) F G) ∧ ((¬ x2 < 0) → wp_X5_stands x2 x1 F G (fun r3 F1 G2 => ((r3 = 0) → ∀ v4 : Int32, v4 = (x2 + (-1)) → wp_X5_latestStanding_7 Q n x1 v4 F1 G2) ∧ ((¬ r3 = 0) → Q x2 F1 G2)))
def wp_X5_latestStanding_0 (Q : Int32 → FT → GT → Prop) (x1 : Int32) (F : FT) (G : GT) : Prop := ∃ n : Nat, wp_X5_latestStanding_7 Q n x1 ((F 8) - (1 : Int32)) F G
def wp_X5_latestStanding (x1 : Int32) (F : FT) (G : GT) (Q : Int32 → FT → GT → Prop) : Prop := wp_X5_latestStanding_0 Q x1 F G
set_option maxHeartbeats 4000000 in
set_option maxRecDepth 100000 in
theorem wk_X5_latestStanding_7 {p : Program} {l : Launch} {e : Env} {R : Room} {s : State} {m : MethodId} {args : Array Value} {below : List Frame} {meth : Method} {c : Code} {K : KT} {A : Nat → Prop} {Z : State → Prop} {a : Nat → Nat} (hR : 1 ≤ R.frames ∧ 22 ≤ R.locals) (C : CX p s m args meth c K A cX5_latestStanding 3 RX5) {Q : Int32 → FT → GT → Prop} (hq : RetXi p l e R s m args below meth c K A Z a cX5_latestStanding Q) : ∀ (n : Nat) (x1 : Int32) (x2 : Int32) (F : FT) (G : GT) {H : Heap} {locs : List Loc} (h : WD K A s (wX K a F G) H locs) {ls : Array Slot} (hl : lv_has ls 3 [(0, .ref (a 7)), (1, .int x1), (2, .int x2)]) (hw : wp_X5_latestStanding_7 Q n x1 x2 F G), W p l e R s m args below meth c H locs 0 0 Z (F0 m 7 ls []) := by
  intro n
  induction n with
  | zero => intro x1 x2 F G H locs h ls hl hw; exact False.elim hw
  | succ n ih =>
    intro x1 x2 F G H locs h ls hl hw
    rw [wp_X5_latestStanding_7] at hw
    have hx := C.1
    have hb := C.2.1
    refine lv_iload_n hx hb dX5_latestStanding_7 rfl (lv_at hl 2 rfl) ?_
    refine lv_if_lt (tgt := 28) hx hb dX5_latestStanding_8 (by decide) (fun c => ?_) (fun c => ?_)
    · have hw := hw.1 c
      refine lv_iconst (v := (-1 : Int32)) hx hb dX5_latestStanding_28 (by decide) ?_
      exact hq _ F G _ _ _ _ dX5_latestStanding_29 h hw
    · have hw := hw.2 c
      refine lv_aload_n hx hb dX5_latestStanding_11 rfl (lv_at hl 0 rfl) ?_
      refine lv_iload_n hx hb dX5_latestStanding_12 rfl (lv_at hl 2 rfl) ?_
      refine lv_iload_n hx hb dX5_latestStanding_13 rfl (lv_at hl 1 rfl) ?_
      refine kXiV C h (c_X5_stands x2 x1 F G hw) lk_5_44 (rvX_7 K a F G) rfl hl.1 rfl (Nat.le_of_ble_eq_true rfl) ⟨Nat.le_trans (Nat.le_of_ble_eq_true rfl) hR.1, Nat.le_trans (Nat.le_of_ble_eq_true rfl) hR.2⟩ ⟨Nat.zero_le _, Nat.zero_le _⟩ dX5_latestStanding_14 (fun r3 F1 G2 H locs hw h => ?_)
      have hw := hw.2
      refine lv_if_eq (tgt := 22) hx hb dX5_latestStanding_17 (by decide) (fun c => ?_) (fun c => ?_)
      · have hw := hw.1 c
        obtain ⟨v4, ev4⟩ : ∃ z : Int32, z = (x2 + (-1)) := ⟨_, rfl⟩
        have hw := hw v4 ev4
        refine lv_iinc (v := v4) (lv' := [(2, .int v4), (0, .ref (a 7)), (1, .int x1)]) hx hb dX5_latestStanding_22 hl (k := 2) rfl (by rw [ev4]; rfl) (by decide) rfl (fun ls hl => ?_)
        refine lv_goto (tgt := 7) hx hb dX5_latestStanding_25 (by decide) ?_
        exact ih x1 v4 F1 G2 h (lv_sub hl [1, 2, 0] rfl) hw
      · have hw := hw.2 c
        refine lv_iload_n hx hb dX5_latestStanding_20 rfl (lv_at hl 2 rfl) ?_
        exact hq _ F1 G2 _ _ _ _ dX5_latestStanding_21 h hw
set_option maxHeartbeats 4000000 in
set_option maxRecDepth 100000 in
theorem wk_X5_latestStanding_0 {p : Program} {l : Launch} {e : Env} {R : Room} {s : State} {m : MethodId} {args : Array Value} {below : List Frame} {meth : Method} {c : Code} {K : KT} {A : Nat → Prop} {Z : State → Prop} {a : Nat → Nat} (hR : 1 ≤ R.frames ∧ 22 ≤ R.locals) (C : CX p s m args meth c K A cX5_latestStanding 3 RX5) {Q : Int32 → FT → GT → Prop} (hq : RetXi p l e R s m args below meth c K A Z a cX5_latestStanding Q) (x1 : Int32) (F : FT) (G : GT) {H : Heap} {locs : List Loc} (h : WD K A s (wX K a F G) H locs) {ls : Array Slot} (hl : lv_has ls 3 [(0, .ref (a 7)), (1, .int x1)]) (hw : wp_X5_latestStanding_0 Q x1 F G) : W p l e R s m args below meth c H locs 0 0 Z (F0 m 0 ls []) := by
  unfold wp_X5_latestStanding_0 at hw
  have hx := C.1
  have hb := C.2.1
  refine lv_aload_n hx hb dX5_latestStanding_0 rfl (lv_at hl 0 rfl) ?_
  refine gX_5_40 C h dX5_latestStanding_1 ?_
  refine lv_iconst (v := (1 : Int32)) hx hb dX5_latestStanding_4 (by decide) ?_
  refine lv_isub hx hb dX5_latestStanding_5 ?_
  refine lv_istore_n (lv' := [(2, .int ((F 8) - (1 : Int32))), (0, .ref (a 7)), (1, .int x1)]) hx hb dX5_latestStanding_6 rfl hl (by decide) rfl (fun ls hl => ?_)
  obtain ⟨n, hw⟩ := hw
  exact wk_X5_latestStanding_7 hR C hq n x1 ((F 8) - (1 : Int32)) F G h (lv_sub hl [1, 2, 0] rfl) hw
theorem c_X5_latestStanding {l : Launch} {K : KT} {a : Nat → Nat} (x1 : Int32) (F : FT) (G : GT) {Q : Int32 → FT → GT → Prop} (hw : wp_X5_latestStanding x1 F G Q) : CtXi l K a yX5_latestStanding cX5_latestStanding 3 (some .int) 1 22 [.ref (a 7), .int x1] F G Q := fun sz => x_met (Qm := QmXi K a Q) (by decide) (Nat.le_of_ble_eq_true rfl) (fun p e s m below meth c A ls C hr h hl => wk_X5_latestStanding_0 ⟨Nat.le_refl _, Nat.le_refl _⟩ C (retX_z C hr (fun r F G _ => rfl)) x1 F G h hl hw)
def wp_X5_hasWarrant_0 (Q : Int32 → FT → GT → Prop) (x1 : Int32) (x2 : Int32) (F : FT) (G : GT) : Prop := vp_in x1 80 ∧ ∀ v1 : Int32, v1 = (((G 27 x1.toNatClampNeg) >>> (x2 &&& 31)) &&& (1 : Int32)) → ((¬ v1 = (1 : Int32)) → Q (0 : Int32) F G) ∧ ((v1 = (1 : Int32)) → Q (1 : Int32) F G)
def wp_X5_hasWarrant (x1 : Int32) (x2 : Int32) (F : FT) (G : GT) (Q : Int32 → FT → GT → Prop) : Prop := wp_X5_hasWarrant_0 (fun r F G => (r = 0 ∨ r = 1) ∧ Q r F G) x1 x2 F G
set_option maxHeartbeats 4000000 in
set_option maxRecDepth 100000 in
theorem wk_X5_hasWarrant_0 {p : Program} {l : Launch} {e : Env} {R : Room} {s : State} {m : MethodId} {args : Array Value} {below : List Frame} {meth : Method} {c : Code} {K : KT} {A : Nat → Prop} {Z : State → Prop} {a : Nat → Nat} (hR : 0 ≤ R.frames ∧ 0 ≤ R.locals) (C : CX p s m args meth c K A cX5_hasWarrant 3 RX5) {Q : Int32 → FT → GT → Prop} (hq : RetXi p l e R s m args below meth c K A Z a cX5_hasWarrant Q) (x1 : Int32) (x2 : Int32) (F : FT) (G : GT) {H : Heap} {locs : List Loc} (h : WD K A s (wX K a F G) H locs) {ls : Array Slot} (hl : lv_has ls 3 [(0, .ref (a 7)), (1, .int x1), (2, .int x2)]) (hw : wp_X5_hasWarrant_0 Q x1 x2 F G) : W p l e R s m args below meth c H locs 0 0 Z (F0 m 0 ls []) := by
  unfold wp_X5_hasWarrant_0 at hw
  have hx := C.1
  have hb := C.2.1
  refine lv_aload_n hx hb dX5_hasWarrant_0 rfl (lv_at hl 0 rfl) ?_
  refine gX_5_24 C h dX5_hasWarrant_1 ?_
  refine lv_iload_n hx hb dX5_hasWarrant_4 rfl (lv_at hl 1 rfl) ?_
  have hi := hw.1
  have hw := hw.2
  refine laX_27 C h hi dX5_hasWarrant_5 ?_
  refine lv_iload_n hx hb dX5_hasWarrant_6 rfl (lv_at hl 2 rfl) ?_
  refine lv_ishr hx hb dX5_hasWarrant_7 ?_
  refine lv_iconst (v := (1 : Int32)) hx hb dX5_hasWarrant_8 (by decide) ?_
  refine lv_iand hx hb dX5_hasWarrant_9 ?_
  refine lv_topi (fun v1 ev1 => ?_)
  have hw := hw v1 ev1
  refine lv_iconst (v := (1 : Int32)) hx hb dX5_hasWarrant_10 (by decide) ?_
  refine lv_icmp_ne (tgt := 18) hx hb dX5_hasWarrant_11 (by decide) (fun c => ?_) (fun c => ?_)
  · have hw := hw.1 c
    refine lv_iconst (v := (0 : Int32)) hx hb dX5_hasWarrant_18 (by decide) ?_
    exact hq _ F G _ _ _ _ dX5_hasWarrant_19 h hw
  · have hw := hw.2 c
    refine lv_iconst (v := (1 : Int32)) hx hb dX5_hasWarrant_14 (by decide) ?_
    refine lv_goto (tgt := 19) hx hb dX5_hasWarrant_15 (by decide) ?_
    exact hq _ F G _ _ _ _ dX5_hasWarrant_19 h hw
theorem c_X5_hasWarrant {l : Launch} {K : KT} {a : Nat → Nat} (x1 : Int32) (x2 : Int32) (F : FT) (G : GT) {Q : Int32 → FT → GT → Prop} (hw : wp_X5_hasWarrant x1 x2 F G Q) : CtXi l K a yX5_hasWarrant cX5_hasWarrant 3 (some .boolean) 0 0 [.ref (a 7), .int x1, .int x2] F G (fun r F G => (r = 0 ∨ r = 1) ∧ Q r F G) := fun sz => x_met (Qm := QmXi K a (fun r F G => (r = 0 ∨ r = 1) ∧ Q r F G)) (by decide) (Nat.le_of_ble_eq_true rfl) (fun p e s m below meth c A ls C hr h hl => wk_X5_hasWarrant_0 ⟨Nat.le_refl _, Nat.le_refl _⟩ C (retX_z C hr (fun r F G hz => by rcases hz.1 with z | z <;> rw [z] <;> rfl)) x1 x2 F G h hl hw)
def wp_X7_lawLetsBack_88 (Q : Int32 → FT → GT → Prop) (kb : Int32 → Int32 → Int32 → Int32 → FT → GT → Prop) (x1 : Int32) (x2 : Int32) (x3 : Int32) (x4 : Int32) (x5 : Int32) (s0 : Int32) (F : FT) (G : GT) : Prop := ((s0 = 0) → ∀ v1 : Int32, v1 = (x4 + 1) → kb x1 x2 x3 v1 F G) ∧ ((¬ s0 = 0) → vp_in x2 80 ∧ wp_X2_number (G 28 x2.toNatClampNeg) (x5 + x4) F G (fun r4 F2 G3 => ((r4 < x3) → ∀ v5 : Int32, v5 = (x4 + 1) → kb x1 x2 x3 v5 F2 G3) ∧ ((¬ r4 < x3) → Q (1 : Int32) F2 G3)))
def wp_X7_lawLetsBack_87 (Q : Int32 → FT → GT → Prop) (kb : Int32 → Int32 → Int32 → Int32 → FT → GT → Prop) (x1 : Int32) (x2 : Int32) (x3 : Int32) (x4 : Int32) (x5 : Int32) (F : FT) (G : GT) : Prop := wp_X7_lawLetsBack_88 Q kb x1 x2 x3 x4 x5 (0 : Int32) F G
def wp_X7_lawLetsBack_44 (Q : Int32 → FT → GT → Prop) (kb : Int32 → Int32 → Int32 → Int32 → FT → GT → Prop) (x1 : Int32) (x2 : Int32) (x3 : Int32) (x4 : Int32) (s0 : Int32) (F : FT) (G : GT) : Prop := wp_X1_isFound x1 x4 F G (fun r3 F1 G2 => ((r3 = 0) → wp_X7_lawLetsBack_87 Q kb x1 x2 x3 x4 s0 F1 G2) ∧ ((¬ r3 = 0) → vp_in x1 40 ∧ vp_in x4 6 ∧ vp_in x2 80 ∧ (((G2 29 x2.toNatClampNeg) < (G2 (x1.toNatClampNeg + 200) x4.toNatClampNeg)) → wp_X7_lawLetsBack_87 Q kb x1 x2 x3 x4 s0 F1 G2) ∧ ((¬ (G2 29 x2.toNatClampNeg) < (G2 (x1.toNatClampNeg + 200) x4.toNatClampNeg)) → wp_X7_lawLetsBack_88 Q kb x1 x2 x3 x4 s0 (1 : Int32) F1 G2)))
def wp_X7_lawLetsBack_18 (Q : Int32 → FT → GT → Prop) : Nat → Int32 → Int32 → Int32 → Int32 → FT → GT → Prop
  | 0, _, _, _, _, _, _ => False
  | n + 1, x1, x2, x3, x4, F, G => (((6 : Int32) ≤ x4) → Q (0 : Int32) F G) ∧ ((¬ (6 : Int32) ≤ x4) → wp_X5_hasWarrant x2 x4 F G (fun r3 F1 G2 => ((r3 = 0) → wp_X7_lawLetsBack_44 Q (fun x1 x2 x3 x4 F G => wp_X7_lawLetsBack_18 Q n x1 x2 x3 x4 F G) x1 x2 x3 x4 (2 : Int32) F1 G2) ∧ ((¬ r3 = 0) → wp_X7_lawLetsBack_44 Q (fun x1 x2 x3 x4 F G => wp_X7_lawLetsBack_18 Q n x1 x2 x3 x4 F G) x1 x2 x3 x4 (8 : Int32) F1 G2)))
def wp_X7_lawLetsBack_0 (Q : Int32 → FT → GT → Prop) (x1 : Int32) (x2 : Int32) (F : FT) (G : GT) : Prop := vp_in x2 80 ∧ ∃ n : Nat, wp_X7_lawLetsBack_18 Q n x1 x2 ((F 0) - (G 29 x2.toNatClampNeg)) (0 : Int32) F G
def wp_X7_lawLetsBack (x1 : Int32) (x2 : Int32) (F : FT) (G : GT) (Q : Int32 → FT → GT → Prop) : Prop := wp_X7_lawLetsBack_0 (fun r F G => (r = 0 ∨ r = 1) ∧ Q r F G) x1 x2 F G
set_option maxHeartbeats 4000000 in
set_option maxRecDepth 100000 in
theorem wk_X7_lawLetsBack_88 {p : Program} {l : Launch} {e : Env} {R : Room} {s : State} {m : MethodId} {args : Array Value} {below : List Frame} {meth : Method} {c : Code} {K : KT} {A : Nat → Prop} {Z : State → Prop} {a : Nat → Nat} (hR : 1 ≤ R.frames ∧ 22 ≤ R.locals) (C : CX p s m args meth c K A cX7_lawLetsBack 7 RX7) {Q : Int32 → FT → GT → Prop} (hq : RetXi p l e R s m args below meth c K A Z a cX7_lawLetsBack Q) {kb : Int32 → Int32 → Int32 → Int32 → FT → GT → Prop} (hk : ∀ (x1 : Int32) (x2 : Int32) (x3 : Int32) (x4 : Int32) (F : FT) (G : GT) (H : Heap) (locs : List Loc) (ls : Array Slot), WD K A s (wX K a F G) H locs → lv_has ls 7 [(0, .ref (a 0)), (1, .int x1), (2, .int x2), (3, .int x3), (4, .int x4)] → kb x1 x2 x3 x4 F G → W p l e R s m args below meth c H locs 0 0 Z (F0 m 18 ls [])) (x1 : Int32) (x2 : Int32) (x3 : Int32) (x4 : Int32) (x5 : Int32) (s0 : Int32) (F : FT) (G : GT) {H : Heap} {locs : List Loc} (h : WD K A s (wX K a F G) H locs) {ls : Array Slot} (hl : lv_has ls 7 [(0, .ref (a 0)), (1, .int x1), (2, .int x2), (3, .int x3), (4, .int x4), (5, .int x5)]) (hw : wp_X7_lawLetsBack_88 Q kb x1 x2 x3 x4 x5 s0 F G) : W p l e R s m args below meth c H locs 0 0 Z (F0 m 88 ls [.int s0]) := by
  unfold wp_X7_lawLetsBack_88 at hw
  have hx := C.1
  have hb := C.2.1
  refine lv_istore (lv' := [(6, .int s0), (0, .ref (a 0)), (1, .int x1), (2, .int x2), (3, .int x3), (4, .int x4), (5, .int x5)]) hx hb dX7_lawLetsBack_88 hl (by decide) rfl (fun ls hl => ?_)
  refine lv_iload hx hb dX7_lawLetsBack_90 (lv_at hl 0 rfl) ?_
  refine lv_if_eq (tgt := 122) hx hb dX7_lawLetsBack_92 (by decide) (fun c => ?_) (fun c => ?_)
  · have hw := hw.1 c
    obtain ⟨v1, ev1⟩ : ∃ z : Int32, z = (x4 + 1) := ⟨_, rfl⟩
    have hw := hw v1 ev1
    refine lv_iinc (v := v1) (lv' := [(4, .int v1), (6, .int s0), (0, .ref (a 0)), (1, .int x1), (2, .int x2), (3, .int x3), (5, .int x5)]) hx hb dX7_lawLetsBack_122 hl (k := 5) rfl (by rw [ev1]; rfl) (by decide) rfl (fun ls hl => ?_)
    refine lv_goto (tgt := 18) hx hb dX7_lawLetsBack_125 (by decide) ?_
    exact hk x1 x2 x3 v1 F G _ _ _ h (lv_sub hl [2, 3, 4, 5, 0] rfl) hw
  · have hw := hw.2 c
    refine lv_iload_n hx hb dX7_lawLetsBack_95 rfl (lv_at hl 4 rfl) ?_
    refine lv_aload_n hx hb dX7_lawLetsBack_96 rfl (lv_at hl 1 rfl) ?_
    refine gX_7_26 C h dX7_lawLetsBack_97 ?_
    refine lv_aload_n hx hb dX7_lawLetsBack_100 rfl (lv_at hl 1 rfl) ?_
    refine gX_7_54 C h dX7_lawLetsBack_101 ?_
    refine gX_7_240 C h dX7_lawLetsBack_104 ?_
    refine lv_iload_n hx hb dX7_lawLetsBack_107 rfl (lv_at hl 3 rfl) ?_
    have hi := hw.1
    have hw := hw.2
    refine laX_28 C h hi dX7_lawLetsBack_108 ?_
    refine lv_iload hx hb dX7_lawLetsBack_109 (lv_at hl 6 rfl) ?_
    refine lv_iload hx hb dX7_lawLetsBack_111 (lv_at hl 5 rfl) ?_
    refine lv_iadd hx hb dX7_lawLetsBack_113 ?_
    refine kXiV C h (c_X2_number (G 28 x2.toNatClampNeg) (x5 + x4) F G hw) lk_7_107 (rvX_3 K a F G) rfl hl.1 rfl (Nat.le_of_ble_eq_true rfl) ⟨Nat.le_trans (Nat.le_of_ble_eq_true rfl) hR.1, Nat.le_trans (Nat.le_of_ble_eq_true rfl) hR.2⟩ ⟨Nat.zero_le _, Nat.zero_le _⟩ dX7_lawLetsBack_114 (fun r4 F2 G3 H locs hw h => ?_)
    refine lv_icmp_gt (tgt := 122) hx hb dX7_lawLetsBack_117 (by decide) (fun c => ?_) (fun c => ?_)
    · have hw := hw.1 c
      obtain ⟨v5, ev5⟩ : ∃ z : Int32, z = (x4 + 1) := ⟨_, rfl⟩
      have hw := hw v5 ev5
      refine lv_iinc (v := v5) (lv' := [(4, .int v5), (6, .int s0), (0, .ref (a 0)), (1, .int x1), (2, .int x2), (3, .int x3), (5, .int x5)]) hx hb dX7_lawLetsBack_122 hl (k := 5) rfl (by rw [ev5]; rfl) (by decide) rfl (fun ls hl => ?_)
      refine lv_goto (tgt := 18) hx hb dX7_lawLetsBack_125 (by decide) ?_
      exact hk x1 x2 x3 v5 F2 G3 _ _ _ h (lv_sub hl [2, 3, 4, 5, 0] rfl) hw
    · have hw := hw.2 c
      refine lv_iconst (v := (1 : Int32)) hx hb dX7_lawLetsBack_120 (by decide) ?_
      exact hq _ F2 G3 _ _ _ _ dX7_lawLetsBack_121 h hw
set_option maxHeartbeats 4000000 in
set_option maxRecDepth 100000 in
theorem wk_X7_lawLetsBack_87 {p : Program} {l : Launch} {e : Env} {R : Room} {s : State} {m : MethodId} {args : Array Value} {below : List Frame} {meth : Method} {c : Code} {K : KT} {A : Nat → Prop} {Z : State → Prop} {a : Nat → Nat} (hR : 1 ≤ R.frames ∧ 22 ≤ R.locals) (C : CX p s m args meth c K A cX7_lawLetsBack 7 RX7) {Q : Int32 → FT → GT → Prop} (hq : RetXi p l e R s m args below meth c K A Z a cX7_lawLetsBack Q) {kb : Int32 → Int32 → Int32 → Int32 → FT → GT → Prop} (hk : ∀ (x1 : Int32) (x2 : Int32) (x3 : Int32) (x4 : Int32) (F : FT) (G : GT) (H : Heap) (locs : List Loc) (ls : Array Slot), WD K A s (wX K a F G) H locs → lv_has ls 7 [(0, .ref (a 0)), (1, .int x1), (2, .int x2), (3, .int x3), (4, .int x4)] → kb x1 x2 x3 x4 F G → W p l e R s m args below meth c H locs 0 0 Z (F0 m 18 ls [])) (x1 : Int32) (x2 : Int32) (x3 : Int32) (x4 : Int32) (x5 : Int32) (F : FT) (G : GT) {H : Heap} {locs : List Loc} (h : WD K A s (wX K a F G) H locs) {ls : Array Slot} (hl : lv_has ls 7 [(0, .ref (a 0)), (1, .int x1), (2, .int x2), (3, .int x3), (4, .int x4), (5, .int x5)]) (hw : wp_X7_lawLetsBack_87 Q kb x1 x2 x3 x4 x5 F G) : W p l e R s m args below meth c H locs 0 0 Z (F0 m 87 ls []) := by
  unfold wp_X7_lawLetsBack_87 at hw
  have hx := C.1
  have hb := C.2.1
  refine lv_iconst (v := (0 : Int32)) hx hb dX7_lawLetsBack_87 (by decide) ?_
  exact wk_X7_lawLetsBack_88 hR C hq hk x1 x2 x3 x4 x5 (0 : Int32) F G h (lv_sub hl [0, 1, 2, 3, 4, 5] rfl) hw
set_option maxHeartbeats 4000000 in
set_option maxRecDepth 100000 in
theorem wk_X7_lawLetsBack_44 {p : Program} {l : Launch} {e : Env} {R : Room} {s : State} {m : MethodId} {args : Array Value} {below : List Frame} {meth : Method} {c : Code} {K : KT} {A : Nat → Prop} {Z : State → Prop} {a : Nat → Nat} (hR : 1 ≤ R.frames ∧ 22 ≤ R.locals) (C : CX p s m args meth c K A cX7_lawLetsBack 7 RX7) {Q : Int32 → FT → GT → Prop} (hq : RetXi p l e R s m args below meth c K A Z a cX7_lawLetsBack Q) {kb : Int32 → Int32 → Int32 → Int32 → FT → GT → Prop} (hk : ∀ (x1 : Int32) (x2 : Int32) (x3 : Int32) (x4 : Int32) (F : FT) (G : GT) (H : Heap) (locs : List Loc) (ls : Array Slot), WD K A s (wX K a F G) H locs → lv_has ls 7 [(0, .ref (a 0)), (1, .int x1), (2, .int x2), (3, .int x3), (4, .int x4)] → kb x1 x2 x3 x4 F G → W p l e R s m args below meth c H locs 0 0 Z (F0 m 18 ls [])) (x1 : Int32) (x2 : Int32) (x3 : Int32) (x4 : Int32) (s0 : Int32) (F : FT) (G : GT) {H : Heap} {locs : List Loc} (h : WD K A s (wX K a F G) H locs) {ls : Array Slot} (hl : lv_has ls 7 [(0, .ref (a 0)), (1, .int x1), (2, .int x2), (3, .int x3), (4, .int x4)]) (hw : wp_X7_lawLetsBack_44 Q kb x1 x2 x3 x4 s0 F G) : W p l e R s m args below meth c H locs 0 0 Z (F0 m 44 ls [.int s0]) := by
  unfold wp_X7_lawLetsBack_44 at hw
  have hx := C.1
  have hb := C.2.1
  refine lv_istore (lv' := [(5, .int s0), (0, .ref (a 0)), (1, .int x1), (2, .int x2), (3, .int x3), (4, .int x4)]) hx hb dX7_lawLetsBack_44 hl (by decide) rfl (fun ls hl => ?_)
  refine lv_aload_n hx hb dX7_lawLetsBack_46 rfl (lv_at hl 1 rfl) ?_
  refine gX_7_40 C h dX7_lawLetsBack_47 ?_
  refine lv_iload_n hx hb dX7_lawLetsBack_50 rfl (lv_at hl 2 rfl) ?_
  refine lv_iload hx hb dX7_lawLetsBack_51 (lv_at hl 5 rfl) ?_
  refine kXiV C h (c_X1_isFound x1 x4 F G hw) lk_7_173 (rvX_5 K a F G) rfl hl.1 rfl (Nat.le_of_ble_eq_true rfl) ⟨Nat.le_trans (Nat.le_of_ble_eq_true rfl) hR.1, Nat.le_trans (Nat.le_of_ble_eq_true rfl) hR.2⟩ ⟨Nat.zero_le _, Nat.zero_le _⟩ dX7_lawLetsBack_53 (fun r3 F1 G2 H locs hw h => ?_)
  have hw := hw.2
  refine lv_if_eq (tgt := 87) hx hb dX7_lawLetsBack_56 (by decide) (fun c => ?_) (fun c => ?_)
  · have hw := hw.1 c
    exact wk_X7_lawLetsBack_87 hR C hq hk x1 x2 x3 x4 s0 F1 G2 h (lv_sub hl [1, 2, 3, 4, 5, 0] rfl) hw
  · have hw := hw.2 c
    refine lv_aload_n hx hb dX7_lawLetsBack_59 rfl (lv_at hl 1 rfl) ?_
    refine gX_7_40 C h dX7_lawLetsBack_60 ?_
    refine gX_7_181 C h dX7_lawLetsBack_63 ?_
    refine lv_iload_n hx hb dX7_lawLetsBack_66 rfl (lv_at hl 2 rfl) ?_
    have hi4 := hw.1
    have hw := hw.2
    refine oX_45 C h hi4 dX7_lawLetsBack_67 ?_
    refine lv_iload hx hb dX7_lawLetsBack_68 (lv_at hl 5 rfl) ?_
    have hi := hw.1
    have hw := hw.2
    refine lr_200 C h (in_lt hi4) hi dX7_lawLetsBack_70 ?_
    refine lv_aload_n hx hb dX7_lawLetsBack_71 rfl (lv_at hl 1 rfl) ?_
    refine gX_7_54 C h dX7_lawLetsBack_72 ?_
    refine gX_7_243 C h dX7_lawLetsBack_75 ?_
    refine lv_iload_n hx hb dX7_lawLetsBack_78 rfl (lv_at hl 3 rfl) ?_
    have hi := hw.1
    have hw := hw.2
    refine laX_29 C h hi dX7_lawLetsBack_79 ?_
    refine lv_icmp_gt (tgt := 87) hx hb dX7_lawLetsBack_80 (by decide) (fun c => ?_) (fun c => ?_)
    · have hw := hw.1 c
      exact wk_X7_lawLetsBack_87 hR C hq hk x1 x2 x3 x4 s0 F1 G2 h (lv_sub hl [1, 2, 3, 4, 5, 0] rfl) hw
    · have hw := hw.2 c
      refine lv_iconst (v := (1 : Int32)) hx hb dX7_lawLetsBack_83 (by decide) ?_
      refine lv_goto (tgt := 88) hx hb dX7_lawLetsBack_84 (by decide) ?_
      exact wk_X7_lawLetsBack_88 hR C hq hk x1 x2 x3 x4 s0 (1 : Int32) F1 G2 h (lv_sub hl [1, 2, 3, 4, 5, 0] rfl) hw
set_option maxHeartbeats 4000000 in
set_option maxRecDepth 100000 in
theorem wk_X7_lawLetsBack_18 {p : Program} {l : Launch} {e : Env} {R : Room} {s : State} {m : MethodId} {args : Array Value} {below : List Frame} {meth : Method} {c : Code} {K : KT} {A : Nat → Prop} {Z : State → Prop} {a : Nat → Nat} (hR : 1 ≤ R.frames ∧ 22 ≤ R.locals) (C : CX p s m args meth c K A cX7_lawLetsBack 7 RX7) {Q : Int32 → FT → GT → Prop} (hq : RetXi p l e R s m args below meth c K A Z a cX7_lawLetsBack Q) : ∀ (n : Nat) (x1 : Int32) (x2 : Int32) (x3 : Int32) (x4 : Int32) (F : FT) (G : GT) {H : Heap} {locs : List Loc} (h : WD K A s (wX K a F G) H locs) {ls : Array Slot} (hl : lv_has ls 7 [(0, .ref (a 0)), (1, .int x1), (2, .int x2), (3, .int x3), (4, .int x4)]) (hw : wp_X7_lawLetsBack_18 Q n x1 x2 x3 x4 F G), W p l e R s m args below meth c H locs 0 0 Z (F0 m 18 ls []) := by
  intro n
  induction n with
  | zero => intro x1 x2 x3 x4 F G H locs h ls hl hw; exact False.elim hw
  | succ n ih =>
    intro x1 x2 x3 x4 F G H locs h ls hl hw
    rw [wp_X7_lawLetsBack_18] at hw
    have hx := C.1
    have hb := C.2.1
    refine lv_iload hx hb dX7_lawLetsBack_18 (lv_at hl 4 rfl) ?_
    refine lv_bipush (v := (6 : Int32)) hx hb dX7_lawLetsBack_20 (by decide) ?_
    refine lv_icmp_ge (tgt := 128) hx hb dX7_lawLetsBack_22 (by decide) (fun c => ?_) (fun c => ?_)
    · have hw := hw.1 c
      refine lv_iconst (v := (0 : Int32)) hx hb dX7_lawLetsBack_128 (by decide) ?_
      exact hq _ F G _ _ _ _ dX7_lawLetsBack_129 h hw
    · have hw := hw.2 c
      refine lv_aload_n hx hb dX7_lawLetsBack_25 rfl (lv_at hl 0 rfl) ?_
      refine gX_7_54 C h dX7_lawLetsBack_26 ?_
      refine lv_iload_n hx hb dX7_lawLetsBack_29 rfl (lv_at hl 2 rfl) ?_
      refine lv_iload hx hb dX7_lawLetsBack_30 (lv_at hl 4 rfl) ?_
      refine kXiV C h (c_X5_hasWarrant x2 x4 F G hw) lk_7_315 (rvX_7 K a F G) rfl hl.1 rfl (Nat.le_of_ble_eq_true rfl) ⟨Nat.le_trans (Nat.le_of_ble_eq_true rfl) hR.1, Nat.le_trans (Nat.le_of_ble_eq_true rfl) hR.2⟩ ⟨Nat.zero_le _, Nat.zero_le _⟩ dX7_lawLetsBack_32 (fun r3 F1 G2 H locs hw h => ?_)
      have hw := hw.2
      refine lv_if_eq (tgt := 43) hx hb dX7_lawLetsBack_35 (by decide) (fun c => ?_) (fun c => ?_)
      · have hw := hw.1 c
        refine lv_iconst (v := (2 : Int32)) hx hb dX7_lawLetsBack_43 (by decide) ?_
        exact wk_X7_lawLetsBack_44 hR C hq (fun x1 x2 x3 x4 F G H locs ls h hl hw => ih x1 x2 x3 x4 F G h hl hw) x1 x2 x3 x4 (2 : Int32) F1 G2 h (lv_sub hl [0, 1, 2, 3, 4] rfl) hw
      · have hw := hw.2 c
        refine lv_bipush (v := (8 : Int32)) hx hb dX7_lawLetsBack_38 (by decide) ?_
        refine lv_goto (tgt := 44) hx hb dX7_lawLetsBack_40 (by decide) ?_
        exact wk_X7_lawLetsBack_44 hR C hq (fun x1 x2 x3 x4 F G H locs ls h hl hw => ih x1 x2 x3 x4 F G h hl hw) x1 x2 x3 x4 (8 : Int32) F1 G2 h (lv_sub hl [0, 1, 2, 3, 4] rfl) hw
set_option maxHeartbeats 4000000 in
set_option maxRecDepth 100000 in
theorem wk_X7_lawLetsBack_0 {p : Program} {l : Launch} {e : Env} {R : Room} {s : State} {m : MethodId} {args : Array Value} {below : List Frame} {meth : Method} {c : Code} {K : KT} {A : Nat → Prop} {Z : State → Prop} {a : Nat → Nat} (hR : 1 ≤ R.frames ∧ 22 ≤ R.locals) (C : CX p s m args meth c K A cX7_lawLetsBack 7 RX7) {Q : Int32 → FT → GT → Prop} (hq : RetXi p l e R s m args below meth c K A Z a cX7_lawLetsBack Q) (x1 : Int32) (x2 : Int32) (F : FT) (G : GT) {H : Heap} {locs : List Loc} (h : WD K A s (wX K a F G) H locs) {ls : Array Slot} (hl : lv_has ls 7 [(0, .ref (a 0)), (1, .int x1), (2, .int x2)]) (hw : wp_X7_lawLetsBack_0 Q x1 x2 F G) : W p l e R s m args below meth c H locs 0 0 Z (F0 m 0 ls []) := by
  unfold wp_X7_lawLetsBack_0 at hw
  have hx := C.1
  have hb := C.2.1
  refine lv_aload_n hx hb dX7_lawLetsBack_0 rfl (lv_at hl 0 rfl) ?_
  refine gX_7_58 C h dX7_lawLetsBack_1 ?_
  refine lv_aload_n hx hb dX7_lawLetsBack_4 rfl (lv_at hl 0 rfl) ?_
  refine gX_7_54 C h dX7_lawLetsBack_5 ?_
  refine gX_7_243 C h dX7_lawLetsBack_8 ?_
  refine lv_iload_n hx hb dX7_lawLetsBack_11 rfl (lv_at hl 2 rfl) ?_
  have hi := hw.1
  have hw := hw.2
  refine laX_29 C h hi dX7_lawLetsBack_12 ?_
  refine lv_isub hx hb dX7_lawLetsBack_13 ?_
  refine lv_istore_n (lv' := [(3, .int ((F 0) - (G 29 x2.toNatClampNeg))), (0, .ref (a 0)), (1, .int x1), (2, .int x2)]) hx hb dX7_lawLetsBack_14 rfl hl (by decide) rfl (fun ls hl => ?_)
  refine lv_iconst (v := (0 : Int32)) hx hb dX7_lawLetsBack_15 (by decide) ?_
  refine lv_istore (lv' := [(4, .int (0 : Int32)), (3, .int ((F 0) - (G 29 x2.toNatClampNeg))), (0, .ref (a 0)), (1, .int x1), (2, .int x2)]) hx hb dX7_lawLetsBack_16 hl (by decide) rfl (fun ls hl => ?_)
  obtain ⟨n, hw⟩ := hw
  exact wk_X7_lawLetsBack_18 hR C hq n x1 x2 ((F 0) - (G 29 x2.toNatClampNeg)) (0 : Int32) F G h (lv_sub hl [2, 3, 4, 1, 0] rfl) hw
theorem c_X7_lawLetsBack {l : Launch} {K : KT} {a : Nat → Nat} (x1 : Int32) (x2 : Int32) (F : FT) (G : GT) {Q : Int32 → FT → GT → Prop} (hw : wp_X7_lawLetsBack x1 x2 F G Q) : CtXi l K a yX7_lawLetsBack cX7_lawLetsBack 7 (some .boolean) 1 22 [.ref (a 0), .int x1, .int x2] F G (fun r F G => (r = 0 ∨ r = 1) ∧ Q r F G) := fun sz => x_met (Qm := QmXi K a (fun r F G => (r = 0 ∨ r = 1) ∧ Q r F G)) (by decide) (Nat.le_of_ble_eq_true rfl) (fun p e s m below meth c A ls C hr h hl => wk_X7_lawLetsBack_0 ⟨Nat.le_refl _, Nat.le_refl _⟩ C (retX_z C hr (fun r F G hz => by rcases hz.1 with z | z <;> rw [z] <;> rfl)) x1 x2 F G h hl hw)
def wp_X4_due_0 (Q : FT → GT → Prop) (x1 : Int32) (x2 : Int32) (x3 : Int32) (F : FT) (G : GT) : Prop := vp_in x1 16 ∧ ∀ v1 : Int32, v1 = (if (G 11 x1.toNatClampNeg) < x3 then (G 11 x1.toNatClampNeg) else x3) → vp_in x1 16 ∧ vp_in x1 16 ∧ ∀ G2 : GT, G2 = gU G 11 (upd (G 11) x1.toNatClampNeg ((G 11 x1.toNatClampNeg) - v1)) → vp_in x2 16 ∧ vp_in x2 16 ∧ ∀ G3 : GT, G3 = gU G2 11 (upd (G2 11) x2.toNatClampNeg ((G2 11 x2.toNatClampNeg) + v1)) → ((x3 ≤ v1) → Q F G3) ∧ ((¬ x3 ≤ v1) → (((80 : Int32) ≤ (F 5)) → Q F G3) ∧ ((¬ (80 : Int32) ≤ (F 5)) → vp_in (F 5) 80 ∧ ∀ G4 : GT, G4 = gU G3 12 (upd (G3 12) (F 5).toNatClampNeg x1) → vp_in (F 5) 80 ∧ ∀ G5 : GT, G5 = gU G4 13 (upd (G4 13) (F 5).toNatClampNeg x2) → vp_in (F 5) 80 ∧ ∀ G6 : GT, G6 = gU G5 14 (upd (G5 14) (F 5).toNatClampNeg (x3 - v1)) → vp_in (F 5) 80 ∧ ∀ G7 : GT, G7 = gU G6 15 (upd (G6 15) (F 5).toNatClampNeg (x3 - v1)) → ∀ F8 : FT, F8 = sU F 5 ((F 5) + (1 : Int32)) → Q F8 G7))
def wp_X4_due (x1 : Int32) (x2 : Int32) (x3 : Int32) (F : FT) (G : GT) (Q : FT → GT → Prop) : Prop := wp_X4_due_0 Q x1 x2 x3 F G
set_option maxHeartbeats 4000000 in
set_option maxRecDepth 100000 in
theorem wk_X4_due_0 {p : Program} {l : Launch} {e : Env} {R : Room} {s : State} {m : MethodId} {args : Array Value} {below : List Frame} {meth : Method} {c : Code} {K : KT} {A : Nat → Prop} {Z : State → Prop} {a : Nat → Nat} (hR : 1 ≤ R.frames ∧ 21 ≤ R.locals) (C : CX p s m args meth c K A cX4_due 5 RX4) {Q : FT → GT → Prop} (hq : RetXv p l e R s m args below meth c K A Z a cX4_due Q) (x1 : Int32) (x2 : Int32) (x3 : Int32) (F : FT) (G : GT) {H : Heap} {locs : List Loc} (h : WD K A s (wX K a F G) H locs) {ls : Array Slot} (hl : lv_has ls 5 [(0, .ref (a 4)), (1, .int x1), (2, .int x2), (3, .int x3)]) (hw : wp_X4_due_0 Q x1 x2 x3 F G) : W p l e R s m args below meth c H locs 0 0 Z (F0 m 0 ls []) := by
  unfold wp_X4_due_0 at hw
  have hx := C.1
  have hb := C.2.1
  refine lv_iload_n hx hb dX4_due_0 rfl (lv_at hl 3 rfl) ?_
  refine lv_aload_n hx hb dX4_due_1 rfl (lv_at hl 0 rfl) ?_
  refine gX_4_9 C h dX4_due_2 ?_
  refine lv_iload_n hx hb dX4_due_5 rfl (lv_at hl 1 rfl) ?_
  have hi := hw.1
  have hw := hw.2
  refine laX_11 C h hi dX4_due_6 ?_
  refine x_mmin C hl.1 lk_4_51 (Nat.le_of_ble_eq_true rfl) ⟨Nat.le_trans (Nat.le_of_ble_eq_true rfl) hR.1, Nat.le_trans (Nat.le_of_ble_eq_true rfl) hR.2⟩ ⟨Nat.zero_le _, Nat.zero_le _⟩ dX4_due_7 ?_
  refine lv_topi (fun v1 ev1 => ?_)
  have hw := hw v1 ev1
  refine lv_istore (lv' := [(4, .int v1), (0, .ref (a 4)), (1, .int x1), (2, .int x2), (3, .int x3)]) hx hb dX4_due_10 hl (by decide) rfl (fun ls hl => ?_)
  refine lv_aload_n hx hb dX4_due_12 rfl (lv_at hl 1 rfl) ?_
  refine gX_4_9 C h dX4_due_13 ?_
  refine lv_iload_n hx hb dX4_due_16 rfl (lv_at hl 2 rfl) ?_
  refine lv_dup2_11 hx hb dX4_due_17 rfl rfl ?_
  have hi := hw.1
  have hw := hw.2
  refine laX_11 C h hi dX4_due_18 ?_
  refine lv_iload hx hb dX4_due_19 (lv_at hl 0 rfl) ?_
  refine lv_isub hx hb dX4_due_21 ?_
  have hi := hw.1
  have hw := hw.2
  refine saX_11 C h hi dX4_due_22 (fun G2 H locs eG2 h => ?_)
  have hw := hw G2 eG2
  refine lv_aload_n hx hb dX4_due_23 rfl (lv_at hl 1 rfl) ?_
  refine gX_4_9 C h dX4_due_24 ?_
  refine lv_iload_n hx hb dX4_due_27 rfl (lv_at hl 3 rfl) ?_
  refine lv_dup2_11 hx hb dX4_due_28 rfl rfl ?_
  have hi := hw.1
  have hw := hw.2
  refine laX_11 C h hi dX4_due_29 ?_
  refine lv_iload hx hb dX4_due_30 (lv_at hl 0 rfl) ?_
  refine lv_iadd hx hb dX4_due_32 ?_
  have hi := hw.1
  have hw := hw.2
  refine saX_11 C h hi dX4_due_33 (fun G3 H locs eG3 h => ?_)
  have hw := hw G3 eG3
  refine lv_iload hx hb dX4_due_34 (lv_at hl 0 rfl) ?_
  refine lv_iload_n hx hb dX4_due_36 rfl (lv_at hl 4 rfl) ?_
  refine lv_icmp_ge (tgt := 105) hx hb dX4_due_37 (by decide) (fun c => ?_) (fun c => ?_)
  · have hw := hw.1 c
    exact hq F G3 _ _ _ _ dX4_due_105 h hw
  · have hw := hw.2 c
    refine lv_aload_n hx hb dX4_due_40 rfl (lv_at hl 1 rfl) ?_
    refine gX_4_34 C h dX4_due_41 ?_
    refine lv_bipush (v := (80 : Int32)) hx hb dX4_due_44 (by decide) ?_
    refine lv_icmp_ge (tgt := 105) hx hb dX4_due_46 (by decide) (fun c => ?_) (fun c => ?_)
    · have hw := hw.1 c
      exact hq F G3 _ _ _ _ dX4_due_105 h hw
    · have hw := hw.2 c
      refine lv_aload_n hx hb dX4_due_49 rfl (lv_at hl 1 rfl) ?_
      refine gX_4_22 C h dX4_due_50 ?_
      refine lv_aload_n hx hb dX4_due_53 rfl (lv_at hl 1 rfl) ?_
      refine gX_4_34 C h dX4_due_54 ?_
      refine lv_iload_n hx hb dX4_due_57 rfl (lv_at hl 2 rfl) ?_
      have hi := hw.1
      have hw := hw.2
      refine saX_12 C h hi dX4_due_58 (fun G4 H locs eG4 h => ?_)
      have hw := hw G4 eG4
      refine lv_aload_n hx hb dX4_due_59 rfl (lv_at hl 1 rfl) ?_
      refine gX_4_25 C h dX4_due_60 ?_
      refine lv_aload_n hx hb dX4_due_63 rfl (lv_at hl 1 rfl) ?_
      refine gX_4_34 C h dX4_due_64 ?_
      refine lv_iload_n hx hb dX4_due_67 rfl (lv_at hl 3 rfl) ?_
      have hi := hw.1
      have hw := hw.2
      refine saX_13 C h hi dX4_due_68 (fun G5 H locs eG5 h => ?_)
      have hw := hw G5 eG5
      refine lv_aload_n hx hb dX4_due_69 rfl (lv_at hl 1 rfl) ?_
      refine gX_4_28 C h dX4_due_70 ?_
      refine lv_aload_n hx hb dX4_due_73 rfl (lv_at hl 1 rfl) ?_
      refine gX_4_34 C h dX4_due_74 ?_
      refine lv_iload_n hx hb dX4_due_77 rfl (lv_at hl 4 rfl) ?_
      refine lv_iload hx hb dX4_due_78 (lv_at hl 0 rfl) ?_
      refine lv_isub hx hb dX4_due_80 ?_
      have hi := hw.1
      have hw := hw.2
      refine saX_14 C h hi dX4_due_81 (fun G6 H locs eG6 h => ?_)
      have hw := hw G6 eG6
      refine lv_aload_n hx hb dX4_due_82 rfl (lv_at hl 1 rfl) ?_
      refine gX_4_31 C h dX4_due_83 ?_
      refine lv_aload_n hx hb dX4_due_86 rfl (lv_at hl 1 rfl) ?_
      refine gX_4_34 C h dX4_due_87 ?_
      refine lv_iload_n hx hb dX4_due_90 rfl (lv_at hl 4 rfl) ?_
      refine lv_iload hx hb dX4_due_91 (lv_at hl 0 rfl) ?_
      refine lv_isub hx hb dX4_due_93 ?_
      have hi := hw.1
      have hw := hw.2
      refine saX_15 C h hi dX4_due_94 (fun G7 H locs eG7 h => ?_)
      have hw := hw G7 eG7
      refine lv_aload_n hx hb dX4_due_95 rfl (lv_at hl 1 rfl) ?_
      refine lv_dup hx hb dX4_due_96 rfl ?_
      refine gX_4_34 C h dX4_due_97 ?_
      refine lv_iconst (v := (1 : Int32)) hx hb dX4_due_100 (by decide) ?_
      refine lv_iadd hx hb dX4_due_101 ?_
      refine pX_4_34 C h dX4_due_102 (fun F8 H locs eF8 h => ?_)
      have hw := hw F8 eF8
      exact hq F8 G7 _ _ _ _ dX4_due_105 h hw
theorem c_X4_due {l : Launch} {K : KT} {a : Nat → Nat} (x1 : Int32) (x2 : Int32) (x3 : Int32) (F : FT) (G : GT) {Q : FT → GT → Prop} (hw : wp_X4_due x1 x2 x3 F G Q) : CtXv l K a yX4_due cX4_due 5 none 1 21 [.ref (a 4), .int x1, .int x2, .int x3] F G Q := fun sz => x_met (Qm := QmXv K a Q) (by decide) (Nat.le_of_ble_eq_true rfl) (fun p e s m below meth c A ls C hr h hl => wk_X4_due_0 ⟨Nat.le_refl _, Nat.le_refl _⟩ C (retX_v C hr) x1 x2 x3 F G h hl hw)
def wp_X7_undo_0 (Q : FT → GT → Prop) (x1 : Int32) (F : FT) (G : GT) : Prop := vp_in x1 80 ∧ ∀ G1 : GT, G1 = gU G 30 (upd (G 30) x1.toNatClampNeg (vp_nar .boolean (1 : Int32))) → vp_in x1 80 ∧ vp_in x1 80 ∧ vp_in x1 80 ∧ wp_X4_due (G1 24 x1.toNatClampNeg) (G1 25 x1.toNatClampNeg) (G1 26 x1.toNatClampNeg) F G1 (fun F2 G3 => wp_X4_settle F2 G3 (fun F4 G5 => Q F4 G5))
def wp_X7_undo (x1 : Int32) (F : FT) (G : GT) (Q : FT → GT → Prop) : Prop := wp_X7_undo_0 Q x1 F G
set_option maxHeartbeats 4000000 in
set_option maxRecDepth 100000 in
theorem wk_X7_undo_0 {p : Program} {l : Launch} {e : Env} {R : Room} {s : State} {m : MethodId} {args : Array Value} {below : List Frame} {meth : Method} {c : Code} {K : KT} {A : Nat → Prop} {Z : State → Prop} {a : Nat → Nat} (hR : 3 ≤ R.frames ∧ 65 ≤ R.locals) (C : CX p s m args meth c K A cX7_undo 2 RX7) {Q : FT → GT → Prop} (hq : RetXv p l e R s m args below meth c K A Z a cX7_undo Q) (x1 : Int32) (F : FT) (G : GT) {H : Heap} {locs : List Loc} (h : WD K A s (wX K a F G) H locs) {ls : Array Slot} (hl : lv_has ls 2 [(0, .ref (a 0)), (1, .int x1)]) (hw : wp_X7_undo_0 Q x1 F G) : W p l e R s m args below meth c H locs 0 0 Z (F0 m 0 ls []) := by
  unfold wp_X7_undo_0 at hw
  have hx := C.1
  have hb := C.2.1
  refine lv_aload_n hx hb dX7_undo_0 rfl (lv_at hl 0 rfl) ?_
  refine gX_7_54 C h dX7_undo_1 ?_
  refine gX_7_246 C h dX7_undo_4 ?_
  refine lv_iload_n hx hb dX7_undo_7 rfl (lv_at hl 1 rfl) ?_
  refine lv_iconst (v := (1 : Int32)) hx hb dX7_undo_8 (by decide) ?_
  have hi := hw.1
  have hw := hw.2
  refine saX_30 C h hi dX7_undo_9 (fun G1 H locs eG1 h => ?_)
  have hw := hw G1 eG1
  refine lv_aload_n hx hb dX7_undo_10 rfl (lv_at hl 0 rfl) ?_
  refine gX_7_33 C h dX7_undo_11 ?_
  refine lv_aload_n hx hb dX7_undo_14 rfl (lv_at hl 0 rfl) ?_
  refine gX_7_54 C h dX7_undo_15 ?_
  refine gX_7_228 C h dX7_undo_18 ?_
  refine lv_iload_n hx hb dX7_undo_21 rfl (lv_at hl 1 rfl) ?_
  have hi := hw.1
  have hw := hw.2
  refine laX_24 C h hi dX7_undo_22 ?_
  refine lv_aload_n hx hb dX7_undo_23 rfl (lv_at hl 0 rfl) ?_
  refine gX_7_54 C h dX7_undo_24 ?_
  refine gX_7_231 C h dX7_undo_27 ?_
  refine lv_iload_n hx hb dX7_undo_30 rfl (lv_at hl 1 rfl) ?_
  have hi := hw.1
  have hw := hw.2
  refine laX_25 C h hi dX7_undo_31 ?_
  refine lv_aload_n hx hb dX7_undo_32 rfl (lv_at hl 0 rfl) ?_
  refine gX_7_54 C h dX7_undo_33 ?_
  refine gX_7_234 C h dX7_undo_36 ?_
  refine lv_iload_n hx hb dX7_undo_39 rfl (lv_at hl 1 rfl) ?_
  have hi := hw.1
  have hw := hw.2
  refine laX_26 C h hi dX7_undo_40 ?_
  refine kXvV C h (c_X4_due (G1 24 x1.toNatClampNeg) (G1 25 x1.toNatClampNeg) (G1 26 x1.toNatClampNeg) F G1 hw) lk_7_302 (rvX_4 K a F G1) rfl hl.1 rfl (Nat.le_of_ble_eq_true rfl) ⟨Nat.le_trans (Nat.le_of_ble_eq_true rfl) hR.1, Nat.le_trans (Nat.le_of_ble_eq_true rfl) hR.2⟩ ⟨Nat.zero_le _, Nat.zero_le _⟩ dX7_undo_41 (fun F2 G3 H locs hw h => ?_)
  refine lv_aload_n hx hb dX7_undo_44 rfl (lv_at hl 0 rfl) ?_
  refine gX_7_33 C h dX7_undo_45 ?_
  refine kXvV C h (c_X4_settle F2 G3 hw) lk_7_129 (rvX_4 K a F2 G3) rfl hl.1 rfl (Nat.le_of_ble_eq_true rfl) ⟨Nat.le_trans (Nat.le_of_ble_eq_true rfl) hR.1, Nat.le_trans (Nat.le_of_ble_eq_true rfl) hR.2⟩ ⟨Nat.zero_le _, Nat.zero_le _⟩ dX7_undo_48 (fun F4 G5 H locs hw h => ?_)
  exact hq F4 G5 _ _ _ _ dX7_undo_51 h hw
theorem c_X7_undo {l : Launch} {K : KT} {a : Nat → Nat} (x1 : Int32) (F : FT) (G : GT) {Q : FT → GT → Prop} (hw : wp_X7_undo x1 F G Q) : CtXv l K a yX7_undo cX7_undo 2 none 3 65 [.ref (a 0), .int x1] F G Q := fun sz => x_met (Qm := QmXv K a Q) (by decide) (Nat.le_of_ble_eq_true rfl) (fun p e s m below meth c A ls C hr h hl => wk_X7_undo_0 ⟨Nat.le_refl _, Nat.le_refl _⟩ C (retX_v C hr) x1 F G h hl hw)
