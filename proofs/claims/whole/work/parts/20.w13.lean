def wp_X8_debt_21 (Q : Int32 → FT → GT → Int64 → Prop) (F : FT) (G : GT) (w : Int64) : Prop := wp_X8_refuse F G w (fun r4 F1 G2 w3 => Q r4 F1 G2 w3)
def wp_X8_debt_0 (Q : Int32 → FT → GT → Int64 → Prop) (x1 : Int32) (x2 : Int32) (F : FT) (G : GT) (w : Int64) : Prop := ((x1 < 0) → wp_X8_debt_21 Q F G w) ∧ ((¬ x1 < 0) → (((F 5) ≤ x1) → wp_X8_debt_21 Q F G w) ∧ ((¬ (F 5) ≤ x1) → ((x2 < 0) → wp_X8_debt_21 Q F G w) ∧ ((¬ x2 < 0) → ((x2 ≤ (3 : Int32)) → ∀ F1 : FT, F1 = sU F 20 (0 : Int32) → ((¬ x2 = 0) → ((¬ x2 = (1 : Int32)) → ((¬ x2 = (2 : Int32)) → vp_in x1 80 ∧ Q (G 15 x1.toNatClampNeg) F1 G w) ∧ ((x2 = (2 : Int32)) → vp_in x1 80 ∧ Q (G 14 x1.toNatClampNeg) F1 G w)) ∧ ((x2 = (1 : Int32)) → vp_in x1 80 ∧ Q (G 13 x1.toNatClampNeg) F1 G w)) ∧ ((x2 = 0) → vp_in x1 80 ∧ Q (G 12 x1.toNatClampNeg) F1 G w)) ∧ ((¬ x2 ≤ (3 : Int32)) → wp_X8_debt_21 Q F G w))))
def wp_X8_debt (x1 : Int32) (x2 : Int32) (F : FT) (G : GT) (w : Int64) (Q : Int32 → FT → GT → Int64 → Prop) : Prop := wp_X8_debt_0 Q x1 x2 F G w
set_option maxHeartbeats 4000000 in
set_option maxRecDepth 100000 in
theorem wk_X8_debt_21 {p : Program} {l : Launch} {e : Env} {R : Room} {s : State} {m : MethodId} {args : Array Value} {below : List Frame} {meth : Method} {c : Code} {K : KT} {A : Nat → Prop} {Z : State → Prop} {a : Nat → Nat} (hR : 1 ≤ R.frames ∧ 20 ≤ R.locals) (C : CX p s m args meth c K A cX8_debt 3 RX8) {Q : Int32 → FT → GT → Int64 → Prop} (hq : RetMi p l e R s m args below meth c K A Z a cX8_debt Q) (F : FT) (G : GT) (w : Int64) {H : Heap} {locs : List Loc} (h : WD K A s (wM K a F G w) H locs) {ls : Array Slot} (hl : lv_has ls 3 [(0, .ref (a 0))]) (hw : wp_X8_debt_21 Q F G w) : W p l e R s m args below meth c H locs 0 0 Z (F0 m 21 ls []) := by
  unfold wp_X8_debt_21 at hw
  have hx := C.1
  have hb := C.2.1
  refine lv_aload_n hx hb dX8_debt_21 rfl (lv_at hl 0 rfl) ?_
  refine kMiV C h (c_X8_refuse F G w hw) lk_8_167 (rvM_0 K a F G w) rfl hl.1 rfl (Nat.le_of_ble_eq_true rfl) ⟨Nat.le_trans (Nat.le_of_ble_eq_true rfl) hR.1, Nat.le_trans (Nat.le_of_ble_eq_true rfl) hR.2⟩ ⟨Nat.zero_le _, Nat.zero_le _⟩ dX8_debt_22 (fun r4 F1 G2 w3 H locs hw h => ?_)
  exact hq _ F1 G2 w3 _ _ _ _ dX8_debt_25 h hw
set_option maxHeartbeats 4000000 in
set_option maxRecDepth 100000 in
theorem wk_X8_debt_0 {p : Program} {l : Launch} {e : Env} {R : Room} {s : State} {m : MethodId} {args : Array Value} {below : List Frame} {meth : Method} {c : Code} {K : KT} {A : Nat → Prop} {Z : State → Prop} {a : Nat → Nat} (hR : 1 ≤ R.frames ∧ 20 ≤ R.locals) (C : CX p s m args meth c K A cX8_debt 3 RX8) {Q : Int32 → FT → GT → Int64 → Prop} (hq : RetMi p l e R s m args below meth c K A Z a cX8_debt Q) (x1 : Int32) (x2 : Int32) (F : FT) (G : GT) (w : Int64) {H : Heap} {locs : List Loc} (h : WD K A s (wM K a F G w) H locs) {ls : Array Slot} (hl : lv_has ls 3 [(0, .ref (a 0)), (1, .int x1), (2, .int x2)]) (hw : wp_X8_debt_0 Q x1 x2 F G w) : W p l e R s m args below meth c H locs 0 0 Z (F0 m 0 ls []) := by
  unfold wp_X8_debt_0 at hw
  have hx := C.1
  have hb := C.2.1
  refine lv_iload_n hx hb dX8_debt_0 rfl (lv_at hl 1 rfl) ?_
  refine lv_if_lt (tgt := 21) hx hb dX8_debt_1 (by decide) (fun c => ?_) (fun c => ?_)
  · have hw := hw.1 c
    exact wk_X8_debt_21 hR C hq F G w h (lv_sub hl [0] rfl) hw
  · have hw := hw.2 c
    refine lv_iload_n hx hb dX8_debt_4 rfl (lv_at hl 1 rfl) ?_
    refine lv_aload_n hx hb dX8_debt_5 rfl (lv_at hl 0 rfl) ?_
    refine gM_8_189 C h dX8_debt_6 ?_
    refine lv_icmp_ge (tgt := 21) hx hb dX8_debt_9 (by decide) (fun c => ?_) (fun c => ?_)
    · have hw := hw.1 c
      exact wk_X8_debt_21 hR C hq F G w h (lv_sub hl [0] rfl) hw
    · have hw := hw.2 c
      refine lv_iload_n hx hb dX8_debt_12 rfl (lv_at hl 2 rfl) ?_
      refine lv_if_lt (tgt := 21) hx hb dX8_debt_13 (by decide) (fun c => ?_) (fun c => ?_)
      · have hw := hw.1 c
        exact wk_X8_debt_21 hR C hq F G w h (lv_sub hl [0] rfl) hw
      · have hw := hw.2 c
        refine lv_iload_n hx hb dX8_debt_16 rfl (lv_at hl 2 rfl) ?_
        refine lv_iconst (v := (3 : Int32)) hx hb dX8_debt_17 (by decide) ?_
        refine lv_icmp_le (tgt := 26) hx hb dX8_debt_18 (by decide) (fun c => ?_) (fun c => ?_)
        · have hw := hw.1 c
          refine lv_aload_n hx hb dX8_debt_26 rfl (lv_at hl 0 rfl) ?_
          refine lv_iconst (v := (0 : Int32)) hx hb dX8_debt_27 (by decide) ?_
          refine pM_8_89 C h dX8_debt_28 (fun F1 H locs eF1 h => ?_)
          have hw := hw F1 eF1
          refine lv_iload_n hx hb dX8_debt_31 rfl (lv_at hl 2 rfl) ?_
          refine lv_if_ne (tgt := 44) hx hb dX8_debt_32 (by decide) (fun c => ?_) (fun c => ?_)
          · have hw := hw.1 c
            refine lv_iload_n hx hb dX8_debt_44 rfl (lv_at hl 2 rfl) ?_
            refine lv_iconst (v := (1 : Int32)) hx hb dX8_debt_45 (by decide) ?_
            refine lv_icmp_ne (tgt := 58) hx hb dX8_debt_46 (by decide) (fun c => ?_) (fun c => ?_)
            · have hw := hw.1 c
              refine lv_iload_n hx hb dX8_debt_58 rfl (lv_at hl 2 rfl) ?_
              refine lv_iconst (v := (2 : Int32)) hx hb dX8_debt_59 (by decide) ?_
              refine lv_icmp_ne (tgt := 72) hx hb dX8_debt_60 (by decide) (fun c => ?_) (fun c => ?_)
              · have hw := hw.1 c
                refine lv_aload_n hx hb dX8_debt_72 rfl (lv_at hl 0 rfl) ?_
                refine gM_8_31 C h dX8_debt_73 ?_
                refine lv_iload_n hx hb dX8_debt_76 rfl (lv_at hl 1 rfl) ?_
                have hi := hw.1
                have hw := hw.2
                refine laM_15 C h hi dX8_debt_77 ?_
                exact hq _ F1 G w _ _ _ _ dX8_debt_78 h hw
              · have hw := hw.2 c
                refine lv_aload_n hx hb dX8_debt_63 rfl (lv_at hl 0 rfl) ?_
                refine gM_8_28 C h dX8_debt_64 ?_
                refine lv_iload_n hx hb dX8_debt_67 rfl (lv_at hl 1 rfl) ?_
                have hi := hw.1
                have hw := hw.2
                refine laM_14 C h hi dX8_debt_68 ?_
                refine lv_goto (tgt := 78) hx hb dX8_debt_69 (by decide) ?_
                exact hq _ F1 G w _ _ _ _ dX8_debt_78 h hw
            · have hw := hw.2 c
              refine lv_aload_n hx hb dX8_debt_49 rfl (lv_at hl 0 rfl) ?_
              refine gM_8_25 C h dX8_debt_50 ?_
              refine lv_iload_n hx hb dX8_debt_53 rfl (lv_at hl 1 rfl) ?_
              have hi := hw.1
              have hw := hw.2
              refine laM_13 C h hi dX8_debt_54 ?_
              refine lv_goto (tgt := 78) hx hb dX8_debt_55 (by decide) ?_
              exact hq _ F1 G w _ _ _ _ dX8_debt_78 h hw
          · have hw := hw.2 c
            refine lv_aload_n hx hb dX8_debt_35 rfl (lv_at hl 0 rfl) ?_
            refine gM_8_22 C h dX8_debt_36 ?_
            refine lv_iload_n hx hb dX8_debt_39 rfl (lv_at hl 1 rfl) ?_
            have hi := hw.1
            have hw := hw.2
            refine laM_12 C h hi dX8_debt_40 ?_
            refine lv_goto (tgt := 78) hx hb dX8_debt_41 (by decide) ?_
            exact hq _ F1 G w _ _ _ _ dX8_debt_78 h hw
        · have hw := hw.2 c
          exact wk_X8_debt_21 hR C hq F G w h (lv_sub hl [0] rfl) hw
theorem c_X8_debt {l : Launch} {K : KT} {a : Nat → Nat} (x1 : Int32) (x2 : Int32) (F : FT) (G : GT) (w : Int64) {Q : Int32 → FT → GT → Int64 → Prop} (hw : wp_X8_debt x1 x2 F G w Q) : CtMi l K a yX8_debt cX8_debt 3 (some .int) 1 20 [.ref (a 0), .int x1, .int x2] F G w Q := fun sz => x_met (Qm := QmMi K a Q) (by decide) (Nat.le_of_ble_eq_true rfl) (fun p e s m below meth c A ls C hr h hl => wk_X8_debt_0 ⟨Nat.le_refl _, Nat.le_refl _⟩ C (retM_z C hr (fun r F G w _ => rfl)) x1 x2 F G w h hl hw)
def wp_X8_hand_30 (Q : Int32 → FT → GT → Int64 → Prop) (F : FT) (G : GT) (w : Int64) : Prop := wp_X8_refuse F G w (fun r4 F1 G2 w3 => Q r4 F1 G2 w3)
def wp_X8_hand_63 (Q : Int32 → FT → GT → Int64 → Prop) (kb : Int32 → Int32 → Int32 → Int32 → Int32 → FT → GT → Int64 → Prop) (x1 : Int32) (x2 : Int32) (x3 : Int32) (x4 : Int32) (x5 : Int32) (F : FT) (G : GT) (w : Int64) : Prop := vp_in x5 400 ∧ ((¬ (G 19 x5.toNatClampNeg) = x1) → ∀ v1 : Int32, v1 = (x5 + 1) → kb x1 x2 x3 x4 v1 F G w) ∧ (((G 19 x5.toNatClampNeg) = x1) → ∀ v2 : Int32, v2 = (x4 + 1) → ∀ v3 : Int32, v3 = (x5 + 1) → kb x1 x2 x3 v2 v3 F G w)
def wp_X8_hand_46 (Q : Int32 → FT → GT → Int64 → Prop) : Nat → Int32 → Int32 → Int32 → Int32 → Int32 → FT → GT → Int64 → Prop
  | 0, _, _, _, _, _, _, _, _ => False
  | n + 1, x1, x2, x3, x4, x5, F, G, w => vp_in x5 400 ∧ ((¬ (G 19 x5.toNatClampNeg) = x1) → wp_X8_hand_63 Q (fun x1 x2 x3 x4 x5 F G w => wp_X8_hand_46 Q n x1 x2 x3 x4 x5 F G w) x1 x2 x3 x4 x5 F G w) ∧ (((G 19 x5.toNatClampNeg) = x1) → ((x2 ≤ x4) → ((¬ x3 = 0) → ((¬ x3 = (1 : Int32)) → vp_in x5 400 ∧ Q (G 22 x5.toNatClampNeg) F G w) ∧ ((x3 = (1 : Int32)) → vp_in x5 400 ∧ Q (G 21 x5.toNatClampNeg) F G w)) ∧ ((x3 = 0) → vp_in x5 400 ∧ Q (G 20 x5.toNatClampNeg) F G w)) ∧ ((¬ x2 ≤ x4) → wp_X8_hand_63 Q (fun x1 x2 x3 x4 x5 F G w => wp_X8_hand_46 Q n x1 x2 x3 x4 x5 F G w) x1 x2 x3 x4 x5 F G w))
def wp_X8_hand_0 (Q : Int32 → FT → GT → Int64 → Prop) (x1 : Int32) (x2 : Int32) (x3 : Int32) (F : FT) (G : GT) (w : Int64) : Prop := wp_X8_isHorse x1 F G w (fun r4 F1 G2 w3 => ((r4 = 0) → wp_X8_hand_30 Q F1 G2 w3) ∧ ((¬ r4 = 0) → ((x2 < 0) → wp_X8_hand_30 Q F1 G2 w3) ∧ ((¬ x2 < 0) → wp_X8_handsOf x1 F1 G2 w3 (fun r8 F5 G6 w7 => ((r8 ≤ x2) → wp_X8_hand_30 Q F5 G6 w7) ∧ ((¬ r8 ≤ x2) → ((x3 < 0) → wp_X8_hand_30 Q F5 G6 w7) ∧ ((¬ x3 < 0) → ((x3 ≤ (2 : Int32)) → ∀ F9 : FT, F9 = sU F5 20 (0 : Int32) → ∃ n : Nat, wp_X8_hand_46 Q n x1 x2 x3 (0 : Int32) (0 : Int32) F9 G6 w7) ∧ ((¬ x3 ≤ (2 : Int32)) → wp_X8_hand_30 Q F5 G6 w7)))))))
def wp_X8_hand (x1 : Int32) (x2 : Int32) (x3 : Int32) (F : FT) (G : GT) (w : Int64) (Q : Int32 → FT → GT → Int64 → Prop) : Prop := wp_X8_hand_0 Q x1 x2 x3 F G w
set_option maxHeartbeats 4000000 in
set_option maxRecDepth 100000 in
theorem wk_X8_hand_30 {p : Program} {l : Launch} {e : Env} {R : Room} {s : State} {m : MethodId} {args : Array Value} {below : List Frame} {meth : Method} {c : Code} {K : KT} {A : Nat → Prop} {Z : State → Prop} {a : Nat → Nat} (hR : 1 ≤ R.frames ∧ 23 ≤ R.locals) (C : CX p s m args meth c K A cX8_hand 6 RX8) {Q : Int32 → FT → GT → Int64 → Prop} (hq : RetMi p l e R s m args below meth c K A Z a cX8_hand Q) (F : FT) (G : GT) (w : Int64) {H : Heap} {locs : List Loc} (h : WD K A s (wM K a F G w) H locs) {ls : Array Slot} (hl : lv_has ls 6 [(0, .ref (a 0))]) (hw : wp_X8_hand_30 Q F G w) : W p l e R s m args below meth c H locs 0 0 Z (F0 m 30 ls []) := by
  unfold wp_X8_hand_30 at hw
  have hx := C.1
  have hb := C.2.1
  refine lv_aload_n hx hb dX8_hand_30 rfl (lv_at hl 0 rfl) ?_
  refine kMiV C h (c_X8_refuse F G w hw) lk_8_167 (rvM_0 K a F G w) rfl hl.1 rfl (Nat.le_of_ble_eq_true rfl) ⟨Nat.le_trans (Nat.le_of_ble_eq_true rfl) hR.1, Nat.le_trans (Nat.le_of_ble_eq_true rfl) hR.2⟩ ⟨Nat.zero_le _, Nat.zero_le _⟩ dX8_hand_31 (fun r4 F1 G2 w3 H locs hw h => ?_)
  exact hq _ F1 G2 w3 _ _ _ _ dX8_hand_34 h hw
set_option maxHeartbeats 4000000 in
set_option maxRecDepth 100000 in
theorem wk_X8_hand_63 {p : Program} {l : Launch} {e : Env} {R : Room} {s : State} {m : MethodId} {args : Array Value} {below : List Frame} {meth : Method} {c : Code} {K : KT} {A : Nat → Prop} {Z : State → Prop} {a : Nat → Nat} (hR : 1 ≤ R.frames ∧ 23 ≤ R.locals) (C : CX p s m args meth c K A cX8_hand 6 RX8) {Q : Int32 → FT → GT → Int64 → Prop} (hq : RetMi p l e R s m args below meth c K A Z a cX8_hand Q) {kb : Int32 → Int32 → Int32 → Int32 → Int32 → FT → GT → Int64 → Prop} (hk : ∀ (x1 : Int32) (x2 : Int32) (x3 : Int32) (x4 : Int32) (x5 : Int32) (F : FT) (G : GT) (w : Int64) (H : Heap) (locs : List Loc) (ls : Array Slot), WD K A s (wM K a F G w) H locs → lv_has ls 6 [(0, .ref (a 0)), (1, .int x1), (2, .int x2), (3, .int x3), (4, .int x4), (5, .int x5)] → kb x1 x2 x3 x4 x5 F G w → W p l e R s m args below meth c H locs 0 0 Z (F0 m 46 ls [])) (x1 : Int32) (x2 : Int32) (x3 : Int32) (x4 : Int32) (x5 : Int32) (F : FT) (G : GT) (w : Int64) {H : Heap} {locs : List Loc} (h : WD K A s (wM K a F G w) H locs) {ls : Array Slot} (hl : lv_has ls 6 [(0, .ref (a 0)), (1, .int x1), (2, .int x2), (3, .int x3), (4, .int x4), (5, .int x5)]) (hw : wp_X8_hand_63 Q kb x1 x2 x3 x4 x5 F G w) : W p l e R s m args below meth c H locs 0 0 Z (F0 m 63 ls []) := by
  unfold wp_X8_hand_63 at hw
  have hx := C.1
  have hb := C.2.1
  refine lv_aload_n hx hb dX8_hand_63 rfl (lv_at hl 0 rfl) ?_
  refine gM_8_49 C h dX8_hand_64 ?_
  refine lv_iload hx hb dX8_hand_67 (lv_at hl 5 rfl) ?_
  have hi := hw.1
  have hw := hw.2
  refine laM_19 C h hi dX8_hand_69 ?_
  refine lv_iload_n hx hb dX8_hand_70 rfl (lv_at hl 1 rfl) ?_
  refine lv_icmp_ne (tgt := 77) hx hb dX8_hand_71 (by decide) (fun c => ?_) (fun c => ?_)
  · have hw := hw.1 c
    obtain ⟨v1, ev1⟩ : ∃ z : Int32, z = (x5 + 1) := ⟨_, rfl⟩
    have hw := hw v1 ev1
    refine lv_iinc (v := v1) (lv' := [(5, .int v1), (0, .ref (a 0)), (1, .int x1), (2, .int x2), (3, .int x3), (4, .int x4)]) hx hb dX8_hand_77 hl (k := 5) rfl (by rw [ev1]; rfl) (by decide) rfl (fun ls hl => ?_)
    refine lv_goto (tgt := 46) hx hb dX8_hand_80 (by decide) ?_
    exact hk x1 x2 x3 x4 v1 F G w _ _ _ h (lv_sub hl [1, 2, 3, 4, 5, 0] rfl) hw
  · have hw := hw.2 c
    obtain ⟨v2, ev2⟩ : ∃ z : Int32, z = (x4 + 1) := ⟨_, rfl⟩
    have hw := hw v2 ev2
    refine lv_iinc (v := v2) (lv' := [(4, .int v2), (0, .ref (a 0)), (1, .int x1), (2, .int x2), (3, .int x3), (5, .int x5)]) hx hb dX8_hand_74 hl (k := 4) rfl (by rw [ev2]; rfl) (by decide) rfl (fun ls hl => ?_)
    obtain ⟨v3, ev3⟩ : ∃ z : Int32, z = (x5 + 1) := ⟨_, rfl⟩
    have hw := hw v3 ev3
    refine lv_iinc (v := v3) (lv' := [(5, .int v3), (4, .int v2), (0, .ref (a 0)), (1, .int x1), (2, .int x2), (3, .int x3)]) hx hb dX8_hand_77 hl (k := 5) rfl (by rw [ev3]; rfl) (by decide) rfl (fun ls hl => ?_)
    refine lv_goto (tgt := 46) hx hb dX8_hand_80 (by decide) ?_
    exact hk x1 x2 x3 v2 v3 F G w _ _ _ h (lv_sub hl [2, 3, 4, 5, 1, 0] rfl) hw
set_option maxHeartbeats 4000000 in
set_option maxRecDepth 100000 in
theorem wk_X8_hand_46 {p : Program} {l : Launch} {e : Env} {R : Room} {s : State} {m : MethodId} {args : Array Value} {below : List Frame} {meth : Method} {c : Code} {K : KT} {A : Nat → Prop} {Z : State → Prop} {a : Nat → Nat} (hR : 1 ≤ R.frames ∧ 23 ≤ R.locals) (C : CX p s m args meth c K A cX8_hand 6 RX8) {Q : Int32 → FT → GT → Int64 → Prop} (hq : RetMi p l e R s m args below meth c K A Z a cX8_hand Q) : ∀ (n : Nat) (x1 : Int32) (x2 : Int32) (x3 : Int32) (x4 : Int32) (x5 : Int32) (F : FT) (G : GT) (w : Int64) {H : Heap} {locs : List Loc} (h : WD K A s (wM K a F G w) H locs) {ls : Array Slot} (hl : lv_has ls 6 [(0, .ref (a 0)), (1, .int x1), (2, .int x2), (3, .int x3), (4, .int x4), (5, .int x5)]) (hw : wp_X8_hand_46 Q n x1 x2 x3 x4 x5 F G w), W p l e R s m args below meth c H locs 0 0 Z (F0 m 46 ls []) := by
  intro n
  induction n with
  | zero => intro x1 x2 x3 x4 x5 F G w H locs h ls hl hw; exact False.elim hw
  | succ n ih =>
    intro x1 x2 x3 x4 x5 F G w H locs h ls hl hw
    rw [wp_X8_hand_46] at hw
    have hx := C.1
    have hb := C.2.1
    refine lv_aload_n hx hb dX8_hand_46 rfl (lv_at hl 0 rfl) ?_
    refine gM_8_49 C h dX8_hand_47 ?_
    refine lv_iload hx hb dX8_hand_50 (lv_at hl 5 rfl) ?_
    have hi := hw.1
    have hw := hw.2
    refine laM_19 C h hi dX8_hand_52 ?_
    refine lv_iload_n hx hb dX8_hand_53 rfl (lv_at hl 1 rfl) ?_
    refine lv_icmp_ne (tgt := 63) hx hb dX8_hand_54 (by decide) (fun c => ?_) (fun c => ?_)
    · have hw := hw.1 c
      exact wk_X8_hand_63 hR C hq (fun x1 x2 x3 x4 x5 F G w H locs ls h hl hw => ih x1 x2 x3 x4 x5 F G w h hl hw) x1 x2 x3 x4 x5 F G w h (lv_sub hl [0, 1, 2, 3, 4, 5] rfl) hw
    · have hw := hw.2 c
      refine lv_iload hx hb dX8_hand_57 (lv_at hl 4 rfl) ?_
      refine lv_iload_n hx hb dX8_hand_59 rfl (lv_at hl 2 rfl) ?_
      refine lv_icmp_ge (tgt := 83) hx hb dX8_hand_60 (by decide) (fun c => ?_) (fun c => ?_)
      · have hw := hw.1 c
        refine lv_iload_n hx hb dX8_hand_83 rfl (lv_at hl 3 rfl) ?_
        refine lv_if_ne (tgt := 97) hx hb dX8_hand_84 (by decide) (fun c => ?_) (fun c => ?_)
        · have hw := hw.1 c
          refine lv_iload_n hx hb dX8_hand_97 rfl (lv_at hl 3 rfl) ?_
          refine lv_iconst (v := (1 : Int32)) hx hb dX8_hand_98 (by decide) ?_
          refine lv_icmp_ne (tgt := 112) hx hb dX8_hand_99 (by decide) (fun c => ?_) (fun c => ?_)
          · have hw := hw.1 c
            refine lv_aload_n hx hb dX8_hand_112 rfl (lv_at hl 0 rfl) ?_
            refine gM_8_58 C h dX8_hand_113 ?_
            refine lv_iload hx hb dX8_hand_116 (lv_at hl 5 rfl) ?_
            have hi := hw.1
            have hw := hw.2
            refine laM_22 C h hi dX8_hand_118 ?_
            exact hq _ F G w _ _ _ _ dX8_hand_119 h hw
          · have hw := hw.2 c
            refine lv_aload_n hx hb dX8_hand_102 rfl (lv_at hl 0 rfl) ?_
            refine gM_8_55 C h dX8_hand_103 ?_
            refine lv_iload hx hb dX8_hand_106 (lv_at hl 5 rfl) ?_
            have hi := hw.1
            have hw := hw.2
            refine laM_21 C h hi dX8_hand_108 ?_
            refine lv_goto (tgt := 119) hx hb dX8_hand_109 (by decide) ?_
            exact hq _ F G w _ _ _ _ dX8_hand_119 h hw
        · have hw := hw.2 c
          refine lv_aload_n hx hb dX8_hand_87 rfl (lv_at hl 0 rfl) ?_
          refine gM_8_52 C h dX8_hand_88 ?_
          refine lv_iload hx hb dX8_hand_91 (lv_at hl 5 rfl) ?_
          have hi := hw.1
          have hw := hw.2
          refine laM_20 C h hi dX8_hand_93 ?_
          refine lv_goto (tgt := 119) hx hb dX8_hand_94 (by decide) ?_
          exact hq _ F G w _ _ _ _ dX8_hand_119 h hw
      · have hw := hw.2 c
        exact wk_X8_hand_63 hR C hq (fun x1 x2 x3 x4 x5 F G w H locs ls h hl hw => ih x1 x2 x3 x4 x5 F G w h hl hw) x1 x2 x3 x4 x5 F G w h (lv_sub hl [0, 1, 2, 3, 4, 5] rfl) hw
set_option maxHeartbeats 4000000 in
set_option maxRecDepth 100000 in
theorem wk_X8_hand_0 {p : Program} {l : Launch} {e : Env} {R : Room} {s : State} {m : MethodId} {args : Array Value} {below : List Frame} {meth : Method} {c : Code} {K : KT} {A : Nat → Prop} {Z : State → Prop} {a : Nat → Nat} (hR : 1 ≤ R.frames ∧ 23 ≤ R.locals) (C : CX p s m args meth c K A cX8_hand 6 RX8) {Q : Int32 → FT → GT → Int64 → Prop} (hq : RetMi p l e R s m args below meth c K A Z a cX8_hand Q) (x1 : Int32) (x2 : Int32) (x3 : Int32) (F : FT) (G : GT) (w : Int64) {H : Heap} {locs : List Loc} (h : WD K A s (wM K a F G w) H locs) {ls : Array Slot} (hl : lv_has ls 6 [(0, .ref (a 0)), (1, .int x1), (2, .int x2), (3, .int x3)]) (hw : wp_X8_hand_0 Q x1 x2 x3 F G w) : W p l e R s m args below meth c H locs 0 0 Z (F0 m 0 ls []) := by
  unfold wp_X8_hand_0 at hw
  have hx := C.1
  have hb := C.2.1
  refine lv_aload_n hx hb dX8_hand_0 rfl (lv_at hl 0 rfl) ?_
  refine lv_iload_n hx hb dX8_hand_1 rfl (lv_at hl 1 rfl) ?_
  refine kMiV C h (c_X8_isHorse x1 F G w hw) lk_8_208 (rvM_0 K a F G w) rfl hl.1 rfl (Nat.le_of_ble_eq_true rfl) ⟨Nat.le_trans (Nat.le_of_ble_eq_true rfl) hR.1, Nat.le_trans (Nat.le_of_ble_eq_true rfl) hR.2⟩ ⟨Nat.zero_le _, Nat.zero_le _⟩ dX8_hand_2 (fun r4 F1 G2 w3 H locs hw h => ?_)
  have hw := hw.2
  refine lv_if_eq (tgt := 30) hx hb dX8_hand_5 (by decide) (fun c => ?_) (fun c => ?_)
  · have hw := hw.1 c
    exact wk_X8_hand_30 hR C hq F1 G2 w3 h (lv_sub hl [0] rfl) hw
  · have hw := hw.2 c
    refine lv_iload_n hx hb dX8_hand_8 rfl (lv_at hl 2 rfl) ?_
    refine lv_if_lt (tgt := 30) hx hb dX8_hand_9 (by decide) (fun c => ?_) (fun c => ?_)
    · have hw := hw.1 c
      exact wk_X8_hand_30 hR C hq F1 G2 w3 h (lv_sub hl [0] rfl) hw
    · have hw := hw.2 c
      refine lv_iload_n hx hb dX8_hand_12 rfl (lv_at hl 2 rfl) ?_
      refine lv_aload_n hx hb dX8_hand_13 rfl (lv_at hl 0 rfl) ?_
      refine lv_iload_n hx hb dX8_hand_14 rfl (lv_at hl 1 rfl) ?_
      refine kMiV C h (c_X8_handsOf x1 F1 G2 w3 hw) lk_8_228 (rvM_0 K a F1 G2 w3) rfl hl.1 rfl (Nat.le_of_ble_eq_true rfl) ⟨Nat.le_trans (Nat.le_of_ble_eq_true rfl) hR.1, Nat.le_trans (Nat.le_of_ble_eq_true rfl) hR.2⟩ ⟨Nat.zero_le _, Nat.zero_le _⟩ dX8_hand_15 (fun r8 F5 G6 w7 H locs hw h => ?_)
      refine lv_icmp_ge (tgt := 30) hx hb dX8_hand_18 (by decide) (fun c => ?_) (fun c => ?_)
      · have hw := hw.1 c
        exact wk_X8_hand_30 hR C hq F5 G6 w7 h (lv_sub hl [0] rfl) hw
      · have hw := hw.2 c
        refine lv_iload_n hx hb dX8_hand_21 rfl (lv_at hl 3 rfl) ?_
        refine lv_if_lt (tgt := 30) hx hb dX8_hand_22 (by decide) (fun c => ?_) (fun c => ?_)
        · have hw := hw.1 c
          exact wk_X8_hand_30 hR C hq F5 G6 w7 h (lv_sub hl [0] rfl) hw
        · have hw := hw.2 c
          refine lv_iload_n hx hb dX8_hand_25 rfl (lv_at hl 3 rfl) ?_
          refine lv_iconst (v := (2 : Int32)) hx hb dX8_hand_26 (by decide) ?_
          refine lv_icmp_le (tgt := 35) hx hb dX8_hand_27 (by decide) (fun c => ?_) (fun c => ?_)
          · have hw := hw.1 c
            refine lv_aload_n hx hb dX8_hand_35 rfl (lv_at hl 0 rfl) ?_
            refine lv_iconst (v := (0 : Int32)) hx hb dX8_hand_36 (by decide) ?_
            refine pM_8_89 C h dX8_hand_37 (fun F9 H locs eF9 h => ?_)
            have hw := hw F9 eF9
            refine lv_iconst (v := (0 : Int32)) hx hb dX8_hand_40 (by decide) ?_
            refine lv_istore (lv' := [(4, .int (0 : Int32)), (0, .ref (a 0)), (1, .int x1), (2, .int x2), (3, .int x3)]) hx hb dX8_hand_41 hl (by decide) rfl (fun ls hl => ?_)
            refine lv_iconst (v := (0 : Int32)) hx hb dX8_hand_43 (by decide) ?_
            refine lv_istore (lv' := [(5, .int (0 : Int32)), (4, .int (0 : Int32)), (0, .ref (a 0)), (1, .int x1), (2, .int x2), (3, .int x3)]) hx hb dX8_hand_44 hl (by decide) rfl (fun ls hl => ?_)
            obtain ⟨n, hw⟩ := hw
            exact wk_X8_hand_46 hR C hq n x1 x2 x3 (0 : Int32) (0 : Int32) F9 G6 w7 h (lv_sub hl [2, 3, 4, 5, 1, 0] rfl) hw
          · have hw := hw.2 c
            exact wk_X8_hand_30 hR C hq F5 G6 w7 h (lv_sub hl [0] rfl) hw
theorem c_X8_hand {l : Launch} {K : KT} {a : Nat → Nat} (x1 : Int32) (x2 : Int32) (x3 : Int32) (F : FT) (G : GT) (w : Int64) {Q : Int32 → FT → GT → Int64 → Prop} (hw : wp_X8_hand x1 x2 x3 F G w Q) : CtMi l K a yX8_hand cX8_hand 6 (some .int) 1 23 [.ref (a 0), .int x1, .int x2, .int x3] F G w Q := fun sz => x_met (Qm := QmMi K a Q) (by decide) (Nat.le_of_ble_eq_true rfl) (fun p e s m below meth c A ls C hr h hl => wk_X8_hand_0 ⟨Nat.le_refl _, Nat.le_refl _⟩ C (retM_z C hr (fun r F G w _ => rfl)) x1 x2 x3 F G w h hl hw)
def wp_X8_count_9 (Q : Int32 → FT → GT → Int64 → Prop) : Nat → Int32 → Int32 → Int32 → FT → GT → Int64 → Prop
  | 0, _, _, _, _, _, _ => False
  | n + 1, x1, x2, x3, F, G, w => (((F 8) ≤ x3) → (x1 = 0 → Q (F 0) F G w) ∧ (x1 = 1 → Q (F 3) F G w) ∧ (x1 = 2 → Q (F 6) F G w) ∧ (x1 = 3 → Q (F 8) F G w) ∧ (x1 = 4 → Q x2 F G w) ∧ (x1 = 5 → Q (F 5) F G w) ∧ (x1 = 6 → Q (F 2) F G w) ∧ (x1 = 7 → Q (F 7) F G w) ∧ (¬ x1 = 0 → ¬ x1 = 1 → ¬ x1 = 2 → ¬ x1 = 3 → ¬ x1 = 4 → ¬ x1 = 5 → ¬ x1 = 6 → ¬ x1 = 7 → Q (-1 : Int32) F G w)) ∧ ((¬ (F 8) ≤ x3) → vp_in x3 80 ∧ ((¬ (G 30 x3.toNatClampNeg) = 0) → ∀ v1 : Int32, v1 = (x3 + 1) → wp_X8_count_9 Q n x1 x2 v1 F G w) ∧ (((G 30 x3.toNatClampNeg) = 0) → ∀ v2 : Int32, v2 = (x2 + 1) → ∀ v3 : Int32, v3 = (x3 + 1) → wp_X8_count_9 Q n x1 v2 v3 F G w))
def wp_X8_count_0 (Q : Int32 → FT → GT → Int64 → Prop) (x1 : Int32) (F : FT) (G : GT) (w : Int64) : Prop := ∀ F1 : FT, F1 = sU F 20 (0 : Int32) → ∃ n : Nat, wp_X8_count_9 Q n x1 (0 : Int32) (0 : Int32) F1 G w
def wp_X8_count (x1 : Int32) (F : FT) (G : GT) (w : Int64) (Q : Int32 → FT → GT → Int64 → Prop) : Prop := wp_X8_count_0 Q x1 F G w
set_option maxHeartbeats 4000000 in
set_option maxRecDepth 100000 in
theorem wk_X8_count_9 {p : Program} {l : Launch} {e : Env} {R : Room} {s : State} {m : MethodId} {args : Array Value} {below : List Frame} {meth : Method} {c : Code} {K : KT} {A : Nat → Prop} {Z : State → Prop} {a : Nat → Nat} (hR : 0 ≤ R.frames ∧ 0 ≤ R.locals) (C : CX p s m args meth c K A cX8_count 4 RX8) {Q : Int32 → FT → GT → Int64 → Prop} (hq : RetMi p l e R s m args below meth c K A Z a cX8_count Q) : ∀ (n : Nat) (x1 : Int32) (x2 : Int32) (x3 : Int32) (F : FT) (G : GT) (w : Int64) {H : Heap} {locs : List Loc} (h : WD K A s (wM K a F G w) H locs) {ls : Array Slot} (hl : lv_has ls 4 [(0, .ref (a 0)), (1, .int x1), (2, .int x2), (3, .int x3)]) (hw : wp_X8_count_9 Q n x1 x2 x3 F G w), W p l e R s m args below meth c H locs 0 0 Z (F0 m 9 ls []) := by
  intro n
  induction n with
  | zero => intro x1 x2 x3 F G w H locs h ls hl hw; exact False.elim hw
  | succ n ih =>
    intro x1 x2 x3 F G w H locs h ls hl hw
    rw [wp_X8_count_9] at hw
    have hx := C.1
    have hb := C.2.1
    refine lv_iload_n hx hb dX8_count_9 rfl (lv_at hl 3 rfl) ?_
    refine lv_aload_n hx hb dX8_count_10 rfl (lv_at hl 0 rfl) ?_
    refine gM_8_195 C h dX8_count_11 ?_
    refine lv_icmp_ge (tgt := 35) hx hb dX8_count_14 (by decide) (fun c => ?_) (fun c => ?_)
    · have hw := hw.1 c
      refine lv_iload_n hx hb dX8_count_35 rfl (lv_at hl 1 rfl) ?_
      by_cases k0 : x1 = 0
      · have hw := hw.1 k0
        refine lv_tableIn (tgt := 84) hx hb dX8_count_36 (by rw [k0]; decide) (by rw [k0]; decide) (by rw [k0]; rfl) (by decide) ?_
        refine lv_aload_n hx hb dX8_count_84 rfl (lv_at hl 0 rfl) ?_
        refine gM_8_201 C h dX8_count_85 ?_
        exact hq _ F G w _ _ _ _ dX8_count_88 h hw
      by_cases k1 : x1 = 1
      · have hw := hw.2.1 k1
        refine lv_tableIn (tgt := 89) hx hb dX8_count_36 (by rw [k1]; decide) (by rw [k1]; decide) (by rw [k1]; rfl) (by decide) ?_
        refine lv_aload_n hx hb dX8_count_89 rfl (lv_at hl 0 rfl) ?_
        refine gM_8_175 C h dX8_count_90 ?_
        exact hq _ F G w _ _ _ _ dX8_count_93 h hw
      by_cases k2 : x1 = 2
      · have hw := hw.2.2.1 k2
        refine lv_tableIn (tgt := 94) hx hb dX8_count_36 (by rw [k2]; decide) (by rw [k2]; decide) (by rw [k2]; rfl) (by decide) ?_
        refine lv_aload_n hx hb dX8_count_94 rfl (lv_at hl 0 rfl) ?_
        refine gM_8_192 C h dX8_count_95 ?_
        exact hq _ F G w _ _ _ _ dX8_count_98 h hw
      by_cases k3 : x1 = 3
      · have hw := hw.2.2.2.1 k3
        refine lv_tableIn (tgt := 99) hx hb dX8_count_36 (by rw [k3]; decide) (by rw [k3]; decide) (by rw [k3]; rfl) (by decide) ?_
        refine lv_aload_n hx hb dX8_count_99 rfl (lv_at hl 0 rfl) ?_
        refine gM_8_195 C h dX8_count_100 ?_
        exact hq _ F G w _ _ _ _ dX8_count_103 h hw
      by_cases k4 : x1 = 4
      · have hw := hw.2.2.2.2.1 k4
        refine lv_tableIn (tgt := 104) hx hb dX8_count_36 (by rw [k4]; decide) (by rw [k4]; decide) (by rw [k4]; rfl) (by decide) ?_
        refine lv_iload_n hx hb dX8_count_104 rfl (lv_at hl 2 rfl) ?_
        exact hq _ F G w _ _ _ _ dX8_count_105 h hw
      by_cases k5 : x1 = 5
      · have hw := hw.2.2.2.2.2.1 k5
        refine lv_tableIn (tgt := 106) hx hb dX8_count_36 (by rw [k5]; decide) (by rw [k5]; decide) (by rw [k5]; rfl) (by decide) ?_
        refine lv_aload_n hx hb dX8_count_106 rfl (lv_at hl 0 rfl) ?_
        refine gM_8_189 C h dX8_count_107 ?_
        exact hq _ F G w _ _ _ _ dX8_count_110 h hw
      by_cases k6 : x1 = 6
      · have hw := hw.2.2.2.2.2.2.1 k6
        refine lv_tableIn (tgt := 111) hx hb dX8_count_36 (by rw [k6]; decide) (by rw [k6]; decide) (by rw [k6]; rfl) (by decide) ?_
        refine lv_aload_n hx hb dX8_count_111 rfl (lv_at hl 0 rfl) ?_
        refine gM_8_93 C h dX8_count_112 ?_
        exact hq _ F G w _ _ _ _ dX8_count_115 h hw
      by_cases k7 : x1 = 7
      · have hw := hw.2.2.2.2.2.2.2.1 k7
        refine lv_tableIn (tgt := 116) hx hb dX8_count_36 (by rw [k7]; decide) (by rw [k7]; decide) (by rw [k7]; rfl) (by decide) ?_
        refine lv_aload_n hx hb dX8_count_116 rfl (lv_at hl 0 rfl) ?_
        refine gM_8_198 C h dX8_count_117 ?_
        exact hq _ F G w _ _ _ _ dX8_count_120 h hw
      have hw := hw.2.2.2.2.2.2.2.2 k0 k1 k2 k3 k4 k5 k6 k7
      refine lv_tableOut (tgt := 121) hx hb dX8_count_36 (by have n0 := lv_neT k0 (a := 0) (by decide); have n1 := lv_neT k1 (a := 1) (by decide); have n2 := lv_neT k2 (a := 2) (by decide); have n3 := lv_neT k3 (a := 3) (by decide); have n4 := lv_neT k4 (a := 4) (by decide); have n5 := lv_neT k5 (a := 5) (by decide); have n6 := lv_neT k6 (a := 6) (by decide); have n7 := lv_neT k7 (a := 7) (by decide); omega) (by decide) ?_
      refine lv_iconst (v := (-1 : Int32)) hx hb dX8_count_121 (by decide) ?_
      exact hq _ F G w _ _ _ _ dX8_count_122 h hw
    · have hw := hw.2 c
      refine lv_aload_n hx hb dX8_count_17 rfl (lv_at hl 0 rfl) ?_
      refine gM_8_82 C h dX8_count_18 ?_
      refine lv_iload_n hx hb dX8_count_21 rfl (lv_at hl 3 rfl) ?_
      have hi := hw.1
      have hw := hw.2
      refine laM_30 C h hi dX8_count_22 ?_
      refine lv_if_ne (tgt := 29) hx hb dX8_count_23 (by decide) (fun c => ?_) (fun c => ?_)
      · have hw := hw.1 c
        obtain ⟨v1, ev1⟩ : ∃ z : Int32, z = (x3 + 1) := ⟨_, rfl⟩
        have hw := hw v1 ev1
        refine lv_iinc (v := v1) (lv' := [(3, .int v1), (0, .ref (a 0)), (1, .int x1), (2, .int x2)]) hx hb dX8_count_29 hl (k := 3) rfl (by rw [ev1]; rfl) (by decide) rfl (fun ls hl => ?_)
        refine lv_goto (tgt := 9) hx hb dX8_count_32 (by decide) ?_
        exact ih x1 x2 v1 F G w h (lv_sub hl [1, 2, 3, 0] rfl) hw
      · have hw := hw.2 c
        obtain ⟨v2, ev2⟩ : ∃ z : Int32, z = (x2 + 1) := ⟨_, rfl⟩
        have hw := hw v2 ev2
        refine lv_iinc (v := v2) (lv' := [(2, .int v2), (0, .ref (a 0)), (1, .int x1), (3, .int x3)]) hx hb dX8_count_26 hl (k := 2) rfl (by rw [ev2]; rfl) (by decide) rfl (fun ls hl => ?_)
        obtain ⟨v3, ev3⟩ : ∃ z : Int32, z = (x3 + 1) := ⟨_, rfl⟩
        have hw := hw v3 ev3
        refine lv_iinc (v := v3) (lv' := [(3, .int v3), (2, .int v2), (0, .ref (a 0)), (1, .int x1)]) hx hb dX8_count_29 hl (k := 3) rfl (by rw [ev3]; rfl) (by decide) rfl (fun ls hl => ?_)
        refine lv_goto (tgt := 9) hx hb dX8_count_32 (by decide) ?_
        exact ih x1 v2 v3 F G w h (lv_sub hl [2, 3, 1, 0] rfl) hw
set_option maxHeartbeats 4000000 in
set_option maxRecDepth 100000 in
theorem wk_X8_count_0 {p : Program} {l : Launch} {e : Env} {R : Room} {s : State} {m : MethodId} {args : Array Value} {below : List Frame} {meth : Method} {c : Code} {K : KT} {A : Nat → Prop} {Z : State → Prop} {a : Nat → Nat} (hR : 0 ≤ R.frames ∧ 0 ≤ R.locals) (C : CX p s m args meth c K A cX8_count 4 RX8) {Q : Int32 → FT → GT → Int64 → Prop} (hq : RetMi p l e R s m args below meth c K A Z a cX8_count Q) (x1 : Int32) (F : FT) (G : GT) (w : Int64) {H : Heap} {locs : List Loc} (h : WD K A s (wM K a F G w) H locs) {ls : Array Slot} (hl : lv_has ls 4 [(0, .ref (a 0)), (1, .int x1)]) (hw : wp_X8_count_0 Q x1 F G w) : W p l e R s m args below meth c H locs 0 0 Z (F0 m 0 ls []) := by
  unfold wp_X8_count_0 at hw
  have hx := C.1
  have hb := C.2.1
  refine lv_aload_n hx hb dX8_count_0 rfl (lv_at hl 0 rfl) ?_
  refine lv_iconst (v := (0 : Int32)) hx hb dX8_count_1 (by decide) ?_
  refine pM_8_89 C h dX8_count_2 (fun F1 H locs eF1 h => ?_)
  have hw := hw F1 eF1
  refine lv_iconst (v := (0 : Int32)) hx hb dX8_count_5 (by decide) ?_
  refine lv_istore_n (lv' := [(2, .int (0 : Int32)), (0, .ref (a 0)), (1, .int x1)]) hx hb dX8_count_6 rfl hl (by decide) rfl (fun ls hl => ?_)
  refine lv_iconst (v := (0 : Int32)) hx hb dX8_count_7 (by decide) ?_
  refine lv_istore_n (lv' := [(3, .int (0 : Int32)), (2, .int (0 : Int32)), (0, .ref (a 0)), (1, .int x1)]) hx hb dX8_count_8 rfl hl (by decide) rfl (fun ls hl => ?_)
  obtain ⟨n, hw⟩ := hw
  exact wk_X8_count_9 hR C hq n x1 (0 : Int32) (0 : Int32) F1 G w h (lv_sub hl [2, 3, 1, 0] rfl) hw
theorem c_X8_count {l : Launch} {K : KT} {a : Nat → Nat} (x1 : Int32) (F : FT) (G : GT) (w : Int64) {Q : Int32 → FT → GT → Int64 → Prop} (hw : wp_X8_count x1 F G w Q) : CtMi l K a yX8_count cX8_count 4 (some .int) 0 0 [.ref (a 0), .int x1] F G w Q := fun sz => x_met (Qm := QmMi K a Q) (by decide) (Nat.le_of_ble_eq_true rfl) (fun p e s m below meth c A ls C hr h hl => wk_X8_count_0 ⟨Nat.le_refl _, Nat.le_refl _⟩ C (retM_z C hr (fun r F G w _ => rfl)) x1 F G w h hl hw)
