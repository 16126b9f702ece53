def wp_X4_settle_35 (Q : FT → GT → Prop) (kb : Int32 → FT → GT → Prop) (x1 : Int32) (F : FT) (G : GT) : Prop := ((¬ (x1 - x1 / (32 : Int32) * (32 : Int32)) = 0) → kb x1 F G) ∧ (((x1 - x1 / (32 : Int32) * (32 : Int32)) = 0) → wp_X4_see F G (fun F1 G2 => kb x1 F1 G2))
def wp_X4_settle_2 (Q : FT → GT → Prop) : Nat → Int32 → FT → GT → Prop
  | 0, _, _, _ => False
  | n + 1, x1, F, G => (((8000000 : Int32) ≤ x1) → Q F G) ∧ ((¬ (8000000 : Int32) ≤ x1) → wp_X4_payOldest F G (fun r3 F1 G2 => ((r3 = 0) → Q F1 G2) ∧ ((¬ r3 = 0) → ∀ v4 : Int32, v4 = (x1 + 1) → ((v4 ≤ (32 : Int32)) → wp_X4_settle_35 Q (fun x1 F G => wp_X4_settle_2 Q n x1 F G) v4 F1 G2) ∧ ((¬ v4 ≤ (32 : Int32)) → wp_X4_isRound F1 G2 (fun r7 F5 G6 => ((r7 = 0) → wp_X4_settle_35 Q (fun x1 F G => wp_X4_settle_2 Q n x1 F G) v4 F5 G6) ∧ ((¬ r7 = 0) → wp_X4_skipRounds F5 G6 (fun F8 G9 => wp_X4_settle_35 Q (fun x1 F G => wp_X4_settle_2 Q n x1 F G) v4 F8 G9)))))))
def wp_X4_settle_0 (Q : FT → GT → Prop) (F : FT) (G : GT) : Prop := ∃ n : Nat, wp_X4_settle_2 Q n (0 : Int32) F G
def wp_X4_settle (F : FT) (G : GT) (Q : FT → GT → Prop) : Prop := wp_X4_settle_0 Q F G
set_option maxHeartbeats 4000000 in
set_option maxRecDepth 100000 in
theorem wk_X4_settle_35 {p : Program} {l : Launch} {e : Env} {R : Room} {s : State} {m : MethodId} {args : Array Value} {below : List Frame} {meth : Method} {c : Code} {K : KT} {A : Nat → Prop} {Z : State → Prop} {a : Nat → Nat} (hR : 2 ≤ R.frames ∧ 44 ≤ R.locals) (C : CX p s m args meth c K A cX4_settle 2 RX4) {Q : FT → GT → Prop} (hq : RetXv p l e R s m args below meth c K A Z a cX4_settle Q) {kb : Int32 → FT → GT → Prop} (hk : ∀ (x1 : Int32) (F : FT) (G : GT) (H : Heap) (locs : List Loc) (ls : Array Slot), WD K A s (wX K a F G) H locs → lv_has ls 2 [(0, .ref (a 4)), (1, .int x1)] → kb x1 F G → W p l e R s m args below meth c H locs 0 0 Z (F0 m 2 ls [])) (x1 : Int32) (F : FT) (G : GT) {H : Heap} {locs : List Loc} (h : WD K A s (wX K a F G) H locs) {ls : Array Slot} (hl : lv_has ls 2 [(0, .ref (a 4)), (1, .int x1)]) (hw : wp_X4_settle_35 Q kb x1 F G) : W p l e R s m args below meth c H locs 0 0 Z (F0 m 35 ls []) := by
  unfold wp_X4_settle_35 at hw
  have hx := C.1
  have hb := C.2.1
  refine lv_iload_n hx hb dX4_settle_35 rfl (lv_at hl 1 rfl) ?_
  refine lv_bipush (v := (32 : Int32)) hx hb dX4_settle_36 (by decide) ?_
  refine lv_irem hx hb dX4_settle_38 (by decide) ?_
  refine lv_if_ne (tgt := 2) hx hb dX4_settle_39 (by decide) (fun c => ?_) (fun c => ?_)
  · have hw := hw.1 c
    exact hk x1 F G _ _ _ h (lv_sub hl [0, 1] rfl) hw
  · have hw := hw.2 c
    refine lv_aload_n hx hb dX4_settle_42 rfl (lv_at hl 0 rfl) ?_
    refine kXvV C h (c_X4_see F G hw) lk_4_68 (rvX_4 K a F G) rfl hl.1 rfl (Nat.le_of_ble_eq_true rfl) ⟨Nat.le_trans (Nat.le_of_ble_eq_true rfl) hR.1, Nat.le_trans (Nat.le_of_ble_eq_true rfl) hR.2⟩ ⟨Nat.zero_le _, Nat.zero_le _⟩ dX4_settle_43 (fun F1 G2 H locs hw h => ?_)
    refine lv_goto (tgt := 2) hx hb dX4_settle_46 (by decide) ?_
    exact hk x1 F1 G2 _ _ _ h (lv_sub hl [0, 1] rfl) hw
set_option maxHeartbeats 4000000 in
set_option maxRecDepth 100000 in
theorem wk_X4_settle_2 {p : Program} {l : Launch} {e : Env} {R : Room} {s : State} {m : MethodId} {args : Array Value} {below : List Frame} {meth : Method} {c : Code} {K : KT} {A : Nat → Prop} {Z : State → Prop} {a : Nat → Nat} (hR : 2 ≤ R.frames ∧ 44 ≤ R.locals) (C : CX p s m args meth c K A cX4_settle 2 RX4) {Q : FT → GT → Prop} (hq : RetXv p l e R s m args below meth c K A Z a cX4_settle Q) : ∀ (n : Nat) (x1 : Int32) (F : FT) (G : GT) {H : Heap} {locs : List Loc} (h : WD K A s (wX K a F G) H locs) {ls : Array Slot} (hl : lv_has ls 2 [(0, .ref (a 4)), (1, .int x1)]) (hw : wp_X4_settle_2 Q n x1 F G), W p l e R s m args below meth c H locs 0 0 Z (F0 m 2 ls []) := by
  intro n
  induction n with
  | zero => intro x1 F G H locs h ls hl hw; exact False.elim hw
  | succ n ih =>
    intro x1 F G H locs h ls hl hw
    rw [wp_X4_settle_2] at hw
    have hx := C.1
    have hb := C.2.1
    refine lv_iload_n hx hb dX4_settle_2 rfl (lv_at hl 1 rfl) ?_
    refine lv_ldc hx hb C.2.2.2.1 (C.2.2.2.2.1 _ kc_4_57) dX4_settle_3 ?_
    refine lv_icmp_ge (tgt := 49) hx hb dX4_settle_5 (by decide) (fun c => ?_) (fun c => ?_)
    · have hw := hw.1 c
      exact hq F G _ _ _ _ dX4_settle_49 h hw
    · have hw := hw.2 c
      refine lv_aload_n hx hb dX4_settle_8 rfl (lv_at hl 0 rfl) ?_
      refine kXiV C h (c_X4_payOldest F G hw) lk_4_58 (rvX_4 K a F G) rfl hl.1 rfl (Nat.le_of_ble_eq_true rfl) ⟨Nat.le_trans (Nat.le_of_ble_eq_true rfl) hR.1, Nat.le_trans (Nat.le_of_ble_eq_true rfl) hR.2⟩ ⟨Nat.zero_le _, Nat.zero_le _⟩ dX4_settle_9 (fun r3 F1 G2 H locs hw h => ?_)
      have hw := hw.2
      refine lv_if_eq (tgt := 49) hx hb dX4_settle_12 (by decide) (fun c => ?_) (fun c => ?_)
      · have hw := hw.1 c
        exact hq F1 G2 _ _ _ _ dX4_settle_49 h hw
      · have hw := hw.2 c
        obtain ⟨v4, ev4⟩ : ∃ z : Int32, z = (x1 + 1) := ⟨_, rfl⟩
        have hw := hw v4 ev4
        refine lv_iinc (v := v4) (lv' := [(1, .int v4), (0, .ref (a 4))]) hx hb dX4_settle_15 hl (k := 1) rfl (by rw [ev4]; rfl) (by decide) rfl (fun ls hl => ?_)
        refine lv_iload_n hx hb dX4_settle_18 rfl (lv_at hl 0 rfl) ?_
        refine lv_bipush (v := (32 : Int32)) hx hb dX4_settle_19 (by decide) ?_
        refine lv_icmp_le (tgt := 35) hx hb dX4_settle_21 (by decide) (fun c => ?_) (fun c => ?_)
        · have hw := hw.1 c
          exact wk_X4_settle_35 hR C hq (fun x1 F G H locs ls h hl hw => ih x1 F G h hl hw) v4 F1 G2 h (lv_sub hl [1, 0] rfl) hw
        · have hw := hw.2 c
          refine lv_aload_n hx hb dX4_settle_24 rfl (lv_at hl 1 rfl) ?_
          refine kXiV C h (c_X4_isRound F1 G2 hw) lk_4_62 (rvX_4 K a F1 G2) rfl hl.1 rfl (Nat.le_of_ble_eq_true rfl) ⟨Nat.le_trans (Nat.le_of_ble_eq_true rfl) hR.1, Nat.le_trans (Nat.le_of_ble_eq_true rfl) hR.2⟩ ⟨Nat.zero_le _, Nat.zero_le _⟩ dX4_settle_25 (fun r7 F5 G6 H locs hw h => ?_)
          have hw := hw.2
          refine lv_if_eq (tgt := 35) hx hb dX4_settle_28 (by decide) (fun c => ?_) (fun c => ?_)
          · have hw := hw.1 c
            exact wk_X4_settle_35 hR C hq (fun x1 F G H locs ls h hl hw => ih x1 F G h hl hw) v4 F5 G6 h (lv_sub hl [1, 0] rfl) hw
          · have hw := hw.2 c
            refine lv_aload_n hx hb dX4_settle_31 rfl (lv_at hl 1 rfl) ?_
            refine kXvV C h (c_X4_skipRounds F5 G6 hw) lk_4_65 (rvX_4 K a F5 G6) rfl hl.1 rfl (Nat.le_of_ble_eq_true rfl) ⟨Nat.le_trans (Nat.le_of_ble_eq_true rfl) hR.1, Nat.le_trans (Nat.le_of_ble_eq_true rfl) hR.2⟩ ⟨Nat.zero_le _, Nat.zero_le _⟩ dX4_settle_32 (fun F8 G9 H locs hw h => ?_)
            exact wk_X4_settle_35 hR C hq (fun x1 F G H locs ls h hl hw => ih x1 F G h hl hw) v4 F8 G9 h (lv_sub hl [1, 0] rfl) hw
set_option maxHeartbeats 4000000 in
set_option maxRecDepth 100000 in
theorem wk_X4_settle_0 {p : Program} {l : Launch} {e : Env} {R : Room} {s : State} {m : MethodId} {args : Array Value} {below : List Frame} {meth : Method} {c : Code} {K : KT} {A : Nat → Prop} {Z : State → Prop} {a : Nat → Nat} (hR : 2 ≤ R.frames ∧ 44 ≤ R.locals) (C : CX p s m args meth c K A cX4_settle 2 RX4) {Q : FT → GT → Prop} (hq : RetXv p l e R s m args below meth c K A Z a cX4_settle Q) (F : FT) (G : GT) {H : Heap} {locs : List Loc} (h : WD K A s (wX K a F G) H locs) {ls : Array Slot} (hl : lv_has ls 2 [(0, .ref (a 4))]) (hw : wp_X4_settle_0 Q F G) : W p l e R s m args below meth c H locs 0 0 Z (F0 m 0 ls []) := by
  unfold wp_X4_settle_0 at hw
  have hx := C.1
  have hb := C.2.1
  refine lv_iconst (v := (0 : Int32)) hx hb dX4_settle_0 (by decide) ?_
  refine lv_istore_n (lv' := [(1, .int (0 : Int32)), (0, .ref (a 4))]) hx hb dX4_settle_1 rfl hl (by decide) rfl (fun ls hl => ?_)
  obtain ⟨n, hw⟩ := hw
  exact wk_X4_settle_2 hR C hq n (0 : Int32) F G h (lv_sub hl [1, 0] rfl) hw
theorem c_X4_settle {l : Launch} {K : KT} {a : Nat → Nat} (F : FT) (G : GT) {Q : FT → GT → Prop} (hw : wp_X4_settle F G Q) : CtXv l K a yX4_settle cX4_settle 2 none 2 44 [.ref (a 4)] F G Q := fun sz => x_met (Qm := QmXv K a Q) (by decide) (Nat.le_of_ble_eq_true rfl) (fun p e s m below meth c A ls C hr h hl => wk_X4_settle_0 ⟨Nat.le_refl _, Nat.le_refl _⟩ C (retX_v C hr) F G h hl hw)
def wp_X7_coin_0 (Q : Int32 → FT → GT → Prop) (x1 : Int32) (x2 : Int32) (F : FT) (G : GT) : Prop := wp_X4_hasPerson x1 F G (fun r3 F1 G2 => ((r3 = 0) → Q (-1 : Int32) F1 G2) ∧ ((¬ r3 = 0) → ((x2 < (1 : Int32)) → Q (-1 : Int32) F1 G2) ∧ ((¬ x2 < (1 : Int32)) → (((1000000 : Int32) < x2) → Q (-1 : Int32) F1 G2) ∧ ((¬ (1000000 : Int32) < x2) → wp_X4_mayCome x2 F1 G2 (fun r6 F4 G5 => ((¬ r6 = 0) → wp_X4_bring x1 x2 F4 G5 (fun F7 G8 => wp_X4_settle F7 G8 (fun F9 G10 => vp_in x1 16 ∧ Q (G10 11 x1.toNatClampNeg) F9 G10))) ∧ ((r6 = 0) → Q (-1 : Int32) F4 G5))))))
def wp_X7_coin (x1 : Int32) (x2 : Int32) (F : FT) (G : GT) (Q : Int32 → FT → GT → Prop) : Prop := wp_X7_coin_0 Q x1 x2 F G
set_option maxHeartbeats 4000000 in
set_option maxRecDepth 100000 in
theorem wk_X7_coin_0 {p : Program} {l : Launch} {e : Env} {R : Room} {s : State} {m : MethodId} {args : Array Value} {below : List Frame} {meth : Method} {c : Code} {K : KT} {A : Nat → Prop} {Z : State → Prop} {a : Nat → Nat} (hR : 3 ≤ R.frames ∧ 65 ≤ R.locals) (C : CX p s m args meth c K A cX7_coin 3 RX7) {Q : Int32 → FT → GT → Prop} (hq : RetXi p l e R s m args below meth c K A Z a cX7_coin Q) (x1 : Int32) (x2 : Int32) (F : FT) (G : GT) {H : Heap} {locs : List Loc} (h : WD K A s (wX K a F G) H locs) {ls : Array Slot} (hl : lv_has ls 3 [(0, .ref (a 0)), (1, .int x1), (2, .int x2)]) (hw : wp_X7_coin_0 Q x1 x2 F G) : W p l e R s m args below meth c H locs 0 0 Z (F0 m 0 ls []) := by
  unfold wp_X7_coin_0 at hw
  have hx := C.1
  have hb := C.2.1
  refine lv_aload_n hx hb dX7_coin_0 rfl (lv_at hl 0 rfl) ?_
  refine gX_7_33 C h dX7_coin_1 ?_
  refine lv_iload_n hx hb dX7_coin_4 rfl (lv_at hl 1 rfl) ?_
  refine kXiV C h (c_X4_hasPerson x1 F G hw) lk_7_122 (rvX_4 K a F G) rfl hl.1 rfl (Nat.le_of_ble_eq_true rfl) ⟨Nat.le_trans (Nat.le_of_ble_eq_true rfl) hR.1, Nat.le_trans (Nat.le_of_ble_eq_true rfl) hR.2⟩ ⟨Nat.zero_le _, Nat.zero_le _⟩ dX7_coin_5 (fun r3 F1 G2 H locs hw h => ?_)
  have hw := hw.2
  refine lv_if_eq (tgt := 33) hx hb dX7_coin_8 (by decide) (fun c => ?_) (fun c => ?_)
  · have hw := hw.1 c
    refine lv_iconst (v := (-1 : Int32)) hx hb dX7_coin_33 (by decide) ?_
    exact hq _ F1 G2 _ _ _ _ dX7_coin_34 h hw
  · have hw := hw.2 c
    refine lv_iload_n hx hb dX7_coin_11 rfl (lv_at hl 2 rfl) ?_
    refine lv_iconst (v := (1 : Int32)) hx hb dX7_coin_12 (by decide) ?_
    refine lv_icmp_lt (tgt := 33) hx hb dX7_coin_13 (by decide) (fun c => ?_) (fun c => ?_)
    · have hw := hw.1 c
      refine lv_iconst (v := (-1 : Int32)) hx hb dX7_coin_33 (by decide) ?_
      exact hq _ F1 G2 _ _ _ _ dX7_coin_34 h hw
    · have hw := hw.2 c
      refine lv_iload_n hx hb dX7_coin_16 rfl (lv_at hl 2 rfl) ?_
      refine lv_ldc hx hb C.2.2.2.1 (C.2.2.2.2.1 _ kc_7_114) dX7_coin_17 ?_
      refine lv_icmp_gt (tgt := 33) hx hb dX7_coin_19 (by decide) (fun c => ?_) (fun c => ?_)
      · have hw := hw.1 c
        refine lv_iconst (v := (-1 : Int32)) hx hb dX7_coin_33 (by decide) ?_
        exact hq _ F1 G2 _ _ _ _ dX7_coin_34 h hw
      · have hw := hw.2 c
        refine lv_aload_n hx hb dX7_coin_22 rfl (lv_at hl 0 rfl) ?_
        refine gX_7_33 C h dX7_coin_23 ?_
        refine lv_iload_n hx hb dX7_coin_26 rfl (lv_at hl 2 rfl) ?_
        refine kXiV C h (c_X4_mayCome x2 F1 G2 hw) lk_7_115 (rvX_4 K a F1 G2) rfl hl.1 rfl (Nat.le_of_ble_eq_true rfl) ⟨Nat.le_trans (Nat.le_of_ble_eq_true rfl) hR.1, Nat.le_trans (Nat.le_of_ble_eq_true rfl) hR.2⟩ ⟨Nat.zero_le _, Nat.zero_le _⟩ dX7_coin_27 (fun r6 F4 G5 H locs hw h => ?_)
        have hw := hw.2
        refine lv_if_ne (tgt := 35) hx hb dX7_coin_30 (by decide) (fun c => ?_) (fun c => ?_)
        · have hw := hw.1 c
          refine lv_aload_n hx hb dX7_coin_35 rfl (lv_at hl 0 rfl) ?_
          refine gX_7_33 C h dX7_coin_36 ?_
          refine lv_iload_n hx hb dX7_coin_39 rfl (lv_at hl 1 rfl) ?_
          refine lv_iload_n hx hb dX7_coin_40 rfl (lv_at hl 2 rfl) ?_
          refine kXvV C h (c_X4_bring x1 x2 F4 G5 hw) lk_7_125 (rvX_4 K a F4 G5) rfl hl.1 rfl (Nat.le_of_ble_eq_true rfl) ⟨Nat.le_trans (Nat.le_of_ble_eq_true rfl) hR.1, Nat.le_trans (Nat.le_of_ble_eq_true rfl) hR.2⟩ ⟨Nat.zero_le _, Nat.zero_le _⟩ dX7_coin_41 (fun F7 G8 H locs hw h => ?_)
          refine lv_aload_n hx hb dX7_coin_44 rfl (lv_at hl 0 rfl) ?_
          refine gX_7_33 C h dX7_coin_45 ?_
          refine kXvV C h (c_X4_settle F7 G8 hw) lk_7_129 (rvX_4 K a F7 G8) rfl hl.1 rfl (Nat.le_of_ble_eq_true rfl) ⟨Nat.le_trans (Nat.le_of_ble_eq_true rfl) hR.1, Nat.le_trans (Nat.le_of_ble_eq_true rfl) hR.2⟩ ⟨Nat.zero_le _, Nat.zero_le _⟩ dX7_coin_48 (fun F9 G10 H locs hw h => ?_)
          refine lv_aload_n hx hb dX7_coin_51 rfl (lv_at hl 0 rfl) ?_
          refine gX_7_33 C h dX7_coin_52 ?_
          refine gX_7_132 C h dX7_coin_55 ?_
          refine lv_iload_n hx hb dX7_coin_58 rfl (lv_at hl 1 rfl) ?_
          have hi := hw.1
          have hw := hw.2
          refine laX_11 C h hi dX7_coin_59 ?_
          exact hq _ F9 G10 _ _ _ _ dX7_coin_60 h hw
        · have hw := hw.2 c
          refine lv_iconst (v := (-1 : Int32)) hx hb dX7_coin_33 (by decide) ?_
          exact hq _ F4 G5 _ _ _ _ dX7_coin_34 h hw
theorem c_X7_coin {l : Launch} {K : KT} {a : Nat → Nat} (x1 : Int32) (x2 : Int32) (F : FT) (G : GT) {Q : Int32 → FT → GT → Prop} (hw : wp_X7_coin x1 x2 F G Q) : CtXi l K a yX7_coin cX7_coin 3 (some .int) 3 65 [.ref (a 0), .int x1, .int x2] F G Q := fun sz => x_met (Qm := QmXi K a Q) (by decide) (Nat.le_of_ble_eq_true rfl) (fun p e s m below meth c A ls C hr h hl => wk_X7_coin_0 ⟨Nat.le_refl _, Nat.le_refl _⟩ C (retX_z C hr (fun r F G _ => rfl)) x1 x2 F G h hl hw)
def wp_X1_add_31 (Q : Int32 → FT → GT → Prop) : Nat → Int32 → Int32 → FT → GT → Prop
  | 0, _, _, _, _ => False
  | n + 1, x2, x3, F, G => (((6 : Int32) ≤ x3) → Q x2 F G) ∧ ((¬ (6 : Int32) ≤ x3) → vp_in x2 40 ∧ vp_in x3 6 ∧ ∀ G2 : GT, G2 = gU G (x2.toNatClampNeg + 100) (upd (G (x2.toNatClampNeg + 100)) x3.toNatClampNeg (-1 : Int32)) → vp_in x2 40 ∧ vp_in x3 6 ∧ ∀ G4 : GT, G4 = gU G2 (x2.toNatClampNeg + 200) (upd (G2 (x2.toNatClampNeg + 200)) x3.toNatClampNeg (-1 : Int32)) → ∀ v5 : Int32, v5 = (x3 + 1) → wp_X1_add_31 Q n x2 v5 F G4)
def wp_X1_add_0 (Q : Int32 → FT → GT → Prop) (x1 : Int32) (F : FT) (G : GT) : Prop := ∀ F1 : FT, F1 = sU F 6 ((F 6) + (1 : Int32)) → vp_in (F 6) 40 ∧ ∀ G2 : GT, G2 = gU G 16 (upd (G 16) (F 6).toNatClampNeg x1) → vp_in (F 6) 40 ∧ ∀ G3 : GT, G3 = gU G2 17 (upd (G2 17) (F 6).toNatClampNeg x1) → ∃ n : Nat, wp_X1_add_31 Q n (F 6) (0 : Int32) F1 G3
def wp_X1_add (x1 : Int32) (F : FT) (G : GT) (Q : Int32 → FT → GT → Prop) : Prop := wp_X1_add_0 Q x1 F G
set_option maxHeartbeats 4000000 in
set_option maxRecDepth 100000 in
theorem wk_X1_add_31 {p : Program} {l : Launch} {e : Env} {R : Room} {s : State} {m : MethodId} {args : Array Value} {below : List Frame} {meth : Method} {c : Code} {K : KT} {A : Nat → Prop} {Z : State → Prop} {a : Nat → Nat} (hR : 0 ≤ R.frames ∧ 0 ≤ R.locals) (C : CX p s m args meth c K A cX1_add 4 RX1) {Q : Int32 → FT → GT → Prop} (hq : RetXi p l e R s m args below meth c K A Z a cX1_add Q) : ∀ (n : Nat) (x2 : Int32) (x3 : Int32) (F : FT) (G : GT) {H : Heap} {locs : List Loc} (h : WD K A s (wX K a F G) H locs) {ls : Array Slot} (hl : lv_has ls 4 [(0, .ref (a 5)), (2, .int x2), (3, .int x3)]) (hw : wp_X1_add_31 Q n x2 x3 F G), W p l e R s m args below meth c H locs 0 0 Z (F0 m 31 ls []) := by
  intro n
  induction n with
  | zero => intro x2 x3 F G H locs h ls hl hw; exact False.elim hw
  | succ n ih =>
    intro x2 x3 F G H locs h ls hl hw
    rw [wp_X1_add_31] at hw
    have hx := C.1
    have hb := C.2.1
    refine lv_iload_n hx hb dX1_add_31 rfl (lv_at hl 2 rfl) ?_
    refine lv_bipush (v := (6 : Int32)) hx hb dX1_add_32 (by decide) ?_
    refine lv_icmp_ge (tgt := 61) hx hb dX1_add_34 (by decide) (fun c => ?_) (fun c => ?_)
    · have hw := hw.1 c
      refine lv_iload_n hx hb dX1_add_61 rfl (lv_at hl 1 rfl) ?_
      exact hq _ F G _ _ _ _ dX1_add_62 h hw
    · have hw := hw.2 c
      refine lv_aload_n hx hb dX1_add_37 rfl (lv_at hl 0 rfl) ?_
      refine gX_1_23 C h dX1_add_38 ?_
      refine lv_iload_n hx hb dX1_add_41 rfl (lv_at hl 1 rfl) ?_
      have hi1 := hw.1
      have hw := hw.2
      refine oX_44 C h hi1 dX1_add_42 ?_
      refine lv_iload_n hx hb dX1_add_43 rfl (lv_at hl 2 rfl) ?_
      refine lv_iconst (v := (-1 : Int32)) hx hb dX1_add_44 (by decide) ?_
      have hi := hw.1
      have hw := hw.2
      refine sr_100 C h (in_lt hi1) hi dX1_add_45 (fun G2 H locs eG2 h => ?_)
      have hw := hw G2 eG2
      refine lv_aload_n hx hb dX1_add_46 rfl (lv_at hl 0 rfl) ?_
      refine gX_1_26 C h dX1_add_47 ?_
      refine lv_iload_n hx hb dX1_add_50 rfl (lv_at hl 1 rfl) ?_
      have hi3 := hw.1
      have hw := hw.2
      refine oX_45 C h hi3 dX1_add_51 ?_
      refine lv_iload_n hx hb dX1_add_52 rfl (lv_at hl 2 rfl) ?_
      refine lv_iconst (v := (-1 : Int32)) hx hb dX1_add_53 (by decide) ?_
      have hi := hw.1
      have hw := hw.2
      refine sr_200 C h (in_lt hi3) hi dX1_add_54 (fun G4 H locs eG4 h => ?_)
      have hw := hw G4 eG4
      obtain ⟨v5, ev5⟩ : ∃ z : Int32, z = (x3 + 1) := ⟨_, rfl⟩
      have hw := hw v5 ev5
      refine lv_iinc (v := v5) (lv' := [(3, .int v5), (0, .ref (a 5)), (2, .int x2)]) hx hb dX1_add_55 hl (k := 2) rfl (by rw [ev5]; rfl) (by decide) rfl (fun ls hl => ?_)
      refine lv_goto (tgt := 31) hx hb dX1_add_58 (by decide) ?_
      exact ih x2 v5 F G4 h (lv_sub hl [1, 2, 0] rfl) hw
set_option maxHeartbeats 4000000 in
set_option maxRecDepth 100000 in
theorem wk_X1_add_0 {p : Program} {l : Launch} {e : Env} {R : Room} {s : State} {m : MethodId} {args : Array Value} {below : List Frame} {meth : Method} {c : Code} {K : KT} {A : Nat → Prop} {Z : State → Prop} {a : Nat → Nat} (hR : 0 ≤ R.frames ∧ 0 ≤ R.locals) (C : CX p s m args meth c K A cX1_add 4 RX1) {Q : Int32 → FT → GT → Prop} (hq : RetXi p l e R s m args below meth c K A Z a cX1_add Q) (x1 : Int32) (F : FT) (G : GT) {H : Heap} {locs : List Loc} (h : WD K A s (wX K a F G) H locs) {ls : Array Slot} (hl : lv_has ls 4 [(0, .ref (a 5)), (1, .int x1)]) (hw : wp_X1_add_0 Q x1 F G) : W p l e R s m args below meth c H locs 0 0 Z (F0 m 0 ls []) := by
  unfold wp_X1_add_0 at hw
  have hx := C.1
  have hb := C.2.1
  refine lv_aload_n hx hb dX1_add_0 rfl (lv_at hl 0 rfl) ?_
  refine gX_1_29 C h dX1_add_1 ?_
  refine lv_istore_n (lv' := [(2, .int (F 6)), (0, .ref (a 5)), (1, .int x1)]) hx hb dX1_add_4 rfl hl (by decide) rfl (fun ls hl => ?_)
  refine lv_aload_n hx hb dX1_add_5 rfl (lv_at hl 1 rfl) ?_
  refine lv_dup hx hb dX1_add_6 rfl ?_
  refine gX_1_29 C h dX1_add_7 ?_
  refine lv_iconst (v := (1 : Int32)) hx hb dX1_add_10 (by decide) ?_
  refine lv_iadd hx hb dX1_add_11 ?_
  refine pX_1_29 C h dX1_add_12 (fun F1 H locs eF1 h => ?_)
  have hw := hw F1 eF1
  refine lv_aload_n hx hb dX1_add_15 rfl (lv_at hl 1 rfl) ?_
  refine gX_1_9 C h dX1_add_16 ?_
  refine lv_iload_n hx hb dX1_add_19 rfl (lv_at hl 0 rfl) ?_
  refine lv_iload_n hx hb dX1_add_20 rfl (lv_at hl 2 rfl) ?_
  have hi := hw.1
  have hw := hw.2
  refine saX_16 C h hi dX1_add_21 (fun G2 H locs eG2 h => ?_)
  have hw := hw G2 eG2
  refine lv_aload_n hx hb dX1_add_22 rfl (lv_at hl 1 rfl) ?_
  refine gX_1_15 C h dX1_add_23 ?_
  refine lv_iload_n hx hb dX1_add_26 rfl (lv_at hl 0 rfl) ?_
  refine lv_iload_n hx hb dX1_add_27 rfl (lv_at hl 2 rfl) ?_
  have hi := hw.1
  have hw := hw.2
  refine saX_17 C h hi dX1_add_28 (fun G3 H locs eG3 h => ?_)
  have hw := hw G3 eG3
  refine lv_iconst (v := (0 : Int32)) hx hb dX1_add_29 (by decide) ?_
  refine lv_istore_n (lv' := [(3, .int (0 : Int32)), (2, .int (F 6)), (0, .ref (a 5)), (1, .int x1)]) hx hb dX1_add_30 rfl hl (by decide) rfl (fun ls hl => ?_)
  obtain ⟨n, hw⟩ := hw
  exact wk_X1_add_31 hR C hq n (F 6) (0 : Int32) F1 G3 h (lv_sub hl [2, 1, 0] rfl) hw
theorem c_X1_add {l : Launch} {K : KT} {a : Nat → Nat} (x1 : Int32) (F : FT) (G : GT) {Q : Int32 → FT → GT → Prop} (hw : wp_X1_add x1 F G Q) : CtXi l K a yX1_add cX1_add 4 (some .int) 0 0 [.ref (a 5), .int x1] F G Q := fun sz => x_met (Qm := QmXi K a Q) (by decide) (Nat.le_of_ble_eq_true rfl) (fun p e s m below meth c A ls C hr h hl => wk_X1_add_0 ⟨Nat.le_refl _, Nat.le_refl _⟩ C (retX_z C hr (fun r F G _ => rfl)) x1 F G h hl hw)
def wp_X0_add_0 (Q : FT → GT → Prop) (x1 : Int32) (x2 : Int32) (x3 : Int32) (x4 : Int32) (F : FT) (G : GT) : Prop := (((F 7) < (400 : Int32)) → vp_in (F 7) 400 ∧ ∀ G1 : GT, G1 = gU G 19 (upd (G 19) (F 7).toNatClampNeg x1) → vp_in (F 7) 400 ∧ ∀ G2 : GT, G2 = gU G1 20 (upd (G1 20) (F 7).toNatClampNeg x2) → vp_in (F 7) 400 ∧ ∀ G3 : GT, G3 = gU G2 21 (upd (G2 21) (F 7).toNatClampNeg x3) → vp_in (F 7) 400 ∧ ∀ G4 : GT, G4 = gU G3 22 (upd (G3 22) (F 7).toNatClampNeg x4) → ∀ F5 : FT, F5 = sU F 7 ((F 7) + (1 : Int32)) → Q F5 G4) ∧ ((¬ (F 7) < (400 : Int32)) → Q F G)
def wp_X0_add (x1 : Int32) (x2 : Int32) (x3 : Int32) (x4 : Int32) (F : FT) (G : GT) (Q : FT → GT → Prop) : Prop := wp_X0_add_0 Q x1 x2 x3 x4 F G
set_option maxHeartbeats 4000000 in
set_option maxRecDepth 100000 in
theorem wk_X0_add_0 {p : Program} {l : Launch} {e : Env} {R : Room} {s : State} {m : MethodId} {args : Array Value} {below : List Frame} {meth : Method} {c : Code} {K : KT} {A : Nat → Prop} {Z : State → Prop} {a : Nat → Nat} (hR : 0 ≤ R.frames ∧ 0 ≤ R.locals) (C : CX p s m args meth c K A cX0_add 5 RX0) {Q : FT → GT → Prop} (hq : RetXv p l e R s m args below meth c K A Z a cX0_add Q) (x1 : Int32) (x2 : Int32) (x3 : Int32) (x4 : Int32) (F : FT) (G : GT) {H : Heap} {locs : List Loc} (h : WD K A s (wX K a F G) H locs) {ls : Array Slot} (hl : lv_has ls 5 [(0, .ref (a 6)), (1, .int x1), (2, .int x2), (3, .int x3), (4, .int x4)]) (hw : wp_X0_add_0 Q x1 x2 x3 x4 F G) : W p l e R s m args below meth c H locs 0 0 Z (F0 m 0 ls []) := by
  unfold wp_X0_add_0 at hw
  have hx := C.1
  have hb := C.2.1
  refine lv_aload_n hx hb dX0_add_0 rfl (lv_at hl 0 rfl) ?_
  refine gX_0_24 C h dX0_add_1 ?_
  refine lv_sipush (v := (400 : Int32)) hx hb dX0_add_4 (by decide) ?_
  refine lv_icmp_lt (tgt := 11) hx hb dX0_add_7 (by decide) (fun c => ?_) (fun c => ?_)
  · have hw := hw.1 c
    refine lv_aload_n hx hb dX0_add_11 rfl (lv_at hl 0 rfl) ?_
    refine gX_0_9 C h dX0_add_12 ?_
    refine lv_aload_n hx hb dX0_add_15 rfl (lv_at hl 0 rfl) ?_
    refine gX_0_24 C h dX0_add_16 ?_
    refine lv_iload_n hx hb dX0_add_19 rfl (lv_at hl 1 rfl) ?_
    have hi := hw.1
    have hw := hw.2
    refine saX_19 C h hi dX0_add_20 (fun G1 H locs eG1 h => ?_)
    have hw := hw G1 eG1
    refine lv_aload_n hx hb dX0_add_21 rfl (lv_at hl 0 rfl) ?_
    refine gX_0_15 C h dX0_add_22 ?_
    refine lv_aload_n hx hb dX0_add_25 rfl (lv_at hl 0 rfl) ?_
    refine gX_0_24 C h dX0_add_26 ?_
    refine lv_iload_n hx hb dX0_add_29 rfl (lv_at hl 2 rfl) ?_
    have hi := hw.1
    have hw := hw.2
    refine saX_20 C h hi dX0_add_30 (fun G2 H locs eG2 h => ?_)
    have hw := hw G2 eG2
    refine lv_aload_n hx hb dX0_add_31 rfl (lv_at hl 0 rfl) ?_
    refine gX_0_18 C h dX0_add_32 ?_
    refine lv_aload_n hx hb dX0_add_35 rfl (lv_at hl 0 rfl) ?_
    refine gX_0_24 C h dX0_add_36 ?_
    refine lv_iload_n hx hb dX0_add_39 rfl (lv_at hl 3 rfl) ?_
    have hi := hw.1
    have hw := hw.2
    refine saX_21 C h hi dX0_add_40 (fun G3 H locs eG3 h => ?_)
    have hw := hw G3 eG3
    refine lv_aload_n hx hb dX0_add_41 rfl (lv_at hl 0 rfl) ?_
    refine gX_0_21 C h dX0_add_42 ?_
    refine lv_aload_n hx hb dX0_add_45 rfl (lv_at hl 0 rfl) ?_
    refine gX_0_24 C h dX0_add_46 ?_
    refine lv_iload hx hb dX0_add_49 (lv_at hl 4 rfl) ?_
    have hi := hw.1
    have hw := hw.2
    refine saX_22 C h hi dX0_add_51 (fun G4 H locs eG4 h => ?_)
    have hw := hw G4 eG4
    refine lv_aload_n hx hb dX0_add_52 rfl (lv_at hl 0 rfl) ?_
    refine lv_dup hx hb dX0_add_53 rfl ?_
    refine gX_0_24 C h dX0_add_54 ?_
    refine lv_iconst (v := (1 : Int32)) hx hb dX0_add_57 (by decide) ?_
    refine lv_iadd hx hb dX0_add_58 ?_
    refine pX_0_24 C h dX0_add_59 (fun F5 H locs eF5 h => ?_)
    have hw := hw F5 eF5
    exact hq F5 G4 _ _ _ _ dX0_add_62 h hw
  · have hw := hw.2 c
    exact hq F G _ _ _ _ dX0_add_10 h hw
theorem c_X0_add {l : Launch} {K : KT} {a : Nat → Nat} (x1 : Int32) (x2 : Int32) (x3 : Int32) (x4 : Int32) (F : FT) (G : GT) {Q : FT → GT → Prop} (hw : wp_X0_add x1 x2 x3 x4 F G Q) : CtXv l K a yX0_add cX0_add 5 none 0 0 [.ref (a 6), .int x1, .int x2, .int x3, .int x4] F G Q := fun sz => x_met (Qm := QmXv K a Q) (by decide) (Nat.le_of_ble_eq_true rfl) (fun p e s m below meth c A ls C hr h hl => wk_X0_add_0 ⟨Nat.le_refl _, Nat.le_refl _⟩ C (retX_v C hr) x1 x2 x3 x4 F G h hl hw)
def wp_X7_horse_0 (Q : Int32 → FT → GT → Prop) (x1 : Int32) (F : FT) (G : GT) : Prop := (((40 : Int32) ≤ (F 6)) → Q (-1 : Int32) F G) ∧ ((¬ (40 : Int32) ≤ (F 6)) → wp_X4_hasPerson x1 F G (fun r3 F1 G2 => ((¬ r3 = 0) → wp_X1_add x1 F1 G2 (fun r6 F4 G5 => wp_X0_add r6 x1 (F4 0) (0 : Int32) F4 G5 (fun F7 G8 => Q r6 F7 G8))) ∧ ((r3 = 0) → Q (-1 : Int32) F1 G2)))
def wp_X7_horse (x1 : Int32) (F : FT) (G : GT) (Q : Int32 → FT → GT → Prop) : Prop := wp_X7_horse_0 Q x1 F G
set_option maxHeartbeats 4000000 in
set_option maxRecDepth 100000 in
theorem wk_X7_horse_0 {p : Program} {l : Launch} {e : Env} {R : Room} {s : State} {m : MethodId} {args : Array Value} {below : List Frame} {meth : Method} {c : Code} {K : KT} {A : Nat → Prop} {Z : State → Prop} {a : Nat → Nat} (hR : 1 ≤ R.frames ∧ 24 ≤ R.locals) (C : CX p s m args meth c K A cX7_horse 3 RX7) {Q : Int32 → FT → GT → Prop} (hq : RetXi p l e R s m args below meth c K A Z a cX7_horse Q) (x1 : Int32) (F : FT) (G : GT) {H : Heap} {locs : List Loc} (h : WD K A s (wX K a F G) H locs) {ls : Array Slot} (hl : lv_has ls 3 [(0, .ref (a 0)), (1, .int x1)]) (hw : wp_X7_horse_0 Q x1 F G) : W p l e R s m args below meth c H locs 0 0 Z (F0 m 0 ls []) := by
  unfold wp_X7_horse_0 at hw
  have hx := C.1
  have hb := C.2.1
  refine lv_aload_n hx hb dX7_horse_0 rfl (lv_at hl 0 rfl) ?_
  refine gX_7_40 C h dX7_horse_1 ?_
  refine gX_7_135 C h dX7_horse_4 ?_
  refine lv_bipush (v := (40 : Int32)) hx hb dX7_horse_7 (by decide) ?_
  refine lv_icmp_ge (tgt := 23) hx hb dX7_horse_9 (by decide) (fun c => ?_) (fun c => ?_)
  · have hw := hw.1 c
    refine lv_iconst (v := (-1 : Int32)) hx hb dX7_horse_23 (by decide) ?_
    exact hq _ F G _ _ _ _ dX7_horse_24 h hw
  · have hw := hw.2 c
    refine lv_aload_n hx hb dX7_horse_12 rfl (lv_at hl 0 rfl) ?_
    refine gX_7_33 C h dX7_horse_13 ?_
    refine lv_iload_n hx hb dX7_horse_16 rfl (lv_at hl 1 rfl) ?_
    refine kXiV C h (c_X4_hasPerson x1 F G hw) lk_7_122 (rvX_4 K a F G) rfl hl.1 rfl (Nat.le_of_ble_eq_true rfl) ⟨Nat.le_trans (Nat.le_of_ble_eq_true rfl) hR.1, Nat.le_trans (Nat.le_of_ble_eq_true rfl) hR.2⟩ ⟨Nat.zero_le _, Nat.zero_le _⟩ dX7_horse_17 (fun r3 F1 G2 H locs hw h => ?_)
    have hw := hw.2
    refine lv_if_ne (tgt := 25) hx hb dX7_horse_20 (by decide) (fun c => ?_) (fun c => ?_)
    · have hw := hw.1 c
      refine lv_aload_n hx hb dX7_horse_25 rfl (lv_at hl 0 rfl) ?_
      refine gX_7_40 C h dX7_horse_26 ?_
      refine lv_iload_n hx hb dX7_horse_29 rfl (lv_at hl 1 rfl) ?_
      refine kXiV C h (c_X1_add x1 F1 G2 hw) lk_7_138 (rvX_5 K a F1 G2) rfl hl.1 rfl (Nat.le_of_ble_eq_true rfl) ⟨Nat.le_trans (Nat.le_of_ble_eq_true rfl) hR.1, Nat.le_trans (Nat.le_of_ble_eq_true rfl) hR.2⟩ ⟨Nat.zero_le _, Nat.zero_le _⟩ dX7_horse_30 (fun r6 F4 G5 H locs hw h => ?_)
      refine lv_istore_n (lv' := [(2, .int r6), (0, .ref (a 0)), (1, .int x1)]) hx hb dX7_horse_33 rfl hl (by decide) rfl (fun ls hl => ?_)
      refine lv_aload_n hx hb dX7_horse_34 rfl (lv_at hl 1 rfl) ?_
      refine gX_7_47 C h dX7_horse_35 ?_
      refine lv_iload_n hx hb dX7_horse_38 rfl (lv_at hl 0 rfl) ?_
      refine lv_iload_n hx hb dX7_horse_39 rfl (lv_at hl 2 rfl) ?_
      refine lv_aload_n hx hb dX7_horse_40 rfl (lv_at hl 1 rfl) ?_
      refine gX_7_58 C h dX7_horse_41 ?_
      refine lv_iconst (v := (0 : Int32)) hx hb dX7_horse_44 (by decide) ?_
      refine kXvV C h (c_X0_add r6 x1 (F4 0) (0 : Int32) F4 G5 hw) lk_7_141 (rvX_6 K a F4 G5) rfl hl.1 rfl (Nat.le_of_ble_eq_true rfl) ⟨Nat.le_trans (Nat.le_of_ble_eq_true rfl) hR.1, Nat.le_trans (Nat.le_of_ble_eq_true rfl) hR.2⟩ ⟨Nat.zero_le _, Nat.zero_le _⟩ dX7_horse_45 (fun F7 G8 H locs hw h => ?_)
      refine lv_iload_n hx hb dX7_horse_48 rfl (lv_at hl 0 rfl) ?_
      exact hq _ F7 G8 _ _ _ _ dX7_horse_49 h hw
    · have hw := hw.2 c
      refine lv_iconst (v := (-1 : Int32)) hx hb dX7_horse_23 (by decide) ?_
      exact hq _ F1 G2 _ _ _ _ dX7_horse_24 h hw
theorem c_X7_horse {l : Launch} {K : KT} {a : Nat → Nat} (x1 : Int32) (F : FT) (G : GT) {Q : Int32 → FT → GT → Prop} (hw : wp_X7_horse x1 F G Q) : CtXi l K a yX7_horse cX7_horse 3 (some .int) 1 24 [.ref (a 0), .int x1] F G Q := fun sz => x_met (Qm := QmXi K a Q) (by decide) (Nat.le_of_ble_eq_true rfl) (fun p e s m below meth c A ls C hr h hl => wk_X7_horse_0 ⟨Nat.le_refl _, Nat.le_refl _⟩ C (retX_z C hr (fun r F G _ => rfl)) x1 F G h hl hw)
def wp_X1_has_0 (Q : Int32 → FT → GT → Prop) (x1 : Int32) (F : FT) (G : GT) : Prop := ((x1 < 0) → Q (0 : Int32) F G) ∧ ((¬ x1 < 0) → (((F 6) ≤ x1) → Q (0 : Int32) F G) ∧ ((¬ (F 6) ≤ x1) → Q (1 : Int32) F G))
def wp_X1_has (x1 : Int32) (F : FT) (G : GT) (Q : Int32 → FT → GT → Prop) : Prop := wp_X1_has_0 (fun r F G => (r = 0 ∨ r = 1) ∧ Q r F G) x1 F G
set_option maxHeartbeats 4000000 in
set_option maxRecDepth 100000 in
theorem wk_X1_has_0 {p : Program} {l : Launch} {e : Env} {R : Room} {s : State} {m : MethodId} {args : Array Value} {below : List Frame} {meth : Method} {c : Code} {K : KT} {A : Nat → Prop} {Z : State → Prop} {a : Nat → Nat} (hR : 0 ≤ R.frames ∧ 0 ≤ R.locals) (C : CX p s m args meth c K A cX1_has 2 RX1) {Q : Int32 → FT → GT → Prop} (hq : RetXi p l e R s m args below meth c K A Z a cX1_has Q) (x1 : Int32) (F : FT) (G : GT) {H : Heap} {locs : List Loc} (h : WD K A s (wX K a F G) H locs) {ls : Array Slot} (hl : lv_has ls 2 [(0, .ref (a 5)), (1, .int x1)]) (hw : wp_X1_has_0 Q x1 F G) : W p l e R s m args below meth c H locs 0 0 Z (F0 m 0 ls []) := by
  unfold wp_X1_has_0 at hw
  have hx := C.1
  have hb := C.2.1
  refine lv_iload_n hx hb dX1_has_0 rfl (lv_at hl 1 rfl) ?_
  refine lv_if_lt (tgt := 16) hx hb dX1_has_1 (by decide) (fun c => ?_) (fun c => ?_)
  · have hw := hw.1 c
    refine lv_iconst (v := (0 : Int32)) hx hb dX1_has_16 (by decide) ?_
    exact hq _ F G _ _ _ _ dX1_has_17 h hw
  · have hw := hw.2 c
    refine lv_iload_n hx hb dX1_has_4 rfl (lv_at hl 1 rfl) ?_
    refine lv_aload_n hx hb dX1_has_5 rfl (lv_at hl 0 rfl) ?_
    refine gX_1_29 C h dX1_has_6 ?_
    refine lv_icmp_ge (tgt := 16) hx hb dX1_has_9 (by decide) (fun c => ?_) (fun c => ?_)
    · have hw := hw.1 c
      refine lv_iconst (v := (0 : Int32)) hx hb dX1_has_16 (by decide) ?_
      exact hq _ F G _ _ _ _ dX1_has_17 h hw
    · have hw := hw.2 c
      refine lv_iconst (v := (1 : Int32)) hx hb dX1_has_12 (by decide) ?_
      refine lv_goto (tgt := 17) hx hb dX1_has_13 (by decide) ?_
      exact hq _ F G _ _ _ _ dX1_has_17 h hw
theorem c_X1_has {l : Launch} {K : KT} {a : Nat → Nat} (x1 : Int32) (F : FT) (G : GT) {Q : Int32 → FT → GT → Prop} (hw : wp_X1_has x1 F G Q) : CtXi l K a yX1_has cX1_has 2 (some .boolean) 0 0 [.ref (a 5), .int x1] F G (fun r F G => (r = 0 ∨ r = 1) ∧ Q r F G) := fun sz => x_met (Qm := QmXi K a (fun r F G => (r = 0 ∨ r = 1) ∧ Q r F G)) (by decide) (Nat.le_of_ble_eq_true rfl) (fun p e s m below meth c A ls C hr h hl => wk_X1_has_0 ⟨Nat.le_refl _, Nat.le_refl _⟩ C (retX_z C hr (fun r F G hz => by rcases hz.1 with z | z <;> rw [z] <;> rfl)) x1 F G h hl hw)
def wp_X7_whyNoSale_0 (Q : Int32 → FT → GT → Prop) (x1 : Int32) (x2 : Int32) (x3 : Int32) (x4 : Int32) (x5 : Int32) (F : FT) (G : GT) : Prop := wp_X1_has x1 F G (fun r3 F1 G2 => ((r3 = 0) → Q (1 : Int32) F1 G2) ∧ ((¬ r3 = 0) → wp_X4_hasPerson x2 F1 G2 (fun r6 F4 G5 => ((r6 = 0) → Q (1 : Int32) F4 G5) ∧ ((¬ r6 = 0) → vp_in x1 40 ∧ ((¬ (G5 16 x1.toNatClampNeg) = x2) → wp_X7_isLand x5 F4 G5 (fun r9 F7 G8 => ((r9 = 0) → Q (2 : Int32) F7 G8) ∧ ((¬ r9 = 0) → ((x3 < 0) → Q (2 : Int32) F7 G8) ∧ ((¬ x3 < 0) → (((100000 : Int32) < x3) → Q (2 : Int32) F7 G8) ∧ ((¬ (100000 : Int32) < x3) → ((x4 < 0) → Q (2 : Int32) F7 G8) ∧ ((¬ x4 < 0) → ((x4 ≤ (63 : Int32)) → vp_in x2 16 ∧ ((x3 ≤ (G8 11 x2.toNatClampNeg)) → (((F7 8) < (80 : Int32)) → Q (0 : Int32) F7 G8) ∧ ((¬ (F7 8) < (80 : Int32)) → Q (4 : Int32) F7 G8)) ∧ ((¬ x3 ≤ (G8 11 x2.toNatClampNeg)) → Q (3 : Int32) F7 G8)) ∧ ((¬ x4 ≤ (63 : Int32)) → Q (2 : Int32) F7 G8))))))) ∧ (((G5 16 x1.toNatClampNeg) = x2) → Q (1 : Int32) F4 G5)))))
def wp_X7_whyNoSale (x1 : Int32) (x2 : Int32) (x3 : Int32) (x4 : Int32) (x5 : Int32) (F : FT) (G : GT) (Q : Int32 → FT → GT → Prop) : Prop := wp_X7_whyNoSale_0 Q x1 x2 x3 x4 x5 F G
set_option maxHeartbeats 4000000 in
set_option maxRecDepth 100000 in
theorem wk_X7_whyNoSale_0 {p : Program} {l : Launch} {e : Env} {R : Room} {s : State} {m : MethodId} {args : Array Value} {below : List Frame} {meth : Method} {c : Code} {K : KT} {A : Nat → Prop} {Z : State → Prop} {a : Nat → Nat} (hR : 1 ≤ R.frames ∧ 21 ≤ R.locals) (C : CX p s m args meth c K A cX7_whyNoSale 6 RX7) {Q : Int32 → FT → GT → Prop} (hq : RetXi p l e R s m args below meth c K A Z a cX7_whyNoSale Q) (x1 : Int32) (x2 : Int32) (x3 : Int32) (x4 : Int32) (x5 : Int32) (F : FT) (G : GT) {H : Heap} {locs : List Loc} (h : WD K A s (wX K a F G) H locs) {ls : Array Slot} (hl : lv_has ls 6 [(0, .ref (a 0)), (1, .int x1), (2, .int x2), (3, .int x3), (4, .int x4), (5, .int x5)]) (hw : wp_X7_whyNoSale_0 Q x1 x2 x3 x4 x5 F G) : W p l e R s m args below meth c H locs 0 0 Z (F0 m 0 ls []) := by
  unfold wp_X7_whyNoSale_0 at hw
  have hx := C.1
  have hb := C.2.1
  refine lv_aload_n hx hb dX7_whyNoSale_0 rfl (lv_at hl 0 rfl) ?_
  refine gX_7_40 C h dX7_whyNoSale_1 ?_
  refine lv_iload_n hx hb dX7_whyNoSale_4 rfl (lv_at hl 1 rfl) ?_
  refine kXiV C h (c_X1_has x1 F G hw) lk_7_167 (rvX_5 K a F G) rfl hl.1 rfl (Nat.le_of_ble_eq_true rfl) ⟨Nat.le_trans (Nat.le_of_ble_eq_true rfl) hR.1, Nat.le_trans (Nat.le_of_ble_eq_true rfl) hR.2⟩ ⟨Nat.zero_le _, Nat.zero_le _⟩ dX7_whyNoSale_5 (fun r3 F1 G2 H locs hw h => ?_)
  have hw := hw.2
  refine lv_if_eq (tgt := 35) hx hb dX7_whyNoSale_8 (by decide) (fun c => ?_) (fun c => ?_)
  · have hw := hw.1 c
    refine lv_iconst (v := (1 : Int32)) hx hb dX7_whyNoSale_35 (by decide) ?_
    exact hq _ F1 G2 _ _ _ _ dX7_whyNoSale_36 h hw
  · have hw := hw.2 c
    refine lv_aload_n hx hb dX7_whyNoSale_11 rfl (lv_at hl 0 rfl) ?_
    refine gX_7_33 C h dX7_whyNoSale_12 ?_
    refine lv_iload_n hx hb dX7_whyNoSale_15 rfl (lv_at hl 2 rfl) ?_
    refine kXiV C h (c_X4_hasPerson x2 F1 G2 hw) lk_7_122 (rvX_4 K a F1 G2) rfl hl.1 rfl (Nat.le_of_ble_eq_true rfl) ⟨Nat.le_trans (Nat.le_of_ble_eq_true rfl) hR.1, Nat.le_trans (Nat.le_of_ble_eq_true rfl) hR.2⟩ ⟨Nat.zero_le _, Nat.zero_le _⟩ dX7_whyNoSale_16 (fun r6 F4 G5 H locs hw h => ?_)
    have hw := hw.2
    refine lv_if_eq (tgt := 35) hx hb dX7_whyNoSale_19 (by decide) (fun c => ?_) (fun c => ?_)
    · have hw := hw.1 c
      refine lv_iconst (v := (1 : Int32)) hx hb dX7_whyNoSale_35 (by decide) ?_
      exact hq _ F4 G5 _ _ _ _ dX7_whyNoSale_36 h hw
    · have hw := hw.2 c
      refine lv_aload_n hx hb dX7_whyNoSale_22 rfl (lv_at hl 0 rfl) ?_
      refine gX_7_40 C h dX7_whyNoSale_23 ?_
      refine gX_7_148 C h dX7_whyNoSale_26 ?_
      refine lv_iload_n hx hb dX7_whyNoSale_29 rfl (lv_at hl 1 rfl) ?_
      have hi := hw.1
      have hw := hw.2
      refine laX_16 C h hi dX7_whyNoSale_30 ?_
      refine lv_iload_n hx hb dX7_whyNoSale_31 rfl (lv_at hl 2 rfl) ?_
      refine lv_icmp_ne (tgt := 37) hx hb dX7_whyNoSale_32 (by decide) (fun c => ?_) (fun c => ?_)
      · have hw := hw.1 c
        refine lv_iload hx hb dX7_whyNoSale_37 (lv_at hl 5 rfl) ?_
        refine kXiS C h (c_X7_isLand x5 F4 G5 hw) lk_7_72 rfl hl.1 rfl (Nat.le_of_ble_eq_true rfl) ⟨Nat.le_trans (Nat.le_of_ble_eq_true rfl) hR.1, Nat.le_trans (Nat.le_of_ble_eq_true rfl) hR.2⟩ ⟨Nat.zero_le _, Nat.zero_le _⟩ dX7_whyNoSale_39 (fun r9 F7 G8 H locs hw h => ?_)
        have hw := hw.2
        refine lv_if_eq (tgt := 68) hx hb dX7_whyNoSale_42 (by decide) (fun c => ?_) (fun c => ?_)
        · have hw := hw.1 c
          refine lv_iconst (v := (2 : Int32)) hx hb dX7_whyNoSale_68 (by decide) ?_
          exact hq _ F7 G8 _ _ _ _ dX7_whyNoSale_69 h hw
        · have hw := hw.2 c
          refine lv_iload_n hx hb dX7_whyNoSale_45 rfl (lv_at hl 3 rfl) ?_
          refine lv_if_lt (tgt := 68) hx hb dX7_whyNoSale_46 (by decide) (fun c => ?_) (fun c => ?_)
          · have hw := hw.1 c
            refine lv_iconst (v := (2 : Int32)) hx hb dX7_whyNoSale_68 (by decide) ?_
            exact hq _ F7 G8 _ _ _ _ dX7_whyNoSale_69 h hw
          · have hw := hw.2 c
            refine lv_iload_n hx hb dX7_whyNoSale_49 rfl (lv_at hl 3 rfl) ?_
            refine lv_ldcw hx hb C.2.2.2.1 (C.2.2.2.2.1 _ kc_7_301) dX7_whyNoSale_50 ?_
            refine lv_icmp_gt (tgt := 68) hx hb dX7_whyNoSale_53 (by decide) (fun c => ?_) (fun c => ?_)
            · have hw := hw.1 c
              refine lv_iconst (v := (2 : Int32)) hx hb dX7_whyNoSale_68 (by decide) ?_
              exact hq _ F7 G8 _ _ _ _ dX7_whyNoSale_69 h hw
            · have hw := hw.2 c
              refine lv_iload hx hb dX7_whyNoSale_56 (lv_at hl 4 rfl) ?_
              refine lv_if_lt (tgt := 68) hx hb dX7_whyNoSale_58 (by decide) (fun c => ?_) (fun c => ?_)
              · have hw := hw.1 c
                refine lv_iconst (v := (2 : Int32)) hx hb dX7_whyNoSale_68 (by decide) ?_
                exact hq _ F7 G8 _ _ _ _ dX7_whyNoSale_69 h hw
              · have hw := hw.2 c
                refine lv_iload hx hb dX7_whyNoSale_61 (lv_at hl 4 rfl) ?_
                refine lv_bipush (v := (63 : Int32)) hx hb dX7_whyNoSale_63 (by decide) ?_
                refine lv_icmp_le (tgt := 70) hx hb dX7_whyNoSale_65 (by decide) (fun c => ?_) (fun c => ?_)
                · have hw := hw.1 c
                  refine lv_aload_n hx hb dX7_whyNoSale_70 rfl (lv_at hl 0 rfl) ?_
                  refine gX_7_33 C h dX7_whyNoSale_71 ?_
                  refine gX_7_132 C h dX7_whyNoSale_74 ?_
                  refine lv_iload_n hx hb dX7_whyNoSale_77 rfl (lv_at hl 2 rfl) ?_
                  have hi := hw.1
                  have hw := hw.2
                  refine laX_11 C h hi dX7_whyNoSale_78 ?_
                  refine lv_iload_n hx hb dX7_whyNoSale_79 rfl (lv_at hl 3 rfl) ?_
                  refine lv_icmp_ge (tgt := 85) hx hb dX7_whyNoSale_80 (by decide) (fun c => ?_) (fun c => ?_)
                  · have hw := hw.1 c
                    refine lv_aload_n hx hb dX7_whyNoSale_85 rfl (lv_at hl 0 rfl) ?_
                    refine gX_7_54 C h dX7_whyNoSale_86 ?_
                    refine gX_7_190 C h dX7_whyNoSale_89 ?_
                    refine lv_bipush (v := (80 : Int32)) hx hb dX7_whyNoSale_92 (by decide) ?_
                    refine lv_icmp_lt (tgt := 101) hx hb dX7_whyNoSale_94 (by decide) (fun c => ?_) (fun c => ?_)
                    · have hw := hw.1 c
                      refine lv_iconst (v := (0 : Int32)) hx hb dX7_whyNoSale_101 (by decide) ?_
                      exact hq _ F7 G8 _ _ _ _ dX7_whyNoSale_102 h hw
                    · have hw := hw.2 c
                      refine lv_iconst (v := (4 : Int32)) hx hb dX7_whyNoSale_97 (by decide) ?_
                      refine lv_goto (tgt := 102) hx hb dX7_whyNoSale_98 (by decide) ?_
                      exact hq _ F7 G8 _ _ _ _ dX7_whyNoSale_102 h hw
                  · have hw := hw.2 c
                    refine lv_iconst (v := (3 : Int32)) hx hb dX7_whyNoSale_83 (by decide) ?_
                    exact hq _ F7 G8 _ _ _ _ dX7_whyNoSale_84 h hw
                · have hw := hw.2 c
                  refine lv_iconst (v := (2 : Int32)) hx hb dX7_whyNoSale_68 (by decide) ?_
                  exact hq _ F7 G8 _ _ _ _ dX7_whyNoSale_69 h hw
      · have hw := hw.2 c
        refine lv_iconst (v := (1 : Int32)) hx hb dX7_whyNoSale_35 (by decide) ?_
        exact hq _ F4 G5 _ _ _ _ dX7_whyNoSale_36 h hw
theorem c_X7_whyNoSale {l : Launch} {K : KT} {a : Nat → Nat} (x1 : Int32) (x2 : Int32) (x3 : Int32) (x4 : Int32) (x5 : Int32) (F : FT) (G : GT) {Q : Int32 → FT → GT → Prop} (hw : wp_X7_whyNoSale x1 x2 x3 x4 x5 F G Q) : CtXi l K a yX7_whyNoSale cX7_whyNoSale 6 (some .int) 1 21 [.ref (a 0), .int x1, .int x2, .int x3, .int x4, .int x5] F G Q := fun sz => x_met (Qm := QmXi K a Q) (by decide) (Nat.le_of_ble_eq_true rfl) (fun p e s m below meth c A ls C hr h hl => wk_X7_whyNoSale_0 ⟨Nat.le_refl _, Nat.le_refl _⟩ C (retX_z C hr (fun r F G _ => rfl)) x1 x2 x3 x4 x5 F G h hl hw)
def wp_X5_add_0 (Q : Int32 → FT → GT → Prop) (x1 : Int32) (x2 : Int32) (x3 : Int32) (x4 : Int32) (F : FT) (G : GT) : Prop := ∀ F1 : FT, F1 = sU F 8 ((F 8) + (1 : Int32)) → vp_in (F 8) 80 ∧ ∀ G2 : GT, G2 = gU G 23 (upd (G 23) (F 8).toNatClampNeg x1) → vp_in (F 8) 80 ∧ ∀ G3 : GT, G3 = gU G2 24 (upd (G2 24) (F 8).toNatClampNeg x2) → vp_in (F 8) 80 ∧ ∀ G4 : GT, G4 = gU G3 25 (upd (G3 25) (F 8).toNatClampNeg x3) → vp_in (F 8) 80 ∧ ∀ G5 : GT, G5 = gU G4 31 (upd (G4 31) (F 8).toNatClampNeg (vp_nar .boolean x4)) → Q (F 8) F1 G5
def wp_X5_add (x1 : Int32) (x2 : Int32) (x3 : Int32) (x4 : Int32) (F : FT) (G : GT) (Q : Int32 → FT → GT → Prop) : Prop := wp_X5_add_0 Q x1 x2 x3 x4 F G
set_option maxHeartbeats 4000000 in
set_option maxRecDepth 100000 in
theorem wk_X5_add_0 {p : Program} {l : Launch} {e : Env} {R : Room} {s : State} {m : MethodId} {args : Array Value} {below : List Frame} {meth : Method} {c : Code} {K : KT} {A : Nat → Prop} {Z : State → Prop} {a : Nat → Nat} (hR : 0 ≤ R.frames ∧ 0 ≤ R.locals) (C : CX p s m args meth c K A cX5_add 6 RX5) {Q : Int32 → FT → GT → Prop} (hq : RetXi p l e R s m args below meth c K A Z a cX5_add Q) (x1 : Int32) (x2 : Int32) (x3 : Int32) (x4 : Int32) (F : FT) (G : GT) {H : Heap} {locs : List Loc} (h : WD K A s (wX K a F G) H locs) {ls : Array Slot} (hl : lv_has ls 6 [(0, .ref (a 7)), (1, .int x1), (2, .int x2), (3, .int x3), (4, .int x4)]) (hw : wp_X5_add_0 Q x1 x2 x3 x4 F G) : W p l e R s m args below meth c H locs 0 0 Z (F0 m 0 ls []) := by
  unfold wp_X5_add_0 at hw
  have hx := C.1
  have hb := C.2.1
  refine lv_aload_n hx hb dX5_add_0 rfl (lv_at hl 0 rfl) ?_
  refine gX_5_40 C h dX5_add_1 ?_
  refine lv_istore (lv' := [(5, .int (F 8)), (0, .ref (a 7)), (1, .int x1), (2, .int x2), (3, .int x3), (4, .int x4)]) hx hb dX5_add_4 hl (by decide) rfl (fun ls hl => ?_)
  refine lv_aload_n hx hb dX5_add_6 rfl (lv_at hl 1 rfl) ?_
  refine lv_dup hx hb dX5_add_7 rfl ?_
  refine gX_5_40 C h dX5_add_8 ?_
  refine lv_iconst (v := (1 : Int32)) hx hb dX5_add_11 (by decide) ?_
  refine lv_iadd hx hb dX5_add_12 ?_
  refine pX_5_40 C h dX5_add_13 (fun F1 H locs eF1 h => ?_)
  have hw := hw F1 eF1
  refine lv_aload_n hx hb dX5_add_16 rfl (lv_at hl 1 rfl) ?_
  refine gX_5_9 C h dX5_add_17 ?_
  refine lv_iload hx hb dX5_add_20 (lv_at hl 0 rfl) ?_
  refine lv_iload_n hx hb dX5_add_22 rfl (lv_at hl 2 rfl) ?_
  have hi := hw.1
  have hw := hw.2
  refine saX_23 C h hi dX5_add_23 (fun G2 H locs eG2 h => ?_)
  have hw := hw G2 eG2
  refine lv_aload_n hx hb dX5_add_24 rfl (lv_at hl 1 rfl) ?_
  refine gX_5_15 C h dX5_add_25 ?_
  refine lv_iload hx hb dX5_add_28 (lv_at hl 0 rfl) ?_
  refine lv_iload_n hx hb dX5_add_30 rfl (lv_at hl 3 rfl) ?_
  have hi := hw.1
  have hw := hw.2
  refine saX_24 C h hi dX5_add_31 (fun G3 H locs eG3 h => ?_)
  have hw := hw G3 eG3
  refine lv_aload_n hx hb dX5_add_32 rfl (lv_at hl 1 rfl) ?_
  refine gX_5_18 C h dX5_add_33 ?_
  refine lv_iload hx hb dX5_add_36 (lv_at hl 0 rfl) ?_
  refine lv_iload_n hx hb dX5_add_38 rfl (lv_at hl 4 rfl) ?_
  have hi := hw.1
  have hw := hw.2
  refine saX_25 C h hi dX5_add_39 (fun G4 H locs eG4 h => ?_)
  have hw := hw G4 eG4
  refine lv_aload_n hx hb dX5_add_40 rfl (lv_at hl 1 rfl) ?_
  refine gX_5_37 C h dX5_add_41 ?_
  refine lv_iload hx hb dX5_add_44 (lv_at hl 0 rfl) ?_
  refine lv_iload hx hb dX5_add_46 (lv_at hl 5 rfl) ?_
  have hi := hw.1
  have hw := hw.2
  refine saX_31 C h hi dX5_add_48 (fun G5 H locs eG5 h => ?_)
  have hw := hw G5 eG5
  refine lv_iload hx hb dX5_add_49 (lv_at hl 0 rfl) ?_
  exact hq _ F1 G5 _ _ _ _ dX5_add_51 h hw
theorem c_X5_add {l : Launch} {K : KT} {a : Nat → Nat} (x1 : Int32) (x2 : Int32) (x3 : Int32) (x4 : Int32) (F : FT) (G : GT) {Q : Int32 → FT → GT → Prop} (hw : wp_X5_add x1 x2 x3 x4 F G Q) : CtXi l K a yX5_add cX5_add 6 (some .int) 0 0 [.ref (a 7), .int x1, .int x2, .int x3, .int x4] F G Q := fun sz => x_met (Qm := QmXi K a Q) (by decide) (Nat.le_of_ble_eq_true rfl) (fun p e s m below meth c A ls C hr h hl => wk_X5_add_0 ⟨Nat.le_refl _, Nat.le_refl _⟩ C (retX_z C hr (fun r F G _ => rfl)) x1 x2 x3 x4 F G h hl hw)
def wp_X5_setTerms_0 (Q : FT → GT → Prop) (x1 : Int32) (x2 : Int32) (x3 : Int32) (x4 : Int32) (x5 : Int32) (F : FT) (G : GT) : Prop := vp_in x1 80 ∧ ∀ G1 : GT, G1 = gU G 26 (upd (G 26) x1.toNatClampNeg x2) → vp_in x1 80 ∧ ∀ G2 : GT, G2 = gU G1 27 (upd (G1 27) x1.toNatClampNeg x3) → vp_in x1 80 ∧ ∀ G3 : GT, G3 = gU G2 28 (upd (G2 28) x1.toNatClampNeg x4) → vp_in x1 80 ∧ ∀ G4 : GT, G4 = gU G3 29 (upd (G3 29) x1.toNatClampNeg x5) → Q F G4
def wp_X5_setTerms (x1 : Int32) (x2 : Int32) (x3 : Int32) (x4 : Int32) (x5 : Int32) (F : FT) (G : GT) (Q : FT → GT → Prop) : Prop := wp_X5_setTerms_0 Q x1 x2 x3 x4 x5 F G
set_option maxHeartbeats 4000000 in
set_option maxRecDepth 100000 in
theorem wk_X5_setTerms_0 {p : Program} {l : Launch} {e : Env} {R : Room} {s : State} {m : MethodId} {args : Array Value} {below : List Frame} {meth : Method} {c : Code} {K : KT} {A : Nat → Prop} {Z : State → Prop} {a : Nat → Nat} (hR : 0 ≤ R.frames ∧ 0 ≤ R.locals) (C : CX p s m args meth c K A cX5_setTerms 6 RX5) {Q : FT → GT → Prop} (hq : RetXv p l e R s m args below meth c K A Z a cX5_setTerms Q) (x1 : Int32) (x2 : Int32) (x3 : Int32) (x4 : Int32) (x5 : Int32) (F : FT) (G : GT) {H : Heap} {locs : List Loc} (h : WD K A s (wX K a F G) H locs) {ls : Array Slot} (hl : lv_has ls 6 [(0, .ref (a 7)), (1, .int x1), (2, .int x2), (3, .int x3), (4, .int x4), (5, .int x5)]) (hw : wp_X5_setTerms_0 Q x1 x2 x3 x4 x5 F G) : W p l e R s m args below meth c H locs 0 0 Z (F0 m 0 ls []) := by
  unfold wp_X5_setTerms_0 at hw
  have hx := C.1
  have hb := C.2.1
  refine lv_aload_n hx hb dX5_setTerms_0 rfl (lv_at hl 0 rfl) ?_
  refine gX_5_21 C h dX5_setTerms_1 ?_
  refine lv_iload_n hx hb dX5_setTerms_4 rfl (lv_at hl 1 rfl) ?_
  refine lv_iload_n hx hb dX5_setTerms_5 rfl (lv_at hl 2 rfl) ?_
  have hi := hw.1
  have hw := hw.2
  refine saX_26 C h hi dX5_setTerms_6 (fun G1 H locs eG1 h => ?_)
  have hw := hw G1 eG1
  refine lv_aload_n hx hb dX5_setTerms_7 rfl (lv_at hl 0 rfl) ?_
  refine gX_5_24 C h dX5_setTerms_8 ?_
  refine lv_iload_n hx hb dX5_setTerms_11 rfl (lv_at hl 1 rfl) ?_
  refine lv_iload_n hx hb dX5_setTerms_12 rfl (lv_at hl 3 rfl) ?_
  have hi := hw.1
  have hw := hw.2
  refine saX_27 C h hi dX5_setTerms_13 (fun G2 H locs eG2 h => ?_)
  have hw := hw G2 eG2
  refine lv_aload_n hx hb dX5_setTerms_14 rfl (lv_at hl 0 rfl) ?_
  refine gX_5_27 C h dX5_setTerms_15 ?_
  refine lv_iload_n hx hb dX5_setTerms_18 rfl (lv_at hl 1 rfl) ?_
  refine lv_iload hx hb dX5_setTerms_19 (lv_at hl 4 rfl) ?_
  have hi := hw.1
  have hw := hw.2
  refine saX_28 C h hi dX5_setTerms_21 (fun G3 H locs eG3 h => ?_)
  have hw := hw G3 eG3
  refine lv_aload_n hx hb dX5_setTerms_22 rfl (lv_at hl 0 rfl) ?_
  refine gX_5_30 C h dX5_setTerms_23 ?_
  refine lv_iload_n hx hb dX5_setTerms_26 rfl (lv_at hl 1 rfl) ?_
  refine lv_iload hx hb dX5_setTerms_27 (lv_at hl 5 rfl) ?_
  have hi := hw.1
  have hw := hw.2
  refine saX_29 C h hi dX5_setTerms_29 (fun G4 H locs eG4 h => ?_)
  have hw := hw G4 eG4
  exact hq F G4 _ _ _ _ dX5_setTerms_30 h hw
theorem c_X5_setTerms {l : Launch} {K : KT} {a : Nat → Nat} (x1 : Int32) (x2 : Int32) (x3 : Int32) (x4 : Int32) (x5 : Int32) (F : FT) (G : GT) {Q : FT → GT → Prop} (hw : wp_X5_setTerms x1 x2 x3 x4 x5 F G Q) : CtXv l K a yX5_setTerms cX5_setTerms 6 none 0 0 [.ref (a 7), .int x1, .int x2, .int x3, .int x4, .int x5] F G Q := fun sz => x_met (Qm := QmXv K a Q) (by decide) (Nat.le_of_ble_eq_true rfl) (fun p e s m below meth c A ls C hr h hl => wk_X5_setTerms_0 ⟨Nat.le_refl _, Nat.le_refl _⟩ C (retX_v C hr) x1 x2 x3 x4 x5 F G h hl hw)
def wp_X7_payPrice_0 (Q : FT → GT → Prop) (x1 : Int32) (F : FT) (G : GT) : Prop := vp_in x1 80 ∧ vp_in x1 80 ∧ wp_X2_number (G 28 x1.toNatClampNeg) (0 : Int32) F G (fun r3 F1 G2 => ∀ v4 : Int32, v4 = (((G 26 x1.toNatClampNeg) * r3) / (1000 : Int32)) → vp_in x1 80 ∧ vp_in (G2 25 x1.toNatClampNeg) 16 ∧ ∀ v5 : Int32, v5 = ((G2 11 (G2 25 x1.toNatClampNeg).toNatClampNeg) - (G 26 x1.toNatClampNeg)) → vp_in (G2 25 x1.toNatClampNeg) 16 ∧ ∀ G6 : GT, G6 = gU G2 11 (upd (G2 11) (G2 25 x1.toNatClampNeg).toNatClampNeg v5) → vp_in x1 80 ∧ vp_in (G6 24 x1.toNatClampNeg) 16 ∧ ∀ v7 : Int32, v7 = ((G6 11 (G6 24 x1.toNatClampNeg).toNatClampNeg) + ((G 26 x1.toNatClampNeg) - v4)) → vp_in (G6 24 x1.toNatClampNeg) 16 ∧ ∀ G8 : GT, G8 = gU G6 11 (upd (G6 11) (G6 24 x1.toNatClampNeg).toNatClampNeg v7) → vp_in (G 28 x1.toNatClampNeg) 3 ∧ ∀ v9 : Int32, v9 = ((G8 10 (G 28 x1.toNatClampNeg).toNatClampNeg) + v4) → vp_in (G 28 x1.toNatClampNeg) 3 ∧ ∀ G10 : GT, G10 = gU G8 10 (upd (G8 10) (G 28 x1.toNatClampNeg).toNatClampNeg v9) → wp_X4_settle F1 G10 (fun F11 G12 => Q F11 G12))
def wp_X7_payPrice (x1 : Int32) (F : FT) (G : GT) (Q : FT → GT → Prop) : Prop := wp_X7_payPrice_0 Q x1 F G
set_option maxHeartbeats 4000000 in
set_option maxRecDepth 100000 in
theorem wk_X7_payPrice_0 {p : Program} {l : Launch} {e : Env} {R : Room} {s : State} {m : MethodId} {args : Array Value} {below : List Frame} {meth : Method} {c : Code} {K : KT} {A : Nat → Prop} {Z : State → Prop} {a : Nat → Nat} (hR : 3 ≤ R.frames ∧ 65 ≤ R.locals) (C : CX p s m args meth c K A cX7_payPrice 5 RX7) {Q : FT → GT → Prop} (hq : RetXv p l e R s m args below meth c K A Z a cX7_payPrice Q) (x1 : Int32) (F : FT) (G : GT) {H : Heap} {locs : List Loc} (h : WD K A s (wX K a F G) H locs) {ls : Array Slot} (hl : lv_has ls 5 [(0, .ref (a 0)), (1, .int x1)]) (hw : wp_X7_payPrice_0 Q x1 F G) : W p l e R s m args below meth c H locs 0 0 Z (F0 m 0 ls []) := by
  unfold wp_X7_payPrice_0 at hw
  have hx := C.1
  have hb := C.2.1
  refine lv_aload_n hx hb dX7_payPrice_0 rfl (lv_at hl 0 rfl) ?_
  refine gX_7_54 C h dX7_payPrice_1 ?_
  refine gX_7_240 C h dX7_payPrice_4 ?_
  refine lv_iload_n hx hb dX7_payPrice_7 rfl (lv_at hl 1 rfl) ?_
  have hi := hw.1
  have hw := hw.2
  refine laX_28 C h hi dX7_payPrice_8 ?_
  refine lv_istore_n (lv' := [(2, .int (G 28 x1.toNatClampNeg)), (0, .ref (a 0)), (1, .int x1)]) hx hb dX7_payPrice_9 rfl hl (by decide) rfl (fun ls hl => ?_)
  refine lv_aload_n hx hb dX7_payPrice_10 rfl (lv_at hl 1 rfl) ?_
  refine gX_7_54 C h dX7_payPrice_11 ?_
  refine gX_7_234 C h dX7_payPrice_14 ?_
  refine lv_iload_n hx hb dX7_payPrice_17 rfl (lv_at hl 2 rfl) ?_
  have hi := hw.1
  have hw := hw.2
  refine laX_26 C h hi dX7_payPrice_18 ?_
  refine lv_istore_n (lv' := [(3, .int (G 26 x1.toNatClampNeg)), (2, .int (G 28 x1.toNatClampNeg)), (0, .ref (a 0)), (1, .int x1)]) hx hb dX7_payPrice_19 rfl hl (by decide) rfl (fun ls hl => ?_)
  refine lv_iload_n hx hb dX7_payPrice_20 rfl (lv_at hl 0 rfl) ?_
  refine lv_aload_n hx hb dX7_payPrice_21 rfl (lv_at hl 2 rfl) ?_
  refine gX_7_26 C h dX7_payPrice_22 ?_
  refine lv_iload_n hx hb dX7_payPrice_25 rfl (lv_at hl 1 rfl) ?_
  refine lv_iconst (v := (0 : Int32)) hx hb dX7_payPrice_26 (by decide) ?_
  refine kXiV C h (c_X2_number (G 28 x1.toNatClampNeg) (0 : Int32) F G hw) lk_7_107 (rvX_3 K a F G) rfl hl.1 rfl (Nat.le_of_ble_eq_true rfl) ⟨Nat.le_trans (Nat.le_of_ble_eq_true rfl) hR.1, Nat.le_trans (Nat.le_of_ble_eq_true rfl) hR.2⟩ ⟨Nat.zero_le _, Nat.zero_le _⟩ dX7_payPrice_27 (fun r3 F1 G2 H locs hw h => ?_)
  refine lv_imul hx hb dX7_payPrice_30 ?_
  refine lv_sipush (v := (1000 : Int32)) hx hb dX7_payPrice_31 (by decide) ?_
  refine lv_idiv hx hb dX7_payPrice_34 (by decide) ?_
  refine lv_topi (fun v4 ev4 => ?_)
  have hw := hw v4 ev4
  refine lv_istore (lv' := [(4, .int v4), (3, .int (G 26 x1.toNatClampNeg)), (2, .int (G 28 x1.toNatClampNeg)), (0, .ref (a 0)), (1, .int x1)]) hx hb dX7_payPrice_35 hl (by decide) rfl (fun ls hl => ?_)
  refine lv_aload_n hx hb dX7_payPrice_37 rfl (lv_at hl 3 rfl) ?_
  refine gX_7_33 C h dX7_payPrice_38 ?_
  refine gX_7_132 C h dX7_payPrice_41 ?_
  refine lv_aload_n hx hb dX7_payPrice_44 rfl (lv_at hl 3 rfl) ?_
  refine gX_7_54 C h dX7_payPrice_45 ?_
  refine gX_7_231 C h dX7_payPrice_48 ?_
  refine lv_iload_n hx hb dX7_payPrice_51 rfl (lv_at hl 4 rfl) ?_
  have hi := hw.1
  have hw := hw.2
  refine laX_25 C h hi dX7_payPrice_52 ?_
  refine lv_dup2_11 hx hb dX7_payPrice_53 rfl rfl ?_
  have hi := hw.1
  have hw := hw.2
  refine laX_11 C h hi dX7_payPrice_54 ?_
  refine lv_iload_n hx hb dX7_payPrice_55 rfl (lv_at hl 1 rfl) ?_
  refine lv_isub hx hb dX7_payPrice_56 ?_
  refine lv_topi (fun v5 ev5 => ?_)
  have hw := hw v5 ev5
  have hi := hw.1
  have hw := hw.2
  refine saX_11 C h hi dX7_payPrice_57 (fun G6 H locs eG6 h => ?_)
  have hw := hw G6 eG6
  refine lv_aload_n hx hb dX7_payPrice_58 rfl (lv_at hl 3 rfl) ?_
  refine gX_7_33 C h dX7_payPrice_59 ?_
  refine gX_7_132 C h dX7_payPrice_62 ?_
  refine lv_aload_n hx hb dX7_payPrice_65 rfl (lv_at hl 3 rfl) ?_
  refine gX_7_54 C h dX7_payPrice_66 ?_
  refine gX_7_228 C h dX7_payPrice_69 ?_
  refine lv_iload_n hx hb dX7_payPrice_72 rfl (lv_at hl 4 rfl) ?_
  have hi := hw.1
  have hw := hw.2
  refine laX_24 C h hi dX7_payPrice_73 ?_
  refine lv_dup2_11 hx hb dX7_payPrice_74 rfl rfl ?_
  have hi := hw.1
  have hw := hw.2
  refine laX_11 C h hi dX7_payPrice_75 ?_
  refine lv_iload_n hx hb dX7_payPrice_76 rfl (lv_at hl 1 rfl) ?_
  refine lv_iload hx hb dX7_payPrice_77 (lv_at hl 0 rfl) ?_
  refine lv_isub hx hb dX7_payPrice_79 ?_
  refine lv_iadd hx hb dX7_payPrice_80 ?_
  refine lv_topi (fun v7 ev7 => ?_)
  have hw := hw v7 ev7
  have hi := hw.1
  have hw := hw.2
  refine saX_11 C h hi dX7_payPrice_81 (fun G8 H locs eG8 h => ?_)
  have hw := hw G8 eG8
  refine lv_aload_n hx hb dX7_payPrice_82 rfl (lv_at hl 3 rfl) ?_
  refine gX_7_26 C h dX7_payPrice_83 ?_
  refine gX_7_104 C h dX7_payPrice_86 ?_
  refine lv_iload_n hx hb dX7_payPrice_89 rfl (lv_at hl 2 rfl) ?_
  refine lv_dup2_11 hx hb dX7_payPrice_90 rfl rfl ?_
  have hi := hw.1
  have hw := hw.2
  refine laX_10 C h hi dX7_payPrice_91 ?_
  refine lv_iload hx hb dX7_payPrice_92 (lv_at hl 0 rfl) ?_
  refine lv_iadd hx hb dX7_payPrice_94 ?_
  refine lv_topi (fun v9 ev9 => ?_)
  have hw := hw v9 ev9
  have hi := hw.1
  have hw := hw.2
  refine saX_10 C h hi dX7_payPrice_95 (fun G10 H locs eG10 h => ?_)
  have hw := hw G10 eG10
  refine lv_aload_n hx hb dX7_payPrice_96 rfl (lv_at hl 3 rfl) ?_
  refine gX_7_33 C h dX7_payPrice_97 ?_
  refine kXvV C h (c_X4_settle F1 G10 hw) lk_7_129 (rvX_4 K a F1 G10) rfl hl.1 rfl (Nat.le_of_ble_eq_true rfl) ⟨Nat.le_trans (Nat.le_of_ble_eq_true rfl) hR.1, Nat.le_trans (Nat.le_of_ble_eq_true rfl) hR.2⟩ ⟨Nat.zero_le _, Nat.zero_le _⟩ dX7_payPrice_100 (fun F11 G12 H locs hw h => ?_)
  exact hq F11 G12 _ _ _ _ dX7_payPrice_103 h hw
theorem c_X7_payPrice {l : Launch} {K : KT} {a : Nat → Nat} (x1 : Int32) (F : FT) (G : GT) {Q : FT → GT → Prop} (hw : wp_X7_payPrice x1 F G Q) : CtXv l K a yX7_payPrice cX7_payPrice 5 none 3 65 [.ref (a 0), .int x1] F G Q := fun sz => x_met (Qm := QmXv K a Q) (by decide) (Nat.le_of_ble_eq_true rfl) (fun p e s m below meth c A ls C hr h hl => wk_X7_payPrice_0 ⟨Nat.le_refl _, Nat.le_refl _⟩ C (retX_v C hr) x1 F G h hl hw)
def wp_X1_isApart_0 (Q : Int32 → FT → GT → Prop) (x1 : Int32) (F : FT) (G : GT) : Prop := vp_in x1 40 ∧ vp_in x1 40 ∧ (((G 16 x1.toNatClampNeg) = (G 17 x1.toNatClampNeg)) → Q (0 : Int32) F G) ∧ ((¬ (G 16 x1.toNatClampNeg) = (G 17 x1.toNatClampNeg)) → Q (1 : Int32) F G)
def wp_X1_isApart (x1 : Int32) (F : FT) (G : GT) (Q : Int32 → FT → GT → Prop) : Prop := wp_X1_isApart_0 (fun r F G => (r = 0 ∨ r = 1) ∧ Q r F G) x1 F G
set_option maxHeartbeats 4000000 in
set_option maxRecDepth 100000 in
theorem wk_X1_isApart_0 {p : Program} {l : Launch} {e : Env} {R : Room} {s : State} {m : MethodId} {args : Array Value} {below : List Frame} {meth : Method} {c : Code} {K : KT} {A : Nat → Prop} {Z : State → Prop} {a : Nat → Nat} (hR : 0 ≤ R.frames ∧ 0 ≤ R.locals) (C : CX p s m args meth c K A cX1_isApart 2 RX1) {Q : Int32 → FT → GT → Prop} (hq : RetXi p l e R s m args below meth c K A Z a cX1_isApart Q) (x1 : Int32) (F : FT) (G : GT) {H : Heap} {locs : List Loc} (h : WD K A s (wX K a F G) H locs) {ls : Array Slot} (hl : lv_has ls 2 [(0, .ref (a 5)), (1, .int x1)]) (hw : wp_X1_isApart_0 Q x1 F G) : W p l e R s m args below meth c H locs 0 0 Z (F0 m 0 ls []) := by
  unfold wp_X1_isApart_0 at hw
  have hx := C.1
  have hb := C.2.1
  refine lv_aload_n hx hb dX1_isApart_0 rfl (lv_at hl 0 rfl) ?_
  refine gX_1_9 C h dX1_isApart_1 ?_
  refine lv_iload_n hx hb dX1_isApart_4 rfl (lv_at hl 1 rfl) ?_
  have hi := hw.1
  have hw := hw.2
  refine laX_16 C h hi dX1_isApart_5 ?_
  refine lv_aload_n hx hb dX1_isApart_6 rfl (lv_at hl 0 rfl) ?_
  refine gX_1_15 C h dX1_isApart_7 ?_
  refine lv_iload_n hx hb dX1_isApart_10 rfl (lv_at hl 1 rfl) ?_
  have hi := hw.1
  have hw := hw.2
  refine laX_17 C h hi dX1_isApart_11 ?_
  refine lv_icmp_eq (tgt := 19) hx hb dX1_isApart_12 (by decide) (fun c => ?_) (fun c => ?_)
  · have hw := hw.1 c
    refine lv_iconst (v := (0 : Int32)) hx hb dX1_isApart_19 (by decide) ?_
    exact hq _ F G _ _ _ _ dX1_isApart_20 h hw
  · have hw := hw.2 c
    refine lv_iconst (v := (1 : Int32)) hx hb dX1_isApart_15 (by decide) ?_
    refine lv_goto (tgt := 20) hx hb dX1_isApart_16 (by decide) ?_
    exact hq _ F G _ _ _ _ dX1_isApart_20 h hw
theorem c_X1_isApart {l : Launch} {K : KT} {a : Nat → Nat} (x1 : Int32) (F : FT) (G : GT) {Q : Int32 → FT → GT → Prop} (hw : wp_X1_isApart x1 F G Q) : CtXi l K a yX1_isApart cX1_isApart 2 (some .boolean) 0 0 [.ref (a 5), .int x1] F G (fun r F G => (r = 0 ∨ r = 1) ∧ Q r F G) := fun sz => x_met (Qm := QmXi K a (fun r F G => (r = 0 ∨ r = 1) ∧ Q r F G)) (by decide) (Nat.le_of_ble_eq_true rfl) (fun p e s m below meth c A ls C hr h hl => wk_X1_isApart_0 ⟨Nat.le_refl _, Nat.le_refl _⟩ C (retX_z C hr (fun r F G hz => by rcases hz.1 with z | z <;> rw [z] <;> rfl)) x1 F G h hl hw)
def wp_X1_move_16 (Q : FT → GT → Prop) (x1 : Int32) (x2 : Int32) (x3 : Int32) (F : FT) (G : GT) : Prop := vp_in x1 40 ∧ ∀ G1 : GT, G1 = gU G 16 (upd (G 16) x1.toNatClampNeg x2) → vp_in x1 40 ∧ ∀ G2 : GT, G2 = gU G1 17 (upd (G1 17) x1.toNatClampNeg x3) → Q F G2
def wp_X1_move_0 (Q : FT → GT → Prop) (x1 : Int32) (x2 : Int32) (x3 : Int32) (x4 : Int32) (F : FT) (G : GT) : Prop := wp_X1_isApart x1 F G (fun r3 F1 G2 => ((¬ r3 = 0) → wp_X1_move_16 Q x1 x2 x3 F1 G2) ∧ ((r3 = 0) → vp_in x1 40 ∧ ∀ G4 : GT, G4 = gU G2 18 (upd (G2 18) x1.toNatClampNeg x4) → wp_X1_move_16 Q x1 x2 x3 F1 G4))
def wp_X1_move (x1 : Int32) (x2 : Int32) (x3 : Int32) (x4 : Int32) (F : FT) (G : GT) (Q : FT → GT → Prop) : Prop := wp_X1_move_0 Q x1 x2 x3 x4 F G
set_option maxHeartbeats 4000000 in
set_option maxRecDepth 100000 in
theorem wk_X1_move_16 {p : Program} {l : Launch} {e : Env} {R : Room} {s : State} {m : MethodId} {args : Array Value} {below : List Frame} {meth : Method} {c : Code} {K : KT} {A : Nat → Prop} {Z : State → Prop} {a : Nat → Nat} (hR : 1 ≤ R.frames ∧ 21 ≤ R.locals) (C : CX p s m args meth c K A cX1_move 5 RX1) {Q : FT → GT → Prop} (hq : RetXv p l e R s m args below meth c K A Z a cX1_move Q) (x1 : Int32) (x2 : Int32) (x3 : Int32) (F : FT) (G : GT) {H : Heap} {locs : List Loc} (h : WD K A s (wX K a F G) H locs) {ls : Array Slot} (hl : lv_has ls 5 [(0, .ref (a 5)), (1, .int x1), (2, .int x2), (3, .int x3)]) (hw : wp_X1_move_16 Q x1 x2 x3 F G) : W p l e R s m args below meth c H locs 0 0 Z (F0 m 16 ls []) := by
  unfold wp_X1_move_16 at hw
  have hx := C.1
  have hb := C.2.1
  refine lv_aload_n hx hb dX1_move_16 rfl (lv_at hl 0 rfl) ?_
  refine gX_1_9 C h dX1_move_17 ?_
  refine lv_iload_n hx hb dX1_move_20 rfl (lv_at hl 1 rfl) ?_
  refine lv_iload_n hx hb dX1_move_21 rfl (lv_at hl 2 rfl) ?_
  have hi := hw.1
  have hw := hw.2
  refine saX_16 C h hi dX1_move_22 (fun G1 H locs eG1 h => ?_)
  have hw := hw G1 eG1
  refine lv_aload_n hx hb dX1_move_23 rfl (lv_at hl 0 rfl) ?_
  refine gX_1_15 C h dX1_move_24 ?_
  refine lv_iload_n hx hb dX1_move_27 rfl (lv_at hl 1 rfl) ?_
  refine lv_iload_n hx hb dX1_move_28 rfl (lv_at hl 3 rfl) ?_
  have hi := hw.1
  have hw := hw.2
  refine saX_17 C h hi dX1_move_29 (fun G2 H locs eG2 h => ?_)
  have hw := hw G2 eG2
  exact hq F G2 _ _ _ _ dX1_move_30 h hw
set_option maxHeartbeats 4000000 in
set_option maxRecDepth 100000 in
theorem wk_X1_move_0 {p : Program} {l : Launch} {e : Env} {R : Room} {s : State} {m : MethodId} {args : Array Value} {below : List Frame} {meth : Method} {c : Code} {K : KT} {A : Nat → Prop} {Z : State → Prop} {a : Nat → Nat} (hR : 1 ≤ R.frames ∧ 21 ≤ R.locals) (C : CX p s m args meth c K A cX1_move 5 RX1) {Q : FT → GT → Prop} (hq : RetXv p l e R s m args below meth c K A Z a cX1_move Q) (x1 : Int32) (x2 : Int32) (x3 : Int32) (x4 : Int32) (F : FT) (G : GT) {H : Heap} {locs : List Loc} (h : WD K A s (wX K a F G) H locs) {ls : Array Slot} (hl : lv_has ls 5 [(0, .ref (a 5)), (1, .int x1), (2, .int x2), (3, .int x3), (4, .int x4)]) (hw : wp_X1_move_0 Q x1 x2 x3 x4 F G) : W p l e R s m args below meth c H locs 0 0 Z (F0 m 0 ls []) := by
  unfold wp_X1_move_0 at hw
  have hx := C.1
  have hb := C.2.1
  refine lv_aload_n hx hb dX1_move_0 rfl (lv_at hl 0 rfl) ?_
  refine lv_iload_n hx hb dX1_move_1 rfl (lv_at hl 1 rfl) ?_
  refine kXiV C h (c_X1_isApart x1 F G hw) lk_1_33 (rvX_5 K a F G) rfl hl.1 rfl (Nat.le_of_ble_eq_true rfl) ⟨Nat.le_trans (Nat.le_of_ble_eq_true rfl) hR.1, Nat.le_trans (Nat.le_of_ble_eq_true rfl) hR.2⟩ ⟨Nat.zero_le _, Nat.zero_le _⟩ dX1_move_2 (fun r3 F1 G2 H locs hw h => ?_)
  have hw := hw.2
  refine lv_if_ne (tgt := 16) hx hb dX1_move_5 (by decide) (fun c => ?_) (fun c => ?_)
  · have hw := hw.1 c
    exact wk_X1_move_16 hR C hq x1 x2 x3 F1 G2 h (lv_sub hl [0, 1, 2, 3] rfl) hw
  · have hw := hw.2 c
    refine lv_aload_n hx hb dX1_move_8 rfl (lv_at hl 0 rfl) ?_
    refine gX_1_18 C h dX1_move_9 ?_
    refine lv_iload_n hx hb dX1_move_12 rfl (lv_at hl 1 rfl) ?_
    refine lv_iload hx hb dX1_move_13 (lv_at hl 4 rfl) ?_
    have hi := hw.1
    have hw := hw.2
    refine saX_18 C h hi dX1_move_15 (fun G4 H locs eG4 h => ?_)
    have hw := hw G4 eG4
    exact wk_X1_move_16 hR C hq x1 x2 x3 F1 G4 h (lv_sub hl [0, 1, 2, 3] rfl) hw
theorem c_X1_move {l : Launch} {K : KT} {a : Nat → Nat} (x1 : Int32) (x2 : Int32) (x3 : Int32) (x4 : Int32) (F : FT) (G : GT) {Q : FT → GT → Prop} (hw : wp_X1_move x1 x2 x3 x4 F G Q) : CtXv l K a yX1_move cX1_move 5 none 1 21 [.ref (a 5), .int x1, .int x2, .int x3, .int x4] F G Q := fun sz => x_met (Qm := QmXv K a Q) (by decide) (Nat.le_of_ble_eq_true rfl) (fun p e s m below meth c A ls C hr h hl => wk_X1_move_0 ⟨Nat.le_refl _, Nat.le_refl _⟩ C (retX_v C hr) x1 x2 x3 x4 F G h hl hw)
