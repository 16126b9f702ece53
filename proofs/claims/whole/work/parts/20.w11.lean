def wp_X8_find_0 (Q : Int32 → FT → GT → Int64 → Prop) (x1 : Int32) (x2 : Int32) (x3 : Int32) (F : FT) (G : GT) (w : Int64) : Prop := ∀ F1 : FT, F1 = sU F 20 (0 : Int32) → wp_X8_isHorse x1 F1 G w (fun r5 F2 G3 w4 => ((r5 = 0) → Q (0 : Int32) F2 G3 w4) ∧ ((¬ r5 = 0) → ((x2 < 0) → Q (0 : Int32) F2 G3 w4) ∧ ((¬ x2 < 0) → (((6 : Int32) ≤ x2) → Q (0 : Int32) F2 G3 w4) ∧ ((¬ (6 : Int32) ≤ x2) → ((x3 < 0) → Q (0 : Int32) F2 G3 w4) ∧ ((¬ x3 < 0) → (((F2 0) < x3) → Q (0 : Int32) F2 G3 w4) ∧ ((¬ (F2 0) < x3) → vp_in (((6 : Int32) * x1) + x2) 240 ∧ ∀ v6 : Int32, v6 = (G3 52 (((6 : Int32) * x1) + x2).toNatClampNeg) → ((v6 = (-1 : Int32)) → vp_in (((6 : Int32) * x1) + x2) 240 ∧ ∀ G7 : GT, G7 = gU G3 52 (upd (G3 52) (((6 : Int32) * x1) + x2).toNatClampNeg (F2 0)) → vp_in (((6 : Int32) * x1) + x2) 240 ∧ ∀ G8 : GT, G8 = gU G7 53 (upd (G7 53) (((6 : Int32) * x1) + x2).toNatClampNeg x3) → Q (1 : Int32) F2 G8 w4) ∧ ((¬ v6 = (-1 : Int32)) → Q (0 : Int32) F2 G3 w4)))))))
def wp_X8_find (x1 : Int32) (x2 : Int32) (x3 : Int32) (F : FT) (G : GT) (w : Int64) (Q : Int32 → FT → GT → Int64 → Prop) : Prop := wp_X8_find_0 (fun r F G w => (r = 0 ∨ r = 1) ∧ Q r F G w) x1 x2 x3 F G w
set_option maxHeartbeats 4000000 in
set_option maxRecDepth 100000 in
theorem wk_X8_find_0 {p : Program} {l : Launch} {e : Env} {R : Room} {s : State} {m : MethodId} {args : Array Value} {below : List Frame} {meth : Method} {c : Code} {K : KT} {A : Nat → Prop} {Z : State → Prop} {a : Nat → Nat} (hR : 1 ≤ R.frames ∧ 21 ≤ R.locals) (C : CX p s m args meth c K A cX8_find 4 RX8) {Q : Int32 → FT → GT → Int64 → Prop} (hq : RetMi p l e R s m args below meth c K A Z a cX8_find Q) (x1 : Int32) (x2 : Int32) (x3 : Int32) (F : FT) (G : GT) (w : Int64) {H : Heap} {locs : List Loc} (h : WD K A s (wM K a F G w) H locs) {ls : Array Slot} (hl : lv_has ls 4 [(0, .ref (a 0)), (1, .int x1), (2, .int x2), (3, .int x3)]) (hw : wp_X8_find_0 Q x1 x2 x3 F G w) : W p l e R s m args below meth c H locs 0 0 Z (F0 m 0 ls []) := by
  unfold wp_X8_find_0 at hw
  have hx := C.1
  have hb := C.2.1
  refine lv_aload_n hx hb dX8_find_0 rfl (lv_at hl 0 rfl) ?_
  refine lv_iconst (v := (0 : Int32)) hx hb dX8_find_1 (by decide) ?_
  refine pM_8_89 C h dX8_find_2 (fun F1 H locs eF1 h => ?_)
  have hw := hw F1 eF1
  refine lv_aload_n hx hb dX8_find_5 rfl (lv_at hl 0 rfl) ?_
  refine lv_iload_n hx hb dX8_find_6 rfl (lv_at hl 1 rfl) ?_
  refine kMiV C h (c_X8_isHorse x1 F1 G w hw) lk_8_208 (rvM_0 K a F1 G w) rfl hl.1 rfl (Nat.le_of_ble_eq_true rfl) ⟨Nat.le_trans (Nat.le_of_ble_eq_true rfl) hR.1, Nat.le_trans (Nat.le_of_ble_eq_true rfl) hR.2⟩ ⟨Nat.zero_le _, Nat.zero_le _⟩ dX8_find_7 (fun r5 F2 G3 w4 H locs hw h => ?_)
  have hw := hw.2
  refine lv_if_eq (tgt := 50) hx hb dX8_find_10 (by decide) (fun c => ?_) (fun c => ?_)
  · have hw := hw.1 c
    refine lv_iconst (v := (0 : Int32)) hx hb dX8_find_50 (by decide) ?_
    exact hq _ F2 G3 w4 _ _ _ _ dX8_find_51 h hw
  · have hw := hw.2 c
    refine lv_iload_n hx hb dX8_find_13 rfl (lv_at hl 2 rfl) ?_
    refine lv_if_lt (tgt := 50) hx hb dX8_find_14 (by decide) (fun c => ?_) (fun c => ?_)
    · have hw := hw.1 c
      refine lv_iconst (v := (0 : Int32)) hx hb dX8_find_50 (by decide) ?_
      exact hq _ F2 G3 w4 _ _ _ _ dX8_find_51 h hw
    · have hw := hw.2 c
      refine lv_iload_n hx hb dX8_find_17 rfl (lv_at hl 2 rfl) ?_
      refine lv_bipush (v := (6 : Int32)) hx hb dX8_find_18 (by decide) ?_
      refine lv_icmp_ge (tgt := 50) hx hb dX8_find_20 (by decide) (fun c => ?_) (fun c => ?_)
      · have hw := hw.1 c
        refine lv_iconst (v := (0 : Int32)) hx hb dX8_find_50 (by decide) ?_
        exact hq _ F2 G3 w4 _ _ _ _ dX8_find_51 h hw
      · have hw := hw.2 c
        refine lv_iload_n hx hb dX8_find_23 rfl (lv_at hl 3 rfl) ?_
        refine lv_if_lt (tgt := 50) hx hb dX8_find_24 (by decide) (fun c => ?_) (fun c => ?_)
        · have hw := hw.1 c
          refine lv_iconst (v := (0 : Int32)) hx hb dX8_find_50 (by decide) ?_
          exact hq _ F2 G3 w4 _ _ _ _ dX8_find_51 h hw
        · have hw := hw.2 c
          refine lv_iload_n hx hb dX8_find_27 rfl (lv_at hl 3 rfl) ?_
          refine lv_aload_n hx hb dX8_find_28 rfl (lv_at hl 0 rfl) ?_
          refine gM_8_201 C h dX8_find_29 ?_
          refine lv_icmp_gt (tgt := 50) hx hb dX8_find_32 (by decide) (fun c => ?_) (fun c => ?_)
          · have hw := hw.1 c
            refine lv_iconst (v := (0 : Int32)) hx hb dX8_find_50 (by decide) ?_
            exact hq _ F2 G3 w4 _ _ _ _ dX8_find_51 h hw
          · have hw := hw.2 c
            refine lv_aload_n hx hb dX8_find_35 rfl (lv_at hl 0 rfl) ?_
            refine gM_8_43 C h dX8_find_36 ?_
            refine lv_bipush (v := (6 : Int32)) hx hb dX8_find_39 (by decide) ?_
            refine lv_iload_n hx hb dX8_find_41 rfl (lv_at hl 1 rfl) ?_
            refine lv_imul hx hb dX8_find_42 ?_
            refine lv_iload_n hx hb dX8_find_43 rfl (lv_at hl 2 rfl) ?_
            refine lv_iadd hx hb dX8_find_44 ?_
            have hi := hw.1
            have hw := hw.2
            refine laM_52 C h hi dX8_find_45 ?_
            refine lv_topi (fun v6 ev6 => ?_)
            have hw := hw v6 ev6
            refine lv_iconst (v := (-1 : Int32)) hx hb dX8_find_46 (by decide) ?_
            refine lv_icmp_eq (tgt := 52) hx hb dX8_find_47 (by decide) (fun c => ?_) (fun c => ?_)
            · have hw := hw.1 c
              refine lv_aload_n hx hb dX8_find_52 rfl (lv_at hl 0 rfl) ?_
              refine gM_8_43 C h dX8_find_53 ?_
              refine lv_bipush (v := (6 : Int32)) hx hb dX8_find_56 (by decide) ?_
              refine lv_iload_n hx hb dX8_find_58 rfl (lv_at hl 1 rfl) ?_
              refine lv_imul hx hb dX8_find_59 ?_
              refine lv_iload_n hx hb dX8_find_60 rfl (lv_at hl 2 rfl) ?_
              refine lv_iadd hx hb dX8_find_61 ?_
              refine lv_aload_n hx hb dX8_find_62 rfl (lv_at hl 0 rfl) ?_
              refine gM_8_201 C h dX8_find_63 ?_
              have hi := hw.1
              have hw := hw.2
              refine saM_52 C h hi dX8_find_66 (fun G7 H locs eG7 h => ?_)
              have hw := hw G7 eG7
              refine lv_aload_n hx hb dX8_find_67 rfl (lv_at hl 0 rfl) ?_
              refine gM_8_46 C h dX8_find_68 ?_
              refine lv_bipush (v := (6 : Int32)) hx hb dX8_find_71 (by decide) ?_
              refine lv_iload_n hx hb dX8_find_73 rfl (lv_at hl 1 rfl) ?_
              refine lv_imul hx hb dX8_find_74 ?_
              refine lv_iload_n hx hb dX8_find_75 rfl (lv_at hl 2 rfl) ?_
              refine lv_iadd hx hb dX8_find_76 ?_
              refine lv_iload_n hx hb dX8_find_77 rfl (lv_at hl 3 rfl) ?_
              have hi := hw.1
              have hw := hw.2
              refine saM_53 C h hi dX8_find_78 (fun G8 H locs eG8 h => ?_)
              have hw := hw G8 eG8
              refine lv_iconst (v := (1 : Int32)) hx hb dX8_find_79 (by decide) ?_
              exact hq _ F2 G8 w4 _ _ _ _ dX8_find_80 h hw
            · have hw := hw.2 c
              refine lv_iconst (v := (0 : Int32)) hx hb dX8_find_50 (by decide) ?_
              exact hq _ F2 G3 w4 _ _ _ _ dX8_find_51 h hw
theorem c_X8_find {l : Launch} {K : KT} {a : Nat → Nat} (x1 : Int32) (x2 : Int32) (x3 : Int32) (F : FT) (G : GT) (w : Int64) {Q : Int32 → FT → GT → Int64 → Prop} (hw : wp_X8_find x1 x2 x3 F G w Q) : CtMi l K a yX8_find cX8_find 4 (some .boolean) 1 21 [.ref (a 0), .int x1, .int x2, .int x3] F G w (fun r F G w => (r = 0 ∨ r = 1) ∧ Q r F G w) := fun sz => x_met (Qm := QmMi K a (fun r F G w => (r = 0 ∨ r = 1) ∧ Q r F G w)) (by decide) (Nat.le_of_ble_eq_true rfl) (fun p e s m below meth c A ls C hr h hl => wk_X8_find_0 ⟨Nat.le_refl _, Nat.le_refl _⟩ C (retM_z C hr (fun r F G w hz => by rcases hz.1 with z | z <;> rw [z] <;> rfl)) x1 x2 x3 F G w h hl hw)
def wp_X8_latest_7 (Q : Int32 → FT → GT → Int64 → Prop) : Nat → Int32 → Int32 → FT → GT → Int64 → Prop
  | 0, _, _, _, _, _ => False
  | n + 1, x1, x2, F, G, w => ((x2 < 0) → Q (-1 : Int32) F G w) ∧ ((¬ x2 < 0) → vp_in x2 80 ∧ ((¬ (G 23 x2.toNatClampNeg) = x1) → ∀ v1 : Int32, v1 = (x2 + (-1)) → wp_X8_latest_7 Q n x1 v1 F G w) ∧ (((G 23 x2.toNatClampNeg) = x1) → vp_in x2 80 ∧ ((¬ (G 30 x2.toNatClampNeg) = 0) → ∀ v2 : Int32, v2 = (x2 + (-1)) → wp_X8_latest_7 Q n x1 v2 F G w) ∧ (((G 30 x2.toNatClampNeg) = 0) → Q x2 F G w)))
def wp_X8_latest_0 (Q : Int32 → FT → GT → Int64 → Prop) (x1 : Int32) (F : FT) (G : GT) (w : Int64) : Prop := ∃ n : Nat, wp_X8_latest_7 Q n x1 ((F 8) - (1 : Int32)) F G w
def wp_X8_latest (x1 : Int32) (F : FT) (G : GT) (w : Int64) (Q : Int32 → FT → GT → Int64 → Prop) : Prop := wp_X8_latest_0 Q x1 F G w
set_option maxHeartbeats 4000000 in
set_option maxRecDepth 100000 in
theorem wk_X8_latest_7 {p : Program} {l : Launch} {e : Env} {R : Room} {s : State} {m : MethodId} {args : Array Value} {below : List Frame} {meth : Method} {c : Code} {K : KT} {A : Nat → Prop} {Z : State → Prop} {a : Nat → Nat} (hR : 0 ≤ R.frames ∧ 0 ≤ R.locals) (C : CX p s m args meth c K A cX8_latest 3 RX8) {Q : Int32 → FT → GT → Int64 → Prop} (hq : RetMi p l e R s m args below meth c K A Z a cX8_latest Q) : ∀ (n : Nat) (x1 : Int32) (x2 : Int32) (F : FT) (G : GT) (w : Int64) {H : Heap} {locs : List Loc} (h : WD K A s (wM K a F G w) H locs) {ls : Array Slot} (hl : lv_has ls 3 [(0, .ref (a 0)), (1, .int x1), (2, .int x2)]) (hw : wp_X8_latest_7 Q n x1 x2 F G w), W p l e R s m args below meth c H locs 0 0 Z (F0 m 7 ls []) := by
  intro n
  induction n with
  | zero => intro x1 x2 F G w H locs h ls hl hw; exact False.elim hw
  | succ n ih =>
    intro x1 x2 F G w H locs h ls hl hw
    rw [wp_X8_latest_7] at hw
    have hx := C.1
    have hb := C.2.1
    refine lv_iload_n hx hb dX8_latest_7 rfl (lv_at hl 2 rfl) ?_
    refine lv_if_lt (tgt := 38) hx hb dX8_latest_8 (by decide) (fun c => ?_) (fun c => ?_)
    · have hw := hw.1 c
      refine lv_iconst (v := (-1 : Int32)) hx hb dX8_latest_38 (by decide) ?_
      exact hq _ F G w _ _ _ _ dX8_latest_39 h hw
    · have hw := hw.2 c
      refine lv_aload_n hx hb dX8_latest_11 rfl (lv_at hl 0 rfl) ?_
      refine gM_8_61 C h dX8_latest_12 ?_
      refine lv_iload_n hx hb dX8_latest_15 rfl (lv_at hl 2 rfl) ?_
      have hi := hw.1
      have hw := hw.2
      refine laM_23 C h hi dX8_latest_16 ?_
      refine lv_iload_n hx hb dX8_latest_17 rfl (lv_at hl 1 rfl) ?_
      refine lv_icmp_ne (tgt := 32) hx hb dX8_latest_18 (by decide) (fun c => ?_) (fun c => ?_)
      · have hw := hw.1 c
        obtain ⟨v1, ev1⟩ : ∃ z : Int32, z = (x2 + (-1)) := ⟨_, rfl⟩
        have hw := hw v1 ev1
        refine lv_iinc (v := v1) (lv' := [(2, .int v1), (0, .ref (a 0)), (1, .int x1)]) hx hb dX8_latest_32 hl (k := 2) rfl (by rw [ev1]; rfl) (by decide) rfl (fun ls hl => ?_)
        refine lv_goto (tgt := 7) hx hb dX8_latest_35 (by decide) ?_
        exact ih x1 v1 F G w h (lv_sub hl [1, 2, 0] rfl) hw
      · have hw := hw.2 c
        refine lv_aload_n hx hb dX8_latest_21 rfl (lv_at hl 0 rfl) ?_
        refine gM_8_82 C h dX8_latest_22 ?_
        refine lv_iload_n hx hb dX8_latest_25 rfl (lv_at hl 2 rfl) ?_
        have hi := hw.1
        have hw := hw.2
        refine laM_30 C h hi dX8_latest_26 ?_
        refine lv_if_ne (tgt := 32) hx hb dX8_latest_27 (by decide) (fun c => ?_) (fun c => ?_)
        · have hw := hw.1 c
          obtain ⟨v2, ev2⟩ : ∃ z : Int32, z = (x2 + (-1)) := ⟨_, rfl⟩
          have hw := hw v2 ev2
          refine lv_iinc (v := v2) (lv' := [(2, .int v2), (0, .ref (a 0)), (1, .int x1)]) hx hb dX8_latest_32 hl (k := 2) rfl (by rw [ev2]; rfl) (by decide) rfl (fun ls hl => ?_)
          refine lv_goto (tgt := 7) hx hb dX8_latest_35 (by decide) ?_
          exact ih x1 v2 F G w h (lv_sub hl [1, 2, 0] rfl) hw
        · have hw := hw.2 c
          refine lv_iload_n hx hb dX8_latest_30 rfl (lv_at hl 2 rfl) ?_
          exact hq _ F G w _ _ _ _ dX8_latest_31 h hw
set_option maxHeartbeats 4000000 in
set_option maxRecDepth 100000 in
theorem wk_X8_latest_0 {p : Program} {l : Launch} {e : Env} {R : Room} {s : State} {m : MethodId} {args : Array Value} {below : List Frame} {meth : Method} {c : Code} {K : KT} {A : Nat → Prop} {Z : State → Prop} {a : Nat → Nat} (hR : 0 ≤ R.frames ∧ 0 ≤ R.locals) (C : CX p s m args meth c K A cX8_latest 3 RX8) {Q : Int32 → FT → GT → Int64 → Prop} (hq : RetMi p l e R s m args below meth c K A Z a cX8_latest Q) (x1 : Int32) (F : FT) (G : GT) (w : Int64) {H : Heap} {locs : List Loc} (h : WD K A s (wM K a F G w) H locs) {ls : Array Slot} (hl : lv_has ls 3 [(0, .ref (a 0)), (1, .int x1)]) (hw : wp_X8_latest_0 Q x1 F G w) : W p l e R s m args below meth c H locs 0 0 Z (F0 m 0 ls []) := by
  unfold wp_X8_latest_0 at hw
  have hx := C.1
  have hb := C.2.1
  refine lv_aload_n hx hb dX8_latest_0 rfl (lv_at hl 0 rfl) ?_
  refine gM_8_195 C h dX8_latest_1 ?_
  refine lv_iconst (v := (1 : Int32)) hx hb dX8_latest_4 (by decide) ?_
  refine lv_isub hx hb dX8_latest_5 ?_
  refine lv_istore_n (lv' := [(2, .int ((F 8) - (1 : Int32))), (0, .ref (a 0)), (1, .int x1)]) hx hb dX8_latest_6 rfl hl (by decide) rfl (fun ls hl => ?_)
  obtain ⟨n, hw⟩ := hw
  exact wk_X8_latest_7 hR C hq n x1 ((F 8) - (1 : Int32)) F G w h (lv_sub hl [1, 2, 0] rfl) hw
theorem c_X8_latest {l : Launch} {K : KT} {a : Nat → Nat} (x1 : Int32) (F : FT) (G : GT) (w : Int64) {Q : Int32 → FT → GT → Int64 → Prop} (hw : wp_X8_latest x1 F G w Q) : CtMi l K a yX8_latest cX8_latest 3 (some .int) 0 0 [.ref (a 0), .int x1] F G w Q := fun sz => x_met (Qm := QmMi K a Q) (by decide) (Nat.le_of_ble_eq_true rfl) (fun p e s m below meth c A ls C hr h hl => wk_X8_latest_0 ⟨Nat.le_refl _, Nat.le_refl _⟩ C (retM_z C hr (fun r F G w _ => rfl)) x1 F G w h hl hw)
def wp_X8_mayGoBack_101 (Q : Int32 → FT → GT → Int64 → Prop) (kb : Int32 → Int32 → Int32 → FT → GT → Int64 → Prop) (x1 : Int32) (x2 : Int32) (x3 : Int32) (s0 : Int32) (s1 : Int32) (F : FT) (G : GT) (w : Int64) : Prop := vp_in ((s1 + s0) + x3) 56 ∧ vp_in x2 80 ∧ (((G 51 ((s1 + s0) + x3).toNatClampNeg) < ((F 0) - (G 29 x2.toNatClampNeg))) → ∀ v1 : Int32, v1 = (x3 + 1) → kb x1 x2 v1 F G w) ∧ ((¬ (G 51 ((s1 + s0) + x3).toNatClampNeg) < ((F 0) - (G 29 x2.toNatClampNeg))) → Q (1 : Int32) F G w)
def wp_X8_mayGoBack_24 (Q : Int32 → FT → GT → Int64 → Prop) : Nat → Int32 → Int32 → Int32 → FT → GT → Int64 → Prop
  | 0, _, _, _, _, _, _ => False
  | n + 1, x1, x2, x3, F, G, w => (((6 : Int32) ≤ x3) → Q (0 : Int32) F G w) ∧ ((¬ (6 : Int32) ≤ x3) → vp_in (((6 : Int32) * x1) + x3) 240 ∧ (((G 52 (((6 : Int32) * x1) + x3).toNatClampNeg) = (-1 : Int32)) → ∀ v1 : Int32, v1 = (x3 + 1) → wp_X8_mayGoBack_24 Q n x1 x2 v1 F G w) ∧ ((¬ (G 52 (((6 : Int32) * x1) + x3).toNatClampNeg) = (-1 : Int32)) → vp_in (((6 : Int32) * x1) + x3) 240 ∧ vp_in x2 80 ∧ (((G 53 (((6 : Int32) * x1) + x3).toNatClampNeg) ≤ (G 29 x2.toNatClampNeg)) → vp_in x2 80 ∧ vp_in x2 80 ∧ ∀ v2 : Int32, v2 = (((G 27 x2.toNatClampNeg) >>> (x3 &&& 31)) &&& (1 : Int32)) → ((¬ v2 = (1 : Int32)) → wp_X8_mayGoBack_101 Q (fun x1 x2 x3 F G w => wp_X8_mayGoBack_24 Q n x1 x2 x3 F G w) x1 x2 x3 (2 : Int32) ((14 : Int32) * (G 28 x2.toNatClampNeg)) F G w) ∧ ((v2 = (1 : Int32)) → wp_X8_mayGoBack_101 Q (fun x1 x2 x3 F G w => wp_X8_mayGoBack_24 Q n x1 x2 x3 F G w) x1 x2 x3 (8 : Int32) ((14 : Int32) * (G 28 x2.toNatClampNeg)) F G w)) ∧ ((¬ (G 53 (((6 : Int32) * x1) + x3).toNatClampNeg) ≤ (G 29 x2.toNatClampNeg)) → ∀ v3 : Int32, v3 = (x3 + 1) → wp_X8_mayGoBack_24 Q n x1 x2 v3 F G w)))
def wp_X8_mayGoBack_0 (Q : Int32 → FT → GT → Int64 → Prop) (x1 : Int32) (x2 : Int32) (F : FT) (G : GT) (w : Int64) : Prop := ((x2 = (-1 : Int32)) → Q (0 : Int32) F G w) ∧ ((¬ x2 = (-1 : Int32)) → vp_in x2 80 ∧ vp_in x1 40 ∧ (((G 25 x2.toNatClampNeg) = (G 16 x1.toNatClampNeg)) → ∃ n : Nat, wp_X8_mayGoBack_24 Q n x1 x2 (0 : Int32) F G w) ∧ ((¬ (G 25 x2.toNatClampNeg) = (G 16 x1.toNatClampNeg)) → Q (0 : Int32) F G w))
def wp_X8_mayGoBack (x1 : Int32) (x2 : Int32) (F : FT) (G : GT) (w : Int64) (Q : Int32 → FT → GT → Int64 → Prop) : Prop := wp_X8_mayGoBack_0 (fun r F G w => (r = 0 ∨ r = 1) ∧ Q r F G w) x1 x2 F G w
set_option maxHeartbeats 4000000 in
set_option maxRecDepth 100000 in
theorem wk_X8_mayGoBack_101 {p : Program} {l : Launch} {e : Env} {R : Room} {s : State} {m : MethodId} {args : Array Value} {below : List Frame} {meth : Method} {c : Code} {K : KT} {A : Nat → Prop} {Z : State → Prop} {a : Nat → Nat} (hR : 0 ≤ R.frames ∧ 0 ≤ R.locals) (C : CX p s m args meth c K A cX8_mayGoBack 5 RX8) {Q : Int32 → FT → GT → Int64 → Prop} (hq : RetMi p l e R s m args below meth c K A Z a cX8_mayGoBack Q) {kb : Int32 → Int32 → Int32 → FT → GT → Int64 → Prop} (hk : ∀ (x1 : Int32) (x2 : Int32) (x3 : Int32) (F : FT) (G : GT) (w : Int64) (H : Heap) (locs : List Loc) (ls : Array Slot), WD K A s (wM K a F G w) H locs → lv_has ls 5 [(0, .ref (a 0)), (1, .int x1), (2, .int x2), (3, .int x3)] → kb x1 x2 x3 F G w → W p l e R s m args below meth c H locs 0 0 Z (F0 m 24 ls [])) (x1 : Int32) (x2 : Int32) (x3 : Int32) (s0 : Int32) (s1 : Int32) (F : FT) (G : GT) (w : Int64) {H : Heap} {locs : List Loc} (h : WD K A s (wM K a F G w) H locs) {ls : Array Slot} (hl : lv_has ls 5 [(0, .ref (a 0)), (1, .int x1), (2, .int x2), (3, .int x3)]) (hw : wp_X8_mayGoBack_101 Q kb x1 x2 x3 s0 s1 F G w) : W p l e R s m args below meth c H locs 0 0 Z (F0 m 101 ls [.int s0, .int s1, .ref (a 51)]) := by
  unfold wp_X8_mayGoBack_101 at hw
  have hx := C.1
  have hb := C.2.1
  refine lv_iadd hx hb dX8_mayGoBack_101 ?_
  refine lv_iload_n hx hb dX8_mayGoBack_102 rfl (lv_at hl 3 rfl) ?_
  refine lv_iadd hx hb dX8_mayGoBack_103 ?_
  have hi := hw.1
  have hw := hw.2
  refine laM_51 C h hi dX8_mayGoBack_104 ?_
  refine lv_istore (lv' := [(4, .int (G 51 ((s1 + s0) + x3).toNatClampNeg)), (0, .ref (a 0)), (1, .int x1), (2, .int x2), (3, .int x3)]) hx hb dX8_mayGoBack_105 hl (by decide) rfl (fun ls hl => ?_)
  refine lv_aload_n hx hb dX8_mayGoBack_107 rfl (lv_at hl 1 rfl) ?_
  refine gM_8_201 C h dX8_mayGoBack_108 ?_
  refine lv_aload_n hx hb dX8_mayGoBack_111 rfl (lv_at hl 1 rfl) ?_
  refine gM_8_79 C h dX8_mayGoBack_112 ?_
  refine lv_iload_n hx hb dX8_mayGoBack_115 rfl (lv_at hl 3 rfl) ?_
  have hi := hw.1
  have hw := hw.2
  refine laM_29 C h hi dX8_mayGoBack_116 ?_
  refine lv_isub hx hb dX8_mayGoBack_117 ?_
  refine lv_iload hx hb dX8_mayGoBack_118 (lv_at hl 0 rfl) ?_
  refine lv_icmp_gt (tgt := 125) hx hb dX8_mayGoBack_120 (by decide) (fun c => ?_) (fun c => ?_)
  · have hw := hw.1 c
    obtain ⟨v1, ev1⟩ : ∃ z : Int32, z = (x3 + 1) := ⟨_, rfl⟩
    have hw := hw v1 ev1
    refine lv_iinc (v := v1) (lv' := [(3, .int v1), (4, .int (G 51 ((s1 + s0) + x3).toNatClampNeg)), (0, .ref (a 0)), (1, .int x1), (2, .int x2)]) hx hb dX8_mayGoBack_125 hl (k := 4) rfl (by rw [ev1]; rfl) (by decide) rfl (fun ls hl => ?_)
    refine lv_goto (tgt := 24) hx hb dX8_mayGoBack_128 (by decide) ?_
    exact hk x1 x2 v1 F G w _ _ _ h (lv_sub hl [2, 3, 4, 0] rfl) hw
  · have hw := hw.2 c
    refine lv_iconst (v := (1 : Int32)) hx hb dX8_mayGoBack_123 (by decide) ?_
    exact hq _ F G w _ _ _ _ dX8_mayGoBack_124 h hw
set_option maxHeartbeats 4000000 in
set_option maxRecDepth 100000 in
theorem wk_X8_mayGoBack_24 {p : Program} {l : Launch} {e : Env} {R : Room} {s : State} {m : MethodId} {args : Array Value} {below : List Frame} {meth : Method} {c : Code} {K : KT} {A : Nat → Prop} {Z : State → Prop} {a : Nat → Nat} (hR : 0 ≤ R.frames ∧ 0 ≤ R.locals) (C : CX p s m args meth c K A cX8_mayGoBack 5 RX8) {Q : Int32 → FT → GT → Int64 → Prop} (hq : RetMi p l e R s m args below meth c K A Z a cX8_mayGoBack Q) : ∀ (n : Nat) (x1 : Int32) (x2 : Int32) (x3 : Int32) (F : FT) (G : GT) (w : Int64) {H : Heap} {locs : List Loc} (h : WD K A s (wM K a F G w) H locs) {ls : Array Slot} (hl : lv_has ls 5 [(0, .ref (a 0)), (1, .int x1), (2, .int x2), (3, .int x3)]) (hw : wp_X8_mayGoBack_24 Q n x1 x2 x3 F G w), W p l e R s m args below meth c H locs 0 0 Z (F0 m 24 ls []) := by
  intro n
  induction n with
  | zero => intro x1 x2 x3 F G w H locs h ls hl hw; exact False.elim hw
  | succ n ih =>
    intro x1 x2 x3 F G w H locs h ls hl hw
    rw [wp_X8_mayGoBack_24] at hw
    have hx := C.1
    have hb := C.2.1
    refine lv_iload_n hx hb dX8_mayGoBack_24 rfl (lv_at hl 3 rfl) ?_
    refine lv_bipush (v := (6 : Int32)) hx hb dX8_mayGoBack_25 (by decide) ?_
    refine lv_icmp_ge (tgt := 131) hx hb dX8_mayGoBack_27 (by decide) (fun c => ?_) (fun c => ?_)
    · have hw := hw.1 c
      refine lv_iconst (v := (0 : Int32)) hx hb dX8_mayGoBack_131 (by decide) ?_
      exact hq _ F G w _ _ _ _ dX8_mayGoBack_132 h hw
    · have hw := hw.2 c
      refine lv_aload_n hx hb dX8_mayGoBack_30 rfl (lv_at hl 0 rfl) ?_
      refine gM_8_43 C h dX8_mayGoBack_31 ?_
      refine lv_bipush (v := (6 : Int32)) hx hb dX8_mayGoBack_34 (by decide) ?_
      refine lv_iload_n hx hb dX8_mayGoBack_36 rfl (lv_at hl 1 rfl) ?_
      refine lv_imul hx hb dX8_mayGoBack_37 ?_
      refine lv_iload_n hx hb dX8_mayGoBack_38 rfl (lv_at hl 3 rfl) ?_
      refine lv_iadd hx hb dX8_mayGoBack_39 ?_
      have hi := hw.1
      have hw := hw.2
      refine laM_52 C h hi dX8_mayGoBack_40 ?_
      refine lv_iconst (v := (-1 : Int32)) hx hb dX8_mayGoBack_41 (by decide) ?_
      refine lv_icmp_eq (tgt := 125) hx hb dX8_mayGoBack_42 (by decide) (fun c => ?_) (fun c => ?_)
      · have hw := hw.1 c
        obtain ⟨v1, ev1⟩ : ∃ z : Int32, z = (x3 + 1) := ⟨_, rfl⟩
        have hw := hw v1 ev1
        refine lv_iinc (v := v1) (lv' := [(3, .int v1), (0, .ref (a 0)), (1, .int x1), (2, .int x2)]) hx hb dX8_mayGoBack_125 hl (k := 3) rfl (by rw [ev1]; rfl) (by decide) rfl (fun ls hl => ?_)
        refine lv_goto (tgt := 24) hx hb dX8_mayGoBack_128 (by decide) ?_
        exact ih x1 x2 v1 F G w h (lv_sub hl [1, 2, 3, 0] rfl) hw
      · have hw := hw.2 c
        refine lv_aload_n hx hb dX8_mayGoBack_45 rfl (lv_at hl 0 rfl) ?_
        refine gM_8_46 C h dX8_mayGoBack_46 ?_
        refine lv_bipush (v := (6 : Int32)) hx hb dX8_mayGoBack_49 (by decide) ?_
        refine lv_iload_n hx hb dX8_mayGoBack_51 rfl (lv_at hl 1 rfl) ?_
        refine lv_imul hx hb dX8_mayGoBack_52 ?_
        refine lv_iload_n hx hb dX8_mayGoBack_53 rfl (lv_at hl 3 rfl) ?_
        refine lv_iadd hx hb dX8_mayGoBack_54 ?_
        have hi := hw.1
        have hw := hw.2
        refine laM_53 C h hi dX8_mayGoBack_55 ?_
        refine lv_aload_n hx hb dX8_mayGoBack_56 rfl (lv_at hl 0 rfl) ?_
        refine gM_8_79 C h dX8_mayGoBack_57 ?_
        refine lv_iload_n hx hb dX8_mayGoBack_60 rfl (lv_at hl 2 rfl) ?_
        have hi := hw.1
        have hw := hw.2
        refine laM_29 C h hi dX8_mayGoBack_61 ?_
        refine lv_icmp_le (tgt := 68) hx hb dX8_mayGoBack_62 (by decide) (fun c => ?_) (fun c => ?_)
        · have hw := hw.1 c
          refine lv_aload_n hx hb dX8_mayGoBack_68 rfl (lv_at hl 0 rfl) ?_
          refine gM_8_13 C h dX8_mayGoBack_69 ?_
          refine lv_bipush (v := (14 : Int32)) hx hb dX8_mayGoBack_72 (by decide) ?_
          refine lv_aload_n hx hb dX8_mayGoBack_74 rfl (lv_at hl 0 rfl) ?_
          refine gM_8_76 C h dX8_mayGoBack_75 ?_
          refine lv_iload_n hx hb dX8_mayGoBack_78 rfl (lv_at hl 2 rfl) ?_
          have hi := hw.1
          have hw := hw.2
          refine laM_28 C h hi dX8_mayGoBack_79 ?_
          refine lv_imul hx hb dX8_mayGoBack_80 ?_
          refine lv_aload_n hx hb dX8_mayGoBack_81 rfl (lv_at hl 0 rfl) ?_
          refine gM_8_73 C h dX8_mayGoBack_82 ?_
          refine lv_iload_n hx hb dX8_mayGoBack_85 rfl (lv_at hl 2 rfl) ?_
          have hi := hw.1
          have hw := hw.2
          refine laM_27 C h hi dX8_mayGoBack_86 ?_
          refine lv_iload_n hx hb dX8_mayGoBack_87 rfl (lv_at hl 3 rfl) ?_
          refine lv_ishr hx hb dX8_mayGoBack_88 ?_
          refine lv_iconst (v := (1 : Int32)) hx hb dX8_mayGoBack_89 (by decide) ?_
          refine lv_iand hx hb dX8_mayGoBack_90 ?_
          refine lv_topi (fun v2 ev2 => ?_)
          have hw := hw v2 ev2
          refine lv_iconst (v := (1 : Int32)) hx hb dX8_mayGoBack_91 (by decide) ?_
          refine lv_icmp_ne (tgt := 100) hx hb dX8_mayGoBack_92 (by decide) (fun c => ?_) (fun c => ?_)
          · have hw := hw.1 c
            refine lv_iconst (v := (2 : Int32)) hx hb dX8_mayGoBack_100 (by decide) ?_
            exact wk_X8_mayGoBack_101 hR C hq (fun x1 x2 x3 F G w H locs ls h hl hw => ih x1 x2 x3 F G w h hl hw) x1 x2 x3 (2 : Int32) ((14 : Int32) * (G 28 x2.toNatClampNeg)) F G w h (lv_sub hl [0, 1, 2, 3] rfl) hw
          · have hw := hw.2 c
            refine lv_bipush (v := (8 : Int32)) hx hb dX8_mayGoBack_95 (by decide) ?_
            refine lv_goto (tgt := 101) hx hb dX8_mayGoBack_97 (by decide) ?_
            exact wk_X8_mayGoBack_101 hR C hq (fun x1 x2 x3 F G w H locs ls h hl hw => ih x1 x2 x3 F G w h hl hw) x1 x2 x3 (8 : Int32) ((14 : Int32) * (G 28 x2.toNatClampNeg)) F G w h (lv_sub hl [0, 1, 2, 3] rfl) hw
        · have hw := hw.2 c
          refine lv_goto (tgt := 125) hx hb dX8_mayGoBack_65 (by decide) ?_
          obtain ⟨v3, ev3⟩ : ∃ z : Int32, z = (x3 + 1) := ⟨_, rfl⟩
          have hw := hw v3 ev3
          refine lv_iinc (v := v3) (lv' := [(3, .int v3), (0, .ref (a 0)), (1, .int x1), (2, .int x2)]) hx hb dX8_mayGoBack_125 hl (k := 3) rfl (by rw [ev3]; rfl) (by decide) rfl (fun ls hl => ?_)
          refine lv_goto (tgt := 24) hx hb dX8_mayGoBack_128 (by decide) ?_
          exact ih x1 x2 v3 F G w h (lv_sub hl [1, 2, 3, 0] rfl) hw
set_option maxHeartbeats 4000000 in
set_option maxRecDepth 100000 in
theorem wk_X8_mayGoBack_0 {p : Program} {l : Launch} {e : Env} {R : Room} {s : State} {m : MethodId} {args : Array Value} {below : List Frame} {meth : Method} {c : Code} {K : KT} {A : Nat → Prop} {Z : State → Prop} {a : Nat → Nat} (hR : 0 ≤ R.frames ∧ 0 ≤ R.locals) (C : CX p s m args meth c K A cX8_mayGoBack 5 RX8) {Q : Int32 → FT → GT → Int64 → Prop} (hq : RetMi p l e R s m args below meth c K A Z a cX8_mayGoBack Q) (x1 : Int32) (x2 : Int32) (F : FT) (G : GT) (w : Int64) {H : Heap} {locs : List Loc} (h : WD K A s (wM K a F G w) H locs) {ls : Array Slot} (hl : lv_has ls 5 [(0, .ref (a 0)), (1, .int x1), (2, .int x2)]) (hw : wp_X8_mayGoBack_0 Q x1 x2 F G w) : W p l e R s m args below meth c H locs 0 0 Z (F0 m 0 ls []) := by
  unfold wp_X8_mayGoBack_0 at hw
  have hx := C.1
  have hb := C.2.1
  refine lv_iload_n hx hb dX8_mayGoBack_0 rfl (lv_at hl 2 rfl) ?_
  refine lv_iconst (v := (-1 : Int32)) hx hb dX8_mayGoBack_1 (by decide) ?_
  refine lv_icmp_eq (tgt := 20) hx hb dX8_mayGoBack_2 (by decide) (fun c => ?_) (fun c => ?_)
  · have hw := hw.1 c
    refine lv_iconst (v := (0 : Int32)) hx hb dX8_mayGoBack_20 (by decide) ?_
    exact hq _ F G w _ _ _ _ dX8_mayGoBack_21 h hw
  · have hw := hw.2 c
    refine lv_aload_n hx hb dX8_mayGoBack_5 rfl (lv_at hl 0 rfl) ?_
    refine gM_8_67 C h dX8_mayGoBack_6 ?_
    refine lv_iload_n hx hb dX8_mayGoBack_9 rfl (lv_at hl 2 rfl) ?_
    have hi := hw.1
    have hw := hw.2
    refine laM_25 C h hi dX8_mayGoBack_10 ?_
    refine lv_aload_n hx hb dX8_mayGoBack_11 rfl (lv_at hl 0 rfl) ?_
    refine gM_8_34 C h dX8_mayGoBack_12 ?_
    refine lv_iload_n hx hb dX8_mayGoBack_15 rfl (lv_at hl 1 rfl) ?_
    have hi := hw.1
    have hw := hw.2
    refine laM_16 C h hi dX8_mayGoBack_16 ?_
    refine lv_icmp_eq (tgt := 22) hx hb dX8_mayGoBack_17 (by decide) (fun c => ?_) (fun c => ?_)
    · have hw := hw.1 c
      refine lv_iconst (v := (0 : Int32)) hx hb dX8_mayGoBack_22 (by decide) ?_
      refine lv_istore_n (lv' := [(3, .int (0 : Int32)), (0, .ref (a 0)), (1, .int x1), (2, .int x2)]) hx hb dX8_mayGoBack_23 rfl hl (by decide) rfl (fun ls hl => ?_)
      obtain ⟨n, hw⟩ := hw
      exact wk_X8_mayGoBack_24 hR C hq n x1 x2 (0 : Int32) F G w h (lv_sub hl [1, 2, 3, 0] rfl) hw
    · have hw := hw.2 c
      refine lv_iconst (v := (0 : Int32)) hx hb dX8_mayGoBack_20 (by decide) ?_
      exact hq _ F G w _ _ _ _ dX8_mayGoBack_21 h hw
theorem c_X8_mayGoBack {l : Launch} {K : KT} {a : Nat → Nat} (x1 : Int32) (x2 : Int32) (F : FT) (G : GT) (w : Int64) {Q : Int32 → FT → GT → Int64 → Prop} (hw : wp_X8_mayGoBack x1 x2 F G w Q) : CtMi l K a yX8_mayGoBack cX8_mayGoBack 5 (some .boolean) 0 0 [.ref (a 0), .int x1, .int x2] F G w (fun r F G w => (r = 0 ∨ r = 1) ∧ Q r F G w) := fun sz => x_met (Qm := QmMi K a (fun r F G w => (r = 0 ∨ r = 1) ∧ Q r F G w)) (by decide) (Nat.le_of_ble_eq_true rfl) (fun p e s m below meth c A ls C hr h hl => wk_X8_mayGoBack_0 ⟨Nat.le_refl _, Nat.le_refl _⟩ C (retM_z C hr (fun r F G w hz => by rcases hz.1 with z | z <;> rw [z] <;> rfl)) x1 x2 F G w h hl hw)
def wp_X8_bring_71 (Q : Int32 → FT → GT → Int64 → Prop) (x2 : Int32) (s0 : Int32) (s1 : Int32) (s2 : Int32) (F : FT) (G : GT) (w : Int64) : Prop := wp_X8_goes s2 s1 s0 (2 : Int32) F G w (fun F1 G2 w3 => vp_in x2 80 ∧ vp_in x2 80 ∧ vp_in x2 80 ∧ wp_X8_due (G2 24 x2.toNatClampNeg) (G2 25 x2.toNatClampNeg) (G2 26 x2.toNatClampNeg) F1 G2 w3 (fun F4 G5 w6 => Q x2 F4 G5 w6))
def wp_X8_bring_65 (Q : Int32 → FT → GT → Int64 → Prop) (x1 : Int32) (x2 : Int32) (s0 : Int32) (s1 : Int32) (F : FT) (G : GT) (w : Int64) : Prop := vp_in x1 40 ∧ wp_X8_bring_71 Q x2 (G 17 x1.toNatClampNeg) s0 s1 F G w
def wp_X8_bring_0 (Q : Int32 → FT → GT → Int64 → Prop) (x1 : Int32) (F : FT) (G : GT) (w : Int64) : Prop := wp_X8_latest x1 F G w (fun r4 F1 G2 w3 => wp_X8_mayGoBack x1 r4 F1 G2 w3 (fun r8 F5 G6 w7 => ((¬ r8 = 0) → vp_in r4 80 ∧ ∀ G9 : GT, G9 = gU G6 30 (upd (G6 30) r4.toNatClampNeg (vp_nar .boolean (1 : Int32))) → vp_in r4 80 ∧ vp_in r4 80 ∧ (((G9 31 r4.toNatClampNeg) = 0) → wp_X8_bring_65 Q x1 r4 (G9 24 r4.toNatClampNeg) x1 F5 G9 w7) ∧ ((¬ (G9 31 r4.toNatClampNeg) = 0) → vp_in x1 40 ∧ vp_in r4 80 ∧ ((¬ (G9 17 x1.toNatClampNeg) = (G9 25 r4.toNatClampNeg)) → wp_X8_bring_65 Q x1 r4 (G9 24 r4.toNatClampNeg) x1 F5 G9 w7) ∧ (((G9 17 x1.toNatClampNeg) = (G9 25 r4.toNatClampNeg)) → vp_in r4 80 ∧ wp_X8_bring_71 Q r4 (G9 24 r4.toNatClampNeg) (G9 24 r4.toNatClampNeg) x1 F5 G9 w7))) ∧ ((r8 = 0) → Q (-1 : Int32) F5 G6 w7)))
def wp_X8_bring (x1 : Int32) (F : FT) (G : GT) (w : Int64) (Q : Int32 → FT → GT → Int64 → Prop) : Prop := wp_X8_bring_0 Q x1 F G w
set_option maxHeartbeats 4000000 in
set_option maxRecDepth 100000 in
theorem wk_X8_bring_71 {p : Program} {l : Launch} {e : Env} {R : Room} {s : State} {m : MethodId} {args : Array Value} {below : List Frame} {meth : Method} {c : Code} {K : KT} {A : Nat → Prop} {Z : State → Prop} {a : Nat → Nat} (hR : 2 ≤ R.frames ∧ 46 ≤ R.locals) (C : CX p s m args meth c K A cX8_bring 3 RX8) {Q : Int32 → FT → GT → Int64 → Prop} (hq : RetMi p l e R s m args below meth c K A Z a cX8_bring Q) (x2 : Int32) (s0 : Int32) (s1 : Int32) (s2 : Int32) (F : FT) (G : GT) (w : Int64) {H : Heap} {locs : List Loc} (h : WD K A s (wM K a F G w) H locs) {ls : Array Slot} (hl : lv_has ls 3 [(0, .ref (a 0)), (2, .int x2)]) (hw : wp_X8_bring_71 Q x2 s0 s1 s2 F G w) : W p l e R s m args below meth c H locs 0 0 Z (F0 m 71 ls [.int s0, .int s1, .int s2, .ref (a 0)]) := by
  unfold wp_X8_bring_71 at hw
  have hx := C.1
  have hb := C.2.1
  refine lv_iconst (v := (2 : Int32)) hx hb dX8_bring_71 (by decide) ?_
  refine kMvV C h (c_X8_goes s2 s1 s0 (2 : Int32) F G w hw) lk_8_204 (rvM_0 K a F G w) rfl hl.1 rfl (Nat.le_of_ble_eq_true rfl) ⟨Nat.le_trans (Nat.le_of_ble_eq_true rfl) hR.1, Nat.le_trans (Nat.le_of_ble_eq_true rfl) hR.2⟩ ⟨Nat.zero_le _, Nat.zero_le _⟩ dX8_bring_72 (fun F1 G2 w3 H locs hw h => ?_)
  refine lv_aload_n hx hb dX8_bring_75 rfl (lv_at hl 0 rfl) ?_
  refine lv_aload_n hx hb dX8_bring_76 rfl (lv_at hl 0 rfl) ?_
  refine gM_8_64 C h dX8_bring_77 ?_
  refine lv_iload_n hx hb dX8_bring_80 rfl (lv_at hl 1 rfl) ?_
  have hi := hw.1
  have hw := hw.2
  refine laM_24 C h hi dX8_bring_81 ?_
  refine lv_aload_n hx hb dX8_bring_82 rfl (lv_at hl 0 rfl) ?_
  refine gM_8_67 C h dX8_bring_83 ?_
  refine lv_iload_n hx hb dX8_bring_86 rfl (lv_at hl 1 rfl) ?_
  have hi := hw.1
  have hw := hw.2
  refine laM_25 C h hi dX8_bring_87 ?_
  refine lv_aload_n hx hb dX8_bring_88 rfl (lv_at hl 0 rfl) ?_
  refine gM_8_70 C h dX8_bring_89 ?_
  refine lv_iload_n hx hb dX8_bring_92 rfl (lv_at hl 1 rfl) ?_
  have hi := hw.1
  have hw := hw.2
  refine laM_26 C h hi dX8_bring_93 ?_
  refine kMvV C h (c_X8_due (G2 24 x2.toNatClampNeg) (G2 25 x2.toNatClampNeg) (G2 26 x2.toNatClampNeg) F1 G2 w3 hw) lk_8_221 (rvM_0 K a F1 G2 w3) rfl hl.1 rfl (Nat.le_of_ble_eq_true rfl) ⟨Nat.le_trans (Nat.le_of_ble_eq_true rfl) hR.1, Nat.le_trans (Nat.le_of_ble_eq_true rfl) hR.2⟩ ⟨Nat.zero_le _, Nat.zero_le _⟩ dX8_bring_94 (fun F4 G5 w6 H locs hw h => ?_)
  refine lv_iload_n hx hb dX8_bring_97 rfl (lv_at hl 1 rfl) ?_
  exact hq _ F4 G5 w6 _ _ _ _ dX8_bring_98 h hw
set_option maxHeartbeats 4000000 in
set_option maxRecDepth 100000 in
theorem wk_X8_bring_65 {p : Program} {l : Launch} {e : Env} {R : Room} {s : State} {m : MethodId} {args : Array Value} {below : List Frame} {meth : Method} {c : Code} {K : KT} {A : Nat → Prop} {Z : State → Prop} {a : Nat → Nat} (hR : 2 ≤ R.frames ∧ 46 ≤ R.locals) (C : CX p s m args meth c K A cX8_bring 3 RX8) {Q : Int32 → FT → GT → Int64 → Prop} (hq : RetMi p l e R s m args below meth c K A Z a cX8_bring Q) (x1 : Int32) (x2 : Int32) (s0 : Int32) (s1 : Int32) (F : FT) (G : GT) (w : Int64) {H : Heap} {locs : List Loc} (h : WD K A s (wM K a F G w) H locs) {ls : Array Slot} (hl : lv_has ls 3 [(0, .ref (a 0)), (1, .int x1), (2, .int x2)]) (hw : wp_X8_bring_65 Q x1 x2 s0 s1 F G w) : W p l e R s m args below meth c H locs 0 0 Z (F0 m 65 ls [.int s0, .int s1, .ref (a 0)]) := by
  unfold wp_X8_bring_65 at hw
  have hx := C.1
  have hb := C.2.1
  refine lv_aload_n hx hb dX8_bring_65 rfl (lv_at hl 0 rfl) ?_
  refine gM_8_37 C h dX8_bring_66 ?_
  refine lv_iload_n hx hb dX8_bring_69 rfl (lv_at hl 1 rfl) ?_
  have hi := hw.1
  have hw := hw.2
  refine laM_17 C h hi dX8_bring_70 ?_
  exact wk_X8_bring_71 hR C hq x2 (G 17 x1.toNatClampNeg) s0 s1 F G w h (lv_sub hl [0, 2] rfl) hw
set_option maxHeartbeats 4000000 in
set_option maxRecDepth 100000 in
theorem wk_X8_bring_0 {p : Program} {l : Launch} {e : Env} {R : Room} {s : State} {m : MethodId} {args : Array Value} {below : List Frame} {meth : Method} {c : Code} {K : KT} {A : Nat → Prop} {Z : State → Prop} {a : Nat → Nat} (hR : 2 ≤ R.frames ∧ 46 ≤ R.locals) (C : CX p s m args meth c K A cX8_bring 3 RX8) {Q : Int32 → FT → GT → Int64 → Prop} (hq : RetMi p l e R s m args below meth c K A Z a cX8_bring Q) (x1 : Int32) (F : FT) (G : GT) (w : Int64) {H : Heap} {locs : List Loc} (h : WD K A s (wM K a F G w) H locs) {ls : Array Slot} (hl : lv_has ls 3 [(0, .ref (a 0)), (1, .int x1)]) (hw : wp_X8_bring_0 Q x1 F G w) : W p l e R s m args below meth c H locs 0 0 Z (F0 m 0 ls []) := by
  unfold wp_X8_bring_0 at hw
  have hx := C.1
  have hb := C.2.1
  refine lv_aload_n hx hb dX8_bring_0 rfl (lv_at hl 0 rfl) ?_
  refine lv_iload_n hx hb dX8_bring_1 rfl (lv_at hl 1 rfl) ?_
  refine kMiV C h (c_X8_latest x1 F G w hw) lk_8_214 (rvM_0 K a F G w) rfl hl.1 rfl (Nat.le_of_ble_eq_true rfl) ⟨Nat.le_trans (Nat.le_of_ble_eq_true rfl) hR.1, Nat.le_trans (Nat.le_of_ble_eq_true rfl) hR.2⟩ ⟨Nat.zero_le _, Nat.zero_le _⟩ dX8_bring_2 (fun r4 F1 G2 w3 H locs hw h => ?_)
  refine lv_istore_n (lv' := [(2, .int r4), (0, .ref (a 0)), (1, .int x1)]) hx hb dX8_bring_5 rfl hl (by decide) rfl (fun ls hl => ?_)
  refine lv_aload_n hx hb dX8_bring_6 rfl (lv_at hl 1 rfl) ?_
  refine lv_iload_n hx hb dX8_bring_7 rfl (lv_at hl 2 rfl) ?_
  refine lv_iload_n hx hb dX8_bring_8 rfl (lv_at hl 0 rfl) ?_
  refine kMiV C h (c_X8_mayGoBack x1 r4 F1 G2 w3 hw) lk_8_217 (rvM_0 K a F1 G2 w3) rfl hl.1 rfl (Nat.le_of_ble_eq_true rfl) ⟨Nat.le_trans (Nat.le_of_ble_eq_true rfl) hR.1, Nat.le_trans (Nat.le_of_ble_eq_true rfl) hR.2⟩ ⟨Nat.zero_le _, Nat.zero_le _⟩ dX8_bring_9 (fun r8 F5 G6 w7 H locs hw h => ?_)
  have hw := hw.2
  refine lv_if_ne (tgt := 17) hx hb dX8_bring_12 (by decide) (fun c => ?_) (fun c => ?_)
  · have hw := hw.1 c
    refine lv_aload_n hx hb dX8_bring_17 rfl (lv_at hl 1 rfl) ?_
    refine gM_8_82 C h dX8_bring_18 ?_
    refine lv_iload_n hx hb dX8_bring_21 rfl (lv_at hl 0 rfl) ?_
    refine lv_iconst (v := (1 : Int32)) hx hb dX8_bring_22 (by decide) ?_
    have hi := hw.1
    have hw := hw.2
    refine saM_30 C h hi dX8_bring_23 (fun G9 H locs eG9 h => ?_)
    have hw := hw G9 eG9
    refine lv_aload_n hx hb dX8_bring_24 rfl (lv_at hl 1 rfl) ?_
    refine lv_iload_n hx hb dX8_bring_25 rfl (lv_at hl 2 rfl) ?_
    refine lv_aload_n hx hb dX8_bring_26 rfl (lv_at hl 1 rfl) ?_
    refine gM_8_64 C h dX8_bring_27 ?_
    refine lv_iload_n hx hb dX8_bring_30 rfl (lv_at hl 0 rfl) ?_
    have hi := hw.1
    have hw := hw.2
    refine laM_24 C h hi dX8_bring_31 ?_
    refine lv_aload_n hx hb dX8_bring_32 rfl (lv_at hl 1 rfl) ?_
    refine gM_8_86 C h dX8_bring_33 ?_
    refine lv_iload_n hx hb dX8_bring_36 rfl (lv_at hl 0 rfl) ?_
    have hi := hw.1
    have hw := hw.2
    refine laM_31 C h hi dX8_bring_37 ?_
    refine lv_if_eq (tgt := 65) hx hb dX8_bring_38 (by decide) (fun c => ?_) (fun c => ?_)
    · have hw := hw.1 c
      exact wk_X8_bring_65 hR C hq x1 r4 (G9 24 r4.toNatClampNeg) x1 F5 G9 w7 h (lv_sub hl [1, 2, 0] rfl) hw
    · have hw := hw.2 c
      refine lv_aload_n hx hb dX8_bring_41 rfl (lv_at hl 1 rfl) ?_
      refine gM_8_37 C h dX8_bring_42 ?_
      refine lv_iload_n hx hb dX8_bring_45 rfl (lv_at hl 2 rfl) ?_
      have hi := hw.1
      have hw := hw.2
      refine laM_17 C h hi dX8_bring_46 ?_
      refine lv_aload_n hx hb dX8_bring_47 rfl (lv_at hl 1 rfl) ?_
      refine gM_8_67 C h dX8_bring_48 ?_
      refine lv_iload_n hx hb dX8_bring_51 rfl (lv_at hl 0 rfl) ?_
      have hi := hw.1
      have hw := hw.2
      refine laM_25 C h hi dX8_bring_52 ?_
      refine lv_icmp_ne (tgt := 65) hx hb dX8_bring_53 (by decide) (fun c => ?_) (fun c => ?_)
      · have hw := hw.1 c
        exact wk_X8_bring_65 hR C hq x1 r4 (G9 24 r4.toNatClampNeg) x1 F5 G9 w7 h (lv_sub hl [1, 2, 0] rfl) hw
      · have hw := hw.2 c
        refine lv_aload_n hx hb dX8_bring_56 rfl (lv_at hl 1 rfl) ?_
        refine gM_8_64 C h dX8_bring_57 ?_
        refine lv_iload_n hx hb dX8_bring_60 rfl (lv_at hl 0 rfl) ?_
        have hi := hw.1
        have hw := hw.2
        refine laM_24 C h hi dX8_bring_61 ?_
        refine lv_goto (tgt := 71) hx hb dX8_bring_62 (by decide) ?_
        exact wk_X8_bring_71 hR C hq r4 (G9 24 r4.toNatClampNeg) (G9 24 r4.toNatClampNeg) x1 F5 G9 w7 h (lv_sub hl [1, 0] rfl) hw
  · have hw := hw.2 c
    refine lv_iconst (v := (-1 : Int32)) hx hb dX8_bring_15 (by decide) ?_
    exact hq _ F5 G6 w7 _ _ _ _ dX8_bring_16 h hw
theorem c_X8_bring {l : Launch} {K : KT} {a : Nat → Nat} (x1 : Int32) (F : FT) (G : GT) (w : Int64) {Q : Int32 → FT → GT → Int64 → Prop} (hw : wp_X8_bring x1 F G w Q) : CtMi l K a yX8_bring cX8_bring 3 (some .int) 2 46 [.ref (a 0), .int x1] F G w Q := fun sz => x_met (Qm := QmMi K a Q) (by decide) (Nat.le_of_ble_eq_true rfl) (fun p e s m below meth c A ls C hr h hl => wk_X8_bring_0 ⟨Nat.le_refl _, Nat.le_refl _⟩ C (retM_z C hr (fun r F G w _ => rfl)) x1 F G w h hl hw)
def wp_X8_back_0 (Q : Int32 → FT → GT → Int64 → Prop) (x1 : Int32) (F : FT) (G : GT) (w : Int64) : Prop := ∀ F1 : FT, F1 = sU F 20 (0 : Int32) → wp_X8_isHorse x1 F1 G w (fun r5 F2 G3 w4 => ((r5 = 0) → Q (-1 : Int32) F2 G3 w4) ∧ ((¬ r5 = 0) → wp_X8_bring x1 F2 G3 w4 (fun r9 F6 G7 w8 => Q r9 F6 G7 w8)))
def wp_X8_back (x1 : Int32) (F : FT) (G : GT) (w : Int64) (Q : Int32 → FT → GT → Int64 → Prop) : Prop := wp_X8_back_0 Q x1 F G w
set_option maxHeartbeats 4000000 in
set_option maxRecDepth 100000 in
theorem wk_X8_back_0 {p : Program} {l : Launch} {e : Env} {R : Room} {s : State} {m : MethodId} {args : Array Value} {below : List Frame} {meth : Method} {c : Code} {K : KT} {A : Nat → Prop} {Z : State → Prop} {a : Nat → Nat} (hR : 3 ≤ R.frames ∧ 68 ≤ R.locals) (C : CX p s m args meth c K A cX8_back 2 RX8) {Q : Int32 → FT → GT → Int64 → Prop} (hq : RetMi p l e R s m args below meth c K A Z a cX8_back Q) (x1 : Int32) (F : FT) (G : GT) (w : Int64) {H : Heap} {locs : List Loc} (h : WD K A s (wM K a F G w) H locs) {ls : Array Slot} (hl : lv_has ls 2 [(0, .ref (a 0)), (1, .int x1)]) (hw : wp_X8_back_0 Q x1 F G w) : W p l e R s m args below meth c H locs 0 0 Z (F0 m 0 ls []) := by
  unfold wp_X8_back_0 at hw
  have hx := C.1
  have hb := C.2.1
  refine lv_aload_n hx hb dX8_back_0 rfl (lv_at hl 0 rfl) ?_
  refine lv_iconst (v := (0 : Int32)) hx hb dX8_back_1 (by decide) ?_
  refine pM_8_89 C h dX8_back_2 (fun F1 H locs eF1 h => ?_)
  have hw := hw F1 eF1
  refine lv_aload_n hx hb dX8_back_5 rfl (lv_at hl 0 rfl) ?_
  refine lv_iload_n hx hb dX8_back_6 rfl (lv_at hl 1 rfl) ?_
  refine kMiV C h (c_X8_isHorse x1 F1 G w hw) lk_8_208 (rvM_0 K a F1 G w) rfl hl.1 rfl (Nat.le_of_ble_eq_true rfl) ⟨Nat.le_trans (Nat.le_of_ble_eq_true rfl) hR.1, Nat.le_trans (Nat.le_of_ble_eq_true rfl) hR.2⟩ ⟨Nat.zero_le _, Nat.zero_le _⟩ dX8_back_7 (fun r5 F2 G3 w4 H locs hw h => ?_)
  have hw := hw.2
  refine lv_if_eq (tgt := 21) hx hb dX8_back_10 (by decide) (fun c => ?_) (fun c => ?_)
  · have hw := hw.1 c
    refine lv_iconst (v := (-1 : Int32)) hx hb dX8_back_21 (by decide) ?_
    exact hq _ F2 G3 w4 _ _ _ _ dX8_back_22 h hw
  · have hw := hw.2 c
    refine lv_aload_n hx hb dX8_back_13 rfl (lv_at hl 0 rfl) ?_
    refine lv_iload_n hx hb dX8_back_14 rfl (lv_at hl 1 rfl) ?_
    refine kMiV C h (c_X8_bring x1 F2 G3 w4 hw) lk_8_225 (rvM_0 K a F2 G3 w4) rfl hl.1 rfl (Nat.le_of_ble_eq_true rfl) ⟨Nat.le_trans (Nat.le_of_ble_eq_true rfl) hR.1, Nat.le_trans (Nat.le_of_ble_eq_true rfl) hR.2⟩ ⟨Nat.zero_le _, Nat.zero_le _⟩ dX8_back_15 (fun r9 F6 G7 w8 H locs hw h => ?_)
    refine lv_goto (tgt := 22) hx hb dX8_back_18 (by decide) ?_
    exact hq _ F6 G7 w8 _ _ _ _ dX8_back_22 h hw
theorem c_X8_back {l : Launch} {K : KT} {a : Nat → Nat} (x1 : Int32) (F : FT) (G : GT) (w : Int64) {Q : Int32 → FT → GT → Int64 → Prop} (hw : wp_X8_back x1 F G w Q) : CtMi l K a yX8_back cX8_back 2 (some .int) 3 68 [.ref (a 0), .int x1] F G w Q := fun sz => x_met (Qm := QmMi K a Q) (by decide) (Nat.le_of_ble_eq_true rfl) (fun p e s m below meth c A ls C hr h hl => wk_X8_back_0 ⟨Nat.le_refl _, Nat.le_refl _⟩ C (retM_z C hr (fun r F G w _ => rfl)) x1 F G w h hl hw)
def wp_X8_trace_17 (Q : Int32 → FT → GT → Int64 → Prop) : Nat → Int32 → Int32 → FT → GT → Int64 → Prop
  | 0, _, _, _, _, _ => False
  | n + 1, x1, x2, F, G, w => wp_X8_bring x1 F G w (fun r4 F1 G2 w3 => ((r4 = (-1 : Int32)) → Q x2 F1 G2 w3) ∧ ((¬ r4 = (-1 : Int32)) → ∀ v5 : Int32, v5 = (x2 + 1) → wp_X8_trace_17 Q n x1 v5 F1 G2 w3))
def wp_X8_trace_0 (Q : Int32 → FT → GT → Int64 → Prop) (x1 : Int32) (F : FT) (G : GT) (w : Int64) : Prop := ∀ F1 : FT, F1 = sU F 20 (0 : Int32) → wp_X8_isHorse x1 F1 G w (fun r5 F2 G3 w4 => ((¬ r5 = 0) → ∃ n : Nat, wp_X8_trace_17 Q n x1 (0 : Int32) F2 G3 w4) ∧ ((r5 = 0) → Q (-1 : Int32) F2 G3 w4))
def wp_X8_trace (x1 : Int32) (F : FT) (G : GT) (w : Int64) (Q : Int32 → FT → GT → Int64 → Prop) : Prop := wp_X8_trace_0 Q x1 F G w
set_option maxHeartbeats 4000000 in
set_option maxRecDepth 100000 in
theorem wk_X8_trace_17 {p : Program} {l : Launch} {e : Env} {R : Room} {s : State} {m : MethodId} {args : Array Value} {below : List Frame} {meth : Method} {c : Code} {K : KT} {A : Nat → Prop} {Z : State → Prop} {a : Nat → Nat} (hR : 3 ≤ R.frames ∧ 68 ≤ R.locals) (C : CX p s m args meth c K A cX8_trace 3 RX8) {Q : Int32 → FT → GT → Int64 → Prop} (hq : RetMi p l e R s m args below meth c K A Z a cX8_trace Q) : ∀ (n : Nat) (x1 : Int32) (x2 : Int32) (F : FT) (G : GT) (w : Int64) {H : Heap} {locs : List Loc} (h : WD K A s (wM K a F G w) H locs) {ls : Array Slot} (hl : lv_has ls 3 [(0, .ref (a 0)), (1, .int x1), (2, .int x2)]) (hw : wp_X8_trace_17 Q n x1 x2 F G w), W p l e R s m args below meth c H locs 0 0 Z (F0 m 17 ls []) := by
  intro n
  induction n with
  | zero => intro x1 x2 F G w H locs h ls hl hw; exact False.elim hw
  | succ n ih =>
    intro x1 x2 F G w H locs h ls hl hw
    rw [wp_X8_trace_17] at hw
    have hx := C.1
    have hb := C.2.1
    refine lv_aload_n hx hb dX8_trace_17 rfl (lv_at hl 0 rfl) ?_
    refine lv_iload_n hx hb dX8_trace_18 rfl (lv_at hl 1 rfl) ?_
    refine kMiV C h (c_X8_bring x1 F G w hw) lk_8_225 (rvM_0 K a F G w) rfl hl.1 rfl (Nat.le_of_ble_eq_true rfl) ⟨Nat.le_trans (Nat.le_of_ble_eq_true rfl) hR.1, Nat.le_trans (Nat.le_of_ble_eq_true rfl) hR.2⟩ ⟨Nat.zero_le _, Nat.zero_le _⟩ dX8_trace_19 (fun r4 F1 G2 w3 H locs hw h => ?_)
    refine lv_iconst (v := (-1 : Int32)) hx hb dX8_trace_22 (by decide) ?_
    refine lv_icmp_eq (tgt := 32) hx hb dX8_trace_23 (by decide) (fun c => ?_) (fun c => ?_)
    · have hw := hw.1 c
      refine lv_iload_n hx hb dX8_trace_32 rfl (lv_at hl 2 rfl) ?_
      exact hq _ F1 G2 w3 _ _ _ _ dX8_trace_33 h hw
    · have hw := hw.2 c
      obtain ⟨v5, ev5⟩ : ∃ z : Int32, z = (x2 + 1) := ⟨_, rfl⟩
      have hw := hw v5 ev5
      refine lv_iinc (v := v5) (lv' := [(2, .int v5), (0, .ref (a 0)), (1, .int x1)]) hx hb dX8_trace_26 hl (k := 2) rfl (by rw [ev5]; rfl) (by decide) rfl (fun ls hl => ?_)
      refine lv_goto (tgt := 17) hx hb dX8_trace_29 (by decide) ?_
      exact ih x1 v5 F1 G2 w3 h (lv_sub hl [1, 2, 0] rfl) hw
set_option maxHeartbeats 4000000 in
set_option maxRecDepth 100000 in
theorem wk_X8_trace_0 {p : Program} {l : Launch} {e : Env} {R : Room} {s : State} {m : MethodId} {args : Array Value} {below : List Frame} {meth : Method} {c : Code} {K : KT} {A : Nat → Prop} {Z : State → Prop} {a : Nat → Nat} (hR : 3 ≤ R.frames ∧ 68 ≤ R.locals) (C : CX p s m args meth c K A cX8_trace 3 RX8) {Q : Int32 → FT → GT → Int64 → Prop} (hq : RetMi p l e R s m args below meth c K A Z a cX8_trace Q) (x1 : Int32) (F : FT) (G : GT) (w : Int64) {H : Heap} {locs : List Loc} (h : WD K A s (wM K a F G w) H locs) {ls : Array Slot} (hl : lv_has ls 3 [(0, .ref (a 0)), (1, .int x1)]) (hw : wp_X8_trace_0 Q x1 F G w) : W p l e R s m args below meth c H locs 0 0 Z (F0 m 0 ls []) := by
  unfold wp_X8_trace_0 at hw
  have hx := C.1
  have hb := C.2.1
  refine lv_aload_n hx hb dX8_trace_0 rfl (lv_at hl 0 rfl) ?_
  refine lv_iconst (v := (0 : Int32)) hx hb dX8_trace_1 (by decide) ?_
  refine pM_8_89 C h dX8_trace_2 (fun F1 H locs eF1 h => ?_)
  have hw := hw F1 eF1
  refine lv_aload_n hx hb dX8_trace_5 rfl (lv_at hl 0 rfl) ?_
  refine lv_iload_n hx hb dX8_trace_6 rfl (lv_at hl 1 rfl) ?_
  refine kMiV C h (c_X8_isHorse x1 F1 G w hw) lk_8_208 (rvM_0 K a F1 G w) rfl hl.1 rfl (Nat.le_of_ble_eq_true rfl) ⟨Nat.le_trans (Nat.le_of_ble_eq_true rfl) hR.1, Nat.le_trans (Nat.le_of_ble_eq_true rfl) hR.2⟩ ⟨Nat.zero_le _, Nat.zero_le _⟩ dX8_trace_7 (fun r5 F2 G3 w4 H locs hw h => ?_)
  have hw := hw.2
  refine lv_if_ne (tgt := 15) hx hb dX8_trace_10 (by decide) (fun c => ?_) (fun c => ?_)
  · have hw := hw.1 c
    refine lv_iconst (v := (0 : Int32)) hx hb dX8_trace_15 (by decide) ?_
    refine lv_istore_n (lv' := [(2, .int (0 : Int32)), (0, .ref (a 0)), (1, .int x1)]) hx hb dX8_trace_16 rfl hl (by decide) rfl (fun ls hl => ?_)
    obtain ⟨n, hw⟩ := hw
    exact wk_X8_trace_17 hR C hq n x1 (0 : Int32) F2 G3 w4 h (lv_sub hl [1, 2, 0] rfl) hw
  · have hw := hw.2 c
    refine lv_iconst (v := (-1 : Int32)) hx hb dX8_trace_13 (by decide) ?_
    exact hq _ F2 G3 w4 _ _ _ _ dX8_trace_14 h hw
theorem c_X8_trace {l : Launch} {K : KT} {a : Nat → Nat} (x1 : Int32) (F : FT) (G : GT) (w : Int64) {Q : Int32 → FT → GT → Int64 → Prop} (hw : wp_X8_trace x1 F G w Q) : CtMi l K a yX8_trace cX8_trace 3 (some .int) 3 68 [.ref (a 0), .int x1] F G w Q := fun sz => x_met (Qm := QmMi K a Q) (by decide) (Nat.le_of_ble_eq_true rfl) (fun p e s m below meth c A ls C hr h hl => wk_X8_trace_0 ⟨Nat.le_refl _, Nat.le_refl _⟩ C (retM_z C hr (fun r F G w _ => rfl)) x1 F G w h hl hw)
def wp_X8_steal_0 (Q : Int32 → FT → GT → Int64 → Prop) (x1 : Int32) (x2 : Int32) (F : FT) (G : GT) (w : Int64) : Prop := ∀ F1 : FT, F1 = sU F 20 (0 : Int32) → wp_X8_isHorse x1 F1 G w (fun r5 F2 G3 w4 => ((r5 = 0) → Q (0 : Int32) F2 G3 w4) ∧ ((¬ r5 = 0) → wp_X8_isPerson x2 F2 G3 w4 (fun r9 F6 G7 w8 => ((r9 = 0) → Q (0 : Int32) F6 G7 w8) ∧ ((¬ r9 = 0) → vp_in x1 40 ∧ ((¬ (G7 16 x1.toNatClampNeg) = x2) → vp_in x1 40 ∧ wp_X8_goes x1 x2 (G7 17 x1.toNatClampNeg) (3 : Int32) F6 G7 w8 (fun F10 G11 w12 => Q (1 : Int32) F10 G11 w12)) ∧ (((G7 16 x1.toNatClampNeg) = x2) → Q (0 : Int32) F6 G7 w8)))))
def wp_X8_steal (x1 : Int32) (x2 : Int32) (F : FT) (G : GT) (w : Int64) (Q : Int32 → FT → GT → Int64 → Prop) : Prop := wp_X8_steal_0 (fun r F G w => (r = 0 ∨ r = 1) ∧ Q r F G w) x1 x2 F G w
set_option maxHeartbeats 4000000 in
set_option maxRecDepth 100000 in
theorem wk_X8_steal_0 {p : Program} {l : Launch} {e : Env} {R : Room} {s : State} {m : MethodId} {args : Array Value} {below : List Frame} {meth : Method} {c : Code} {K : KT} {A : Nat → Prop} {Z : State → Prop} {a : Nat → Nat} (hR : 1 ≤ R.frames ∧ 25 ≤ R.locals) (C : CX p s m args meth c K A cX8_steal 3 RX8) {Q : Int32 → FT → GT → Int64 → Prop} (hq : RetMi p l e R s m args below meth c K A Z a cX8_steal Q) (x1 : Int32) (x2 : Int32) (F : FT) (G : GT) (w : Int64) {H : Heap} {locs : List Loc} (h : WD K A s (wM K a F G w) H locs) {ls : Array Slot} (hl : lv_has ls 3 [(0, .ref (a 0)), (1, .int x1), (2, .int x2)]) (hw : wp_X8_steal_0 Q x1 x2 F G w) : W p l e R s m args below meth c H locs 0 0 Z (F0 m 0 ls []) := by
  unfold wp_X8_steal_0 at hw
  have hx := C.1
  have hb := C.2.1
  refine lv_aload_n hx hb dX8_steal_0 rfl (lv_at hl 0 rfl) ?_
  refine lv_iconst (v := (0 : Int32)) hx hb dX8_steal_1 (by decide) ?_
  refine pM_8_89 C h dX8_steal_2 (fun F1 H locs eF1 h => ?_)
  have hw := hw F1 eF1
  refine lv_aload_n hx hb dX8_steal_5 rfl (lv_at hl 0 rfl) ?_
  refine lv_iload_n hx hb dX8_steal_6 rfl (lv_at hl 1 rfl) ?_
  refine kMiV C h (c_X8_isHorse x1 F1 G w hw) lk_8_208 (rvM_0 K a F1 G w) rfl hl.1 rfl (Nat.le_of_ble_eq_true rfl) ⟨Nat.le_trans (Nat.le_of_ble_eq_true rfl) hR.1, Nat.le_trans (Nat.le_of_ble_eq_true rfl) hR.2⟩ ⟨Nat.zero_le _, Nat.zero_le _⟩ dX8_steal_7 (fun r5 F2 G3 w4 H locs hw h => ?_)
  have hw := hw.2
  refine lv_if_eq (tgt := 31) hx hb dX8_steal_10 (by decide) (fun c => ?_) (fun c => ?_)
  · have hw := hw.1 c
    refine lv_iconst (v := (0 : Int32)) hx hb dX8_steal_31 (by decide) ?_
    exact hq _ F2 G3 w4 _ _ _ _ dX8_steal_32 h hw
  · have hw := hw.2 c
    refine lv_aload_n hx hb dX8_steal_13 rfl (lv_at hl 0 rfl) ?_
    refine lv_iload_n hx hb dX8_steal_14 rfl (lv_at hl 2 rfl) ?_
    refine kMiV C h (c_X8_isPerson x2 F2 G3 w4 hw) lk_8_183 (rvM_0 K a F2 G3 w4) rfl hl.1 rfl (Nat.le_of_ble_eq_true rfl) ⟨Nat.le_trans (Nat.le_of_ble_eq_true rfl) hR.1, Nat.le_trans (Nat.le_of_ble_eq_true rfl) hR.2⟩ ⟨Nat.zero_le _, Nat.zero_le _⟩ dX8_steal_15 (fun r9 F6 G7 w8 H locs hw h => ?_)
    have hw := hw.2
    refine lv_if_eq (tgt := 31) hx hb dX8_steal_18 (by decide) (fun c => ?_) (fun c => ?_)
    · have hw := hw.1 c
      refine lv_iconst (v := (0 : Int32)) hx hb dX8_steal_31 (by decide) ?_
      exact hq _ F6 G7 w8 _ _ _ _ dX8_steal_32 h hw
    · have hw := hw.2 c
      refine lv_aload_n hx hb dX8_steal_21 rfl (lv_at hl 0 rfl) ?_
      refine gM_8_34 C h dX8_steal_22 ?_
      refine lv_iload_n hx hb dX8_steal_25 rfl (lv_at hl 1 rfl) ?_
      have hi := hw.1
      have hw := hw.2
      refine laM_16 C h hi dX8_steal_26 ?_
      refine lv_iload_n hx hb dX8_steal_27 rfl (lv_at hl 2 rfl) ?_
      refine lv_icmp_ne (tgt := 33) hx hb dX8_steal_28 (by decide) (fun c => ?_) (fun c => ?_)
      · have hw := hw.1 c
        refine lv_aload_n hx hb dX8_steal_33 rfl (lv_at hl 0 rfl) ?_
        refine lv_iload_n hx hb dX8_steal_34 rfl (lv_at hl 1 rfl) ?_
        refine lv_iload_n hx hb dX8_steal_35 rfl (lv_at hl 2 rfl) ?_
        refine lv_aload_n hx hb dX8_steal_36 rfl (lv_at hl 0 rfl) ?_
        refine gM_8_37 C h dX8_steal_37 ?_
        refine lv_iload_n hx hb dX8_steal_40 rfl (lv_at hl 1 rfl) ?_
        have hi := hw.1
        have hw := hw.2
        refine laM_17 C h hi dX8_steal_41 ?_
        refine lv_iconst (v := (3 : Int32)) hx hb dX8_steal_42 (by decide) ?_
        refine kMvV C h (c_X8_goes x1 x2 (G7 17 x1.toNatClampNeg) (3 : Int32) F6 G7 w8 hw) lk_8_204 (rvM_0 K a F6 G7 w8) rfl hl.1 rfl (Nat.le_of_ble_eq_true rfl) ⟨Nat.le_trans (Nat.le_of_ble_eq_true rfl) hR.1, Nat.le_trans (Nat.le_of_ble_eq_true rfl) hR.2⟩ ⟨Nat.zero_le _, Nat.zero_le _⟩ dX8_steal_43 (fun F10 G11 w12 H locs hw h => ?_)
        refine lv_iconst (v := (1 : Int32)) hx hb dX8_steal_46 (by decide) ?_
        exact hq _ F10 G11 w12 _ _ _ _ dX8_steal_47 h hw
      · have hw := hw.2 c
        refine lv_iconst (v := (0 : Int32)) hx hb dX8_steal_31 (by decide) ?_
        exact hq _ F6 G7 w8 _ _ _ _ dX8_steal_32 h hw
theorem c_X8_steal {l : Launch} {K : KT} {a : Nat → Nat} (x1 : Int32) (x2 : Int32) (F : FT) (G : GT) (w : Int64) {Q : Int32 → FT → GT → Int64 → Prop} (hw : wp_X8_steal x1 x2 F G w Q) : CtMi l K a yX8_steal cX8_steal 3 (some .boolean) 1 25 [.ref (a 0), .int x1, .int x2] F G w (fun r F G w => (r = 0 ∨ r = 1) ∧ Q r F G w) := fun sz => x_met (Qm := QmMi K a (fun r F G w => (r = 0 ∨ r = 1) ∧ Q r F G w)) (by decide) (Nat.le_of_ble_eq_true rfl) (fun p e s m below meth c A ls C hr h hl => wk_X8_steal_0 ⟨Nat.le_refl _, Nat.le_refl _⟩ C (retM_z C hr (fun r F G w hz => by rcases hz.1 with z | z <;> rw [z] <;> rfl)) x1 x2 F G w h hl hw)
def wp_X8_claim_65 (Q : Int32 → FT → GT → Int64 → Prop) : Nat → Int32 → Int32 → Int32 → Int32 → FT → GT → Int64 → Prop
  | 0, _, _, _, _, _, _, _ => False
  | n + 1, x1, x2, x3, x4, F, G, w => ((x4 < x2) → Q x3 F G w) ∧ ((¬ x4 < x2) → vp_in x4 80 ∧ ((¬ (G 23 x4.toNatClampNeg) = x1) → ∀ v1 : Int32, v1 = (x4 + (-1)) → wp_X8_claim_65 Q n x1 x2 x3 v1 F G w) ∧ (((G 23 x4.toNatClampNeg) = x1) → vp_in x4 80 ∧ (((G 30 x4.toNatClampNeg) = 0) → vp_in x4 80 ∧ ∀ G2 : GT, G2 = gU G 30 (upd (G 30) x4.toNatClampNeg (vp_nar .boolean (1 : Int32))) → vp_in x4 80 ∧ vp_in x4 80 ∧ vp_in x4 80 ∧ wp_X8_due (G2 24 x4.toNatClampNeg) (G2 25 x4.toNatClampNeg) (G2 26 x4.toNatClampNeg) F G2 w (fun F3 G4 w5 => ∀ v6 : Int32, v6 = (x3 + 1) → ∀ v7 : Int32, v7 = (x4 + (-1)) → wp_X8_claim_65 Q n x1 x2 v6 v7 F3 G4 w5)) ∧ ((¬ (G 30 x4.toNatClampNeg) = 0) → ∀ v8 : Int32, v8 = (x4 + (-1)) → wp_X8_claim_65 Q n x1 x2 x3 v8 F G w)))
def wp_X8_claim_0 (Q : Int32 → FT → GT → Int64 → Prop) (x1 : Int32) (F : FT) (G : GT) (w : Int64) : Prop := ∀ F1 : FT, F1 = sU F 20 (0 : Int32) → wp_X8_isHorse x1 F1 G w (fun r5 F2 G3 w4 => ((r5 = 0) → Q (-1 : Int32) F2 G3 w4) ∧ ((¬ r5 = 0) → vp_in x1 40 ∧ vp_in x1 40 ∧ ((¬ (G3 16 x1.toNatClampNeg) = (G3 17 x1.toNatClampNeg)) → vp_in x1 40 ∧ vp_in x1 40 ∧ vp_in x1 40 ∧ wp_X8_goes x1 (G3 17 x1.toNatClampNeg) (G3 17 x1.toNatClampNeg) (4 : Int32) F2 G3 w4 (fun F6 G7 w8 => ∃ n : Nat, wp_X8_claim_65 Q n x1 (G3 18 x1.toNatClampNeg) (0 : Int32) ((F6 8) - (1 : Int32)) F6 G7 w8)) ∧ (((G3 16 x1.toNatClampNeg) = (G3 17 x1.toNatClampNeg)) → Q (-1 : Int32) F2 G3 w4)))
def wp_X8_claim (x1 : Int32) (F : FT) (G : GT) (w : Int64) (Q : Int32 → FT → GT → Int64 → Prop) : Prop := wp_X8_claim_0 Q x1 F G w
set_option maxHeartbeats 4000000 in
set_option maxRecDepth 100000 in
theorem wk_X8_claim_65 {p : Program} {l : Launch} {e : Env} {R : Room} {s : State} {m : MethodId} {args : Array Value} {below : List Frame} {meth : Method} {c : Code} {K : KT} {A : Nat → Prop} {Z : State → Prop} {a : Nat → Nat} (hR : 2 ≤ R.frames ∧ 46 ≤ R.locals) (C : CX p s m args meth c K A cX8_claim 5 RX8) {Q : Int32 → FT → GT → Int64 → Prop} (hq : RetMi p l e R s m args below meth c K A Z a cX8_claim Q) : ∀ (n : Nat) (x1 : Int32) (x2 : Int32) (x3 : Int32) (x4 : Int32) (F : FT) (G : GT) (w : Int64) {H : Heap} {locs : List Loc} (h : WD K A s (wM K a F G w) H locs) {ls : Array Slot} (hl : lv_has ls 5 [(0, .ref (a 0)), (1, .int x1), (2, .int x2), (3, .int x3), (4, .int x4)]) (hw : wp_X8_claim_65 Q n x1 x2 x3 x4 F G w), W p l e R s m args below meth c H locs 0 0 Z (F0 m 65 ls []) := by
  intro n
  induction n with
  | zero => intro x1 x2 x3 x4 F G w H locs h ls hl hw; exact False.elim hw
  | succ n ih =>
    intro x1 x2 x3 x4 F G w H locs h ls hl hw
    rw [wp_X8_claim_65] at hw
    have hx := C.1
    have hb := C.2.1
    refine lv_iload hx hb dX8_claim_65 (lv_at hl 4 rfl) ?_
    refine lv_iload_n hx hb dX8_claim_67 rfl (lv_at hl 2 rfl) ?_
    refine lv_icmp_lt (tgt := 137) hx hb dX8_claim_68 (by decide) (fun c => ?_) (fun c => ?_)
    · have hw := hw.1 c
      refine lv_iload_n hx hb dX8_claim_137 rfl (lv_at hl 3 rfl) ?_
      exact hq _ F G w _ _ _ _ dX8_claim_138 h hw
    · have hw := hw.2 c
      refine lv_aload_n hx hb dX8_claim_71 rfl (lv_at hl 0 rfl) ?_
      refine gM_8_61 C h dX8_claim_72 ?_
      refine lv_iload hx hb dX8_claim_75 (lv_at hl 4 rfl) ?_
      have hi := hw.1
      have hw := hw.2
      refine laM_23 C h hi dX8_claim_77 ?_
      refine lv_iload_n hx hb dX8_claim_78 rfl (lv_at hl 1 rfl) ?_
      refine lv_icmp_ne (tgt := 131) hx hb dX8_claim_79 (by decide) (fun c => ?_) (fun c => ?_)
      · have hw := hw.1 c
        obtain ⟨v1, ev1⟩ : ∃ z : Int32, z = (x4 + (-1)) := ⟨_, rfl⟩
        have hw := hw v1 ev1
        refine lv_iinc (v := v1) (lv' := [(4, .int v1), (0, .ref (a 0)), (1, .int x1), (2, .int x2), (3, .int x3)]) hx hb dX8_claim_131 hl (k := 4) rfl (by rw [ev1]; rfl) (by decide) rfl (fun ls hl => ?_)
        refine lv_goto (tgt := 65) hx hb dX8_claim_134 (by decide) ?_
        exact ih x1 x2 x3 v1 F G w h (lv_sub hl [1, 2, 3, 4, 0] rfl) hw
      · have hw := hw.2 c
        refine lv_aload_n hx hb dX8_claim_82 rfl (lv_at hl 0 rfl) ?_
        refine gM_8_82 C h dX8_claim_83 ?_
        refine lv_iload hx hb dX8_claim_86 (lv_at hl 4 rfl) ?_
        have hi := hw.1
        have hw := hw.2
        refine laM_30 C h hi dX8_claim_88 ?_
        refine lv_if_eq (tgt := 95) hx hb dX8_claim_89 (by decide) (fun c => ?_) (fun c => ?_)
        · have hw := hw.1 c
          refine lv_aload_n hx hb dX8_claim_95 rfl (lv_at hl 0 rfl) ?_
          refine gM_8_82 C h dX8_claim_96 ?_
          refine lv_iload hx hb dX8_claim_99 (lv_at hl 4 rfl) ?_
          refine lv_iconst (v := (1 : Int32)) hx hb dX8_claim_101 (by decide) ?_
          have hi := hw.1
          have hw := hw.2
          refine saM_30 C h hi dX8_claim_102 (fun G2 H locs eG2 h => ?_)
          have hw := hw G2 eG2
          refine lv_aload_n hx hb dX8_claim_103 rfl (lv_at hl 0 rfl) ?_
          refine lv_aload_n hx hb dX8_claim_104 rfl (lv_at hl 0 rfl) ?_
          refine gM_8_64 C h dX8_claim_105 ?_
          refine lv_iload hx hb dX8_claim_108 (lv_at hl 4 rfl) ?_
          have hi := hw.1
          have hw := hw.2
          refine laM_24 C h hi dX8_claim_110 ?_
          refine lv_aload_n hx hb dX8_claim_111 rfl (lv_at hl 0 rfl) ?_
          refine gM_8_67 C h dX8_claim_112 ?_
          refine lv_iload hx hb dX8_claim_115 (lv_at hl 4 rfl) ?_
          have hi := hw.1
          have hw := hw.2
          refine laM_25 C h hi dX8_claim_117 ?_
          refine lv_aload_n hx hb dX8_claim_118 rfl (lv_at hl 0 rfl) ?_
          refine gM_8_70 C h dX8_claim_119 ?_
          refine lv_iload hx hb dX8_claim_122 (lv_at hl 4 rfl) ?_
          have hi := hw.1
          have hw := hw.2
          refine laM_26 C h hi dX8_claim_124 ?_
          refine kMvV C h (c_X8_due (G2 24 x4.toNatClampNeg) (G2 25 x4.toNatClampNeg) (G2 26 x4.toNatClampNeg) F G2 w hw) lk_8_221 (rvM_0 K a F G2 w) rfl hl.1 rfl (Nat.le_of_ble_eq_true rfl) ⟨Nat.le_trans (Nat.le_of_ble_eq_true rfl) hR.1, Nat.le_trans (Nat.le_of_ble_eq_true rfl) hR.2⟩ ⟨Nat.zero_le _, Nat.zero_le _⟩ dX8_claim_125 (fun F3 G4 w5 H locs hw h => ?_)
          obtain ⟨v6, ev6⟩ : ∃ z : Int32, z = (x3 + 1) := ⟨_, rfl⟩
          have hw := hw v6 ev6
          refine lv_iinc (v := v6) (lv' := [(3, .int v6), (0, .ref (a 0)), (1, .int x1), (2, .int x2), (4, .int x4)]) hx hb dX8_claim_128 hl (k := 3) rfl (by rw [ev6]; rfl) (by decide) rfl (fun ls hl => ?_)
          obtain ⟨v7, ev7⟩ : ∃ z : Int32, z = (x4 + (-1)) := ⟨_, rfl⟩
          have hw := hw v7 ev7
          refine lv_iinc (v := v7) (lv' := [(4, .int v7), (3, .int v6), (0, .ref (a 0)), (1, .int x1), (2, .int x2)]) hx hb dX8_claim_131 hl (k := 4) rfl (by rw [ev7]; rfl) (by decide) rfl (fun ls hl => ?_)
          refine lv_goto (tgt := 65) hx hb dX8_claim_134 (by decide) ?_
          exact ih x1 x2 v6 v7 F3 G4 w5 h (lv_sub hl [2, 3, 4, 1, 0] rfl) hw
        · have hw := hw.2 c
          refine lv_goto (tgt := 131) hx hb dX8_claim_92 (by decide) ?_
          obtain ⟨v8, ev8⟩ : ∃ z : Int32, z = (x4 + (-1)) := ⟨_, rfl⟩
          have hw := hw v8 ev8
          refine lv_iinc (v := v8) (lv' := [(4, .int v8), (0, .ref (a 0)), (1, .int x1), (2, .int x2), (3, .int x3)]) hx hb dX8_claim_131 hl (k := 4) rfl (by rw [ev8]; rfl) (by decide) rfl (fun ls hl => ?_)
          refine lv_goto (tgt := 65) hx hb dX8_claim_134 (by decide) ?_
          exact ih x1 x2 x3 v8 F G w h (lv_sub hl [1, 2, 3, 4, 0] rfl) hw
set_option maxHeartbeats 4000000 in
set_option maxRecDepth 100000 in
theorem wk_X8_claim_0 {p : Program} {l : Launch} {e : Env} {R : Room} {s : State} {m : MethodId} {args : Array Value} {below : List Frame} {meth : Method} {c : Code} {K : KT} {A : Nat → Prop} {Z : State → Prop} {a : Nat → Nat} (hR : 2 ≤ R.frames ∧ 46 ≤ R.locals) (C : CX p s m args meth c K A cX8_claim 5 RX8) {Q : Int32 → FT → GT → Int64 → Prop} (hq : RetMi p l e R s m args below meth c K A Z a cX8_claim Q) (x1 : Int32) (F : FT) (G : GT) (w : Int64) {H : Heap} {locs : List Loc} (h : WD K A s (wM K a F G w) H locs) {ls : Array Slot} (hl : lv_has ls 5 [(0, .ref (a 0)), (1, .int x1)]) (hw : wp_X8_claim_0 Q x1 F G w) : W p l e R s m args below meth c H locs 0 0 Z (F0 m 0 ls []) := by
  unfold wp_X8_claim_0 at hw
  have hx := C.1
  have hb := C.2.1
  refine lv_aload_n hx hb dX8_claim_0 rfl (lv_at hl 0 rfl) ?_
  refine lv_iconst (v := (0 : Int32)) hx hb dX8_claim_1 (by decide) ?_
  refine pM_8_89 C h dX8_claim_2 (fun F1 H locs eF1 h => ?_)
  have hw := hw F1 eF1
  refine lv_aload_n hx hb dX8_claim_5 rfl (lv_at hl 0 rfl) ?_
  refine lv_iload_n hx hb dX8_claim_6 rfl (lv_at hl 1 rfl) ?_
  refine kMiV C h (c_X8_isHorse x1 F1 G w hw) lk_8_208 (rvM_0 K a F1 G w) rfl hl.1 rfl (Nat.le_of_ble_eq_true rfl) ⟨Nat.le_trans (Nat.le_of_ble_eq_true rfl) hR.1, Nat.le_trans (Nat.le_of_ble_eq_true rfl) hR.2⟩ ⟨Nat.zero_le _, Nat.zero_le _⟩ dX8_claim_7 (fun r5 F2 G3 w4 H locs hw h => ?_)
  have hw := hw.2
  refine lv_if_eq (tgt := 28) hx hb dX8_claim_10 (by decide) (fun c => ?_) (fun c => ?_)
  · have hw := hw.1 c
    refine lv_iconst (v := (-1 : Int32)) hx hb dX8_claim_28 (by decide) ?_
    exact hq _ F2 G3 w4 _ _ _ _ dX8_claim_29 h hw
  · have hw := hw.2 c
    refine lv_aload_n hx hb dX8_claim_13 rfl (lv_at hl 0 rfl) ?_
    refine gM_8_34 C h dX8_claim_14 ?_
    refine lv_iload_n hx hb dX8_claim_17 rfl (lv_at hl 1 rfl) ?_
    have hi := hw.1
    have hw := hw.2
    refine laM_16 C h hi dX8_claim_18 ?_
    refine lv_aload_n hx hb dX8_claim_19 rfl (lv_at hl 0 rfl) ?_
    refine gM_8_37 C h dX8_claim_20 ?_
    refine lv_iload_n hx hb dX8_claim_23 rfl (lv_at hl 1 rfl) ?_
    have hi := hw.1
    have hw := hw.2
    refine laM_17 C h hi dX8_claim_24 ?_
    refine lv_icmp_ne (tgt := 30) hx hb dX8_claim_25 (by decide) (fun c => ?_) (fun c => ?_)
    · have hw := hw.1 c
      refine lv_aload_n hx hb dX8_claim_30 rfl (lv_at hl 0 rfl) ?_
      refine gM_8_40 C h dX8_claim_31 ?_
      refine lv_iload_n hx hb dX8_claim_34 rfl (lv_at hl 1 rfl) ?_
      have hi := hw.1
      have hw := hw.2
      refine laM_18 C h hi dX8_claim_35 ?_
      refine lv_istore_n (lv' := [(2, .int (G3 18 x1.toNatClampNeg)), (0, .ref (a 0)), (1, .int x1)]) hx hb dX8_claim_36 rfl hl (by decide) rfl (fun ls hl => ?_)
      refine lv_aload_n hx hb dX8_claim_37 rfl (lv_at hl 1 rfl) ?_
      refine lv_iload_n hx hb dX8_claim_38 rfl (lv_at hl 2 rfl) ?_
      refine lv_aload_n hx hb dX8_claim_39 rfl (lv_at hl 1 rfl) ?_
      refine gM_8_37 C h dX8_claim_40 ?_
      refine lv_iload_n hx hb dX8_claim_43 rfl (lv_at hl 2 rfl) ?_
      have hi := hw.1
      have hw := hw.2
      refine laM_17 C h hi dX8_claim_44 ?_
      refine lv_aload_n hx hb dX8_claim_45 rfl (lv_at hl 1 rfl) ?_
      refine gM_8_37 C h dX8_claim_46 ?_
      refine lv_iload_n hx hb dX8_claim_49 rfl (lv_at hl 2 rfl) ?_
      have hi := hw.1
      have hw := hw.2
      refine laM_17 C h hi dX8_claim_50 ?_
      refine lv_iconst (v := (4 : Int32)) hx hb dX8_claim_51 (by decide) ?_
      refine kMvV C h (c_X8_goes x1 (G3 17 x1.toNatClampNeg) (G3 17 x1.toNatClampNeg) (4 : Int32) F2 G3 w4 hw) lk_8_204 (rvM_0 K a F2 G3 w4) rfl hl.1 rfl (Nat.le_of_ble_eq_true rfl) ⟨Nat.le_trans (Nat.le_of_ble_eq_true rfl) hR.1, Nat.le_trans (Nat.le_of_ble_eq_true rfl) hR.2⟩ ⟨Nat.zero_le _, Nat.zero_le _⟩ dX8_claim_52 (fun F6 G7 w8 H locs hw h => ?_)
      refine lv_iconst (v := (0 : Int32)) hx hb dX8_claim_55 (by decide) ?_
      refine lv_istore_n (lv' := [(3, .int (0 : Int32)), (2, .int (G3 18 x1.toNatClampNeg)), (0, .ref (a 0)), (1, .int x1)]) hx hb dX8_claim_56 rfl hl (by decide) rfl (fun ls hl => ?_)
      refine lv_aload_n hx hb dX8_claim_57 rfl (lv_at hl 2 rfl) ?_
      refine gM_8_195 C h dX8_claim_58 ?_
      refine lv_iconst (v := (1 : Int32)) hx hb dX8_claim_61 (by decide) ?_
      refine lv_isub hx hb dX8_claim_62 ?_
      refine lv_istore (lv' := [(4, .int ((F6 8) - (1 : Int32))), (3, .int (0 : Int32)), (2, .int (G3 18 x1.toNatClampNeg)), (0, .ref (a 0)), (1, .int x1)]) hx hb dX8_claim_63 hl (by decide) rfl (fun ls hl => ?_)
      obtain ⟨n, hw⟩ := hw
      exact wk_X8_claim_65 hR C hq n x1 (G3 18 x1.toNatClampNeg) (0 : Int32) ((F6 8) - (1 : Int32)) F6 G7 w8 h (lv_sub hl [3, 4, 2, 1, 0] rfl) hw
    · have hw := hw.2 c
      refine lv_iconst (v := (-1 : Int32)) hx hb dX8_claim_28 (by decide) ?_
      exact hq _ F2 G3 w4 _ _ _ _ dX8_claim_29 h hw
theorem c_X8_claim {l : Launch} {K : KT} {a : Nat → Nat} (x1 : Int32) (F : FT) (G : GT) (w : Int64) {Q : Int32 → FT → GT → Int64 → Prop} (hw : wp_X8_claim x1 F G w Q) : CtMi l K a yX8_claim cX8_claim 5 (some .int) 2 46 [.ref (a 0), .int x1] F G w Q := fun sz => x_met (Qm := QmMi K a Q) (by decide) (Nat.le_of_ble_eq_true rfl) (fun p e s m below meth c A ls C hr h hl => wk_X8_claim_0 ⟨Nat.le_refl _, Nat.le_refl _⟩ C (retM_z C hr (fun r F G w _ => rfl)) x1 F G w h hl hw)
