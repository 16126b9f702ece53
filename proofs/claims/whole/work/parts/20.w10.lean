def wp_X8_settle_50 (Q : FT → GT → Int64 → Prop) (kb : Int32 → FT → GT → Int64 → Prop) (x1 : Int32) (s0 : Int32) (F : FT) (G : GT) (w : Int64) : Prop := ((¬ s0 = 0) → vp_in x1 80 ∧ vp_in x1 80 ∧ ∀ G1 : GT, G1 = gU G 15 (upd (G 15) x1.toNatClampNeg ((G 15 x1.toNatClampNeg) - s0)) → vp_in x1 80 ∧ vp_in (G1 12 x1.toNatClampNeg) 16 ∧ ∀ v2 : Int32, v2 = ((G1 11 (G1 12 x1.toNatClampNeg).toNatClampNeg) - s0) → vp_in (G1 12 x1.toNatClampNeg) 16 ∧ ∀ G3 : GT, G3 = gU G1 11 (upd (G1 11) (G1 12 x1.toNatClampNeg).toNatClampNeg v2) → vp_in x1 80 ∧ vp_in (G3 13 x1.toNatClampNeg) 16 ∧ ∀ v4 : Int32, v4 = ((G3 11 (G3 13 x1.toNatClampNeg).toNatClampNeg) + s0) → vp_in (G3 13 x1.toNatClampNeg) 16 ∧ ∀ G5 : GT, G5 = gU G3 11 (upd (G3 11) (G3 13 x1.toNatClampNeg).toNatClampNeg v4) → kb (0 : Int32) F G5 w) ∧ ((s0 = 0) → ∀ v6 : Int32, v6 = (x1 + 1) → kb v6 F G w)
def wp_X8_settle_2 (Q : FT → GT → Int64 → Prop) : Nat → Int32 → FT → GT → Int64 → Prop
  | 0, _, _, _, _ => False
  | n + 1, x1, F, G, w => (((F 5) ≤ x1) → Q F G w) ∧ ((¬ (F 5) ≤ x1) → vp_in x1 80 ∧ vp_in x1 80 ∧ vp_in (G 12 x1.toNatClampNeg) 16 ∧ (((G 11 (G 12 x1.toNatClampNeg).toNatClampNeg) ≤ (G 15 x1.toNatClampNeg)) → vp_in x1 80 ∧ vp_in (G 12 x1.toNatClampNeg) 16 ∧ wp_X8_settle_50 Q (fun x1 F G w => wp_X8_settle_2 Q n x1 F G w) x1 (G 11 (G 12 x1.toNatClampNeg).toNatClampNeg) F G w) ∧ ((¬ (G 11 (G 12 x1.toNatClampNeg).toNatClampNeg) ≤ (G 15 x1.toNatClampNeg)) → vp_in x1 80 ∧ wp_X8_settle_50 Q (fun x1 F G w => wp_X8_settle_2 Q n x1 F G w) x1 (G 15 x1.toNatClampNeg) F G w))
def wp_X8_settle_0 (Q : FT → GT → Int64 → Prop) (F : FT) (G : GT) (w : Int64) : Prop := ∃ n : Nat, wp_X8_settle_2 Q n (0 : Int32) F G w
def wp_X8_settle (F : FT) (G : GT) (w : Int64) (Q : FT → GT → Int64 → Prop) : Prop := wp_X8_settle_0 Q F G w
set_option maxHeartbeats 4000000 in
set_option maxRecDepth 100000 in
theorem wk_X8_settle_50 {p : Program} {l : Launch} {e : Env} {R : Room} {s : State} {m : MethodId} {args : Array Value} {below : List Frame} {meth : Method} {c : Code} {K : KT} {A : Nat → Prop} {Z : State → Prop} {a : Nat → Nat} (hR : 0 ≤ R.frames ∧ 0 ≤ R.locals) (C : CX p s m args meth c K A cX8_settle 3 RX8) {Q : FT → GT → Int64 → Prop} (hq : RetMv p l e R s m args below meth c K A Z a cX8_settle Q) {kb : Int32 → FT → GT → Int64 → Prop} (hk : ∀ (x1 : Int32) (F : FT) (G : GT) (w : Int64) (H : Heap) (locs : List Loc) (ls : Array Slot), WD K A s (wM K a F G w) H locs → lv_has ls 3 [(0, .ref (a 0)), (1, .int x1)] → kb x1 F G w → W p l e R s m args below meth c H locs 0 0 Z (F0 m 2 ls [])) (x1 : Int32) (s0 : Int32) (F : FT) (G : GT) (w : Int64) {H : Heap} {locs : List Loc} (h : WD K A s (wM K a F G w) H locs) {ls : Array Slot} (hl : lv_has ls 3 [(0, .ref (a 0)), (1, .int x1)]) (hw : wp_X8_settle_50 Q kb x1 s0 F G w) : W p l e R s m args below meth c H locs 0 0 Z (F0 m 50 ls [.int s0]) := by
  unfold wp_X8_settle_50 at hw
  have hx := C.1
  have hb := C.2.1
  refine lv_istore_n (lv' := [(2, .int s0), (0, .ref (a 0)), (1, .int x1)]) hx hb dX8_settle_50 rfl hl (by decide) rfl (fun ls hl => ?_)
  refine lv_iload_n hx hb dX8_settle_51 rfl (lv_at hl 0 rfl) ?_
  refine lv_if_ne (tgt := 61) hx hb dX8_settle_52 (by decide) (fun c => ?_) (fun c => ?_)
  · have hw := hw.1 c
    refine lv_aload_n hx hb dX8_settle_61 rfl (lv_at hl 1 rfl) ?_
    refine gM_8_31 C h dX8_settle_62 ?_
    refine lv_iload_n hx hb dX8_settle_65 rfl (lv_at hl 2 rfl) ?_
    refine lv_dup2_11 hx hb dX8_settle_66 rfl rfl ?_
    have hi := hw.1
    have hw := hw.2
    refine laM_15 C h hi dX8_settle_67 ?_
    refine lv_iload_n hx hb dX8_settle_68 rfl (lv_at hl 0 rfl) ?_
    refine lv_isub hx hb dX8_settle_69 ?_
    have hi := hw.1
    have hw := hw.2
    refine saM_15 C h hi dX8_settle_70 (fun G1 H locs eG1 h => ?_)
    have hw := hw G1 eG1
    refine lv_aload_n hx hb dX8_settle_71 rfl (lv_at hl 1 rfl) ?_
    refine gM_8_19 C h dX8_settle_72 ?_
    refine lv_aload_n hx hb dX8_settle_75 rfl (lv_at hl 1 rfl) ?_
    refine gM_8_22 C h dX8_settle_76 ?_
    refine lv_iload_n hx hb dX8_settle_79 rfl (lv_at hl 2 rfl) ?_
    have hi := hw.1
    have hw := hw.2
    refine laM_12 C h hi dX8_settle_80 ?_
    refine lv_dup2_11 hx hb dX8_settle_81 rfl rfl ?_
    have hi := hw.1
    have hw := hw.2
    refine laM_11 C h hi dX8_settle_82 ?_
    refine lv_iload_n hx hb dX8_settle_83 rfl (lv_at hl 0 rfl) ?_
    refine lv_isub hx hb dX8_settle_84 ?_
    refine lv_topi (fun v2 ev2 => ?_)
    have hw := hw v2 ev2
    have hi := hw.1
    have hw := hw.2
    refine saM_11 C h hi dX8_settle_85 (fun G3 H locs eG3 h => ?_)
    have hw := hw G3 eG3
    refine lv_aload_n hx hb dX8_settle_86 rfl (lv_at hl 1 rfl) ?_
    refine gM_8_19 C h dX8_settle_87 ?_
    refine lv_aload_n hx hb dX8_settle_90 rfl (lv_at hl 1 rfl) ?_
    refine gM_8_25 C h dX8_settle_91 ?_
    refine lv_iload_n hx hb dX8_settle_94 rfl (lv_at hl 2 rfl) ?_
    have hi := hw.1
    have hw := hw.2
    refine laM_13 C h hi dX8_settle_95 ?_
    refine lv_dup2_11 hx hb dX8_settle_96 rfl rfl ?_
    have hi := hw.1
    have hw := hw.2
    refine laM_11 C h hi dX8_settle_97 ?_
    refine lv_iload_n hx hb dX8_settle_98 rfl (lv_at hl 0 rfl) ?_
    refine lv_iadd hx hb dX8_settle_99 ?_
    refine lv_topi (fun v4 ev4 => ?_)
    have hw := hw v4 ev4
    have hi := hw.1
    have hw := hw.2
    refine saM_11 C h hi dX8_settle_100 (fun G5 H locs eG5 h => ?_)
    have hw := hw G5 eG5
    refine lv_iconst (v := (0 : Int32)) hx hb dX8_settle_101 (by decide) ?_
    refine lv_istore_n (lv' := [(1, .int (0 : Int32)), (2, .int s0), (0, .ref (a 0))]) hx hb dX8_settle_102 rfl hl (by decide) rfl (fun ls hl => ?_)
    refine lv_goto (tgt := 2) hx hb dX8_settle_103 (by decide) ?_
    exact hk (0 : Int32) F G5 w _ _ _ h (lv_sub hl [2, 0] rfl) hw
  · have hw := hw.2 c
    obtain ⟨v6, ev6⟩ : ∃ z : Int32, z = (x1 + 1) := ⟨_, rfl⟩
    have hw := hw v6 ev6
    refine lv_iinc (v := v6) (lv' := [(1, .int v6), (2, .int s0), (0, .ref (a 0))]) hx hb dX8_settle_55 hl (k := 2) rfl (by rw [ev6]; rfl) (by decide) rfl (fun ls hl => ?_)
    refine lv_goto (tgt := 2) hx hb dX8_settle_58 (by decide) ?_
    exact hk v6 F G w _ _ _ h (lv_sub hl [2, 0] rfl) hw
set_option maxHeartbeats 4000000 in
set_option maxRecDepth 100000 in
theorem wk_X8_settle_2 {p : Program} {l : Launch} {e : Env} {R : Room} {s : State} {m : MethodId} {args : Array Value} {below : List Frame} {meth : Method} {c : Code} {K : KT} {A : Nat → Prop} {Z : State → Prop} {a : Nat → Nat} (hR : 0 ≤ R.frames ∧ 0 ≤ R.locals) (C : CX p s m args meth c K A cX8_settle 3 RX8) {Q : FT → GT → Int64 → Prop} (hq : RetMv p l e R s m args below meth c K A Z a cX8_settle Q) : ∀ (n : Nat) (x1 : Int32) (F : FT) (G : GT) (w : Int64) {H : Heap} {locs : List Loc} (h : WD K A s (wM K a F G w) H locs) {ls : Array Slot} (hl : lv_has ls 3 [(0, .ref (a 0)), (1, .int x1)]) (hw : wp_X8_settle_2 Q n x1 F G w), W p l e R s m args below meth c H locs 0 0 Z (F0 m 2 ls []) := by
  intro n
  induction n with
  | zero => intro x1 F G w H locs h ls hl hw; exact False.elim hw
  | succ n ih =>
    intro x1 F G w H locs h ls hl hw
    rw [wp_X8_settle_2] at hw
    have hx := C.1
    have hb := C.2.1
    refine lv_iload_n hx hb dX8_settle_2 rfl (lv_at hl 1 rfl) ?_
    refine lv_aload_n hx hb dX8_settle_3 rfl (lv_at hl 0 rfl) ?_
    refine gM_8_189 C h dX8_settle_4 ?_
    refine lv_icmp_ge (tgt := 106) hx hb dX8_settle_7 (by decide) (fun c => ?_) (fun c => ?_)
    · have hw := hw.1 c
      exact hq F G w _ _ _ _ dX8_settle_106 h hw
    · have hw := hw.2 c
      refine lv_aload_n hx hb dX8_settle_10 rfl (lv_at hl 0 rfl) ?_
      refine gM_8_31 C h dX8_settle_11 ?_
      refine lv_iload_n hx hb dX8_settle_14 rfl (lv_at hl 1 rfl) ?_
      have hi := hw.1
      have hw := hw.2
      refine laM_15 C h hi dX8_settle_15 ?_
      refine lv_aload_n hx hb dX8_settle_16 rfl (lv_at hl 0 rfl) ?_
      refine gM_8_19 C h dX8_settle_17 ?_
      refine lv_aload_n hx hb dX8_settle_20 rfl (lv_at hl 0 rfl) ?_
      refine gM_8_22 C h dX8_settle_21 ?_
      refine lv_iload_n hx hb dX8_settle_24 rfl (lv_at hl 1 rfl) ?_
      have hi := hw.1
      have hw := hw.2
      refine laM_12 C h hi dX8_settle_25 ?_
      have hi := hw.1
      have hw := hw.2
      refine laM_11 C h hi dX8_settle_26 ?_
      refine lv_icmp_ge (tgt := 39) hx hb dX8_settle_27 (by decide) (fun c => ?_) (fun c => ?_)
      · have hw := hw.1 c
        refine lv_aload_n hx hb dX8_settle_39 rfl (lv_at hl 0 rfl) ?_
        refine gM_8_19 C h dX8_settle_40 ?_
        refine lv_aload_n hx hb dX8_settle_43 rfl (lv_at hl 0 rfl) ?_
        refine gM_8_22 C h dX8_settle_44 ?_
        refine lv_iload_n hx hb dX8_settle_47 rfl (lv_at hl 1 rfl) ?_
        have hi := hw.1
        have hw := hw.2
        refine laM_12 C h hi dX8_settle_48 ?_
        have hi := hw.1
        have hw := hw.2
        refine laM_11 C h hi dX8_settle_49 ?_
        exact wk_X8_settle_50 hR C hq (fun x1 F G w H locs ls h hl hw => ih x1 F G w h hl hw) x1 (G 11 (G 12 x1.toNatClampNeg).toNatClampNeg) F G w h (lv_sub hl [0, 1] rfl) hw
      · have hw := hw.2 c
        refine lv_aload_n hx hb dX8_settle_30 rfl (lv_at hl 0 rfl) ?_
        refine gM_8_31 C h dX8_settle_31 ?_
        refine lv_iload_n hx hb dX8_settle_34 rfl (lv_at hl 1 rfl) ?_
        have hi := hw.1
        have hw := hw.2
        refine laM_15 C h hi dX8_settle_35 ?_
        refine lv_goto (tgt := 50) hx hb dX8_settle_36 (by decide) ?_
        exact wk_X8_settle_50 hR C hq (fun x1 F G w H locs ls h hl hw => ih x1 F G w h hl hw) x1 (G 15 x1.toNatClampNeg) F G w h (lv_sub hl [0, 1] rfl) hw
set_option maxHeartbeats 4000000 in
set_option maxRecDepth 100000 in
theorem wk_X8_settle_0 {p : Program} {l : Launch} {e : Env} {R : Room} {s : State} {m : MethodId} {args : Array Value} {below : List Frame} {meth : Method} {c : Code} {K : KT} {A : Nat → Prop} {Z : State → Prop} {a : Nat → Nat} (hR : 0 ≤ R.frames ∧ 0 ≤ R.locals) (C : CX p s m args meth c K A cX8_settle 3 RX8) {Q : FT → GT → Int64 → Prop} (hq : RetMv p l e R s m args below meth c K A Z a cX8_settle Q) (F : FT) (G : GT) (w : Int64) {H : Heap} {locs : List Loc} (h : WD K A s (wM K a F G w) H locs) {ls : Array Slot} (hl : lv_has ls 3 [(0, .ref (a 0))]) (hw : wp_X8_settle_0 Q F G w) : W p l e R s m args below meth c H locs 0 0 Z (F0 m 0 ls []) := by
  unfold wp_X8_settle_0 at hw
  have hx := C.1
  have hb := C.2.1
  refine lv_iconst (v := (0 : Int32)) hx hb dX8_settle_0 (by decide) ?_
  refine lv_istore_n (lv' := [(1, .int (0 : Int32)), (0, .ref (a 0))]) hx hb dX8_settle_1 rfl hl (by decide) rfl (fun ls hl => ?_)
  obtain ⟨n, hw⟩ := hw
  exact wk_X8_settle_2 hR C hq n (0 : Int32) F G w h (lv_sub hl [1, 0] rfl) hw
theorem c_X8_settle {l : Launch} {K : KT} {a : Nat → Nat} (F : FT) (G : GT) (w : Int64) {Q : FT → GT → Int64 → Prop} (hw : wp_X8_settle F G w Q) : CtMv l K a yX8_settle cX8_settle 3 none 0 0 [.ref (a 0)] F G w Q := fun sz => x_met (Qm := QmMv K a Q) (by decide) (Nat.le_of_ble_eq_true rfl) (fun p e s m below meth c A ls C hr h hl => wk_X8_settle_0 ⟨Nat.le_refl _, Nat.le_refl _⟩ C (retM_v C hr) F G w h hl hw)
def wp_X8_coin_0 (Q : Int32 → FT → GT → Int64 → Prop) (x1 : Int32) (x2 : Int32) (F : FT) (G : GT) (w : Int64) : Prop := ∀ F1 : FT, F1 = sU F 20 (0 : Int32) → wp_X8_isPerson x1 F1 G w (fun r5 F2 G3 w4 => ((r5 = 0) → Q (-1 : Int32) F2 G3 w4) ∧ ((¬ r5 = 0) → ((x2 < (1 : Int32)) → Q (-1 : Int32) F2 G3 w4) ∧ ((¬ x2 < (1 : Int32)) → (((1000000 : Int32) < x2) → Q (-1 : Int32) F2 G3 w4) ∧ ((¬ (1000000 : Int32) < x2) → ((((F2 4) + x2) ≤ (1000000000 : Int32)) → vp_in x1 16 ∧ vp_in x1 16 ∧ ∀ G6 : GT, G6 = gU G3 11 (upd (G3 11) x1.toNatClampNeg ((G3 11 x1.toNatClampNeg) + x2)) → ∀ F7 : FT, F7 = sU F2 4 ((F2 4) + x2) → wp_X8_settle F7 G6 w4 (fun F8 G9 w10 => vp_in x1 16 ∧ Q (G9 11 x1.toNatClampNeg) F8 G9 w10)) ∧ ((¬ ((F2 4) + x2) ≤ (1000000000 : Int32)) → Q (-1 : Int32) F2 G3 w4)))))
def wp_X8_coin (x1 : Int32) (x2 : Int32) (F : FT) (G : GT) (w : Int64) (Q : Int32 → FT → GT → Int64 → Prop) : Prop := wp_X8_coin_0 Q x1 x2 F G w
set_option maxHeartbeats 4000000 in
set_option maxRecDepth 100000 in
theorem wk_X8_coin_0 {p : Program} {l : Launch} {e : Env} {R : Room} {s : State} {m : MethodId} {args : Array Value} {below : List Frame} {meth : Method} {c : Code} {K : KT} {A : Nat → Prop} {Z : State → Prop} {a : Nat → Nat} (hR : 1 ≤ R.frames ∧ 22 ≤ R.locals) (C : CX p s m args meth c K A cX8_coin 3 RX8) {Q : Int32 → FT → GT → Int64 → Prop} (hq : RetMi p l e R s m args below meth c K A Z a cX8_coin Q) (x1 : Int32) (x2 : Int32) (F : FT) (G : GT) (w : Int64) {H : Heap} {locs : List Loc} (h : WD K A s (wM K a F G w) H locs) {ls : Array Slot} (hl : lv_has ls 3 [(0, .ref (a 0)), (1, .int x1), (2, .int x2)]) (hw : wp_X8_coin_0 Q x1 x2 F G w) : W p l e R s m args below meth c H locs 0 0 Z (F0 m 0 ls []) := by
  unfold wp_X8_coin_0 at hw
  have hx := C.1
  have hb := C.2.1
  refine lv_aload_n hx hb dX8_coin_0 rfl (lv_at hl 0 rfl) ?_
  refine lv_iconst (v := (0 : Int32)) hx hb dX8_coin_1 (by decide) ?_
  refine pM_8_89 C h dX8_coin_2 (fun F1 H locs eF1 h => ?_)
  have hw := hw F1 eF1
  refine lv_aload_n hx hb dX8_coin_5 rfl (lv_at hl 0 rfl) ?_
  refine lv_iload_n hx hb dX8_coin_6 rfl (lv_at hl 1 rfl) ?_
  refine kMiV C h (c_X8_isPerson x1 F1 G w hw) lk_8_183 (rvM_0 K a F1 G w) rfl hl.1 rfl (Nat.le_of_ble_eq_true rfl) ⟨Nat.le_trans (Nat.le_of_ble_eq_true rfl) hR.1, Nat.le_trans (Nat.le_of_ble_eq_true rfl) hR.2⟩ ⟨Nat.zero_le _, Nat.zero_le _⟩ dX8_coin_7 (fun r5 F2 G3 w4 H locs hw h => ?_)
  have hw := hw.2
  refine lv_if_eq (tgt := 35) hx hb dX8_coin_10 (by decide) (fun c => ?_) (fun c => ?_)
  · have hw := hw.1 c
    refine lv_iconst (v := (-1 : Int32)) hx hb dX8_coin_35 (by decide) ?_
    exact hq _ F2 G3 w4 _ _ _ _ dX8_coin_36 h hw
  · have hw := hw.2 c
    refine lv_iload_n hx hb dX8_coin_13 rfl (lv_at hl 2 rfl) ?_
    refine lv_iconst (v := (1 : Int32)) hx hb dX8_coin_14 (by decide) ?_
    refine lv_icmp_lt (tgt := 35) hx hb dX8_coin_15 (by decide) (fun c => ?_) (fun c => ?_)
    · have hw := hw.1 c
      refine lv_iconst (v := (-1 : Int32)) hx hb dX8_coin_35 (by decide) ?_
      exact hq _ F2 G3 w4 _ _ _ _ dX8_coin_36 h hw
    · have hw := hw.2 c
      refine lv_iload_n hx hb dX8_coin_18 rfl (lv_at hl 2 rfl) ?_
      refine lv_ldc hx hb C.2.2.2.1 (C.2.2.2.2.1 _ kc_8_178) dX8_coin_19 ?_
      refine lv_icmp_gt (tgt := 35) hx hb dX8_coin_21 (by decide) (fun c => ?_) (fun c => ?_)
      · have hw := hw.1 c
        refine lv_iconst (v := (-1 : Int32)) hx hb dX8_coin_35 (by decide) ?_
        exact hq _ F2 G3 w4 _ _ _ _ dX8_coin_36 h hw
      · have hw := hw.2 c
        refine lv_aload_n hx hb dX8_coin_24 rfl (lv_at hl 0 rfl) ?_
        refine gM_8_179 C h dX8_coin_25 ?_
        refine lv_iload_n hx hb dX8_coin_28 rfl (lv_at hl 2 rfl) ?_
        refine lv_iadd hx hb dX8_coin_29 ?_
        refine lv_ldc hx hb C.2.2.2.1 (C.2.2.2.2.1 _ kc_8_182) dX8_coin_30 ?_
        refine lv_icmp_le (tgt := 37) hx hb dX8_coin_32 (by decide) (fun c => ?_) (fun c => ?_)
        · have hw := hw.1 c
          refine lv_aload_n hx hb dX8_coin_37 rfl (lv_at hl 0 rfl) ?_
          refine gM_8_19 C h dX8_coin_38 ?_
          refine lv_iload_n hx hb dX8_coin_41 rfl (lv_at hl 1 rfl) ?_
          refine lv_dup2_11 hx hb dX8_coin_42 rfl rfl ?_
          have hi := hw.1
          have hw := hw.2
          refine laM_11 C h hi dX8_coin_43 ?_
          refine lv_iload_n hx hb dX8_coin_44 rfl (lv_at hl 2 rfl) ?_
          refine lv_iadd hx hb dX8_coin_45 ?_
          have hi := hw.1
          have hw := hw.2
          refine saM_11 C h hi dX8_coin_46 (fun G6 H locs eG6 h => ?_)
          have hw := hw G6 eG6
          refine lv_aload_n hx hb dX8_coin_47 rfl (lv_at hl 0 rfl) ?_
          refine lv_dup hx hb dX8_coin_48 rfl ?_
          refine gM_8_179 C h dX8_coin_49 ?_
          refine lv_iload_n hx hb dX8_coin_52 rfl (lv_at hl 2 rfl) ?_
          refine lv_iadd hx hb dX8_coin_53 ?_
          refine pM_8_179 C h dX8_coin_54 (fun F7 H locs eF7 h => ?_)
          have hw := hw F7 eF7
          refine lv_aload_n hx hb dX8_coin_57 rfl (lv_at hl 0 rfl) ?_
          refine kMvV C h (c_X8_settle F7 G6 w4 hw) lk_8_186 (rvM_0 K a F7 G6 w4) rfl hl.1 rfl (Nat.le_of_ble_eq_true rfl) ⟨Nat.le_trans (Nat.le_of_ble_eq_true rfl) hR.1, Nat.le_trans (Nat.le_of_ble_eq_true rfl) hR.2⟩ ⟨Nat.zero_le _, Nat.zero_le _⟩ dX8_coin_58 (fun F8 G9 w10 H locs hw h => ?_)
          refine lv_aload_n hx hb dX8_coin_61 rfl (lv_at hl 0 rfl) ?_
          refine gM_8_19 C h dX8_coin_62 ?_
          refine lv_iload_n hx hb dX8_coin_65 rfl (lv_at hl 1 rfl) ?_
          have hi := hw.1
          have hw := hw.2
          refine laM_11 C h hi dX8_coin_66 ?_
          exact hq _ F8 G9 w10 _ _ _ _ dX8_coin_67 h hw
        · have hw := hw.2 c
          refine lv_iconst (v := (-1 : Int32)) hx hb dX8_coin_35 (by decide) ?_
          exact hq _ F2 G3 w4 _ _ _ _ dX8_coin_36 h hw
theorem c_X8_coin {l : Launch} {K : KT} {a : Nat → Nat} (x1 : Int32) (x2 : Int32) (F : FT) (G : GT) (w : Int64) {Q : Int32 → FT → GT → Int64 → Prop} (hw : wp_X8_coin x1 x2 F G w Q) : CtMi l K a yX8_coin cX8_coin 3 (some .int) 1 22 [.ref (a 0), .int x1, .int x2] F G w Q := fun sz => x_met (Qm := QmMi K a Q) (by decide) (Nat.le_of_ble_eq_true rfl) (fun p e s m below meth c A ls C hr h hl => wk_X8_coin_0 ⟨Nat.le_refl _, Nat.le_refl _⟩ C (retM_z C hr (fun r F G w _ => rfl)) x1 x2 F G w h hl hw)
def wp_X8_due_106 (Q : FT → GT → Int64 → Prop) (F : FT) (G : GT) (w : Int64) : Prop := wp_X8_settle F G w (fun F1 G2 w3 => Q F1 G2 w3)
def wp_X8_due_20 (Q : FT → GT → Int64 → Prop) (x1 : Int32) (x2 : Int32) (x3 : Int32) (s0 : Int32) (F : FT) (G : GT) (w : Int64) : Prop := vp_in x1 16 ∧ vp_in x1 16 ∧ ∀ G1 : GT, G1 = gU G 11 (upd (G 11) x1.toNatClampNeg ((G 11 x1.toNatClampNeg) - s0)) → vp_in x2 16 ∧ vp_in x2 16 ∧ ∀ G2 : GT, G2 = gU G1 11 (upd (G1 11) x2.toNatClampNeg ((G1 11 x2.toNatClampNeg) + s0)) → ((x3 ≤ s0) → wp_X8_due_106 Q F G2 w) ∧ ((¬ x3 ≤ s0) → vp_in (F 5) 80 ∧ ∀ G3 : GT, G3 = gU G2 12 (upd (G2 12) (F 5).toNatClampNeg x1) → vp_in (F 5) 80 ∧ ∀ G4 : GT, G4 = gU G3 13 (upd (G3 13) (F 5).toNatClampNeg x2) → vp_in (F 5) 80 ∧ ∀ G5 : GT, G5 = gU G4 14 (upd (G4 14) (F 5).toNatClampNeg (x3 - s0)) → vp_in (F 5) 80 ∧ ∀ G6 : GT, G6 = gU G5 15 (upd (G5 15) (F 5).toNatClampNeg (x3 - s0)) → ∀ F7 : FT, F7 = sU F 5 ((F 5) + (1 : Int32)) → wp_X8_due_106 Q F7 G6 w)
def wp_X8_due_0 (Q : FT → GT → Int64 → Prop) (x1 : Int32) (x2 : Int32) (x3 : Int32) (F : FT) (G : GT) (w : Int64) : Prop := vp_in x1 16 ∧ (((G 11 x1.toNatClampNeg) ≤ x3) → vp_in x1 16 ∧ wp_X8_due_20 Q x1 x2 x3 (G 11 x1.toNatClampNeg) F G w) ∧ ((¬ (G 11 x1.toNatClampNeg) ≤ x3) → wp_X8_due_20 Q x1 x2 x3 x3 F G w)
def wp_X8_due (x1 : Int32) (x2 : Int32) (x3 : Int32) (F : FT) (G : GT) (w : Int64) (Q : FT → GT → Int64 → Prop) : Prop := wp_X8_due_0 Q x1 x2 x3 F G w
set_option maxHeartbeats 4000000 in
set_option maxRecDepth 100000 in
theorem wk_X8_due_106 {p : Program} {l : Launch} {e : Env} {R : Room} {s : State} {m : MethodId} {args : Array Value} {below : List Frame} {meth : Method} {c : Code} {K : KT} {A : Nat → Prop} {Z : State → Prop} {a : Nat → Nat} (hR : 1 ≤ R.frames ∧ 22 ≤ R.locals) (C : CX p s m args meth c K A cX8_due 5 RX8) {Q : FT → GT → Int64 → Prop} (hq : RetMv p l e R s m args below meth c K A Z a cX8_due Q) (F : FT) (G : GT) (w : Int64) {H : Heap} {locs : List Loc} (h : WD K A s (wM K a F G w) H locs) {ls : Array Slot} (hl : lv_has ls 5 [(0, .ref (a 0))]) (hw : wp_X8_due_106 Q F G w) : W p l e R s m args below meth c H locs 0 0 Z (F0 m 106 ls []) := by
  unfold wp_X8_due_106 at hw
  have hx := C.1
  have hb := C.2.1
  refine lv_aload_n hx hb dX8_due_106 rfl (lv_at hl 0 rfl) ?_
  refine kMvV C h (c_X8_settle F G w hw) lk_8_186 (rvM_0 K a F G w) rfl hl.1 rfl (Nat.le_of_ble_eq_true rfl) ⟨Nat.le_trans (Nat.le_of_ble_eq_true rfl) hR.1, Nat.le_trans (Nat.le_of_ble_eq_true rfl) hR.2⟩ ⟨Nat.zero_le _, Nat.zero_le _⟩ dX8_due_107 (fun F1 G2 w3 H locs hw h => ?_)
  exact hq F1 G2 w3 _ _ _ _ dX8_due_110 h hw
set_option maxHeartbeats 4000000 in
set_option maxRecDepth 100000 in
theorem wk_X8_due_20 {p : Program} {l : Launch} {e : Env} {R : Room} {s : State} {m : MethodId} {args : Array Value} {below : List Frame} {meth : Method} {c : Code} {K : KT} {A : Nat → Prop} {Z : State → Prop} {a : Nat → Nat} (hR : 1 ≤ R.frames ∧ 22 ≤ R.locals) (C : CX p s m args meth c K A cX8_due 5 RX8) {Q : FT → GT → Int64 → Prop} (hq : RetMv p l e R s m args below meth c K A Z a cX8_due Q) (x1 : Int32) (x2 : Int32) (x3 : Int32) (s0 : Int32) (F : FT) (G : GT) (w : Int64) {H : Heap} {locs : List Loc} (h : WD K A s (wM K a F G w) H locs) {ls : Array Slot} (hl : lv_has ls 5 [(0, .ref (a 0)), (1, .int x1), (2, .int x2), (3, .int x3)]) (hw : wp_X8_due_20 Q x1 x2 x3 s0 F G w) : W p l e R s m args below meth c H locs 0 0 Z (F0 m 20 ls [.int s0]) := by
  unfold wp_X8_due_20 at hw
  have hx := C.1
  have hb := C.2.1
  refine lv_istore (lv' := [(4, .int s0), (0, .ref (a 0)), (1, .int x1), (2, .int x2), (3, .int x3)]) hx hb dX8_due_20 hl (by decide) rfl (fun ls hl => ?_)
  refine lv_aload_n hx hb dX8_due_22 rfl (lv_at hl 1 rfl) ?_
  refine gM_8_19 C h dX8_due_23 ?_
  refine lv_iload_n hx hb dX8_due_26 rfl (lv_at hl 2 rfl) ?_
  refine lv_dup2_11 hx hb dX8_due_27 rfl rfl ?_
  have hi := hw.1
  have hw := hw.2
  refine laM_11 C h hi dX8_due_28 ?_
  refine lv_iload hx hb dX8_due_29 (lv_at hl 0 rfl) ?_
  refine lv_isub hx hb dX8_due_31 ?_
  have hi := hw.1
  have hw := hw.2
  refine saM_11 C h hi dX8_due_32 (fun G1 H locs eG1 h => ?_)
  have hw := hw G1 eG1
  refine lv_aload_n hx hb dX8_due_33 rfl (lv_at hl 1 rfl) ?_
  refine gM_8_19 C h dX8_due_34 ?_
  refine lv_iload_n hx hb dX8_due_37 rfl (lv_at hl 3 rfl) ?_
  refine lv_dup2_11 hx hb dX8_due_38 rfl rfl ?_
  have hi := hw.1
  have hw := hw.2
  refine laM_11 C h hi dX8_due_39 ?_
  refine lv_iload hx hb dX8_due_40 (lv_at hl 0 rfl) ?_
  refine lv_iadd hx hb dX8_due_42 ?_
  have hi := hw.1
  have hw := hw.2
  refine saM_11 C h hi dX8_due_43 (fun G2 H locs eG2 h => ?_)
  have hw := hw G2 eG2
  refine lv_iload hx hb dX8_due_44 (lv_at hl 0 rfl) ?_
  refine lv_iload_n hx hb dX8_due_46 rfl (lv_at hl 4 rfl) ?_
  refine lv_icmp_ge (tgt := 106) hx hb dX8_due_47 (by decide) (fun c => ?_) (fun c => ?_)
  · have hw := hw.1 c
    exact wk_X8_due_106 hR C hq F G2 w h (lv_sub hl [1] rfl) hw
  · have hw := hw.2 c
    refine lv_aload_n hx hb dX8_due_50 rfl (lv_at hl 1 rfl) ?_
    refine gM_8_22 C h dX8_due_51 ?_
    refine lv_aload_n hx hb dX8_due_54 rfl (lv_at hl 1 rfl) ?_
    refine gM_8_189 C h dX8_due_55 ?_
    refine lv_iload_n hx hb dX8_due_58 rfl (lv_at hl 2 rfl) ?_
    have hi := hw.1
    have hw := hw.2
    refine saM_12 C h hi dX8_due_59 (fun G3 H locs eG3 h => ?_)
    have hw := hw G3 eG3
    refine lv_aload_n hx hb dX8_due_60 rfl (lv_at hl 1 rfl) ?_
    refine gM_8_25 C h dX8_due_61 ?_
    refine lv_aload_n hx hb dX8_due_64 rfl (lv_at hl 1 rfl) ?_
    refine gM_8_189 C h dX8_due_65 ?_
    refine lv_iload_n hx hb dX8_due_68 rfl (lv_at hl 3 rfl) ?_
    have hi := hw.1
    have hw := hw.2
    refine saM_13 C h hi dX8_due_69 (fun G4 H locs eG4 h => ?_)
    have hw := hw G4 eG4
    refine lv_aload_n hx hb dX8_due_70 rfl (lv_at hl 1 rfl) ?_
    refine gM_8_28 C h dX8_due_71 ?_
    refine lv_aload_n hx hb dX8_due_74 rfl (lv_at hl 1 rfl) ?_
    refine gM_8_189 C h dX8_due_75 ?_
    refine lv_iload_n hx hb dX8_due_78 rfl (lv_at hl 4 rfl) ?_
    refine lv_iload hx hb dX8_due_79 (lv_at hl 0 rfl) ?_
    refine lv_isub hx hb dX8_due_81 ?_
    have hi := hw.1
    have hw := hw.2
    refine saM_14 C h hi dX8_due_82 (fun G5 H locs eG5 h => ?_)
    have hw := hw G5 eG5
    refine lv_aload_n hx hb dX8_due_83 rfl (lv_at hl 1 rfl) ?_
    refine gM_8_31 C h dX8_due_84 ?_
    refine lv_aload_n hx hb dX8_due_87 rfl (lv_at hl 1 rfl) ?_
    refine gM_8_189 C h dX8_due_88 ?_
    refine lv_iload_n hx hb dX8_due_91 rfl (lv_at hl 4 rfl) ?_
    refine lv_iload hx hb dX8_due_92 (lv_at hl 0 rfl) ?_
    refine lv_isub hx hb dX8_due_94 ?_
    have hi := hw.1
    have hw := hw.2
    refine saM_15 C h hi dX8_due_95 (fun G6 H locs eG6 h => ?_)
    have hw := hw G6 eG6
    refine lv_aload_n hx hb dX8_due_96 rfl (lv_at hl 1 rfl) ?_
    refine lv_dup hx hb dX8_due_97 rfl ?_
    refine gM_8_189 C h dX8_due_98 ?_
    refine lv_iconst (v := (1 : Int32)) hx hb dX8_due_101 (by decide) ?_
    refine lv_iadd hx hb dX8_due_102 ?_
    refine pM_8_189 C h dX8_due_103 (fun F7 H locs eF7 h => ?_)
    have hw := hw F7 eF7
    exact wk_X8_due_106 hR C hq F7 G6 w h (lv_sub hl [1] rfl) hw
set_option maxHeartbeats 4000000 in
set_option maxRecDepth 100000 in
theorem wk_X8_due_0 {p : Program} {l : Launch} {e : Env} {R : Room} {s : State} {m : MethodId} {args : Array Value} {below : List Frame} {meth : Method} {c : Code} {K : KT} {A : Nat → Prop} {Z : State → Prop} {a : Nat → Nat} (hR : 1 ≤ R.frames ∧ 22 ≤ R.locals) (C : CX p s m args meth c K A cX8_due 5 RX8) {Q : FT → GT → Int64 → Prop} (hq : RetMv p l e R s m args below meth c K A Z a cX8_due Q) (x1 : Int32) (x2 : Int32) (x3 : Int32) (F : FT) (G : GT) (w : Int64) {H : Heap} {locs : List Loc} (h : WD K A s (wM K a F G w) H locs) {ls : Array Slot} (hl : lv_has ls 5 [(0, .ref (a 0)), (1, .int x1), (2, .int x2), (3, .int x3)]) (hw : wp_X8_due_0 Q x1 x2 x3 F G w) : W p l e R s m args below meth c H locs 0 0 Z (F0 m 0 ls []) := by
  unfold wp_X8_due_0 at hw
  have hx := C.1
  have hb := C.2.1
  refine lv_iload_n hx hb dX8_due_0 rfl (lv_at hl 3 rfl) ?_
  refine lv_aload_n hx hb dX8_due_1 rfl (lv_at hl 0 rfl) ?_
  refine gM_8_19 C h dX8_due_2 ?_
  refine lv_iload_n hx hb dX8_due_5 rfl (lv_at hl 1 rfl) ?_
  have hi := hw.1
  have hw := hw.2
  refine laM_11 C h hi dX8_due_6 ?_
  refine lv_icmp_ge (tgt := 14) hx hb dX8_due_7 (by decide) (fun c => ?_) (fun c => ?_)
  · have hw := hw.1 c
    refine lv_aload_n hx hb dX8_due_14 rfl (lv_at hl 0 rfl) ?_
    refine gM_8_19 C h dX8_due_15 ?_
    refine lv_iload_n hx hb dX8_due_18 rfl (lv_at hl 1 rfl) ?_
    have hi := hw.1
    have hw := hw.2
    refine laM_11 C h hi dX8_due_19 ?_
    exact wk_X8_due_20 hR C hq x1 x2 x3 (G 11 x1.toNatClampNeg) F G w h (lv_sub hl [0, 1, 2, 3] rfl) hw
  · have hw := hw.2 c
    refine lv_iload_n hx hb dX8_due_10 rfl (lv_at hl 3 rfl) ?_
    refine lv_goto (tgt := 20) hx hb dX8_due_11 (by decide) ?_
    exact wk_X8_due_20 hR C hq x1 x2 x3 x3 F G w h (lv_sub hl [0, 1, 2, 3] rfl) hw
theorem c_X8_due {l : Launch} {K : KT} {a : Nat → Nat} (x1 : Int32) (x2 : Int32) (x3 : Int32) (F : FT) (G : GT) (w : Int64) {Q : FT → GT → Int64 → Prop} (hw : wp_X8_due x1 x2 x3 F G w Q) : CtMv l K a yX8_due cX8_due 5 none 1 22 [.ref (a 0), .int x1, .int x2, .int x3] F G w Q := fun sz => x_met (Qm := QmMv K a Q) (by decide) (Nat.le_of_ble_eq_true rfl) (fun p e s m below meth c A ls C hr h hl => wk_X8_due_0 ⟨Nat.le_refl _, Nat.le_refl _⟩ C (retM_v C hr) x1 x2 x3 F G w h hl hw)
def wp_X8_isHorse_0 (Q : Int32 → FT → GT → Int64 → Prop) (x1 : Int32) (F : FT) (G : GT) (w : Int64) : Prop := ((x1 < 0) → Q (0 : Int32) F G w) ∧ ((¬ x1 < 0) → (((F 6) ≤ x1) → Q (0 : Int32) F G w) ∧ ((¬ (F 6) ≤ x1) → Q (1 : Int32) F G w))
def wp_X8_isHorse (x1 : Int32) (F : FT) (G : GT) (w : Int64) (Q : Int32 → FT → GT → Int64 → Prop) : Prop := wp_X8_isHorse_0 (fun r F G w => (r = 0 ∨ r = 1) ∧ Q r F G w) x1 F G w
set_option maxHeartbeats 4000000 in
set_option maxRecDepth 100000 in
theorem wk_X8_isHorse_0 {p : Program} {l : Launch} {e : Env} {R : Room} {s : State} {m : MethodId} {args : Array Value} {below : List Frame} {meth : Method} {c : Code} {K : KT} {A : Nat → Prop} {Z : State → Prop} {a : Nat → Nat} (hR : 0 ≤ R.frames ∧ 0 ≤ R.locals) (C : CX p s m args meth c K A cX8_isHorse 2 RX8) {Q : Int32 → FT → GT → Int64 → Prop} (hq : RetMi p l e R s m args below meth c K A Z a cX8_isHorse Q) (x1 : Int32) (F : FT) (G : GT) (w : Int64) {H : Heap} {locs : List Loc} (h : WD K A s (wM K a F G w) H locs) {ls : Array Slot} (hl : lv_has ls 2 [(0, .ref (a 0)), (1, .int x1)]) (hw : wp_X8_isHorse_0 Q x1 F G w) : W p l e R s m args below meth c H locs 0 0 Z (F0 m 0 ls []) := by
  unfold wp_X8_isHorse_0 at hw
  have hx := C.1
  have hb := C.2.1
  refine lv_iload_n hx hb dX8_isHorse_0 rfl (lv_at hl 1 rfl) ?_
  refine lv_if_lt (tgt := 16) hx hb dX8_isHorse_1 (by decide) (fun c => ?_) (fun c => ?_)
  · have hw := hw.1 c
    refine lv_iconst (v := (0 : Int32)) hx hb dX8_isHorse_16 (by decide) ?_
    exact hq _ F G w _ _ _ _ dX8_isHorse_17 h hw
  · have hw := hw.2 c
    refine lv_iload_n hx hb dX8_isHorse_4 rfl (lv_at hl 1 rfl) ?_
    refine lv_aload_n hx hb dX8_isHorse_5 rfl (lv_at hl 0 rfl) ?_
    refine gM_8_192 C h dX8_isHorse_6 ?_
    refine lv_icmp_ge (tgt := 16) hx hb dX8_isHorse_9 (by decide) (fun c => ?_) (fun c => ?_)
    · have hw := hw.1 c
      refine lv_iconst (v := (0 : Int32)) hx hb dX8_isHorse_16 (by decide) ?_
      exact hq _ F G w _ _ _ _ dX8_isHorse_17 h hw
    · have hw := hw.2 c
      refine lv_iconst (v := (1 : Int32)) hx hb dX8_isHorse_12 (by decide) ?_
      refine lv_goto (tgt := 17) hx hb dX8_isHorse_13 (by decide) ?_
      exact hq _ F G w _ _ _ _ dX8_isHorse_17 h hw
theorem c_X8_isHorse {l : Launch} {K : KT} {a : Nat → Nat} (x1 : Int32) (F : FT) (G : GT) (w : Int64) {Q : Int32 → FT → GT → Int64 → Prop} (hw : wp_X8_isHorse x1 F G w Q) : CtMi l K a yX8_isHorse cX8_isHorse 2 (some .boolean) 0 0 [.ref (a 0), .int x1] F G w (fun r F G w => (r = 0 ∨ r = 1) ∧ Q r F G w) := fun sz => x_met (Qm := QmMi K a (fun r F G w => (r = 0 ∨ r = 1) ∧ Q r F G w)) (by decide) (Nat.le_of_ble_eq_true rfl) (fun p e s m below meth c A ls C hr h hl => wk_X8_isHorse_0 ⟨Nat.le_refl _, Nat.le_refl _⟩ C (retM_z C hr (fun r F G w hz => by rcases hz.1 with z | z <;> rw [z] <;> rfl)) x1 F G w h hl hw)
def wp_X8_goes_56 (Q : FT → GT → Int64 → Prop) (x1 : Int32) (x2 : Int32) (x4 : Int32) (F : FT) (G : GT) (w : Int64) : Prop := ((¬ (F 7) = (400 : Int32)) → vp_in (F 7) 400 ∧ ∀ G1 : GT, G1 = gU G 19 (upd (G 19) (F 7).toNatClampNeg x1) → vp_in (F 7) 400 ∧ ∀ G2 : GT, G2 = gU G1 20 (upd (G1 20) (F 7).toNatClampNeg x2) → vp_in (F 7) 400 ∧ ∀ G3 : GT, G3 = gU G2 21 (upd (G2 21) (F 7).toNatClampNeg (F 0)) → vp_in (F 7) 400 ∧ ∀ G4 : GT, G4 = gU G3 22 (upd (G3 22) (F 7).toNatClampNeg x4) → ∀ F5 : FT, F5 = sU F 7 ((F 7) + (1 : Int32)) → Q F5 G4 w) ∧ (((F 7) = (400 : Int32)) → Q F G w)
def wp_X8_goes_20 (Q : FT → GT → Int64 → Prop) (x1 : Int32) (x2 : Int32) (x3 : Int32) (x4 : Int32) (s0 : Int32) (F : FT) (G : GT) (w : Int64) : Prop := vp_in x1 40 ∧ ∀ G1 : GT, G1 = gU G 16 (upd (G 16) x1.toNatClampNeg x2) → vp_in x1 40 ∧ ∀ G2 : GT, G2 = gU G1 17 (upd (G1 17) x1.toNatClampNeg x3) → ((¬ s0 = 0) → wp_X8_goes_56 Q x1 x2 x4 F G2 w) ∧ ((s0 = 0) → ((x2 = x3) → wp_X8_goes_56 Q x1 x2 x4 F G2 w) ∧ ((¬ x2 = x3) → vp_in x1 40 ∧ ∀ G3 : GT, G3 = gU G2 18 (upd (G2 18) x1.toNatClampNeg (F 8)) → wp_X8_goes_56 Q x1 x2 x4 F G3 w))
def wp_X8_goes_0 (Q : FT → GT → Int64 → Prop) (x1 : Int32) (x2 : Int32) (x3 : Int32) (x4 : Int32) (F : FT) (G : GT) (w : Int64) : Prop := vp_in x1 40 ∧ vp_in x1 40 ∧ (((G 16 x1.toNatClampNeg) = (G 17 x1.toNatClampNeg)) → wp_X8_goes_20 Q x1 x2 x3 x4 (0 : Int32) F G w) ∧ ((¬ (G 16 x1.toNatClampNeg) = (G 17 x1.toNatClampNeg)) → wp_X8_goes_20 Q x1 x2 x3 x4 (1 : Int32) F G w)
def wp_X8_goes (x1 : Int32) (x2 : Int32) (x3 : Int32) (x4 : Int32) (F : FT) (G : GT) (w : Int64) (Q : FT → GT → Int64 → Prop) : Prop := wp_X8_goes_0 Q x1 x2 x3 x4 F G w
set_option maxHeartbeats 4000000 in
set_option maxRecDepth 100000 in
theorem wk_X8_goes_56 {p : Program} {l : Launch} {e : Env} {R : Room} {s : State} {m : MethodId} {args : Array Value} {below : List Frame} {meth : Method} {c : Code} {K : KT} {A : Nat → Prop} {Z : State → Prop} {a : Nat → Nat} (hR : 0 ≤ R.frames ∧ 0 ≤ R.locals) (C : CX p s m args meth c K A cX8_goes 6 RX8) {Q : FT → GT → Int64 → Prop} (hq : RetMv p l e R s m args below meth c K A Z a cX8_goes Q) (x1 : Int32) (x2 : Int32) (x4 : Int32) (F : FT) (G : GT) (w : Int64) {H : Heap} {locs : List Loc} (h : WD K A s (wM K a F G w) H locs) {ls : Array Slot} (hl : lv_has ls 6 [(0, .ref (a 0)), (1, .int x1), (2, .int x2), (4, .int x4)]) (hw : wp_X8_goes_56 Q x1 x2 x4 F G w) : W p l e R s m args below meth c H locs 0 0 Z (F0 m 56 ls []) := by
  unfold wp_X8_goes_56 at hw
  have hx := C.1
  have hb := C.2.1
  refine lv_aload_n hx hb dX8_goes_56 rfl (lv_at hl 0 rfl) ?_
  refine gM_8_198 C h dX8_goes_57 ?_
  refine lv_sipush (v := (400 : Int32)) hx hb dX8_goes_60 (by decide) ?_
  refine lv_icmp_ne (tgt := 67) hx hb dX8_goes_63 (by decide) (fun c => ?_) (fun c => ?_)
  · have hw := hw.1 c
    refine lv_aload_n hx hb dX8_goes_67 rfl (lv_at hl 0 rfl) ?_
    refine gM_8_49 C h dX8_goes_68 ?_
    refine lv_aload_n hx hb dX8_goes_71 rfl (lv_at hl 0 rfl) ?_
    refine gM_8_198 C h dX8_goes_72 ?_
    refine lv_iload_n hx hb dX8_goes_75 rfl (lv_at hl 1 rfl) ?_
    have hi := hw.1
    have hw := hw.2
    refine saM_19 C h hi dX8_goes_76 (fun G1 H locs eG1 h => ?_)
    have hw := hw G1 eG1
    refine lv_aload_n hx hb dX8_goes_77 rfl (lv_at hl 0 rfl) ?_
    refine gM_8_52 C h dX8_goes_78 ?_
    refine lv_aload_n hx hb dX8_goes_81 rfl (lv_at hl 0 rfl) ?_
    refine gM_8_198 C h dX8_goes_82 ?_
    refine lv_iload_n hx hb dX8_goes_85 rfl (lv_at hl 2 rfl) ?_
    have hi := hw.1
    have hw := hw.2
    refine saM_20 C h hi dX8_goes_86 (fun G2 H locs eG2 h => ?_)
    have hw := hw G2 eG2
    refine lv_aload_n hx hb dX8_goes_87 rfl (lv_at hl 0 rfl) ?_
    refine gM_8_55 C h dX8_goes_88 ?_
    refine lv_aload_n hx hb dX8_goes_91 rfl (lv_at hl 0 rfl) ?_
    refine gM_8_198 C h dX8_goes_92 ?_
    refine lv_aload_n hx hb dX8_goes_95 rfl (lv_at hl 0 rfl) ?_
    refine gM_8_201 C h dX8_goes_96 ?_
    have hi := hw.1
    have hw := hw.2
    refine saM_21 C h hi dX8_goes_99 (fun G3 H locs eG3 h => ?_)
    have hw := hw G3 eG3
    refine lv_aload_n hx hb dX8_goes_100 rfl (lv_at hl 0 rfl) ?_
    refine gM_8_58 C h dX8_goes_101 ?_
    refine lv_aload_n hx hb dX8_goes_104 rfl (lv_at hl 0 rfl) ?_
    refine gM_8_198 C h dX8_goes_105 ?_
    refine lv_iload hx hb dX8_goes_108 (lv_at hl 3 rfl) ?_
    have hi := hw.1
    have hw := hw.2
    refine saM_22 C h hi dX8_goes_110 (fun G4 H locs eG4 h => ?_)
    have hw := hw G4 eG4
    refine lv_aload_n hx hb dX8_goes_111 rfl (lv_at hl 0 rfl) ?_
    refine lv_dup hx hb dX8_goes_112 rfl ?_
    refine gM_8_198 C h dX8_goes_113 ?_
    refine lv_iconst (v := (1 : Int32)) hx hb dX8_goes_116 (by decide) ?_
    refine lv_iadd hx hb dX8_goes_117 ?_
    refine pM_8_198 C h dX8_goes_118 (fun F5 H locs eF5 h => ?_)
    have hw := hw F5 eF5
    exact hq F5 G4 w _ _ _ _ dX8_goes_121 h hw
  · have hw := hw.2 c
    exact hq F G w _ _ _ _ dX8_goes_66 h hw
set_option maxHeartbeats 4000000 in
set_option maxRecDepth 100000 in
theorem wk_X8_goes_20 {p : Program} {l : Launch} {e : Env} {R : Room} {s : State} {m : MethodId} {args : Array Value} {below : List Frame} {meth : Method} {c : Code} {K : KT} {A : Nat → Prop} {Z : State → Prop} {a : Nat → Nat} (hR : 0 ≤ R.frames ∧ 0 ≤ R.locals) (C : CX p s m args meth c K A cX8_goes 6 RX8) {Q : FT → GT → Int64 → Prop} (hq : RetMv p l e R s m args below meth c K A Z a cX8_goes Q) (x1 : Int32) (x2 : Int32) (x3 : Int32) (x4 : Int32) (s0 : Int32) (F : FT) (G : GT) (w : Int64) {H : Heap} {locs : List Loc} (h : WD K A s (wM K a F G w) H locs) {ls : Array Slot} (hl : lv_has ls 6 [(0, .ref (a 0)), (1, .int x1), (2, .int x2), (3, .int x3), (4, .int x4)]) (hw : wp_X8_goes_20 Q x1 x2 x3 x4 s0 F G w) : W p l e R s m args below meth c H locs 0 0 Z (F0 m 20 ls [.int s0]) := by
  unfold wp_X8_goes_20 at hw
  have hx := C.1
  have hb := C.2.1
  refine lv_istore (lv' := [(5, .int s0), (0, .ref (a 0)), (1, .int x1), (2, .int x2), (3, .int x3), (4, .int x4)]) hx hb dX8_goes_20 hl (by decide) rfl (fun ls hl => ?_)
  refine lv_aload_n hx hb dX8_goes_22 rfl (lv_at hl 1 rfl) ?_
  refine gM_8_34 C h dX8_goes_23 ?_
  refine lv_iload_n hx hb dX8_goes_26 rfl (lv_at hl 2 rfl) ?_
  refine lv_iload_n hx hb dX8_goes_27 rfl (lv_at hl 3 rfl) ?_
  have hi := hw.1
  have hw := hw.2
  refine saM_16 C h hi dX8_goes_28 (fun G1 H locs eG1 h => ?_)
  have hw := hw G1 eG1
  refine lv_aload_n hx hb dX8_goes_29 rfl (lv_at hl 1 rfl) ?_
  refine gM_8_37 C h dX8_goes_30 ?_
  refine lv_iload_n hx hb dX8_goes_33 rfl (lv_at hl 2 rfl) ?_
  refine lv_iload_n hx hb dX8_goes_34 rfl (lv_at hl 4 rfl) ?_
  have hi := hw.1
  have hw := hw.2
  refine saM_17 C h hi dX8_goes_35 (fun G2 H locs eG2 h => ?_)
  have hw := hw G2 eG2
  refine lv_iload hx hb dX8_goes_36 (lv_at hl 0 rfl) ?_
  refine lv_if_ne (tgt := 56) hx hb dX8_goes_38 (by decide) (fun c => ?_) (fun c => ?_)
  · have hw := hw.1 c
    exact wk_X8_goes_56 hR C hq x1 x2 x4 F G2 w h (lv_sub hl [1, 2, 3, 5] rfl) hw
  · have hw := hw.2 c
    refine lv_iload_n hx hb dX8_goes_41 rfl (lv_at hl 3 rfl) ?_
    refine lv_iload_n hx hb dX8_goes_42 rfl (lv_at hl 4 rfl) ?_
    refine lv_icmp_eq (tgt := 56) hx hb dX8_goes_43 (by decide) (fun c => ?_) (fun c => ?_)
    · have hw := hw.1 c
      exact wk_X8_goes_56 hR C hq x1 x2 x4 F G2 w h (lv_sub hl [1, 2, 3, 5] rfl) hw
    · have hw := hw.2 c
      refine lv_aload_n hx hb dX8_goes_46 rfl (lv_at hl 1 rfl) ?_
      refine gM_8_40 C h dX8_goes_47 ?_
      refine lv_iload_n hx hb dX8_goes_50 rfl (lv_at hl 2 rfl) ?_
      refine lv_aload_n hx hb dX8_goes_51 rfl (lv_at hl 1 rfl) ?_
      refine gM_8_195 C h dX8_goes_52 ?_
      have hi := hw.1
      have hw := hw.2
      refine saM_18 C h hi dX8_goes_55 (fun G3 H locs eG3 h => ?_)
      have hw := hw G3 eG3
      exact wk_X8_goes_56 hR C hq x1 x2 x4 F G3 w h (lv_sub hl [1, 2, 3, 5] rfl) hw
set_option maxHeartbeats 4000000 in
set_option maxRecDepth 100000 in
theorem wk_X8_goes_0 {p : Program} {l : Launch} {e : Env} {R : Room} {s : State} {m : MethodId} {args : Array Value} {below : List Frame} {meth : Method} {c : Code} {K : KT} {A : Nat → Prop} {Z : State → Prop} {a : Nat → Nat} (hR : 0 ≤ R.frames ∧ 0 ≤ R.locals) (C : CX p s m args meth c K A cX8_goes 6 RX8) {Q : FT → GT → Int64 → Prop} (hq : RetMv p l e R s m args below meth c K A Z a cX8_goes Q) (x1 : Int32) (x2 : Int32) (x3 : Int32) (x4 : Int32) (F : FT) (G : GT) (w : Int64) {H : Heap} {locs : List Loc} (h : WD K A s (wM K a F G w) H locs) {ls : Array Slot} (hl : lv_has ls 6 [(0, .ref (a 0)), (1, .int x1), (2, .int x2), (3, .int x3), (4, .int x4)]) (hw : wp_X8_goes_0 Q x1 x2 x3 x4 F G w) : W p l e R s m args below meth c H locs 0 0 Z (F0 m 0 ls []) := by
  unfold wp_X8_goes_0 at hw
  have hx := C.1
  have hb := C.2.1
  refine lv_aload_n hx hb dX8_goes_0 rfl (lv_at hl 0 rfl) ?_
  refine gM_8_34 C h dX8_goes_1 ?_
  refine lv_iload_n hx hb dX8_goes_4 rfl (lv_at hl 1 rfl) ?_
  have hi := hw.1
  have hw := hw.2
  refine laM_16 C h hi dX8_goes_5 ?_
  refine lv_aload_n hx hb dX8_goes_6 rfl (lv_at hl 0 rfl) ?_
  refine gM_8_37 C h dX8_goes_7 ?_
  refine lv_iload_n hx hb dX8_goes_10 rfl (lv_at hl 1 rfl) ?_
  have hi := hw.1
  have hw := hw.2
  refine laM_17 C h hi dX8_goes_11 ?_
  refine lv_icmp_eq (tgt := 19) hx hb dX8_goes_12 (by decide) (fun c => ?_) (fun c => ?_)
  · have hw := hw.1 c
    refine lv_iconst (v := (0 : Int32)) hx hb dX8_goes_19 (by decide) ?_
    exact wk_X8_goes_20 hR C hq x1 x2 x3 x4 (0 : Int32) F G w h (lv_sub hl [0, 1, 2, 3, 4] rfl) hw
  · have hw := hw.2 c
    refine lv_iconst (v := (1 : Int32)) hx hb dX8_goes_15 (by decide) ?_
    refine lv_goto (tgt := 20) hx hb dX8_goes_16 (by decide) ?_
    exact wk_X8_goes_20 hR C hq x1 x2 x3 x4 (1 : Int32) F G w h (lv_sub hl [0, 1, 2, 3, 4] rfl) hw
theorem c_X8_goes {l : Launch} {K : KT} {a : Nat → Nat} (x1 : Int32) (x2 : Int32) (x3 : Int32) (x4 : Int32) (F : FT) (G : GT) (w : Int64) {Q : FT → GT → Int64 → Prop} (hw : wp_X8_goes x1 x2 x3 x4 F G w Q) : CtMv l K a yX8_goes cX8_goes 6 none 0 0 [.ref (a 0), .int x1, .int x2, .int x3, .int x4] F G w Q := fun sz => x_met (Qm := QmMv K a Q) (by decide) (Nat.le_of_ble_eq_true rfl) (fun p e s m below meth c A ls C hr h hl => wk_X8_goes_0 ⟨Nat.le_refl _, Nat.le_refl _⟩ C (retM_v C hr) x1 x2 x3 x4 F G w h hl hw)
def wp_X8_horse_45 (Q : Int32 → FT → GT → Int64 → Prop) : Nat → Int32 → Int32 → Int32 → FT → GT → Int64 → Prop
  | 0, _, _, _, _, _, _ => False
  | n + 1, x1, x2, x3, F, G, w => (((6 : Int32) ≤ x3) → ∀ F1 : FT, F1 = sU F 6 ((F 6) + (1 : Int32)) → wp_X8_goes x2 x1 x1 (0 : Int32) F1 G w (fun F2 G3 w4 => Q x2 F2 G3 w4)) ∧ ((¬ (6 : Int32) ≤ x3) → vp_in (((6 : Int32) * x2) + x3) 240 ∧ ∀ G5 : GT, G5 = gU G 52 (upd (G 52) (((6 : Int32) * x2) + x3).toNatClampNeg (-1 : Int32)) → vp_in (((6 : Int32) * x2) + x3) 240 ∧ ∀ G6 : GT, G6 = gU G5 53 (upd (G5 53) (((6 : Int32) * x2) + x3).toNatClampNeg (-1 : Int32)) → ∀ v7 : Int32, v7 = (x3 + 1) → wp_X8_horse_45 Q n x1 x2 v7 F G6 w)
def wp_X8_horse_0 (Q : Int32 → FT → GT → Int64 → Prop) (x1 : Int32) (F : FT) (G : GT) (w : Int64) : Prop := ∀ F1 : FT, F1 = sU F 20 (0 : Int32) → (((F1 6) = (40 : Int32)) → Q (-1 : Int32) F1 G w) ∧ ((¬ (F1 6) = (40 : Int32)) → wp_X8_isPerson x1 F1 G w (fun r5 F2 G3 w4 => ((¬ r5 = 0) → vp_in (F2 6) 40 ∧ ∀ G6 : GT, G6 = gU G3 16 (upd (G3 16) (F2 6).toNatClampNeg x1) → vp_in (F2 6) 40 ∧ ∀ G7 : GT, G7 = gU G6 17 (upd (G6 17) (F2 6).toNatClampNeg x1) → ∃ n : Nat, wp_X8_horse_45 Q n x1 (F2 6) (0 : Int32) F2 G7 w4) ∧ ((r5 = 0) → Q (-1 : Int32) F2 G3 w4)))
def wp_X8_horse (x1 : Int32) (F : FT) (G : GT) (w : Int64) (Q : Int32 → FT → GT → Int64 → Prop) : Prop := wp_X8_horse_0 Q x1 F G w
set_option maxHeartbeats 4000000 in
set_option maxRecDepth 100000 in
theorem wk_X8_horse_45 {p : Program} {l : Launch} {e : Env} {R : Room} {s : State} {m : MethodId} {args : Array Value} {below : List Frame} {meth : Method} {c : Code} {K : KT} {A : Nat → Prop} {Z : State → Prop} {a : Nat → Nat} (hR : 1 ≤ R.frames ∧ 25 ≤ R.locals) (C : CX p s m args meth c K A cX8_horse 4 RX8) {Q : Int32 → FT → GT → Int64 → Prop} (hq : RetMi p l e R s m args below meth c K A Z a cX8_horse Q) : ∀ (n : Nat) (x1 : Int32) (x2 : Int32) (x3 : Int32) (F : FT) (G : GT) (w : Int64) {H : Heap} {locs : List Loc} (h : WD K A s (wM K a F G w) H locs) {ls : Array Slot} (hl : lv_has ls 4 [(0, .ref (a 0)), (1, .int x1), (2, .int x2), (3, .int x3)]) (hw : wp_X8_horse_45 Q n x1 x2 x3 F G w), W p l e R s m args below meth c H locs 0 0 Z (F0 m 45 ls []) := by
  intro n
  induction n with
  | zero => intro x1 x2 x3 F G w H locs h ls hl hw; exact False.elim hw
  | succ n ih =>
    intro x1 x2 x3 F G w H locs h ls hl hw
    rw [wp_X8_horse_45] at hw
    have hx := C.1
    have hb := C.2.1
    refine lv_iload_n hx hb dX8_horse_45 rfl (lv_at hl 3 rfl) ?_
    refine lv_bipush (v := (6 : Int32)) hx hb dX8_horse_46 (by decide) ?_
    refine lv_icmp_ge (tgt := 81) hx hb dX8_horse_48 (by decide) (fun c => ?_) (fun c => ?_)
    · have hw := hw.1 c
      refine lv_aload_n hx hb dX8_horse_81 rfl (lv_at hl 0 rfl) ?_
      refine lv_dup hx hb dX8_horse_82 rfl ?_
      refine gM_8_192 C h dX8_horse_83 ?_
      refine lv_iconst (v := (1 : Int32)) hx hb dX8_horse_86 (by decide) ?_
      refine lv_iadd hx hb dX8_horse_87 ?_
      refine pM_8_192 C h dX8_horse_88 (fun F1 H locs eF1 h => ?_)
      have hw := hw F1 eF1
      refine lv_aload_n hx hb dX8_horse_91 rfl (lv_at hl 0 rfl) ?_
      refine lv_iload_n hx hb dX8_horse_92 rfl (lv_at hl 2 rfl) ?_
      refine lv_iload_n hx hb dX8_horse_93 rfl (lv_at hl 1 rfl) ?_
      refine lv_iload_n hx hb dX8_horse_94 rfl (lv_at hl 1 rfl) ?_
      refine lv_iconst (v := (0 : Int32)) hx hb dX8_horse_95 (by decide) ?_
      refine kMvV C h (c_X8_goes x2 x1 x1 (0 : Int32) F1 G w hw) lk_8_204 (rvM_0 K a F1 G w) rfl hl.1 rfl (Nat.le_of_ble_eq_true rfl) ⟨Nat.le_trans (Nat.le_of_ble_eq_true rfl) hR.1, Nat.le_trans (Nat.le_of_ble_eq_true rfl) hR.2⟩ ⟨Nat.zero_le _, Nat.zero_le _⟩ dX8_horse_96 (fun F2 G3 w4 H locs hw h => ?_)
      refine lv_iload_n hx hb dX8_horse_99 rfl (lv_at hl 2 rfl) ?_
      exact hq _ F2 G3 w4 _ _ _ _ dX8_horse_100 h hw
    · have hw := hw.2 c
      refine lv_aload_n hx hb dX8_horse_51 rfl (lv_at hl 0 rfl) ?_
      refine gM_8_43 C h dX8_horse_52 ?_
      refine lv_bipush (v := (6 : Int32)) hx hb dX8_horse_55 (by decide) ?_
      refine lv_iload_n hx hb dX8_horse_57 rfl (lv_at hl 2 rfl) ?_
      refine lv_imul hx hb dX8_horse_58 ?_
      refine lv_iload_n hx hb dX8_horse_59 rfl (lv_at hl 3 rfl) ?_
      refine lv_iadd hx hb dX8_horse_60 ?_
      refine lv_iconst (v := (-1 : Int32)) hx hb dX8_horse_61 (by decide) ?_
      have hi := hw.1
      have hw := hw.2
      refine saM_52 C h hi dX8_horse_62 (fun G5 H locs eG5 h => ?_)
      have hw := hw G5 eG5
      refine lv_aload_n hx hb dX8_horse_63 rfl (lv_at hl 0 rfl) ?_
      refine gM_8_46 C h dX8_horse_64 ?_
      refine lv_bipush (v := (6 : Int32)) hx hb dX8_horse_67 (by decide) ?_
      refine lv_iload_n hx hb dX8_horse_69 rfl (lv_at hl 2 rfl) ?_
      refine lv_imul hx hb dX8_horse_70 ?_
      refine lv_iload_n hx hb dX8_horse_71 rfl (lv_at hl 3 rfl) ?_
      refine lv_iadd hx hb dX8_horse_72 ?_
      refine lv_iconst (v := (-1 : Int32)) hx hb dX8_horse_73 (by decide) ?_
      have hi := hw.1
      have hw := hw.2
      refine saM_53 C h hi dX8_horse_74 (fun G6 H locs eG6 h => ?_)
      have hw := hw G6 eG6
      obtain ⟨v7, ev7⟩ : ∃ z : Int32, z = (x3 + 1) := ⟨_, rfl⟩
      have hw := hw v7 ev7
      refine lv_iinc (v := v7) (lv' := [(3, .int v7), (0, .ref (a 0)), (1, .int x1), (2, .int x2)]) hx hb dX8_horse_75 hl (k := 3) rfl (by rw [ev7]; rfl) (by decide) rfl (fun ls hl => ?_)
      refine lv_goto (tgt := 45) hx hb dX8_horse_78 (by decide) ?_
      exact ih x1 x2 v7 F G6 w h (lv_sub hl [1, 2, 3, 0] rfl) hw
set_option maxHeartbeats 4000000 in
set_option maxRecDepth 100000 in
theorem wk_X8_horse_0 {p : Program} {l : Launch} {e : Env} {R : Room} {s : State} {m : MethodId} {args : Array Value} {below : List Frame} {meth : Method} {c : Code} {K : KT} {A : Nat → Prop} {Z : State → Prop} {a : Nat → Nat} (hR : 1 ≤ R.frames ∧ 25 ≤ R.locals) (C : CX p s m args meth c K A cX8_horse 4 RX8) {Q : Int32 → FT → GT → Int64 → Prop} (hq : RetMi p l e R s m args below meth c K A Z a cX8_horse Q) (x1 : Int32) (F : FT) (G : GT) (w : Int64) {H : Heap} {locs : List Loc} (h : WD K A s (wM K a F G w) H locs) {ls : Array Slot} (hl : lv_has ls 4 [(0, .ref (a 0)), (1, .int x1)]) (hw : wp_X8_horse_0 Q x1 F G w) : W p l e R s m args below meth c H locs 0 0 Z (F0 m 0 ls []) := by
  unfold wp_X8_horse_0 at hw
  have hx := C.1
  have hb := C.2.1
  refine lv_aload_n hx hb dX8_horse_0 rfl (lv_at hl 0 rfl) ?_
  refine lv_iconst (v := (0 : Int32)) hx hb dX8_horse_1 (by decide) ?_
  refine pM_8_89 C h dX8_horse_2 (fun F1 H locs eF1 h => ?_)
  have hw := hw F1 eF1
  refine lv_aload_n hx hb dX8_horse_5 rfl (lv_at hl 0 rfl) ?_
  refine gM_8_192 C h dX8_horse_6 ?_
  refine lv_bipush (v := (40 : Int32)) hx hb dX8_horse_9 (by decide) ?_
  refine lv_icmp_eq (tgt := 22) hx hb dX8_horse_11 (by decide) (fun c => ?_) (fun c => ?_)
  · have hw := hw.1 c
    refine lv_iconst (v := (-1 : Int32)) hx hb dX8_horse_22 (by decide) ?_
    exact hq _ F1 G w _ _ _ _ dX8_horse_23 h hw
  · have hw := hw.2 c
    refine lv_aload_n hx hb dX8_horse_14 rfl (lv_at hl 0 rfl) ?_
    refine lv_iload_n hx hb dX8_horse_15 rfl (lv_at hl 1 rfl) ?_
    refine kMiV C h (c_X8_isPerson x1 F1 G w hw) lk_8_183 (rvM_0 K a F1 G w) rfl hl.1 rfl (Nat.le_of_ble_eq_true rfl) ⟨Nat.le_trans (Nat.le_of_ble_eq_true rfl) hR.1, Nat.le_trans (Nat.le_of_ble_eq_true rfl) hR.2⟩ ⟨Nat.zero_le _, Nat.zero_le _⟩ dX8_horse_16 (fun r5 F2 G3 w4 H locs hw h => ?_)
    have hw := hw.2
    refine lv_if_ne (tgt := 24) hx hb dX8_horse_19 (by decide) (fun c => ?_) (fun c => ?_)
    · have hw := hw.1 c
      refine lv_aload_n hx hb dX8_horse_24 rfl (lv_at hl 0 rfl) ?_
      refine gM_8_192 C h dX8_horse_25 ?_
      refine lv_istore_n (lv' := [(2, .int (F2 6)), (0, .ref (a 0)), (1, .int x1)]) hx hb dX8_horse_28 rfl hl (by decide) rfl (fun ls hl => ?_)
      refine lv_aload_n hx hb dX8_horse_29 rfl (lv_at hl 1 rfl) ?_
      refine gM_8_34 C h dX8_horse_30 ?_
      refine lv_iload_n hx hb dX8_horse_33 rfl (lv_at hl 0 rfl) ?_
      refine lv_iload_n hx hb dX8_horse_34 rfl (lv_at hl 2 rfl) ?_
      have hi := hw.1
      have hw := hw.2
      refine saM_16 C h hi dX8_horse_35 (fun G6 H locs eG6 h => ?_)
      have hw := hw G6 eG6
      refine lv_aload_n hx hb dX8_horse_36 rfl (lv_at hl 1 rfl) ?_
      refine gM_8_37 C h dX8_horse_37 ?_
      refine lv_iload_n hx hb dX8_horse_40 rfl (lv_at hl 0 rfl) ?_
      refine lv_iload_n hx hb dX8_horse_41 rfl (lv_at hl 2 rfl) ?_
      have hi := hw.1
      have hw := hw.2
      refine saM_17 C h hi dX8_horse_42 (fun G7 H locs eG7 h => ?_)
      have hw := hw G7 eG7
      refine lv_iconst (v := (0 : Int32)) hx hb dX8_horse_43 (by decide) ?_
      refine lv_istore_n (lv' := [(3, .int (0 : Int32)), (2, .int (F2 6)), (0, .ref (a 0)), (1, .int x1)]) hx hb dX8_horse_44 rfl hl (by decide) rfl (fun ls hl => ?_)
      obtain ⟨n, hw⟩ := hw
      exact wk_X8_horse_45 hR C hq n x1 (F2 6) (0 : Int32) F2 G7 w4 h (lv_sub hl [2, 3, 1, 0] rfl) hw
    · have hw := hw.2 c
      refine lv_iconst (v := (-1 : Int32)) hx hb dX8_horse_22 (by decide) ?_
      exact hq _ F2 G3 w4 _ _ _ _ dX8_horse_23 h hw
theorem c_X8_horse {l : Launch} {K : KT} {a : Nat → Nat} (x1 : Int32) (F : FT) (G : GT) (w : Int64) {Q : Int32 → FT → GT → Int64 → Prop} (hw : wp_X8_horse x1 F G w Q) : CtMi l K a yX8_horse cX8_horse 4 (some .int) 1 25 [.ref (a 0), .int x1] F G w Q := fun sz => x_met (Qm := QmMi K a Q) (by decide) (Nat.le_of_ble_eq_true rfl) (fun p e s m below meth c A ls C hr h hl => wk_X8_horse_0 ⟨Nat.le_refl _, Nat.le_refl _⟩ C (retM_z C hr (fun r F G w _ => rfl)) x1 F G w h hl hw)
def wp_X8_sell_291 (Q : Int32 → FT → GT → Int64 → Prop) (x6 : Int32) (s0 : Int32) (s1 : Int32) (s2 : Int32) (F : FT) (G : GT) (w : Int64) : Prop := wp_X8_goes s2 s1 s0 (1 : Int32) F G w (fun F1 G2 w3 => wp_X8_settle F1 G2 w3 (fun F4 G5 w6 => Q x6 F4 G5 w6))
def wp_X8_sell_193 (Q : Int32 → FT → GT → Int64 → Prop) (x1 : Int32) (x2 : Int32) (x3 : Int32) (x5 : Int32) (x6 : Int32) (s0 : Int32) (s1 : Int32) (F : FT) (G : GT) (w : Int64) : Prop := vp_in s1 80 ∧ ∀ G1 : GT, G1 = gU G 31 (upd (G 31) s1.toNatClampNeg (vp_nar .boolean s0)) → vp_in (((14 : Int32) * x5) + (0 : Int32)) 56 ∧ ∀ v2 : Int32, v2 = (G1 51 (((14 : Int32) * x5) + (0 : Int32)).toNatClampNeg) → ∀ v3 : Int64, v3 = (((x3).toInt64 * (v2).toInt64) / (1000 : Int64)) → vp_in x2 16 ∧ vp_in x2 16 ∧ ∀ G4 : GT, G4 = gU G1 11 (upd (G1 11) x2.toNatClampNeg ((G1 11 x2.toNatClampNeg) - x3)) → vp_in x6 80 ∧ vp_in (G4 24 x6.toNatClampNeg) 16 ∧ ∀ v5 : Int32, v5 = ((G4 11 (G4 24 x6.toNatClampNeg).toNatClampNeg) + (x3 - (v3).toInt32)) → vp_in (G4 24 x6.toNatClampNeg) 16 ∧ ∀ G6 : GT, G6 = gU G4 11 (upd (G4 11) (G4 24 x6.toNatClampNeg).toNatClampNeg v5) → vp_in x5 3 ∧ vp_in x5 3 ∧ ∀ G7 : GT, G7 = gU G6 10 (upd (G6 10) x5.toNatClampNeg ((G6 10 x5.toNatClampNeg) + (v3).toInt32)) → ∀ F8 : FT, F8 = sU F 8 ((F 8) + (1 : Int32)) → vp_in x6 80 ∧ (((G7 31 x6.toNatClampNeg) = 0) → vp_in x1 40 ∧ wp_X8_sell_291 Q x6 (G7 17 x1.toNatClampNeg) x2 x1 F8 G7 w) ∧ ((¬ (G7 31 x6.toNatClampNeg) = 0) → wp_X8_sell_291 Q x6 x2 x2 x1 F8 G7 w)
def wp_X8_sell_0 (Q : Int32 → FT → GT → Int64 → Prop) (x1 : Int32) (x2 : Int32) (x3 : Int32) (x4 : Int32) (x5 : Int32) (F : FT) (G : GT) (w : Int64) : Prop := ∀ F1 : FT, F1 = sU F 20 (0 : Int32) → wp_X8_isHorse x1 F1 G w (fun r5 F2 G3 w4 => ((r5 = 0) → Q (-2 : Int32) F2 G3 w4) ∧ ((¬ r5 = 0) → wp_X8_isPerson x2 F2 G3 w4 (fun r9 F6 G7 w8 => ((r9 = 0) → Q (-2 : Int32) F6 G7 w8) ∧ ((¬ r9 = 0) → vp_in x1 40 ∧ ((¬ (G7 16 x1.toNatClampNeg) = x2) → ((x5 < 0) → Q (-3 : Int32) F6 G7 w8) ∧ ((¬ x5 < 0) → (((3 : Int32) ≤ x5) → Q (-3 : Int32) F6 G7 w8) ∧ ((¬ (3 : Int32) ≤ x5) → ((x3 < 0) → Q (-3 : Int32) F6 G7 w8) ∧ ((¬ x3 < 0) → (((100000 : Int32) < x3) → Q (-3 : Int32) F6 G7 w8) ∧ ((¬ (100000 : Int32) < x3) → ((x4 < 0) → Q (-3 : Int32) F6 G7 w8) ∧ ((¬ x4 < 0) → ((x4 ≤ (63 : Int32)) → vp_in x2 16 ∧ ((x3 ≤ (G7 11 x2.toNatClampNeg)) → ((¬ (F6 8) = (80 : Int32)) → vp_in (F6 8) 80 ∧ ∀ G10 : GT, G10 = gU G7 23 (upd (G7 23) (F6 8).toNatClampNeg x1) → vp_in x1 40 ∧ vp_in (F6 8) 80 ∧ ∀ G11 : GT, G11 = gU G10 24 (upd (G10 24) (F6 8).toNatClampNeg (G10 16 x1.toNatClampNeg)) → vp_in (F6 8) 80 ∧ ∀ G12 : GT, G12 = gU G11 25 (upd (G11 25) (F6 8).toNatClampNeg x2) → vp_in (F6 8) 80 ∧ ∀ G13 : GT, G13 = gU G12 26 (upd (G12 26) (F6 8).toNatClampNeg x3) → vp_in (F6 8) 80 ∧ ∀ G14 : GT, G14 = gU G13 27 (upd (G13 27) (F6 8).toNatClampNeg x4) → vp_in (F6 8) 80 ∧ ∀ G15 : GT, G15 = gU G14 28 (upd (G14 28) (F6 8).toNatClampNeg x5) → vp_in (F6 8) 80 ∧ ∀ G16 : GT, G16 = gU G15 29 (upd (G15 29) (F6 8).toNatClampNeg (F6 0)) → vp_in x1 40 ∧ vp_in x1 40 ∧ ((¬ (G16 17 x1.toNatClampNeg) = (G16 16 x1.toNatClampNeg)) → wp_X8_sell_193 Q x1 x2 x3 x5 (F6 8) (0 : Int32) (F6 8) F6 G16 w8) ∧ (((G16 17 x1.toNatClampNeg) = (G16 16 x1.toNatClampNeg)) → wp_X8_sell_193 Q x1 x2 x3 x5 (F6 8) (1 : Int32) (F6 8) F6 G16 w8)) ∧ (((F6 8) = (80 : Int32)) → Q (-5 : Int32) F6 G7 w8)) ∧ ((¬ x3 ≤ (G7 11 x2.toNatClampNeg)) → Q (-4 : Int32) F6 G7 w8)) ∧ ((¬ x4 ≤ (63 : Int32)) → Q (-3 : Int32) F6 G7 w8))))))) ∧ (((G7 16 x1.toNatClampNeg) = x2) → Q (-2 : Int32) F6 G7 w8)))))
def wp_X8_sell (x1 : Int32) (x2 : Int32) (x3 : Int32) (x4 : Int32) (x5 : Int32) (F : FT) (G : GT) (w : Int64) (Q : Int32 → FT → GT → Int64 → Prop) : Prop := wp_X8_sell_0 Q x1 x2 x3 x4 x5 F G w
set_option maxHeartbeats 4000000 in
set_option maxRecDepth 100000 in
theorem wk_X8_sell_291 {p : Program} {l : Launch} {e : Env} {R : Room} {s : State} {m : MethodId} {args : Array Value} {below : List Frame} {meth : Method} {c : Code} {K : KT} {A : Nat → Prop} {Z : State → Prop} {a : Nat → Nat} (hR : 1 ≤ R.frames ∧ 25 ≤ R.locals) (C : CX p s m args meth c K A cX8_sell 8 RX8) {Q : Int32 → FT → GT → Int64 → Prop} (hq : RetMi p l e R s m args below meth c K A Z a cX8_sell Q) (x6 : Int32) (s0 : Int32) (s1 : Int32) (s2 : Int32) (F : FT) (G : GT) (w : Int64) {H : Heap} {locs : List Loc} (h : WD K A s (wM K a F G w) H locs) {ls : Array Slot} (hl : lv_has ls 8 [(0, .ref (a 0)), (6, .int x6)]) (hw : wp_X8_sell_291 Q x6 s0 s1 s2 F G w) : W p l e R s m args below meth c H locs 0 0 Z (F0 m 291 ls [.int s0, .int s1, .int s2, .ref (a 0)]) := by
  unfold wp_X8_sell_291 at hw
  have hx := C.1
  have hb := C.2.1
  refine lv_iconst (v := (1 : Int32)) hx hb dX8_sell_291 (by decide) ?_
  refine kMvV C h (c_X8_goes s2 s1 s0 (1 : Int32) F G w hw) lk_8_204 (rvM_0 K a F G w) rfl hl.1 rfl (Nat.le_of_ble_eq_true rfl) ⟨Nat.le_trans (Nat.le_of_ble_eq_true rfl) hR.1, Nat.le_trans (Nat.le_of_ble_eq_true rfl) hR.2⟩ ⟨Nat.zero_le _, Nat.zero_le _⟩ dX8_sell_292 (fun F1 G2 w3 H locs hw h => ?_)
  refine lv_aload_n hx hb dX8_sell_295 rfl (lv_at hl 0 rfl) ?_
  refine kMvV C h (c_X8_settle F1 G2 w3 hw) lk_8_186 (rvM_0 K a F1 G2 w3) rfl hl.1 rfl (Nat.le_of_ble_eq_true rfl) ⟨Nat.le_trans (Nat.le_of_ble_eq_true rfl) hR.1, Nat.le_trans (Nat.le_of_ble_eq_true rfl) hR.2⟩ ⟨Nat.zero_le _, Nat.zero_le _⟩ dX8_sell_296 (fun F4 G5 w6 H locs hw h => ?_)
  refine lv_iload hx hb dX8_sell_299 (lv_at hl 1 rfl) ?_
  exact hq _ F4 G5 w6 _ _ _ _ dX8_sell_301 h hw
set_option maxHeartbeats 4000000 in
set_option maxRecDepth 100000 in
theorem wk_X8_sell_193 {p : Program} {l : Launch} {e : Env} {R : Room} {s : State} {m : MethodId} {args : Array Value} {below : List Frame} {meth : Method} {c : Code} {K : KT} {A : Nat → Prop} {Z : State → Prop} {a : Nat → Nat} (hR : 1 ≤ R.frames ∧ 25 ≤ R.locals) (C : CX p s m args meth c K A cX8_sell 8 RX8) {Q : Int32 → FT → GT → Int64 → Prop} (hq : RetMi p l e R s m args below meth c K A Z a cX8_sell Q) (x1 : Int32) (x2 : Int32) (x3 : Int32) (x5 : Int32) (x6 : Int32) (s0 : Int32) (s1 : Int32) (F : FT) (G : GT) (w : Int64) {H : Heap} {locs : List Loc} (h : WD K A s (wM K a F G w) H locs) {ls : Array Slot} (hl : lv_has ls 8 [(0, .ref (a 0)), (1, .int x1), (2, .int x2), (3, .int x3), (5, .int x5), (6, .int x6)]) (hw : wp_X8_sell_193 Q x1 x2 x3 x5 x6 s0 s1 F G w) : W p l e R s m args below meth c H locs 0 0 Z (F0 m 193 ls [.int s0, .int s1, .ref (a 31)]) := by
  unfold wp_X8_sell_193 at hw
  have hx := C.1
  have hb := C.2.1
  have hi := hw.1
  have hw := hw.2
  refine saM_31 C h hi dX8_sell_193 (fun G1 H locs eG1 h => ?_)
  have hw := hw G1 eG1
  refine lv_iload_n hx hb dX8_sell_194 rfl (lv_at hl 3 rfl) ?_
  refine lv_i2l hx hb dX8_sell_195 rfl ?_
  refine lv_aload_n hx hb dX8_sell_196 rfl (lv_at hl 0 rfl) ?_
  refine gM_8_13 C h dX8_sell_197 ?_
  refine lv_bipush (v := (14 : Int32)) hx hb dX8_sell_200 (by decide) ?_
  refine lv_iload hx hb dX8_sell_202 (lv_at hl 4 rfl) ?_
  refine lv_imul hx hb dX8_sell_204 ?_
  refine lv_iconst (v := (0 : Int32)) hx hb dX8_sell_205 (by decide) ?_
  refine lv_iadd hx hb dX8_sell_206 ?_
  have hi := hw.1
  have hw := hw.2
  refine laM_51 C h hi dX8_sell_207 ?_
  refine lv_topi (fun v2 ev2 => ?_)
  have hw := hw v2 ev2
  refine lv_i2l hx hb dX8_sell_208 rfl ?_
  refine lv_lmul hx hb dX8_sell_209 ?_
  refine lv_ldc2 hx hb C.2.2.2.1 (C.2.2.2.2.1 _ kc_8_212) dX8_sell_210 ?_
  refine lv_ldiv hx hb dX8_sell_213 (by decide) ?_
  refine lv_topl (fun v3 ev3 => ?_)
  have hw := hw v3 ev3
  refine lv_l2i hx hb dX8_sell_214 rfl ?_
  refine lv_istore (lv' := [(7, .int (v3).toInt32), (0, .ref (a 0)), (1, .int x1), (2, .int x2), (3, .int x3), (5, .int x5), (6, .int x6)]) hx hb dX8_sell_215 hl (by decide) rfl (fun ls hl => ?_)
  refine lv_aload_n hx hb dX8_sell_217 rfl (lv_at hl 1 rfl) ?_
  refine gM_8_19 C h dX8_sell_218 ?_
  refine lv_iload_n hx hb dX8_sell_221 rfl (lv_at hl 3 rfl) ?_
  refine lv_dup2_11 hx hb dX8_sell_222 rfl rfl ?_
  have hi := hw.1
  have hw := hw.2
  refine laM_11 C h hi dX8_sell_223 ?_
  refine lv_iload_n hx hb dX8_sell_224 rfl (lv_at hl 4 rfl) ?_
  refine lv_isub hx hb dX8_sell_225 ?_
  have hi := hw.1
  have hw := hw.2
  refine saM_11 C h hi dX8_sell_226 (fun G4 H locs eG4 h => ?_)
  have hw := hw G4 eG4
  refine lv_aload_n hx hb dX8_sell_227 rfl (lv_at hl 1 rfl) ?_
  refine gM_8_19 C h dX8_sell_228 ?_
  refine lv_aload_n hx hb dX8_sell_231 rfl (lv_at hl 1 rfl) ?_
  refine gM_8_64 C h dX8_sell_232 ?_
  refine lv_iload hx hb dX8_sell_235 (lv_at hl 6 rfl) ?_
  have hi := hw.1
  have hw := hw.2
  refine laM_24 C h hi dX8_sell_237 ?_
  refine lv_dup2_11 hx hb dX8_sell_238 rfl rfl ?_
  have hi := hw.1
  have hw := hw.2
  refine laM_11 C h hi dX8_sell_239 ?_
  refine lv_iload_n hx hb dX8_sell_240 rfl (lv_at hl 4 rfl) ?_
  refine lv_iload hx hb dX8_sell_241 (lv_at hl 0 rfl) ?_
  refine lv_isub hx hb dX8_sell_243 ?_
  refine lv_iadd hx hb dX8_sell_244 ?_
  refine lv_topi (fun v5 ev5 => ?_)
  have hw := hw v5 ev5
  have hi := hw.1
  have hw := hw.2
  refine saM_11 C h hi dX8_sell_245 (fun G6 H locs eG6 h => ?_)
  have hw := hw G6 eG6
  refine lv_aload_n hx hb dX8_sell_246 rfl (lv_at hl 1 rfl) ?_
  refine gM_8_16 C h dX8_sell_247 ?_
  refine lv_iload hx hb dX8_sell_250 (lv_at hl 5 rfl) ?_
  refine lv_dup2_11 hx hb dX8_sell_252 rfl rfl ?_
  have hi := hw.1
  have hw := hw.2
  refine laM_10 C h hi dX8_sell_253 ?_
  refine lv_iload hx hb dX8_sell_254 (lv_at hl 0 rfl) ?_
  refine lv_iadd hx hb dX8_sell_256 ?_
  have hi := hw.1
  have hw := hw.2
  refine saM_10 C h hi dX8_sell_257 (fun G7 H locs eG7 h => ?_)
  have hw := hw G7 eG7
  refine lv_aload_n hx hb dX8_sell_258 rfl (lv_at hl 1 rfl) ?_
  refine lv_dup hx hb dX8_sell_259 rfl ?_
  refine gM_8_195 C h dX8_sell_260 ?_
  refine lv_iconst (v := (1 : Int32)) hx hb dX8_sell_263 (by decide) ?_
  refine lv_iadd hx hb dX8_sell_264 ?_
  refine pM_8_195 C h dX8_sell_265 (fun F8 H locs eF8 h => ?_)
  have hw := hw F8 eF8
  refine lv_aload_n hx hb dX8_sell_268 rfl (lv_at hl 1 rfl) ?_
  refine lv_iload_n hx hb dX8_sell_269 rfl (lv_at hl 2 rfl) ?_
  refine lv_iload_n hx hb dX8_sell_270 rfl (lv_at hl 3 rfl) ?_
  refine lv_aload_n hx hb dX8_sell_271 rfl (lv_at hl 1 rfl) ?_
  refine gM_8_86 C h dX8_sell_272 ?_
  refine lv_iload hx hb dX8_sell_275 (lv_at hl 6 rfl) ?_
  have hi := hw.1
  have hw := hw.2
  refine laM_31 C h hi dX8_sell_277 ?_
  refine lv_if_eq (tgt := 285) hx hb dX8_sell_278 (by decide) (fun c => ?_) (fun c => ?_)
  · have hw := hw.1 c
    refine lv_aload_n hx hb dX8_sell_285 rfl (lv_at hl 1 rfl) ?_
    refine gM_8_37 C h dX8_sell_286 ?_
    refine lv_iload_n hx hb dX8_sell_289 rfl (lv_at hl 2 rfl) ?_
    have hi := hw.1
    have hw := hw.2
    refine laM_17 C h hi dX8_sell_290 ?_
    exact wk_X8_sell_291 hR C hq x6 (G7 17 x1.toNatClampNeg) x2 x1 F8 G7 w h (lv_sub hl [1, 6] rfl) hw
  · have hw := hw.2 c
    refine lv_iload_n hx hb dX8_sell_281 rfl (lv_at hl 3 rfl) ?_
    refine lv_goto (tgt := 291) hx hb dX8_sell_282 (by decide) ?_
    exact wk_X8_sell_291 hR C hq x6 x2 x2 x1 F8 G7 w h (lv_sub hl [1, 6] rfl) hw
set_option maxHeartbeats 4000000 in
set_option maxRecDepth 100000 in
theorem wk_X8_sell_0 {p : Program} {l : Launch} {e : Env} {R : Room} {s : State} {m : MethodId} {args : Array Value} {below : List Frame} {meth : Method} {c : Code} {K : KT} {A : Nat → Prop} {Z : State → Prop} {a : Nat → Nat} (hR : 1 ≤ R.frames ∧ 25 ≤ R.locals) (C : CX p s m args meth c K A cX8_sell 8 RX8) {Q : Int32 → FT → GT → Int64 → Prop} (hq : RetMi p l e R s m args below meth c K A Z a cX8_sell Q) (x1 : Int32) (x2 : Int32) (x3 : Int32) (x4 : Int32) (x5 : Int32) (F : FT) (G : GT) (w : Int64) {H : Heap} {locs : List Loc} (h : WD K A s (wM K a F G w) H locs) {ls : Array Slot} (hl : lv_has ls 8 [(0, .ref (a 0)), (1, .int x1), (2, .int x2), (3, .int x3), (4, .int x4), (5, .int x5)]) (hw : wp_X8_sell_0 Q x1 x2 x3 x4 x5 F G w) : W p l e R s m args below meth c H locs 0 0 Z (F0 m 0 ls []) := by
  unfold wp_X8_sell_0 at hw
  have hx := C.1
  have hb := C.2.1
  refine lv_aload_n hx hb dX8_sell_0 rfl (lv_at hl 0 rfl) ?_
  refine lv_iconst (v := (0 : Int32)) hx hb dX8_sell_1 (by decide) ?_
  refine pM_8_89 C h dX8_sell_2 (fun F1 H locs eF1 h => ?_)
  have hw := hw F1 eF1
  refine lv_aload_n hx hb dX8_sell_5 rfl (lv_at hl 0 rfl) ?_
  refine lv_iload_n hx hb dX8_sell_6 rfl (lv_at hl 1 rfl) ?_
  refine kMiV C h (c_X8_isHorse x1 F1 G w hw) lk_8_208 (rvM_0 K a F1 G w) rfl hl.1 rfl (Nat.le_of_ble_eq_true rfl) ⟨Nat.le_trans (Nat.le_of_ble_eq_true rfl) hR.1, Nat.le_trans (Nat.le_of_ble_eq_true rfl) hR.2⟩ ⟨Nat.zero_le _, Nat.zero_le _⟩ dX8_sell_7 (fun r5 F2 G3 w4 H locs hw h => ?_)
  have hw := hw.2
  refine lv_if_eq (tgt := 31) hx hb dX8_sell_10 (by decide) (fun c => ?_) (fun c => ?_)
  · have hw := hw.1 c
    refine lv_bipush (v := (-2 : Int32)) hx hb dX8_sell_31 (by decide) ?_
    exact hq _ F2 G3 w4 _ _ _ _ dX8_sell_33 h hw
  · have hw := hw.2 c
    refine lv_aload_n hx hb dX8_sell_13 rfl (lv_at hl 0 rfl) ?_
    refine lv_iload_n hx hb dX8_sell_14 rfl (lv_at hl 2 rfl) ?_
    refine kMiV C h (c_X8_isPerson x2 F2 G3 w4 hw) lk_8_183 (rvM_0 K a F2 G3 w4) rfl hl.1 rfl (Nat.le_of_ble_eq_true rfl) ⟨Nat.le_trans (Nat.le_of_ble_eq_true rfl) hR.1, Nat.le_trans (Nat.le_of_ble_eq_true rfl) hR.2⟩ ⟨Nat.zero_le _, Nat.zero_le _⟩ dX8_sell_15 (fun r9 F6 G7 w8 H locs hw h => ?_)
    have hw := hw.2
    refine lv_if_eq (tgt := 31) hx hb dX8_sell_18 (by decide) (fun c => ?_) (fun c => ?_)
    · have hw := hw.1 c
      refine lv_bipush (v := (-2 : Int32)) hx hb dX8_sell_31 (by decide) ?_
      exact hq _ F6 G7 w8 _ _ _ _ dX8_sell_33 h hw
    · have hw := hw.2 c
      refine lv_aload_n hx hb dX8_sell_21 rfl (lv_at hl 0 rfl) ?_
      refine gM_8_34 C h dX8_sell_22 ?_
      refine lv_iload_n hx hb dX8_sell_25 rfl (lv_at hl 1 rfl) ?_
      have hi := hw.1
      have hw := hw.2
      refine laM_16 C h hi dX8_sell_26 ?_
      refine lv_iload_n hx hb dX8_sell_27 rfl (lv_at hl 2 rfl) ?_
      refine lv_icmp_ne (tgt := 34) hx hb dX8_sell_28 (by decide) (fun c => ?_) (fun c => ?_)
      · have hw := hw.1 c
        refine lv_iload hx hb dX8_sell_34 (lv_at hl 5 rfl) ?_
        refine lv_if_lt (tgt := 67) hx hb dX8_sell_36 (by decide) (fun c => ?_) (fun c => ?_)
        · have hw := hw.1 c
          refine lv_bipush (v := (-3 : Int32)) hx hb dX8_sell_67 (by decide) ?_
          exact hq _ F6 G7 w8 _ _ _ _ dX8_sell_69 h hw
        · have hw := hw.2 c
          refine lv_iload hx hb dX8_sell_39 (lv_at hl 5 rfl) ?_
          refine lv_iconst (v := (3 : Int32)) hx hb dX8_sell_41 (by decide) ?_
          refine lv_icmp_ge (tgt := 67) hx hb dX8_sell_42 (by decide) (fun c => ?_) (fun c => ?_)
          · have hw := hw.1 c
            refine lv_bipush (v := (-3 : Int32)) hx hb dX8_sell_67 (by decide) ?_
            exact hq _ F6 G7 w8 _ _ _ _ dX8_sell_69 h hw
          · have hw := hw.2 c
            refine lv_iload_n hx hb dX8_sell_45 rfl (lv_at hl 3 rfl) ?_
            refine lv_if_lt (tgt := 67) hx hb dX8_sell_46 (by decide) (fun c => ?_) (fun c => ?_)
            · have hw := hw.1 c
              refine lv_bipush (v := (-3 : Int32)) hx hb dX8_sell_67 (by decide) ?_
              exact hq _ F6 G7 w8 _ _ _ _ dX8_sell_69 h hw
            · have hw := hw.2 c
              refine lv_iload_n hx hb dX8_sell_49 rfl (lv_at hl 3 rfl) ?_
              refine lv_ldc hx hb C.2.2.2.1 (C.2.2.2.2.1 _ kc_8_211) dX8_sell_50 ?_
              refine lv_icmp_gt (tgt := 67) hx hb dX8_sell_52 (by decide) (fun c => ?_) (fun c => ?_)
              · have hw := hw.1 c
                refine lv_bipush (v := (-3 : Int32)) hx hb dX8_sell_67 (by decide) ?_
                exact hq _ F6 G7 w8 _ _ _ _ dX8_sell_69 h hw
              · have hw := hw.2 c
                refine lv_iload hx hb dX8_sell_55 (lv_at hl 4 rfl) ?_
                refine lv_if_lt (tgt := 67) hx hb dX8_sell_57 (by decide) (fun c => ?_) (fun c => ?_)
                · have hw := hw.1 c
                  refine lv_bipush (v := (-3 : Int32)) hx hb dX8_sell_67 (by decide) ?_
                  exact hq _ F6 G7 w8 _ _ _ _ dX8_sell_69 h hw
                · have hw := hw.2 c
                  refine lv_iload hx hb dX8_sell_60 (lv_at hl 4 rfl) ?_
                  refine lv_bipush (v := (63 : Int32)) hx hb dX8_sell_62 (by decide) ?_
                  refine lv_icmp_le (tgt := 70) hx hb dX8_sell_64 (by decide) (fun c => ?_) (fun c => ?_)
                  · have hw := hw.1 c
                    refine lv_aload_n hx hb dX8_sell_70 rfl (lv_at hl 0 rfl) ?_
                    refine gM_8_19 C h dX8_sell_71 ?_
                    refine lv_iload_n hx hb dX8_sell_74 rfl (lv_at hl 2 rfl) ?_
                    have hi := hw.1
                    have hw := hw.2
                    refine laM_11 C h hi dX8_sell_75 ?_
                    refine lv_iload_n hx hb dX8_sell_76 rfl (lv_at hl 3 rfl) ?_
                    refine lv_icmp_ge (tgt := 83) hx hb dX8_sell_77 (by decide) (fun c => ?_) (fun c => ?_)
                    · have hw := hw.1 c
                      refine lv_aload_n hx hb dX8_sell_83 rfl (lv_at hl 0 rfl) ?_
                      refine gM_8_195 C h dX8_sell_84 ?_
                      refine lv_bipush (v := (80 : Int32)) hx hb dX8_sell_87 (by decide) ?_
                      refine lv_icmp_ne (tgt := 95) hx hb dX8_sell_89 (by decide) (fun c => ?_) (fun c => ?_)
                      · have hw := hw.1 c
                        refine lv_aload_n hx hb dX8_sell_95 rfl (lv_at hl 0 rfl) ?_
                        refine gM_8_195 C h dX8_sell_96 ?_
                        refine lv_istore (lv' := [(6, .int (F6 8)), (0, .ref (a 0)), (1, .int x1), (2, .int x2), (3, .int x3), (4, .int x4), (5, .int x5)]) hx hb dX8_sell_99 hl (by decide) rfl (fun ls hl => ?_)
                        refine lv_aload_n hx hb dX8_sell_101 rfl (lv_at hl 1 rfl) ?_
                        refine gM_8_61 C h dX8_sell_102 ?_
                        refine lv_iload hx hb dX8_sell_105 (lv_at hl 0 rfl) ?_
                        refine lv_iload_n hx hb dX8_sell_107 rfl (lv_at hl 2 rfl) ?_
                        have hi := hw.1
                        have hw := hw.2
                        refine saM_23 C h hi dX8_sell_108 (fun G10 H locs eG10 h => ?_)
                        have hw := hw G10 eG10
                        refine lv_aload_n hx hb dX8_sell_109 rfl (lv_at hl 1 rfl) ?_
                        refine gM_8_64 C h dX8_sell_110 ?_
                        refine lv_iload hx hb dX8_sell_113 (lv_at hl 0 rfl) ?_
                        refine lv_aload_n hx hb dX8_sell_115 rfl (lv_at hl 1 rfl) ?_
                        refine gM_8_34 C h dX8_sell_116 ?_
                        refine lv_iload_n hx hb dX8_sell_119 rfl (lv_at hl 2 rfl) ?_
                        have hi := hw.1
                        have hw := hw.2
                        refine laM_16 C h hi dX8_sell_120 ?_
                        have hi := hw.1
                        have hw := hw.2
                        refine saM_24 C h hi dX8_sell_121 (fun G11 H locs eG11 h => ?_)
                        have hw := hw G11 eG11
                        refine lv_aload_n hx hb dX8_sell_122 rfl (lv_at hl 1 rfl) ?_
                        refine gM_8_67 C h dX8_sell_123 ?_
                        refine lv_iload hx hb dX8_sell_126 (lv_at hl 0 rfl) ?_
                        refine lv_iload_n hx hb dX8_sell_128 rfl (lv_at hl 3 rfl) ?_
                        have hi := hw.1
                        have hw := hw.2
                        refine saM_25 C h hi dX8_sell_129 (fun G12 H locs eG12 h => ?_)
                        have hw := hw G12 eG12
                        refine lv_aload_n hx hb dX8_sell_130 rfl (lv_at hl 1 rfl) ?_
                        refine gM_8_70 C h dX8_sell_131 ?_
                        refine lv_iload hx hb dX8_sell_134 (lv_at hl 0 rfl) ?_
                        refine lv_iload_n hx hb dX8_sell_136 rfl (lv_at hl 4 rfl) ?_
                        have hi := hw.1
                        have hw := hw.2
                        refine saM_26 C h hi dX8_sell_137 (fun G13 H locs eG13 h => ?_)
                        have hw := hw G13 eG13
                        refine lv_aload_n hx hb dX8_sell_138 rfl (lv_at hl 1 rfl) ?_
                        refine gM_8_73 C h dX8_sell_139 ?_
                        refine lv_iload hx hb dX8_sell_142 (lv_at hl 0 rfl) ?_
                        refine lv_iload hx hb dX8_sell_144 (lv_at hl 5 rfl) ?_
                        have hi := hw.1
                        have hw := hw.2
                        refine saM_27 C h hi dX8_sell_146 (fun G14 H locs eG14 h => ?_)
                        have hw := hw G14 eG14
                        refine lv_aload_n hx hb dX8_sell_147 rfl (lv_at hl 1 rfl) ?_
                        refine gM_8_76 C h dX8_sell_148 ?_
                        refine lv_iload hx hb dX8_sell_151 (lv_at hl 0 rfl) ?_
                        refine lv_iload hx hb dX8_sell_153 (lv_at hl 6 rfl) ?_
                        have hi := hw.1
                        have hw := hw.2
                        refine saM_28 C h hi dX8_sell_155 (fun G15 H locs eG15 h => ?_)
                        have hw := hw G15 eG15
                        refine lv_aload_n hx hb dX8_sell_156 rfl (lv_at hl 1 rfl) ?_
                        refine gM_8_79 C h dX8_sell_157 ?_
                        refine lv_iload hx hb dX8_sell_160 (lv_at hl 0 rfl) ?_
                        refine lv_aload_n hx hb dX8_sell_162 rfl (lv_at hl 1 rfl) ?_
                        refine gM_8_201 C h dX8_sell_163 ?_
                        have hi := hw.1
                        have hw := hw.2
                        refine saM_29 C h hi dX8_sell_166 (fun G16 H locs eG16 h => ?_)
                        have hw := hw G16 eG16
                        refine lv_aload_n hx hb dX8_sell_167 rfl (lv_at hl 1 rfl) ?_
                        refine gM_8_86 C h dX8_sell_168 ?_
                        refine lv_iload hx hb dX8_sell_171 (lv_at hl 0 rfl) ?_
                        refine lv_aload_n hx hb dX8_sell_173 rfl (lv_at hl 1 rfl) ?_
                        refine gM_8_37 C h dX8_sell_174 ?_
                        refine lv_iload_n hx hb dX8_sell_177 rfl (lv_at hl 2 rfl) ?_
                        have hi := hw.1
                        have hw := hw.2
                        refine laM_17 C h hi dX8_sell_178 ?_
                        refine lv_aload_n hx hb dX8_sell_179 rfl (lv_at hl 1 rfl) ?_
                        refine gM_8_34 C h dX8_sell_180 ?_
                        refine lv_iload_n hx hb dX8_sell_183 rfl (lv_at hl 2 rfl) ?_
                        have hi := hw.1
                        have hw := hw.2
                        refine laM_16 C h hi dX8_sell_184 ?_
                        refine lv_icmp_ne (tgt := 192) hx hb dX8_sell_185 (by decide) (fun c => ?_) (fun c => ?_)
                        · have hw := hw.1 c
                          refine lv_iconst (v := (0 : Int32)) hx hb dX8_sell_192 (by decide) ?_
                          exact wk_X8_sell_193 hR C hq x1 x2 x3 x5 (F6 8) (0 : Int32) (F6 8) F6 G16 w8 h (lv_sub hl [1, 2, 3, 4, 6, 0] rfl) hw
                        · have hw := hw.2 c
                          refine lv_iconst (v := (1 : Int32)) hx hb dX8_sell_188 (by decide) ?_
                          refine lv_goto (tgt := 193) hx hb dX8_sell_189 (by decide) ?_
                          exact wk_X8_sell_193 hR C hq x1 x2 x3 x5 (F6 8) (1 : Int32) (F6 8) F6 G16 w8 h (lv_sub hl [1, 2, 3, 4, 6, 0] rfl) hw
                      · have hw := hw.2 c
                        refine lv_bipush (v := (-5 : Int32)) hx hb dX8_sell_92 (by decide) ?_
                        exact hq _ F6 G7 w8 _ _ _ _ dX8_sell_94 h hw
                    · have hw := hw.2 c
                      refine lv_bipush (v := (-4 : Int32)) hx hb dX8_sell_80 (by decide) ?_
                      exact hq _ F6 G7 w8 _ _ _ _ dX8_sell_82 h hw
                  · have hw := hw.2 c
                    refine lv_bipush (v := (-3 : Int32)) hx hb dX8_sell_67 (by decide) ?_
                    exact hq _ F6 G7 w8 _ _ _ _ dX8_sell_69 h hw
      · have hw := hw.2 c
        refine lv_bipush (v := (-2 : Int32)) hx hb dX8_sell_31 (by decide) ?_
        exact hq _ F6 G7 w8 _ _ _ _ dX8_sell_33 h hw
theorem c_X8_sell {l : Launch} {K : KT} {a : Nat → Nat} (x1 : Int32) (x2 : Int32) (x3 : Int32) (x4 : Int32) (x5 : Int32) (F : FT) (G : GT) (w : Int64) {Q : Int32 → FT → GT → Int64 → Prop} (hw : wp_X8_sell x1 x2 x3 x4 x5 F G w Q) : CtMi l K a yX8_sell cX8_sell 8 (some .int) 1 25 [.ref (a 0), .int x1, .int x2, .int x3, .int x4, .int x5] F G w Q := fun sz => x_met (Qm := QmMi K a Q) (by decide) (Nat.le_of_ble_eq_true rfl) (fun p e s m below meth c A ls C hr h hl => wk_X8_sell_0 ⟨Nat.le_refl _, Nat.le_refl _⟩ C (retM_z C hr (fun r F G w _ => rfl)) x1 x2 x3 x4 x5 F G w h hl hw)
