def wp_X8_next_29 (Q : Int32 → FT → GT → Int64 → Prop) : Nat → Int32 → FT → GT → Int64 → Prop
  | 0, _, _, _, _ => False
  | n + 1, x1, F, G, w => (((F 6) ≤ x1) → Q (F 0) F G w) ∧ ((¬ (F 6) ≤ x1) → vp_in x1 40 ∧ vp_in x1 40 ∧ ((¬ (G 16 x1.toNatClampNeg) = (G 17 x1.toNatClampNeg)) → wp_X8_latest x1 F G w (fun r4 F1 G2 w3 => ((r4 = (-1 : Int32)) → ∀ v5 : Int32, v5 = (x1 + 1) → wp_X8_next_29 Q n v5 F1 G2 w3) ∧ ((¬ r4 = (-1 : Int32)) → vp_in r4 80 ∧ vp_in x1 40 ∧ (((G2 25 r4.toNatClampNeg) = (G2 16 x1.toNatClampNeg)) → vp_in r4 80 ∧ ∀ v6 : Int32, v6 = (((14 : Int32) * (G2 28 r4.toNatClampNeg)) + (1 : Int32)) → vp_in v6 56 ∧ (((G2 51 v6.toNatClampNeg) = 0) → ∀ v7 : Int32, v7 = (x1 + 1) → wp_X8_next_29 Q n v7 F1 G2 w3) ∧ ((¬ (G2 51 v6.toNatClampNeg) = 0) → vp_in r4 80 ∧ (((G2 51 v6.toNatClampNeg) ≤ ((F1 0) - (G2 29 r4.toNatClampNeg))) → vp_in x1 40 ∧ vp_in x1 40 ∧ ∀ G8 : GT, G8 = gU G2 17 (upd (G2 17) x1.toNatClampNeg (G2 16 x1.toNatClampNeg)) → vp_in r4 80 ∧ ∀ G9 : GT, G9 = gU G8 31 (upd (G8 31) r4.toNatClampNeg (vp_nar .boolean (1 : Int32))) → ∀ v10 : Int32, v10 = (x1 + 1) → wp_X8_next_29 Q n v10 F1 G9 w3) ∧ ((¬ (G2 51 v6.toNatClampNeg) ≤ ((F1 0) - (G2 29 r4.toNatClampNeg))) → ∀ v11 : Int32, v11 = (x1 + 1) → wp_X8_next_29 Q n v11 F1 G2 w3))) ∧ ((¬ (G2 25 r4.toNatClampNeg) = (G2 16 x1.toNatClampNeg)) → ∀ v12 : Int32, v12 = (x1 + 1) → wp_X8_next_29 Q n v12 F1 G2 w3)))) ∧ (((G 16 x1.toNatClampNeg) = (G 17 x1.toNatClampNeg)) → ∀ v13 : Int32, v13 = (x1 + 1) → wp_X8_next_29 Q n v13 F G w))
def wp_X8_next_0 (Q : Int32 → FT → GT → Int64 → Prop) (F : FT) (G : GT) (w : Int64) : Prop := ∀ F1 : FT, F1 = sU F 20 (0 : Int32) → ((¬ (F1 0) = (999 : Int32)) → ∀ F2 : FT, F2 = sU F1 0 ((F1 0) + (1 : Int32)) → ∃ n : Nat, wp_X8_next_29 Q n (0 : Int32) F2 G w) ∧ (((F1 0) = (999 : Int32)) → Q (-1 : Int32) F1 G w)
def wp_X8_next (F : FT) (G : GT) (w : Int64) (Q : Int32 → FT → GT → Int64 → Prop) : Prop := wp_X8_next_0 Q F G w
set_option maxHeartbeats 4000000 in
set_option maxRecDepth 100000 in
theorem wk_X8_next_29 {p : Program} {l : Launch} {e : Env} {R : Room} {s : State} {m : MethodId} {args : Array Value} {below : List Frame} {meth : Method} {c : Code} {K : KT} {A : Nat → Prop} {Z : State → Prop} {a : Nat → Nat} (hR : 1 ≤ R.frames ∧ 22 ≤ R.locals) (C : CX p s m args meth c K A cX8_next 4 RX8) {Q : Int32 → FT → GT → Int64 → Prop} (hq : RetMi p l e R s m args below meth c K A Z a cX8_next Q) : ∀ (n : Nat) (x1 : Int32) (F : FT) (G : GT) (w : Int64) {H : Heap} {locs : List Loc} (h : WD K A s (wM K a F G w) H locs) {ls : Array Slot} (hl : lv_has ls 4 [(0, .ref (a 0)), (1, .int x1)]) (hw : wp_X8_next_29 Q n x1 F G w), W p l e R s m args below meth c H locs 0 0 Z (F0 m 29 ls []) := by
  intro n
  induction n with
  | zero => intro x1 F G w H locs h ls hl hw; exact False.elim hw
  | succ n ih =>
    intro x1 F G w H locs h ls hl hw
    rw [wp_X8_next_29] at hw
    have hx := C.1
    have hb := C.2.1
    refine lv_iload_n hx hb dX8_next_29 rfl (lv_at hl 1 rfl) ?_
    refine lv_aload_n hx hb dX8_next_30 rfl (lv_at hl 0 rfl) ?_
    refine gM_8_192 C h dX8_next_31 ?_
    refine lv_icmp_ge (tgt := 148) hx hb dX8_next_34 (by decide) (fun c => ?_) (fun c => ?_)
    · have hw := hw.1 c
      refine lv_aload_n hx hb dX8_next_148 rfl (lv_at hl 0 rfl) ?_
      refine gM_8_201 C h dX8_next_149 ?_
      exact hq _ F G w _ _ _ _ dX8_next_152 h hw
    · have hw := hw.2 c
      refine lv_aload_n hx hb dX8_next_37 rfl (lv_at hl 0 rfl) ?_
      refine gM_8_34 C h dX8_next_38 ?_
      refine lv_iload_n hx hb dX8_next_41 rfl (lv_at hl 1 rfl) ?_
      have hi := hw.1
      have hw := hw.2
      refine laM_16 C h hi dX8_next_42 ?_
      refine lv_aload_n hx hb dX8_next_43 rfl (lv_at hl 0 rfl) ?_
      refine gM_8_37 C h dX8_next_44 ?_
      refine lv_iload_n hx hb dX8_next_47 rfl (lv_at hl 1 rfl) ?_
      have hi := hw.1
      have hw := hw.2
      refine laM_17 C h hi dX8_next_48 ?_
      refine lv_icmp_ne (tgt := 55) hx hb dX8_next_49 (by decide) (fun c => ?_) (fun c => ?_)
      · have hw := hw.1 c
        refine lv_aload_n hx hb dX8_next_55 rfl (lv_at hl 0 rfl) ?_
        refine lv_iload_n hx hb dX8_next_56 rfl (lv_at hl 1 rfl) ?_
        refine kMiV C h (c_X8_latest x1 F G w hw) lk_8_214 (rvM_0 K a F G w) rfl hl.1 rfl (Nat.le_of_ble_eq_true rfl) ⟨Nat.le_trans (Nat.le_of_ble_eq_true rfl) hR.1, Nat.le_trans (Nat.le_of_ble_eq_true rfl) hR.2⟩ ⟨Nat.zero_le _, Nat.zero_le _⟩ dX8_next_57 (fun r4 F1 G2 w3 H locs hw h => ?_)
        refine lv_istore_n (lv' := [(2, .int r4), (0, .ref (a 0)), (1, .int x1)]) hx hb dX8_next_60 rfl hl (by decide) rfl (fun ls hl => ?_)
        refine lv_iload_n hx hb dX8_next_61 rfl (lv_at hl 0 rfl) ?_
        refine lv_iconst (v := (-1 : Int32)) hx hb dX8_next_62 (by decide) ?_
        refine lv_icmp_eq (tgt := 142) hx hb dX8_next_63 (by decide) (fun c => ?_) (fun c => ?_)
        · have hw := hw.1 c
          obtain ⟨v5, ev5⟩ : ∃ z : Int32, z = (x1 + 1) := ⟨_, rfl⟩
          have hw := hw v5 ev5
          refine lv_iinc (v := v5) (lv' := [(1, .int v5), (2, .int r4), (0, .ref (a 0))]) hx hb dX8_next_142 hl (k := 2) rfl (by rw [ev5]; rfl) (by decide) rfl (fun ls hl => ?_)
          refine lv_goto (tgt := 29) hx hb dX8_next_145 (by decide) ?_
          exact ih v5 F1 G2 w3 h (lv_sub hl [2, 0] rfl) hw
        · have hw := hw.2 c
          refine lv_aload_n hx hb dX8_next_66 rfl (lv_at hl 1 rfl) ?_
          refine gM_8_67 C h dX8_next_67 ?_
          refine lv_iload_n hx hb dX8_next_70 rfl (lv_at hl 0 rfl) ?_
          have hi := hw.1
          have hw := hw.2
          refine laM_25 C h hi dX8_next_71 ?_
          refine lv_aload_n hx hb dX8_next_72 rfl (lv_at hl 1 rfl) ?_
          refine gM_8_34 C h dX8_next_73 ?_
          refine lv_iload_n hx hb dX8_next_76 rfl (lv_at hl 2 rfl) ?_
          have hi := hw.1
          have hw := hw.2
          refine laM_16 C h hi dX8_next_77 ?_
          refine lv_icmp_eq (tgt := 84) hx hb dX8_next_78 (by decide) (fun c => ?_) (fun c => ?_)
          · have hw := hw.1 c
            refine lv_aload_n hx hb dX8_next_84 rfl (lv_at hl 1 rfl) ?_
            refine gM_8_13 C h dX8_next_85 ?_
            refine lv_bipush (v := (14 : Int32)) hx hb dX8_next_88 (by decide) ?_
            refine lv_aload_n hx hb dX8_next_90 rfl (lv_at hl 1 rfl) ?_
            refine gM_8_76 C h dX8_next_91 ?_
            refine lv_iload_n hx hb dX8_next_94 rfl (lv_at hl 0 rfl) ?_
            have hi := hw.1
            have hw := hw.2
            refine laM_28 C h hi dX8_next_95 ?_
            refine lv_imul hx hb dX8_next_96 ?_
            refine lv_iconst (v := (1 : Int32)) hx hb dX8_next_97 (by decide) ?_
            refine lv_iadd hx hb dX8_next_98 ?_
            refine lv_topi (fun v6 ev6 => ?_)
            have hw := hw v6 ev6
            have hi := hw.1
            have hw := hw.2
            refine laM_51 C h hi dX8_next_99 ?_
            refine lv_istore_n (lv' := [(3, .int (G2 51 v6.toNatClampNeg)), (2, .int r4), (0, .ref (a 0)), (1, .int x1)]) hx hb dX8_next_100 rfl hl (by decide) rfl (fun ls hl => ?_)
            refine lv_iload_n hx hb dX8_next_101 rfl (lv_at hl 0 rfl) ?_
            refine lv_if_eq (tgt := 142) hx hb dX8_next_102 (by decide) (fun c => ?_) (fun c => ?_)
            · have hw := hw.1 c
              obtain ⟨v7, ev7⟩ : ∃ z : Int32, z = (x1 + 1) := ⟨_, rfl⟩
              have hw := hw v7 ev7
              refine lv_iinc (v := v7) (lv' := [(1, .int v7), (3, .int (G2 51 v6.toNatClampNeg)), (2, .int r4), (0, .ref (a 0))]) hx hb dX8_next_142 hl (k := 3) rfl (by rw [ev7]; rfl) (by decide) rfl (fun ls hl => ?_)
              refine lv_goto (tgt := 29) hx hb dX8_next_145 (by decide) ?_
              exact ih v7 F1 G2 w3 h (lv_sub hl [3, 0] rfl) hw
            · have hw := hw.2 c
              refine lv_aload_n hx hb dX8_next_105 rfl (lv_at hl 2 rfl) ?_
              refine gM_8_201 C h dX8_next_106 ?_
              refine lv_aload_n hx hb dX8_next_109 rfl (lv_at hl 2 rfl) ?_
              refine gM_8_79 C h dX8_next_110 ?_
              refine lv_iload_n hx hb dX8_next_113 rfl (lv_at hl 1 rfl) ?_
              have hi := hw.1
              have hw := hw.2
              refine laM_29 C h hi dX8_next_114 ?_
              refine lv_isub hx hb dX8_next_115 ?_
              refine lv_iload_n hx hb dX8_next_116 rfl (lv_at hl 0 rfl) ?_
              refine lv_icmp_ge (tgt := 123) hx hb dX8_next_117 (by decide) (fun c => ?_) (fun c => ?_)
              · have hw := hw.1 c
                refine lv_aload_n hx hb dX8_next_123 rfl (lv_at hl 2 rfl) ?_
                refine gM_8_37 C h dX8_next_124 ?_
                refine lv_iload_n hx hb dX8_next_127 rfl (lv_at hl 3 rfl) ?_
                refine lv_aload_n hx hb dX8_next_128 rfl (lv_at hl 2 rfl) ?_
                refine gM_8_34 C h dX8_next_129 ?_
                refine lv_iload_n hx hb dX8_next_132 rfl (lv_at hl 3 rfl) ?_
                have hi := hw.1
                have hw := hw.2
                refine laM_16 C h hi dX8_next_133 ?_
                have hi := hw.1
                have hw := hw.2
                refine saM_17 C h hi dX8_next_134 (fun G8 H locs eG8 h => ?_)
                have hw := hw G8 eG8
                refine lv_aload_n hx hb dX8_next_135 rfl (lv_at hl 2 rfl) ?_
                refine gM_8_86 C h dX8_next_136 ?_
                refine lv_iload_n hx hb dX8_next_139 rfl (lv_at hl 1 rfl) ?_
                refine lv_iconst (v := (1 : Int32)) hx hb dX8_next_140 (by decide) ?_
                have hi := hw.1
                have hw := hw.2
                refine saM_31 C h hi dX8_next_141 (fun G9 H locs eG9 h => ?_)
                have hw := hw G9 eG9
                obtain ⟨v10, ev10⟩ : ∃ z : Int32, z = (x1 + 1) := ⟨_, rfl⟩
                have hw := hw v10 ev10
                refine lv_iinc (v := v10) (lv' := [(1, .int v10), (3, .int (G2 51 v6.toNatClampNeg)), (2, .int r4), (0, .ref (a 0))]) hx hb dX8_next_142 hl (k := 3) rfl (by rw [ev10]; rfl) (by decide) rfl (fun ls hl => ?_)
                refine lv_goto (tgt := 29) hx hb dX8_next_145 (by decide) ?_
                exact ih v10 F1 G9 w3 h (lv_sub hl [3, 0] rfl) hw
              · have hw := hw.2 c
                refine lv_goto (tgt := 142) hx hb dX8_next_120 (by decide) ?_
                obtain ⟨v11, ev11⟩ : ∃ z : Int32, z = (x1 + 1) := ⟨_, rfl⟩
                have hw := hw v11 ev11
                refine lv_iinc (v := v11) (lv' := [(1, .int v11), (3, .int (G2 51 v6.toNatClampNeg)), (2, .int r4), (0, .ref (a 0))]) hx hb dX8_next_142 hl (k := 3) rfl (by rw [ev11]; rfl) (by decide) rfl (fun ls hl => ?_)
                refine lv_goto (tgt := 29) hx hb dX8_next_145 (by decide) ?_
                exact ih v11 F1 G2 w3 h (lv_sub hl [3, 0] rfl) hw
          · have hw := hw.2 c
            refine lv_goto (tgt := 142) hx hb dX8_next_81 (by decide) ?_
            obtain ⟨v12, ev12⟩ : ∃ z : Int32, z = (x1 + 1) := ⟨_, rfl⟩
            have hw := hw v12 ev12
            refine lv_iinc (v := v12) (lv' := [(1, .int v12), (2, .int r4), (0, .ref (a 0))]) hx hb dX8_next_142 hl (k := 2) rfl (by rw [ev12]; rfl) (by decide) rfl (fun ls hl => ?_)
            refine lv_goto (tgt := 29) hx hb dX8_next_145 (by decide) ?_
            exact ih v12 F1 G2 w3 h (lv_sub hl [2, 0] rfl) hw
      · have hw := hw.2 c
        refine lv_goto (tgt := 142) hx hb dX8_next_52 (by decide) ?_
        obtain ⟨v13, ev13⟩ : ∃ z : Int32, z = (x1 + 1) := ⟨_, rfl⟩
        have hw := hw v13 ev13
        refine lv_iinc (v := v13) (lv' := [(1, .int v13), (0, .ref (a 0))]) hx hb dX8_next_142 hl (k := 1) rfl (by rw [ev13]; rfl) (by decide) rfl (fun ls hl => ?_)
        refine lv_goto (tgt := 29) hx hb dX8_next_145 (by decide) ?_
        exact ih v13 F G w h (lv_sub hl [1, 0] rfl) hw
set_option maxHeartbeats 4000000 in
set_option maxRecDepth 100000 in
theorem wk_X8_next_0 {p : Program} {l : Launch} {e : Env} {R : Room} {s : State} {m : MethodId} {args : Array Value} {below : List Frame} {meth : Method} {c : Code} {K : KT} {A : Nat → Prop} {Z : State → Prop} {a : Nat → Nat} (hR : 1 ≤ R.frames ∧ 22 ≤ R.locals) (C : CX p s m args meth c K A cX8_next 4 RX8) {Q : Int32 → FT → GT → Int64 → Prop} (hq : RetMi p l e R s m args below meth c K A Z a cX8_next Q) (F : FT) (G : GT) (w : Int64) {H : Heap} {locs : List Loc} (h : WD K A s (wM K a F G w) H locs) {ls : Array Slot} (hl : lv_has ls 4 [(0, .ref (a 0))]) (hw : wp_X8_next_0 Q F G w) : W p l e R s m args below meth c H locs 0 0 Z (F0 m 0 ls []) := by
  unfold wp_X8_next_0 at hw
  have hx := C.1
  have hb := C.2.1
  refine lv_aload_n hx hb dX8_next_0 rfl (lv_at hl 0 rfl) ?_
  refine lv_iconst (v := (0 : Int32)) hx hb dX8_next_1 (by decide) ?_
  refine pM_8_89 C h dX8_next_2 (fun F1 H locs eF1 h => ?_)
  have hw := hw F1 eF1
  refine lv_aload_n hx hb dX8_next_5 rfl (lv_at hl 0 rfl) ?_
  refine gM_8_201 C h dX8_next_6 ?_
  refine lv_sipush (v := (999 : Int32)) hx hb dX8_next_9 (by decide) ?_
  refine lv_icmp_ne (tgt := 17) hx hb dX8_next_12 (by decide) (fun c => ?_) (fun c => ?_)
  · have hw := hw.1 c
    refine lv_aload_n hx hb dX8_next_17 rfl (lv_at hl 0 rfl) ?_
    refine lv_dup hx hb dX8_next_18 rfl ?_
    refine gM_8_201 C h dX8_next_19 ?_
    refine lv_iconst (v := (1 : Int32)) hx hb dX8_next_22 (by decide) ?_
    refine lv_iadd hx hb dX8_next_23 ?_
    refine pM_8_201 C h dX8_next_24 (fun F2 H locs eF2 h => ?_)
    have hw := hw F2 eF2
    refine lv_iconst (v := (0 : Int32)) hx hb dX8_next_27 (by decide) ?_
    refine lv_istore_n (lv' := [(1, .int (0 : Int32)), (0, .ref (a 0))]) hx hb dX8_next_28 rfl hl (by decide) rfl (fun ls hl => ?_)
    obtain ⟨n, hw⟩ := hw
    exact wk_X8_next_29 hR C hq n (0 : Int32) F2 G w h (lv_sub hl [1, 0] rfl) hw
  · have hw := hw.2 c
    refine lv_iconst (v := (-1 : Int32)) hx hb dX8_next_15 (by decide) ?_
    exact hq _ F1 G w _ _ _ _ dX8_next_16 h hw
theorem c_X8_next {l : Launch} {K : KT} {a : Nat → Nat} (F : FT) (G : GT) (w : Int64) {Q : Int32 → FT → GT → Int64 → Prop} (hw : wp_X8_next F G w Q) : CtMi l K a yX8_next cX8_next 4 (some .int) 1 22 [.ref (a 0)] F G w Q := fun sz => x_met (Qm := QmMi K a Q) (by decide) (Nat.le_of_ble_eq_true rfl) (fun p e s m below meth c A ls C hr h hl => wk_X8_next_0 ⟨Nat.le_refl _, Nat.le_refl _⟩ C (retM_z C hr (fun r F G w _ => rfl)) F G w h hl hw)
def wp_X8_handsOf_4 (Q : Int32 → FT → GT → Int64 → Prop) : Nat → Int32 → Int32 → Int32 → FT → GT → Int64 → Prop
  | 0, _, _, _, _, _, _ => False
  | n + 1, x1, x2, x3, F, G, w => (((F 7) ≤ x3) → Q x2 F G w) ∧ ((¬ (F 7) ≤ x3) → vp_in x3 400 ∧ ((¬ (G 19 x3.toNatClampNeg) = x1) → ∀ v1 : Int32, v1 = (x3 + 1) → wp_X8_handsOf_4 Q n x1 x2 v1 F G w) ∧ (((G 19 x3.toNatClampNeg) = x1) → ∀ v2 : Int32, v2 = (x2 + 1) → ∀ v3 : Int32, v3 = (x3 + 1) → wp_X8_handsOf_4 Q n x1 v2 v3 F G w))
def wp_X8_handsOf_0 (Q : Int32 → FT → GT → Int64 → Prop) (x1 : Int32) (F : FT) (G : GT) (w : Int64) : Prop := ∃ n : Nat, wp_X8_handsOf_4 Q n x1 (0 : Int32) (0 : Int32) F G w
def wp_X8_handsOf (x1 : Int32) (F : FT) (G : GT) (w : Int64) (Q : Int32 → FT → GT → Int64 → Prop) : Prop := wp_X8_handsOf_0 Q x1 F G w
set_option maxHeartbeats 4000000 in
set_option maxRecDepth 100000 in
theorem wk_X8_handsOf_4 {p : Program} {l : Launch} {e : Env} {R : Room} {s : State} {m : MethodId} {args : Array Value} {below : List Frame} {meth : Method} {c : Code} {K : KT} {A : Nat → Prop} {Z : State → Prop} {a : Nat → Nat} (hR : 0 ≤ R.frames ∧ 0 ≤ R.locals) (C : CX p s m args meth c K A cX8_handsOf 4 RX8) {Q : Int32 → FT → GT → Int64 → Prop} (hq : RetMi p l e R s m args below meth c K A Z a cX8_handsOf Q) : ∀ (n : Nat) (x1 : Int32) (x2 : Int32) (x3 : Int32) (F : FT) (G : GT) (w : Int64) {H : Heap} {locs : List Loc} (h : WD K A s (wM K a F G w) H locs) {ls : Array Slot} (hl : lv_has ls 4 [(0, .ref (a 0)), (1, .int x1), (2, .int x2), (3, .int x3)]) (hw : wp_X8_handsOf_4 Q n x1 x2 x3 F G w), W p l e R s m args below meth c H locs 0 0 Z (F0 m 4 ls []) := by
  intro n
  induction n with
  | zero => intro x1 x2 x3 F G w H locs h ls hl hw; exact False.elim hw
  | succ n ih =>
    intro x1 x2 x3 F G w H locs h ls hl hw
    rw [wp_X8_handsOf_4] at hw
    have hx := C.1
    have hb := C.2.1
    refine lv_iload_n hx hb dX8_handsOf_4 rfl (lv_at hl 3 rfl) ?_
    refine lv_aload_n hx hb dX8_handsOf_5 rfl (lv_at hl 0 rfl) ?_
    refine gM_8_198 C h dX8_handsOf_6 ?_
    refine lv_icmp_ge (tgt := 31) hx hb dX8_handsOf_9 (by decide) (fun c => ?_) (fun c => ?_)
    · have hw := hw.1 c
      refine lv_iload_n hx hb dX8_handsOf_31 rfl (lv_at hl 2 rfl) ?_
      exact hq _ F G w _ _ _ _ dX8_handsOf_32 h hw
    · have hw := hw.2 c
      refine lv_aload_n hx hb dX8_handsOf_12 rfl (lv_at hl 0 rfl) ?_
      refine gM_8_49 C h dX8_handsOf_13 ?_
      refine lv_iload_n hx hb dX8_handsOf_16 rfl (lv_at hl 3 rfl) ?_
      have hi := hw.1
      have hw := hw.2
      refine laM_19 C h hi dX8_handsOf_17 ?_
      refine lv_iload_n hx hb dX8_handsOf_18 rfl (lv_at hl 1 rfl) ?_
      refine lv_icmp_ne (tgt := 25) hx hb dX8_handsOf_19 (by decide) (fun c => ?_) (fun c => ?_)
      · have hw := hw.1 c
        obtain ⟨v1, ev1⟩ : ∃ z : Int32, z = (x3 + 1) := ⟨_, rfl⟩
        have hw := hw v1 ev1
        refine lv_iinc (v := v1) (lv' := [(3, .int v1), (0, .ref (a 0)), (1, .int x1), (2, .int x2)]) hx hb dX8_handsOf_25 hl (k := 3) rfl (by rw [ev1]; rfl) (by decide) rfl (fun ls hl => ?_)
        refine lv_goto (tgt := 4) hx hb dX8_handsOf_28 (by decide) ?_
        exact ih x1 x2 v1 F G w h (lv_sub hl [1, 2, 3, 0] rfl) hw
      · have hw := hw.2 c
        obtain ⟨v2, ev2⟩ : ∃ z : Int32, z = (x2 + 1) := ⟨_, rfl⟩
        have hw := hw v2 ev2
        refine lv_iinc (v := v2) (lv' := [(2, .int v2), (0, .ref (a 0)), (1, .int x1), (3, .int x3)]) hx hb dX8_handsOf_22 hl (k := 2) rfl (by rw [ev2]; rfl) (by decide) rfl (fun ls hl => ?_)
        obtain ⟨v3, ev3⟩ : ∃ z : Int32, z = (x3 + 1) := ⟨_, rfl⟩
        have hw := hw v3 ev3
        refine lv_iinc (v := v3) (lv' := [(3, .int v3), (2, .int v2), (0, .ref (a 0)), (1, .int x1)]) hx hb dX8_handsOf_25 hl (k := 3) rfl (by rw [ev3]; rfl) (by decide) rfl (fun ls hl => ?_)
        refine lv_goto (tgt := 4) hx hb dX8_handsOf_28 (by decide) ?_
        exact ih x1 v2 v3 F G w h (lv_sub hl [2, 3, 1, 0] rfl) hw
set_option maxHeartbeats 4000000 in
set_option maxRecDepth 100000 in
theorem wk_X8_handsOf_0 {p : Program} {l : Launch} {e : Env} {R : Room} {s : State} {m : MethodId} {args : Array Value} {below : List Frame} {meth : Method} {c : Code} {K : KT} {A : Nat → Prop} {Z : State → Prop} {a : Nat → Nat} (hR : 0 ≤ R.frames ∧ 0 ≤ R.locals) (C : CX p s m args meth c K A cX8_handsOf 4 RX8) {Q : Int32 → FT → GT → Int64 → Prop} (hq : RetMi p l e R s m args below meth c K A Z a cX8_handsOf Q) (x1 : Int32) (F : FT) (G : GT) (w : Int64) {H : Heap} {locs : List Loc} (h : WD K A s (wM K a F G w) H locs) {ls : Array Slot} (hl : lv_has ls 4 [(0, .ref (a 0)), (1, .int x1)]) (hw : wp_X8_handsOf_0 Q x1 F G w) : W p l e R s m args below meth c H locs 0 0 Z (F0 m 0 ls []) := by
  unfold wp_X8_handsOf_0 at hw
  have hx := C.1
  have hb := C.2.1
  refine lv_iconst (v := (0 : Int32)) hx hb dX8_handsOf_0 (by decide) ?_
  refine lv_istore_n (lv' := [(2, .int (0 : Int32)), (0, .ref (a 0)), (1, .int x1)]) hx hb dX8_handsOf_1 rfl hl (by decide) rfl (fun ls hl => ?_)
  refine lv_iconst (v := (0 : Int32)) hx hb dX8_handsOf_2 (by decide) ?_
  refine lv_istore_n (lv' := [(3, .int (0 : Int32)), (2, .int (0 : Int32)), (0, .ref (a 0)), (1, .int x1)]) hx hb dX8_handsOf_3 rfl hl (by decide) rfl (fun ls hl => ?_)
  obtain ⟨n, hw⟩ := hw
  exact wk_X8_handsOf_4 hR C hq n x1 (0 : Int32) (0 : Int32) F G w h (lv_sub hl [2, 3, 1, 0] rfl) hw
theorem c_X8_handsOf {l : Launch} {K : KT} {a : Nat → Nat} (x1 : Int32) (F : FT) (G : GT) (w : Int64) {Q : Int32 → FT → GT → Int64 → Prop} (hw : wp_X8_handsOf x1 F G w Q) : CtMi l K a yX8_handsOf cX8_handsOf 4 (some .int) 0 0 [.ref (a 0), .int x1] F G w Q := fun sz => x_met (Qm := QmMi K a Q) (by decide) (Nat.le_of_ble_eq_true rfl) (fun p e s m below meth c A ls C hr h hl => wk_X8_handsOf_0 ⟨Nat.le_refl _, Nat.le_refl _⟩ C (retM_z C hr (fun r F G w _ => rfl)) x1 F G w h hl hw)
def wp_X8_about_17 (Q : Int32 → FT → GT → Int64 → Prop) (F : FT) (G : GT) (w : Int64) : Prop := wp_X8_refuse F G w (fun r4 F1 G2 w3 => Q r4 F1 G2 w3)
def wp_X8_about_32 (Q : Int32 → FT → GT → Int64 → Prop) : Nat → Int32 → Int32 → Int32 → Int32 → FT → GT → Int64 → Prop
  | 0, _, _, _, _, _, _, _ => False
  | n + 1, x1, x2, x3, x4, F, G, w => (((6 : Int32) ≤ x4) → ((¬ x2 = 0) → ((¬ x2 = (1 : Int32)) → ((¬ x2 = (2 : Int32)) → ((¬ x2 = (3 : Int32)) → wp_X8_handsOf x1 F G w (fun r4 F1 G2 w3 => Q r4 F1 G2 w3)) ∧ ((x2 = (3 : Int32)) → Q x3 F G w)) ∧ ((x2 = (2 : Int32)) → wp_X8_latest x1 F G w (fun r8 F5 G6 w7 => Q r8 F5 G6 w7))) ∧ ((x2 = (1 : Int32)) → vp_in x1 40 ∧ Q (G 17 x1.toNatClampNeg) F G w)) ∧ ((x2 = 0) → vp_in x1 40 ∧ Q (G 16 x1.toNatClampNeg) F G w)) ∧ ((¬ (6 : Int32) ≤ x4) → vp_in (((6 : Int32) * x1) + x4) 240 ∧ (((G 52 (((6 : Int32) * x1) + x4).toNatClampNeg) = (-1 : Int32)) → ∀ v9 : Int32, v9 = (x4 + 1) → wp_X8_about_32 Q n x1 x2 x3 v9 F G w) ∧ ((¬ (G 52 (((6 : Int32) * x1) + x4).toNatClampNeg) = (-1 : Int32)) → ∀ v10 : Int32, v10 = (x4 + 1) → wp_X8_about_32 Q n x1 x2 (x3 ||| ((1 : Int32) <<< (x4 &&& 31))) v10 F G w))
def wp_X8_about_0 (Q : Int32 → FT → GT → Int64 → Prop) (x1 : Int32) (x2 : Int32) (F : FT) (G : GT) (w : Int64) : Prop := wp_X8_isHorse x1 F G w (fun r4 F1 G2 w3 => ((r4 = 0) → wp_X8_about_17 Q F1 G2 w3) ∧ ((¬ r4 = 0) → ((x2 < 0) → wp_X8_about_17 Q F1 G2 w3) ∧ ((¬ x2 < 0) → ((x2 ≤ (4 : Int32)) → ∀ F5 : FT, F5 = sU F1 20 (0 : Int32) → ∃ n : Nat, wp_X8_about_32 Q n x1 x2 (0 : Int32) (0 : Int32) F5 G2 w3) ∧ ((¬ x2 ≤ (4 : Int32)) → wp_X8_about_17 Q F1 G2 w3))))
def wp_X8_about (x1 : Int32) (x2 : Int32) (F : FT) (G : GT) (w : Int64) (Q : Int32 → FT → GT → Int64 → Prop) : Prop := wp_X8_about_0 Q x1 x2 F G w
set_option maxHeartbeats 4000000 in
set_option maxRecDepth 100000 in
theorem wk_X8_about_17 {p : Program} {l : Launch} {e : Env} {R : Room} {s : State} {m : MethodId} {args : Array Value} {below : List Frame} {meth : Method} {c : Code} {K : KT} {A : Nat → Prop} {Z : State → Prop} {a : Nat → Nat} (hR : 1 ≤ R.frames ∧ 23 ≤ R.locals) (C : CX p s m args meth c K A cX8_about 5 RX8) {Q : Int32 → FT → GT → Int64 → Prop} (hq : RetMi p l e R s m args below meth c K A Z a cX8_about Q) (F : FT) (G : GT) (w : Int64) {H : Heap} {locs : List Loc} (h : WD K A s (wM K a F G w) H locs) {ls : Array Slot} (hl : lv_has ls 5 [(0, .ref (a 0))]) (hw : wp_X8_about_17 Q F G w) : W p l e R s m args below meth c H locs 0 0 Z (F0 m 17 ls []) := by
  unfold wp_X8_about_17 at hw
  have hx := C.1
  have hb := C.2.1
  refine lv_aload_n hx hb dX8_about_17 rfl (lv_at hl 0 rfl) ?_
  refine kMiV C h (c_X8_refuse F G w hw) lk_8_167 (rvM_0 K a F G w) rfl hl.1 rfl (Nat.le_of_ble_eq_true rfl) ⟨Nat.le_trans (Nat.le_of_ble_eq_true rfl) hR.1, Nat.le_trans (Nat.le_of_ble_eq_true rfl) hR.2⟩ ⟨Nat.zero_le _, Nat.zero_le _⟩ dX8_about_18 (fun r4 F1 G2 w3 H locs hw h => ?_)
  exact hq _ F1 G2 w3 _ _ _ _ dX8_about_21 h hw
set_option maxHeartbeats 4000000 in
set_option maxRecDepth 100000 in
theorem wk_X8_about_32 {p : Program} {l : Launch} {e : Env} {R : Room} {s : State} {m : MethodId} {args : Array Value} {below : List Frame} {meth : Method} {c : Code} {K : KT} {A : Nat → Prop} {Z : State → Prop} {a : Nat → Nat} (hR : 1 ≤ R.frames ∧ 23 ≤ R.locals) (C : CX p s m args meth c K A cX8_about 5 RX8) {Q : Int32 → FT → GT → Int64 → Prop} (hq : RetMi p l e R s m args below meth c K A Z a cX8_about Q) : ∀ (n : Nat) (x1 : Int32) (x2 : Int32) (x3 : Int32) (x4 : Int32) (F : FT) (G : GT) (w : Int64) {H : Heap} {locs : List Loc} (h : WD K A s (wM K a F G w) H locs) {ls : Array Slot} (hl : lv_has ls 5 [(0, .ref (a 0)), (1, .int x1), (2, .int x2), (3, .int x3), (4, .int x4)]) (hw : wp_X8_about_32 Q n x1 x2 x3 x4 F G w), W p l e R s m args below meth c H locs 0 0 Z (F0 m 32 ls []) := by
  intro n
  induction n with
  | zero => intro x1 x2 x3 x4 F G w H locs h ls hl hw; exact False.elim hw
  | succ n ih =>
    intro x1 x2 x3 x4 F G w H locs h ls hl hw
    rw [wp_X8_about_32] at hw
    have hx := C.1
    have hb := C.2.1
    refine lv_iload hx hb dX8_about_32 (lv_at hl 4 rfl) ?_
    refine lv_bipush (v := (6 : Int32)) hx hb dX8_about_34 (by decide) ?_
    refine lv_icmp_ge (tgt := 68) hx hb dX8_about_36 (by decide) (fun c => ?_) (fun c => ?_)
    · have hw := hw.1 c
      refine lv_iload_n hx hb dX8_about_68 rfl (lv_at hl 2 rfl) ?_
      refine lv_if_ne (tgt := 81) hx hb dX8_about_69 (by decide) (fun c => ?_) (fun c => ?_)
      · have hw := hw.1 c
        refine lv_iload_n hx hb dX8_about_81 rfl (lv_at hl 2 rfl) ?_
        refine lv_iconst (v := (1 : Int32)) hx hb dX8_about_82 (by decide) ?_
        refine lv_icmp_ne (tgt := 95) hx hb dX8_about_83 (by decide) (fun c => ?_) (fun c => ?_)
        · have hw := hw.1 c
          refine lv_iload_n hx hb dX8_about_95 rfl (lv_at hl 2 rfl) ?_
          refine lv_iconst (v := (2 : Int32)) hx hb dX8_about_96 (by decide) ?_
          refine lv_icmp_ne (tgt := 108) hx hb dX8_about_97 (by decide) (fun c => ?_) (fun c => ?_)
          · have hw := hw.1 c
            refine lv_iload_n hx hb dX8_about_108 rfl (lv_at hl 2 rfl) ?_
            refine lv_iconst (v := (3 : Int32)) hx hb dX8_about_109 (by decide) ?_
            refine lv_icmp_ne (tgt := 117) hx hb dX8_about_110 (by decide) (fun c => ?_) (fun c => ?_)
            · have hw := hw.1 c
              refine lv_aload_n hx hb dX8_about_117 rfl (lv_at hl 0 rfl) ?_
              refine lv_iload_n hx hb dX8_about_118 rfl (lv_at hl 1 rfl) ?_
              refine kMiV C h (c_X8_handsOf x1 F G w hw) lk_8_228 (rvM_0 K a F G w) rfl hl.1 rfl (Nat.le_of_ble_eq_true rfl) ⟨Nat.le_trans (Nat.le_of_ble_eq_true rfl) hR.1, Nat.le_trans (Nat.le_of_ble_eq_true rfl) hR.2⟩ ⟨Nat.zero_le _, Nat.zero_le _⟩ dX8_about_119 (fun r4 F1 G2 w3 H locs hw h => ?_)
              exact hq _ F1 G2 w3 _ _ _ _ dX8_about_122 h hw
            · have hw := hw.2 c
              refine lv_iload_n hx hb dX8_about_113 rfl (lv_at hl 3 rfl) ?_
              refine lv_goto (tgt := 122) hx hb dX8_about_114 (by decide) ?_
              exact hq _ F G w _ _ _ _ dX8_about_122 h hw
          · have hw := hw.2 c
            refine lv_aload_n hx hb dX8_about_100 rfl (lv_at hl 0 rfl) ?_
            refine lv_iload_n hx hb dX8_about_101 rfl (lv_at hl 1 rfl) ?_
            refine kMiV C h (c_X8_latest x1 F G w hw) lk_8_214 (rvM_0 K a F G w) rfl hl.1 rfl (Nat.le_of_ble_eq_true rfl) ⟨Nat.le_trans (Nat.le_of_ble_eq_true rfl) hR.1, Nat.le_trans (Nat.le_of_ble_eq_true rfl) hR.2⟩ ⟨Nat.zero_le _, Nat.zero_le _⟩ dX8_about_102 (fun r8 F5 G6 w7 H locs hw h => ?_)
            refine lv_goto (tgt := 122) hx hb dX8_about_105 (by decide) ?_
            exact hq _ F5 G6 w7 _ _ _ _ dX8_about_122 h hw
        · have hw := hw.2 c
          refine lv_aload_n hx hb dX8_about_86 rfl (lv_at hl 0 rfl) ?_
          refine gM_8_37 C h dX8_about_87 ?_
          refine lv_iload_n hx hb dX8_about_90 rfl (lv_at hl 1 rfl) ?_
          have hi := hw.1
          have hw := hw.2
          refine laM_17 C h hi dX8_about_91 ?_
          refine lv_goto (tgt := 122) hx hb dX8_about_92 (by decide) ?_
          exact hq _ F G w _ _ _ _ dX8_about_122 h hw
      · have hw := hw.2 c
        refine lv_aload_n hx hb dX8_about_72 rfl (lv_at hl 0 rfl) ?_
        refine gM_8_34 C h dX8_about_73 ?_
        refine lv_iload_n hx hb dX8_about_76 rfl (lv_at hl 1 rfl) ?_
        have hi := hw.1
        have hw := hw.2
        refine laM_16 C h hi dX8_about_77 ?_
        refine lv_goto (tgt := 122) hx hb dX8_about_78 (by decide) ?_
        exact hq _ F G w _ _ _ _ dX8_about_122 h hw
    · have hw := hw.2 c
      refine lv_aload_n hx hb dX8_about_39 rfl (lv_at hl 0 rfl) ?_
      refine gM_8_43 C h dX8_about_40 ?_
      refine lv_bipush (v := (6 : Int32)) hx hb dX8_about_43 (by decide) ?_
      refine lv_iload_n hx hb dX8_about_45 rfl (lv_at hl 1 rfl) ?_
      refine lv_imul hx hb dX8_about_46 ?_
      refine lv_iload hx hb dX8_about_47 (lv_at hl 4 rfl) ?_
      refine lv_iadd hx hb dX8_about_49 ?_
      have hi := hw.1
      have hw := hw.2
      refine laM_52 C h hi dX8_about_50 ?_
      refine lv_iconst (v := (-1 : Int32)) hx hb dX8_about_51 (by decide) ?_
      refine lv_icmp_eq (tgt := 62) hx hb dX8_about_52 (by decide) (fun c => ?_) (fun c => ?_)
      · have hw := hw.1 c
        obtain ⟨v9, ev9⟩ : ∃ z : Int32, z = (x4 + 1) := ⟨_, rfl⟩
        have hw := hw v9 ev9
        refine lv_iinc (v := v9) (lv' := [(4, .int v9), (0, .ref (a 0)), (1, .int x1), (2, .int x2), (3, .int x3)]) hx hb dX8_about_62 hl (k := 4) rfl (by rw [ev9]; rfl) (by decide) rfl (fun ls hl => ?_)
        refine lv_goto (tgt := 32) hx hb dX8_about_65 (by decide) ?_
        exact ih x1 x2 x3 v9 F G w h (lv_sub hl [1, 2, 3, 4, 0] rfl) hw
      · have hw := hw.2 c
        refine lv_iload_n hx hb dX8_about_55 rfl (lv_at hl 3 rfl) ?_
        refine lv_iconst (v := (1 : Int32)) hx hb dX8_about_56 (by decide) ?_
        refine lv_iload hx hb dX8_about_57 (lv_at hl 4 rfl) ?_
        refine lv_ishl hx hb dX8_about_59 ?_
        refine lv_ior hx hb dX8_about_60 ?_
        refine lv_istore_n (lv' := [(3, .int (x3 ||| ((1 : Int32) <<< (x4 &&& 31)))), (0, .ref (a 0)), (1, .int x1), (2, .int x2), (4, .int x4)]) hx hb dX8_about_61 rfl hl (by decide) rfl (fun ls hl => ?_)
        obtain ⟨v10, ev10⟩ : ∃ z : Int32, z = (x4 + 1) := ⟨_, rfl⟩
        have hw := hw v10 ev10
        refine lv_iinc (v := v10) (lv' := [(4, .int v10), (3, .int (x3 ||| ((1 : Int32) <<< (x4 &&& 31)))), (0, .ref (a 0)), (1, .int x1), (2, .int x2)]) hx hb dX8_about_62 hl (k := 4) rfl (by rw [ev10]; rfl) (by decide) rfl (fun ls hl => ?_)
        refine lv_goto (tgt := 32) hx hb dX8_about_65 (by decide) ?_
        exact ih x1 x2 (x3 ||| ((1 : Int32) <<< (x4 &&& 31))) v10 F G w h (lv_sub hl [2, 3, 4, 1, 0] rfl) hw
set_option maxHeartbeats 4000000 in
set_option maxRecDepth 100000 in
theorem wk_X8_about_0 {p : Program} {l : Launch} {e : Env} {R : Room} {s : State} {m : MethodId} {args : Array Value} {below : List Frame} {meth : Method} {c : Code} {K : KT} {A : Nat → Prop} {Z : State → Prop} {a : Nat → Nat} (hR : 1 ≤ R.frames ∧ 23 ≤ R.locals) (C : CX p s m args meth c K A cX8_about 5 RX8) {Q : Int32 → FT → GT → Int64 → Prop} (hq : RetMi p l e R s m args below meth c K A Z a cX8_about Q) (x1 : Int32) (x2 : Int32) (F : FT) (G : GT) (w : Int64) {H : Heap} {locs : List Loc} (h : WD K A s (wM K a F G w) H locs) {ls : Array Slot} (hl : lv_has ls 5 [(0, .ref (a 0)), (1, .int x1), (2, .int x2)]) (hw : wp_X8_about_0 Q x1 x2 F G w) : W p l e R s m args below meth c H locs 0 0 Z (F0 m 0 ls []) := by
  unfold wp_X8_about_0 at hw
  have hx := C.1
  have hb := C.2.1
  refine lv_aload_n hx hb dX8_about_0 rfl (lv_at hl 0 rfl) ?_
  refine lv_iload_n hx hb dX8_about_1 rfl (lv_at hl 1 rfl) ?_
  refine kMiV C h (c_X8_isHorse x1 F G w hw) lk_8_208 (rvM_0 K a F G w) rfl hl.1 rfl (Nat.le_of_ble_eq_true rfl) ⟨Nat.le_trans (Nat.le_of_ble_eq_true rfl) hR.1, Nat.le_trans (Nat.le_of_ble_eq_true rfl) hR.2⟩ ⟨Nat.zero_le _, Nat.zero_le _⟩ dX8_about_2 (fun r4 F1 G2 w3 H locs hw h => ?_)
  have hw := hw.2
  refine lv_if_eq (tgt := 17) hx hb dX8_about_5 (by decide) (fun c => ?_) (fun c => ?_)
  · have hw := hw.1 c
    exact wk_X8_about_17 hR C hq F1 G2 w3 h (lv_sub hl [0] rfl) hw
  · have hw := hw.2 c
    refine lv_iload_n hx hb dX8_about_8 rfl (lv_at hl 2 rfl) ?_
    refine lv_if_lt (tgt := 17) hx hb dX8_about_9 (by decide) (fun c => ?_) (fun c => ?_)
    · have hw := hw.1 c
      exact wk_X8_about_17 hR C hq F1 G2 w3 h (lv_sub hl [0] rfl) hw
    · have hw := hw.2 c
      refine lv_iload_n hx hb dX8_about_12 rfl (lv_at hl 2 rfl) ?_
      refine lv_iconst (v := (4 : Int32)) hx hb dX8_about_13 (by decide) ?_
      refine lv_icmp_le (tgt := 22) hx hb dX8_about_14 (by decide) (fun c => ?_) (fun c => ?_)
      · have hw := hw.1 c
        refine lv_aload_n hx hb dX8_about_22 rfl (lv_at hl 0 rfl) ?_
        refine lv_iconst (v := (0 : Int32)) hx hb dX8_about_23 (by decide) ?_
        refine pM_8_89 C h dX8_about_24 (fun F5 H locs eF5 h => ?_)
        have hw := hw F5 eF5
        refine lv_iconst (v := (0 : Int32)) hx hb dX8_about_27 (by decide) ?_
        refine lv_istore_n (lv' := [(3, .int (0 : Int32)), (0, .ref (a 0)), (1, .int x1), (2, .int x2)]) hx hb dX8_about_28 rfl hl (by decide) rfl (fun ls hl => ?_)
        refine lv_iconst (v := (0 : Int32)) hx hb dX8_about_29 (by decide) ?_
        refine lv_istore (lv' := [(4, .int (0 : Int32)), (3, .int (0 : Int32)), (0, .ref (a 0)), (1, .int x1), (2, .int x2)]) hx hb dX8_about_30 hl (by decide) rfl (fun ls hl => ?_)
        obtain ⟨n, hw⟩ := hw
        exact wk_X8_about_32 hR C hq n x1 x2 (0 : Int32) (0 : Int32) F5 G2 w3 h (lv_sub hl [2, 3, 4, 1, 0] rfl) hw
      · have hw := hw.2 c
        exact wk_X8_about_17 hR C hq F1 G2 w3 h (lv_sub hl [0] rfl) hw
theorem c_X8_about {l : Launch} {K : KT} {a : Nat → Nat} (x1 : Int32) (x2 : Int32) (F : FT) (G : GT) (w : Int64) {Q : Int32 → FT → GT → Int64 → Prop} (hw : wp_X8_about x1 x2 F G w Q) : CtMi l K a yX8_about cX8_about 5 (some .int) 1 23 [.ref (a 0), .int x1, .int x2] F G w Q := fun sz => x_met (Qm := QmMi K a Q) (by decide) (Nat.le_of_ble_eq_true rfl) (fun p e s m below meth c A ls C hr h hl => wk_X8_about_0 ⟨Nat.le_refl _, Nat.le_refl _⟩ C (retM_z C hr (fun r F G w _ => rfl)) x1 x2 F G w h hl hw)
def wp_X8_fault_27 (Q : Int32 → FT → GT → Int64 → Prop) (F : FT) (G : GT) (w : Int64) : Prop := wp_X8_refuse F G w (fun r4 F1 G2 w3 => Q r4 F1 G2 w3)
def wp_X8_fault_0 (Q : Int32 → FT → GT → Int64 → Prop) (x1 : Int32) (x2 : Int32) (x3 : Int32) (F : FT) (G : GT) (w : Int64) : Prop := wp_X8_isHorse x1 F G w (fun r4 F1 G2 w3 => ((r4 = 0) → wp_X8_fault_27 Q F1 G2 w3) ∧ ((¬ r4 = 0) → ((x2 < 0) → wp_X8_fault_27 Q F1 G2 w3) ∧ ((¬ x2 < 0) → (((6 : Int32) ≤ x2) → wp_X8_fault_27 Q F1 G2 w3) ∧ ((¬ (6 : Int32) ≤ x2) → ((x3 < 0) → wp_X8_fault_27 Q F1 G2 w3) ∧ ((¬ x3 < 0) → ((x3 ≤ (1 : Int32)) → ∀ F5 : FT, F5 = sU F1 20 (0 : Int32) → ((¬ x3 = 0) → vp_in (((6 : Int32) * x1) + x2) 240 ∧ ∀ v6 : Int32, v6 = (G2 53 (((6 : Int32) * x1) + x2).toNatClampNeg) → Q v6 F5 G2 w3) ∧ ((x3 = 0) → vp_in (((6 : Int32) * x1) + x2) 240 ∧ ∀ v7 : Int32, v7 = (G2 52 (((6 : Int32) * x1) + x2).toNatClampNeg) → Q v7 F5 G2 w3)) ∧ ((¬ x3 ≤ (1 : Int32)) → wp_X8_fault_27 Q F1 G2 w3))))))
def wp_X8_fault (x1 : Int32) (x2 : Int32) (x3 : Int32) (F : FT) (G : GT) (w : Int64) (Q : Int32 → FT → GT → Int64 → Prop) : Prop := wp_X8_fault_0 Q x1 x2 x3 F G w
set_option maxHeartbeats 4000000 in
set_option maxRecDepth 100000 in
theorem wk_X8_fault_27 {p : Program} {l : Launch} {e : Env} {R : Room} {s : State} {m : MethodId} {args : Array Value} {below : List Frame} {meth : Method} {c : Code} {K : KT} {A : Nat → Prop} {Z : State → Prop} {a : Nat → Nat} (hR : 1 ≤ R.frames ∧ 21 ≤ R.locals) (C : CX p s m args meth c K A cX8_fault 4 RX8) {Q : Int32 → FT → GT → Int64 → Prop} (hq : RetMi p l e R s m args below meth c K A Z a cX8_fault Q) (F : FT) (G : GT) (w : Int64) {H : Heap} {locs : List Loc} (h : WD K A s (wM K a F G w) H locs) {ls : Array Slot} (hl : lv_has ls 4 [(0, .ref (a 0))]) (hw : wp_X8_fault_27 Q F G w) : W p l e R s m args below meth c H locs 0 0 Z (F0 m 27 ls []) := by
  unfold wp_X8_fault_27 at hw
  have hx := C.1
  have hb := C.2.1
  refine lv_aload_n hx hb dX8_fault_27 rfl (lv_at hl 0 rfl) ?_
  refine kMiV C h (c_X8_refuse F G w hw) lk_8_167 (rvM_0 K a F G w) rfl hl.1 rfl (Nat.le_of_ble_eq_true rfl) ⟨Nat.le_trans (Nat.le_of_ble_eq_true rfl) hR.1, Nat.le_trans (Nat.le_of_ble_eq_true rfl) hR.2⟩ ⟨Nat.zero_le _, Nat.zero_le _⟩ dX8_fault_28 (fun r4 F1 G2 w3 H locs hw h => ?_)
  exact hq _ F1 G2 w3 _ _ _ _ dX8_fault_31 h hw
set_option maxHeartbeats 4000000 in
set_option maxRecDepth 100000 in
theorem wk_X8_fault_0 {p : Program} {l : Launch} {e : Env} {R : Room} {s : State} {m : MethodId} {args : Array Value} {below : List Frame} {meth : Method} {c : Code} {K : KT} {A : Nat → Prop} {Z : State → Prop} {a : Nat → Nat} (hR : 1 ≤ R.frames ∧ 21 ≤ R.locals) (C : CX p s m args meth c K A cX8_fault 4 RX8) {Q : Int32 → FT → GT → Int64 → Prop} (hq : RetMi p l e R s m args below meth c K A Z a cX8_fault Q) (x1 : Int32) (x2 : Int32) (x3 : Int32) (F : FT) (G : GT) (w : Int64) {H : Heap} {locs : List Loc} (h : WD K A s (wM K a F G w) H locs) {ls : Array Slot} (hl : lv_has ls 4 [(0, .ref (a 0)), (1, .int x1), (2, .int x2), (3, .int x3)]) (hw : wp_X8_fault_0 Q x1 x2 x3 F G w) : W p l e R s m args below meth c H locs 0 0 Z (F0 m 0 ls []) := by
  unfold wp_X8_fault_0 at hw
  have hx := C.1
  have hb := C.2.1
  refine lv_aload_n hx hb dX8_fault_0 rfl (lv_at hl 0 rfl) ?_
  refine lv_iload_n hx hb dX8_fault_1 rfl (lv_at hl 1 rfl) ?_
  refine kMiV C h (c_X8_isHorse x1 F G w hw) lk_8_208 (rvM_0 K a F G w) rfl hl.1 rfl (Nat.le_of_ble_eq_true rfl) ⟨Nat.le_trans (Nat.le_of_ble_eq_true rfl) hR.1, Nat.le_trans (Nat.le_of_ble_eq_true rfl) hR.2⟩ ⟨Nat.zero_le _, Nat.zero_le _⟩ dX8_fault_2 (fun r4 F1 G2 w3 H locs hw h => ?_)
  have hw := hw.2
  refine lv_if_eq (tgt := 27) hx hb dX8_fault_5 (by decide) (fun c => ?_) (fun c => ?_)
  · have hw := hw.1 c
    exact wk_X8_fault_27 hR C hq F1 G2 w3 h (lv_sub hl [0] rfl) hw
  · have hw := hw.2 c
    refine lv_iload_n hx hb dX8_fault_8 rfl (lv_at hl 2 rfl) ?_
    refine lv_if_lt (tgt := 27) hx hb dX8_fault_9 (by decide) (fun c => ?_) (fun c => ?_)
    · have hw := hw.1 c
      exact wk_X8_fault_27 hR C hq F1 G2 w3 h (lv_sub hl [0] rfl) hw
    · have hw := hw.2 c
      refine lv_iload_n hx hb dX8_fault_12 rfl (lv_at hl 2 rfl) ?_
      refine lv_bipush (v := (6 : Int32)) hx hb dX8_fault_13 (by decide) ?_
      refine lv_icmp_ge (tgt := 27) hx hb dX8_fault_15 (by decide) (fun c => ?_) (fun c => ?_)
      · have hw := hw.1 c
        exact wk_X8_fault_27 hR C hq F1 G2 w3 h (lv_sub hl [0] rfl) hw
      · have hw := hw.2 c
        refine lv_iload_n hx hb dX8_fault_18 rfl (lv_at hl 3 rfl) ?_
        refine lv_if_lt (tgt := 27) hx hb dX8_fault_19 (by decide) (fun c => ?_) (fun c => ?_)
        · have hw := hw.1 c
          exact wk_X8_fault_27 hR C hq F1 G2 w3 h (lv_sub hl [0] rfl) hw
        · have hw := hw.2 c
          refine lv_iload_n hx hb dX8_fault_22 rfl (lv_at hl 3 rfl) ?_
          refine lv_iconst (v := (1 : Int32)) hx hb dX8_fault_23 (by decide) ?_
          refine lv_icmp_le (tgt := 32) hx hb dX8_fault_24 (by decide) (fun c => ?_) (fun c => ?_)
          · have hw := hw.1 c
            refine lv_aload_n hx hb dX8_fault_32 rfl (lv_at hl 0 rfl) ?_
            refine lv_iconst (v := (0 : Int32)) hx hb dX8_fault_33 (by decide) ?_
            refine pM_8_89 C h dX8_fault_34 (fun F5 H locs eF5 h => ?_)
            have hw := hw F5 eF5
            refine lv_iload_n hx hb dX8_fault_37 rfl (lv_at hl 3 rfl) ?_
            refine lv_if_ne (tgt := 55) hx hb dX8_fault_38 (by decide) (fun c => ?_) (fun c => ?_)
            · have hw := hw.1 c
              refine lv_aload_n hx hb dX8_fault_55 rfl (lv_at hl 0 rfl) ?_
              refine gM_8_46 C h dX8_fault_56 ?_
              refine lv_bipush (v := (6 : Int32)) hx hb dX8_fault_59 (by decide) ?_
              refine lv_iload_n hx hb dX8_fault_61 rfl (lv_at hl 1 rfl) ?_
              refine lv_imul hx hb dX8_fault_62 ?_
              refine lv_iload_n hx hb dX8_fault_63 rfl (lv_at hl 2 rfl) ?_
              refine lv_iadd hx hb dX8_fault_64 ?_
              have hi := hw.1
              have hw := hw.2
              refine laM_53 C h hi dX8_fault_65 ?_
              refine lv_topi (fun v6 ev6 => ?_)
              have hw := hw v6 ev6
              exact hq _ F5 G2 w3 _ _ _ _ dX8_fault_66 h hw
            · have hw := hw.2 c
              refine lv_aload_n hx hb dX8_fault_41 rfl (lv_at hl 0 rfl) ?_
              refine gM_8_43 C h dX8_fault_42 ?_
              refine lv_bipush (v := (6 : Int32)) hx hb dX8_fault_45 (by decide) ?_
              refine lv_iload_n hx hb dX8_fault_47 rfl (lv_at hl 1 rfl) ?_
              refine lv_imul hx hb dX8_fault_48 ?_
              refine lv_iload_n hx hb dX8_fault_49 rfl (lv_at hl 2 rfl) ?_
              refine lv_iadd hx hb dX8_fault_50 ?_
              have hi := hw.1
              have hw := hw.2
              refine laM_52 C h hi dX8_fault_51 ?_
              refine lv_topi (fun v7 ev7 => ?_)
              have hw := hw v7 ev7
              refine lv_goto (tgt := 66) hx hb dX8_fault_52 (by decide) ?_
              exact hq _ F5 G2 w3 _ _ _ _ dX8_fault_66 h hw
          · have hw := hw.2 c
            exact wk_X8_fault_27 hR C hq F1 G2 w3 h (lv_sub hl [0] rfl) hw
theorem c_X8_fault {l : Launch} {K : KT} {a : Nat → Nat} (x1 : Int32) (x2 : Int32) (x3 : Int32) (F : FT) (G : GT) (w : Int64) {Q : Int32 → FT → GT → Int64 → Prop} (hw : wp_X8_fault x1 x2 x3 F G w Q) : CtMi l K a yX8_fault cX8_fault 4 (some .int) 1 21 [.ref (a 0), .int x1, .int x2, .int x3] F G w Q := fun sz => x_met (Qm := QmMi K a Q) (by decide) (Nat.le_of_ble_eq_true rfl) (fun p e s m below meth c A ls C hr h hl => wk_X8_fault_0 ⟨Nat.le_refl _, Nat.le_refl _⟩ C (retM_z C hr (fun r F G w _ => rfl)) x1 x2 x3 F G w h hl hw)
def wp_X8_sale_22 (Q : Int32 → FT → GT → Int64 → Prop) (F : FT) (G : GT) (w : Int64) : Prop := wp_X8_refuse F G w (fun r4 F1 G2 w3 => Q r4 F1 G2 w3)
def wp_X8_sale_0 (Q : Int32 → FT → GT → Int64 → Prop) (x1 : Int32) (x2 : Int32) (F : FT) (G : GT) (w : Int64) : Prop := ((x1 < 0) → wp_X8_sale_22 Q F G w) ∧ ((¬ x1 < 0) → (((F 8) ≤ x1) → wp_X8_sale_22 Q F G w) ∧ ((¬ (F 8) ≤ x1) → ((x2 < 0) → wp_X8_sale_22 Q F G w) ∧ ((¬ x2 < 0) → ((x2 ≤ (7 : Int32)) → ∀ F1 : FT, F1 = sU F 20 (0 : Int32) → (x2 = 0 → vp_in x1 80 ∧ Q (G 23 x1.toNatClampNeg) F1 G w) ∧ (x2 = 1 → vp_in x1 80 ∧ Q (G 24 x1.toNatClampNeg) F1 G w) ∧ (x2 = 2 → vp_in x1 80 ∧ Q (G 25 x1.toNatClampNeg) F1 G w) ∧ (x2 = 3 → vp_in x1 80 ∧ Q (G 26 x1.toNatClampNeg) F1 G w) ∧ (x2 = 4 → vp_in x1 80 ∧ Q (G 27 x1.toNatClampNeg) F1 G w) ∧ (x2 = 5 → vp_in x1 80 ∧ Q (G 28 x1.toNatClampNeg) F1 G w) ∧ (x2 = 6 → vp_in x1 80 ∧ Q (G 29 x1.toNatClampNeg) F1 G w) ∧ (¬ x2 = 0 → ¬ x2 = 1 → ¬ x2 = 2 → ¬ x2 = 3 → ¬ x2 = 4 → ¬ x2 = 5 → ¬ x2 = 6 → vp_in x1 80 ∧ (((G 30 x1.toNatClampNeg) = 0) → Q (0 : Int32) F1 G w) ∧ ((¬ (G 30 x1.toNatClampNeg) = 0) → Q (1 : Int32) F1 G w))) ∧ ((¬ x2 ≤ (7 : Int32)) → wp_X8_sale_22 Q F G w))))
def wp_X8_sale (x1 : Int32) (x2 : Int32) (F : FT) (G : GT) (w : Int64) (Q : Int32 → FT → GT → Int64 → Prop) : Prop := wp_X8_sale_0 Q x1 x2 F G w
set_option maxHeartbeats 4000000 in
set_option maxRecDepth 100000 in
theorem wk_X8_sale_22 {p : Program} {l : Launch} {e : Env} {R : Room} {s : State} {m : MethodId} {args : Array Value} {below : List Frame} {meth : Method} {c : Code} {K : KT} {A : Nat → Prop} {Z : State → Prop} {a : Nat → Nat} (hR : 1 ≤ R.frames ∧ 20 ≤ R.locals) (C : CX p s m args meth c K A cX8_sale 3 RX8) {Q : Int32 → FT → GT → Int64 → Prop} (hq : RetMi p l e R s m args below meth c K A Z a cX8_sale Q) (F : FT) (G : GT) (w : Int64) {H : Heap} {locs : List Loc} (h : WD K A s (wM K a F G w) H locs) {ls : Array Slot} (hl : lv_has ls 3 [(0, .ref (a 0))]) (hw : wp_X8_sale_22 Q F G w) : W p l e R s m args below meth c H locs 0 0 Z (F0 m 22 ls []) := by
  unfold wp_X8_sale_22 at hw
  have hx := C.1
  have hb := C.2.1
  refine lv_aload_n hx hb dX8_sale_22 rfl (lv_at hl 0 rfl) ?_
  refine kMiV C h (c_X8_refuse F G w hw) lk_8_167 (rvM_0 K a F G w) rfl hl.1 rfl (Nat.le_of_ble_eq_true rfl) ⟨Nat.le_trans (Nat.le_of_ble_eq_true rfl) hR.1, Nat.le_trans (Nat.le_of_ble_eq_true rfl) hR.2⟩ ⟨Nat.zero_le _, Nat.zero_le _⟩ dX8_sale_23 (fun r4 F1 G2 w3 H locs hw h => ?_)
  exact hq _ F1 G2 w3 _ _ _ _ dX8_sale_26 h hw
set_option maxHeartbeats 4000000 in
set_option maxRecDepth 100000 in
theorem wk_X8_sale_0 {p : Program} {l : Launch} {e : Env} {R : Room} {s : State} {m : MethodId} {args : Array Value} {below : List Frame} {meth : Method} {c : Code} {K : KT} {A : Nat → Prop} {Z : State → Prop} {a : Nat → Nat} (hR : 1 ≤ R.frames ∧ 20 ≤ R.locals) (C : CX p s m args meth c K A cX8_sale 3 RX8) {Q : Int32 → FT → GT → Int64 → Prop} (hq : RetMi p l e R s m args below meth c K A Z a cX8_sale Q) (x1 : Int32) (x2 : Int32) (F : FT) (G : GT) (w : Int64) {H : Heap} {locs : List Loc} (h : WD K A s (wM K a F G w) H locs) {ls : Array Slot} (hl : lv_has ls 3 [(0, .ref (a 0)), (1, .int x1), (2, .int x2)]) (hw : wp_X8_sale_0 Q x1 x2 F G w) : W p l e R s m args below meth c H locs 0 0 Z (F0 m 0 ls []) := by
  unfold wp_X8_sale_0 at hw
  have hx := C.1
  have hb := C.2.1
  refine lv_iload_n hx hb dX8_sale_0 rfl (lv_at hl 1 rfl) ?_
  refine lv_if_lt (tgt := 22) hx hb dX8_sale_1 (by decide) (fun c => ?_) (fun c => ?_)
  · have hw := hw.1 c
    exact wk_X8_sale_22 hR C hq F G w h (lv_sub hl [0] rfl) hw
  · have hw := hw.2 c
    refine lv_iload_n hx hb dX8_sale_4 rfl (lv_at hl 1 rfl) ?_
    refine lv_aload_n hx hb dX8_sale_5 rfl (lv_at hl 0 rfl) ?_
    refine gM_8_195 C h dX8_sale_6 ?_
    refine lv_icmp_ge (tgt := 22) hx hb dX8_sale_9 (by decide) (fun c => ?_) (fun c => ?_)
    · have hw := hw.1 c
      exact wk_X8_sale_22 hR C hq F G w h (lv_sub hl [0] rfl) hw
    · have hw := hw.2 c
      refine lv_iload_n hx hb dX8_sale_12 rfl (lv_at hl 2 rfl) ?_
      refine lv_if_lt (tgt := 22) hx hb dX8_sale_13 (by decide) (fun c => ?_) (fun c => ?_)
      · have hw := hw.1 c
        exact wk_X8_sale_22 hR C hq F G w h (lv_sub hl [0] rfl) hw
      · have hw := hw.2 c
        refine lv_iload_n hx hb dX8_sale_16 rfl (lv_at hl 2 rfl) ?_
        refine lv_bipush (v := (7 : Int32)) hx hb dX8_sale_17 (by decide) ?_
        refine lv_icmp_le (tgt := 27) hx hb dX8_sale_19 (by decide) (fun c => ?_) (fun c => ?_)
        · have hw := hw.1 c
          refine lv_aload_n hx hb dX8_sale_27 rfl (lv_at hl 0 rfl) ?_
          refine lv_iconst (v := (0 : Int32)) hx hb dX8_sale_28 (by decide) ?_
          refine pM_8_89 C h dX8_sale_29 (fun F1 H locs eF1 h => ?_)
          have hw := hw F1 eF1
          refine lv_iload_n hx hb dX8_sale_32 rfl (lv_at hl 2 rfl) ?_
          by_cases k0 : x2 = 0
          · have hw := hw.1 k0
            refine lv_tableIn (tgt := 76) hx hb dX8_sale_33 (by rw [k0]; decide) (by rw [k0]; decide) (by rw [k0]; rfl) (by decide) ?_
            refine lv_aload_n hx hb dX8_sale_76 rfl (lv_at hl 0 rfl) ?_
            refine gM_8_61 C h dX8_sale_77 ?_
            refine lv_iload_n hx hb dX8_sale_80 rfl (lv_at hl 1 rfl) ?_
            have hi := hw.1
            have hw := hw.2
            refine laM_23 C h hi dX8_sale_81 ?_
            exact hq _ F1 G w _ _ _ _ dX8_sale_82 h hw
          by_cases k1 : x2 = 1
          · have hw := hw.2.1 k1
            refine lv_tableIn (tgt := 83) hx hb dX8_sale_33 (by rw [k1]; decide) (by rw [k1]; decide) (by rw [k1]; rfl) (by decide) ?_
            refine lv_aload_n hx hb dX8_sale_83 rfl (lv_at hl 0 rfl) ?_
            refine gM_8_64 C h dX8_sale_84 ?_
            refine lv_iload_n hx hb dX8_sale_87 rfl (lv_at hl 1 rfl) ?_
            have hi := hw.1
            have hw := hw.2
            refine laM_24 C h hi dX8_sale_88 ?_
            exact hq _ F1 G w _ _ _ _ dX8_sale_89 h hw
          by_cases k2 : x2 = 2
          · have hw := hw.2.2.1 k2
            refine lv_tableIn (tgt := 90) hx hb dX8_sale_33 (by rw [k2]; decide) (by rw [k2]; decide) (by rw [k2]; rfl) (by decide) ?_
            refine lv_aload_n hx hb dX8_sale_90 rfl (lv_at hl 0 rfl) ?_
            refine gM_8_67 C h dX8_sale_91 ?_
            refine lv_iload_n hx hb dX8_sale_94 rfl (lv_at hl 1 rfl) ?_
            have hi := hw.1
            have hw := hw.2
            refine laM_25 C h hi dX8_sale_95 ?_
            exact hq _ F1 G w _ _ _ _ dX8_sale_96 h hw
          by_cases k3 : x2 = 3
          · have hw := hw.2.2.2.1 k3
            refine lv_tableIn (tgt := 97) hx hb dX8_sale_33 (by rw [k3]; decide) (by rw [k3]; decide) (by rw [k3]; rfl) (by decide) ?_
            refine lv_aload_n hx hb dX8_sale_97 rfl (lv_at hl 0 rfl) ?_
            refine gM_8_70 C h dX8_sale_98 ?_
            refine lv_iload_n hx hb dX8_sale_101 rfl (lv_at hl 1 rfl) ?_
            have hi := hw.1
            have hw := hw.2
            refine laM_26 C h hi dX8_sale_102 ?_
            exact hq _ F1 G w _ _ _ _ dX8_sale_103 h hw
          by_cases k4 : x2 = 4
          · have hw := hw.2.2.2.2.1 k4
            refine lv_tableIn (tgt := 104) hx hb dX8_sale_33 (by rw [k4]; decide) (by rw [k4]; decide) (by rw [k4]; rfl) (by decide) ?_
            refine lv_aload_n hx hb dX8_sale_104 rfl (lv_at hl 0 rfl) ?_
            refine gM_8_73 C h dX8_sale_105 ?_
            refine lv_iload_n hx hb dX8_sale_108 rfl (lv_at hl 1 rfl) ?_
            have hi := hw.1
            have hw := hw.2
            refine laM_27 C h hi dX8_sale_109 ?_
            exact hq _ F1 G w _ _ _ _ dX8_sale_110 h hw
          by_cases k5 : x2 = 5
          · have hw := hw.2.2.2.2.2.1 k5
            refine lv_tableIn (tgt := 111) hx hb dX8_sale_33 (by rw [k5]; decide) (by rw [k5]; decide) (by rw [k5]; rfl) (by decide) ?_
            refine lv_aload_n hx hb dX8_sale_111 rfl (lv_at hl 0 rfl) ?_
            refine gM_8_76 C h dX8_sale_112 ?_
            refine lv_iload_n hx hb dX8_sale_115 rfl (lv_at hl 1 rfl) ?_
            have hi := hw.1
            have hw := hw.2
            refine laM_28 C h hi dX8_sale_116 ?_
            exact hq _ F1 G w _ _ _ _ dX8_sale_117 h hw
          by_cases k6 : x2 = 6
          · have hw := hw.2.2.2.2.2.2.1 k6
            refine lv_tableIn (tgt := 118) hx hb dX8_sale_33 (by rw [k6]; decide) (by rw [k6]; decide) (by rw [k6]; rfl) (by decide) ?_
            refine lv_aload_n hx hb dX8_sale_118 rfl (lv_at hl 0 rfl) ?_
            refine gM_8_79 C h dX8_sale_119 ?_
            refine lv_iload_n hx hb dX8_sale_122 rfl (lv_at hl 1 rfl) ?_
            have hi := hw.1
            have hw := hw.2
            refine laM_29 C h hi dX8_sale_123 ?_
            exact hq _ F1 G w _ _ _ _ dX8_sale_124 h hw
          have hw := hw.2.2.2.2.2.2.2 k0 k1 k2 k3 k4 k5 k6
          refine lv_tableOut (tgt := 125) hx hb dX8_sale_33 (by have n0 := lv_neT k0 (a := 0) (by decide); have n1 := lv_neT k1 (a := 1) (by decide); have n2 := lv_neT k2 (a := 2) (by decide); have n3 := lv_neT k3 (a := 3) (by decide); have n4 := lv_neT k4 (a := 4) (by decide); have n5 := lv_neT k5 (a := 5) (by decide); have n6 := lv_neT k6 (a := 6) (by decide); omega) (by decide) ?_
          refine lv_aload_n hx hb dX8_sale_125 rfl (lv_at hl 0 rfl) ?_
          refine gM_8_82 C h dX8_sale_126 ?_
          refine lv_iload_n hx hb dX8_sale_129 rfl (lv_at hl 1 rfl) ?_
          have hi := hw.1
          have hw := hw.2
          refine laM_30 C h hi dX8_sale_130 ?_
          refine lv_if_eq (tgt := 138) hx hb dX8_sale_131 (by decide) (fun c => ?_) (fun c => ?_)
          · have hw := hw.1 c
            refine lv_iconst (v := (0 : Int32)) hx hb dX8_sale_138 (by decide) ?_
            exact hq _ F1 G w _ _ _ _ dX8_sale_139 h hw
          · have hw := hw.2 c
            refine lv_iconst (v := (1 : Int32)) hx hb dX8_sale_134 (by decide) ?_
            refine lv_goto (tgt := 139) hx hb dX8_sale_135 (by decide) ?_
            exact hq _ F1 G w _ _ _ _ dX8_sale_139 h hw
        · have hw := hw.2 c
          exact wk_X8_sale_22 hR C hq F G w h (lv_sub hl [0] rfl) hw
theorem c_X8_sale {l : Launch} {K : KT} {a : Nat → Nat} (x1 : Int32) (x2 : Int32) (F : FT) (G : GT) (w : Int64) {Q : Int32 → FT → GT → Int64 → Prop} (hw : wp_X8_sale x1 x2 F G w Q) : CtMi l K a yX8_sale cX8_sale 3 (some .int) 1 20 [.ref (a 0), .int x1, .int x2] F G w Q := fun sz => x_met (Qm := QmMi K a Q) (by decide) (Nat.le_of_ble_eq_true rfl) (fun p e s m below meth c A ls C hr h hl => wk_X8_sale_0 ⟨Nat.le_refl _, Nat.le_refl _⟩ C (retM_z C hr (fun r F G w _ => rfl)) x1 x2 F G w h hl hw)
def wp_X8_purse_17 (Q : Int32 → FT → GT → Int64 → Prop) (F : FT) (G : GT) (w : Int64) : Prop := wp_X8_refuse F G w (fun r4 F1 G2 w3 => Q r4 F1 G2 w3)
def wp_X8_purse_138 (Q : Int32 → FT → GT → Int64 → Prop) (kb : Int32 → Int32 → Int32 → Int32 → FT → GT → Int64 → Prop) (x1 : Int32) (x2 : Int32) (x3 : Int32) (x4 : Int32) (s0 : Int32) (F : FT) (G : GT) (w : Int64) : Prop := ((¬ s0 = x1) → ∀ v1 : Int32, v1 = (x4 + 1) → kb x1 x2 x3 v1 F G w) ∧ ((s0 = x1) → ∀ v2 : Int32, v2 = (x3 + 1) → ∀ v3 : Int32, v3 = (x4 + 1) → kb x1 x2 v2 v3 F G w)
def wp_X8_purse_102 (Q : Int32 → FT → GT → Int64 → Prop) : Nat → Int32 → Int32 → Int32 → Int32 → FT → GT → Int64 → Prop
  | 0, _, _, _, _, _, _, _ => False
  | n + 1, x1, x2, x3, x4, F, G, w => (((F 6) ≤ x4) → Q x3 F G w) ∧ ((¬ (F 6) ≤ x4) → ((x2 ≤ (2 : Int32)) → Q x3 F G w) ∧ ((¬ x2 ≤ (2 : Int32)) → ((¬ x2 = (3 : Int32)) → vp_in x4 40 ∧ wp_X8_purse_138 Q (fun x1 x2 x3 x4 F G w => wp_X8_purse_102 Q n x1 x2 x3 x4 F G w) x1 x2 x3 x4 (G 17 x4.toNatClampNeg) F G w) ∧ ((x2 = (3 : Int32)) → vp_in x4 40 ∧ wp_X8_purse_138 Q (fun x1 x2 x3 x4 F G w => wp_X8_purse_102 Q n x1 x2 x3 x4 F G w) x1 x2 x3 x4 (G 16 x4.toNatClampNeg) F G w)))
def wp_X8_purse_79 (Q : Int32 → FT → GT → Int64 → Prop) (kb : Int32 → Int32 → Int32 → Int32 → FT → GT → Int64 → Prop) (x1 : Int32) (x2 : Int32) (x3 : Int32) (x4 : Int32) (s0 : Int32) (F : FT) (G : GT) (w : Int64) : Prop := ((¬ s0 = x1) → ∀ v1 : Int32, v1 = (x4 + 1) → kb x1 x2 x3 v1 F G w) ∧ ((s0 = x1) → vp_in x4 80 ∧ ∀ v2 : Int32, v2 = (x4 + 1) → kb x1 x2 (x3 + (G 15 x4.toNatClampNeg)) v2 F G w)
def wp_X8_purse_43 (Q : Int32 → FT → GT → Int64 → Prop) : Nat → Int32 → Int32 → Int32 → Int32 → FT → GT → Int64 → Prop
  | 0, _, _, _, _, _, _, _ => False
  | n + 1, x1, x2, x3, x4, F, G, w => (((F 5) ≤ x4) → ∃ n : Nat, wp_X8_purse_102 Q n x1 x2 x3 (0 : Int32) F G w) ∧ ((¬ (F 5) ≤ x4) → (((3 : Int32) ≤ x2) → ∃ n : Nat, wp_X8_purse_102 Q n x1 x2 x3 (0 : Int32) F G w) ∧ ((¬ (3 : Int32) ≤ x2) → ((¬ x2 = (1 : Int32)) → vp_in x4 80 ∧ wp_X8_purse_79 Q (fun x1 x2 x3 x4 F G w => wp_X8_purse_43 Q n x1 x2 x3 x4 F G w) x1 x2 x3 x4 (G 13 x4.toNatClampNeg) F G w) ∧ ((x2 = (1 : Int32)) → vp_in x4 80 ∧ wp_X8_purse_79 Q (fun x1 x2 x3 x4 F G w => wp_X8_purse_43 Q n x1 x2 x3 x4 F G w) x1 x2 x3 x4 (G 12 x4.toNatClampNeg) F G w)))
def wp_X8_purse_0 (Q : Int32 → FT → GT → Int64 → Prop) (x1 : Int32) (x2 : Int32) (F : FT) (G : GT) (w : Int64) : Prop := wp_X8_isPerson x1 F G w (fun r4 F1 G2 w3 => ((r4 = 0) → wp_X8_purse_17 Q F1 G2 w3) ∧ ((¬ r4 = 0) → ((x2 < 0) → wp_X8_purse_17 Q F1 G2 w3) ∧ ((¬ x2 < 0) → ((x2 ≤ (4 : Int32)) → ∀ F5 : FT, F5 = sU F1 20 (0 : Int32) → ((¬ x2 = 0) → ∃ n : Nat, wp_X8_purse_43 Q n x1 x2 (0 : Int32) (0 : Int32) F5 G2 w3) ∧ ((x2 = 0) → vp_in x1 16 ∧ Q (G2 11 x1.toNatClampNeg) F5 G2 w3)) ∧ ((¬ x2 ≤ (4 : Int32)) → wp_X8_purse_17 Q F1 G2 w3))))
def wp_X8_purse (x1 : Int32) (x2 : Int32) (F : FT) (G : GT) (w : Int64) (Q : Int32 → FT → GT → Int64 → Prop) : Prop := wp_X8_purse_0 Q x1 x2 F G w
set_option maxHeartbeats 4000000 in
set_option maxRecDepth 100000 in
theorem wk_X8_purse_17 {p : Program} {l : Launch} {e : Env} {R : Room} {s : State} {m : MethodId} {args : Array Value} {below : List Frame} {meth : Method} {c : Code} {K : KT} {A : Nat → Prop} {Z : State → Prop} {a : Nat → Nat} (hR : 1 ≤ R.frames ∧ 21 ≤ R.locals) (C : CX p s m args meth c K A cX8_purse 5 RX8) {Q : Int32 → FT → GT → Int64 → Prop} (hq : RetMi p l e R s m args below meth c K A Z a cX8_purse Q) (F : FT) (G : GT) (w : Int64) {H : Heap} {locs : List Loc} (h : WD K A s (wM K a F G w) H locs) {ls : Array Slot} (hl : lv_has ls 5 [(0, .ref (a 0))]) (hw : wp_X8_purse_17 Q F G w) : W p l e R s m args below meth c H locs 0 0 Z (F0 m 17 ls []) := by
  unfold wp_X8_purse_17 at hw
  have hx := C.1
  have hb := C.2.1
  refine lv_aload_n hx hb dX8_purse_17 rfl (lv_at hl 0 rfl) ?_
  refine kMiV C h (c_X8_refuse F G w hw) lk_8_167 (rvM_0 K a F G w) rfl hl.1 rfl (Nat.le_of_ble_eq_true rfl) ⟨Nat.le_trans (Nat.le_of_ble_eq_true rfl) hR.1, Nat.le_trans (Nat.le_of_ble_eq_true rfl) hR.2⟩ ⟨Nat.zero_le _, Nat.zero_le _⟩ dX8_purse_18 (fun r4 F1 G2 w3 H locs hw h => ?_)
  exact hq _ F1 G2 w3 _ _ _ _ dX8_purse_21 h hw
set_option maxHeartbeats 4000000 in
set_option maxRecDepth 100000 in
theorem wk_X8_purse_138 {p : Program} {l : Launch} {e : Env} {R : Room} {s : State} {m : MethodId} {args : Array Value} {below : List Frame} {meth : Method} {c : Code} {K : KT} {A : Nat → Prop} {Z : State → Prop} {a : Nat → Nat} (hR : 1 ≤ R.frames ∧ 21 ≤ R.locals) (C : CX p s m args meth c K A cX8_purse 5 RX8) {Q : Int32 → FT → GT → Int64 → Prop} (hq : RetMi p l e R s m args below meth c K A Z a cX8_purse Q) {kb : Int32 → Int32 → Int32 → Int32 → FT → GT → Int64 → Prop} (hk : ∀ (x1 : Int32) (x2 : Int32) (x3 : Int32) (x4 : Int32) (F : FT) (G : GT) (w : Int64) (H : Heap) (locs : List Loc) (ls : Array Slot), WD K A s (wM K a F G w) H locs → lv_has ls 5 [(0, .ref (a 0)), (1, .int x1), (2, .int x2), (3, .int x3), (4, .int x4)] → kb x1 x2 x3 x4 F G w → W p l e R s m args below meth c H locs 0 0 Z (F0 m 102 ls [])) (x1 : Int32) (x2 : Int32) (x3 : Int32) (x4 : Int32) (s0 : Int32) (F : FT) (G : GT) (w : Int64) {H : Heap} {locs : List Loc} (h : WD K A s (wM K a F G w) H locs) {ls : Array Slot} (hl : lv_has ls 5 [(0, .ref (a 0)), (1, .int x1), (2, .int x2), (3, .int x3), (4, .int x4)]) (hw : wp_X8_purse_138 Q kb x1 x2 x3 x4 s0 F G w) : W p l e R s m args below meth c H locs 0 0 Z (F0 m 138 ls [.int s0]) := by
  unfold wp_X8_purse_138 at hw
  have hx := C.1
  have hb := C.2.1
  refine lv_iload_n hx hb dX8_purse_138 rfl (lv_at hl 1 rfl) ?_
  refine lv_icmp_ne (tgt := 145) hx hb dX8_purse_139 (by decide) (fun c => ?_) (fun c => ?_)
  · have hw := hw.1 c
    obtain ⟨v1, ev1⟩ : ∃ z : Int32, z = (x4 + 1) := ⟨_, rfl⟩
    have hw := hw v1 ev1
    refine lv_iinc (v := v1) (lv' := [(4, .int v1), (0, .ref (a 0)), (1, .int x1), (2, .int x2), (3, .int x3)]) hx hb dX8_purse_145 hl (k := 4) rfl (by rw [ev1]; rfl) (by decide) rfl (fun ls hl => ?_)
    refine lv_goto (tgt := 102) hx hb dX8_purse_148 (by decide) ?_
    exact hk x1 x2 x3 v1 F G w _ _ _ h (lv_sub hl [1, 2, 3, 4, 0] rfl) hw
  · have hw := hw.2 c
    obtain ⟨v2, ev2⟩ : ∃ z : Int32, z = (x3 + 1) := ⟨_, rfl⟩
    have hw := hw v2 ev2
    refine lv_iinc (v := v2) (lv' := [(3, .int v2), (0, .ref (a 0)), (1, .int x1), (2, .int x2), (4, .int x4)]) hx hb dX8_purse_142 hl (k := 3) rfl (by rw [ev2]; rfl) (by decide) rfl (fun ls hl => ?_)
    obtain ⟨v3, ev3⟩ : ∃ z : Int32, z = (x4 + 1) := ⟨_, rfl⟩
    have hw := hw v3 ev3
    refine lv_iinc (v := v3) (lv' := [(4, .int v3), (3, .int v2), (0, .ref (a 0)), (1, .int x1), (2, .int x2)]) hx hb dX8_purse_145 hl (k := 4) rfl (by rw [ev3]; rfl) (by decide) rfl (fun ls hl => ?_)
    refine lv_goto (tgt := 102) hx hb dX8_purse_148 (by decide) ?_
    exact hk x1 x2 v2 v3 F G w _ _ _ h (lv_sub hl [2, 3, 4, 1, 0] rfl) hw
set_option maxHeartbeats 4000000 in
set_option maxRecDepth 100000 in
theorem wk_X8_purse_102 {p : Program} {l : Launch} {e : Env} {R : Room} {s : State} {m : MethodId} {args : Array Value} {below : List Frame} {meth : Method} {c : Code} {K : KT} {A : Nat → Prop} {Z : State → Prop} {a : Nat → Nat} (hR : 1 ≤ R.frames ∧ 21 ≤ R.locals) (C : CX p s m args meth c K A cX8_purse 5 RX8) {Q : Int32 → FT → GT → Int64 → Prop} (hq : RetMi p l e R s m args below meth c K A Z a cX8_purse Q) : ∀ (n : Nat) (x1 : Int32) (x2 : Int32) (x3 : Int32) (x4 : Int32) (F : FT) (G : GT) (w : Int64) {H : Heap} {locs : List Loc} (h : WD K A s (wM K a F G w) H locs) {ls : Array Slot} (hl : lv_has ls 5 [(0, .ref (a 0)), (1, .int x1), (2, .int x2), (3, .int x3), (4, .int x4)]) (hw : wp_X8_purse_102 Q n x1 x2 x3 x4 F G w), W p l e R s m args below meth c H locs 0 0 Z (F0 m 102 ls []) := by
  intro n
  induction n with
  | zero => intro x1 x2 x3 x4 F G w H locs h ls hl hw; exact False.elim hw
  | succ n ih =>
    intro x1 x2 x3 x4 F G w H locs h ls hl hw
    rw [wp_X8_purse_102] at hw
    have hx := C.1
    have hb := C.2.1
    refine lv_iload hx hb dX8_purse_102 (lv_at hl 4 rfl) ?_
    refine lv_aload_n hx hb dX8_purse_104 rfl (lv_at hl 0 rfl) ?_
    refine gM_8_192 C h dX8_purse_105 ?_
    refine lv_icmp_ge (tgt := 151) hx hb dX8_purse_108 (by decide) (fun c => ?_) (fun c => ?_)
    · have hw := hw.1 c
      refine lv_iload_n hx hb dX8_purse_151 rfl (lv_at hl 3 rfl) ?_
      exact hq _ F G w _ _ _ _ dX8_purse_152 h hw
    · have hw := hw.2 c
      refine lv_iload_n hx hb dX8_purse_111 rfl (lv_at hl 2 rfl) ?_
      refine lv_iconst (v := (2 : Int32)) hx hb dX8_purse_112 (by decide) ?_
      refine lv_icmp_le (tgt := 151) hx hb dX8_purse_113 (by decide) (fun c => ?_) (fun c => ?_)
      · have hw := hw.1 c
        refine lv_iload_n hx hb dX8_purse_151 rfl (lv_at hl 3 rfl) ?_
        exact hq _ F G w _ _ _ _ dX8_purse_152 h hw
      · have hw := hw.2 c
        refine lv_iload_n hx hb dX8_purse_116 rfl (lv_at hl 2 rfl) ?_
        refine lv_iconst (v := (3 : Int32)) hx hb dX8_purse_117 (by decide) ?_
        refine lv_icmp_ne (tgt := 131) hx hb dX8_purse_118 (by decide) (fun c => ?_) (fun c => ?_)
        · have hw := hw.1 c
          refine lv_aload_n hx hb dX8_purse_131 rfl (lv_at hl 0 rfl) ?_
          refine gM_8_37 C h dX8_purse_132 ?_
          refine lv_iload hx hb dX8_purse_135 (lv_at hl 4 rfl) ?_
          have hi := hw.1
          have hw := hw.2
          refine laM_17 C h hi dX8_purse_137 ?_
          exact wk_X8_purse_138 hR C hq (fun x1 x2 x3 x4 F G w H locs ls h hl hw => ih x1 x2 x3 x4 F G w h hl hw) x1 x2 x3 x4 (G 17 x4.toNatClampNeg) F G w h (lv_sub hl [0, 1, 2, 3, 4] rfl) hw
        · have hw := hw.2 c
          refine lv_aload_n hx hb dX8_purse_121 rfl (lv_at hl 0 rfl) ?_
          refine gM_8_34 C h dX8_purse_122 ?_
          refine lv_iload hx hb dX8_purse_125 (lv_at hl 4 rfl) ?_
          have hi := hw.1
          have hw := hw.2
          refine laM_16 C h hi dX8_purse_127 ?_
          refine lv_goto (tgt := 138) hx hb dX8_purse_128 (by decide) ?_
          exact wk_X8_purse_138 hR C hq (fun x1 x2 x3 x4 F G w H locs ls h hl hw => ih x1 x2 x3 x4 F G w h hl hw) x1 x2 x3 x4 (G 16 x4.toNatClampNeg) F G w h (lv_sub hl [0, 1, 2, 3, 4] rfl) hw
set_option maxHeartbeats 4000000 in
set_option maxRecDepth 100000 in
theorem wk_X8_purse_79 {p : Program} {l : Launch} {e : Env} {R : Room} {s : State} {m : MethodId} {args : Array Value} {below : List Frame} {meth : Method} {c : Code} {K : KT} {A : Nat → Prop} {Z : State → Prop} {a : Nat → Nat} (hR : 1 ≤ R.frames ∧ 21 ≤ R.locals) (C : CX p s m args meth c K A cX8_purse 5 RX8) {Q : Int32 → FT → GT → Int64 → Prop} (hq : RetMi p l e R s m args below meth c K A Z a cX8_purse Q) {kb : Int32 → Int32 → Int32 → Int32 → FT → GT → Int64 → Prop} (hk : ∀ (x1 : Int32) (x2 : Int32) (x3 : Int32) (x4 : Int32) (F : FT) (G : GT) (w : Int64) (H : Heap) (locs : List Loc) (ls : Array Slot), WD K A s (wM K a F G w) H locs → lv_has ls 5 [(0, .ref (a 0)), (1, .int x1), (2, .int x2), (3, .int x3), (4, .int x4)] → kb x1 x2 x3 x4 F G w → W p l e R s m args below meth c H locs 0 0 Z (F0 m 43 ls [])) (x1 : Int32) (x2 : Int32) (x3 : Int32) (x4 : Int32) (s0 : Int32) (F : FT) (G : GT) (w : Int64) {H : Heap} {locs : List Loc} (h : WD K A s (wM K a F G w) H locs) {ls : Array Slot} (hl : lv_has ls 5 [(0, .ref (a 0)), (1, .int x1), (2, .int x2), (3, .int x3), (4, .int x4)]) (hw : wp_X8_purse_79 Q kb x1 x2 x3 x4 s0 F G w) : W p l e R s m args below meth c H locs 0 0 Z (F0 m 79 ls [.int s0]) := by
  unfold wp_X8_purse_79 at hw
  have hx := C.1
  have hb := C.2.1
  refine lv_iload_n hx hb dX8_purse_79 rfl (lv_at hl 1 rfl) ?_
  refine lv_icmp_ne (tgt := 93) hx hb dX8_purse_80 (by decide) (fun c => ?_) (fun c => ?_)
  · have hw := hw.1 c
    obtain ⟨v1, ev1⟩ : ∃ z : Int32, z = (x4 + 1) := ⟨_, rfl⟩
    have hw := hw v1 ev1
    refine lv_iinc (v := v1) (lv' := [(4, .int v1), (0, .ref (a 0)), (1, .int x1), (2, .int x2), (3, .int x3)]) hx hb dX8_purse_93 hl (k := 4) rfl (by rw [ev1]; rfl) (by decide) rfl (fun ls hl => ?_)
    refine lv_goto (tgt := 43) hx hb dX8_purse_96 (by decide) ?_
    exact hk x1 x2 x3 v1 F G w _ _ _ h (lv_sub hl [1, 2, 3, 4, 0] rfl) hw
  · have hw := hw.2 c
    refine lv_iload_n hx hb dX8_purse_83 rfl (lv_at hl 3 rfl) ?_
    refine lv_aload_n hx hb dX8_purse_84 rfl (lv_at hl 0 rfl) ?_
    refine gM_8_31 C h dX8_purse_85 ?_
    refine lv_iload hx hb dX8_purse_88 (lv_at hl 4 rfl) ?_
    have hi := hw.1
    have hw := hw.2
    refine laM_15 C h hi dX8_purse_90 ?_
    refine lv_iadd hx hb dX8_purse_91 ?_
    refine lv_istore_n (lv' := [(3, .int (x3 + (G 15 x4.toNatClampNeg))), (0, .ref (a 0)), (1, .int x1), (2, .int x2), (4, .int x4)]) hx hb dX8_purse_92 rfl hl (by decide) rfl (fun ls hl => ?_)
    obtain ⟨v2, ev2⟩ : ∃ z : Int32, z = (x4 + 1) := ⟨_, rfl⟩
    have hw := hw v2 ev2
    refine lv_iinc (v := v2) (lv' := [(4, .int v2), (3, .int (x3 + (G 15 x4.toNatClampNeg))), (0, .ref (a 0)), (1, .int x1), (2, .int x2)]) hx hb dX8_purse_93 hl (k := 4) rfl (by rw [ev2]; rfl) (by decide) rfl (fun ls hl => ?_)
    refine lv_goto (tgt := 43) hx hb dX8_purse_96 (by decide) ?_
    exact hk x1 x2 (x3 + (G 15 x4.toNatClampNeg)) v2 F G w _ _ _ h (lv_sub hl [2, 3, 4, 1, 0] rfl) hw
set_option maxHeartbeats 4000000 in
set_option maxRecDepth 100000 in
theorem wk_X8_purse_43 {p : Program} {l : Launch} {e : Env} {R : Room} {s : State} {m : MethodId} {args : Array Value} {below : List Frame} {meth : Method} {c : Code} {K : KT} {A : Nat → Prop} {Z : State → Prop} {a : Nat → Nat} (hR : 1 ≤ R.frames ∧ 21 ≤ R.locals) (C : CX p s m args meth c K A cX8_purse 5 RX8) {Q : Int32 → FT → GT → Int64 → Prop} (hq : RetMi p l e R s m args below meth c K A Z a cX8_purse Q) : ∀ (n : Nat) (x1 : Int32) (x2 : Int32) (x3 : Int32) (x4 : Int32) (F : FT) (G : GT) (w : Int64) {H : Heap} {locs : List Loc} (h : WD K A s (wM K a F G w) H locs) {ls : Array Slot} (hl : lv_has ls 5 [(0, .ref (a 0)), (1, .int x1), (2, .int x2), (3, .int x3), (4, .int x4)]) (hw : wp_X8_purse_43 Q n x1 x2 x3 x4 F G w), W p l e R s m args below meth c H locs 0 0 Z (F0 m 43 ls []) := by
  intro n
  induction n with
  | zero => intro x1 x2 x3 x4 F G w H locs h ls hl hw; exact False.elim hw
  | succ n ih =>
    intro x1 x2 x3 x4 F G w H locs h ls hl hw
    rw [wp_X8_purse_43] at hw
    have hx := C.1
    have hb := C.2.1
    refine lv_iload hx hb dX8_purse_43 (lv_at hl 4 rfl) ?_
    refine lv_aload_n hx hb dX8_purse_45 rfl (lv_at hl 0 rfl) ?_
    refine gM_8_189 C h dX8_purse_46 ?_
    refine lv_icmp_ge (tgt := 99) hx hb dX8_purse_49 (by decide) (fun c => ?_) (fun c => ?_)
    · have hw := hw.1 c
      refine lv_iconst (v := (0 : Int32)) hx hb dX8_purse_99 (by decide) ?_
      refine lv_istore (lv' := [(4, .int (0 : Int32)), (0, .ref (a 0)), (1, .int x1), (2, .int x2), (3, .int x3)]) hx hb dX8_purse_100 hl (by decide) rfl (fun ls hl => ?_)
      obtain ⟨n, hw⟩ := hw
      exact wk_X8_purse_102 hR C hq n x1 x2 x3 (0 : Int32) F G w h (lv_sub hl [1, 2, 3, 4, 0] rfl) hw
    · have hw := hw.2 c
      refine lv_iload_n hx hb dX8_purse_52 rfl (lv_at hl 2 rfl) ?_
      refine lv_iconst (v := (3 : Int32)) hx hb dX8_purse_53 (by decide) ?_
      refine lv_icmp_ge (tgt := 99) hx hb dX8_purse_54 (by decide) (fun c => ?_) (fun c => ?_)
      · have hw := hw.1 c
        refine lv_iconst (v := (0 : Int32)) hx hb dX8_purse_99 (by decide) ?_
        refine lv_istore (lv' := [(4, .int (0 : Int32)), (0, .ref (a 0)), (1, .int x1), (2, .int x2), (3, .int x3)]) hx hb dX8_purse_100 hl (by decide) rfl (fun ls hl => ?_)
        obtain ⟨n, hw⟩ := hw
        exact wk_X8_purse_102 hR C hq n x1 x2 x3 (0 : Int32) F G w h (lv_sub hl [1, 2, 3, 4, 0] rfl) hw
      · have hw := hw.2 c
        refine lv_iload_n hx hb dX8_purse_57 rfl (lv_at hl 2 rfl) ?_
        refine lv_iconst (v := (1 : Int32)) hx hb dX8_purse_58 (by decide) ?_
        refine lv_icmp_ne (tgt := 72) hx hb dX8_purse_59 (by decide) (fun c => ?_) (fun c => ?_)
        · have hw := hw.1 c
          refine lv_aload_n hx hb dX8_purse_72 rfl (lv_at hl 0 rfl) ?_
          refine gM_8_25 C h dX8_purse_73 ?_
          refine lv_iload hx hb dX8_purse_76 (lv_at hl 4 rfl) ?_
          have hi := hw.1
          have hw := hw.2
          refine laM_13 C h hi dX8_purse_78 ?_
          exact wk_X8_purse_79 hR C hq (fun x1 x2 x3 x4 F G w H locs ls h hl hw => ih x1 x2 x3 x4 F G w h hl hw) x1 x2 x3 x4 (G 13 x4.toNatClampNeg) F G w h (lv_sub hl [0, 1, 2, 3, 4] rfl) hw
        · have hw := hw.2 c
          refine lv_aload_n hx hb dX8_purse_62 rfl (lv_at hl 0 rfl) ?_
          refine gM_8_22 C h dX8_purse_63 ?_
          refine lv_iload hx hb dX8_purse_66 (lv_at hl 4 rfl) ?_
          have hi := hw.1
          have hw := hw.2
          refine laM_12 C h hi dX8_purse_68 ?_
          refine lv_goto (tgt := 79) hx hb dX8_purse_69 (by decide) ?_
          exact wk_X8_purse_79 hR C hq (fun x1 x2 x3 x4 F G w H locs ls h hl hw => ih x1 x2 x3 x4 F G w h hl hw) x1 x2 x3 x4 (G 12 x4.toNatClampNeg) F G w h (lv_sub hl [0, 1, 2, 3, 4] rfl) hw
set_option maxHeartbeats 4000000 in
set_option maxRecDepth 100000 in
theorem wk_X8_purse_0 {p : Program} {l : Launch} {e : Env} {R : Room} {s : State} {m : MethodId} {args : Array Value} {below : List Frame} {meth : Method} {c : Code} {K : KT} {A : Nat → Prop} {Z : State → Prop} {a : Nat → Nat} (hR : 1 ≤ R.frames ∧ 21 ≤ R.locals) (C : CX p s m args meth c K A cX8_purse 5 RX8) {Q : Int32 → FT → GT → Int64 → Prop} (hq : RetMi p l e R s m args below meth c K A Z a cX8_purse Q) (x1 : Int32) (x2 : Int32) (F : FT) (G : GT) (w : Int64) {H : Heap} {locs : List Loc} (h : WD K A s (wM K a F G w) H locs) {ls : Array Slot} (hl : lv_has ls 5 [(0, .ref (a 0)), (1, .int x1), (2, .int x2)]) (hw : wp_X8_purse_0 Q x1 x2 F G w) : W p l e R s m args below meth c H locs 0 0 Z (F0 m 0 ls []) := by
  unfold wp_X8_purse_0 at hw
  have hx := C.1
  have hb := C.2.1
  refine lv_aload_n hx hb dX8_purse_0 rfl (lv_at hl 0 rfl) ?_
  refine lv_iload_n hx hb dX8_purse_1 rfl (lv_at hl 1 rfl) ?_
  refine kMiV C h (c_X8_isPerson x1 F G w hw) lk_8_183 (rvM_0 K a F G w) rfl hl.1 rfl (Nat.le_of_ble_eq_true rfl) ⟨Nat.le_trans (Nat.le_of_ble_eq_true rfl) hR.1, Nat.le_trans (Nat.le_of_ble_eq_true rfl) hR.2⟩ ⟨Nat.zero_le _, Nat.zero_le _⟩ dX8_purse_2 (fun r4 F1 G2 w3 H locs hw h => ?_)
  have hw := hw.2
  refine lv_if_eq (tgt := 17) hx hb dX8_purse_5 (by decide) (fun c => ?_) (fun c => ?_)
  · have hw := hw.1 c
    exact wk_X8_purse_17 hR C hq F1 G2 w3 h (lv_sub hl [0] rfl) hw
  · have hw := hw.2 c
    refine lv_iload_n hx hb dX8_purse_8 rfl (lv_at hl 2 rfl) ?_
    refine lv_if_lt (tgt := 17) hx hb dX8_purse_9 (by decide) (fun c => ?_) (fun c => ?_)
    · have hw := hw.1 c
      exact wk_X8_purse_17 hR C hq F1 G2 w3 h (lv_sub hl [0] rfl) hw
    · have hw := hw.2 c
      refine lv_iload_n hx hb dX8_purse_12 rfl (lv_at hl 2 rfl) ?_
      refine lv_iconst (v := (4 : Int32)) hx hb dX8_purse_13 (by decide) ?_
      refine lv_icmp_le (tgt := 22) hx hb dX8_purse_14 (by decide) (fun c => ?_) (fun c => ?_)
      · have hw := hw.1 c
        refine lv_aload_n hx hb dX8_purse_22 rfl (lv_at hl 0 rfl) ?_
        refine lv_iconst (v := (0 : Int32)) hx hb dX8_purse_23 (by decide) ?_
        refine pM_8_89 C h dX8_purse_24 (fun F5 H locs eF5 h => ?_)
        have hw := hw F5 eF5
        refine lv_iconst (v := (0 : Int32)) hx hb dX8_purse_27 (by decide) ?_
        refine lv_istore_n (lv' := [(3, .int (0 : Int32)), (0, .ref (a 0)), (1, .int x1), (2, .int x2)]) hx hb dX8_purse_28 rfl hl (by decide) rfl (fun ls hl => ?_)
        refine lv_iload_n hx hb dX8_purse_29 rfl (lv_at hl 3 rfl) ?_
        refine lv_if_ne (tgt := 40) hx hb dX8_purse_30 (by decide) (fun c => ?_) (fun c => ?_)
        · have hw := hw.1 c
          refine lv_iconst (v := (0 : Int32)) hx hb dX8_purse_40 (by decide) ?_
          refine lv_istore (lv' := [(4, .int (0 : Int32)), (3, .int (0 : Int32)), (0, .ref (a 0)), (1, .int x1), (2, .int x2)]) hx hb dX8_purse_41 hl (by decide) rfl (fun ls hl => ?_)
          obtain ⟨n, hw⟩ := hw
          exact wk_X8_purse_43 hR C hq n x1 x2 (0 : Int32) (0 : Int32) F5 G2 w3 h (lv_sub hl [2, 3, 4, 1, 0] rfl) hw
        · have hw := hw.2 c
          refine lv_aload_n hx hb dX8_purse_33 rfl (lv_at hl 1 rfl) ?_
          refine gM_8_19 C h dX8_purse_34 ?_
          refine lv_iload_n hx hb dX8_purse_37 rfl (lv_at hl 2 rfl) ?_
          have hi := hw.1
          have hw := hw.2
          refine laM_11 C h hi dX8_purse_38 ?_
          exact hq _ F5 G2 w3 _ _ _ _ dX8_purse_39 h hw
      · have hw := hw.2 c
        exact wk_X8_purse_17 hR C hq F1 G2 w3 h (lv_sub hl [0] rfl) hw
theorem c_X8_purse {l : Launch} {K : KT} {a : Nat → Nat} (x1 : Int32) (x2 : Int32) (F : FT) (G : GT) (w : Int64) {Q : Int32 → FT → GT → Int64 → Prop} (hw : wp_X8_purse x1 x2 F G w Q) : CtMi l K a yX8_purse cX8_purse 5 (some .int) 1 21 [.ref (a 0), .int x1, .int x2] F G w Q := fun sz => x_met (Qm := QmMi K a Q) (by decide) (Nat.le_of_ble_eq_true rfl) (fun p e s m below meth c A ls C hr h hl => wk_X8_purse_0 ⟨Nat.le_refl _, Nat.le_refl _⟩ C (retM_z C hr (fun r F G w _ => rfl)) x1 x2 F G w h hl hw)
