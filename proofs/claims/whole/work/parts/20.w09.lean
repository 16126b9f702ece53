def wp_X8_bad_14 (Q : Int32 → FT → GT → Int64 → Prop) (s0 : Int32) (F : FT) (G : GT) (w : Int64) : Prop := ∀ F1 : FT, F1 = sU F 1 s0 → ∀ F2 : FT, F2 = sU F1 26 (F1 23) → Q (0 : Int32) F2 G w
def wp_X8_bad_0 (Q : Int32 → FT → GT → Int64 → Prop) (x1 : Int32) (F : FT) (G : GT) (w : Int64) : Prop := ((¬ (F 24) = (1 : Int32)) → wp_X8_bad_14 Q x1 F G w) ∧ (((F 24) = (1 : Int32)) → wp_X8_bad_14 Q (1 : Int32) F G w)
def wp_X8_bad (x1 : Int32) (F : FT) (G : GT) (w : Int64) (Q : Int32 → FT → GT → Int64 → Prop) : Prop := wp_X8_bad_0 (fun r F G w => (r = 0 ∨ r = 1) ∧ Q r F G w) x1 F G w
set_option maxHeartbeats 4000000 in
set_option maxRecDepth 100000 in
theorem wk_X8_bad_14 {p : Program} {l : Launch} {e : Env} {R : Room} {s : State} {m : MethodId} {args : Array Value} {below : List Frame} {meth : Method} {c : Code} {K : KT} {A : Nat → Prop} {Z : State → Prop} {a : Nat → Nat} (hR : 0 ≤ R.frames ∧ 0 ≤ R.locals) (C : CX p s m args meth c K A cX8_bad 2 RX8) {Q : Int32 → FT → GT → Int64 → Prop} (hq : RetMi p l e R s m args below meth c K A Z a cX8_bad Q) (s0 : Int32) (F : FT) (G : GT) (w : Int64) {H : Heap} {locs : List Loc} (h : WD K A s (wM K a F G w) H locs) {ls : Array Slot} (hl : lv_has ls 2 [(0, .ref (a 0))]) (hw : wp_X8_bad_14 Q s0 F G w) : W p l e R s m args below meth c H locs 0 0 Z (F0 m 14 ls [.int s0, .ref (a 0)]) := by
  unfold wp_X8_bad_14 at hw
  have hx := C.1
  have hb := C.2.1
  refine pM_8_136 C h dX8_bad_14 (fun F1 H locs eF1 h => ?_)
  have hw := hw F1 eF1
  refine lv_aload_n hx hb dX8_bad_17 rfl (lv_at hl 0 rfl) ?_
  refine lv_aload_n hx hb dX8_bad_18 rfl (lv_at hl 0 rfl) ?_
  refine gM_8_106 C h dX8_bad_19 ?_
  refine pM_8_139 C h dX8_bad_22 (fun F2 H locs eF2 h => ?_)
  have hw := hw F2 eF2
  refine lv_iconst (v := (0 : Int32)) hx hb dX8_bad_25 (by decide) ?_
  exact hq _ F2 G w _ _ _ _ dX8_bad_26 h hw
set_option maxHeartbeats 4000000 in
set_option maxRecDepth 100000 in
theorem wk_X8_bad_0 {p : Program} {l : Launch} {e : Env} {R : Room} {s : State} {m : MethodId} {args : Array Value} {below : List Frame} {meth : Method} {c : Code} {K : KT} {A : Nat → Prop} {Z : State → Prop} {a : Nat → Nat} (hR : 0 ≤ R.frames ∧ 0 ≤ R.locals) (C : CX p s m args meth c K A cX8_bad 2 RX8) {Q : Int32 → FT → GT → Int64 → Prop} (hq : RetMi p l e R s m args below meth c K A Z a cX8_bad Q) (x1 : Int32) (F : FT) (G : GT) (w : Int64) {H : Heap} {locs : List Loc} (h : WD K A s (wM K a F G w) H locs) {ls : Array Slot} (hl : lv_has ls 2 [(0, .ref (a 0)), (1, .int x1)]) (hw : wp_X8_bad_0 Q x1 F G w) : W p l e R s m args below meth c H locs 0 0 Z (F0 m 0 ls []) := by
  unfold wp_X8_bad_0 at hw
  have hx := C.1
  have hb := C.2.1
  refine lv_aload_n hx hb dX8_bad_0 rfl (lv_at hl 0 rfl) ?_
  refine lv_aload_n hx hb dX8_bad_1 rfl (lv_at hl 0 rfl) ?_
  refine gM_8_109 C h dX8_bad_2 ?_
  refine lv_iconst (v := (1 : Int32)) hx hb dX8_bad_5 (by decide) ?_
  refine lv_icmp_ne (tgt := 13) hx hb dX8_bad_6 (by decide) (fun c => ?_) (fun c => ?_)
  · have hw := hw.1 c
    refine lv_iload_n hx hb dX8_bad_13 rfl (lv_at hl 1 rfl) ?_
    exact wk_X8_bad_14 hR C hq x1 F G w h (lv_sub hl [0] rfl) hw
  · have hw := hw.2 c
    refine lv_iconst (v := (1 : Int32)) hx hb dX8_bad_9 (by decide) ?_
    refine lv_goto (tgt := 14) hx hb dX8_bad_10 (by decide) ?_
    exact wk_X8_bad_14 hR C hq (1 : Int32) F G w h (lv_sub hl [0] rfl) hw
theorem c_X8_bad {l : Launch} {K : KT} {a : Nat → Nat} (x1 : Int32) (F : FT) (G : GT) (w : Int64) {Q : Int32 → FT → GT → Int64 → Prop} (hw : wp_X8_bad x1 F G w Q) : CtMi l K a yX8_bad cX8_bad 2 (some .boolean) 0 0 [.ref (a 0), .int x1] F G w (fun r F G w => (r = 0 ∨ r = 1) ∧ Q r F G w) := fun sz => x_met (Qm := QmMi K a (fun r F G w => (r = 0 ∨ r = 1) ∧ Q r F G w)) (by decide) (Nat.le_of_ble_eq_true rfl) (fun p e s m below meth c A ls C hr h hl => wk_X8_bad_0 ⟨Nat.le_refl _, Nat.le_refl _⟩ C (retM_z C hr (fun r F G w hz => by rcases hz.1 with z | z <;> rw [z] <;> rfl)) x1 F G w h hl hw)
def wp_X8_isKey_0 (Q : Int32 → FT → GT → Int64 → Prop) (x1 : Int64) (F : FT) (G : GT) (w : Int64) : Prop := ((¬ (F 24) = (2 : Int32)) → Q (0 : Int32) F G w) ∧ (((F 24) = (2 : Int32)) → ((¬ (lg_cmp w x1) = 0) → Q (0 : Int32) F G w) ∧ (((lg_cmp w x1) = 0) → Q (1 : Int32) F G w))
def wp_X8_isKey (x1 : Int64) (F : FT) (G : GT) (w : Int64) (Q : Int32 → FT → GT → Int64 → Prop) : Prop := wp_X8_isKey_0 (fun r F G w => (r = 0 ∨ r = 1) ∧ Q r F G w) x1 F G w
set_option maxHeartbeats 4000000 in
set_option maxRecDepth 100000 in
theorem wk_X8_isKey_0 {p : Program} {l : Launch} {e : Env} {R : Room} {s : State} {m : MethodId} {args : Array Value} {below : List Frame} {meth : Method} {c : Code} {K : KT} {A : Nat → Prop} {Z : State → Prop} {a : Nat → Nat} (hR : 0 ≤ R.frames ∧ 0 ≤ R.locals) (C : CX p s m args meth c K A cX8_isKey 3 RX8) {Q : Int32 → FT → GT → Int64 → Prop} (hq : RetMi p l e R s m args below meth c K A Z a cX8_isKey Q) (x1 : Int64) (F : FT) (G : GT) (w : Int64) {H : Heap} {locs : List Loc} (h : WD K A s (wM K a F G w) H locs) {ls : Array Slot} (hl : lv_has ls 3 [(0, .ref (a 0)), (1, .long x1)]) (hw : wp_X8_isKey_0 Q x1 F G w) : W p l e R s m args below meth c H locs 0 0 Z (F0 m 0 ls []) := by
  unfold wp_X8_isKey_0 at hw
  have hx := C.1
  have hb := C.2.1
  refine lv_aload_n hx hb dX8_isKey_0 rfl (lv_at hl 0 rfl) ?_
  refine gM_8_109 C h dX8_isKey_1 ?_
  refine lv_iconst (v := (2 : Int32)) hx hb dX8_isKey_4 (by decide) ?_
  refine lv_icmp_ne (tgt := 21) hx hb dX8_isKey_5 (by decide) (fun c => ?_) (fun c => ?_)
  · have hw := hw.1 c
    refine lv_iconst (v := (0 : Int32)) hx hb dX8_isKey_21 (by decide) ?_
    exact hq _ F G w _ _ _ _ dX8_isKey_22 h hw
  · have hw := hw.2 c
    refine lv_aload_n hx hb dX8_isKey_8 rfl (lv_at hl 0 rfl) ?_
    refine gM_8_119 C h dX8_isKey_9 ?_
    refine lv_lload_n hx hb dX8_isKey_12 rfl (lv_at hl 1 rfl) ?_
    refine W.lcmp hx hb dX8_isKey_13 ?_
    refine lv_if_ne (tgt := 21) hx hb dX8_isKey_14 (by decide) (fun c => ?_) (fun c => ?_)
    · have hw := hw.1 c
      refine lv_iconst (v := (0 : Int32)) hx hb dX8_isKey_21 (by decide) ?_
      exact hq _ F G w _ _ _ _ dX8_isKey_22 h hw
    · have hw := hw.2 c
      refine lv_iconst (v := (1 : Int32)) hx hb dX8_isKey_17 (by decide) ?_
      refine lv_goto (tgt := 22) hx hb dX8_isKey_18 (by decide) ?_
      exact hq _ F G w _ _ _ _ dX8_isKey_22 h hw
theorem c_X8_isKey {l : Launch} {K : KT} {a : Nat → Nat} (x1 : Int64) (F : FT) (G : GT) (w : Int64) {Q : Int32 → FT → GT → Int64 → Prop} (hw : wp_X8_isKey x1 F G w Q) : CtMi l K a yX8_isKey cX8_isKey 3 (some .boolean) 0 0 [.ref (a 0), .long x1] F G w (fun r F G w => (r = 0 ∨ r = 1) ∧ Q r F G w) := fun sz => x_met (Qm := QmMi K a (fun r F G w => (r = 0 ∨ r = 1) ∧ Q r F G w)) (by decide) (Nat.le_of_ble_eq_true rfl) (fun p e s m below meth c A ls C hr h hl => wk_X8_isKey_0 ⟨Nat.le_refl _, Nat.le_refl _⟩ C (retM_z C hr (fun r F G w hz => by rcases hz.1 with z | z <;> rw [z] <;> rfl)) x1 F G w h hl hw)
def wp_X8_readRule_176 (Q : Int32 → FT → GT → Int64 → Prop) (x4 : Int32) (F : FT) (G : GT) (w : Int64) : Prop := (((F 24) = (3 : Int32)) → vp_in ((42 : Int32) + x4) 56 ∧ ∀ G1 : GT, G1 = gU G 51 (upd (G 51) ((42 : Int32) + x4).toNatClampNeg (F 25)) → ∀ F2 : FT, F2 = sU F 27 ((F 27) ||| ((1 : Int32) <<< (x4 &&& 31))) → wp_X8_go F2 G1 w (fun F3 G4 w5 => (((F3 24) = (4 : Int32)) → Q (1 : Int32) F3 G4 w5) ∧ ((¬ (F3 24) = (4 : Int32)) → wp_X8_bad (1 : Int32) F3 G4 w5 (fun r9 F6 G7 w8 => ((r9 = 0) → Q (0 : Int32) F6 G7 w8) ∧ ((¬ r9 = 0) → Q (1 : Int32) F6 G7 w8))))) ∧ ((¬ (F 24) = (3 : Int32)) → wp_X8_bad (1 : Int32) F G w (fun r13 F10 G11 w12 => Q r13 F10 G11 w12))
def wp_X8_readRule_105 (Q : Int32 → FT → GT → Int64 → Prop) (x4 : Int32) (F : FT) (G : GT) (w : Int64) : Prop := wp_X8_go F G w (fun F1 G2 w3 => ((x4 < (2 : Int32)) → wp_X8_readRule_176 Q x4 F1 G2 w3) ∧ ((¬ x4 < (2 : Int32)) → (((F1 24) = (3 : Int32)) → (((F1 25) < (6 : Int32)) → ∀ v4 : Int32, v4 = (((F1 27) >>> ((x4 + (F1 25)) &&& 31)) &&& (1 : Int32)) → ((¬ v4 = (1 : Int32)) → wp_X8_go F1 G2 w3 (fun F5 G6 w7 => wp_X8_readRule_176 Q (x4 + (F1 25)) F5 G6 w7)) ∧ ((v4 = (1 : Int32)) → wp_X8_bad (3 : Int32) F1 G2 w3 (fun r11 F8 G9 w10 => Q r11 F8 G9 w10))) ∧ ((¬ (F1 25) < (6 : Int32)) → wp_X8_bad (2 : Int32) F1 G2 w3 (fun r15 F12 G13 w14 => Q r15 F12 G13 w14))) ∧ ((¬ (F1 24) = (3 : Int32)) → wp_X8_bad (1 : Int32) F1 G2 w3 (fun r19 F16 G17 w18 => Q r19 F16 G17 w18))))
def wp_X8_readRule_80 (Q : Int32 → FT → GT → Int64 → Prop) (x4 : Int32) (F : FT) (G : GT) (w : Int64) : Prop := (((2 : Int32) ≤ x4) → wp_X8_readRule_105 Q x4 F G w) ∧ ((¬ (2 : Int32) ≤ x4) → ((¬ (((F 27) >>> (x4 &&& 31)) &&& (1 : Int32)) = (1 : Int32)) → wp_X8_readRule_105 Q x4 F G w) ∧ (((((F 27) >>> (x4 &&& 31)) &&& (1 : Int32)) = (1 : Int32)) → wp_X8_bad (3 : Int32) F G w (fun r4 F1 G2 w3 => Q r4 F1 G2 w3)))
def wp_X8_readRule_50 (Q : Int32 → FT → GT → Int64 → Prop) (x1 : Int32) (x2 : Int32) (x3 : Int32) (s0 : Int32) (F : FT) (G : GT) (w : Int64) : Prop := ((¬ x1 = 0) → wp_X8_readRule_80 Q s0 F G w) ∧ ((x1 = 0) → ((¬ x2 = 0) → wp_X8_readRule_80 Q s0 F G w) ∧ ((x2 = 0) → ((¬ x3 = 0) → wp_X8_readRule_80 Q s0 F G w) ∧ ((x3 = 0) → wp_X8_isKey (8934941513 : Int64) F G w (fun r4 F1 G2 w3 => ((¬ r4 = 0) → wp_X8_readRule_80 Q s0 F1 G2 w3) ∧ ((r4 = 0) → wp_X8_bad (1 : Int32) F1 G2 w3 (fun r8 F5 G6 w7 => Q r8 F5 G6 w7))))))
def wp_X8_readRule_0 (Q : Int32 → FT → GT → Int64 → Prop) (F : FT) (G : GT) (w : Int64) : Prop := wp_X8_isKey (404931 : Int64) F G w (fun r4 F1 G2 w3 => wp_X8_isKey (307058 : Int64) F1 G2 w3 (fun r8 F5 G6 w7 => wp_X8_isKey (80155 : Int64) F5 G6 w7 (fun r12 F9 G10 w11 => ((r4 = 0) → ((r8 = 0) → ((r12 = 0) → wp_X8_readRule_50 Q r4 r8 r12 (8 : Int32) F9 G10 w11) ∧ ((¬ r12 = 0) → wp_X8_readRule_50 Q r4 r8 r12 (2 : Int32) F9 G10 w11)) ∧ ((¬ r8 = 0) → wp_X8_readRule_50 Q r4 r8 r12 (1 : Int32) F9 G10 w11)) ∧ ((¬ r4 = 0) → wp_X8_readRule_50 Q r4 r8 r12 (0 : Int32) F9 G10 w11))))
def wp_X8_readRule (F : FT) (G : GT) (w : Int64) (Q : Int32 → FT → GT → Int64 → Prop) : Prop := wp_X8_readRule_0 (fun r F G w => (r = 0 ∨ r = 1) ∧ Q r F G w) F G w
set_option maxHeartbeats 4000000 in
set_option maxRecDepth 100000 in
theorem wk_X8_readRule_176 {p : Program} {l : Launch} {e : Env} {R : Room} {s : State} {m : MethodId} {args : Array Value} {below : List Frame} {meth : Method} {c : Code} {K : KT} {A : Nat → Prop} {Z : State → Prop} {a : Nat → Nat} (hR : 2 ≤ R.frames ∧ 45 ≤ R.locals) (C : CX p s m args meth c K A cX8_readRule 5 RX8) {Q : Int32 → FT → GT → Int64 → Prop} (hq : RetMi p l e R s m args below meth c K A Z a cX8_readRule Q) (x4 : Int32) (F : FT) (G : GT) (w : Int64) {H : Heap} {locs : List Loc} (h : WD K A s (wM K a F G w) H locs) {ls : Array Slot} (hl : lv_has ls 5 [(0, .ref (a 0)), (4, .int x4)]) (hw : wp_X8_readRule_176 Q x4 F G w) : W p l e R s m args below meth c H locs 0 0 Z (F0 m 176 ls []) := by
  unfold wp_X8_readRule_176 at hw
  have hx := C.1
  have hb := C.2.1
  refine lv_aload_n hx hb dX8_readRule_176 rfl (lv_at hl 0 rfl) ?_
  refine gM_8_109 C h dX8_readRule_177 ?_
  refine lv_iconst (v := (3 : Int32)) hx hb dX8_readRule_180 (by decide) ?_
  refine lv_icmp_eq (tgt := 190) hx hb dX8_readRule_181 (by decide) (fun c => ?_) (fun c => ?_)
  · have hw := hw.1 c
    refine lv_aload_n hx hb dX8_readRule_190 rfl (lv_at hl 0 rfl) ?_
    refine gM_8_13 C h dX8_readRule_191 ?_
    refine lv_bipush (v := (42 : Int32)) hx hb dX8_readRule_194 (by decide) ?_
    refine lv_iload hx hb dX8_readRule_196 (lv_at hl 1 rfl) ?_
    refine lv_iadd hx hb dX8_readRule_198 ?_
    refine lv_aload_n hx hb dX8_readRule_199 rfl (lv_at hl 0 rfl) ?_
    refine gM_8_123 C h dX8_readRule_200 ?_
    have hi := hw.1
    have hw := hw.2
    refine saM_51 C h hi dX8_readRule_203 (fun G1 H locs eG1 h => ?_)
    have hw := hw G1 eG1
    refine lv_aload_n hx hb dX8_readRule_204 rfl (lv_at hl 0 rfl) ?_
    refine lv_dup hx hb dX8_readRule_205 rfl ?_
    refine gM_8_161 C h dX8_readRule_206 ?_
    refine lv_iconst (v := (1 : Int32)) hx hb dX8_readRule_209 (by decide) ?_
    refine lv_iload hx hb dX8_readRule_210 (lv_at hl 1 rfl) ?_
    refine lv_ishl hx hb dX8_readRule_212 ?_
    refine lv_ior hx hb dX8_readRule_213 ?_
    refine pM_8_161 C h dX8_readRule_214 (fun F2 H locs eF2 h => ?_)
    have hw := hw F2 eF2
    refine lv_aload_n hx hb dX8_readRule_217 rfl (lv_at hl 0 rfl) ?_
    refine kMvV C h (c_X8_go F2 G1 w hw) lk_8_164 (rvM_0 K a F2 G1 w) rfl hl.1 rfl (Nat.le_of_ble_eq_true rfl) ⟨Nat.le_trans (Nat.le_of_ble_eq_true rfl) hR.1, Nat.le_trans (Nat.le_of_ble_eq_true rfl) hR.2⟩ ⟨Nat.zero_le _, Nat.zero_le _⟩ dX8_readRule_218 (fun F3 G4 w5 H locs hw h => ?_)
    refine lv_aload_n hx hb dX8_readRule_221 rfl (lv_at hl 0 rfl) ?_
    refine gM_8_109 C h dX8_readRule_222 ?_
    refine lv_iconst (v := (4 : Int32)) hx hb dX8_readRule_225 (by decide) ?_
    refine lv_icmp_eq (tgt := 237) hx hb dX8_readRule_226 (by decide) (fun c => ?_) (fun c => ?_)
    · have hw := hw.1 c
      refine lv_iconst (v := (1 : Int32)) hx hb dX8_readRule_237 (by decide) ?_
      refine lv_goto (tgt := 242) hx hb dX8_readRule_238 (by decide) ?_
      exact hq _ F3 G4 w5 _ _ _ _ dX8_readRule_242 h hw
    · have hw := hw.2 c
      refine lv_aload_n hx hb dX8_readRule_229 rfl (lv_at hl 0 rfl) ?_
      refine lv_iconst (v := (1 : Int32)) hx hb dX8_readRule_230 (by decide) ?_
      refine kMiV C h (c_X8_bad (1 : Int32) F3 G4 w5 hw) lk_8_158 (rvM_0 K a F3 G4 w5) rfl hl.1 rfl (Nat.le_of_ble_eq_true rfl) ⟨Nat.le_trans (Nat.le_of_ble_eq_true rfl) hR.1, Nat.le_trans (Nat.le_of_ble_eq_true rfl) hR.2⟩ ⟨Nat.zero_le _, Nat.zero_le _⟩ dX8_readRule_231 (fun r9 F6 G7 w8 H locs hw h => ?_)
      have hw := hw.2
      refine lv_if_eq (tgt := 241) hx hb dX8_readRule_234 (by decide) (fun c => ?_) (fun c => ?_)
      · have hw := hw.1 c
        refine lv_iconst (v := (0 : Int32)) hx hb dX8_readRule_241 (by decide) ?_
        exact hq _ F6 G7 w8 _ _ _ _ dX8_readRule_242 h hw
      · have hw := hw.2 c
        refine lv_iconst (v := (1 : Int32)) hx hb dX8_readRule_237 (by decide) ?_
        refine lv_goto (tgt := 242) hx hb dX8_readRule_238 (by decide) ?_
        exact hq _ F6 G7 w8 _ _ _ _ dX8_readRule_242 h hw
  · have hw := hw.2 c
    refine lv_aload_n hx hb dX8_readRule_184 rfl (lv_at hl 0 rfl) ?_
    refine lv_iconst (v := (1 : Int32)) hx hb dX8_readRule_185 (by decide) ?_
    refine kMiV C h (c_X8_bad (1 : Int32) F G w hw) lk_8_158 (rvM_0 K a F G w) rfl hl.1 rfl (Nat.le_of_ble_eq_true rfl) ⟨Nat.le_trans (Nat.le_of_ble_eq_true rfl) hR.1, Nat.le_trans (Nat.le_of_ble_eq_true rfl) hR.2⟩ ⟨Nat.zero_le _, Nat.zero_le _⟩ dX8_readRule_186 (fun r13 F10 G11 w12 H locs hw h => ?_)
    have hw := hw.2
    exact hq _ F10 G11 w12 _ _ _ _ dX8_readRule_189 h hw
set_option maxHeartbeats 4000000 in
set_option maxRecDepth 100000 in
theorem wk_X8_readRule_105 {p : Program} {l : Launch} {e : Env} {R : Room} {s : State} {m : MethodId} {args : Array Value} {below : List Frame} {meth : Method} {c : Code} {K : KT} {A : Nat → Prop} {Z : State → Prop} {a : Nat → Nat} (hR : 2 ≤ R.frames ∧ 45 ≤ R.locals) (C : CX p s m args meth c K A cX8_readRule 5 RX8) {Q : Int32 → FT → GT → Int64 → Prop} (hq : RetMi p l e R s m args below meth c K A Z a cX8_readRule Q) (x4 : Int32) (F : FT) (G : GT) (w : Int64) {H : Heap} {locs : List Loc} (h : WD K A s (wM K a F G w) H locs) {ls : Array Slot} (hl : lv_has ls 5 [(0, .ref (a 0)), (4, .int x4)]) (hw : wp_X8_readRule_105 Q x4 F G w) : W p l e R s m args below meth c H locs 0 0 Z (F0 m 105 ls []) := by
  unfold wp_X8_readRule_105 at hw
  have hx := C.1
  have hb := C.2.1
  refine lv_aload_n hx hb dX8_readRule_105 rfl (lv_at hl 0 rfl) ?_
  refine kMvV C h (c_X8_go F G w hw) lk_8_164 (rvM_0 K a F G w) rfl hl.1 rfl (Nat.le_of_ble_eq_true rfl) ⟨Nat.le_trans (Nat.le_of_ble_eq_true rfl) hR.1, Nat.le_trans (Nat.le_of_ble_eq_true rfl) hR.2⟩ ⟨Nat.zero_le _, Nat.zero_le _⟩ dX8_readRule_106 (fun F1 G2 w3 H locs hw h => ?_)
  refine lv_iload hx hb dX8_readRule_109 (lv_at hl 1 rfl) ?_
  refine lv_iconst (v := (2 : Int32)) hx hb dX8_readRule_111 (by decide) ?_
  refine lv_icmp_lt (tgt := 176) hx hb dX8_readRule_112 (by decide) (fun c => ?_) (fun c => ?_)
  · have hw := hw.1 c
    exact wk_X8_readRule_176 hR C hq x4 F1 G2 w3 h (lv_sub hl [0, 1] rfl) hw
  · have hw := hw.2 c
    refine lv_aload_n hx hb dX8_readRule_115 rfl (lv_at hl 0 rfl) ?_
    refine gM_8_109 C h dX8_readRule_116 ?_
    refine lv_iconst (v := (3 : Int32)) hx hb dX8_readRule_119 (by decide) ?_
    refine lv_icmp_eq (tgt := 129) hx hb dX8_readRule_120 (by decide) (fun c => ?_) (fun c => ?_)
    · have hw := hw.1 c
      refine lv_aload_n hx hb dX8_readRule_129 rfl (lv_at hl 0 rfl) ?_
      refine gM_8_123 C h dX8_readRule_130 ?_
      refine lv_bipush (v := (6 : Int32)) hx hb dX8_readRule_133 (by decide) ?_
      refine lv_icmp_lt (tgt := 144) hx hb dX8_readRule_135 (by decide) (fun c => ?_) (fun c => ?_)
      · have hw := hw.1 c
        refine lv_iload hx hb dX8_readRule_144 (lv_at hl 1 rfl) ?_
        refine lv_aload_n hx hb dX8_readRule_146 rfl (lv_at hl 0 rfl) ?_
        refine gM_8_123 C h dX8_readRule_147 ?_
        refine lv_iadd hx hb dX8_readRule_150 ?_
        refine lv_istore (lv' := [(4, .int (x4 + (F1 25))), (0, .ref (a 0))]) hx hb dX8_readRule_151 hl (by decide) rfl (fun ls hl => ?_)
        refine lv_aload_n hx hb dX8_readRule_153 rfl (lv_at hl 1 rfl) ?_
        refine gM_8_161 C h dX8_readRule_154 ?_
        refine lv_iload hx hb dX8_readRule_157 (lv_at hl 0 rfl) ?_
        refine lv_ishr hx hb dX8_readRule_159 ?_
        refine lv_iconst (v := (1 : Int32)) hx hb dX8_readRule_160 (by decide) ?_
        refine lv_iand hx hb dX8_readRule_161 ?_
        refine lv_topi (fun v4 ev4 => ?_)
        have hw := hw v4 ev4
        refine lv_iconst (v := (1 : Int32)) hx hb dX8_readRule_162 (by decide) ?_
        refine lv_icmp_ne (tgt := 172) hx hb dX8_readRule_163 (by decide) (fun c => ?_) (fun c => ?_)
        · have hw := hw.1 c
          refine lv_aload_n hx hb dX8_readRule_172 rfl (lv_at hl 1 rfl) ?_
          refine kMvV C h (c_X8_go F1 G2 w3 hw) lk_8_164 (rvM_0 K a F1 G2 w3) rfl hl.1 rfl (Nat.le_of_ble_eq_true rfl) ⟨Nat.le_trans (Nat.le_of_ble_eq_true rfl) hR.1, Nat.le_trans (Nat.le_of_ble_eq_true rfl) hR.2⟩ ⟨Nat.zero_le _, Nat.zero_le _⟩ dX8_readRule_173 (fun F5 G6 w7 H locs hw h => ?_)
          exact wk_X8_readRule_176 hR C hq (x4 + (F1 25)) F5 G6 w7 h (lv_sub hl [1, 0] rfl) hw
        · have hw := hw.2 c
          refine lv_aload_n hx hb dX8_readRule_166 rfl (lv_at hl 1 rfl) ?_
          refine lv_iconst (v := (3 : Int32)) hx hb dX8_readRule_167 (by decide) ?_
          refine kMiV C h (c_X8_bad (3 : Int32) F1 G2 w3 hw) lk_8_158 (rvM_0 K a F1 G2 w3) rfl hl.1 rfl (Nat.le_of_ble_eq_true rfl) ⟨Nat.le_trans (Nat.le_of_ble_eq_true rfl) hR.1, Nat.le_trans (Nat.le_of_ble_eq_true rfl) hR.2⟩ ⟨Nat.zero_le _, Nat.zero_le _⟩ dX8_readRule_168 (fun r11 F8 G9 w10 H locs hw h => ?_)
          have hw := hw.2
          exact hq _ F8 G9 w10 _ _ _ _ dX8_readRule_171 h hw
      · have hw := hw.2 c
        refine lv_aload_n hx hb dX8_readRule_138 rfl (lv_at hl 0 rfl) ?_
        refine lv_iconst (v := (2 : Int32)) hx hb dX8_readRule_139 (by decide) ?_
        refine kMiV C h (c_X8_bad (2 : Int32) F1 G2 w3 hw) lk_8_158 (rvM_0 K a F1 G2 w3) rfl hl.1 rfl (Nat.le_of_ble_eq_true rfl) ⟨Nat.le_trans (Nat.le_of_ble_eq_true rfl) hR.1, Nat.le_trans (Nat.le_of_ble_eq_true rfl) hR.2⟩ ⟨Nat.zero_le _, Nat.zero_le _⟩ dX8_readRule_140 (fun r15 F12 G13 w14 H locs hw h => ?_)
        have hw := hw.2
        exact hq _ F12 G13 w14 _ _ _ _ dX8_readRule_143 h hw
    · have hw := hw.2 c
      refine lv_aload_n hx hb dX8_readRule_123 rfl (lv_at hl 0 rfl) ?_
      refine lv_iconst (v := (1 : Int32)) hx hb dX8_readRule_124 (by decide) ?_
      refine kMiV C h (c_X8_bad (1 : Int32) F1 G2 w3 hw) lk_8_158 (rvM_0 K a F1 G2 w3) rfl hl.1 rfl (Nat.le_of_ble_eq_true rfl) ⟨Nat.le_trans (Nat.le_of_ble_eq_true rfl) hR.1, Nat.le_trans (Nat.le_of_ble_eq_true rfl) hR.2⟩ ⟨Nat.zero_le _, Nat.zero_le _⟩ dX8_readRule_125 (fun r19 F16 G17 w18 H locs hw h => ?_)
      have hw := hw.2
      exact hq _ F16 G17 w18 _ _ _ _ dX8_readRule_128 h hw
set_option maxHeartbeats 4000000 in
set_option maxRecDepth 100000 in
theorem wk_X8_readRule_80 {p : Program} {l : Launch} {e : Env} {R : Room} {s : State} {m : MethodId} {args : Array Value} {below : List Frame} {meth : Method} {c : Code} {K : KT} {A : Nat → Prop} {Z : State → Prop} {a : Nat → Nat} (hR : 2 ≤ R.frames ∧ 45 ≤ R.locals) (C : CX p s m args meth c K A cX8_readRule 5 RX8) {Q : Int32 → FT → GT → Int64 → Prop} (hq : RetMi p l e R s m args below meth c K A Z a cX8_readRule Q) (x4 : Int32) (F : FT) (G : GT) (w : Int64) {H : Heap} {locs : List Loc} (h : WD K A s (wM K a F G w) H locs) {ls : Array Slot} (hl : lv_has ls 5 [(0, .ref (a 0)), (4, .int x4)]) (hw : wp_X8_readRule_80 Q x4 F G w) : W p l e R s m args below meth c H locs 0 0 Z (F0 m 80 ls []) := by
  unfold wp_X8_readRule_80 at hw
  have hx := C.1
  have hb := C.2.1
  refine lv_iload hx hb dX8_readRule_80 (lv_at hl 1 rfl) ?_
  refine lv_iconst (v := (2 : Int32)) hx hb dX8_readRule_82 (by decide) ?_
  refine lv_icmp_ge (tgt := 105) hx hb dX8_readRule_83 (by decide) (fun c => ?_) (fun c => ?_)
  · have hw := hw.1 c
    exact wk_X8_readRule_105 hR C hq x4 F G w h (lv_sub hl [0, 1] rfl) hw
  · have hw := hw.2 c
    refine lv_aload_n hx hb dX8_readRule_86 rfl (lv_at hl 0 rfl) ?_
    refine gM_8_161 C h dX8_readRule_87 ?_
    refine lv_iload hx hb dX8_readRule_90 (lv_at hl 1 rfl) ?_
    refine lv_ishr hx hb dX8_readRule_92 ?_
    refine lv_iconst (v := (1 : Int32)) hx hb dX8_readRule_93 (by decide) ?_
    refine lv_iand hx hb dX8_readRule_94 ?_
    refine lv_iconst (v := (1 : Int32)) hx hb dX8_readRule_95 (by decide) ?_
    refine lv_icmp_ne (tgt := 105) hx hb dX8_readRule_96 (by decide) (fun c => ?_) (fun c => ?_)
    · have hw := hw.1 c
      exact wk_X8_readRule_105 hR C hq x4 F G w h (lv_sub hl [0, 1] rfl) hw
    · have hw := hw.2 c
      refine lv_aload_n hx hb dX8_readRule_99 rfl (lv_at hl 0 rfl) ?_
      refine lv_iconst (v := (3 : Int32)) hx hb dX8_readRule_100 (by decide) ?_
      refine kMiV C h (c_X8_bad (3 : Int32) F G w hw) lk_8_158 (rvM_0 K a F G w) rfl hl.1 rfl (Nat.le_of_ble_eq_true rfl) ⟨Nat.le_trans (Nat.le_of_ble_eq_true rfl) hR.1, Nat.le_trans (Nat.le_of_ble_eq_true rfl) hR.2⟩ ⟨Nat.zero_le _, Nat.zero_le _⟩ dX8_readRule_101 (fun r4 F1 G2 w3 H locs hw h => ?_)
      have hw := hw.2
      exact hq _ F1 G2 w3 _ _ _ _ dX8_readRule_104 h hw
set_option maxHeartbeats 4000000 in
set_option maxRecDepth 100000 in
theorem wk_X8_readRule_50 {p : Program} {l : Launch} {e : Env} {R : Room} {s : State} {m : MethodId} {args : Array Value} {below : List Frame} {meth : Method} {c : Code} {K : KT} {A : Nat → Prop} {Z : State → Prop} {a : Nat → Nat} (hR : 2 ≤ R.frames ∧ 45 ≤ R.locals) (C : CX p s m args meth c K A cX8_readRule 5 RX8) {Q : Int32 → FT → GT → Int64 → Prop} (hq : RetMi p l e R s m args below meth c K A Z a cX8_readRule Q) (x1 : Int32) (x2 : Int32) (x3 : Int32) (s0 : Int32) (F : FT) (G : GT) (w : Int64) {H : Heap} {locs : List Loc} (h : WD K A s (wM K a F G w) H locs) {ls : Array Slot} (hl : lv_has ls 5 [(0, .ref (a 0)), (1, .int x1), (2, .int x2), (3, .int x3)]) (hw : wp_X8_readRule_50 Q x1 x2 x3 s0 F G w) : W p l e R s m args below meth c H locs 0 0 Z (F0 m 50 ls [.int s0]) := by
  unfold wp_X8_readRule_50 at hw
  have hx := C.1
  have hb := C.2.1
  refine lv_istore (lv' := [(4, .int s0), (0, .ref (a 0)), (1, .int x1), (2, .int x2), (3, .int x3)]) hx hb dX8_readRule_50 hl (by decide) rfl (fun ls hl => ?_)
  refine lv_iload_n hx hb dX8_readRule_52 rfl (lv_at hl 2 rfl) ?_
  refine lv_if_ne (tgt := 80) hx hb dX8_readRule_53 (by decide) (fun c => ?_) (fun c => ?_)
  · have hw := hw.1 c
    exact wk_X8_readRule_80 hR C hq s0 F G w h (lv_sub hl [1, 0] rfl) hw
  · have hw := hw.2 c
    refine lv_iload_n hx hb dX8_readRule_56 rfl (lv_at hl 3 rfl) ?_
    refine lv_if_ne (tgt := 80) hx hb dX8_readRule_57 (by decide) (fun c => ?_) (fun c => ?_)
    · have hw := hw.1 c
      exact wk_X8_readRule_80 hR C hq s0 F G w h (lv_sub hl [1, 0] rfl) hw
    · have hw := hw.2 c
      refine lv_iload_n hx hb dX8_readRule_60 rfl (lv_at hl 4 rfl) ?_
      refine lv_if_ne (tgt := 80) hx hb dX8_readRule_61 (by decide) (fun c => ?_) (fun c => ?_)
      · have hw := hw.1 c
        exact wk_X8_readRule_80 hR C hq s0 F G w h (lv_sub hl [1, 0] rfl) hw
      · have hw := hw.2 c
        refine lv_aload_n hx hb dX8_readRule_64 rfl (lv_at hl 1 rfl) ?_
        refine va_gets hx hb C.2.2.2.2.2.2.2.1.2.2.2.2.2.1.2.2.2 h.2.2 C.2.2.2.1 (C.2.2.2.2.1 _ ks_155) (fun _ z => z) dX8_readRule_65 ?_
        refine kMiV C h (c_X8_isKey (8934941513 : Int64) F G w hw) lk_8_145 (rvM_0 K a F G w) rfl hl.1 rfl (Nat.le_of_ble_eq_true rfl) ⟨Nat.le_trans (Nat.le_of_ble_eq_true rfl) hR.1, Nat.le_trans (Nat.le_of_ble_eq_true rfl) hR.2⟩ ⟨Nat.zero_le _, Nat.zero_le _⟩ dX8_readRule_68 (fun r4 F1 G2 w3 H locs hw h => ?_)
        have hw := hw.2
        refine lv_if_ne (tgt := 80) hx hb dX8_readRule_71 (by decide) (fun c => ?_) (fun c => ?_)
        · have hw := hw.1 c
          exact wk_X8_readRule_80 hR C hq s0 F1 G2 w3 h (lv_sub hl [1, 0] rfl) hw
        · have hw := hw.2 c
          refine lv_aload_n hx hb dX8_readRule_74 rfl (lv_at hl 1 rfl) ?_
          refine lv_iconst (v := (1 : Int32)) hx hb dX8_readRule_75 (by decide) ?_
          refine kMiV C h (c_X8_bad (1 : Int32) F1 G2 w3 hw) lk_8_158 (rvM_0 K a F1 G2 w3) rfl hl.1 rfl (Nat.le_of_ble_eq_true rfl) ⟨Nat.le_trans (Nat.le_of_ble_eq_true rfl) hR.1, Nat.le_trans (Nat.le_of_ble_eq_true rfl) hR.2⟩ ⟨Nat.zero_le _, Nat.zero_le _⟩ dX8_readRule_76 (fun r8 F5 G6 w7 H locs hw h => ?_)
          have hw := hw.2
          exact hq _ F5 G6 w7 _ _ _ _ dX8_readRule_79 h hw
set_option maxHeartbeats 4000000 in
set_option maxRecDepth 100000 in
theorem wk_X8_readRule_0 {p : Program} {l : Launch} {e : Env} {R : Room} {s : State} {m : MethodId} {args : Array Value} {below : List Frame} {meth : Method} {c : Code} {K : KT} {A : Nat → Prop} {Z : State → Prop} {a : Nat → Nat} (hR : 2 ≤ R.frames ∧ 45 ≤ R.locals) (C : CX p s m args meth c K A cX8_readRule 5 RX8) {Q : Int32 → FT → GT → Int64 → Prop} (hq : RetMi p l e R s m args below meth c K A Z a cX8_readRule Q) (F : FT) (G : GT) (w : Int64) {H : Heap} {locs : List Loc} (h : WD K A s (wM K a F G w) H locs) {ls : Array Slot} (hl : lv_has ls 5 [(0, .ref (a 0))]) (hw : wp_X8_readRule_0 Q F G w) : W p l e R s m args below meth c H locs 0 0 Z (F0 m 0 ls []) := by
  unfold wp_X8_readRule_0 at hw
  have hx := C.1
  have hb := C.2.1
  refine lv_aload_n hx hb dX8_readRule_0 rfl (lv_at hl 0 rfl) ?_
  refine va_gets hx hb C.2.2.2.2.2.2.2.1.2.2.2.2.2.1.1 h.2.2 C.2.2.2.1 (C.2.2.2.2.1 _ ks_142) (fun _ z => z) dX8_readRule_1 ?_
  refine kMiV C h (c_X8_isKey (404931 : Int64) F G w hw) lk_8_145 (rvM_0 K a F G w) rfl hl.1 rfl (Nat.le_of_ble_eq_true rfl) ⟨Nat.le_trans (Nat.le_of_ble_eq_true rfl) hR.1, Nat.le_trans (Nat.le_of_ble_eq_true rfl) hR.2⟩ ⟨Nat.zero_le _, Nat.zero_le _⟩ dX8_readRule_4 (fun r4 F1 G2 w3 H locs hw h => ?_)
  have hw := hw.2
  refine lv_istore_n (lv' := [(1, .int r4), (0, .ref (a 0))]) hx hb dX8_readRule_7 rfl hl (by decide) rfl (fun ls hl => ?_)
  refine lv_aload_n hx hb dX8_readRule_8 rfl (lv_at hl 1 rfl) ?_
  refine va_gets hx hb C.2.2.2.2.2.2.2.1.2.2.2.2.2.1.2.1 h.2.2 C.2.2.2.1 (C.2.2.2.2.1 _ ks_149) (fun _ z => z) dX8_readRule_9 ?_
  refine kMiV C h (c_X8_isKey (307058 : Int64) F1 G2 w3 hw) lk_8_145 (rvM_0 K a F1 G2 w3) rfl hl.1 rfl (Nat.le_of_ble_eq_true rfl) ⟨Nat.le_trans (Nat.le_of_ble_eq_true rfl) hR.1, Nat.le_trans (Nat.le_of_ble_eq_true rfl) hR.2⟩ ⟨Nat.zero_le _, Nat.zero_le _⟩ dX8_readRule_12 (fun r8 F5 G6 w7 H locs hw h => ?_)
  have hw := hw.2
  refine lv_istore_n (lv' := [(2, .int r8), (1, .int r4), (0, .ref (a 0))]) hx hb dX8_readRule_15 rfl hl (by decide) rfl (fun ls hl => ?_)
  refine lv_aload_n hx hb dX8_readRule_16 rfl (lv_at hl 2 rfl) ?_
  refine va_gets hx hb C.2.2.2.2.2.2.2.1.2.2.2.2.2.1.2.2.1 h.2.2 C.2.2.2.1 (C.2.2.2.2.1 _ ks_152) (fun _ z => z) dX8_readRule_17 ?_
  refine kMiV C h (c_X8_isKey (80155 : Int64) F5 G6 w7 hw) lk_8_145 (rvM_0 K a F5 G6 w7) rfl hl.1 rfl (Nat.le_of_ble_eq_true rfl) ⟨Nat.le_trans (Nat.le_of_ble_eq_true rfl) hR.1, Nat.le_trans (Nat.le_of_ble_eq_true rfl) hR.2⟩ ⟨Nat.zero_le _, Nat.zero_le _⟩ dX8_readRule_20 (fun r12 F9 G10 w11 H locs hw h => ?_)
  have hw := hw.2
  refine lv_istore_n (lv' := [(3, .int r12), (2, .int r8), (1, .int r4), (0, .ref (a 0))]) hx hb dX8_readRule_23 rfl hl (by decide) rfl (fun ls hl => ?_)
  refine lv_iload_n hx hb dX8_readRule_24 rfl (lv_at hl 2 rfl) ?_
  refine lv_if_eq (tgt := 32) hx hb dX8_readRule_25 (by decide) (fun c => ?_) (fun c => ?_)
  · have hw := hw.1 c
    refine lv_iload_n hx hb dX8_readRule_32 rfl (lv_at hl 1 rfl) ?_
    refine lv_if_eq (tgt := 40) hx hb dX8_readRule_33 (by decide) (fun c => ?_) (fun c => ?_)
    · have hw := hw.1 c
      refine lv_iload_n hx hb dX8_readRule_40 rfl (lv_at hl 0 rfl) ?_
      refine lv_if_eq (tgt := 48) hx hb dX8_readRule_41 (by decide) (fun c => ?_) (fun c => ?_)
      · have hw := hw.1 c
        refine lv_bipush (v := (8 : Int32)) hx hb dX8_readRule_48 (by decide) ?_
        exact wk_X8_readRule_50 hR C hq r4 r8 r12 (8 : Int32) F9 G10 w11 h (lv_sub hl [3, 2, 1, 0] rfl) hw
      · have hw := hw.2 c
        refine lv_iconst (v := (2 : Int32)) hx hb dX8_readRule_44 (by decide) ?_
        refine lv_goto (tgt := 50) hx hb dX8_readRule_45 (by decide) ?_
        exact wk_X8_readRule_50 hR C hq r4 r8 r12 (2 : Int32) F9 G10 w11 h (lv_sub hl [3, 2, 1, 0] rfl) hw
    · have hw := hw.2 c
      refine lv_iconst (v := (1 : Int32)) hx hb dX8_readRule_36 (by decide) ?_
      refine lv_goto (tgt := 50) hx hb dX8_readRule_37 (by decide) ?_
      exact wk_X8_readRule_50 hR C hq r4 r8 r12 (1 : Int32) F9 G10 w11 h (lv_sub hl [3, 2, 1, 0] rfl) hw
  · have hw := hw.2 c
    refine lv_iconst (v := (0 : Int32)) hx hb dX8_readRule_28 (by decide) ?_
    refine lv_goto (tgt := 50) hx hb dX8_readRule_29 (by decide) ?_
    exact wk_X8_readRule_50 hR C hq r4 r8 r12 (0 : Int32) F9 G10 w11 h (lv_sub hl [3, 2, 1, 0] rfl) hw
theorem c_X8_readRule {l : Launch} {K : KT} {a : Nat → Nat} (F : FT) (G : GT) (w : Int64) {Q : Int32 → FT → GT → Int64 → Prop} (hw : wp_X8_readRule F G w Q) : CtMi l K a yX8_readRule cX8_readRule 5 (some .boolean) 2 45 [.ref (a 0)] F G w (fun r F G w => (r = 0 ∨ r = 1) ∧ Q r F G w) := fun sz => x_met (Qm := QmMi K a (fun r F G w => (r = 0 ∨ r = 1) ∧ Q r F G w)) (by decide) (Nat.le_of_ble_eq_true rfl) (fun p e s m below meth c A ls C hr h hl => wk_X8_readRule_0 ⟨Nat.le_refl _, Nat.le_refl _⟩ C (retM_z C hr (fun r F G w hz => by rcases hz.1 with z | z <;> rw [z] <;> rfl)) F G w h hl hw)
def wp_X8_law_9 (Q : Int32 → FT → GT → Int64 → Prop) (F : FT) (G : GT) (w : Int64) : Prop := wp_X8_refuse F G w (fun r4 F1 G2 w3 => Q r4 F1 G2 w3)
def wp_X8_law_110 (Q : Int32 → FT → GT → Int64 → Prop) : Nat → Int32 → Int32 → Int32 → FT → GT → Int64 → Prop
  | 0, _, _, _, _, _, _ => False
  | n + 1, x1, x2, x3, F, G, w => (((14 : Int32) ≤ x3) → Q x2 F G w) ∧ ((¬ (14 : Int32) ≤ x3) → vp_in ((42 : Int32) + x3) 56 ∧ vp_in (((14 : Int32) * x1) + x3) 56 ∧ ∀ G1 : GT, G1 = gU G 51 (upd (G 51) (((14 : Int32) * x1) + x3).toNatClampNeg (G 51 ((42 : Int32) + x3).toNatClampNeg)) → ∀ v2 : Int32, v2 = (x3 + 1) → wp_X8_law_110 Q n x1 x2 v2 F G1 w)
def wp_X8_law_77 (Q : Int32 → FT → GT → Int64 → Prop) : Nat → Int32 → Int32 → FT → GT → Int64 → Prop
  | 0, _, _, _, _, _ => False
  | n + 1, x1, x2, F, G, w => (((F 24) = 0) → ∃ n : Nat, wp_X8_law_110 Q n x1 x2 (0 : Int32) F G w) ∧ ((¬ (F 24) = 0) → wp_X8_readRule F G w (fun r4 F1 G2 w3 => ((¬ r4 = 0) → ∀ v5 : Int32, v5 = (x2 + 1) → wp_X8_go F1 G2 w3 (fun F6 G7 w8 => wp_X8_law_77 Q n x1 v5 F6 G7 w8)) ∧ ((r4 = 0) → Q ((-1 : Int32) - (F1 26)) F1 G2 w3)))
def wp_X8_law_44 (Q : Int32 → FT → GT → Int64 → Prop) : Nat → Int32 → Int32 → FT → GT → Int64 → Prop
  | 0, _, _, _, _, _ => False
  | n + 1, x1, x2, F, G, w => (((14 : Int32) ≤ x2) → ∀ F1 : FT, F1 = sU F 22 (0 : Int32) → wp_X8_go F1 G w (fun F2 G3 w4 => ∃ n : Nat, wp_X8_law_77 Q n x1 (0 : Int32) F2 G3 w4)) ∧ ((¬ (14 : Int32) ≤ x2) → vp_in ((42 : Int32) + x2) 56 ∧ ∀ G5 : GT, G5 = gU G 51 (upd (G 51) ((42 : Int32) + x2).toNatClampNeg (0 : Int32)) → ∀ v6 : Int32, v6 = (x2 + 1) → wp_X8_law_44 Q n x1 v6 F G5 w)
def wp_X8_law_0 (Q : Int32 → FT → GT → Int64 → Prop) (x1 : Int32) (F : FT) (G : GT) (w : Int64) : Prop := ((x1 < 0) → wp_X8_law_9 Q F G w) ∧ ((¬ x1 < 0) → ((x1 < (3 : Int32)) → ∀ F1 : FT, F1 = sU F 20 (0 : Int32) → ∀ F2 : FT, F2 = sU F1 21 (F1 2) → ∀ F3 : FT, F3 = sU F2 2 (0 : Int32) → ∀ F4 : FT, F4 = sU F3 1 (0 : Int32) → ∀ F5 : FT, F5 = sU F4 27 (0 : Int32) → ∃ n : Nat, wp_X8_law_44 Q n x1 (0 : Int32) F5 G w) ∧ ((¬ x1 < (3 : Int32)) → wp_X8_law_9 Q F G w))
def wp_X8_law (x1 : Int32) (F : FT) (G : GT) (w : Int64) (Q : Int32 → FT → GT → Int64 → Prop) : Prop := wp_X8_law_0 Q x1 F G w
set_option maxHeartbeats 4000000 in
set_option maxRecDepth 100000 in
theorem wk_X8_law_9 {p : Program} {l : Launch} {e : Env} {R : Room} {s : State} {m : MethodId} {args : Array Value} {below : List Frame} {meth : Method} {c : Code} {K : KT} {A : Nat → Prop} {Z : State → Prop} {a : Nat → Nat} (hR : 3 ≤ R.frames ∧ 69 ≤ R.locals) (C : CX p s m args meth c K A cX8_law 4 RX8) {Q : Int32 → FT → GT → Int64 → Prop} (hq : RetMi p l e R s m args below meth c K A Z a cX8_law Q) (F : FT) (G : GT) (w : Int64) {H : Heap} {locs : List Loc} (h : WD K A s (wM K a F G w) H locs) {ls : Array Slot} (hl : lv_has ls 4 [(0, .ref (a 0))]) (hw : wp_X8_law_9 Q F G w) : W p l e R s m args below meth c H locs 0 0 Z (F0 m 9 ls []) := by
  unfold wp_X8_law_9 at hw
  have hx := C.1
  have hb := C.2.1
  refine lv_aload_n hx hb dX8_law_9 rfl (lv_at hl 0 rfl) ?_
  refine kMiV C h (c_X8_refuse F G w hw) lk_8_167 (rvM_0 K a F G w) rfl hl.1 rfl (Nat.le_of_ble_eq_true rfl) ⟨Nat.le_trans (Nat.le_of_ble_eq_true rfl) hR.1, Nat.le_trans (Nat.le_of_ble_eq_true rfl) hR.2⟩ ⟨Nat.zero_le _, Nat.zero_le _⟩ dX8_law_10 (fun r4 F1 G2 w3 H locs hw h => ?_)
  exact hq _ F1 G2 w3 _ _ _ _ dX8_law_13 h hw
set_option maxHeartbeats 4000000 in
set_option maxRecDepth 100000 in
theorem wk_X8_law_110 {p : Program} {l : Launch} {e : Env} {R : Room} {s : State} {m : MethodId} {args : Array Value} {below : List Frame} {meth : Method} {c : Code} {K : KT} {A : Nat → Prop} {Z : State → Prop} {a : Nat → Nat} (hR : 3 ≤ R.frames ∧ 69 ≤ R.locals) (C : CX p s m args meth c K A cX8_law 4 RX8) {Q : Int32 → FT → GT → Int64 → Prop} (hq : RetMi p l e R s m args below meth c K A Z a cX8_law Q) : ∀ (n : Nat) (x1 : Int32) (x2 : Int32) (x3 : Int32) (F : FT) (G : GT) (w : Int64) {H : Heap} {locs : List Loc} (h : WD K A s (wM K a F G w) H locs) {ls : Array Slot} (hl : lv_has ls 4 [(0, .ref (a 0)), (1, .int x1), (2, .int x2), (3, .int x3)]) (hw : wp_X8_law_110 Q n x1 x2 x3 F G w), W p l e R s m args below meth c H locs 0 0 Z (F0 m 110 ls []) := by
  intro n
  induction n with
  | zero => intro x1 x2 x3 F G w H locs h ls hl hw; exact False.elim hw
  | succ n ih =>
    intro x1 x2 x3 F G w H locs h ls hl hw
    rw [wp_X8_law_110] at hw
    have hx := C.1
    have hb := C.2.1
    refine lv_iload_n hx hb dX8_law_110 rfl (lv_at hl 3 rfl) ?_
    refine lv_bipush (v := (14 : Int32)) hx hb dX8_law_111 (by decide) ?_
    refine lv_icmp_ge (tgt := 142) hx hb dX8_law_113 (by decide) (fun c => ?_) (fun c => ?_)
    · have hw := hw.1 c
      refine lv_iload_n hx hb dX8_law_142 rfl (lv_at hl 2 rfl) ?_
      exact hq _ F G w _ _ _ _ dX8_law_143 h hw
    · have hw := hw.2 c
      refine lv_aload_n hx hb dX8_law_116 rfl (lv_at hl 0 rfl) ?_
      refine gM_8_13 C h dX8_law_117 ?_
      refine lv_bipush (v := (14 : Int32)) hx hb dX8_law_120 (by decide) ?_
      refine lv_iload_n hx hb dX8_law_122 rfl (lv_at hl 1 rfl) ?_
      refine lv_imul hx hb dX8_law_123 ?_
      refine lv_iload_n hx hb dX8_law_124 rfl (lv_at hl 3 rfl) ?_
      refine lv_iadd hx hb dX8_law_125 ?_
      refine lv_aload_n hx hb dX8_law_126 rfl (lv_at hl 0 rfl) ?_
      refine gM_8_13 C h dX8_law_127 ?_
      refine lv_bipush (v := (42 : Int32)) hx hb dX8_law_130 (by decide) ?_
      refine lv_iload_n hx hb dX8_law_132 rfl (lv_at hl 3 rfl) ?_
      refine lv_iadd hx hb dX8_law_133 ?_
      have hi := hw.1
      have hw := hw.2
      refine laM_51 C h hi dX8_law_134 ?_
      have hi := hw.1
      have hw := hw.2
      refine saM_51 C h hi dX8_law_135 (fun G1 H locs eG1 h => ?_)
      have hw := hw G1 eG1
      obtain ⟨v2, ev2⟩ : ∃ z : Int32, z = (x3 + 1) := ⟨_, rfl⟩
      have hw := hw v2 ev2
      refine lv_iinc (v := v2) (lv' := [(3, .int v2), (0, .ref (a 0)), (1, .int x1), (2, .int x2)]) hx hb dX8_law_136 hl (k := 3) rfl (by rw [ev2]; rfl) (by decide) rfl (fun ls hl => ?_)
      refine lv_goto (tgt := 110) hx hb dX8_law_139 (by decide) ?_
      exact ih x1 x2 v2 F G1 w h (lv_sub hl [1, 2, 3, 0] rfl) hw
set_option maxHeartbeats 4000000 in
set_option maxRecDepth 100000 in
theorem wk_X8_law_77 {p : Program} {l : Launch} {e : Env} {R : Room} {s : State} {m : MethodId} {args : Array Value} {below : List Frame} {meth : Method} {c : Code} {K : KT} {A : Nat → Prop} {Z : State → Prop} {a : Nat → Nat} (hR : 3 ≤ R.frames ∧ 69 ≤ R.locals) (C : CX p s m args meth c K A cX8_law 4 RX8) {Q : Int32 → FT → GT → Int64 → Prop} (hq : RetMi p l e R s m args below meth c K A Z a cX8_law Q) : ∀ (n : Nat) (x1 : Int32) (x2 : Int32) (F : FT) (G : GT) (w : Int64) {H : Heap} {locs : List Loc} (h : WD K A s (wM K a F G w) H locs) {ls : Array Slot} (hl : lv_has ls 4 [(0, .ref (a 0)), (1, .int x1), (2, .int x2)]) (hw : wp_X8_law_77 Q n x1 x2 F G w), W p l e R s m args below meth c H locs 0 0 Z (F0 m 77 ls []) := by
  intro n
  induction n with
  | zero => intro x1 x2 F G w H locs h ls hl hw; exact False.elim hw
  | succ n ih =>
    intro x1 x2 F G w H locs h ls hl hw
    rw [wp_X8_law_77] at hw
    have hx := C.1
    have hb := C.2.1
    refine lv_aload_n hx hb dX8_law_77 rfl (lv_at hl 0 rfl) ?_
    refine gM_8_109 C h dX8_law_78 ?_
    refine lv_if_eq (tgt := 108) hx hb dX8_law_81 (by decide) (fun c => ?_) (fun c => ?_)
    · have hw := hw.1 c
      refine lv_iconst (v := (0 : Int32)) hx hb dX8_law_108 (by decide) ?_
      refine lv_istore_n (lv' := [(3, .int (0 : Int32)), (0, .ref (a 0)), (1, .int x1), (2, .int x2)]) hx hb dX8_law_109 rfl hl (by decide) rfl (fun ls hl => ?_)
      obtain ⟨n, hw⟩ := hw
      exact wk_X8_law_110 hR C hq n x1 x2 (0 : Int32) F G w h (lv_sub hl [1, 2, 3, 0] rfl) hw
    · have hw := hw.2 c
      refine lv_aload_n hx hb dX8_law_84 rfl (lv_at hl 0 rfl) ?_
      refine kMiV C h (c_X8_readRule F G w hw) lk_8_171 (rvM_0 K a F G w) rfl hl.1 rfl (Nat.le_of_ble_eq_true rfl) ⟨Nat.le_trans (Nat.le_of_ble_eq_true rfl) hR.1, Nat.le_trans (Nat.le_of_ble_eq_true rfl) hR.2⟩ ⟨Nat.zero_le _, Nat.zero_le _⟩ dX8_law_85 (fun r4 F1 G2 w3 H locs hw h => ?_)
      have hw := hw.2
      refine lv_if_ne (tgt := 98) hx hb dX8_law_88 (by decide) (fun c => ?_) (fun c => ?_)
      · have hw := hw.1 c
        obtain ⟨v5, ev5⟩ : ∃ z : Int32, z = (x2 + 1) := ⟨_, rfl⟩
        have hw := hw v5 ev5
        refine lv_iinc (v := v5) (lv' := [(2, .int v5), (0, .ref (a 0)), (1, .int x1)]) hx hb dX8_law_98 hl (k := 2) rfl (by rw [ev5]; rfl) (by decide) rfl (fun ls hl => ?_)
        refine lv_aload_n hx hb dX8_law_101 rfl (lv_at hl 1 rfl) ?_
        refine kMvV C h (c_X8_go F1 G2 w3 hw) lk_8_164 (rvM_0 K a F1 G2 w3) rfl hl.1 rfl (Nat.le_of_ble_eq_true rfl) ⟨Nat.le_trans (Nat.le_of_ble_eq_true rfl) hR.1, Nat.le_trans (Nat.le_of_ble_eq_true rfl) hR.2⟩ ⟨Nat.zero_le _, Nat.zero_le _⟩ dX8_law_102 (fun F6 G7 w8 H locs hw h => ?_)
        refine lv_goto (tgt := 77) hx hb dX8_law_105 (by decide) ?_
        exact ih x1 v5 F6 G7 w8 h (lv_sub hl [1, 2, 0] rfl) hw
      · have hw := hw.2 c
        refine lv_iconst (v := (-1 : Int32)) hx hb dX8_law_91 (by decide) ?_
        refine lv_aload_n hx hb dX8_law_92 rfl (lv_at hl 0 rfl) ?_
        refine gM_8_139 C h dX8_law_93 ?_
        refine lv_isub hx hb dX8_law_96 ?_
        exact hq _ F1 G2 w3 _ _ _ _ dX8_law_97 h hw
set_option maxHeartbeats 4000000 in
set_option maxRecDepth 100000 in
theorem wk_X8_law_44 {p : Program} {l : Launch} {e : Env} {R : Room} {s : State} {m : MethodId} {args : Array Value} {below : List Frame} {meth : Method} {c : Code} {K : KT} {A : Nat → Prop} {Z : State → Prop} {a : Nat → Nat} (hR : 3 ≤ R.frames ∧ 69 ≤ R.locals) (C : CX p s m args meth c K A cX8_law 4 RX8) {Q : Int32 → FT → GT → Int64 → Prop} (hq : RetMi p l e R s m args below meth c K A Z a cX8_law Q) : ∀ (n : Nat) (x1 : Int32) (x2 : Int32) (F : FT) (G : GT) (w : Int64) {H : Heap} {locs : List Loc} (h : WD K A s (wM K a F G w) H locs) {ls : Array Slot} (hl : lv_has ls 4 [(0, .ref (a 0)), (1, .int x1), (2, .int x2)]) (hw : wp_X8_law_44 Q n x1 x2 F G w), W p l e R s m args below meth c H locs 0 0 Z (F0 m 44 ls []) := by
  intro n
  induction n with
  | zero => intro x1 x2 F G w H locs h ls hl hw; exact False.elim hw
  | succ n ih =>
    intro x1 x2 F G w H locs h ls hl hw
    rw [wp_X8_law_44] at hw
    have hx := C.1
    have hb := C.2.1
    refine lv_iload_n hx hb dX8_law_44 rfl (lv_at hl 2 rfl) ?_
    refine lv_bipush (v := (14 : Int32)) hx hb dX8_law_45 (by decide) ?_
    refine lv_icmp_ge (tgt := 66) hx hb dX8_law_47 (by decide) (fun c => ?_) (fun c => ?_)
    · have hw := hw.1 c
      refine lv_iconst (v := (0 : Int32)) hx hb dX8_law_66 (by decide) ?_
      refine lv_istore_n (lv' := [(2, .int (0 : Int32)), (0, .ref (a 0)), (1, .int x1)]) hx hb dX8_law_67 rfl hl (by decide) rfl (fun ls hl => ?_)
      refine lv_aload_n hx hb dX8_law_68 rfl (lv_at hl 1 rfl) ?_
      refine lv_iconst (v := (0 : Int32)) hx hb dX8_law_69 (by decide) ?_
      refine pM_8_103 C h dX8_law_70 (fun F1 H locs eF1 h => ?_)
      have hw := hw F1 eF1
      refine lv_aload_n hx hb dX8_law_73 rfl (lv_at hl 1 rfl) ?_
      refine kMvV C h (c_X8_go F1 G w hw) lk_8_164 (rvM_0 K a F1 G w) rfl hl.1 rfl (Nat.le_of_ble_eq_true rfl) ⟨Nat.le_trans (Nat.le_of_ble_eq_true rfl) hR.1, Nat.le_trans (Nat.le_of_ble_eq_true rfl) hR.2⟩ ⟨Nat.zero_le _, Nat.zero_le _⟩ dX8_law_74 (fun F2 G3 w4 H locs hw h => ?_)
      obtain ⟨n, hw⟩ := hw
      exact wk_X8_law_77 hR C hq n x1 (0 : Int32) F2 G3 w4 h (lv_sub hl [1, 2, 0] rfl) hw
    · have hw := hw.2 c
      refine lv_aload_n hx hb dX8_law_50 rfl (lv_at hl 0 rfl) ?_
      refine gM_8_13 C h dX8_law_51 ?_
      refine lv_bipush (v := (42 : Int32)) hx hb dX8_law_54 (by decide) ?_
      refine lv_iload_n hx hb dX8_law_56 rfl (lv_at hl 2 rfl) ?_
      refine lv_iadd hx hb dX8_law_57 ?_
      refine lv_iconst (v := (0 : Int32)) hx hb dX8_law_58 (by decide) ?_
      have hi := hw.1
      have hw := hw.2
      refine saM_51 C h hi dX8_law_59 (fun G5 H locs eG5 h => ?_)
      have hw := hw G5 eG5
      obtain ⟨v6, ev6⟩ : ∃ z : Int32, z = (x2 + 1) := ⟨_, rfl⟩
      have hw := hw v6 ev6
      refine lv_iinc (v := v6) (lv' := [(2, .int v6), (0, .ref (a 0)), (1, .int x1)]) hx hb dX8_law_60 hl (k := 2) rfl (by rw [ev6]; rfl) (by decide) rfl (fun ls hl => ?_)
      refine lv_goto (tgt := 44) hx hb dX8_law_63 (by decide) ?_
      exact ih x1 v6 F G5 w h (lv_sub hl [1, 2, 0] rfl) hw
set_option maxHeartbeats 4000000 in
set_option maxRecDepth 100000 in
theorem wk_X8_law_0 {p : Program} {l : Launch} {e : Env} {R : Room} {s : State} {m : MethodId} {args : Array Value} {below : List Frame} {meth : Method} {c : Code} {K : KT} {A : Nat → Prop} {Z : State → Prop} {a : Nat → Nat} (hR : 3 ≤ R.frames ∧ 69 ≤ R.locals) (C : CX p s m args meth c K A cX8_law 4 RX8) {Q : Int32 → FT → GT → Int64 → Prop} (hq : RetMi p l e R s m args below meth c K A Z a cX8_law Q) (x1 : Int32) (F : FT) (G : GT) (w : Int64) {H : Heap} {locs : List Loc} (h : WD K A s (wM K a F G w) H locs) {ls : Array Slot} (hl : lv_has ls 4 [(0, .ref (a 0)), (1, .int x1)]) (hw : wp_X8_law_0 Q x1 F G w) : W p l e R s m args below meth c H locs 0 0 Z (F0 m 0 ls []) := by
  unfold wp_X8_law_0 at hw
  have hx := C.1
  have hb := C.2.1
  refine lv_iload_n hx hb dX8_law_0 rfl (lv_at hl 1 rfl) ?_
  refine lv_if_lt (tgt := 9) hx hb dX8_law_1 (by decide) (fun c => ?_) (fun c => ?_)
  · have hw := hw.1 c
    exact wk_X8_law_9 hR C hq F G w h (lv_sub hl [0] rfl) hw
  · have hw := hw.2 c
    refine lv_iload_n hx hb dX8_law_4 rfl (lv_at hl 1 rfl) ?_
    refine lv_iconst (v := (3 : Int32)) hx hb dX8_law_5 (by decide) ?_
    refine lv_icmp_lt (tgt := 14) hx hb dX8_law_6 (by decide) (fun c => ?_) (fun c => ?_)
    · have hw := hw.1 c
      refine lv_aload_n hx hb dX8_law_14 rfl (lv_at hl 0 rfl) ?_
      refine lv_iconst (v := (0 : Int32)) hx hb dX8_law_15 (by decide) ?_
      refine pM_8_89 C h dX8_law_16 (fun F1 H locs eF1 h => ?_)
      have hw := hw F1 eF1
      refine lv_aload_n hx hb dX8_law_19 rfl (lv_at hl 0 rfl) ?_
      refine lv_aload_n hx hb dX8_law_20 rfl (lv_at hl 0 rfl) ?_
      refine gM_8_93 C h dX8_law_21 ?_
      refine pM_8_100 C h dX8_law_24 (fun F2 H locs eF2 h => ?_)
      have hw := hw F2 eF2
      refine lv_aload_n hx hb dX8_law_27 rfl (lv_at hl 0 rfl) ?_
      refine lv_iconst (v := (0 : Int32)) hx hb dX8_law_28 (by decide) ?_
      refine pM_8_93 C h dX8_law_29 (fun F3 H locs eF3 h => ?_)
      have hw := hw F3 eF3
      refine lv_aload_n hx hb dX8_law_32 rfl (lv_at hl 0 rfl) ?_
      refine lv_iconst (v := (0 : Int32)) hx hb dX8_law_33 (by decide) ?_
      refine pM_8_136 C h dX8_law_34 (fun F4 H locs eF4 h => ?_)
      have hw := hw F4 eF4
      refine lv_aload_n hx hb dX8_law_37 rfl (lv_at hl 0 rfl) ?_
      refine lv_iconst (v := (0 : Int32)) hx hb dX8_law_38 (by decide) ?_
      refine pM_8_161 C h dX8_law_39 (fun F5 H locs eF5 h => ?_)
      have hw := hw F5 eF5
      refine lv_iconst (v := (0 : Int32)) hx hb dX8_law_42 (by decide) ?_
      refine lv_istore_n (lv' := [(2, .int (0 : Int32)), (0, .ref (a 0)), (1, .int x1)]) hx hb dX8_law_43 rfl hl (by decide) rfl (fun ls hl => ?_)
      obtain ⟨n, hw⟩ := hw
      exact wk_X8_law_44 hR C hq n x1 (0 : Int32) F5 G w h (lv_sub hl [1, 2, 0] rfl) hw
    · have hw := hw.2 c
      exact wk_X8_law_9 hR C hq F G w h (lv_sub hl [0] rfl) hw
theorem c_X8_law {l : Launch} {K : KT} {a : Nat → Nat} (x1 : Int32) (F : FT) (G : GT) (w : Int64) {Q : Int32 → FT → GT → Int64 → Prop} (hw : wp_X8_law x1 F G w Q) : CtMi l K a yX8_law cX8_law 4 (some .int) 3 69 [.ref (a 0), .int x1] F G w Q := fun sz => x_met (Qm := QmMi K a Q) (by decide) (Nat.le_of_ble_eq_true rfl) (fun p e s m below meth c A ls C hr h hl => wk_X8_law_0 ⟨Nat.le_refl _, Nat.le_refl _⟩ C (retM_z C hr (fun r F G w _ => rfl)) x1 F G w h hl hw)
def wp_X8_wrong_0 (Q : Int32 → FT → GT → Int64 → Prop) (F : FT) (G : GT) (w : Int64) : Prop := ∀ F1 : FT, F1 = sU F 20 (0 : Int32) → Q (F1 1) F1 G w
def wp_X8_wrong (F : FT) (G : GT) (w : Int64) (Q : Int32 → FT → GT → Int64 → Prop) : Prop := wp_X8_wrong_0 Q F G w
set_option maxHeartbeats 4000000 in
set_option maxRecDepth 100000 in
theorem wk_X8_wrong_0 {p : Program} {l : Launch} {e : Env} {R : Room} {s : State} {m : MethodId} {args : Array Value} {below : List Frame} {meth : Method} {c : Code} {K : KT} {A : Nat → Prop} {Z : State → Prop} {a : Nat → Nat} (hR : 0 ≤ R.frames ∧ 0 ≤ R.locals) (C : CX p s m args meth c K A cX8_wrong 1 RX8) {Q : Int32 → FT → GT → Int64 → Prop} (hq : RetMi p l e R s m args below meth c K A Z a cX8_wrong Q) (F : FT) (G : GT) (w : Int64) {H : Heap} {locs : List Loc} (h : WD K A s (wM K a F G w) H locs) {ls : Array Slot} (hl : lv_has ls 1 [(0, .ref (a 0))]) (hw : wp_X8_wrong_0 Q F G w) : W p l e R s m args below meth c H locs 0 0 Z (F0 m 0 ls []) := by
  unfold wp_X8_wrong_0 at hw
  have hx := C.1
  have hb := C.2.1
  refine lv_aload_n hx hb dX8_wrong_0 rfl (lv_at hl 0 rfl) ?_
  refine lv_iconst (v := (0 : Int32)) hx hb dX8_wrong_1 (by decide) ?_
  refine pM_8_89 C h dX8_wrong_2 (fun F1 H locs eF1 h => ?_)
  have hw := hw F1 eF1
  refine lv_aload_n hx hb dX8_wrong_5 rfl (lv_at hl 0 rfl) ?_
  refine gM_8_136 C h dX8_wrong_6 ?_
  exact hq _ F1 G w _ _ _ _ dX8_wrong_9 h hw
theorem c_X8_wrong {l : Launch} {K : KT} {a : Nat → Nat} (F : FT) (G : GT) (w : Int64) {Q : Int32 → FT → GT → Int64 → Prop} (hw : wp_X8_wrong F G w Q) : CtMi l K a yX8_wrong cX8_wrong 1 (some .int) 0 0 [.ref (a 0)] F G w Q := fun sz => x_met (Qm := QmMi K a Q) (by decide) (Nat.le_of_ble_eq_true rfl) (fun p e s m below meth c A ls C hr h hl => wk_X8_wrong_0 ⟨Nat.le_refl _, Nat.le_refl _⟩ C (retM_z C hr (fun r F G w _ => rfl)) F G w h hl hw)
def wp_X8_rule_9 (Q : Int32 → FT → GT → Int64 → Prop) (F : FT) (G : GT) (w : Int64) : Prop := wp_X8_refuse F G w (fun r4 F1 G2 w3 => Q r4 F1 G2 w3)
def wp_X8_rule_0 (Q : Int32 → FT → GT → Int64 → Prop) (x1 : Int32) (x2 : Int32) (F : FT) (G : GT) (w : Int64) : Prop := ((x1 < 0) → wp_X8_rule_9 Q F G w) ∧ ((¬ x1 < 0) → ((x1 < (3 : Int32)) → ∀ F1 : FT, F1 = sU F 20 (0 : Int32) → ((x2 < 0) → Q (-1 : Int32) F1 G w) ∧ ((¬ x2 < 0) → ((x2 ≤ (14 : Int32)) → ((¬ x2 = (14 : Int32)) → vp_in (((14 : Int32) * x1) + x2) 56 ∧ ∀ v2 : Int32, v2 = (G 51 (((14 : Int32) * x1) + x2).toNatClampNeg) → Q v2 F1 G w) ∧ ((x2 = (14 : Int32)) → vp_in x1 3 ∧ Q (G 10 x1.toNatClampNeg) F1 G w)) ∧ ((¬ x2 ≤ (14 : Int32)) → Q (-1 : Int32) F1 G w))) ∧ ((¬ x1 < (3 : Int32)) → wp_X8_rule_9 Q F G w))
def wp_X8_rule (x1 : Int32) (x2 : Int32) (F : FT) (G : GT) (w : Int64) (Q : Int32 → FT → GT → Int64 → Prop) : Prop := wp_X8_rule_0 Q x1 x2 F G w
set_option maxHeartbeats 4000000 in
set_option maxRecDepth 100000 in
theorem wk_X8_rule_9 {p : Program} {l : Launch} {e : Env} {R : Room} {s : State} {m : MethodId} {args : Array Value} {below : List Frame} {meth : Method} {c : Code} {K : KT} {A : Nat → Prop} {Z : State → Prop} {a : Nat → Nat} (hR : 1 ≤ R.frames ∧ 20 ≤ R.locals) (C : CX p s m args meth c K A cX8_rule 3 RX8) {Q : Int32 → FT → GT → Int64 → Prop} (hq : RetMi p l e R s m args below meth c K A Z a cX8_rule Q) (F : FT) (G : GT) (w : Int64) {H : Heap} {locs : List Loc} (h : WD K A s (wM K a F G w) H locs) {ls : Array Slot} (hl : lv_has ls 3 [(0, .ref (a 0))]) (hw : wp_X8_rule_9 Q F G w) : W p l e R s m args below meth c H locs 0 0 Z (F0 m 9 ls []) := by
  unfold wp_X8_rule_9 at hw
  have hx := C.1
  have hb := C.2.1
  refine lv_aload_n hx hb dX8_rule_9 rfl (lv_at hl 0 rfl) ?_
  refine kMiV C h (c_X8_refuse F G w hw) lk_8_167 (rvM_0 K a F G w) rfl hl.1 rfl (Nat.le_of_ble_eq_true rfl) ⟨Nat.le_trans (Nat.le_of_ble_eq_true rfl) hR.1, Nat.le_trans (Nat.le_of_ble_eq_true rfl) hR.2⟩ ⟨Nat.zero_le _, Nat.zero_le _⟩ dX8_rule_10 (fun r4 F1 G2 w3 H locs hw h => ?_)
  exact hq _ F1 G2 w3 _ _ _ _ dX8_rule_13 h hw
set_option maxHeartbeats 4000000 in
set_option maxRecDepth 100000 in
theorem wk_X8_rule_0 {p : Program} {l : Launch} {e : Env} {R : Room} {s : State} {m : MethodId} {args : Array Value} {below : List Frame} {meth : Method} {c : Code} {K : KT} {A : Nat → Prop} {Z : State → Prop} {a : Nat → Nat} (hR : 1 ≤ R.frames ∧ 20 ≤ R.locals) (C : CX p s m args meth c K A cX8_rule 3 RX8) {Q : Int32 → FT → GT → Int64 → Prop} (hq : RetMi p l e R s m args below meth c K A Z a cX8_rule Q) (x1 : Int32) (x2 : Int32) (F : FT) (G : GT) (w : Int64) {H : Heap} {locs : List Loc} (h : WD K A s (wM K a F G w) H locs) {ls : Array Slot} (hl : lv_has ls 3 [(0, .ref (a 0)), (1, .int x1), (2, .int x2)]) (hw : wp_X8_rule_0 Q x1 x2 F G w) : W p l e R s m args below meth c H locs 0 0 Z (F0 m 0 ls []) := by
  unfold wp_X8_rule_0 at hw
  have hx := C.1
  have hb := C.2.1
  refine lv_iload_n hx hb dX8_rule_0 rfl (lv_at hl 1 rfl) ?_
  refine lv_if_lt (tgt := 9) hx hb dX8_rule_1 (by decide) (fun c => ?_) (fun c => ?_)
  · have hw := hw.1 c
    exact wk_X8_rule_9 hR C hq F G w h (lv_sub hl [0] rfl) hw
  · have hw := hw.2 c
    refine lv_iload_n hx hb dX8_rule_4 rfl (lv_at hl 1 rfl) ?_
    refine lv_iconst (v := (3 : Int32)) hx hb dX8_rule_5 (by decide) ?_
    refine lv_icmp_lt (tgt := 14) hx hb dX8_rule_6 (by decide) (fun c => ?_) (fun c => ?_)
    · have hw := hw.1 c
      refine lv_aload_n hx hb dX8_rule_14 rfl (lv_at hl 0 rfl) ?_
      refine lv_iconst (v := (0 : Int32)) hx hb dX8_rule_15 (by decide) ?_
      refine pM_8_89 C h dX8_rule_16 (fun F1 H locs eF1 h => ?_)
      have hw := hw F1 eF1
      refine lv_iload_n hx hb dX8_rule_19 rfl (lv_at hl 2 rfl) ?_
      refine lv_if_lt (tgt := 29) hx hb dX8_rule_20 (by decide) (fun c => ?_) (fun c => ?_)
      · have hw := hw.1 c
        refine lv_iconst (v := (-1 : Int32)) hx hb dX8_rule_29 (by decide) ?_
        refine lv_goto (tgt := 59) hx hb dX8_rule_30 (by decide) ?_
        exact hq _ F1 G w _ _ _ _ dX8_rule_59 h hw
      · have hw := hw.2 c
        refine lv_iload_n hx hb dX8_rule_23 rfl (lv_at hl 2 rfl) ?_
        refine lv_bipush (v := (14 : Int32)) hx hb dX8_rule_24 (by decide) ?_
        refine lv_icmp_le (tgt := 33) hx hb dX8_rule_26 (by decide) (fun c => ?_) (fun c => ?_)
        · have hw := hw.1 c
          refine lv_iload_n hx hb dX8_rule_33 rfl (lv_at hl 2 rfl) ?_
          refine lv_bipush (v := (14 : Int32)) hx hb dX8_rule_34 (by decide) ?_
          refine lv_icmp_ne (tgt := 48) hx hb dX8_rule_36 (by decide) (fun c => ?_) (fun c => ?_)
          · have hw := hw.1 c
            refine lv_aload_n hx hb dX8_rule_48 rfl (lv_at hl 0 rfl) ?_
            refine gM_8_13 C h dX8_rule_49 ?_
            refine lv_bipush (v := (14 : Int32)) hx hb dX8_rule_52 (by decide) ?_
            refine lv_iload_n hx hb dX8_rule_54 rfl (lv_at hl 1 rfl) ?_
            refine lv_imul hx hb dX8_rule_55 ?_
            refine lv_iload_n hx hb dX8_rule_56 rfl (lv_at hl 2 rfl) ?_
            refine lv_iadd hx hb dX8_rule_57 ?_
            have hi := hw.1
            have hw := hw.2
            refine laM_51 C h hi dX8_rule_58 ?_
            refine lv_topi (fun v2 ev2 => ?_)
            have hw := hw v2 ev2
            exact hq _ F1 G w _ _ _ _ dX8_rule_59 h hw
          · have hw := hw.2 c
            refine lv_aload_n hx hb dX8_rule_39 rfl (lv_at hl 0 rfl) ?_
            refine gM_8_16 C h dX8_rule_40 ?_
            refine lv_iload_n hx hb dX8_rule_43 rfl (lv_at hl 1 rfl) ?_
            have hi := hw.1
            have hw := hw.2
            refine laM_10 C h hi dX8_rule_44 ?_
            refine lv_goto (tgt := 59) hx hb dX8_rule_45 (by decide) ?_
            exact hq _ F1 G w _ _ _ _ dX8_rule_59 h hw
        · have hw := hw.2 c
          refine lv_iconst (v := (-1 : Int32)) hx hb dX8_rule_29 (by decide) ?_
          refine lv_goto (tgt := 59) hx hb dX8_rule_30 (by decide) ?_
          exact hq _ F1 G w _ _ _ _ dX8_rule_59 h hw
    · have hw := hw.2 c
      exact wk_X8_rule_9 hR C hq F G w h (lv_sub hl [0] rfl) hw
theorem c_X8_rule {l : Launch} {K : KT} {a : Nat → Nat} (x1 : Int32) (x2 : Int32) (F : FT) (G : GT) (w : Int64) {Q : Int32 → FT → GT → Int64 → Prop} (hw : wp_X8_rule x1 x2 F G w Q) : CtMi l K a yX8_rule cX8_rule 3 (some .int) 1 20 [.ref (a 0), .int x1, .int x2] F G w Q := fun sz => x_met (Qm := QmMi K a Q) (by decide) (Nat.le_of_ble_eq_true rfl) (fun p e s m below meth c A ls C hr h hl => wk_X8_rule_0 ⟨Nat.le_refl _, Nat.le_refl _⟩ C (retM_z C hr (fun r F G w _ => rfl)) x1 x2 F G w h hl hw)
def wp_X8_isPerson_0 (Q : Int32 → FT → GT → Int64 → Prop) (x1 : Int32) (F : FT) (G : GT) (w : Int64) : Prop := ((x1 < 0) → Q (0 : Int32) F G w) ∧ ((¬ x1 < 0) → (((F 3) ≤ x1) → Q (0 : Int32) F G w) ∧ ((¬ (F 3) ≤ x1) → Q (1 : Int32) F G w))
def wp_X8_isPerson (x1 : Int32) (F : FT) (G : GT) (w : Int64) (Q : Int32 → FT → GT → Int64 → Prop) : Prop := wp_X8_isPerson_0 (fun r F G w => (r = 0 ∨ r = 1) ∧ Q r F G w) x1 F G w
set_option maxHeartbeats 4000000 in
set_option maxRecDepth 100000 in
theorem wk_X8_isPerson_0 {p : Program} {l : Launch} {e : Env} {R : Room} {s : State} {m : MethodId} {args : Array Value} {below : List Frame} {meth : Method} {c : Code} {K : KT} {A : Nat → Prop} {Z : State → Prop} {a : Nat → Nat} (hR : 0 ≤ R.frames ∧ 0 ≤ R.locals) (C : CX p s m args meth c K A cX8_isPerson 2 RX8) {Q : Int32 → FT → GT → Int64 → Prop} (hq : RetMi p l e R s m args below meth c K A Z a cX8_isPerson Q) (x1 : Int32) (F : FT) (G : GT) (w : Int64) {H : Heap} {locs : List Loc} (h : WD K A s (wM K a F G w) H locs) {ls : Array Slot} (hl : lv_has ls 2 [(0, .ref (a 0)), (1, .int x1)]) (hw : wp_X8_isPerson_0 Q x1 F G w) : W p l e R s m args below meth c H locs 0 0 Z (F0 m 0 ls []) := by
  unfold wp_X8_isPerson_0 at hw
  have hx := C.1
  have hb := C.2.1
  refine lv_iload_n hx hb dX8_isPerson_0 rfl (lv_at hl 1 rfl) ?_
  refine lv_if_lt (tgt := 16) hx hb dX8_isPerson_1 (by decide) (fun c => ?_) (fun c => ?_)
  · have hw := hw.1 c
    refine lv_iconst (v := (0 : Int32)) hx hb dX8_isPerson_16 (by decide) ?_
    exact hq _ F G w _ _ _ _ dX8_isPerson_17 h hw
  · have hw := hw.2 c
    refine lv_iload_n hx hb dX8_isPerson_4 rfl (lv_at hl 1 rfl) ?_
    refine lv_aload_n hx hb dX8_isPerson_5 rfl (lv_at hl 0 rfl) ?_
    refine gM_8_175 C h dX8_isPerson_6 ?_
    refine lv_icmp_ge (tgt := 16) hx hb dX8_isPerson_9 (by decide) (fun c => ?_) (fun c => ?_)
    · have hw := hw.1 c
      refine lv_iconst (v := (0 : Int32)) hx hb dX8_isPerson_16 (by decide) ?_
      exact hq _ F G w _ _ _ _ dX8_isPerson_17 h hw
    · have hw := hw.2 c
      refine lv_iconst (v := (1 : Int32)) hx hb dX8_isPerson_12 (by decide) ?_
      refine lv_goto (tgt := 17) hx hb dX8_isPerson_13 (by decide) ?_
      exact hq _ F G w _ _ _ _ dX8_isPerson_17 h hw
theorem c_X8_isPerson {l : Launch} {K : KT} {a : Nat → Nat} (x1 : Int32) (F : FT) (G : GT) (w : Int64) {Q : Int32 → FT → GT → Int64 → Prop} (hw : wp_X8_isPerson x1 F G w Q) : CtMi l K a yX8_isPerson cX8_isPerson 2 (some .boolean) 0 0 [.ref (a 0), .int x1] F G w (fun r F G w => (r = 0 ∨ r = 1) ∧ Q r F G w) := fun sz => x_met (Qm := QmMi K a (fun r F G w => (r = 0 ∨ r = 1) ∧ Q r F G w)) (by decide) (Nat.le_of_ble_eq_true rfl) (fun p e s m below meth c A ls C hr h hl => wk_X8_isPerson_0 ⟨Nat.le_refl _, Nat.le_refl _⟩ C (retM_z C hr (fun r F G w hz => by rcases hz.1 with z | z <;> rw [z] <;> rfl)) x1 F G w h hl hw)
def wp_X8_person_0 (Q : Int32 → FT → GT → Int64 → Prop) (x1 : Int32) (F : FT) (G : GT) (w : Int64) : Prop := ∀ F1 : FT, F1 = sU F 20 (0 : Int32) → (((F1 3) = (16 : Int32)) → Q (-1 : Int32) F1 G w) ∧ ((¬ (F1 3) = (16 : Int32)) → ((x1 < 0) → Q (-1 : Int32) F1 G w) ∧ ((¬ x1 < 0) → (((1000000 : Int32) < x1) → Q (-1 : Int32) F1 G w) ∧ ((¬ (1000000 : Int32) < x1) → ((((F1 4) + x1) ≤ (1000000000 : Int32)) → vp_in (F1 3) 16 ∧ ∀ G2 : GT, G2 = gU G 11 (upd (G 11) (F1 3).toNatClampNeg x1) → ∀ F3 : FT, F3 = sU F1 4 ((F1 4) + x1) → ∀ F4 : FT, F4 = sU F3 3 ((F3 3) + (1 : Int32)) → Q ((F4 3) - (1 : Int32)) F4 G2 w) ∧ ((¬ ((F1 4) + x1) ≤ (1000000000 : Int32)) → Q (-1 : Int32) F1 G w))))
def wp_X8_person (x1 : Int32) (F : FT) (G : GT) (w : Int64) (Q : Int32 → FT → GT → Int64 → Prop) : Prop := wp_X8_person_0 Q x1 F G w
set_option maxHeartbeats 4000000 in
set_option maxRecDepth 100000 in
theorem wk_X8_person_0 {p : Program} {l : Launch} {e : Env} {R : Room} {s : State} {m : MethodId} {args : Array Value} {below : List Frame} {meth : Method} {c : Code} {K : KT} {A : Nat → Prop} {Z : State → Prop} {a : Nat → Nat} (hR : 0 ≤ R.frames ∧ 0 ≤ R.locals) (C : CX p s m args meth c K A cX8_person 2 RX8) {Q : Int32 → FT → GT → Int64 → Prop} (hq : RetMi p l e R s m args below meth c K A Z a cX8_person Q) (x1 : Int32) (F : FT) (G : GT) (w : Int64) {H : Heap} {locs : List Loc} (h : WD K A s (wM K a F G w) H locs) {ls : Array Slot} (hl : lv_has ls 2 [(0, .ref (a 0)), (1, .int x1)]) (hw : wp_X8_person_0 Q x1 F G w) : W p l e R s m args below meth c H locs 0 0 Z (F0 m 0 ls []) := by
  unfold wp_X8_person_0 at hw
  have hx := C.1
  have hb := C.2.1
  refine lv_aload_n hx hb dX8_person_0 rfl (lv_at hl 0 rfl) ?_
  refine lv_iconst (v := (0 : Int32)) hx hb dX8_person_1 (by decide) ?_
  refine pM_8_89 C h dX8_person_2 (fun F1 H locs eF1 h => ?_)
  have hw := hw F1 eF1
  refine lv_aload_n hx hb dX8_person_5 rfl (lv_at hl 0 rfl) ?_
  refine gM_8_175 C h dX8_person_6 ?_
  refine lv_bipush (v := (16 : Int32)) hx hb dX8_person_9 (by decide) ?_
  refine lv_icmp_eq (tgt := 35) hx hb dX8_person_11 (by decide) (fun c => ?_) (fun c => ?_)
  · have hw := hw.1 c
    refine lv_iconst (v := (-1 : Int32)) hx hb dX8_person_35 (by decide) ?_
    exact hq _ F1 G w _ _ _ _ dX8_person_36 h hw
  · have hw := hw.2 c
    refine lv_iload_n hx hb dX8_person_14 rfl (lv_at hl 1 rfl) ?_
    refine lv_if_lt (tgt := 35) hx hb dX8_person_15 (by decide) (fun c => ?_) (fun c => ?_)
    · have hw := hw.1 c
      refine lv_iconst (v := (-1 : Int32)) hx hb dX8_person_35 (by decide) ?_
      exact hq _ F1 G w _ _ _ _ dX8_person_36 h hw
    · have hw := hw.2 c
      refine lv_iload_n hx hb dX8_person_18 rfl (lv_at hl 1 rfl) ?_
      refine lv_ldc hx hb C.2.2.2.1 (C.2.2.2.2.1 _ kc_8_178) dX8_person_19 ?_
      refine lv_icmp_gt (tgt := 35) hx hb dX8_person_21 (by decide) (fun c => ?_) (fun c => ?_)
      · have hw := hw.1 c
        refine lv_iconst (v := (-1 : Int32)) hx hb dX8_person_35 (by decide) ?_
        exact hq _ F1 G w _ _ _ _ dX8_person_36 h hw
      · have hw := hw.2 c
        refine lv_aload_n hx hb dX8_person_24 rfl (lv_at hl 0 rfl) ?_
        refine gM_8_179 C h dX8_person_25 ?_
        refine lv_iload_n hx hb dX8_person_28 rfl (lv_at hl 1 rfl) ?_
        refine lv_iadd hx hb dX8_person_29 ?_
        refine lv_ldc hx hb C.2.2.2.1 (C.2.2.2.2.1 _ kc_8_182) dX8_person_30 ?_
        refine lv_icmp_le (tgt := 37) hx hb dX8_person_32 (by decide) (fun c => ?_) (fun c => ?_)
        · have hw := hw.1 c
          refine lv_aload_n hx hb dX8_person_37 rfl (lv_at hl 0 rfl) ?_
          refine gM_8_19 C h dX8_person_38 ?_
          refine lv_aload_n hx hb dX8_person_41 rfl (lv_at hl 0 rfl) ?_
          refine gM_8_175 C h dX8_person_42 ?_
          refine lv_iload_n hx hb dX8_person_45 rfl (lv_at hl 1 rfl) ?_
          have hi := hw.1
          have hw := hw.2
          refine saM_11 C h hi dX8_person_46 (fun G2 H locs eG2 h => ?_)
          have hw := hw G2 eG2
          refine lv_aload_n hx hb dX8_person_47 rfl (lv_at hl 0 rfl) ?_
          refine lv_dup hx hb dX8_person_48 rfl ?_
          refine gM_8_179 C h dX8_person_49 ?_
          refine lv_iload_n hx hb dX8_person_52 rfl (lv_at hl 1 rfl) ?_
          refine lv_iadd hx hb dX8_person_53 ?_
          refine pM_8_179 C h dX8_person_54 (fun F3 H locs eF3 h => ?_)
          have hw := hw F3 eF3
          refine lv_aload_n hx hb dX8_person_57 rfl (lv_at hl 0 rfl) ?_
          refine lv_dup hx hb dX8_person_58 rfl ?_
          refine gM_8_175 C h dX8_person_59 ?_
          refine lv_iconst (v := (1 : Int32)) hx hb dX8_person_62 (by decide) ?_
          refine lv_iadd hx hb dX8_person_63 ?_
          refine pM_8_175 C h dX8_person_64 (fun F4 H locs eF4 h => ?_)
          have hw := hw F4 eF4
          refine lv_aload_n hx hb dX8_person_67 rfl (lv_at hl 0 rfl) ?_
          refine gM_8_175 C h dX8_person_68 ?_
          refine lv_iconst (v := (1 : Int32)) hx hb dX8_person_71 (by decide) ?_
          refine lv_isub hx hb dX8_person_72 ?_
          exact hq _ F4 G2 w _ _ _ _ dX8_person_73 h hw
        · have hw := hw.2 c
          refine lv_iconst (v := (-1 : Int32)) hx hb dX8_person_35 (by decide) ?_
          exact hq _ F1 G w _ _ _ _ dX8_person_36 h hw
theorem c_X8_person {l : Launch} {K : KT} {a : Nat → Nat} (x1 : Int32) (F : FT) (G : GT) (w : Int64) {Q : Int32 → FT → GT → Int64 → Prop} (hw : wp_X8_person x1 F G w Q) : CtMi l K a yX8_person cX8_person 2 (some .int) 0 0 [.ref (a 0), .int x1] F G w Q := fun sz => x_met (Qm := QmMi K a Q) (by decide) (Nat.le_of_ble_eq_true rfl) (fun p e s m below meth c A ls C hr h hl => wk_X8_person_0 ⟨Nat.le_refl _, Nat.le_refl _⟩ C (retM_z C hr (fun r F G w _ => rfl)) x1 F G w h hl hw)
