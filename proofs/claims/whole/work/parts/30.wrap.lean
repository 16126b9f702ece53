/-! the law's own methods that catch -/
theorem in_0 : vp_in 0 1 := by unfold vp_in; decide
abbrev outc (K : KT) (o : Nat) (f : Nat → Int64) : va_W := [(o, .inl (K.2.2.1 4, 1, .inr (.inl f)))]
section WRAP
variable {p : Program} {l : Launch} {e : Env} {R : Room} {s : State} {m : MethodId} {args : Array Value} {below : List Frame} {meth : Method} {c : Code} {H : Heap} {locs : List Loc} {cells slots : Nat} {Z : State → Prop}
variable {K : KT} {A : Nat → Prop} {cc : ByteArray} {nL : Nat} {own : String} {wr : va_W} {pc : Nat} {ls : Array Slot} {rest : List Value} {a : Nat → Nat} {F : FT} {G : GT}
theorem x_callT {y : MethodName} {bytes : ByteArray} {maxL fr lo idx n b : Nat} {ret : Option FieldType} {Cn cls : String} {As st : List Value} {Q : Int32 → FT → GT → Prop} {QX : FT → GT → Prop} (C : CX p s m args meth c K A cc nL own) (h : WD K A s (wr ++ wX K a F G) H locs)
    (hM : CtXt l K a y bytes maxL ret fr lo (.ref b :: As) F G Q cls QX) (k : LkV own idx Cn y bytes maxL ret n) (hrv : ∃ (q0 ci : Nat) (fs : List Value) (q : vw_C), (wX K a F G)[q0]? = some (b, .inr (ci, fs)) ∧ vwCl[ci]? = some q ∧ q.1 = Cn) (hn : As.length = n) (hsz : ls.size = nL) (hst : st = As.reverse ++ .ref b :: rest) (hW : (rest.map fun v => v.category).sum ≤ 8)
    (hR : fr + 1 ≤ R.frames ∧ 8 + (maxL + 11) + lo ≤ R.locals) (hcs : cells + 1 ≤ R.cells ∧ slots + 6 ≤ R.slots) (hdg : decode cc pc = .ok (.invokevirtual idx, 3))
    (kx : ∀ (ce : Cell) (q9 : Addr) (F1 : FT) (G1 : GT) (H1 : Heap) (locs1 : List Loc), QX F1 G1 → WD K A s (wr ++ wX K a F1 G1) H1 locs1 → H1[q9]? = some ce → ce.vm = .none → s.vm.findClass cls = some ce.cls → vx_W p l e R s m args below meth c H1 locs1 (cells + 1) (slots + 6) Z (F0 m pc ls rest) q9)
    (kk : ∀ (r : Int32) (F1 : FT) (G1 : GT) (H1 : Heap) (locs1 : List Loc), Q r F1 G1 → WD K A s (wr ++ wX K a F1 G1) H1 locs1 → W p l e R s m args below meth c H1 locs1 (cells + 1) (slots + 6) Z (F0 m (pc + 3) ls (.int r :: rest))) : W p l e R s m args below meth c H locs cells slots Z (F0 m pc ls st) := by
  have hpre := WD.pre C h.right
  have hf := WD.freeR C h
  obtain ⟨hx, hb, hml, hown, hts, hK, hA, hE, hlk⟩ := C
  obtain ⟨hd, k1, k2, k3, k4, k5⟩ := k
  obtain ⟨q0, ci, fs, q, r1, r2, r3⟩ := hrv
  subst r3
  refine vx_calli (vx_runV (As := As) (rest := rest) (Ts := TB) ⟨hx, hb, hml, hown, hts⟩ (hM H.size) (cwV n hts (gi_of ?_) rfl rfl rfl hd hR) ⟨preW_blind, va_recv hK h.right.1 r2 r1, fun U hU hW => ⟨rfl, hpre U hU hW⟩⟩ rfl hn hsz hst (lv_room hW) hdg hcs) h.2.2 (fun q _ z => hf q z) hf (fun q _ z => hf q z) (fun E ce q9 u t H1 locs1 ht hvm hq hB hz hk hS hce hcv hcl => ?_) (fun r u t H1 locs1 ht hvm hq hB hz hk hS => ?_)
  · exact gi_cons k1 (gi_cons k2 (gi_cons k3 (gi_cons k4 (gi_cons k5 gi_tb))))
  · obtain ⟨rfl, hB1, hB2⟩ := hB
    obtain ⟨a1, a2⟩ := fr_join h.1 h.2.1 hk hf (show va_P (kD K) vwCl (wX K a u.1 u.2) H1 by rw [← ht]; exact hB1) hB2
    exact kx ce q9 u.1 u.2 H1 locs1 hq ⟨a1, a2, hS⟩ hce hcv hcl
  · obtain ⟨a1, a2⟩ := fr_join h.1 h.2.1 hk hf (show va_P (kD K) vwCl (wX K a u.1 u.2) H1 by rw [← ht]; exact hB.1) hB.2
    exact kk r u.1 u.2 H1 locs1 hq ⟨a1, a2, hS⟩
theorem x_last {o : Nat} {f : Nat → Int64} {i : Int32} {x : Int64} {w2 : va_W} (C : CX p s m args meth c K A cc nL own) (h : WD K A s (outc K o f ++ w2) H locs) (hin : vp_in i 1) (hdg : decode cc pc = .ok (.lastore, 1))
    (kk : ∀ (H1 : Heap) (locs1 : List Loc), WD K A s (outc K o (vp_updL f i.toNatClampNeg x) ++ w2) H1 locs1 → W p l e R s m args below meth c H1 locs1 cells slots Z (F0 m (pc + 1) ls rest)) : W p l e R s m args below meth c H locs cells slots Z (F0 m pc ls (.long x :: .int i :: .ref o :: rest)) := by
  obtain ⟨hx, hb, -, hown, hts, hK, -⟩ := C
  exact va_last hx hb hK h.1 h.2.1 h.2.2 0 4 (show (outc K o f ++ w2)[0]? = _ from rfl) rfl hin hdg (fun H1 locs1 a b d => kk H1 locs1 ⟨a, b, d⟩)
theorem x_lald {o : Nat} {f : Nat → Int64} {i : Int32} {w2 : va_W} (C : CX p s m args meth c K A cc nL own) (h : WD K A s (outc K o f ++ w2) H locs) (hin : vp_in i 1) (hdg : decode cc pc = .ok (.laload, 1))
    (kk : W p l e R s m args below meth c H locs cells slots Z (F0 m (pc + 1) ls (.long (f i.toNatClampNeg) :: rest))) : W p l e R s m args below meth c H locs cells slots Z (F0 m pc ls (.int i :: .ref o :: rest)) := by
  obtain ⟨hx, hb, -, hown, hts, hK, -⟩ := C
  exact va_lald hx hb hK h.1 0 4 (show (outc K o f ++ w2)[0]? = _ from rfl) rfl hin hdg kk
end WRAP
/-- a wrapper's contract: r, the state behind it, what lies in out -/
def CtW (l : Launch) (K : KT) (a : Nat → Nat) (o : Nat) (y : MethodName) (bytes : ByteArray) (maxL : Nat) (hh : List (Nat × Nat × Nat × Nat)) (fr lo : Nat) (As : List Value) (F : FT) (G : GT) (f : Nat → Int64) (QW : Int32 → FT → GT → (Nat → Int64) → Prop) : Prop := ∀ sz : Nat, Met l y (.codeWith y bytes maxL (some .int) hh :: TB) (rmT fr lo) (va_Pc As (PreW K (outc K o f ++ wX K a F G) sz)) (va_Qi (fun (r : Int32) (u : FT × GT × (Nat → Int64)) => QW r u.1 u.2.1 u.2.2) (fun u t => PstW K (va_A (outc K o f ++ wX K a F G) sz) (outc K o u.2.2 ++ wX K a u.1 u.2.1) t) (va_A (outc K o f ++ wX K a F G) sz)) 1 6 (va_A (outc K o f ++ wX K a F G) sz)
theorem x_metW {l : Launch} {K : KT} {a : Nat → Nat} {o : Nat} {y : MethodName} {cc : ByteArray} {nL fr lo : Nat} {hh : List (Nat × Nat × Nat × Nat)} {As : List Value} {F : FT} {G : GT} {f : Nat → Int64} {QW : Int32 → FT → GT → (Nat → Int64) → Prop} (hy : plainName y.cls = true) (hlen : (lg_sl As).length ≤ nL)
    (body : ∀ (p : Program) (e : Env) (s : State) (m : MethodId) (below : List Frame) (meth : Method) (c : Code) (A : Nat → Prop) (ls : Array Slot), CX p s m As.toArray meth c K A cc nL y.cls → meth.sig.returnType = some .int → c.exceptionTable.toList = tableOf hh → WD K A s (outc K o f ++ wX K a F G) s.heap [] → lv_has ls nL (lv_args 0 As) → W p l e (rmT fr lo) s m As.toArray below meth c s.heap [] 0 0 (MQ below (va_Qi (fun (r : Int32) (u : FT × GT × (Nat → Int64)) => QW r u.1 u.2.1 u.2.2) (fun u t => PstW K A (outc K o u.2.2 ++ wX K a u.1 u.2.1) t) A) As.toArray s 1 6 A) (F0 m 0 ls [])) :
    CtW l K a o y cc nL hh fr lo As F G f QW := by
  intro sz
  refine va_MetW (cc := cc) (maxL := nL) (ret := some .int) (hh := hh) hy rfl ?_
  intro p e s m args below meth c s₁ B hml hv
  obtain ⟨rfl, hsz, hP, hK, hD0, hE⟩ := hv
  subst hsz
  have hts := atoms_spec (ws := .codeWith y cc nL (some .int) hh :: TB) B.pre
  have hown : s.vm.findClass y.cls = some m.cls := findClass_of_methodNamed B.named
  have hD := hD0.self (sz := s.heap.size)
  have hl := lv_entry As (n := nL) hlen
  rw [lg_entry_eq]
  exact body p e s m below meth c (va_A (outc K o f ++ wX K a F G) s.heap.size) _ ⟨B.exec, B.bytes, hml, hown, fun w hw => hts w (List.mem_cons_of_mem _ hw), hK, fun q h => Or.inr h, hE, B.notSynchronized⟩ B.returns (vx_table (x := y) B (hts _ List.mem_cons_self)) ⟨hP, hD, va_S.rf⟩ hl

theorem kcl_13 : Cond.classLink RL 13 "java/lang/IndexOutOfBoundsException" ∈ TB := tb_in 519 (by decide +kernel) rfl
theorem kcl_22 : Cond.classLink RL 22 "java/util/NoSuchElementException" ∈ TB := tb_in 720 (by decide +kernel) rfl
set_option maxHeartbeats 4000000 in
set_option maxRecDepth 100000 in
theorem c_L_law {l : Launch} (hst : l.stackTraces = false) {K : KT} {a : Nat → Nat} {o : Nat} (x1 : Int32) (F : FT) (G : GT) (f : Nat → Int64) {QW : Int32 → FT → GT → (Nat → Int64) → Prop} (hw : wp_X7_law x1 F G (fun v F G => QW 0 F G (vp_updL f 0 v.toInt64)) (fun F G => QW 1 F G f)) : CtW l K a o yL_law cL_law 4 [(0, 9, 12, 13)] 9 230 [.ref (a 0), .int x1, .ref o] F G f QW := x_metW (by decide) (Nat.le_of_ble_eq_true rfl) (fun p e s m below meth c A ls C hr ht h hl => by
  have hx := C.1
  have hb := C.2.1
  have hl : lv_has ls 4 [(0, .ref (a 0)), (1, .int x1), (2, .ref o)] := hl
  refine lv_aload_n hx hb dL_law_0 rfl (lv_at hl 2 rfl) ?_
  refine lv_iconst (v := 0) hx hb dL_law_1 (by decide) ?_
  refine lv_aload_n hx hb dL_law_2 rfl (lv_at hl 0 rfl) ?_
  refine lv_iload_n hx hb dL_law_3 rfl (lv_at hl 1 rfl) ?_
  refine x_callT (a := a) C h (c_X7_law hst x1 F G hw) lk_L_7 (rvX_0 K a F G) rfl hl.1 rfl (Nat.le_of_ble_eq_true rfl) ⟨Nat.le_of_ble_eq_true rfl, Nat.le_of_ble_eq_true rfl⟩ ⟨Nat.le_refl _, Nat.le_refl _⟩ dL_law_4 (fun ce q9 F1 G1 H locs hw h hce hcv hcl => ?_) (fun r F1 G1 H locs hw h => ?_)
  · refine vx_catch (own := RL) (name := "java/lang/IndexOutOfBoundsException") C.2.2.2.1 [] ⟨0, 9, 12, 13⟩ [] (ht.trans rfl) (fun z hz => by cases hz) (by decide) (by decide) (C.2.2.2.2.1 _ kcl_13) (va_Nw.use rfl (C.ex.2.2.2.2.2.2.2.2.2.2.1 _ (by decide +kernel))) hce hcv hcl ?_
    refine lv_astore_n (lv' := (3, .ref q9) :: [(0, .ref (a 0)), (1, .int x1), (2, .ref o)]) hx hb dL_law_12 rfl hl (by decide) rfl (fun ls hl => ?_)
    refine lv_iconst (v := 1) hx hb dL_law_13 (by decide) ?_
    exact x_reti (wf := fun (u : FT × GT × (Nat → Int64)) => outc K o u.2.2 ++ wX K a u.1 u.2.1) (u := (F1, G1, f)) (Q := fun r u => QW r u.1 u.2.1 u.2.2) C hr rfl h hw dL_law_14
  · refine lv_i2l hx hb dL_law_7 rfl ?_
    refine x_last C h in_0 dL_law_8 (fun H locs h => ?_)
    refine lv_goto (tgt := 15) hx hb dL_law_9 (by decide) ?_
    refine lv_iconst (v := 0) hx hb dL_law_15 (by decide) ?_
    exact x_reti (wf := fun (u : FT × GT × (Nat → Int64)) => outc K o u.2.2 ++ wX K a u.1 u.2.1) (u := (F1, G1, vp_updL f 0 r.toInt64)) (Q := fun r u => QW r u.1 u.2.1 u.2.2) C hr rfl h hw dL_law_16)
set_option maxHeartbeats 4000000 in
set_option maxRecDepth 100000 in
theorem c_L_rule {l : Launch} (hst : l.stackTraces = false) {K : KT} {a : Nat → Nat} {o : Nat} (x1 x2 : Int32) (F : FT) (G : GT) (f : Nat → Int64) {QW : Int32 → FT → GT → (Nat → Int64) → Prop} (hw : wp_X7_rule x1 x2 F G (fun v F G => QW 0 F G (vp_updL f 0 v.toInt64)) (fun F G => QW 1 F G f)) : CtW l K a o yL_rule cL_rule 5 [(0, 10, 13, 13)] 7 104 [.ref (a 0), .int x1, .int x2, .ref o] F G f QW := x_metW (by decide) (Nat.le_of_ble_eq_true rfl) (fun p e s m below meth c A ls C hr ht h hl => by
  have hx := C.1
  have hb := C.2.1
  have hl : lv_has ls 5 [(0, .ref (a 0)), (1, .int x1), (2, .int x2), (3, .ref o)] := hl
  refine lv_aload_n hx hb dL_rule_0 rfl (lv_at hl 3 rfl) ?_
  refine lv_iconst (v := 0) hx hb dL_rule_1 (by decide) ?_
  refine lv_aload_n hx hb dL_rule_2 rfl (lv_at hl 0 rfl) ?_
  refine lv_iload_n hx hb dL_rule_3 rfl (lv_at hl 1 rfl) ?_
  refine lv_iload_n hx hb dL_rule_4 rfl (lv_at hl 2 rfl) ?_
  refine x_callT (a := a) C h (c_X7_rule hst x1 x2 F G hw) lk_L_15 (rvX_0 K a F G) rfl hl.1 rfl (Nat.le_of_ble_eq_true rfl) ⟨Nat.le_of_ble_eq_true rfl, Nat.le_of_ble_eq_true rfl⟩ ⟨Nat.le_refl _, Nat.le_refl _⟩ dL_rule_5 (fun ce q9 F1 G1 H locs hw h hce hcv hcl => ?_) (fun r F1 G1 H locs hw h => ?_)
  · refine vx_catch (own := RL) (name := "java/lang/IndexOutOfBoundsException") C.2.2.2.1 [] ⟨0, 10, 13, 13⟩ [] (ht.trans rfl) (fun z hz => by cases hz) (by decide) (by decide) (C.2.2.2.2.1 _ kcl_13) (va_Nw.use rfl (C.ex.2.2.2.2.2.2.2.2.2.2.1 _ (by decide +kernel))) hce hcv hcl ?_
    refine lv_astore (lv' := (4, .ref q9) :: [(0, .ref (a 0)), (1, .int x1), (2, .int x2), (3, .ref o)]) hx hb dL_rule_13 hl (by decide) rfl (fun ls hl => ?_)
    refine lv_iconst (v := 1) hx hb dL_rule_15 (by decide) ?_
    exact x_reti (wf := fun (u : FT × GT × (Nat → Int64)) => outc K o u.2.2 ++ wX K a u.1 u.2.1) (u := (F1, G1, f)) (Q := fun r u => QW r u.1 u.2.1 u.2.2) C hr rfl h hw dL_rule_16
  · refine lv_i2l hx hb dL_rule_8 rfl ?_
    refine x_last C h in_0 dL_rule_9 (fun H locs h => ?_)
    refine lv_goto (tgt := 17) hx hb dL_rule_10 (by decide) ?_
    refine lv_iconst (v := 0) hx hb dL_rule_17 (by decide) ?_
    exact x_reti (wf := fun (u : FT × GT × (Nat → Int64)) => outc K o u.2.2 ++ wX K a u.1 u.2.1) (u := (F1, G1, vp_updL f 0 r.toInt64)) (Q := fun r u => QW r u.1 u.2.1 u.2.2) C hr rfl h hw dL_rule_18)
set_option maxHeartbeats 4000000 in
set_option maxRecDepth 100000 in
theorem c_L_about {l : Launch} (hst : l.stackTraces = false) {K : KT} {a : Nat → Nat} {o : Nat} (x1 x2 : Int32) (F : FT) (G : GT) (f : Nat → Int64) {QW : Int32 → FT → GT → (Nat → Int64) → Prop} (hw : wp_X7_about x1 x2 F G (fun v F G => QW 0 F G (vp_updL f 0 v.toInt64)) (fun F G => QW 1 F G f)) : CtW l K a o yL_about cL_about 5 [(0, 10, 13, 22)] 7 104 [.ref (a 0), .int x1, .int x2, .ref o] F G f QW := x_metW (by decide) (Nat.le_of_ble_eq_true rfl) (fun p e s m below meth c A ls C hr ht h hl => by
  have hx := C.1
  have hb := C.2.1
  have hl : lv_has ls 5 [(0, .ref (a 0)), (1, .int x1), (2, .int x2), (3, .ref o)] := hl
  refine lv_aload_n hx hb dL_about_0 rfl (lv_at hl 3 rfl) ?_
  refine lv_iconst (v := 0) hx hb dL_about_1 (by decide) ?_
  refine lv_aload_n hx hb dL_about_2 rfl (lv_at hl 0 rfl) ?_
  refine lv_iload_n hx hb dL_about_3 rfl (lv_at hl 1 rfl) ?_
  refine lv_iload_n hx hb dL_about_4 rfl (lv_at hl 2 rfl) ?_
  refine x_callT (a := a) C h (c_X7_about hst x1 x2 F G hw) lk_L_19 (rvX_0 K a F G) rfl hl.1 rfl (Nat.le_of_ble_eq_true rfl) ⟨Nat.le_of_ble_eq_true rfl, Nat.le_of_ble_eq_true rfl⟩ ⟨Nat.le_refl _, Nat.le_refl _⟩ dL_about_5 (fun ce q9 F1 G1 H locs hw h hce hcv hcl => ?_) (fun r F1 G1 H locs hw h => ?_)
  · refine vx_catch (own := RL) (name := "java/util/NoSuchElementException") C.2.2.2.1 [] ⟨0, 10, 13, 22⟩ [] (ht.trans rfl) (fun z hz => by cases hz) (by decide) (by decide) (C.2.2.2.2.1 _ kcl_22) (va_Nw.use rfl (C.ex.2.2.2.2.2.2.2.2.2.2.1 _ (by decide +kernel))) hce hcv hcl ?_
    refine lv_astore (lv' := (4, .ref q9) :: [(0, .ref (a 0)), (1, .int x1), (2, .int x2), (3, .ref o)]) hx hb dL_about_13 hl (by decide) rfl (fun ls hl => ?_)
    refine lv_iconst (v := 1) hx hb dL_about_15 (by decide) ?_
    exact x_reti (wf := fun (u : FT × GT × (Nat → Int64)) => outc K o u.2.2 ++ wX K a u.1 u.2.1) (u := (F1, G1, f)) (Q := fun r u => QW r u.1 u.2.1 u.2.2) C hr rfl h hw dL_about_16
  · refine lv_i2l hx hb dL_about_8 rfl ?_
    refine x_last C h in_0 dL_about_9 (fun H locs h => ?_)
    refine lv_goto (tgt := 17) hx hb dL_about_10 (by decide) ?_
    refine lv_iconst (v := 0) hx hb dL_about_17 (by decide) ?_
    exact x_reti (wf := fun (u : FT × GT × (Nat → Int64)) => outc K o u.2.2 ++ wX K a u.1 u.2.1) (u := (F1, G1, vp_updL f 0 r.toInt64)) (Q := fun r u => QW r u.1 u.2.1 u.2.2) C hr rfl h hw dL_about_18)
set_option maxHeartbeats 4000000 in
set_option maxRecDepth 100000 in
theorem c_L_fault {l : Launch} (hst : l.stackTraces = false) {K : KT} {a : Nat → Nat} {o : Nat} (x1 x2 x3 : Int32) (F : FT) (G : GT) (f : Nat → Int64) {QW : Int32 → FT → GT → (Nat → Int64) → Prop} (hw : wp_X7_fault x1 x2 x3 F G (fun v F G => QW 0 F G (vp_updL f 0 v.toInt64)) (fun F G => QW 1 F G f)) : CtW l K a o yL_fault cL_fault 6 [(0, 12, 15, 22)] 7 105 [.ref (a 0), .int x1, .int x2, .int x3, .ref o] F G f QW := x_metW (by decide) (Nat.le_of_ble_eq_true rfl) (fun p e s m below meth c A ls C hr ht h hl => by
  have hx := C.1
  have hb := C.2.1
  have hl : lv_has ls 6 [(0, .ref (a 0)), (1, .int x1), (2, .int x2), (3, .int x3), (4, .ref o)] := hl
  refine lv_aload hx hb dL_fault_0 (lv_at hl 4 rfl) ?_
  refine lv_iconst (v := 0) hx hb dL_fault_2 (by decide) ?_
  refine lv_aload_n hx hb dL_fault_3 rfl (lv_at hl 0 rfl) ?_
  refine lv_iload_n hx hb dL_fault_4 rfl (lv_at hl 1 rfl) ?_
  refine lv_iload_n hx hb dL_fault_5 rfl (lv_at hl 2 rfl) ?_
  refine lv_iload_n hx hb dL_fault_6 rfl (lv_at hl 3 rfl) ?_
  refine x_callT (a := a) C h (c_X7_fault hst x1 x2 x3 F G hw) lk_L_24 (rvX_0 K a F G) rfl hl.1 rfl (Nat.le_of_ble_eq_true rfl) ⟨Nat.le_of_ble_eq_true rfl, Nat.le_of_ble_eq_true rfl⟩ ⟨Nat.le_refl _, Nat.le_refl _⟩ dL_fault_7 (fun ce q9 F1 G1 H locs hw h hce hcv hcl => ?_) (fun r F1 G1 H locs hw h => ?_)
  · refine vx_catch (own := RL) (name := "java/util/NoSuchElementException") C.2.2.2.1 [] ⟨0, 12, 15, 22⟩ [] (ht.trans rfl) (fun z hz => by cases hz) (by decide) (by decide) (C.2.2.2.2.1 _ kcl_22) (va_Nw.use rfl (C.ex.2.2.2.2.2.2.2.2.2.2.1 _ (by decide +kernel))) hce hcv hcl ?_
    refine lv_astore (lv' := (5, .ref q9) :: [(0, .ref (a 0)), (1, .int x1), (2, .int x2), (3, .int x3), (4, .ref o)]) hx hb dL_fault_15 hl (by decide) rfl (fun ls hl => ?_)
    refine lv_iconst (v := 1) hx hb dL_fault_17 (by decide) ?_
    exact x_reti (wf := fun (u : FT × GT × (Nat → Int64)) => outc K o u.2.2 ++ wX K a u.1 u.2.1) (u := (F1, G1, f)) (Q := fun r u => QW r u.1 u.2.1 u.2.2) C hr rfl h hw dL_fault_18
  · refine lv_i2l hx hb dL_fault_10 rfl ?_
    refine x_last C h in_0 dL_fault_11 (fun H locs h => ?_)
    refine lv_goto (tgt := 19) hx hb dL_fault_12 (by decide) ?_
    refine lv_iconst (v := 0) hx hb dL_fault_19 (by decide) ?_
    exact x_reti (wf := fun (u : FT × GT × (Nat → Int64)) => outc K o u.2.2 ++ wX K a u.1 u.2.1) (u := (F1, G1, vp_updL f 0 r.toInt64)) (Q := fun r u => QW r u.1 u.2.1 u.2.2) C hr rfl h hw dL_fault_20)
set_option maxHeartbeats 4000000 in
set_option maxRecDepth 100000 in
theorem c_L_sale {l : Launch} (hst : l.stackTraces = false) {K : KT} {a : Nat → Nat} {o : Nat} (x1 x2 : Int32) (F : FT) (G : GT) (f : Nat → Int64) {QW : Int32 → FT → GT → (Nat → Int64) → Prop} (hw : wp_X7_sale x1 x2 F G (fun v F G => QW 0 F G (vp_updL f 0 v.toInt64)) (fun F G => QW 1 F G f)) : CtW l K a o yL_sale cL_sale 5 [(0, 10, 13, 22)] 7 104 [.ref (a 0), .int x1, .int x2, .ref o] F G f QW := x_metW (by decide) (Nat.le_of_ble_eq_true rfl) (fun p e s m below meth c A ls C hr ht h hl => by
  have hx := C.1
  have hb := C.2.1
  have hl : lv_has ls 5 [(0, .ref (a 0)), (1, .int x1), (2, .int x2), (3, .ref o)] := hl
  refine lv_aload_n hx hb dL_sale_0 rfl (lv_at hl 3 rfl) ?_
  refine lv_iconst (v := 0) hx hb dL_sale_1 (by decide) ?_
  refine lv_aload_n hx hb dL_sale_2 rfl (lv_at hl 0 rfl) ?_
  refine lv_iload_n hx hb dL_sale_3 rfl (lv_at hl 1 rfl) ?_
  refine lv_iload_n hx hb dL_sale_4 rfl (lv_at hl 2 rfl) ?_
  refine x_callT (a := a) C h (c_X7_sale hst x1 x2 F G hw) lk_L_28 (rvX_0 K a F G) rfl hl.1 rfl (Nat.le_of_ble_eq_true rfl) ⟨Nat.le_of_ble_eq_true rfl, Nat.le_of_ble_eq_true rfl⟩ ⟨Nat.le_refl _, Nat.le_refl _⟩ dL_sale_5 (fun ce q9 F1 G1 H locs hw h hce hcv hcl => ?_) (fun r F1 G1 H locs hw h => ?_)
  · refine vx_catch (own := RL) (name := "java/util/NoSuchElementException") C.2.2.2.1 [] ⟨0, 10, 13, 22⟩ [] (ht.trans rfl) (fun z hz => by cases hz) (by decide) (by decide) (C.2.2.2.2.1 _ kcl_22) (va_Nw.use rfl (C.ex.2.2.2.2.2.2.2.2.2.2.1 _ (by decide +kernel))) hce hcv hcl ?_
    refine lv_astore (lv' := (4, .ref q9) :: [(0, .ref (a 0)), (1, .int x1), (2, .int x2), (3, .ref o)]) hx hb dL_sale_13 hl (by decide) rfl (fun ls hl => ?_)
    refine lv_iconst (v := 1) hx hb dL_sale_15 (by decide) ?_
    exact x_reti (wf := fun (u : FT × GT × (Nat → Int64)) => outc K o u.2.2 ++ wX K a u.1 u.2.1) (u := (F1, G1, f)) (Q := fun r u => QW r u.1 u.2.1 u.2.2) C hr rfl h hw dL_sale_16
  · refine lv_i2l hx hb dL_sale_8 rfl ?_
    refine x_last C h in_0 dL_sale_9 (fun H locs h => ?_)
    refine lv_goto (tgt := 17) hx hb dL_sale_10 (by decide) ?_
    refine lv_iconst (v := 0) hx hb dL_sale_17 (by decide) ?_
    exact x_reti (wf := fun (u : FT × GT × (Nat → Int64)) => outc K o u.2.2 ++ wX K a u.1 u.2.1) (u := (F1, G1, vp_updL f 0 r.toInt64)) (Q := fun r u => QW r u.1 u.2.1 u.2.2) C hr rfl h hw dL_sale_18)
set_option maxHeartbeats 4000000 in
set_option maxRecDepth 100000 in
theorem c_L_purse {l : Launch} (hst : l.stackTraces = false) {K : KT} {a : Nat → Nat} {o : Nat} (x1 x2 : Int32) (F : FT) (G : GT) (f : Nat → Int64) {QW : Int32 → FT → GT → (Nat → Int64) → Prop} (hw : wp_X7_purse x1 x2 F G (fun v F G => QW 0 F G (vp_updL f 0 v.toInt64)) (fun F G => QW 1 F G f)) : CtW l K a o yL_purse cL_purse 5 [(0, 10, 13, 22)] 7 104 [.ref (a 0), .int x1, .int x2, .ref o] F G f QW := x_metW (by decide) (Nat.le_of_ble_eq_true rfl) (fun p e s m below meth c A ls C hr ht h hl => by
  have hx := C.1
  have hb := C.2.1
  have hl : lv_has ls 5 [(0, .ref (a 0)), (1, .int x1), (2, .int x2), (3, .ref o)] := hl
  refine lv_aload_n hx hb dL_purse_0 rfl (lv_at hl 3 rfl) ?_
  refine lv_iconst (v := 0) hx hb dL_purse_1 (by decide) ?_
  refine lv_aload_n hx hb dL_purse_2 rfl (lv_at hl 0 rfl) ?_
  refine lv_iload_n hx hb dL_purse_3 rfl (lv_at hl 1 rfl) ?_
  refine lv_iload_n hx hb dL_purse_4 rfl (lv_at hl 2 rfl) ?_
  refine x_callT (a := a) C h (c_X7_purse hst x1 x2 F G hw) lk_L_31 (rvX_0 K a F G) rfl hl.1 rfl (Nat.le_of_ble_eq_true rfl) ⟨Nat.le_of_ble_eq_true rfl, Nat.le_of_ble_eq_true rfl⟩ ⟨Nat.le_refl _, Nat.le_refl _⟩ dL_purse_5 (fun ce q9 F1 G1 H locs hw h hce hcv hcl => ?_) (fun r F1 G1 H locs hw h => ?_)
  · refine vx_catch (own := RL) (name := "java/util/NoSuchElementException") C.2.2.2.1 [] ⟨0, 10, 13, 22⟩ [] (ht.trans rfl) (fun z hz => by cases hz) (by decide) (by decide) (C.2.2.2.2.1 _ kcl_22) (va_Nw.use rfl (C.ex.2.2.2.2.2.2.2.2.2.2.1 _ (by decide +kernel))) hce hcv hcl ?_
    refine lv_astore (lv' := (4, .ref q9) :: [(0, .ref (a 0)), (1, .int x1), (2, .int x2), (3, .ref o)]) hx hb dL_purse_13 hl (by decide) rfl (fun ls hl => ?_)
    refine lv_iconst (v := 1) hx hb dL_purse_15 (by decide) ?_
    exact x_reti (wf := fun (u : FT × GT × (Nat → Int64)) => outc K o u.2.2 ++ wX K a u.1 u.2.1) (u := (F1, G1, f)) (Q := fun r u => QW r u.1 u.2.1 u.2.2) C hr rfl h hw dL_purse_16
  · refine lv_i2l hx hb dL_purse_8 rfl ?_
    refine x_last C h in_0 dL_purse_9 (fun H locs h => ?_)
    refine lv_goto (tgt := 17) hx hb dL_purse_10 (by decide) ?_
    refine lv_iconst (v := 0) hx hb dL_purse_17 (by decide) ?_
    exact x_reti (wf := fun (u : FT × GT × (Nat → Int64)) => outc K o u.2.2 ++ wX K a u.1 u.2.1) (u := (F1, G1, vp_updL f 0 r.toInt64)) (Q := fun r u => QW r u.1 u.2.1 u.2.2) C hr rfl h hw dL_purse_18)
set_option maxHeartbeats 4000000 in
set_option maxRecDepth 100000 in
theorem c_L_debt {l : Launch} (hst : l.stackTraces = false) {K : KT} {a : Nat → Nat} {o : Nat} (x1 x2 : Int32) (F : FT) (G : GT) (f : Nat → Int64) {QW : Int32 → FT → GT → (Nat → Int64) → Prop} (hw : wp_X7_debt x1 x2 F G (fun v F G => QW 0 F G (vp_updL f 0 v.toInt64)) (fun F G => QW 1 F G f)) : CtW l K a o yL_debt cL_debt 5 [(0, 10, 13, 22)] 7 104 [.ref (a 0), .int x1, .int x2, .ref o] F G f QW := x_metW (by decide) (Nat.le_of_ble_eq_true rfl) (fun p e s m below meth c A ls C hr ht h hl => by
  have hx := C.1
  have hb := C.2.1
  have hl : lv_has ls 5 [(0, .ref (a 0)), (1, .int x1), (2, .int x2), (3, .ref o)] := hl
  refine lv_aload_n hx hb dL_debt_0 rfl (lv_at hl 3 rfl) ?_
  refine lv_iconst (v := 0) hx hb dL_debt_1 (by decide) ?_
  refine lv_aload_n hx hb dL_debt_2 rfl (lv_at hl 0 rfl) ?_
  refine lv_iload_n hx hb dL_debt_3 rfl (lv_at hl 1 rfl) ?_
  refine lv_iload_n hx hb dL_debt_4 rfl (lv_at hl 2 rfl) ?_
  refine x_callT (a := a) C h (c_X7_debt hst x1 x2 F G hw) lk_L_34 (rvX_0 K a F G) rfl hl.1 rfl (Nat.le_of_ble_eq_true rfl) ⟨Nat.le_of_ble_eq_true rfl, Nat.le_of_ble_eq_true rfl⟩ ⟨Nat.le_refl _, Nat.le_refl _⟩ dL_debt_5 (fun ce q9 F1 G1 H locs hw h hce hcv hcl => ?_) (fun r F1 G1 H locs hw h => ?_)
  · refine vx_catch (own := RL) (name := "java/util/NoSuchElementException") C.2.2.2.1 [] ⟨0, 10, 13, 22⟩ [] (ht.trans rfl) (fun z hz => by cases hz) (by decide) (by decide) (C.2.2.2.2.1 _ kcl_22) (va_Nw.use rfl (C.ex.2.2.2.2.2.2.2.2.2.2.1 _ (by decide +kernel))) hce hcv hcl ?_
    refine lv_astore (lv' := (4, .ref q9) :: [(0, .ref (a 0)), (1, .int x1), (2, .int x2), (3, .ref o)]) hx hb dL_debt_13 hl (by decide) rfl (fun ls hl => ?_)
    refine lv_iconst (v := 1) hx hb dL_debt_15 (by decide) ?_
    exact x_reti (wf := fun (u : FT × GT × (Nat → Int64)) => outc K o u.2.2 ++ wX K a u.1 u.2.1) (u := (F1, G1, f)) (Q := fun r u => QW r u.1 u.2.1 u.2.2) C hr rfl h hw dL_debt_16
  · refine lv_i2l hx hb dL_debt_8 rfl ?_
    refine x_last C h in_0 dL_debt_9 (fun H locs h => ?_)
    refine lv_goto (tgt := 17) hx hb dL_debt_10 (by decide) ?_
    refine lv_iconst (v := 0) hx hb dL_debt_17 (by decide) ?_
    exact x_reti (wf := fun (u : FT × GT × (Nat → Int64)) => outc K o u.2.2 ++ wX K a u.1 u.2.1) (u := (F1, G1, vp_updL f 0 r.toInt64)) (Q := fun r u => QW r u.1 u.2.1 u.2.2) C hr rfl h hw dL_debt_18)
set_option maxHeartbeats 4000000 in
set_option maxRecDepth 100000 in
theorem c_L_hand {l : Launch} (hst : l.stackTraces = false) {K : KT} {a : Nat → Nat} {o : Nat} (x1 x2 x3 : Int32) (F : FT) (G : GT) (f : Nat → Int64) {QW : Int32 → FT → GT → (Nat → Int64) → Prop} (hw : wp_X7_hand x1 x2 x3 F G (fun v F G => QW 0 F G (vp_updL f 0 v.toInt64)) (fun F G => QW 1 F G f)) : CtW l K a o yL_hand cL_hand 6 [(0, 12, 15, 22)] 7 106 [.ref (a 0), .int x1, .int x2, .int x3, .ref o] F G f QW := x_metW (by decide) (Nat.le_of_ble_eq_true rfl) (fun p e s m below meth c A ls C hr ht h hl => by
  have hx := C.1
  have hb := C.2.1
  have hl : lv_has ls 6 [(0, .ref (a 0)), (1, .int x1), (2, .int x2), (3, .int x3), (4, .ref o)] := hl
  refine lv_aload hx hb dL_hand_0 (lv_at hl 4 rfl) ?_
  refine lv_iconst (v := 0) hx hb dL_hand_2 (by decide) ?_
  refine lv_aload_n hx hb dL_hand_3 rfl (lv_at hl 0 rfl) ?_
  refine lv_iload_n hx hb dL_hand_4 rfl (lv_at hl 1 rfl) ?_
  refine lv_iload_n hx hb dL_hand_5 rfl (lv_at hl 2 rfl) ?_
  refine lv_iload_n hx hb dL_hand_6 rfl (lv_at hl 3 rfl) ?_
  refine x_callT (a := a) C h (c_X7_hand hst x1 x2 x3 F G hw) lk_L_37 (rvX_0 K a F G) rfl hl.1 rfl (Nat.le_of_ble_eq_true rfl) ⟨Nat.le_of_ble_eq_true rfl, Nat.le_of_ble_eq_true rfl⟩ ⟨Nat.le_refl _, Nat.le_refl _⟩ dL_hand_7 (fun ce q9 F1 G1 H locs hw h hce hcv hcl => ?_) (fun r F1 G1 H locs hw h => ?_)
  · refine vx_catch (own := RL) (name := "java/util/NoSuchElementException") C.2.2.2.1 [] ⟨0, 12, 15, 22⟩ [] (ht.trans rfl) (fun z hz => by cases hz) (by decide) (by decide) (C.2.2.2.2.1 _ kcl_22) (va_Nw.use rfl (C.ex.2.2.2.2.2.2.2.2.2.2.1 _ (by decide +kernel))) hce hcv hcl ?_
    refine lv_astore (lv' := (5, .ref q9) :: [(0, .ref (a 0)), (1, .int x1), (2, .int x2), (3, .int x3), (4, .ref o)]) hx hb dL_hand_15 hl (by decide) rfl (fun ls hl => ?_)
    refine lv_iconst (v := 1) hx hb dL_hand_17 (by decide) ?_
    exact x_reti (wf := fun (u : FT × GT × (Nat → Int64)) => outc K o u.2.2 ++ wX K a u.1 u.2.1) (u := (F1, G1, f)) (Q := fun r u => QW r u.1 u.2.1 u.2.2) C hr rfl h hw dL_hand_18
  · refine lv_i2l hx hb dL_hand_10 rfl ?_
    refine x_last C h in_0 dL_hand_11 (fun H locs h => ?_)
    refine lv_goto (tgt := 19) hx hb dL_hand_12 (by decide) ?_
    refine lv_iconst (v := 0) hx hb dL_hand_19 (by decide) ?_
    exact x_reti (wf := fun (u : FT × GT × (Nat → Int64)) => outc K o u.2.2 ++ wX K a u.1 u.2.1) (u := (F1, G1, vp_updL f 0 r.toInt64)) (Q := fun r u => QW r u.1 u.2.1 u.2.2) C hr rfl h hw dL_hand_20)
