def R_law : String := "HorseFairLaw"
def lw_P (b : Addr) (xs : List Int32) (args : Array Value) (s : State) : Prop := args = #[.ref b] ∧ s.IntsAt b xs ∧ xs.length ≤ 3072 ∧ (Jvm.Cond.and given_1 narrow_1).before args s = true
def lw_Q (_ : Array Value) (s : State) (o : Outcome) (t : State) : Prop := o = .returned (some (.int 1)) ∧ Framed s o t [] 601024 7293034
def lw_Z (below : List Frame) (a : Array Value) (s : State) : State → Prop := fun t => ∃ o, t.status = .running ∧ Ended t below o ∧ lw_Q a s o t
/-- the law's own end, with 1 on the stack, nothing written that was there before, its room as the claim has it -/
theorem lw_ret {p : Program} {l : Launch} {e : Env} {s : State} {m : MethodId} {below : List Frame} {meth : Method} {c : Code} {b : Nat} (hx : p.tables.exec = Jvm.exec) (hb : c.code = code) (hr : meth.sig.returnType = ret) (hlocks : meth.locks = false) {pc : Nat} {H : Heap} {ls : Array Slot} (hdg : decode code pc = .ok (.ireturn, 1)) : W p l e room_1 s m #[Value.ref b] below meth c H [] 601024 7293034 (lw_Z below #[Value.ref b] s) (F0 m pc ls [.int 1]) := by
  intro T hT X
  obtain ⟨fs, hret, hrun, hended, hW, hframe⟩ := X.leave (v := some (.int 1)) (hlocks := hlocks) (fun h => by rw [hr] at h; cases h)
  have hmeth' : T.vm.method? m = some meth := X.method'
  refine ⟨T.setFrames fs, ?_, .returned (some (.int 1)), hrun, hended, rfl, ⟨_, rfl⟩, hW, hframe⟩
  jvm_step X.here [X.here.top, hx, hb, hdg, hmeth', hr, ret, narrow_b1]
  (try refine ⟨rfl, ?_⟩); (try refine ⟨rfl, ?_⟩)
  first | (intro acts; rw [hret _ acts rfl rfl rfl]) | rw [hret _ _ rfl rfl rfl]
  exact Steps.refl _
/-- what holds at the law's entry: the machine, the code, the tables' words (any of lw_tbl by 'hts w (by decide +kernel)'), the script of L ints xs at the cell b, what the Statement gives of the start (any of its parts by flat_of_before) -/
def lw_At (p : Program) (s : State) (m : MethodId) (meth : Method) (c : Code) (b L : Nat) (xs : Nat → Int32) : Prop :=
  p.tables.exec = Jvm.exec ∧ c.code = code ∧ meth.sig.returnType = ret ∧ c.maxLocals = 7 ∧ s.vm.findClass R_law = some m.cls ∧ (∀ w ∈ lw_tbl, w.before #[Value.ref b] s = true) ∧ va_X b L xs s s.heap ∧ b < s.heap.size ∧ meth.locks = false ∧ (Jvm.Cond.and given_1 narrow_1).before #[Value.ref b] s = true
/-! the law's loop, over any invariant I that every step keeps -/
abbrev IT : Type := FT → GT → FT → GT → Int64 → Prop
def PT (I : IT) (FX : FT) (GX : GT) (k : Int32) (f : Nat → Int64) : Int32 → FT → GT → Int64 → Prop := fun b FM GM w => FM 20 = k ∧ (k = 0 → f 0 = b.toInt64) ∧ I FX GX FM GM w
def PS (I : IT) (FX : FT) (GX : GT) (r : Int32) : Int32 → FT → GT → Int64 → Prop := fun r2 FM GM w => r = r2 ∧ I FX GX FM GM w
def Stp_feed (I : IT) : Prop := ∀ (FX : FT) (GX : GT) (FM : FT) (GM : GT) (w : Int64), I FX GX FM GM w → ∀ (x1 x2 x3 x4 x5 : Int32) , wp_X7_feed x1 x2 x3 x4 x5 FX GX (fun r FX GX => wp_X8_feed x1 x2 x3 x4 x5 FM GM w (PS I FX GX r))
def Stp_end (I : IT) : Prop := ∀ (FX : FT) (GX : GT) (FM : FT) (GM : GT) (w : Int64), I FX GX FM GM w → ∀ (x1 : Int32) , wp_X7_end x1 FX GX (fun r FX GX => wp_X8_end x1 FM GM w (PS I FX GX r))
def Stp_law (I : IT) : Prop := ∀ (FX : FT) (GX : GT) (FM : FT) (GM : GT) (w : Int64), I FX GX FM GM w → ∀ (x1 : Int32) (f : Nat → Int64) , wp_X7_law x1 FX GX (fun v FX GX => wp_X8_law x1 FM GM w (PT I FX GX 0 (vp_updL f 0 v.toInt64))) (fun FX GX => wp_X8_law x1 FM GM w (PT I FX GX 1 f))
def Stp_wrong (I : IT) : Prop := ∀ (FX : FT) (GX : GT) (FM : FT) (GM : GT) (w : Int64), I FX GX FM GM w → wp_X7_wrong FX GX (fun r FX GX => wp_X8_wrong FM GM w (PS I FX GX r))
def Stp_rule (I : IT) : Prop := ∀ (FX : FT) (GX : GT) (FM : FT) (GM : GT) (w : Int64), I FX GX FM GM w → ∀ (x1 x2 : Int32) (f : Nat → Int64) , wp_X7_rule x1 x2 FX GX (fun v FX GX => wp_X8_rule x1 x2 FM GM w (PT I FX GX 0 (vp_updL f 0 v.toInt64))) (fun FX GX => wp_X8_rule x1 x2 FM GM w (PT I FX GX 1 f))
def Stp_person (I : IT) : Prop := ∀ (FX : FT) (GX : GT) (FM : FT) (GM : GT) (w : Int64), I FX GX FM GM w → ∀ (x1 : Int32) , wp_X7_person x1 FX GX (fun r FX GX => wp_X8_person x1 FM GM w (PS I FX GX r))
def Stp_coin (I : IT) : Prop := ∀ (FX : FT) (GX : GT) (FM : FT) (GM : GT) (w : Int64), I FX GX FM GM w → ∀ (x1 x2 : Int32) , wp_X7_coin x1 x2 FX GX (fun r FX GX => wp_X8_coin x1 x2 FM GM w (PS I FX GX r))
def Stp_horse (I : IT) : Prop := ∀ (FX : FT) (GX : GT) (FM : FT) (GM : GT) (w : Int64), I FX GX FM GM w → ∀ (x1 : Int32) , wp_X7_horse x1 FX GX (fun r FX GX => wp_X8_horse x1 FM GM w (PS I FX GX r))
def Stp_sell (I : IT) : Prop := ∀ (FX : FT) (GX : GT) (FM : FT) (GM : GT) (w : Int64), I FX GX FM GM w → ∀ (x1 x2 x3 x4 x5 : Int32) , wp_X7_sell x1 x2 x3 x4 x5 FX GX (fun r FX GX => wp_X8_sell x1 x2 x3 x4 x5 FM GM w (PS I FX GX r))
def Stp_find (I : IT) : Prop := ∀ (FX : FT) (GX : GT) (FM : FT) (GM : GT) (w : Int64), I FX GX FM GM w → ∀ (x1 x2 x3 : Int32) , wp_X7_find x1 x2 x3 FX GX (fun r FX GX => wp_X8_find x1 x2 x3 FM GM w (PS I FX GX r))
def Stp_back (I : IT) : Prop := ∀ (FX : FT) (GX : GT) (FM : FT) (GM : GT) (w : Int64), I FX GX FM GM w → ∀ (x1 : Int32) , wp_X7_back x1 FX GX (fun r FX GX => wp_X8_back x1 FM GM w (PS I FX GX r))
def Stp_trace (I : IT) : Prop := ∀ (FX : FT) (GX : GT) (FM : FT) (GM : GT) (w : Int64), I FX GX FM GM w → ∀ (x1 : Int32) , wp_X7_trace x1 FX GX (fun r FX GX => wp_X8_trace x1 FM GM w (PS I FX GX r))
def Stp_steal (I : IT) : Prop := ∀ (FX : FT) (GX : GT) (FM : FT) (GM : GT) (w : Int64), I FX GX FM GM w → ∀ (x1 x2 : Int32) , wp_X7_steal x1 x2 FX GX (fun r FX GX => wp_X8_steal x1 x2 FM GM w (PS I FX GX r))
def Stp_claim (I : IT) : Prop := ∀ (FX : FT) (GX : GT) (FM : FT) (GM : GT) (w : Int64), I FX GX FM GM w → ∀ (x1 : Int32) , wp_X7_claim x1 FX GX (fun r FX GX => wp_X8_claim x1 FM GM w (PS I FX GX r))
def Stp_next (I : IT) : Prop := ∀ (FX : FT) (GX : GT) (FM : FT) (GM : GT) (w : Int64), I FX GX FM GM w → wp_X7_next FX GX (fun r FX GX => wp_X8_next FM GM w (PS I FX GX r))
def Stp_about (I : IT) : Prop := ∀ (FX : FT) (GX : GT) (FM : FT) (GM : GT) (w : Int64), I FX GX FM GM w → ∀ (x1 x2 : Int32) (f : Nat → Int64) , wp_X7_about x1 x2 FX GX (fun v FX GX => wp_X8_about x1 x2 FM GM w (PT I FX GX 0 (vp_updL f 0 v.toInt64))) (fun FX GX => wp_X8_about x1 x2 FM GM w (PT I FX GX 1 f))
def Stp_fault (I : IT) : Prop := ∀ (FX : FT) (GX : GT) (FM : FT) (GM : GT) (w : Int64), I FX GX FM GM w → ∀ (x1 x2 x3 : Int32) (f : Nat → Int64) , wp_X7_fault x1 x2 x3 FX GX (fun v FX GX => wp_X8_fault x1 x2 x3 FM GM w (PT I FX GX 0 (vp_updL f 0 v.toInt64))) (fun FX GX => wp_X8_fault x1 x2 x3 FM GM w (PT I FX GX 1 f))
def Stp_sale (I : IT) : Prop := ∀ (FX : FT) (GX : GT) (FM : FT) (GM : GT) (w : Int64), I FX GX FM GM w → ∀ (x1 x2 : Int32) (f : Nat → Int64) , wp_X7_sale x1 x2 FX GX (fun v FX GX => wp_X8_sale x1 x2 FM GM w (PT I FX GX 0 (vp_updL f 0 v.toInt64))) (fun FX GX => wp_X8_sale x1 x2 FM GM w (PT I FX GX 1 f))
def Stp_purse (I : IT) : Prop := ∀ (FX : FT) (GX : GT) (FM : FT) (GM : GT) (w : Int64), I FX GX FM GM w → ∀ (x1 x2 : Int32) (f : Nat → Int64) , wp_X7_purse x1 x2 FX GX (fun v FX GX => wp_X8_purse x1 x2 FM GM w (PT I FX GX 0 (vp_updL f 0 v.toInt64))) (fun FX GX => wp_X8_purse x1 x2 FM GM w (PT I FX GX 1 f))
def Stp_debt (I : IT) : Prop := ∀ (FX : FT) (GX : GT) (FM : FT) (GM : GT) (w : Int64), I FX GX FM GM w → ∀ (x1 x2 : Int32) (f : Nat → Int64) , wp_X7_debt x1 x2 FX GX (fun v FX GX => wp_X8_debt x1 x2 FM GM w (PT I FX GX 0 (vp_updL f 0 v.toInt64))) (fun FX GX => wp_X8_debt x1 x2 FM GM w (PT I FX GX 1 f))
def Stp_hand (I : IT) : Prop := ∀ (FX : FT) (GX : GT) (FM : FT) (GM : GT) (w : Int64), I FX GX FM GM w → ∀ (x1 x2 x3 : Int32) (f : Nat → Int64) , wp_X7_hand x1 x2 x3 FX GX (fun v FX GX => wp_X8_hand x1 x2 x3 FM GM w (PT I FX GX 0 (vp_updL f 0 v.toInt64))) (fun FX GX => wp_X8_hand x1 x2 x3 FM GM w (PT I FX GX 1 f))
def Stp_count (I : IT) : Prop := ∀ (FX : FT) (GX : GT) (FM : FT) (GM : GT) (w : Int64), I FX GX FM GM w → ∀ (x1 : Int32) , wp_X7_count x1 FX GX (fun r FX GX => wp_X8_count x1 FM GM w (PS I FX GX r))
def StpAll (I : IT) : Prop := Stp_feed I ∧ Stp_end I ∧ Stp_law I ∧ Stp_wrong I ∧ Stp_rule I ∧ Stp_person I ∧ Stp_coin I ∧ Stp_horse I ∧ Stp_sell I ∧ Stp_find I ∧ Stp_back I ∧ Stp_trace I ∧ Stp_steal I ∧ Stp_claim I ∧ Stp_next I ∧ Stp_about I ∧ Stp_fault I ∧ Stp_sale I ∧ Stp_purse I ∧ Stp_debt I ∧ Stp_hand I ∧ Stp_count I
abbrev wL (K : KT) (o : Nat) (f : Nat → Int64) (am ax : Nat → Nat) (FX : FT) (GX : GT) (FM : FT) (GM : GT) (w : Int64) : va_W := (outc K o f ++ wM K am FM GM w) ++ wX K ax FX GX
theorem wL_m (K : KT) (o : Nat) (f : Nat → Int64) (u v : va_W) : List.Perm ((outc K o f ++ u) ++ v) ((outc K o f ++ v) ++ u) := by
  rw [List.append_assoc, List.append_assoc]
  exact List.Perm.append_left _ List.perm_append_comm
theorem wL_w (K : KT) (o : Nat) (f : Nat → Int64) (u v : va_W) : List.Perm ((outc K o f ++ u) ++ v) (u ++ (outc K o f ++ v)) := by
  rw [← List.append_assoc]
  exact List.Perm.append_right _ List.perm_append_comm
theorem lg_self (x : Int64) : lg_cmp x x = 0 := by simp [lg_cmp]
section LAWB
variable {p : Program} {l : Launch} {e : Env} {R : Room} {s : State} {m : MethodId} {args : Array Value} {below : List Frame} {meth : Method} {c : Code} {H : Heap} {locs : List Loc} {cells slots : Nat} {Z : State → Prop}
variable {K : KT} {A : Nat → Prop} {cc : ByteArray} {nL : Nat} {own : String} {pc : Nat} {ls : Array Slot} {rest : List Value} {o : Nat} {f : Nat → Int64} {am ax : Nat → Nat} {FX : FT} {GX : GT} {FM : FT} {GM : GT} {w : Int64}
theorem lcx {y : MethodName} {bytes : ByteArray} {maxL fr lo idx n : Nat} {ret : Option FieldType} {As st : List Value} {Q : Int32 → FT → GT → Prop} (C : CX p s m args meth c K A cc nL own) (h : WD K A s (wL K o f am ax FX GX FM GM w) H locs) (hM : CtXi l K ax y bytes maxL ret fr lo (.ref (ax 0) :: As) FX GX Q) (k : LkV own idx RX7 y bytes maxL ret n) (hn : As.length = n) (hsz : ls.size = nL) (hst : st = As.reverse ++ .ref (ax 0) :: rest) (hW : (rest.map fun v => v.category).sum ≤ 8) (hR : fr + 1 ≤ R.frames ∧ 8 + (maxL + 11) + lo ≤ R.locals) (hcs : cells ≤ R.cells ∧ slots ≤ R.slots) (hdg : decode cc pc = .ok (.invokevirtual idx, 3))
    (kk : ∀ (r : Int32) (FX : FT) (GX : GT) (H1 : Heap) (locs1 : List Loc), Q r FX GX → WD K A s (wL K o f am ax FX GX FM GM w) H1 locs1 → W p l e R s m args below meth c H1 locs1 cells slots Z (F0 m (pc + 3) ls (.int r :: rest))) : W p l e R s m args below meth c H locs cells slots Z (F0 m pc ls st) :=
  x_calliF (wf := fun (u : FT × GT) => wX K ax u.1 u.2) C h (x_runV C h.right (hM H.size) k (rvX_0 K ax FX GX) hn hsz hst hW hR hcs hdg) (fun r u H1 locs1 hq h1 => kk r u.1 u.2 H1 locs1 hq h1)
theorem lcm {y : MethodName} {bytes : ByteArray} {maxL fr lo idx n : Nat} {ret : Option FieldType} {As st : List Value} {Q : Int32 → FT → GT → Int64 → Prop} (C : CX p s m args meth c K A cc nL own) (h : WD K A s (wL K o f am ax FX GX FM GM w) H locs) (hM : CtMi l K am y bytes maxL ret fr lo (.ref (am 0) :: As) FM GM w Q) (k : LkV own idx RX8 y bytes maxL ret n) (hn : As.length = n) (hsz : ls.size = nL) (hst : st = As.reverse ++ .ref (am 0) :: rest) (hW : (rest.map fun v => v.category).sum ≤ 8) (hR : fr + 1 ≤ R.frames ∧ 8 + (maxL + 11) + lo ≤ R.locals) (hcs : cells ≤ R.cells ∧ slots ≤ R.slots) (hdg : decode cc pc = .ok (.invokevirtual idx, 3))
    (kk : ∀ (r : Int32) (FM : FT) (GM : GT) (w : Int64) (H1 : Heap) (locs1 : List Loc), Q r FM GM w → WD K A s (wL K o f am ax FX GX FM GM w) H1 locs1 → W p l e R s m args below meth c H1 locs1 cells slots Z (F0 m (pc + 3) ls (.int r :: rest))) : W p l e R s m args below meth c H locs cells slots Z (F0 m pc ls st) := by
  have h' := WD.perm (wL_m K o f _ _) h
  exact x_calliF (wf := fun (u : FT × GT × Int64) => wM K am u.1 u.2.1 u.2.2) C h' (x_runV C h'.right (hM H.size) k (rvM_0 K am FM GM w) hn hsz hst hW hR hcs hdg) (fun r u H1 locs1 hq h1 => kk r u.1 u.2.1 u.2.2 H1 locs1 hq (WD.perm (wL_m K o f _ _) h1))
def LkW (own : String) (idx : Nat) (y : MethodName) (bytes : ByteArray) (maxL : Nat) (hh : List (Nat × Nat × Nat × Nat)) (n : Nat) : Prop := (y.cls ≠ "java/lang/invoke/MethodHandle" ∧ y.cls ≠ "java/lang/invoke/VarHandle" ∧ (parseMethodDescriptor y.desc).map (fun d => d.parameters.length) = some n) ∧ Cond.methodLink own idx y ∈ TB ∧ Cond.static y ∈ TB ∧ Cond.initialized y.cls ∈ TB ∧ Cond.codeWith y bytes maxL (some .int) hh ∈ TB
theorem lcw {y : MethodName} {bytes : ByteArray} {maxL fr lo idx n : Nat} {hh : List (Nat × Nat × Nat × Nat)} {As st : List Value} {QW : Int32 → FT → GT → (Nat → Int64) → Prop} (C : CX p s m args meth c K A cc nL own) (h : WD K A s (wL K o f am ax FX GX FM GM w) H locs) (hM : CtW l K ax o y bytes maxL hh fr lo As FX GX f QW) (k : LkW own idx y bytes maxL hh n) (hn : As.length = n) (hsz : ls.size = nL) (hst : st = As.reverse ++ rest) (hW : (rest.map fun v => v.category).sum ≤ 8) (hR : fr + 1 ≤ R.frames ∧ 8 + (maxL + 11) + lo ≤ R.locals) (hcs : cells + 1 ≤ R.cells ∧ slots + 6 ≤ R.slots) (hdg : decode cc pc = .ok (.invokestatic idx, 3))
    (kk : ∀ (r : Int32) (FX : FT) (GX : GT) (f : Nat → Int64) (H1 : Heap) (locs1 : List Loc), QW r FX GX f → WD K A s (wL K o f am ax FX GX FM GM w) H1 locs1 → W p l e R s m args below meth c H1 locs1 (cells + 1) (slots + 6) Z (F0 m (pc + 3) ls (.int r :: rest))) : W p l e R s m args below meth c H locs cells slots Z (F0 m pc ls st) := by
  have h' := WD.perm (wL_w K o f _ _) h
  have hpre := WD.pre C h'.right
  refine x_calliF (wf := fun (u : FT × GT × (Nat → Int64)) => outc K o u.2.2 ++ wX K ax u.1 u.2.1) C h' (a := As.toArray) ?_ (fun r u H1 locs1 hq h1 => kk r u.1 u.2.1 u.2.2 H1 locs1 hq (WD.perm (wL_w K o _ _ _).symm h1))
  obtain ⟨hx, hb, hml, hown, hts, hK, hA, hE, hlk⟩ := C
  obtain ⟨hd, k1, k2, k3, k4⟩ := k
  refine vx_runSW (As := As) (rest := rest) (Ts := TB) (hh := hh) ⟨hx, hb, hml, hown, hts⟩ (hM H.size) (vx_cwSW n hts (gi_of ?_) rfl rfl rfl hd hR) ⟨preW_blind, fun U hU hW => ⟨rfl, hpre U hU hW⟩⟩ rfl hn hsz hst (lv_room hW) hdg hcs
  exact gi_cons k1 (gi_cons k2 (gi_cons k3 (gi_cons k4 gi_tb)))
theorem scr {b L j k : Nat} {xs : Nat → Int32} {kz : Int} {lv : List (Nat × Value)} {i0 i4 : Nat} (hx : p.tables.exec = Jvm.exec) (hb : c.code = cc) (hX : va_X b L xs s s.heap) (hbl : b < s.heap.size) (hbA : ¬ A b) (hS : va_S A s.heap H locs) (hl : lv_has ls nL lv) (h0 : lv[i0]? = some (0, .ref b)) (h4 : lv[i4]? = some (4, .int (nI j))) (hj : j + 6 ≤ L) (hL : L ≤ 3072) (hk : k < 6) (hz : Int32.ofInt kz = nI k)
    (d0 : decode cc pc = .ok (.aload_n 0, 1)) (d1 : decode cc (pc + 1) = .ok (.iload 4, 2)) (d3 : decode cc (pc + 1 + 2) = .ok (.iconst kz, 1)) (d4 : decode cc (pc + 1 + 2 + 1) = .ok (.iadd, 1)) (d5 : decode cc (pc + 1 + 2 + 1 + 1) = .ok (.iaload, 1))
    (kk : W p l e R s m args below meth c H locs cells slots Z (F0 m (pc + 1 + 2 + 1 + 1 + 1) ls (.int (xs (j + k)) :: rest))) : W p l e R s m args below meth c H locs cells slots Z (F0 m pc ls rest) := by
  refine lv_aload_n hx hb d0 rfl (lv_at hl i0 h0) ?_
  refine lv_iload hx hb d1 (lv_at hl i4 h4) ?_
  refine lv_iconst (v := nI k) hx hb d3 hz ?_
  refine lv_iadd hx hb d4 ?_
  rw [nI_add]
  refine va_sld hx hb hX hbl hbA hS (vp_in_nI (by omega) (by omega)) d5 ?_
  rw [nI_clamp (by omega)]
  exact kk
end LAWB
set_option maxHeartbeats 4000000 in
set_option maxRecDepth 100000 in
theorem lawc_0 {p : Program} {l : Launch} {e : Env} {s : State} {m : MethodId} {args : Array Value} {below : List Frame} {meth : Method} {c : Code} {H : Heap} {locs : List Loc} {cells slots : Nat} {Z : State → Prop} {K : KT} {A : Nat → Prop} {ls : Array Slot} {o : Nat} {am ax : Nat → Nat} {I : IT} {b L j : Nat} {xs : Nat → Int32} (hst : l.stackTraces = false) (C : CX p s m args meth c K A cL_law_ 7 RL) (hX : va_X b L xs s s.heap) (hbl : b < s.heap.size) (hbA : ¬ A b) (hL : L ≤ 3072) (hj : j + 6 ≤ L) (hcs : cells + 1 ≤ room_1.cells ∧ slots + 6 ≤ room_1.slots) (hs : Stp_feed I) (FX : FT) (GX : GT) (FM : FT) (GM : GT) (w : Int64) (f : Nat → Int64) (hI : I FX GX FM GM w) (h : WD K A s (wL K o f am ax FX GX FM GM w) H locs) (hl : lv_has ls 7 [(0, .ref b), (1, .ref (ax 0)), (2, .ref (am 0)), (3, .ref o), (4, .int (nI j))]) (hk : ∀ (FX : FT) (GX : GT) (FM : FT) (GM : GT) (w : Int64) (f : Nat → Int64) (H : Heap) (locs : List Loc) (ls : Array Slot), I FX GX FM GM w → WD K A s (wL K o f am ax FX GX FM GM w) H locs → lv_has ls 7 [(0, .ref b), (1, .ref (ax 0)), (2, .ref (am 0)), (3, .ref o), (4, .int (nI j))] → W p l e room_1 s m args below meth c H locs (cells + 1) (slots + 6) Z (F0 m 1170 ls [])) : W p l e room_1 s m args below meth c H locs cells slots Z (F0 m 144 ls []) := by
  have hx := C.1
  have hb := C.2.1
  have hw := hs FX GX FM GM w hI (xs (j + 1)) (xs (j + 2)) (xs (j + 3)) (xs (j + 4)) (xs (j + 5)) 
  refine lv_aload_n hx hb dL_law__144 rfl (lv_at hl 1 rfl) ?_
  refine scr (k := 1) hx hb hX hbl hbA h.2.2 hl (i0 := 0) (i4 := 4) rfl rfl hj hL (by decide) (by decide) dL_law__145 dL_law__146 dL_law__148 dL_law__149 dL_law__150 ?_
  refine scr (k := 2) hx hb hX hbl hbA h.2.2 hl (i0 := 0) (i4 := 4) rfl rfl hj hL (by decide) (by decide) dL_law__151 dL_law__152 dL_law__154 dL_law__155 dL_law__156 ?_
  refine scr (k := 3) hx hb hX hbl hbA h.2.2 hl (i0 := 0) (i4 := 4) rfl rfl hj hL (by decide) (by decide) dL_law__157 dL_law__158 dL_law__160 dL_law__161 dL_law__162 ?_
  refine scr (k := 4) hx hb hX hbl hbA h.2.2 hl (i0 := 0) (i4 := 4) rfl rfl hj hL (by decide) (by decide) dL_law__163 dL_law__164 dL_law__166 dL_law__167 dL_law__168 ?_
  refine scr (k := 5) hx hb hX hbl hbA h.2.2 hl (i0 := 0) (i4 := 4) rfl rfl hj hL (by decide) (by decide) dL_law__169 dL_law__170 dL_law__172 dL_law__173 dL_law__174 ?_
  refine lcx C h (c_X7_feed (xs (j + 1)) (xs (j + 2)) (xs (j + 3)) (xs (j + 4)) (xs (j + 5)) FX GX hw) lk_L_44 rfl hl.1 rfl (Nat.le_of_ble_eq_true rfl) ⟨Nat.le_of_ble_eq_true rfl, Nat.le_of_ble_eq_true rfl⟩ ⟨Nat.le_of_succ_le hcs.1, Nat.le_trans (Nat.le_add_right _ 6) hcs.2⟩ dL_law__175 (fun r FX GX H locs hw h => ?_)
  refine lv_aload_n hx hb dL_law__178 rfl (lv_at hl 2 rfl) ?_
  refine scr (k := 1) hx hb hX hbl hbA h.2.2 hl (i0 := 0) (i4 := 4) rfl rfl hj hL (by decide) (by decide) dL_law__179 dL_law__180 dL_law__182 dL_law__183 dL_law__184 ?_
  refine scr (k := 2) hx hb hX hbl hbA h.2.2 hl (i0 := 0) (i4 := 4) rfl rfl hj hL (by decide) (by decide) dL_law__185 dL_law__186 dL_law__188 dL_law__189 dL_law__190 ?_
  refine scr (k := 3) hx hb hX hbl hbA h.2.2 hl (i0 := 0) (i4 := 4) rfl rfl hj hL (by decide) (by decide) dL_law__191 dL_law__192 dL_law__194 dL_law__195 dL_law__196 ?_
  refine scr (k := 4) hx hb hX hbl hbA h.2.2 hl (i0 := 0) (i4 := 4) rfl rfl hj hL (by decide) (by decide) dL_law__197 dL_law__198 dL_law__200 dL_law__201 dL_law__202 ?_
  refine scr (k := 5) hx hb hX hbl hbA h.2.2 hl (i0 := 0) (i4 := 4) rfl rfl hj hL (by decide) (by decide) dL_law__203 dL_law__204 dL_law__206 dL_law__207 dL_law__208 ?_
  refine lcm C h (c_X8_feed (xs (j + 1)) (xs (j + 2)) (xs (j + 3)) (xs (j + 4)) (xs (j + 5)) FM GM w hw) lk_L_48 rfl hl.1 rfl (Nat.le_of_ble_eq_true rfl) ⟨Nat.le_of_ble_eq_true rfl, Nat.le_of_ble_eq_true rfl⟩ ⟨Nat.le_of_succ_le hcs.1, Nat.le_trans (Nat.le_add_right _ 6) hcs.2⟩ dL_law__209 (fun r2 FM GM w H locs hw h => ?_)
  refine lv_icmp_eq (tgt := 1170) hx hb dL_law__212 (by decide) (fun c => ?_) (fun c => absurd hw.1 c)
  refine W.widen (k := cells + 1) (n := slots + 6) (by omega) (by omega) ?_
  exact hk FX GX FM GM w f H locs _ hw.2 h (lv_sub hl [0, 1, 2, 3, 4] rfl)
set_option maxHeartbeats 4000000 in
set_option maxRecDepth 100000 in
theorem lawc_1 {p : Program} {l : Launch} {e : Env} {s : State} {m : MethodId} {args : Array Value} {below : List Frame} {meth : Method} {c : Code} {H : Heap} {locs : List Loc} {cells slots : Nat} {Z : State → Prop} {K : KT} {A : Nat → Prop} {ls : Array Slot} {o : Nat} {am ax : Nat → Nat} {I : IT} {b L j : Nat} {xs : Nat → Int32} (hst : l.stackTraces = false) (C : CX p s m args meth c K A cL_law_ 7 RL) (hX : va_X b L xs s s.heap) (hbl : b < s.heap.size) (hbA : ¬ A b) (hL : L ≤ 3072) (hj : j + 6 ≤ L) (hcs : cells + 1 ≤ room_1.cells ∧ slots + 6 ≤ room_1.slots) (hs : Stp_end I) (FX : FT) (GX : GT) (FM : FT) (GM : GT) (w : Int64) (f : Nat → Int64) (hI : I FX GX FM GM w) (h : WD K A s (wL K o f am ax FX GX FM GM w) H locs) (hl : lv_has ls 7 [(0, .ref b), (1, .ref (ax 0)), (2, .ref (am 0)), (3, .ref o), (4, .int (nI j))]) (hk : ∀ (FX : FT) (GX : GT) (FM : FT) (GM : GT) (w : Int64) (f : Nat → Int64) (H : Heap) (locs : List Loc) (ls : Array Slot), I FX GX FM GM w → WD K A s (wL K o f am ax FX GX FM GM w) H locs → lv_has ls 7 [(0, .ref b), (1, .ref (ax 0)), (2, .ref (am 0)), (3, .ref o), (4, .int (nI j))] → W p l e room_1 s m args below meth c H locs (cells + 1) (slots + 6) Z (F0 m 1170 ls [])) : W p l e room_1 s m args below meth c H locs cells slots Z (F0 m 217 ls []) := by
  have hx := C.1
  have hb := C.2.1
  have hw := hs FX GX FM GM w hI (xs (j + 1)) 
  refine lv_aload_n hx hb dL_law__217 rfl (lv_at hl 1 rfl) ?_
  refine scr (k := 1) hx hb hX hbl hbA h.2.2 hl (i0 := 0) (i4 := 4) rfl rfl hj hL (by decide) (by decide) dL_law__218 dL_law__219 dL_law__221 dL_law__222 dL_law__223 ?_
  refine lcx C h (c_X7_end (xs (j + 1)) FX GX hw) lk_L_49 rfl hl.1 rfl (Nat.le_of_ble_eq_true rfl) ⟨Nat.le_of_ble_eq_true rfl, Nat.le_of_ble_eq_true rfl⟩ ⟨Nat.le_of_succ_le hcs.1, Nat.le_trans (Nat.le_add_right _ 6) hcs.2⟩ dL_law__224 (fun r FX GX H locs hw h => ?_)
  have hw := hw.2
  refine lv_aload_n hx hb dL_law__227 rfl (lv_at hl 2 rfl) ?_
  refine scr (k := 1) hx hb hX hbl hbA h.2.2 hl (i0 := 0) (i4 := 4) rfl rfl hj hL (by decide) (by decide) dL_law__228 dL_law__229 dL_law__231 dL_law__232 dL_law__233 ?_
  refine lcm C h (c_X8_end (xs (j + 1)) FM GM w hw) lk_L_53 rfl hl.1 rfl (Nat.le_of_ble_eq_true rfl) ⟨Nat.le_of_ble_eq_true rfl, Nat.le_of_ble_eq_true rfl⟩ ⟨Nat.le_of_succ_le hcs.1, Nat.le_trans (Nat.le_add_right _ 6) hcs.2⟩ dL_law__234 (fun r2 FM GM w H locs hw h => ?_)
  have hw := hw.2
  refine lv_icmp_eq (tgt := 1170) hx hb dL_law__237 (by decide) (fun c => ?_) (fun c => absurd hw.1 c)
  refine W.widen (k := cells + 1) (n := slots + 6) (by omega) (by omega) ?_
  exact hk FX GX FM GM w f H locs _ hw.2 h (lv_sub hl [0, 1, 2, 3, 4] rfl)
theorem lkw_54 : LkW RL 54 yL_law cL_law 4 [(0, 9, 12, 13)] 3 := ⟨by decide +kernel, tb_in 516 (by decide +kernel) rfl, tb_in 517 (by decide +kernel) rfl, tb_in 40 (by decide +kernel) rfl, tb_in 518 (by decide +kernel) rfl⟩
set_option maxHeartbeats 4000000 in
set_option maxRecDepth 100000 in
theorem lawc_2 {p : Program} {l : Launch} {e : Env} {s : State} {m : MethodId} {args : Array Value} {below : List Frame} {meth : Method} {c : Code} {H : Heap} {locs : List Loc} {cells slots : Nat} {Z : State → Prop} {K : KT} {A : Nat → Prop} {ls : Array Slot} {o : Nat} {am ax : Nat → Nat} {I : IT} {b L j : Nat} {xs : Nat → Int32} (hst : l.stackTraces = false) (C : CX p s m args meth c K A cL_law_ 7 RL) (hX : va_X b L xs s s.heap) (hbl : b < s.heap.size) (hbA : ¬ A b) (hL : L ≤ 3072) (hj : j + 6 ≤ L) (hcs : cells + 1 ≤ room_1.cells ∧ slots + 6 ≤ room_1.slots) (hs : Stp_law I) (FX : FT) (GX : GT) (FM : FT) (GM : GT) (w : Int64) (f : Nat → Int64) (hI : I FX GX FM GM w) (h : WD K A s (wL K o f am ax FX GX FM GM w) H locs) (hl : lv_has ls 7 [(0, .ref b), (1, .ref (ax 0)), (2, .ref (am 0)), (3, .ref o), (4, .int (nI j))]) (hk : ∀ (FX : FT) (GX : GT) (FM : FT) (GM : GT) (w : Int64) (f : Nat → Int64) (H : Heap) (locs : List Loc) (ls : Array Slot), I FX GX FM GM w → WD K A s (wL K o f am ax FX GX FM GM w) H locs → lv_has ls 7 [(0, .ref b), (1, .ref (ax 0)), (2, .ref (am 0)), (3, .ref o), (4, .int (nI j))] → W p l e room_1 s m args below meth c H locs (cells + 1) (slots + 6) Z (F0 m 1170 ls [])) : W p l e room_1 s m args below meth c H locs cells slots Z (F0 m 242 ls []) := by
  have hx := C.1
  have hb := C.2.1
  have hw := hs FX GX FM GM w hI (xs (j + 1)) f
  refine lv_aload_n hx hb dL_law__242 rfl (lv_at hl 1 rfl) ?_
  refine scr (k := 1) hx hb hX hbl hbA h.2.2 hl (i0 := 0) (i4 := 4) rfl rfl hj hL (by decide) (by decide) dL_law__243 dL_law__244 dL_law__246 dL_law__247 dL_law__248 ?_
  refine lv_aload_n hx hb dL_law__249 rfl (lv_at hl 3 rfl) ?_
  refine lcw C h (c_L_law hst (xs (j + 1)) FX GX f (QW := fun k FX GX f => wp_X8_law (xs (j + 1)) FM GM w (PT I FX GX k f)) hw) lkw_54 rfl hl.1 rfl (Nat.le_of_ble_eq_true rfl) ⟨Nat.le_of_ble_eq_true rfl, Nat.le_of_ble_eq_true rfl⟩ hcs dL_law__250 (fun k FX GX f H locs hw h => ?_)
  refine lv_istore (lv' := [(5, .int k), (0, .ref b), (1, .ref (ax 0)), (2, .ref (am 0)), (3, .ref o), (4, .int (nI j))]) hx hb dL_law__253 hl (by decide) rfl (fun ls hl => ?_)
  refine lv_aload_n hx hb dL_law__255 rfl (lv_at hl 3 rfl) ?_
  refine scr (k := 1) hx hb hX hbl hbA h.2.2 hl (i0 := 1) (i4 := 5) rfl rfl hj hL (by decide) (by decide) dL_law__256 dL_law__257 dL_law__259 dL_law__260 dL_law__261 ?_
  refine lcm C h (c_X8_law (xs (j + 1)) FM GM w hw) lk_L_59 rfl hl.1 rfl (Nat.le_of_ble_eq_true rfl) ⟨Nat.le_of_ble_eq_true rfl, Nat.le_of_ble_eq_true rfl⟩ ⟨hcs.1, hcs.2⟩ dL_law__262 (fun r2 FM GM w H locs hw h => ?_)
  refine lv_istore (lv' := [(6, .int r2), (5, .int k), (0, .ref b), (1, .ref (ax 0)), (2, .ref (am 0)), (3, .ref o), (4, .int (nI j))]) hx hb dL_law__265 hl (by decide) rfl (fun ls hl => ?_)
  refine lv_aload_n hx hb dL_law__267 rfl (lv_at hl 4 rfl) ?_
  refine lcm C h (c_X8_thrown FM GM w (Q := fun t FM1 GM1 w1 => t = k ∧ (k = 0 → f 0 = r2.toInt64) ∧ I FX GX FM1 GM1 w1) hw) lk_L_60 rfl hl.1 rfl (Nat.le_of_ble_eq_true rfl) ⟨Nat.le_of_ble_eq_true rfl, Nat.le_of_ble_eq_true rfl⟩ ⟨hcs.1, hcs.2⟩ dL_law__268 (fun t FM GM w H locs hw h => ?_)
  refine lv_iload hx hb dL_law__271 (lv_at hl 1 rfl) ?_
  refine lv_icmp_eq (tgt := 278) hx hb dL_law__273 (by decide) (fun c => ?_) (fun c => absurd hw.1 c)
  refine lv_iload hx hb dL_law__278 (lv_at hl 1 rfl) ?_
  refine lv_if_ne (tgt := 295) hx hb dL_law__280 (by decide) (fun c => ?_) (fun c => ?_)
  · refine lv_goto (tgt := 1170) hx hb dL_law__295 (by decide) ?_
    exact hk FX GX FM GM w f H locs _ hw.2.2 h (lv_sub hl [2, 3, 4, 5, 6] rfl)
  · refine lv_aload_n hx hb dL_law__283 rfl (lv_at hl 5 rfl) ?_
    refine lv_iconst (v := 0) hx hb dL_law__284 (by decide) ?_
    refine x_lald (w2 := wM K am FM GM w ++ wX K ax FX GX) C (WD.eqw (List.append_assoc _ _ _) h) in_0 dL_law__285 ?_
    refine lv_iload hx hb dL_law__286 (lv_at hl 0 rfl) ?_
    refine lv_i2l hx hb dL_law__288 rfl ?_
    refine W.lcmp hx hb dL_law__289 ?_
    have e0 : lg_cmp (f (0 : Int32).toNatClampNeg) r2.toInt64 = 0 := by rw [show f (0 : Int32).toNatClampNeg = r2.toInt64 from hw.2.1 c]; exact lg_self _
    refine lv_if_eq (tgt := 295) hx hb dL_law__290 (by decide) (fun c => ?_) (fun c => absurd e0 c)
    refine lv_goto (tgt := 1170) hx hb dL_law__295 (by decide) ?_
    exact hk FX GX FM GM w f H locs _ hw.2.2 h (lv_sub hl [2, 3, 4, 5, 6] rfl)
set_option maxHeartbeats 4000000 in
set_option maxRecDepth 100000 in
theorem lawc_3 {p : Program} {l : Launch} {e : Env} {s : State} {m : MethodId} {args : Array Value} {below : List Frame} {meth : Method} {c : Code} {H : Heap} {locs : List Loc} {cells slots : Nat} {Z : State → Prop} {K : KT} {A : Nat → Prop} {ls : Array Slot} {o : Nat} {am ax : Nat → Nat} {I : IT} {b L j : Nat} {xs : Nat → Int32} (hst : l.stackTraces = false) (C : CX p s m args meth c K A cL_law_ 7 RL) (hX : va_X b L xs s s.heap) (hbl : b < s.heap.size) (hbA : ¬ A b) (hL : L ≤ 3072) (hj : j + 6 ≤ L) (hcs : cells + 1 ≤ room_1.cells ∧ slots + 6 ≤ room_1.slots) (hs : Stp_wrong I) (FX : FT) (GX : GT) (FM : FT) (GM : GT) (w : Int64) (f : Nat → Int64) (hI : I FX GX FM GM w) (h : WD K A s (wL K o f am ax FX GX FM GM w) H locs) (hl : lv_has ls 7 [(0, .ref b), (1, .ref (ax 0)), (2, .ref (am 0)), (3, .ref o), (4, .int (nI j))]) (hk : ∀ (FX : FT) (GX : GT) (FM : FT) (GM : GT) (w : Int64) (f : Nat → Int64) (H : Heap) (locs : List Loc) (ls : Array Slot), I FX GX FM GM w → WD K A s (wL K o f am ax FX GX FM GM w) H locs → lv_has ls 7 [(0, .ref b), (1, .ref (ax 0)), (2, .ref (am 0)), (3, .ref o), (4, .int (nI j))] → W p l e room_1 s m args below meth c H locs (cells + 1) (slots + 6) Z (F0 m 1170 ls [])) : W p l e room_1 s m args below meth c H locs cells slots Z (F0 m 298 ls []) := by
  have hx := C.1
  have hb := C.2.1
  have hw := hs FX GX FM GM w hI
  refine lv_aload_n hx hb dL_law__298 rfl (lv_at hl 1 rfl) ?_
  refine lcx C h (c_X7_wrong FX GX hw) lk_L_64 rfl hl.1 rfl (Nat.le_of_ble_eq_true rfl) ⟨Nat.le_of_ble_eq_true rfl, Nat.le_of_ble_eq_true rfl⟩ ⟨Nat.le_of_succ_le hcs.1, Nat.le_trans (Nat.le_add_right _ 6) hcs.2⟩ dL_law__299 (fun r FX GX H locs hw h => ?_)
  refine lv_aload_n hx hb dL_law__302 rfl (lv_at hl 2 rfl) ?_
  refine lcm C h (c_X8_wrong FM GM w hw) lk_L_67 rfl hl.1 rfl (Nat.le_of_ble_eq_true rfl) ⟨Nat.le_of_ble_eq_true rfl, Nat.le_of_ble_eq_true rfl⟩ ⟨Nat.le_of_succ_le hcs.1, Nat.le_trans (Nat.le_add_right _ 6) hcs.2⟩ dL_law__303 (fun r2 FM GM w H locs hw h => ?_)
  refine lv_icmp_eq (tgt := 1170) hx hb dL_law__306 (by decide) (fun c => ?_) (fun c => absurd hw.1 c)
  refine W.widen (k := cells + 1) (n := slots + 6) (by omega) (by omega) ?_
  exact hk FX GX FM GM w f H locs _ hw.2 h (lv_sub hl [0, 1, 2, 3, 4] rfl)
theorem lkw_68 : LkW RL 68 yL_rule cL_rule 5 [(0, 10, 13, 13)] 4 := ⟨by decide +kernel, tb_in 710 (by decide +kernel) rfl, tb_in 711 (by decide +kernel) rfl, tb_in 40 (by decide +kernel) rfl, tb_in 712 (by decide +kernel) rfl⟩
set_option maxHeartbeats 4000000 in
set_option maxRecDepth 100000 in
theorem lawc_4 {p : Program} {l : Launch} {e : Env} {s : State} {m : MethodId} {args : Array Value} {below : List Frame} {meth : Method} {c : Code} {H : Heap} {locs : List Loc} {cells slots : Nat} {Z : State → Prop} {K : KT} {A : Nat → Prop} {ls : Array Slot} {o : Nat} {am ax : Nat → Nat} {I : IT} {b L j : Nat} {xs : Nat → Int32} (hst : l.stackTraces = false) (C : CX p s m args meth c K A cL_law_ 7 RL) (hX : va_X b L xs s s.heap) (hbl : b < s.heap.size) (hbA : ¬ A b) (hL : L ≤ 3072) (hj : j + 6 ≤ L) (hcs : cells + 1 ≤ room_1.cells ∧ slots + 6 ≤ room_1.slots) (hs : Stp_rule I) (FX : FT) (GX : GT) (FM : FT) (GM : GT) (w : Int64) (f : Nat → Int64) (hI : I FX GX FM GM w) (h : WD K A s (wL K o f am ax FX GX FM GM w) H locs) (hl : lv_has ls 7 [(0, .ref b), (1, .ref (ax 0)), (2, .ref (am 0)), (3, .ref o), (4, .int (nI j))]) (hk : ∀ (FX : FT) (GX : GT) (FM : FT) (GM : GT) (w : Int64) (f : Nat → Int64) (H : Heap) (locs : List Loc) (ls : Array Slot), I FX GX FM GM w → WD K A s (wL K o f am ax FX GX FM GM w) H locs → lv_has ls 7 [(0, .ref b), (1, .ref (ax 0)), (2, .ref (am 0)), (3, .ref o), (4, .int (nI j))] → W p l e room_1 s m args below meth c H locs (cells + 1) (slots + 6) Z (F0 m 1170 ls [])) : W p l e room_1 s m args below meth c H locs cells slots Z (F0 m 311 ls []) := by
  have hx := C.1
  have hb := C.2.1
  have hw := hs FX GX FM GM w hI (xs (j + 1)) (xs (j + 2)) f
  refine lv_aload_n hx hb dL_law__311 rfl (lv_at hl 1 rfl) ?_
  refine scr (k := 1) hx hb hX hbl hbA h.2.2 hl (i0 := 0) (i4 := 4) rfl rfl hj hL (by decide) (by decide) dL_law__312 dL_law__313 dL_law__315 dL_law__316 dL_law__317 ?_
  refine scr (k := 2) hx hb hX hbl hbA h.2.2 hl (i0 := 0) (i4 := 4) rfl rfl hj hL (by decide) (by decide) dL_law__318 dL_law__319 dL_law__321 dL_law__322 dL_law__323 ?_
  refine lv_aload_n hx hb dL_law__324 rfl (lv_at hl 3 rfl) ?_
  refine lcw C h (c_L_rule hst (xs (j + 1)) (xs (j + 2)) FX GX f (QW := fun k FX GX f => wp_X8_rule (xs (j + 1)) (xs (j + 2)) FM GM w (PT I FX GX k f)) hw) lkw_68 rfl hl.1 rfl (Nat.le_of_ble_eq_true rfl) ⟨Nat.le_of_ble_eq_true rfl, Nat.le_of_ble_eq_true rfl⟩ hcs dL_law__325 (fun k FX GX f H locs hw h => ?_)
  refine lv_istore (lv' := [(5, .int k), (0, .ref b), (1, .ref (ax 0)), (2, .ref (am 0)), (3, .ref o), (4, .int (nI j))]) hx hb dL_law__328 hl (by decide) rfl (fun ls hl => ?_)
  refine lv_aload_n hx hb dL_law__330 rfl (lv_at hl 3 rfl) ?_
  refine scr (k := 1) hx hb hX hbl hbA h.2.2 hl (i0 := 1) (i4 := 5) rfl rfl hj hL (by decide) (by decide) dL_law__331 dL_law__332 dL_law__334 dL_law__335 dL_law__336 ?_
  refine scr (k := 2) hx hb hX hbl hbA h.2.2 hl (i0 := 1) (i4 := 5) rfl rfl hj hL (by decide) (by decide) dL_law__337 dL_law__338 dL_law__340 dL_law__341 dL_law__342 ?_
  refine lcm C h (c_X8_rule (xs (j + 1)) (xs (j + 2)) FM GM w hw) lk_L_71 rfl hl.1 rfl (Nat.le_of_ble_eq_true rfl) ⟨Nat.le_of_ble_eq_true rfl, Nat.le_of_ble_eq_true rfl⟩ ⟨hcs.1, hcs.2⟩ dL_law__343 (fun r2 FM GM w H locs hw h => ?_)
  refine lv_istore (lv' := [(6, .int r2), (5, .int k), (0, .ref b), (1, .ref (ax 0)), (2, .ref (am 0)), (3, .ref o), (4, .int (nI j))]) hx hb dL_law__346 hl (by decide) rfl (fun ls hl => ?_)
  refine lv_aload_n hx hb dL_law__348 rfl (lv_at hl 4 rfl) ?_
  refine lcm C h (c_X8_thrown FM GM w (Q := fun t FM1 GM1 w1 => t = k ∧ (k = 0 → f 0 = r2.toInt64) ∧ I FX GX FM1 GM1 w1) hw) lk_L_60 rfl hl.1 rfl (Nat.le_of_ble_eq_true rfl) ⟨Nat.le_of_ble_eq_true rfl, Nat.le_of_ble_eq_true rfl⟩ ⟨hcs.1, hcs.2⟩ dL_law__349 (fun t FM GM w H locs hw h => ?_)
  refine lv_iload hx hb dL_law__352 (lv_at hl 1 rfl) ?_
  refine lv_icmp_eq (tgt := 359) hx hb dL_law__354 (by decide) (fun c => ?_) (fun c => absurd hw.1 c)
  refine lv_iload hx hb dL_law__359 (lv_at hl 1 rfl) ?_
  refine lv_if_ne (tgt := 376) hx hb dL_law__361 (by decide) (fun c => ?_) (fun c => ?_)
  · refine lv_goto (tgt := 1170) hx hb dL_law__376 (by decide) ?_
    exact hk FX GX FM GM w f H locs _ hw.2.2 h (lv_sub hl [2, 3, 4, 5, 6] rfl)
  · refine lv_aload_n hx hb dL_law__364 rfl (lv_at hl 5 rfl) ?_
    refine lv_iconst (v := 0) hx hb dL_law__365 (by decide) ?_
    refine x_lald (w2 := wM K am FM GM w ++ wX K ax FX GX) C (WD.eqw (List.append_assoc _ _ _) h) in_0 dL_law__366 ?_
    refine lv_iload hx hb dL_law__367 (lv_at hl 0 rfl) ?_
    refine lv_i2l hx hb dL_law__369 rfl ?_
    refine W.lcmp hx hb dL_law__370 ?_
    have e0 : lg_cmp (f (0 : Int32).toNatClampNeg) r2.toInt64 = 0 := by rw [show f (0 : Int32).toNatClampNeg = r2.toInt64 from hw.2.1 c]; exact lg_self _
    refine lv_if_eq (tgt := 376) hx hb dL_law__371 (by decide) (fun c => ?_) (fun c => absurd e0 c)
    refine lv_goto (tgt := 1170) hx hb dL_law__376 (by decide) ?_
    exact hk FX GX FM GM w f H locs _ hw.2.2 h (lv_sub hl [2, 3, 4, 5, 6] rfl)
set_option maxHeartbeats 4000000 in
set_option maxRecDepth 100000 in
theorem lawc_5 {p : Program} {l : Launch} {e : Env} {s : State} {m : MethodId} {args : Array Value} {below : List Frame} {meth : Method} {c : Code} {H : Heap} {locs : List Loc} {cells slots : Nat} {Z : State → Prop} {K : KT} {A : Nat → Prop} {ls : Array Slot} {o : Nat} {am ax : Nat → Nat} {I : IT} {b L j : Nat} {xs : Nat → Int32} (hst : l.stackTraces = false) (C : CX p s m args meth c K A cL_law_ 7 RL) (hX : va_X b L xs s s.heap) (hbl : b < s.heap.size) (hbA : ¬ A b) (hL : L ≤ 3072) (hj : j + 6 ≤ L) (hcs : cells + 1 ≤ room_1.cells ∧ slots + 6 ≤ room_1.slots) (hs : Stp_person I) (FX : FT) (GX : GT) (FM : FT) (GM : GT) (w : Int64) (f : Nat → Int64) (hI : I FX GX FM GM w) (h : WD K A s (wL K o f am ax FX GX FM GM w) H locs) (hl : lv_has ls 7 [(0, .ref b), (1, .ref (ax 0)), (2, .ref (am 0)), (3, .ref o), (4, .int (nI j))]) (hk : ∀ (FX : FT) (GX : GT) (FM : FT) (GM : GT) (w : Int64) (f : Nat → Int64) (H : Heap) (locs : List Loc) (ls : Array Slot), I FX GX FM GM w → WD K A s (wL K o f am ax FX GX FM GM w) H locs → lv_has ls 7 [(0, .ref b), (1, .ref (ax 0)), (2, .ref (am 0)), (3, .ref o), (4, .int (nI j))] → W p l e room_1 s m args below meth c H locs (cells + 1) (slots + 6) Z (F0 m 1170 ls [])) : W p l e room_1 s m args below meth c H locs cells slots Z (F0 m 379 ls []) := by
  have hx := C.1
  have hb := C.2.1
  have hw := hs FX GX FM GM w hI (xs (j + 1)) 
  refine lv_aload_n hx hb dL_law__379 rfl (lv_at hl 1 rfl) ?_
  refine scr (k := 1) hx hb hX hbl hbA h.2.2 hl (i0 := 0) (i4 := 4) rfl rfl hj hL (by decide) (by decide) dL_law__380 dL_law__381 dL_law__383 dL_law__384 dL_law__385 ?_
  refine lcx C h (c_X7_person (xs (j + 1)) FX GX hw) lk_L_72 rfl hl.1 rfl (Nat.le_of_ble_eq_true rfl) ⟨Nat.le_of_ble_eq_true rfl, Nat.le_of_ble_eq_true rfl⟩ ⟨Nat.le_of_succ_le hcs.1, Nat.le_trans (Nat.le_add_right _ 6) hcs.2⟩ dL_law__386 (fun r FX GX H locs hw h => ?_)
  refine lv_aload_n hx hb dL_law__389 rfl (lv_at hl 2 rfl) ?_
  refine scr (k := 1) hx hb hX hbl hbA h.2.2 hl (i0 := 0) (i4 := 4) rfl rfl hj hL (by decide) (by decide) dL_law__390 dL_law__391 dL_law__393 dL_law__394 dL_law__395 ?_
  refine lcm C h (c_X8_person (xs (j + 1)) FM GM w hw) lk_L_75 rfl hl.1 rfl (Nat.le_of_ble_eq_true rfl) ⟨Nat.le_of_ble_eq_true rfl, Nat.le_of_ble_eq_true rfl⟩ ⟨Nat.le_of_succ_le hcs.1, Nat.le_trans (Nat.le_add_right _ 6) hcs.2⟩ dL_law__396 (fun r2 FM GM w H locs hw h => ?_)
  refine lv_icmp_eq (tgt := 1170) hx hb dL_law__399 (by decide) (fun c => ?_) (fun c => absurd hw.1 c)
  refine W.widen (k := cells + 1) (n := slots + 6) (by omega) (by omega) ?_
  exact hk FX GX FM GM w f H locs _ hw.2 h (lv_sub hl [0, 1, 2, 3, 4] rfl)
set_option maxHeartbeats 4000000 in
set_option maxRecDepth 100000 in
theorem lawc_6 {p : Program} {l : Launch} {e : Env} {s : State} {m : MethodId} {args : Array Value} {below : List Frame} {meth : Method} {c : Code} {H : Heap} {locs : List Loc} {cells slots : Nat} {Z : State → Prop} {K : KT} {A : Nat → Prop} {ls : Array Slot} {o : Nat} {am ax : Nat → Nat} {I : IT} {b L j : Nat} {xs : Nat → Int32} (hst : l.stackTraces = false) (C : CX p s m args meth c K A cL_law_ 7 RL) (hX : va_X b L xs s s.heap) (hbl : b < s.heap.size) (hbA : ¬ A b) (hL : L ≤ 3072) (hj : j + 6 ≤ L) (hcs : cells + 1 ≤ room_1.cells ∧ slots + 6 ≤ room_1.slots) (hs : Stp_coin I) (FX : FT) (GX : GT) (FM : FT) (GM : GT) (w : Int64) (f : Nat → Int64) (hI : I FX GX FM GM w) (h : WD K A s (wL K o f am ax FX GX FM GM w) H locs) (hl : lv_has ls 7 [(0, .ref b), (1, .ref (ax 0)), (2, .ref (am 0)), (3, .ref o), (4, .int (nI j))]) (hk : ∀ (FX : FT) (GX : GT) (FM : FT) (GM : GT) (w : Int64) (f : Nat → Int64) (H : Heap) (locs : List Loc) (ls : Array Slot), I FX GX FM GM w → WD K A s (wL K o f am ax FX GX FM GM w) H locs → lv_has ls 7 [(0, .ref b), (1, .ref (ax 0)), (2, .ref (am 0)), (3, .ref o), (4, .int (nI j))] → W p l e room_1 s m args below meth c H locs (cells + 1) (slots + 6) Z (F0 m 1170 ls [])) : W p l e room_1 s m args below meth c H locs cells slots Z (F0 m 404 ls []) := by
  have hx := C.1
  have hb := C.2.1
  have hw := hs FX GX FM GM w hI (xs (j + 1)) (xs (j + 2)) 
  refine lv_aload_n hx hb dL_law__404 rfl (lv_at hl 1 rfl) ?_
  refine scr (k := 1) hx hb hX hbl hbA h.2.2 hl (i0 := 0) (i4 := 4) rfl rfl hj hL (by decide) (by decide) dL_law__405 dL_law__406 dL_law__408 dL_law__409 dL_law__410 ?_
  refine scr (k := 2) hx hb hX hbl hbA h.2.2 hl (i0 := 0) (i4 := 4) rfl rfl hj hL (by decide) (by decide) dL_law__411 dL_law__412 dL_law__414 dL_law__415 dL_law__416 ?_
  refine lcx C h (c_X7_coin (xs (j + 1)) (xs (j + 2)) FX GX hw) lk_L_76 rfl hl.1 rfl (Nat.le_of_ble_eq_true rfl) ⟨Nat.le_of_ble_eq_true rfl, Nat.le_of_ble_eq_true rfl⟩ ⟨Nat.le_of_succ_le hcs.1, Nat.le_trans (Nat.le_add_right _ 6) hcs.2⟩ dL_law__417 (fun r FX GX H locs hw h => ?_)
  refine lv_aload_n hx hb dL_law__420 rfl (lv_at hl 2 rfl) ?_
  refine scr (k := 1) hx hb hX hbl hbA h.2.2 hl (i0 := 0) (i4 := 4) rfl rfl hj hL (by decide) (by decide) dL_law__421 dL_law__422 dL_law__424 dL_law__425 dL_law__426 ?_
  refine scr (k := 2) hx hb hX hbl hbA h.2.2 hl (i0 := 0) (i4 := 4) rfl rfl hj hL (by decide) (by decide) dL_law__427 dL_law__428 dL_law__430 dL_law__431 dL_law__432 ?_
  refine lcm C h (c_X8_coin (xs (j + 1)) (xs (j + 2)) FM GM w hw) lk_L_79 rfl hl.1 rfl (Nat.le_of_ble_eq_true rfl) ⟨Nat.le_of_ble_eq_true rfl, Nat.le_of_ble_eq_true rfl⟩ ⟨Nat.le_of_succ_le hcs.1, Nat.le_trans (Nat.le_add_right _ 6) hcs.2⟩ dL_law__433 (fun r2 FM GM w H locs hw h => ?_)
  refine lv_icmp_eq (tgt := 1170) hx hb dL_law__436 (by decide) (fun c => ?_) (fun c => absurd hw.1 c)
  refine W.widen (k := cells + 1) (n := slots + 6) (by omega) (by omega) ?_
  exact hk FX GX FM GM w f H locs _ hw.2 h (lv_sub hl [0, 1, 2, 3, 4] rfl)
set_option maxHeartbeats 4000000 in
set_option maxRecDepth 100000 in
theorem lawc_7 {p : Program} {l : Launch} {e : Env} {s : State} {m : MethodId} {args : Array Value} {below : List Frame} {meth : Method} {c : Code} {H : Heap} {locs : List Loc} {cells slots : Nat} {Z : State → Prop} {K : KT} {A : Nat → Prop} {ls : Array Slot} {o : Nat} {am ax : Nat → Nat} {I : IT} {b L j : Nat} {xs : Nat → Int32} (hst : l.stackTraces = false) (C : CX p s m args meth c K A cL_law_ 7 RL) (hX : va_X b L xs s s.heap) (hbl : b < s.heap.size) (hbA : ¬ A b) (hL : L ≤ 3072) (hj : j + 6 ≤ L) (hcs : cells + 1 ≤ room_1.cells ∧ slots + 6 ≤ room_1.slots) (hs : Stp_horse I) (FX : FT) (GX : GT) (FM : FT) (GM : GT) (w : Int64) (f : Nat → Int64) (hI : I FX GX FM GM w) (h : WD K A s (wL K o f am ax FX GX FM GM w) H locs) (hl : lv_has ls 7 [(0, .ref b), (1, .ref (ax 0)), (2, .ref (am 0)), (3, .ref o), (4, .int (nI j))]) (hk : ∀ (FX : FT) (GX : GT) (FM : FT) (GM : GT) (w : Int64) (f : Nat → Int64) (H : Heap) (locs : List Loc) (ls : Array Slot), I FX GX FM GM w → WD K A s (wL K o f am ax FX GX FM GM w) H locs → lv_has ls 7 [(0, .ref b), (1, .ref (ax 0)), (2, .ref (am 0)), (3, .ref o), (4, .int (nI j))] → W p l e room_1 s m args below meth c H locs (cells + 1) (slots + 6) Z (F0 m 1170 ls [])) : W p l e room_1 s m args below meth c H locs cells slots Z (F0 m 441 ls []) := by
  have hx := C.1
  have hb := C.2.1
  have hw := hs FX GX FM GM w hI (xs (j + 1)) 
  refine lv_aload_n hx hb dL_law__441 rfl (lv_at hl 1 rfl) ?_
  refine scr (k := 1) hx hb hX hbl hbA h.2.2 hl (i0 := 0) (i4 := 4) rfl rfl hj hL (by decide) (by decide) dL_law__442 dL_law__443 dL_law__445 dL_law__446 dL_law__447 ?_
  refine lcx C h (c_X7_horse (xs (j + 1)) FX GX hw) lk_L_80 rfl hl.1 rfl (Nat.le_of_ble_eq_true rfl) ⟨Nat.le_of_ble_eq_true rfl, Nat.le_of_ble_eq_true rfl⟩ ⟨Nat.le_of_succ_le hcs.1, Nat.le_trans (Nat.le_add_right _ 6) hcs.2⟩ dL_law__448 (fun r FX GX H locs hw h => ?_)
  refine lv_aload_n hx hb dL_law__451 rfl (lv_at hl 2 rfl) ?_
  refine scr (k := 1) hx hb hX hbl hbA h.2.2 hl (i0 := 0) (i4 := 4) rfl rfl hj hL (by decide) (by decide) dL_law__452 dL_law__453 dL_law__455 dL_law__456 dL_law__457 ?_
  refine lcm C h (c_X8_horse (xs (j + 1)) FM GM w hw) lk_L_83 rfl hl.1 rfl (Nat.le_of_ble_eq_true rfl) ⟨Nat.le_of_ble_eq_true rfl, Nat.le_of_ble_eq_true rfl⟩ ⟨Nat.le_of_succ_le hcs.1, Nat.le_trans (Nat.le_add_right _ 6) hcs.2⟩ dL_law__458 (fun r2 FM GM w H locs hw h => ?_)
  refine lv_icmp_eq (tgt := 1170) hx hb dL_law__461 (by decide) (fun c => ?_) (fun c => absurd hw.1 c)
  refine W.widen (k := cells + 1) (n := slots + 6) (by omega) (by omega) ?_
  exact hk FX GX FM GM w f H locs _ hw.2 h (lv_sub hl [0, 1, 2, 3, 4] rfl)
set_option maxHeartbeats 4000000 in
set_option maxRecDepth 100000 in
theorem lawc_8 {p : Program} {l : Launch} {e : Env} {s : State} {m : MethodId} {args : Array Value} {below : List Frame} {meth : Method} {c : Code} {H : Heap} {locs : List Loc} {cells slots : Nat} {Z : State → Prop} {K : KT} {A : Nat → Prop} {ls : Array Slot} {o : Nat} {am ax : Nat → Nat} {I : IT} {b L j : Nat} {xs : Nat → Int32} (hst : l.stackTraces = false) (C : CX p s m args meth c K A cL_law_ 7 RL) (hX : va_X b L xs s s.heap) (hbl : b < s.heap.size) (hbA : ¬ A b) (hL : L ≤ 3072) (hj : j + 6 ≤ L) (hcs : cells + 1 ≤ room_1.cells ∧ slots + 6 ≤ room_1.slots) (hs : Stp_sell I) (FX : FT) (GX : GT) (FM : FT) (GM : GT) (w : Int64) (f : Nat → Int64) (hI : I FX GX FM GM w) (h : WD K A s (wL K o f am ax FX GX FM GM w) H locs) (hl : lv_has ls 7 [(0, .ref b), (1, .ref (ax 0)), (2, .ref (am 0)), (3, .ref o), (4, .int (nI j))]) (hk : ∀ (FX : FT) (GX : GT) (FM : FT) (GM : GT) (w : Int64) (f : Nat → Int64) (H : Heap) (locs : List Loc) (ls : Array Slot), I FX GX FM GM w → WD K A s (wL K o f am ax FX GX FM GM w) H locs → lv_has ls 7 [(0, .ref b), (1, .ref (ax 0)), (2, .ref (am 0)), (3, .ref o), (4, .int (nI j))] → W p l e room_1 s m args below meth c H locs (cells + 1) (slots + 6) Z (F0 m 1170 ls [])) : W p l e room_1 s m args below meth c H locs cells slots Z (F0 m 466 ls []) := by
  have hx := C.1
  have hb := C.2.1
  have hw := hs FX GX FM GM w hI (xs (j + 1)) (xs (j + 2)) (xs (j + 3)) (xs (j + 4)) (xs (j + 5)) 
  refine lv_aload_n hx hb dL_law__466 rfl (lv_at hl 1 rfl) ?_
  refine scr (k := 1) hx hb hX hbl hbA h.2.2 hl (i0 := 0) (i4 := 4) rfl rfl hj hL (by decide) (by decide) dL_law__467 dL_law__468 dL_law__470 dL_law__471 dL_law__472 ?_
  refine scr (k := 2) hx hb hX hbl hbA h.2.2 hl (i0 := 0) (i4 := 4) rfl rfl hj hL (by decide) (by decide) dL_law__473 dL_law__474 dL_law__476 dL_law__477 dL_law__478 ?_
  refine scr (k := 3) hx hb hX hbl hbA h.2.2 hl (i0 := 0) (i4 := 4) rfl rfl hj hL (by decide) (by decide) dL_law__479 dL_law__480 dL_law__482 dL_law__483 dL_law__484 ?_
  refine scr (k := 4) hx hb hX hbl hbA h.2.2 hl (i0 := 0) (i4 := 4) rfl rfl hj hL (by decide) (by decide) dL_law__485 dL_law__486 dL_law__488 dL_law__489 dL_law__490 ?_
  refine scr (k := 5) hx hb hX hbl hbA h.2.2 hl (i0 := 0) (i4 := 4) rfl rfl hj hL (by decide) (by decide) dL_law__491 dL_law__492 dL_law__494 dL_law__495 dL_law__496 ?_
  refine lcx C h (c_X7_sell (xs (j + 1)) (xs (j + 2)) (xs (j + 3)) (xs (j + 4)) (xs (j + 5)) FX GX hw) lk_L_84 rfl hl.1 rfl (Nat.le_of_ble_eq_true rfl) ⟨Nat.le_of_ble_eq_true rfl, Nat.le_of_ble_eq_true rfl⟩ ⟨Nat.le_of_succ_le hcs.1, Nat.le_trans (Nat.le_add_right _ 6) hcs.2⟩ dL_law__497 (fun r FX GX H locs hw h => ?_)
  refine lv_aload_n hx hb dL_law__500 rfl (lv_at hl 2 rfl) ?_
  refine scr (k := 1) hx hb hX hbl hbA h.2.2 hl (i0 := 0) (i4 := 4) rfl rfl hj hL (by decide) (by decide) dL_law__501 dL_law__502 dL_law__504 dL_law__505 dL_law__506 ?_
  refine scr (k := 2) hx hb hX hbl hbA h.2.2 hl (i0 := 0) (i4 := 4) rfl rfl hj hL (by decide) (by decide) dL_law__507 dL_law__508 dL_law__510 dL_law__511 dL_law__512 ?_
  refine scr (k := 3) hx hb hX hbl hbA h.2.2 hl (i0 := 0) (i4 := 4) rfl rfl hj hL (by decide) (by decide) dL_law__513 dL_law__514 dL_law__516 dL_law__517 dL_law__518 ?_
  refine scr (k := 4) hx hb hX hbl hbA h.2.2 hl (i0 := 0) (i4 := 4) rfl rfl hj hL (by decide) (by decide) dL_law__519 dL_law__520 dL_law__522 dL_law__523 dL_law__524 ?_
  refine scr (k := 5) hx hb hX hbl hbA h.2.2 hl (i0 := 0) (i4 := 4) rfl rfl hj hL (by decide) (by decide) dL_law__525 dL_law__526 dL_law__528 dL_law__529 dL_law__530 ?_
  refine lcm C h (c_X8_sell (xs (j + 1)) (xs (j + 2)) (xs (j + 3)) (xs (j + 4)) (xs (j + 5)) FM GM w hw) lk_L_87 rfl hl.1 rfl (Nat.le_of_ble_eq_true rfl) ⟨Nat.le_of_ble_eq_true rfl, Nat.le_of_ble_eq_true rfl⟩ ⟨Nat.le_of_succ_le hcs.1, Nat.le_trans (Nat.le_add_right _ 6) hcs.2⟩ dL_law__531 (fun r2 FM GM w H locs hw h => ?_)
  refine lv_icmp_eq (tgt := 1170) hx hb dL_law__534 (by decide) (fun c => ?_) (fun c => absurd hw.1 c)
  refine W.widen (k := cells + 1) (n := slots + 6) (by omega) (by omega) ?_
  exact hk FX GX FM GM w f H locs _ hw.2 h (lv_sub hl [0, 1, 2, 3, 4] rfl)
set_option maxHeartbeats 4000000 in
set_option maxRecDepth 100000 in
theorem lawc_9 {p : Program} {l : Launch} {e : Env} {s : State} {m : MethodId} {args : Array Value} {below : List Frame} {meth : Method} {c : Code} {H : Heap} {locs : List Loc} {cells slots : Nat} {Z : State → Prop} {K : KT} {A : Nat → Prop} {ls : Array Slot} {o : Nat} {am ax : Nat → Nat} {I : IT} {b L j : Nat} {xs : Nat → Int32} (hst : l.stackTraces = false) (C : CX p s m args meth c K A cL_law_ 7 RL) (hX : va_X b L xs s s.heap) (hbl : b < s.heap.size) (hbA : ¬ A b) (hL : L ≤ 3072) (hj : j + 6 ≤ L) (hcs : cells + 1 ≤ room_1.cells ∧ slots + 6 ≤ room_1.slots) (hs : Stp_find I) (FX : FT) (GX : GT) (FM : FT) (GM : GT) (w : Int64) (f : Nat → Int64) (hI : I FX GX FM GM w) (h : WD K A s (wL K o f am ax FX GX FM GM w) H locs) (hl : lv_has ls 7 [(0, .ref b), (1, .ref (ax 0)), (2, .ref (am 0)), (3, .ref o), (4, .int (nI j))]) (hk : ∀ (FX : FT) (GX : GT) (FM : FT) (GM : GT) (w : Int64) (f : Nat → Int64) (H : Heap) (locs : List Loc) (ls : Array Slot), I FX GX FM GM w → WD K A s (wL K o f am ax FX GX FM GM w) H locs → lv_has ls 7 [(0, .ref b), (1, .ref (ax 0)), (2, .ref (am 0)), (3, .ref o), (4, .int (nI j))] → W p l e room_1 s m args below meth c H locs (cells + 1) (slots + 6) Z (F0 m 1170 ls [])) : W p l e room_1 s m args below meth c H locs cells slots Z (F0 m 539 ls []) := by
  have hx := C.1
  have hb := C.2.1
  have hw := hs FX GX FM GM w hI (xs (j + 1)) (xs (j + 2)) (xs (j + 3)) 
  refine lv_aload_n hx hb dL_law__539 rfl (lv_at hl 1 rfl) ?_
  refine scr (k := 1) hx hb hX hbl hbA h.2.2 hl (i0 := 0) (i4 := 4) rfl rfl hj hL (by decide) (by decide) dL_law__540 dL_law__541 dL_law__543 dL_law__544 dL_law__545 ?_
  refine scr (k := 2) hx hb hX hbl hbA h.2.2 hl (i0 := 0) (i4 := 4) rfl rfl hj hL (by decide) (by decide) dL_law__546 dL_law__547 dL_law__549 dL_law__550 dL_law__551 ?_
  refine scr (k := 3) hx hb hX hbl hbA h.2.2 hl (i0 := 0) (i4 := 4) rfl rfl hj hL (by decide) (by decide) dL_law__552 dL_law__553 dL_law__555 dL_law__556 dL_law__557 ?_
  refine lcx C h (c_X7_find (xs (j + 1)) (xs (j + 2)) (xs (j + 3)) FX GX hw) lk_L_88 rfl hl.1 rfl (Nat.le_of_ble_eq_true rfl) ⟨Nat.le_of_ble_eq_true rfl, Nat.le_of_ble_eq_true rfl⟩ ⟨Nat.le_of_succ_le hcs.1, Nat.le_trans (Nat.le_add_right _ 6) hcs.2⟩ dL_law__558 (fun r FX GX H locs hw h => ?_)
  have hw := hw.2
  refine lv_aload_n hx hb dL_law__561 rfl (lv_at hl 2 rfl) ?_
  refine scr (k := 1) hx hb hX hbl hbA h.2.2 hl (i0 := 0) (i4 := 4) rfl rfl hj hL (by decide) (by decide) dL_law__562 dL_law__563 dL_law__565 dL_law__566 dL_law__567 ?_
  refine scr (k := 2) hx hb hX hbl hbA h.2.2 hl (i0 := 0) (i4 := 4) rfl rfl hj hL (by decide) (by decide) dL_law__568 dL_law__569 dL_law__571 dL_law__572 dL_law__573 ?_
  refine scr (k := 3) hx hb hX hbl hbA h.2.2 hl (i0 := 0) (i4 := 4) rfl rfl hj hL (by decide) (by decide) dL_law__574 dL_law__575 dL_law__577 dL_law__578 dL_law__579 ?_
  refine lcm C h (c_X8_find (xs (j + 1)) (xs (j + 2)) (xs (j + 3)) FM GM w hw) lk_L_92 rfl hl.1 rfl (Nat.le_of_ble_eq_true rfl) ⟨Nat.le_of_ble_eq_true rfl, Nat.le_of_ble_eq_true rfl⟩ ⟨Nat.le_of_succ_le hcs.1, Nat.le_trans (Nat.le_add_right _ 6) hcs.2⟩ dL_law__580 (fun r2 FM GM w H locs hw h => ?_)
  have hw := hw.2
  refine lv_icmp_eq (tgt := 1170) hx hb dL_law__583 (by decide) (fun c => ?_) (fun c => absurd hw.1 c)
  refine W.widen (k := cells + 1) (n := slots + 6) (by omega) (by omega) ?_
  exact hk FX GX FM GM w f H locs _ hw.2 h (lv_sub hl [0, 1, 2, 3, 4] rfl)
set_option maxHeartbeats 4000000 in
set_option maxRecDepth 100000 in
theorem lawc_10 {p : Program} {l : Launch} {e : Env} {s : State} {m : MethodId} {args : Array Value} {below : List Frame} {meth : Method} {c : Code} {H : Heap} {locs : List Loc} {cells slots : Nat} {Z : State → Prop} {K : KT} {A : Nat → Prop} {ls : Array Slot} {o : Nat} {am ax : Nat → Nat} {I : IT} {b L j : Nat} {xs : Nat → Int32} (hst : l.stackTraces = false) (C : CX p s m args meth c K A cL_law_ 7 RL) (hX : va_X b L xs s s.heap) (hbl : b < s.heap.size) (hbA : ¬ A b) (hL : L ≤ 3072) (hj : j + 6 ≤ L) (hcs : cells + 1 ≤ room_1.cells ∧ slots + 6 ≤ room_1.slots) (hs : Stp_back I) (FX : FT) (GX : GT) (FM : FT) (GM : GT) (w : Int64) (f : Nat → Int64) (hI : I FX GX FM GM w) (h : WD K A s (wL K o f am ax FX GX FM GM w) H locs) (hl : lv_has ls 7 [(0, .ref b), (1, .ref (ax 0)), (2, .ref (am 0)), (3, .ref o), (4, .int (nI j))]) (hk : ∀ (FX : FT) (GX : GT) (FM : FT) (GM : GT) (w : Int64) (f : Nat → Int64) (H : Heap) (locs : List Loc) (ls : Array Slot), I FX GX FM GM w → WD K A s (wL K o f am ax FX GX FM GM w) H locs → lv_has ls 7 [(0, .ref b), (1, .ref (ax 0)), (2, .ref (am 0)), (3, .ref o), (4, .int (nI j))] → W p l e room_1 s m args below meth c H locs (cells + 1) (slots + 6) Z (F0 m 1170 ls [])) : W p l e room_1 s m args below meth c H locs cells slots Z (F0 m 588 ls []) := by
  have hx := C.1
  have hb := C.2.1
  have hw := hs FX GX FM GM w hI (xs (j + 1)) 
  refine lv_aload_n hx hb dL_law__588 rfl (lv_at hl 1 rfl) ?_
  refine scr (k := 1) hx hb hX hbl hbA h.2.2 hl (i0 := 0) (i4 := 4) rfl rfl hj hL (by decide) (by decide) dL_law__589 dL_law__590 dL_law__592 dL_law__593 dL_law__594 ?_
  refine lcx C h (c_X7_back (xs (j + 1)) FX GX hw) lk_L_93 rfl hl.1 rfl (Nat.le_of_ble_eq_true rfl) ⟨Nat.le_of_ble_eq_true rfl, Nat.le_of_ble_eq_true rfl⟩ ⟨Nat.le_of_succ_le hcs.1, Nat.le_trans (Nat.le_add_right _ 6) hcs.2⟩ dL_law__595 (fun r FX GX H locs hw h => ?_)
  refine lv_aload_n hx hb dL_law__598 rfl (lv_at hl 2 rfl) ?_
  refine scr (k := 1) hx hb hX hbl hbA h.2.2 hl (i0 := 0) (i4 := 4) rfl rfl hj hL (by decide) (by decide) dL_law__599 dL_law__600 dL_law__602 dL_law__603 dL_law__604 ?_
  refine lcm C h (c_X8_back (xs (j + 1)) FM GM w hw) lk_L_96 rfl hl.1 rfl (Nat.le_of_ble_eq_true rfl) ⟨Nat.le_of_ble_eq_true rfl, Nat.le_of_ble_eq_true rfl⟩ ⟨Nat.le_of_succ_le hcs.1, Nat.le_trans (Nat.le_add_right _ 6) hcs.2⟩ dL_law__605 (fun r2 FM GM w H locs hw h => ?_)
  refine lv_icmp_eq (tgt := 1170) hx hb dL_law__608 (by decide) (fun c => ?_) (fun c => absurd hw.1 c)
  refine W.widen (k := cells + 1) (n := slots + 6) (by omega) (by omega) ?_
  exact hk FX GX FM GM w f H locs _ hw.2 h (lv_sub hl [0, 1, 2, 3, 4] rfl)
set_option maxHeartbeats 4000000 in
set_option maxRecDepth 100000 in
theorem lawc_11 {p : Program} {l : Launch} {e : Env} {s : State} {m : MethodId} {args : Array Value} {below : List Frame} {meth : Method} {c : Code} {H : Heap} {locs : List Loc} {cells slots : Nat} {Z : State → Prop} {K : KT} {A : Nat → Prop} {ls : Array Slot} {o : Nat} {am ax : Nat → Nat} {I : IT} {b L j : Nat} {xs : Nat → Int32} (hst : l.stackTraces = false) (C : CX p s m args meth c K A cL_law_ 7 RL) (hX : va_X b L xs s s.heap) (hbl : b < s.heap.size) (hbA : ¬ A b) (hL : L ≤ 3072) (hj : j + 6 ≤ L) (hcs : cells + 1 ≤ room_1.cells ∧ slots + 6 ≤ room_1.slots) (hs : Stp_trace I) (FX : FT) (GX : GT) (FM : FT) (GM : GT) (w : Int64) (f : Nat → Int64) (hI : I FX GX FM GM w) (h : WD K A s (wL K o f am ax FX GX FM GM w) H locs) (hl : lv_has ls 7 [(0, .ref b), (1, .ref (ax 0)), (2, .ref (am 0)), (3, .ref o), (4, .int (nI j))]) (hk : ∀ (FX : FT) (GX : GT) (FM : FT) (GM : GT) (w : Int64) (f : Nat → Int64) (H : Heap) (locs : List Loc) (ls : Array Slot), I FX GX FM GM w → WD K A s (wL K o f am ax FX GX FM GM w) H locs → lv_has ls 7 [(0, .ref b), (1, .ref (ax 0)), (2, .ref (am 0)), (3, .ref o), (4, .int (nI j))] → W p l e room_1 s m args below meth c H locs (cells + 1) (slots + 6) Z (F0 m 1170 ls [])) : W p l e room_1 s m args below meth c H locs cells slots Z (F0 m 613 ls []) := by
  have hx := C.1
  have hb := C.2.1
  have hw := hs FX GX FM GM w hI (xs (j + 1)) 
  refine lv_aload_n hx hb dL_law__613 rfl (lv_at hl 1 rfl) ?_
  refine scr (k := 1) hx hb hX hbl hbA h.2.2 hl (i0 := 0) (i4 := 4) rfl rfl hj hL (by decide) (by decide) dL_law__614 dL_law__615 dL_law__617 dL_law__618 dL_law__619 ?_
  refine lcx C h (c_X7_trace (xs (j + 1)) FX GX hw) lk_L_97 rfl hl.1 rfl (Nat.le_of_ble_eq_true rfl) ⟨Nat.le_of_ble_eq_true rfl, Nat.le_of_ble_eq_true rfl⟩ ⟨Nat.le_of_succ_le hcs.1, Nat.le_trans (Nat.le_add_right _ 6) hcs.2⟩ dL_law__620 (fun r FX GX H locs hw h => ?_)
  refine lv_aload_n hx hb dL_law__623 rfl (lv_at hl 2 rfl) ?_
  refine scr (k := 1) hx hb hX hbl hbA h.2.2 hl (i0 := 0) (i4 := 4) rfl rfl hj hL (by decide) (by decide) dL_law__624 dL_law__625 dL_law__627 dL_law__628 dL_law__629 ?_
  refine lcm C h (c_X8_trace (xs (j + 1)) FM GM w hw) lk_L_100 rfl hl.1 rfl (Nat.le_of_ble_eq_true rfl) ⟨Nat.le_of_ble_eq_true rfl, Nat.le_of_ble_eq_true rfl⟩ ⟨Nat.le_of_succ_le hcs.1, Nat.le_trans (Nat.le_add_right _ 6) hcs.2⟩ dL_law__630 (fun r2 FM GM w H locs hw h => ?_)
  refine lv_icmp_eq (tgt := 1170) hx hb dL_law__633 (by decide) (fun c => ?_) (fun c => absurd hw.1 c)
  refine W.widen (k := cells + 1) (n := slots + 6) (by omega) (by omega) ?_
  exact hk FX GX FM GM w f H locs _ hw.2 h (lv_sub hl [0, 1, 2, 3, 4] rfl)
set_option maxHeartbeats 4000000 in
set_option maxRecDepth 100000 in
theorem lawc_12 {p : Program} {l : Launch} {e : Env} {s : State} {m : MethodId} {args : Array Value} {below : List Frame} {meth : Method} {c : Code} {H : Heap} {locs : List Loc} {cells slots : Nat} {Z : State → Prop} {K : KT} {A : Nat → Prop} {ls : Array Slot} {o : Nat} {am ax : Nat → Nat} {I : IT} {b L j : Nat} {xs : Nat → Int32} (hst : l.stackTraces = false) (C : CX p s m args meth c K A cL_law_ 7 RL) (hX : va_X b L xs s s.heap) (hbl : b < s.heap.size) (hbA : ¬ A b) (hL : L ≤ 3072) (hj : j + 6 ≤ L) (hcs : cells + 1 ≤ room_1.cells ∧ slots + 6 ≤ room_1.slots) (hs : Stp_steal I) (FX : FT) (GX : GT) (FM : FT) (GM : GT) (w : Int64) (f : Nat → Int64) (hI : I FX GX FM GM w) (h : WD K A s (wL K o f am ax FX GX FM GM w) H locs) (hl : lv_has ls 7 [(0, .ref b), (1, .ref (ax 0)), (2, .ref (am 0)), (3, .ref o), (4, .int (nI j))]) (hk : ∀ (FX : FT) (GX : GT) (FM : FT) (GM : GT) (w : Int64) (f : Nat → Int64) (H : Heap) (locs : List Loc) (ls : Array Slot), I FX GX FM GM w → WD K A s (wL K o f am ax FX GX FM GM w) H locs → lv_has ls 7 [(0, .ref b), (1, .ref (ax 0)), (2, .ref (am 0)), (3, .ref o), (4, .int (nI j))] → W p l e room_1 s m args below meth c H locs (cells + 1) (slots + 6) Z (F0 m 1170 ls [])) : W p l e room_1 s m args below meth c H locs cells slots Z (F0 m 638 ls []) := by
  have hx := C.1
  have hb := C.2.1
  have hw := hs FX GX FM GM w hI (xs (j + 1)) (xs (j + 2)) 
  refine lv_aload_n hx hb dL_law__638 rfl (lv_at hl 1 rfl) ?_
  refine scr (k := 1) hx hb hX hbl hbA h.2.2 hl (i0 := 0) (i4 := 4) rfl rfl hj hL (by decide) (by decide) dL_law__639 dL_law__640 dL_law__642 dL_law__643 dL_law__644 ?_
  refine scr (k := 2) hx hb hX hbl hbA h.2.2 hl (i0 := 0) (i4 := 4) rfl rfl hj hL (by decide) (by decide) dL_law__645 dL_law__646 dL_law__648 dL_law__649 dL_law__650 ?_
  refine lcx C h (c_X7_steal (xs (j + 1)) (xs (j + 2)) FX GX hw) lk_L_101 rfl hl.1 rfl (Nat.le_of_ble_eq_true rfl) ⟨Nat.le_of_ble_eq_true rfl, Nat.le_of_ble_eq_true rfl⟩ ⟨Nat.le_of_succ_le hcs.1, Nat.le_trans (Nat.le_add_right _ 6) hcs.2⟩ dL_law__651 (fun r FX GX H locs hw h => ?_)
  have hw := hw.2
  refine lv_aload_n hx hb dL_law__654 rfl (lv_at hl 2 rfl) ?_
  refine scr (k := 1) hx hb hX hbl hbA h.2.2 hl (i0 := 0) (i4 := 4) rfl rfl hj hL (by decide) (by decide) dL_law__655 dL_law__656 dL_law__658 dL_law__659 dL_law__660 ?_
  refine scr (k := 2) hx hb hX hbl hbA h.2.2 hl (i0 := 0) (i4 := 4) rfl rfl hj hL (by decide) (by decide) dL_law__661 dL_law__662 dL_law__664 dL_law__665 dL_law__666 ?_
  refine lcm C h (c_X8_steal (xs (j + 1)) (xs (j + 2)) FM GM w hw) lk_L_105 rfl hl.1 rfl (Nat.le_of_ble_eq_true rfl) ⟨Nat.le_of_ble_eq_true rfl, Nat.le_of_ble_eq_true rfl⟩ ⟨Nat.le_of_succ_le hcs.1, Nat.le_trans (Nat.le_add_right _ 6) hcs.2⟩ dL_law__667 (fun r2 FM GM w H locs hw h => ?_)
  have hw := hw.2
  refine lv_icmp_eq (tgt := 1170) hx hb dL_law__670 (by decide) (fun c => ?_) (fun c => absurd hw.1 c)
  refine W.widen (k := cells + 1) (n := slots + 6) (by omega) (by omega) ?_
  exact hk FX GX FM GM w f H locs _ hw.2 h (lv_sub hl [0, 1, 2, 3, 4] rfl)
set_option maxHeartbeats 4000000 in
set_option maxRecDepth 100000 in
theorem lawc_13 {p : Program} {l : Launch} {e : Env} {s : State} {m : MethodId} {args : Array Value} {below : List Frame} {meth : Method} {c : Code} {H : Heap} {locs : List Loc} {cells slots : Nat} {Z : State → Prop} {K : KT} {A : Nat → Prop} {ls : Array Slot} {o : Nat} {am ax : Nat → Nat} {I : IT} {b L j : Nat} {xs : Nat → Int32} (hst : l.stackTraces = false) (C : CX p s m args meth c K A cL_law_ 7 RL) (hX : va_X b L xs s s.heap) (hbl : b < s.heap.size) (hbA : ¬ A b) (hL : L ≤ 3072) (hj : j + 6 ≤ L) (hcs : cells + 1 ≤ room_1.cells ∧ slots + 6 ≤ room_1.slots) (hs : Stp_claim I) (FX : FT) (GX : GT) (FM : FT) (GM : GT) (w : Int64) (f : Nat → Int64) (hI : I FX GX FM GM w) (h : WD K A s (wL K o f am ax FX GX FM GM w) H locs) (hl : lv_has ls 7 [(0, .ref b), (1, .ref (ax 0)), (2, .ref (am 0)), (3, .ref o), (4, .int (nI j))]) (hk : ∀ (FX : FT) (GX : GT) (FM : FT) (GM : GT) (w : Int64) (f : Nat → Int64) (H : Heap) (locs : List Loc) (ls : Array Slot), I FX GX FM GM w → WD K A s (wL K o f am ax FX GX FM GM w) H locs → lv_has ls 7 [(0, .ref b), (1, .ref (ax 0)), (2, .ref (am 0)), (3, .ref o), (4, .int (nI j))] → W p l e room_1 s m args below meth c H locs (cells + 1) (slots + 6) Z (F0 m 1170 ls [])) : W p l e room_1 s m args below meth c H locs cells slots Z (F0 m 675 ls []) := by
  have hx := C.1
  have hb := C.2.1
  have hw := hs FX GX FM GM w hI (xs (j + 1)) 
  refine lv_aload_n hx hb dL_law__675 rfl (lv_at hl 1 rfl) ?_
  refine scr (k := 1) hx hb hX hbl hbA h.2.2 hl (i0 := 0) (i4 := 4) rfl rfl hj hL (by decide) (by decide) dL_law__676 dL_law__677 dL_law__679 dL_law__680 dL_law__681 ?_
  refine lcx C h (c_X7_claim (xs (j + 1)) FX GX hw) lk_L_106 rfl hl.1 rfl (Nat.le_of_ble_eq_true rfl) ⟨Nat.le_of_ble_eq_true rfl, Nat.le_of_ble_eq_true rfl⟩ ⟨Nat.le_of_succ_le hcs.1, Nat.le_trans (Nat.le_add_right _ 6) hcs.2⟩ dL_law__682 (fun r FX GX H locs hw h => ?_)
  refine lv_aload_n hx hb dL_law__685 rfl (lv_at hl 2 rfl) ?_
  refine scr (k := 1) hx hb hX hbl hbA h.2.2 hl (i0 := 0) (i4 := 4) rfl rfl hj hL (by decide) (by decide) dL_law__686 dL_law__687 dL_law__689 dL_law__690 dL_law__691 ?_
  refine lcm C h (c_X8_claim (xs (j + 1)) FM GM w hw) lk_L_109 rfl hl.1 rfl (Nat.le_of_ble_eq_true rfl) ⟨Nat.le_of_ble_eq_true rfl, Nat.le_of_ble_eq_true rfl⟩ ⟨Nat.le_of_succ_le hcs.1, Nat.le_trans (Nat.le_add_right _ 6) hcs.2⟩ dL_law__692 (fun r2 FM GM w H locs hw h => ?_)
  refine lv_icmp_eq (tgt := 1170) hx hb dL_law__695 (by decide) (fun c => ?_) (fun c => absurd hw.1 c)
  refine W.widen (k := cells + 1) (n := slots + 6) (by omega) (by omega) ?_
  exact hk FX GX FM GM w f H locs _ hw.2 h (lv_sub hl [0, 1, 2, 3, 4] rfl)
set_option maxHeartbeats 4000000 in
set_option maxRecDepth 100000 in
theorem lawc_14 {p : Program} {l : Launch} {e : Env} {s : State} {m : MethodId} {args : Array Value} {below : List Frame} {meth : Method} {c : Code} {H : Heap} {locs : List Loc} {cells slots : Nat} {Z : State → Prop} {K : KT} {A : Nat → Prop} {ls : Array Slot} {o : Nat} {am ax : Nat → Nat} {I : IT} {b L j : Nat} {xs : Nat → Int32} (hst : l.stackTraces = false) (C : CX p s m args meth c K A cL_law_ 7 RL) (hX : va_X b L xs s s.heap) (hbl : b < s.heap.size) (hbA : ¬ A b) (hL : L ≤ 3072) (hj : j + 6 ≤ L) (hcs : cells + 1 ≤ room_1.cells ∧ slots + 6 ≤ room_1.slots) (hs : Stp_next I) (FX : FT) (GX : GT) (FM : FT) (GM : GT) (w : Int64) (f : Nat → Int64) (hI : I FX GX FM GM w) (h : WD K A s (wL K o f am ax FX GX FM GM w) H locs) (hl : lv_has ls 7 [(0, .ref b), (1, .ref (ax 0)), (2, .ref (am 0)), (3, .ref o), (4, .int (nI j))]) (hk : ∀ (FX : FT) (GX : GT) (FM : FT) (GM : GT) (w : Int64) (f : Nat → Int64) (H : Heap) (locs : List Loc) (ls : Array Slot), I FX GX FM GM w → WD K A s (wL K o f am ax FX GX FM GM w) H locs → lv_has ls 7 [(0, .ref b), (1, .ref (ax 0)), (2, .ref (am 0)), (3, .ref o), (4, .int (nI j))] → W p l e room_1 s m args below meth c H locs (cells + 1) (slots + 6) Z (F0 m 1170 ls [])) : W p l e room_1 s m args below meth c H locs cells slots Z (F0 m 700 ls []) := by
  have hx := C.1
  have hb := C.2.1
  have hw := hs FX GX FM GM w hI
  refine lv_aload_n hx hb dL_law__700 rfl (lv_at hl 1 rfl) ?_
  refine lcx C h (c_X7_next FX GX hw) lk_L_110 rfl hl.1 rfl (Nat.le_of_ble_eq_true rfl) ⟨Nat.le_of_ble_eq_true rfl, Nat.le_of_ble_eq_true rfl⟩ ⟨Nat.le_of_succ_le hcs.1, Nat.le_trans (Nat.le_add_right _ 6) hcs.2⟩ dL_law__701 (fun r FX GX H locs hw h => ?_)
  refine lv_aload_n hx hb dL_law__704 rfl (lv_at hl 2 rfl) ?_
  refine lcm C h (c_X8_next FM GM w hw) lk_L_113 rfl hl.1 rfl (Nat.le_of_ble_eq_true rfl) ⟨Nat.le_of_ble_eq_true rfl, Nat.le_of_ble_eq_true rfl⟩ ⟨Nat.le_of_succ_le hcs.1, Nat.le_trans (Nat.le_add_right _ 6) hcs.2⟩ dL_law__705 (fun r2 FM GM w H locs hw h => ?_)
  refine lv_icmp_eq (tgt := 1170) hx hb dL_law__708 (by decide) (fun c => ?_) (fun c => absurd hw.1 c)
  refine W.widen (k := cells + 1) (n := slots + 6) (by omega) (by omega) ?_
  exact hk FX GX FM GM w f H locs _ hw.2 h (lv_sub hl [0, 1, 2, 3, 4] rfl)
theorem lkw_114 : LkW RL 114 yL_about cL_about 5 [(0, 10, 13, 22)] 4 := ⟨by decide +kernel, tb_in 717 (by decide +kernel) rfl, tb_in 718 (by decide +kernel) rfl, tb_in 40 (by decide +kernel) rfl, tb_in 719 (by decide +kernel) rfl⟩
set_option maxHeartbeats 4000000 in
set_option maxRecDepth 100000 in
theorem lawc_15 {p : Program} {l : Launch} {e : Env} {s : State} {m : MethodId} {args : Array Value} {below : List Frame} {meth : Method} {c : Code} {H : Heap} {locs : List Loc} {cells slots : Nat} {Z : State → Prop} {K : KT} {A : Nat → Prop} {ls : Array Slot} {o : Nat} {am ax : Nat → Nat} {I : IT} {b L j : Nat} {xs : Nat → Int32} (hst : l.stackTraces = false) (C : CX p s m args meth c K A cL_law_ 7 RL) (hX : va_X b L xs s s.heap) (hbl : b < s.heap.size) (hbA : ¬ A b) (hL : L ≤ 3072) (hj : j + 6 ≤ L) (hcs : cells + 1 ≤ room_1.cells ∧ slots + 6 ≤ room_1.slots) (hs : Stp_about I) (FX : FT) (GX : GT) (FM : FT) (GM : GT) (w : Int64) (f : Nat → Int64) (hI : I FX GX FM GM w) (h : WD K A s (wL K o f am ax FX GX FM GM w) H locs) (hl : lv_has ls 7 [(0, .ref b), (1, .ref (ax 0)), (2, .ref (am 0)), (3, .ref o), (4, .int (nI j))]) (hk : ∀ (FX : FT) (GX : GT) (FM : FT) (GM : GT) (w : Int64) (f : Nat → Int64) (H : Heap) (locs : List Loc) (ls : Array Slot), I FX GX FM GM w → WD K A s (wL K o f am ax FX GX FM GM w) H locs → lv_has ls 7 [(0, .ref b), (1, .ref (ax 0)), (2, .ref (am 0)), (3, .ref o), (4, .int (nI j))] → W p l e room_1 s m args below meth c H locs (cells + 1) (slots + 6) Z (F0 m 1170 ls [])) : W p l e room_1 s m args below meth c H locs cells slots Z (F0 m 713 ls []) := by
  have hx := C.1
  have hb := C.2.1
  have hw := hs FX GX FM GM w hI (xs (j + 1)) (xs (j + 2)) f
  refine lv_aload_n hx hb dL_law__713 rfl (lv_at hl 1 rfl) ?_
  refine scr (k := 1) hx hb hX hbl hbA h.2.2 hl (i0 := 0) (i4 := 4) rfl rfl hj hL (by decide) (by decide) dL_law__714 dL_law__715 dL_law__717 dL_law__718 dL_law__719 ?_
  refine scr (k := 2) hx hb hX hbl hbA h.2.2 hl (i0 := 0) (i4 := 4) rfl rfl hj hL (by decide) (by decide) dL_law__720 dL_law__721 dL_law__723 dL_law__724 dL_law__725 ?_
  refine lv_aload_n hx hb dL_law__726 rfl (lv_at hl 3 rfl) ?_
  refine lcw C h (c_L_about hst (xs (j + 1)) (xs (j + 2)) FX GX f (QW := fun k FX GX f => wp_X8_about (xs (j + 1)) (xs (j + 2)) FM GM w (PT I FX GX k f)) hw) lkw_114 rfl hl.1 rfl (Nat.le_of_ble_eq_true rfl) ⟨Nat.le_of_ble_eq_true rfl, Nat.le_of_ble_eq_true rfl⟩ hcs dL_law__727 (fun k FX GX f H locs hw h => ?_)
  refine lv_istore (lv' := [(5, .int k), (0, .ref b), (1, .ref (ax 0)), (2, .ref (am 0)), (3, .ref o), (4, .int (nI j))]) hx hb dL_law__730 hl (by decide) rfl (fun ls hl => ?_)
  refine lv_aload_n hx hb dL_law__732 rfl (lv_at hl 3 rfl) ?_
  refine scr (k := 1) hx hb hX hbl hbA h.2.2 hl (i0 := 1) (i4 := 5) rfl rfl hj hL (by decide) (by decide) dL_law__733 dL_law__734 dL_law__736 dL_law__737 dL_law__738 ?_
  refine scr (k := 2) hx hb hX hbl hbA h.2.2 hl (i0 := 1) (i4 := 5) rfl rfl hj hL (by decide) (by decide) dL_law__739 dL_law__740 dL_law__742 dL_law__743 dL_law__744 ?_
  refine lcm C h (c_X8_about (xs (j + 1)) (xs (j + 2)) FM GM w hw) lk_L_116 rfl hl.1 rfl (Nat.le_of_ble_eq_true rfl) ⟨Nat.le_of_ble_eq_true rfl, Nat.le_of_ble_eq_true rfl⟩ ⟨hcs.1, hcs.2⟩ dL_law__745 (fun r2 FM GM w H locs hw h => ?_)
  refine lv_istore (lv' := [(6, .int r2), (5, .int k), (0, .ref b), (1, .ref (ax 0)), (2, .ref (am 0)), (3, .ref o), (4, .int (nI j))]) hx hb dL_law__748 hl (by decide) rfl (fun ls hl => ?_)
  refine lv_aload_n hx hb dL_law__750 rfl (lv_at hl 4 rfl) ?_
  refine lcm C h (c_X8_thrown FM GM w (Q := fun t FM1 GM1 w1 => t = k ∧ (k = 0 → f 0 = r2.toInt64) ∧ I FX GX FM1 GM1 w1) hw) lk_L_60 rfl hl.1 rfl (Nat.le_of_ble_eq_true rfl) ⟨Nat.le_of_ble_eq_true rfl, Nat.le_of_ble_eq_true rfl⟩ ⟨hcs.1, hcs.2⟩ dL_law__751 (fun t FM GM w H locs hw h => ?_)
  refine lv_iload hx hb dL_law__754 (lv_at hl 1 rfl) ?_
  refine lv_icmp_eq (tgt := 761) hx hb dL_law__756 (by decide) (fun c => ?_) (fun c => absurd hw.1 c)
  refine lv_iload hx hb dL_law__761 (lv_at hl 1 rfl) ?_
  refine lv_if_ne (tgt := 778) hx hb dL_law__763 (by decide) (fun c => ?_) (fun c => ?_)
  · refine lv_goto (tgt := 1170) hx hb dL_law__778 (by decide) ?_
    exact hk FX GX FM GM w f H locs _ hw.2.2 h (lv_sub hl [2, 3, 4, 5, 6] rfl)
  · refine lv_aload_n hx hb dL_law__766 rfl (lv_at hl 5 rfl) ?_
    refine lv_iconst (v := 0) hx hb dL_law__767 (by decide) ?_
    refine x_lald (w2 := wM K am FM GM w ++ wX K ax FX GX) C (WD.eqw (List.append_assoc _ _ _) h) in_0 dL_law__768 ?_
    refine lv_iload hx hb dL_law__769 (lv_at hl 0 rfl) ?_
    refine lv_i2l hx hb dL_law__771 rfl ?_
    refine W.lcmp hx hb dL_law__772 ?_
    have e0 : lg_cmp (f (0 : Int32).toNatClampNeg) r2.toInt64 = 0 := by rw [show f (0 : Int32).toNatClampNeg = r2.toInt64 from hw.2.1 c]; exact lg_self _
    refine lv_if_eq (tgt := 778) hx hb dL_law__773 (by decide) (fun c => ?_) (fun c => absurd e0 c)
    refine lv_goto (tgt := 1170) hx hb dL_law__778 (by decide) ?_
    exact hk FX GX FM GM w f H locs _ hw.2.2 h (lv_sub hl [2, 3, 4, 5, 6] rfl)
theorem lkw_117 : LkW RL 117 yL_fault cL_fault 6 [(0, 12, 15, 22)] 5 := ⟨by decide +kernel, tb_in 751 (by decide +kernel) rfl, tb_in 752 (by decide +kernel) rfl, tb_in 40 (by decide +kernel) rfl, tb_in 753 (by decide +kernel) rfl⟩
set_option maxHeartbeats 4000000 in
set_option maxRecDepth 100000 in
theorem lawc_16 {p : Program} {l : Launch} {e : Env} {s : State} {m : MethodId} {args : Array Value} {below : List Frame} {meth : Method} {c : Code} {H : Heap} {locs : List Loc} {cells slots : Nat} {Z : State → Prop} {K : KT} {A : Nat → Prop} {ls : Array Slot} {o : Nat} {am ax : Nat → Nat} {I : IT} {b L j : Nat} {xs : Nat → Int32} (hst : l.stackTraces = false) (C : CX p s m args meth c K A cL_law_ 7 RL) (hX : va_X b L xs s s.heap) (hbl : b < s.heap.size) (hbA : ¬ A b) (hL : L ≤ 3072) (hj : j + 6 ≤ L) (hcs : cells + 1 ≤ room_1.cells ∧ slots + 6 ≤ room_1.slots) (hs : Stp_fault I) (FX : FT) (GX : GT) (FM : FT) (GM : GT) (w : Int64) (f : Nat → Int64) (hI : I FX GX FM GM w) (h : WD K A s (wL K o f am ax FX GX FM GM w) H locs) (hl : lv_has ls 7 [(0, .ref b), (1, .ref (ax 0)), (2, .ref (am 0)), (3, .ref o), (4, .int (nI j))]) (hk : ∀ (FX : FT) (GX : GT) (FM : FT) (GM : GT) (w : Int64) (f : Nat → Int64) (H : Heap) (locs : List Loc) (ls : Array Slot), I FX GX FM GM w → WD K A s (wL K o f am ax FX GX FM GM w) H locs → lv_has ls 7 [(0, .ref b), (1, .ref (ax 0)), (2, .ref (am 0)), (3, .ref o), (4, .int (nI j))] → W p l e room_1 s m args below meth c H locs (cells + 1) (slots + 6) Z (F0 m 1170 ls [])) : W p l e room_1 s m args below meth c H locs cells slots Z (F0 m 781 ls []) := by
  have hx := C.1
  have hb := C.2.1
  have hw := hs FX GX FM GM w hI (xs (j + 1)) (xs (j + 2)) (xs (j + 3)) f
  refine lv_aload_n hx hb dL_law__781 rfl (lv_at hl 1 rfl) ?_
  refine scr (k := 1) hx hb hX hbl hbA h.2.2 hl (i0 := 0) (i4 := 4) rfl rfl hj hL (by decide) (by decide) dL_law__782 dL_law__783 dL_law__785 dL_law__786 dL_law__787 ?_
  refine scr (k := 2) hx hb hX hbl hbA h.2.2 hl (i0 := 0) (i4 := 4) rfl rfl hj hL (by decide) (by decide) dL_law__788 dL_law__789 dL_law__791 dL_law__792 dL_law__793 ?_
  refine scr (k := 3) hx hb hX hbl hbA h.2.2 hl (i0 := 0) (i4 := 4) rfl rfl hj hL (by decide) (by decide) dL_law__794 dL_law__795 dL_law__797 dL_law__798 dL_law__799 ?_
  refine lv_aload_n hx hb dL_law__800 rfl (lv_at hl 3 rfl) ?_
  refine lcw C h (c_L_fault hst (xs (j + 1)) (xs (j + 2)) (xs (j + 3)) FX GX f (QW := fun k FX GX f => wp_X8_fault (xs (j + 1)) (xs (j + 2)) (xs (j + 3)) FM GM w (PT I FX GX k f)) hw) lkw_117 rfl hl.1 rfl (Nat.le_of_ble_eq_true rfl) ⟨Nat.le_of_ble_eq_true rfl, Nat.le_of_ble_eq_true rfl⟩ hcs dL_law__801 (fun k FX GX f H locs hw h => ?_)
  refine lv_istore (lv' := [(5, .int k), (0, .ref b), (1, .ref (ax 0)), (2, .ref (am 0)), (3, .ref o), (4, .int (nI j))]) hx hb dL_law__804 hl (by decide) rfl (fun ls hl => ?_)
  refine lv_aload_n hx hb dL_law__806 rfl (lv_at hl 3 rfl) ?_
  refine scr (k := 1) hx hb hX hbl hbA h.2.2 hl (i0 := 1) (i4 := 5) rfl rfl hj hL (by decide) (by decide) dL_law__807 dL_law__808 dL_law__810 dL_law__811 dL_law__812 ?_
  refine scr (k := 2) hx hb hX hbl hbA h.2.2 hl (i0 := 1) (i4 := 5) rfl rfl hj hL (by decide) (by decide) dL_law__813 dL_law__814 dL_law__816 dL_law__817 dL_law__818 ?_
  refine scr (k := 3) hx hb hX hbl hbA h.2.2 hl (i0 := 1) (i4 := 5) rfl rfl hj hL (by decide) (by decide) dL_law__819 dL_law__820 dL_law__822 dL_law__823 dL_law__824 ?_
  refine lcm C h (c_X8_fault (xs (j + 1)) (xs (j + 2)) (xs (j + 3)) FM GM w hw) lk_L_120 rfl hl.1 rfl (Nat.le_of_ble_eq_true rfl) ⟨Nat.le_of_ble_eq_true rfl, Nat.le_of_ble_eq_true rfl⟩ ⟨hcs.1, hcs.2⟩ dL_law__825 (fun r2 FM GM w H locs hw h => ?_)
  refine lv_istore (lv' := [(6, .int r2), (5, .int k), (0, .ref b), (1, .ref (ax 0)), (2, .ref (am 0)), (3, .ref o), (4, .int (nI j))]) hx hb dL_law__828 hl (by decide) rfl (fun ls hl => ?_)
  refine lv_aload_n hx hb dL_law__830 rfl (lv_at hl 4 rfl) ?_
  refine lcm C h (c_X8_thrown FM GM w (Q := fun t FM1 GM1 w1 => t = k ∧ (k = 0 → f 0 = r2.toInt64) ∧ I FX GX FM1 GM1 w1) hw) lk_L_60 rfl hl.1 rfl (Nat.le_of_ble_eq_true rfl) ⟨Nat.le_of_ble_eq_true rfl, Nat.le_of_ble_eq_true rfl⟩ ⟨hcs.1, hcs.2⟩ dL_law__831 (fun t FM GM w H locs hw h => ?_)
  refine lv_iload hx hb dL_law__834 (lv_at hl 1 rfl) ?_
  refine lv_icmp_eq (tgt := 841) hx hb dL_law__836 (by decide) (fun c => ?_) (fun c => absurd hw.1 c)
  refine lv_iload hx hb dL_law__841 (lv_at hl 1 rfl) ?_
  refine lv_if_ne (tgt := 858) hx hb dL_law__843 (by decide) (fun c => ?_) (fun c => ?_)
  · refine lv_goto (tgt := 1170) hx hb dL_law__858 (by decide) ?_
    exact hk FX GX FM GM w f H locs _ hw.2.2 h (lv_sub hl [2, 3, 4, 5, 6] rfl)
  · refine lv_aload_n hx hb dL_law__846 rfl (lv_at hl 5 rfl) ?_
    refine lv_iconst (v := 0) hx hb dL_law__847 (by decide) ?_
    refine x_lald (w2 := wM K am FM GM w ++ wX K ax FX GX) C (WD.eqw (List.append_assoc _ _ _) h) in_0 dL_law__848 ?_
    refine lv_iload hx hb dL_law__849 (lv_at hl 0 rfl) ?_
    refine lv_i2l hx hb dL_law__851 rfl ?_
    refine W.lcmp hx hb dL_law__852 ?_
    have e0 : lg_cmp (f (0 : Int32).toNatClampNeg) r2.toInt64 = 0 := by rw [show f (0 : Int32).toNatClampNeg = r2.toInt64 from hw.2.1 c]; exact lg_self _
    refine lv_if_eq (tgt := 858) hx hb dL_law__853 (by decide) (fun c => ?_) (fun c => absurd e0 c)
    refine lv_goto (tgt := 1170) hx hb dL_law__858 (by decide) ?_
    exact hk FX GX FM GM w f H locs _ hw.2.2 h (lv_sub hl [2, 3, 4, 5, 6] rfl)
theorem lkw_121 : LkW RL 121 yL_sale cL_sale 5 [(0, 10, 13, 22)] 4 := ⟨by decide +kernel, tb_in 760 (by decide +kernel) rfl, tb_in 761 (by decide +kernel) rfl, tb_in 40 (by decide +kernel) rfl, tb_in 762 (by decide +kernel) rfl⟩
set_option maxHeartbeats 4000000 in
set_option maxRecDepth 100000 in
theorem lawc_17 {p : Program} {l : Launch} {e : Env} {s : State} {m : MethodId} {args : Array Value} {below : List Frame} {meth : Method} {c : Code} {H : Heap} {locs : List Loc} {cells slots : Nat} {Z : State → Prop} {K : KT} {A : Nat → Prop} {ls : Array Slot} {o : Nat} {am ax : Nat → Nat} {I : IT} {b L j : Nat} {xs : Nat → Int32} (hst : l.stackTraces = false) (C : CX p s m args meth c K A cL_law_ 7 RL) (hX : va_X b L xs s s.heap) (hbl : b < s.heap.size) (hbA : ¬ A b) (hL : L ≤ 3072) (hj : j + 6 ≤ L) (hcs : cells + 1 ≤ room_1.cells ∧ slots + 6 ≤ room_1.slots) (hs : Stp_sale I) (FX : FT) (GX : GT) (FM : FT) (GM : GT) (w : Int64) (f : Nat → Int64) (hI : I FX GX FM GM w) (h : WD K A s (wL K o f am ax FX GX FM GM w) H locs) (hl : lv_has ls 7 [(0, .ref b), (1, .ref (ax 0)), (2, .ref (am 0)), (3, .ref o), (4, .int (nI j))]) (hk : ∀ (FX : FT) (GX : GT) (FM : FT) (GM : GT) (w : Int64) (f : Nat → Int64) (H : Heap) (locs : List Loc) (ls : Array Slot), I FX GX FM GM w → WD K A s (wL K o f am ax FX GX FM GM w) H locs → lv_has ls 7 [(0, .ref b), (1, .ref (ax 0)), (2, .ref (am 0)), (3, .ref o), (4, .int (nI j))] → W p l e room_1 s m args below meth c H locs (cells + 1) (slots + 6) Z (F0 m 1170 ls [])) : W p l e room_1 s m args below meth c H locs cells slots Z (F0 m 861 ls []) := by
  have hx := C.1
  have hb := C.2.1
  have hw := hs FX GX FM GM w hI (xs (j + 1)) (xs (j + 2)) f
  refine lv_aload_n hx hb dL_law__861 rfl (lv_at hl 1 rfl) ?_
  refine scr (k := 1) hx hb hX hbl hbA h.2.2 hl (i0 := 0) (i4 := 4) rfl rfl hj hL (by decide) (by decide) dL_law__862 dL_law__863 dL_law__865 dL_law__866 dL_law__867 ?_
  refine scr (k := 2) hx hb hX hbl hbA h.2.2 hl (i0 := 0) (i4 := 4) rfl rfl hj hL (by decide) (by decide) dL_law__868 dL_law__869 dL_law__871 dL_law__872 dL_law__873 ?_
  refine lv_aload_n hx hb dL_law__874 rfl (lv_at hl 3 rfl) ?_
  refine lcw C h (c_L_sale hst (xs (j + 1)) (xs (j + 2)) FX GX f (QW := fun k FX GX f => wp_X8_sale (xs (j + 1)) (xs (j + 2)) FM GM w (PT I FX GX k f)) hw) lkw_121 rfl hl.1 rfl (Nat.le_of_ble_eq_true rfl) ⟨Nat.le_of_ble_eq_true rfl, Nat.le_of_ble_eq_true rfl⟩ hcs dL_law__875 (fun k FX GX f H locs hw h => ?_)
  refine lv_istore (lv' := [(5, .int k), (0, .ref b), (1, .ref (ax 0)), (2, .ref (am 0)), (3, .ref o), (4, .int (nI j))]) hx hb dL_law__878 hl (by decide) rfl (fun ls hl => ?_)
  refine lv_aload_n hx hb dL_law__880 rfl (lv_at hl 3 rfl) ?_
  refine scr (k := 1) hx hb hX hbl hbA h.2.2 hl (i0 := 1) (i4 := 5) rfl rfl hj hL (by decide) (by decide) dL_law__881 dL_law__882 dL_law__884 dL_law__885 dL_law__886 ?_
  refine scr (k := 2) hx hb hX hbl hbA h.2.2 hl (i0 := 1) (i4 := 5) rfl rfl hj hL (by decide) (by decide) dL_law__887 dL_law__888 dL_law__890 dL_law__891 dL_law__892 ?_
  refine lcm C h (c_X8_sale (xs (j + 1)) (xs (j + 2)) FM GM w hw) lk_L_123 rfl hl.1 rfl (Nat.le_of_ble_eq_true rfl) ⟨Nat.le_of_ble_eq_true rfl, Nat.le_of_ble_eq_true rfl⟩ ⟨hcs.1, hcs.2⟩ dL_law__893 (fun r2 FM GM w H locs hw h => ?_)
  refine lv_istore (lv' := [(6, .int r2), (5, .int k), (0, .ref b), (1, .ref (ax 0)), (2, .ref (am 0)), (3, .ref o), (4, .int (nI j))]) hx hb dL_law__896 hl (by decide) rfl (fun ls hl => ?_)
  refine lv_aload_n hx hb dL_law__898 rfl (lv_at hl 4 rfl) ?_
  refine lcm C h (c_X8_thrown FM GM w (Q := fun t FM1 GM1 w1 => t = k ∧ (k = 0 → f 0 = r2.toInt64) ∧ I FX GX FM1 GM1 w1) hw) lk_L_60 rfl hl.1 rfl (Nat.le_of_ble_eq_true rfl) ⟨Nat.le_of_ble_eq_true rfl, Nat.le_of_ble_eq_true rfl⟩ ⟨hcs.1, hcs.2⟩ dL_law__899 (fun t FM GM w H locs hw h => ?_)
  refine lv_iload hx hb dL_law__902 (lv_at hl 1 rfl) ?_
  refine lv_icmp_eq (tgt := 909) hx hb dL_law__904 (by decide) (fun c => ?_) (fun c => absurd hw.1 c)
  refine lv_iload hx hb dL_law__909 (lv_at hl 1 rfl) ?_
  refine lv_if_ne (tgt := 926) hx hb dL_law__911 (by decide) (fun c => ?_) (fun c => ?_)
  · refine lv_goto (tgt := 1170) hx hb dL_law__926 (by decide) ?_
    exact hk FX GX FM GM w f H locs _ hw.2.2 h (lv_sub hl [2, 3, 4, 5, 6] rfl)
  · refine lv_aload_n hx hb dL_law__914 rfl (lv_at hl 5 rfl) ?_
    refine lv_iconst (v := 0) hx hb dL_law__915 (by decide) ?_
    refine x_lald (w2 := wM K am FM GM w ++ wX K ax FX GX) C (WD.eqw (List.append_assoc _ _ _) h) in_0 dL_law__916 ?_
    refine lv_iload hx hb dL_law__917 (lv_at hl 0 rfl) ?_
    refine lv_i2l hx hb dL_law__919 rfl ?_
    refine W.lcmp hx hb dL_law__920 ?_
    have e0 : lg_cmp (f (0 : Int32).toNatClampNeg) r2.toInt64 = 0 := by rw [show f (0 : Int32).toNatClampNeg = r2.toInt64 from hw.2.1 c]; exact lg_self _
    refine lv_if_eq (tgt := 926) hx hb dL_law__921 (by decide) (fun c => ?_) (fun c => absurd e0 c)
    refine lv_goto (tgt := 1170) hx hb dL_law__926 (by decide) ?_
    exact hk FX GX FM GM w f H locs _ hw.2.2 h (lv_sub hl [2, 3, 4, 5, 6] rfl)
theorem lkw_124 : LkW RL 124 yL_purse cL_purse 5 [(0, 10, 13, 22)] 4 := ⟨by decide +kernel, tb_in 769 (by decide +kernel) rfl, tb_in 770 (by decide +kernel) rfl, tb_in 40 (by decide +kernel) rfl, tb_in 771 (by decide +kernel) rfl⟩
set_option maxHeartbeats 4000000 in
set_option maxRecDepth 100000 in
theorem lawc_18 {p : Program} {l : Launch} {e : Env} {s : State} {m : MethodId} {args : Array Value} {below : List Frame} {meth : Method} {c : Code} {H : Heap} {locs : List Loc} {cells slots : Nat} {Z : State → Prop} {K : KT} {A : Nat → Prop} {ls : Array Slot} {o : Nat} {am ax : Nat → Nat} {I : IT} {b L j : Nat} {xs : Nat → Int32} (hst : l.stackTraces = false) (C : CX p s m args meth c K A cL_law_ 7 RL) (hX : va_X b L xs s s.heap) (hbl : b < s.heap.size) (hbA : ¬ A b) (hL : L ≤ 3072) (hj : j + 6 ≤ L) (hcs : cells + 1 ≤ room_1.cells ∧ slots + 6 ≤ room_1.slots) (hs : Stp_purse I) (FX : FT) (GX : GT) (FM : FT) (GM : GT) (w : Int64) (f : Nat → Int64) (hI : I FX GX FM GM w) (h : WD K A s (wL K o f am ax FX GX FM GM w) H locs) (hl : lv_has ls 7 [(0, .ref b), (1, .ref (ax 0)), (2, .ref (am 0)), (3, .ref o), (4, .int (nI j))]) (hk : ∀ (FX : FT) (GX : GT) (FM : FT) (GM : GT) (w : Int64) (f : Nat → Int64) (H : Heap) (locs : List Loc) (ls : Array Slot), I FX GX FM GM w → WD K A s (wL K o f am ax FX GX FM GM w) H locs → lv_has ls 7 [(0, .ref b), (1, .ref (ax 0)), (2, .ref (am 0)), (3, .ref o), (4, .int (nI j))] → W p l e room_1 s m args below meth c H locs (cells + 1) (slots + 6) Z (F0 m 1170 ls [])) : W p l e room_1 s m args below meth c H locs cells slots Z (F0 m 929 ls []) := by
  have hx := C.1
  have hb := C.2.1
  have hw := hs FX GX FM GM w hI (xs (j + 1)) (xs (j + 2)) f
  refine lv_aload_n hx hb dL_law__929 rfl (lv_at hl 1 rfl) ?_
  refine scr (k := 1) hx hb hX hbl hbA h.2.2 hl (i0 := 0) (i4 := 4) rfl rfl hj hL (by decide) (by decide) dL_law__930 dL_law__931 dL_law__933 dL_law__934 dL_law__935 ?_
  refine scr (k := 2) hx hb hX hbl hbA h.2.2 hl (i0 := 0) (i4 := 4) rfl rfl hj hL (by decide) (by decide) dL_law__936 dL_law__937 dL_law__939 dL_law__940 dL_law__941 ?_
  refine lv_aload_n hx hb dL_law__942 rfl (lv_at hl 3 rfl) ?_
  refine lcw C h (c_L_purse hst (xs (j + 1)) (xs (j + 2)) FX GX f (QW := fun k FX GX f => wp_X8_purse (xs (j + 1)) (xs (j + 2)) FM GM w (PT I FX GX k f)) hw) lkw_124 rfl hl.1 rfl (Nat.le_of_ble_eq_true rfl) ⟨Nat.le_of_ble_eq_true rfl, Nat.le_of_ble_eq_true rfl⟩ hcs dL_law__943 (fun k FX GX f H locs hw h => ?_)
  refine lv_istore (lv' := [(5, .int k), (0, .ref b), (1, .ref (ax 0)), (2, .ref (am 0)), (3, .ref o), (4, .int (nI j))]) hx hb dL_law__946 hl (by decide) rfl (fun ls hl => ?_)
  refine lv_aload_n hx hb dL_law__948 rfl (lv_at hl 3 rfl) ?_
  refine scr (k := 1) hx hb hX hbl hbA h.2.2 hl (i0 := 1) (i4 := 5) rfl rfl hj hL (by decide) (by decide) dL_law__949 dL_law__950 dL_law__952 dL_law__953 dL_law__954 ?_
  refine scr (k := 2) hx hb hX hbl hbA h.2.2 hl (i0 := 1) (i4 := 5) rfl rfl hj hL (by decide) (by decide) dL_law__955 dL_law__956 dL_law__958 dL_law__959 dL_law__960 ?_
  refine lcm C h (c_X8_purse (xs (j + 1)) (xs (j + 2)) FM GM w hw) lk_L_126 rfl hl.1 rfl (Nat.le_of_ble_eq_true rfl) ⟨Nat.le_of_ble_eq_true rfl, Nat.le_of_ble_eq_true rfl⟩ ⟨hcs.1, hcs.2⟩ dL_law__961 (fun r2 FM GM w H locs hw h => ?_)
  refine lv_istore (lv' := [(6, .int r2), (5, .int k), (0, .ref b), (1, .ref (ax 0)), (2, .ref (am 0)), (3, .ref o), (4, .int (nI j))]) hx hb dL_law__964 hl (by decide) rfl (fun ls hl => ?_)
  refine lv_aload_n hx hb dL_law__966 rfl (lv_at hl 4 rfl) ?_
  refine lcm C h (c_X8_thrown FM GM w (Q := fun t FM1 GM1 w1 => t = k ∧ (k = 0 → f 0 = r2.toInt64) ∧ I FX GX FM1 GM1 w1) hw) lk_L_60 rfl hl.1 rfl (Nat.le_of_ble_eq_true rfl) ⟨Nat.le_of_ble_eq_true rfl, Nat.le_of_ble_eq_true rfl⟩ ⟨hcs.1, hcs.2⟩ dL_law__967 (fun t FM GM w H locs hw h => ?_)
  refine lv_iload hx hb dL_law__970 (lv_at hl 1 rfl) ?_
  refine lv_icmp_eq (tgt := 977) hx hb dL_law__972 (by decide) (fun c => ?_) (fun c => absurd hw.1 c)
  refine lv_iload hx hb dL_law__977 (lv_at hl 1 rfl) ?_
  refine lv_if_ne (tgt := 994) hx hb dL_law__979 (by decide) (fun c => ?_) (fun c => ?_)
  · refine lv_goto (tgt := 1170) hx hb dL_law__994 (by decide) ?_
    exact hk FX GX FM GM w f H locs _ hw.2.2 h (lv_sub hl [2, 3, 4, 5, 6] rfl)
  · refine lv_aload_n hx hb dL_law__982 rfl (lv_at hl 5 rfl) ?_
    refine lv_iconst (v := 0) hx hb dL_law__983 (by decide) ?_
    refine x_lald (w2 := wM K am FM GM w ++ wX K ax FX GX) C (WD.eqw (List.append_assoc _ _ _) h) in_0 dL_law__984 ?_
    refine lv_iload hx hb dL_law__985 (lv_at hl 0 rfl) ?_
    refine lv_i2l hx hb dL_law__987 rfl ?_
    refine W.lcmp hx hb dL_law__988 ?_
    have e0 : lg_cmp (f (0 : Int32).toNatClampNeg) r2.toInt64 = 0 := by rw [show f (0 : Int32).toNatClampNeg = r2.toInt64 from hw.2.1 c]; exact lg_self _
    refine lv_if_eq (tgt := 994) hx hb dL_law__989 (by decide) (fun c => ?_) (fun c => absurd e0 c)
    refine lv_goto (tgt := 1170) hx hb dL_law__994 (by decide) ?_
    exact hk FX GX FM GM w f H locs _ hw.2.2 h (lv_sub hl [2, 3, 4, 5, 6] rfl)
theorem lkw_127 : LkW RL 127 yL_debt cL_debt 5 [(0, 10, 13, 22)] 4 := ⟨by decide +kernel, tb_in 786 (by decide +kernel) rfl, tb_in 787 (by decide +kernel) rfl, tb_in 40 (by decide +kernel) rfl, tb_in 788 (by decide +kernel) rfl⟩
set_option maxHeartbeats 4000000 in
set_option maxRecDepth 100000 in
theorem lawc_19 {p : Program} {l : Launch} {e : Env} {s : State} {m : MethodId} {args : Array Value} {below : List Frame} {meth : Method} {c : Code} {H : Heap} {locs : List Loc} {cells slots : Nat} {Z : State → Prop} {K : KT} {A : Nat → Prop} {ls : Array Slot} {o : Nat} {am ax : Nat → Nat} {I : IT} {b L j : Nat} {xs : Nat → Int32} (hst : l.stackTraces = false) (C : CX p s m args meth c K A cL_law_ 7 RL) (hX : va_X b L xs s s.heap) (hbl : b < s.heap.size) (hbA : ¬ A b) (hL : L ≤ 3072) (hj : j + 6 ≤ L) (hcs : cells + 1 ≤ room_1.cells ∧ slots + 6 ≤ room_1.slots) (hs : Stp_debt I) (FX : FT) (GX : GT) (FM : FT) (GM : GT) (w : Int64) (f : Nat → Int64) (hI : I FX GX FM GM w) (h : WD K A s (wL K o f am ax FX GX FM GM w) H locs) (hl : lv_has ls 7 [(0, .ref b), (1, .ref (ax 0)), (2, .ref (am 0)), (3, .ref o), (4, .int (nI j))]) (hk : ∀ (FX : FT) (GX : GT) (FM : FT) (GM : GT) (w : Int64) (f : Nat → Int64) (H : Heap) (locs : List Loc) (ls : Array Slot), I FX GX FM GM w → WD K A s (wL K o f am ax FX GX FM GM w) H locs → lv_has ls 7 [(0, .ref b), (1, .ref (ax 0)), (2, .ref (am 0)), (3, .ref o), (4, .int (nI j))] → W p l e room_1 s m args below meth c H locs (cells + 1) (slots + 6) Z (F0 m 1170 ls [])) : W p l e room_1 s m args below meth c H locs cells slots Z (F0 m 997 ls []) := by
  have hx := C.1
  have hb := C.2.1
  have hw := hs FX GX FM GM w hI (xs (j + 1)) (xs (j + 2)) f
  refine lv_aload_n hx hb dL_law__997 rfl (lv_at hl 1 rfl) ?_
  refine scr (k := 1) hx hb hX hbl hbA h.2.2 hl (i0 := 0) (i4 := 4) rfl rfl hj hL (by decide) (by decide) dL_law__998 dL_law__999 dL_law__1001 dL_law__1002 dL_law__1003 ?_
  refine scr (k := 2) hx hb hX hbl hbA h.2.2 hl (i0 := 0) (i4 := 4) rfl rfl hj hL (by decide) (by decide) dL_law__1004 dL_law__1005 dL_law__1007 dL_law__1008 dL_law__1009 ?_
  refine lv_aload_n hx hb dL_law__1010 rfl (lv_at hl 3 rfl) ?_
  refine lcw C h (c_L_debt hst (xs (j + 1)) (xs (j + 2)) FX GX f (QW := fun k FX GX f => wp_X8_debt (xs (j + 1)) (xs (j + 2)) FM GM w (PT I FX GX k f)) hw) lkw_127 rfl hl.1 rfl (Nat.le_of_ble_eq_true rfl) ⟨Nat.le_of_ble_eq_true rfl, Nat.le_of_ble_eq_true rfl⟩ hcs dL_law__1011 (fun k FX GX f H locs hw h => ?_)
  refine lv_istore (lv' := [(5, .int k), (0, .ref b), (1, .ref (ax 0)), (2, .ref (am 0)), (3, .ref o), (4, .int (nI j))]) hx hb dL_law__1014 hl (by decide) rfl (fun ls hl => ?_)
  refine lv_aload_n hx hb dL_law__1016 rfl (lv_at hl 3 rfl) ?_
  refine scr (k := 1) hx hb hX hbl hbA h.2.2 hl (i0 := 1) (i4 := 5) rfl rfl hj hL (by decide) (by decide) dL_law__1017 dL_law__1018 dL_law__1020 dL_law__1021 dL_law__1022 ?_
  refine scr (k := 2) hx hb hX hbl hbA h.2.2 hl (i0 := 1) (i4 := 5) rfl rfl hj hL (by decide) (by decide) dL_law__1023 dL_law__1024 dL_law__1026 dL_law__1027 dL_law__1028 ?_
  refine lcm C h (c_X8_debt (xs (j + 1)) (xs (j + 2)) FM GM w hw) lk_L_129 rfl hl.1 rfl (Nat.le_of_ble_eq_true rfl) ⟨Nat.le_of_ble_eq_true rfl, Nat.le_of_ble_eq_true rfl⟩ ⟨hcs.1, hcs.2⟩ dL_law__1029 (fun r2 FM GM w H locs hw h => ?_)
  refine lv_istore (lv' := [(6, .int r2), (5, .int k), (0, .ref b), (1, .ref (ax 0)), (2, .ref (am 0)), (3, .ref o), (4, .int (nI j))]) hx hb dL_law__1032 hl (by decide) rfl (fun ls hl => ?_)
  refine lv_aload_n hx hb dL_law__1034 rfl (lv_at hl 4 rfl) ?_
  refine lcm C h (c_X8_thrown FM GM w (Q := fun t FM1 GM1 w1 => t = k ∧ (k = 0 → f 0 = r2.toInt64) ∧ I FX GX FM1 GM1 w1) hw) lk_L_60 rfl hl.1 rfl (Nat.le_of_ble_eq_true rfl) ⟨Nat.le_of_ble_eq_true rfl, Nat.le_of_ble_eq_true rfl⟩ ⟨hcs.1, hcs.2⟩ dL_law__1035 (fun t FM GM w H locs hw h => ?_)
  refine lv_iload hx hb dL_law__1038 (lv_at hl 1 rfl) ?_
  refine lv_icmp_eq (tgt := 1045) hx hb dL_law__1040 (by decide) (fun c => ?_) (fun c => absurd hw.1 c)
  refine lv_iload hx hb dL_law__1045 (lv_at hl 1 rfl) ?_
  refine lv_if_ne (tgt := 1062) hx hb dL_law__1047 (by decide) (fun c => ?_) (fun c => ?_)
  · refine lv_goto (tgt := 1170) hx hb dL_law__1062 (by decide) ?_
    exact hk FX GX FM GM w f H locs _ hw.2.2 h (lv_sub hl [2, 3, 4, 5, 6] rfl)
  · refine lv_aload_n hx hb dL_law__1050 rfl (lv_at hl 5 rfl) ?_
    refine lv_iconst (v := 0) hx hb dL_law__1051 (by decide) ?_
    refine x_lald (w2 := wM K am FM GM w ++ wX K ax FX GX) C (WD.eqw (List.append_assoc _ _ _) h) in_0 dL_law__1052 ?_
    refine lv_iload hx hb dL_law__1053 (lv_at hl 0 rfl) ?_
    refine lv_i2l hx hb dL_law__1055 rfl ?_
    refine W.lcmp hx hb dL_law__1056 ?_
    have e0 : lg_cmp (f (0 : Int32).toNatClampNeg) r2.toInt64 = 0 := by rw [show f (0 : Int32).toNatClampNeg = r2.toInt64 from hw.2.1 c]; exact lg_self _
    refine lv_if_eq (tgt := 1062) hx hb dL_law__1057 (by decide) (fun c => ?_) (fun c => absurd e0 c)
    refine lv_goto (tgt := 1170) hx hb dL_law__1062 (by decide) ?_
    exact hk FX GX FM GM w f H locs _ hw.2.2 h (lv_sub hl [2, 3, 4, 5, 6] rfl)
theorem lkw_130 : LkW RL 130 yL_hand cL_hand 6 [(0, 12, 15, 22)] 5 := ⟨by decide +kernel, tb_in 795 (by decide +kernel) rfl, tb_in 796 (by decide +kernel) rfl, tb_in 40 (by decide +kernel) rfl, tb_in 797 (by decide +kernel) rfl⟩
set_option maxHeartbeats 4000000 in
set_option maxRecDepth 100000 in
theorem lawc_20 {p : Program} {l : Launch} {e : Env} {s : State} {m : MethodId} {args : Array Value} {below : List Frame} {meth : Method} {c : Code} {H : Heap} {locs : List Loc} {cells slots : Nat} {Z : State → Prop} {K : KT} {A : Nat → Prop} {ls : Array Slot} {o : Nat} {am ax : Nat → Nat} {I : IT} {b L j : Nat} {xs : Nat → Int32} (hst : l.stackTraces = false) (C : CX p s m args meth c K A cL_law_ 7 RL) (hX : va_X b L xs s s.heap) (hbl : b < s.heap.size) (hbA : ¬ A b) (hL : L ≤ 3072) (hj : j + 6 ≤ L) (hcs : cells + 1 ≤ room_1.cells ∧ slots + 6 ≤ room_1.slots) (hs : Stp_hand I) (FX : FT) (GX : GT) (FM : FT) (GM : GT) (w : Int64) (f : Nat → Int64) (hI : I FX GX FM GM w) (h : WD K A s (wL K o f am ax FX GX FM GM w) H locs) (hl : lv_has ls 7 [(0, .ref b), (1, .ref (ax 0)), (2, .ref (am 0)), (3, .ref o), (4, .int (nI j))]) (hk : ∀ (FX : FT) (GX : GT) (FM : FT) (GM : GT) (w : Int64) (f : Nat → Int64) (H : Heap) (locs : List Loc) (ls : Array Slot), I FX GX FM GM w → WD K A s (wL K o f am ax FX GX FM GM w) H locs → lv_has ls 7 [(0, .ref b), (1, .ref (ax 0)), (2, .ref (am 0)), (3, .ref o), (4, .int (nI j))] → W p l e room_1 s m args below meth c H locs (cells + 1) (slots + 6) Z (F0 m 1170 ls [])) : W p l e room_1 s m args below meth c H locs cells slots Z (F0 m 1065 ls []) := by
  have hx := C.1
  have hb := C.2.1
  have hw := hs FX GX FM GM w hI (xs (j + 1)) (xs (j + 2)) (xs (j + 3)) f
  refine lv_aload_n hx hb dL_law__1065 rfl (lv_at hl 1 rfl) ?_
  refine scr (k := 1) hx hb hX hbl hbA h.2.2 hl (i0 := 0) (i4 := 4) rfl rfl hj hL (by decide) (by decide) dL_law__1066 dL_law__1067 dL_law__1069 dL_law__1070 dL_law__1071 ?_
  refine scr (k := 2) hx hb hX hbl hbA h.2.2 hl (i0 := 0) (i4 := 4) rfl rfl hj hL (by decide) (by decide) dL_law__1072 dL_law__1073 dL_law__1075 dL_law__1076 dL_law__1077 ?_
  refine scr (k := 3) hx hb hX hbl hbA h.2.2 hl (i0 := 0) (i4 := 4) rfl rfl hj hL (by decide) (by decide) dL_law__1078 dL_law__1079 dL_law__1081 dL_law__1082 dL_law__1083 ?_
  refine lv_aload_n hx hb dL_law__1084 rfl (lv_at hl 3 rfl) ?_
  refine lcw C h (c_L_hand hst (xs (j + 1)) (xs (j + 2)) (xs (j + 3)) FX GX f (QW := fun k FX GX f => wp_X8_hand (xs (j + 1)) (xs (j + 2)) (xs (j + 3)) FM GM w (PT I FX GX k f)) hw) lkw_130 rfl hl.1 rfl (Nat.le_of_ble_eq_true rfl) ⟨Nat.le_of_ble_eq_true rfl, Nat.le_of_ble_eq_true rfl⟩ hcs dL_law__1085 (fun k FX GX f H locs hw h => ?_)
  refine lv_istore (lv' := [(5, .int k), (0, .ref b), (1, .ref (ax 0)), (2, .ref (am 0)), (3, .ref o), (4, .int (nI j))]) hx hb dL_law__1088 hl (by decide) rfl (fun ls hl => ?_)
  refine lv_aload_n hx hb dL_law__1090 rfl (lv_at hl 3 rfl) ?_
  refine scr (k := 1) hx hb hX hbl hbA h.2.2 hl (i0 := 1) (i4 := 5) rfl rfl hj hL (by decide) (by decide) dL_law__1091 dL_law__1092 dL_law__1094 dL_law__1095 dL_law__1096 ?_
  refine scr (k := 2) hx hb hX hbl hbA h.2.2 hl (i0 := 1) (i4 := 5) rfl rfl hj hL (by decide) (by decide) dL_law__1097 dL_law__1098 dL_law__1100 dL_law__1101 dL_law__1102 ?_
  refine scr (k := 3) hx hb hX hbl hbA h.2.2 hl (i0 := 1) (i4 := 5) rfl rfl hj hL (by decide) (by decide) dL_law__1103 dL_law__1104 dL_law__1106 dL_law__1107 dL_law__1108 ?_
  refine lcm C h (c_X8_hand (xs (j + 1)) (xs (j + 2)) (xs (j + 3)) FM GM w hw) lk_L_132 rfl hl.1 rfl (Nat.le_of_ble_eq_true rfl) ⟨Nat.le_of_ble_eq_true rfl, Nat.le_of_ble_eq_true rfl⟩ ⟨hcs.1, hcs.2⟩ dL_law__1109 (fun r2 FM GM w H locs hw h => ?_)
  refine lv_istore (lv' := [(6, .int r2), (5, .int k), (0, .ref b), (1, .ref (ax 0)), (2, .ref (am 0)), (3, .ref o), (4, .int (nI j))]) hx hb dL_law__1112 hl (by decide) rfl (fun ls hl => ?_)
  refine lv_aload_n hx hb dL_law__1114 rfl (lv_at hl 4 rfl) ?_
  refine lcm C h (c_X8_thrown FM GM w (Q := fun t FM1 GM1 w1 => t = k ∧ (k = 0 → f 0 = r2.toInt64) ∧ I FX GX FM1 GM1 w1) hw) lk_L_60 rfl hl.1 rfl (Nat.le_of_ble_eq_true rfl) ⟨Nat.le_of_ble_eq_true rfl, Nat.le_of_ble_eq_true rfl⟩ ⟨hcs.1, hcs.2⟩ dL_law__1115 (fun t FM GM w H locs hw h => ?_)
  refine lv_iload hx hb dL_law__1118 (lv_at hl 1 rfl) ?_
  refine lv_icmp_eq (tgt := 1125) hx hb dL_law__1120 (by decide) (fun c => ?_) (fun c => absurd hw.1 c)
  refine lv_iload hx hb dL_law__1125 (lv_at hl 1 rfl) ?_
  refine lv_if_ne (tgt := 1142) hx hb dL_law__1127 (by decide) (fun c => ?_) (fun c => ?_)
  · refine lv_goto (tgt := 1170) hx hb dL_law__1142 (by decide) ?_
    exact hk FX GX FM GM w f H locs _ hw.2.2 h (lv_sub hl [2, 3, 4, 5, 6] rfl)
  · refine lv_aload_n hx hb dL_law__1130 rfl (lv_at hl 5 rfl) ?_
    refine lv_iconst (v := 0) hx hb dL_law__1131 (by decide) ?_
    refine x_lald (w2 := wM K am FM GM w ++ wX K ax FX GX) C (WD.eqw (List.append_assoc _ _ _) h) in_0 dL_law__1132 ?_
    refine lv_iload hx hb dL_law__1133 (lv_at hl 0 rfl) ?_
    refine lv_i2l hx hb dL_law__1135 rfl ?_
    refine W.lcmp hx hb dL_law__1136 ?_
    have e0 : lg_cmp (f (0 : Int32).toNatClampNeg) r2.toInt64 = 0 := by rw [show f (0 : Int32).toNatClampNeg = r2.toInt64 from hw.2.1 c]; exact lg_self _
    refine lv_if_eq (tgt := 1142) hx hb dL_law__1137 (by decide) (fun c => ?_) (fun c => absurd e0 c)
    refine lv_goto (tgt := 1170) hx hb dL_law__1142 (by decide) ?_
    exact hk FX GX FM GM w f H locs _ hw.2.2 h (lv_sub hl [2, 3, 4, 5, 6] rfl)
set_option maxHeartbeats 4000000 in
set_option maxRecDepth 100000 in
theorem lawc_21 {p : Program} {l : Launch} {e : Env} {s : State} {m : MethodId} {args : Array Value} {below : List Frame} {meth : Method} {c : Code} {H : Heap} {locs : List Loc} {cells slots : Nat} {Z : State → Prop} {K : KT} {A : Nat → Prop} {ls : Array Slot} {o : Nat} {am ax : Nat → Nat} {I : IT} {b L j : Nat} {xs : Nat → Int32} (hst : l.stackTraces = false) (C : CX p s m args meth c K A cL_law_ 7 RL) (hX : va_X b L xs s s.heap) (hbl : b < s.heap.size) (hbA : ¬ A b) (hL : L ≤ 3072) (hj : j + 6 ≤ L) (hcs : cells + 1 ≤ room_1.cells ∧ slots + 6 ≤ room_1.slots) (hs : Stp_count I) (FX : FT) (GX : GT) (FM : FT) (GM : GT) (w : Int64) (f : Nat → Int64) (hI : I FX GX FM GM w) (h : WD K A s (wL K o f am ax FX GX FM GM w) H locs) (hl : lv_has ls 7 [(0, .ref b), (1, .ref (ax 0)), (2, .ref (am 0)), (3, .ref o), (4, .int (nI j))]) (hk : ∀ (FX : FT) (GX : GT) (FM : FT) (GM : GT) (w : Int64) (f : Nat → Int64) (H : Heap) (locs : List Loc) (ls : Array Slot), I FX GX FM GM w → WD K A s (wL K o f am ax FX GX FM GM w) H locs → lv_has ls 7 [(0, .ref b), (1, .ref (ax 0)), (2, .ref (am 0)), (3, .ref o), (4, .int (nI j))] → W p l e room_1 s m args below meth c H locs (cells + 1) (slots + 6) Z (F0 m 1170 ls [])) : W p l e room_1 s m args below meth c H locs cells slots Z (F0 m 1145 ls []) := by
  have hx := C.1
  have hb := C.2.1
  have hw := hs FX GX FM GM w hI (xs (j + 1)) 
  refine lv_aload_n hx hb dL_law__1145 rfl (lv_at hl 1 rfl) ?_
  refine scr (k := 1) hx hb hX hbl hbA h.2.2 hl (i0 := 0) (i4 := 4) rfl rfl hj hL (by decide) (by decide) dL_law__1146 dL_law__1147 dL_law__1149 dL_law__1150 dL_law__1151 ?_
  refine lcx C h (c_X7_count (xs (j + 1)) FX GX hw) lk_L_133 rfl hl.1 rfl (Nat.le_of_ble_eq_true rfl) ⟨Nat.le_of_ble_eq_true rfl, Nat.le_of_ble_eq_true rfl⟩ ⟨Nat.le_of_succ_le hcs.1, Nat.le_trans (Nat.le_add_right _ 6) hcs.2⟩ dL_law__1152 (fun r FX GX H locs hw h => ?_)
  refine lv_aload_n hx hb dL_law__1155 rfl (lv_at hl 2 rfl) ?_
  refine scr (k := 1) hx hb hX hbl hbA h.2.2 hl (i0 := 0) (i4 := 4) rfl rfl hj hL (by decide) (by decide) dL_law__1156 dL_law__1157 dL_law__1159 dL_law__1160 dL_law__1161 ?_
  refine lcm C h (c_X8_count (xs (j + 1)) FM GM w hw) lk_L_136 rfl hl.1 rfl (Nat.le_of_ble_eq_true rfl) ⟨Nat.le_of_ble_eq_true rfl, Nat.le_of_ble_eq_true rfl⟩ ⟨Nat.le_of_succ_le hcs.1, Nat.le_trans (Nat.le_add_right _ 6) hcs.2⟩ dL_law__1162 (fun r2 FM GM w H locs hw h => ?_)
  refine lv_icmp_eq (tgt := 1170) hx hb dL_law__1165 (by decide) (fun c => ?_) (fun c => absurd hw.1 c)
  refine W.widen (k := cells + 1) (n := slots + 6) (by omega) (by omega) ?_
  exact hk FX GX FM GM w f H locs _ hw.2 h (lv_sub hl [0, 1, 2, 3, 4] rfl)
set_option maxHeartbeats 4000000 in
set_option maxRecDepth 100000 in
theorem law_loop {p : Program} {l : Launch} {e : Env} {s : State} {m : MethodId} {below : List Frame} {meth : Method} {c : Code} {K : KT} {o : Nat} {am ax : Nat → Nat} {I : IT} {b L : Nat} {xs : Nat → Int32} (hst : l.stackTraces = false) (hL : L ≤ 3072) (C : CX p s m #[Value.ref b] meth c K (fun q : Nat => s.heap.size ≤ q) cL_law_ 7 RL) (hr : meth.sig.returnType = ret) (hX : va_X b L xs s s.heap) (hbl : b < s.heap.size) (hs : StpAll I) :
    ∀ (n j it : Nat), j = 6 * it → j ≤ L + 5 → L < j + 6 * n → ∀ (FX : FT) (GX : GT) (FM : FT) (GM : GT) (w : Int64) (f : Nat → Int64) (H : Heap) (locs : List Loc) (ls : Array Slot), I FX GX FM GM w → WD K (fun q : Nat => s.heap.size ≤ q) s (wL K o f am ax FX GX FM GM w) H locs → lv_has ls 7 [(0, .ref b), (1, .ref (ax 0)), (2, .ref (am 0)), (3, .ref o), (4, .int (nI j))] → W p l e room_1 s m #[Value.ref b] below meth c H locs (149 + it) (7562 + 6 * it) (lw_Z below #[Value.ref b] s) (F0 m 23 ls []) := by
  have hbA : ¬ (fun q : Nat => s.heap.size ≤ q) b := Nat.not_le.mpr hbl
  have hx := C.1
  have hb := C.2.1
  have hlocks : meth.locks = false := C.2.2.2.2.2.2.2.2
  obtain ⟨hs0, hs1, hs2, hs3, hs4, hs5, hs6, hs7, hs8, hs9, hs10, hs11, hs12, hs13, hs14, hs15, hs16, hs17, hs18, hs19, hs20, hs21⟩ := hs
  have fin : ∀ (it : Nat) (H : Heap) (locs : List Loc) (ls : Array Slot), it ≤ 513 → va_S (fun q : Nat => s.heap.size ≤ q) s.heap H locs → W p l e room_1 s m #[Value.ref b] below meth c H locs (149 + it) (7562 + 6 * it) (lw_Z below #[Value.ref b] s) (F0 m 1176 ls []) := by
    intro it H locs ls hit hS
    refine lv_iconst (v := 1) hx hb dL_law__1176 (by decide) ?_
    refine va_forget (fun q hq => hS.2.2 q hq) ?_
    refine W.widen (k := 601024) (n := 7293034) (by omega) (by omega) ?_
    exact lw_ret hx hb hr hlocks dL_law__1177
  have head : ∀ (j it : Nat), j = 6 * it → j ≤ L + 5 → ∀ (H : Heap) (locs : List Loc) (ls : Array Slot), va_S (fun q : Nat => s.heap.size ≤ q) s.heap H locs → lv_has ls 7 [(0, .ref b), (1, .ref (ax 0)), (2, .ref (am 0)), (3, .ref o), (4, .int (nI j))] → (j + 6 ≤ L → W p l e room_1 s m #[Value.ref b] below meth c H locs (149 + it) (7562 + 6 * it) (lw_Z below #[Value.ref b] s) (F0 m 33 ls [])) → W p l e room_1 s m #[Value.ref b] below meth c H locs (149 + it) (7562 + 6 * it) (lw_Z below #[Value.ref b] s) (F0 m 23 ls []) := by
    intro j it hjt hjL H locs ls hS hl kk
    refine lv_iload hx hb dL_law__23 (lv_at hl 4 rfl) ?_
    refine lv_aload_n hx hb dL_law__25 rfl (lv_at hl 0 rfl) ?_
    refine va_slen hx hb hX hbl hbA hS dL_law__26 ?_
    refine lv_bipush (v := nI 6) hx hb dL_law__27 (by decide) ?_
    refine lv_isub hx hb dL_law__29 ?_
    refine lv_icmp_gt (tgt := 1176) hx hb dL_law__30 (by decide) (fun c => fin it H locs _ (by omega) hS) (fun c => kk ?_)
    have e1 : (Int32.ofNat L - nI 6).toInt = (L : Int) - 6 := pk_sub_toInt (by omega) (by omega)
    have e2 : (nI j).toInt = (j : Int) := nI_toInt (by omega)
    rw [Int32.lt_iff_toInt_lt, e1, e2] at c
    omega
  intro n
  induction n with
  | zero =>
    intro j it hjt hjL hn FX GX FM GM w f H locs ls hI h hl
    exact head j it hjt hjL H locs ls h.2.2 hl (fun hj => absurd hj (by omega))
  | succ n ih =>
    intro j it hjt hjL hn FX GX FM GM w f H locs ls hI h hl
    refine head j it hjt hjL H locs ls h.2.2 hl (fun hj => ?_)
    have hcs : 149 + it + 1 ≤ room_1.cells ∧ 7562 + 6 * it + 6 ≤ room_1.slots := ⟨show _ ≤ 601024 by omega, show _ ≤ 7293034 by omega⟩
    have back : ∀ (FX : FT) (GX : GT) (FM : FT) (GM : GT) (w : Int64) (f : Nat → Int64) (H : Heap) (locs : List Loc) (ls : Array Slot), I FX GX FM GM w → WD K (fun q : Nat => s.heap.size ≤ q) s (wL K o f am ax FX GX FM GM w) H locs → lv_has ls 7 [(0, .ref b), (1, .ref (ax 0)), (2, .ref (am 0)), (3, .ref o), (4, .int (nI j))] → W p l e room_1 s m #[Value.ref b] below meth c H locs (149 + it + 1) (7562 + 6 * it + 6) (lw_Z below #[Value.ref b] s) (F0 m 1170 ls []) := by
      intro FX GX FM GM w f H locs ls hI h hl
      refine lv_iinc (v := nI (j + 6)) (lv' := [(4, .int (nI (j + 6))), (0, .ref b), (1, .ref (ax 0)), (2, .ref (am 0)), (3, .ref o)]) hx hb dL_law__1170 hl (k := 4) rfl (nI_add j 6) (by decide) rfl (fun ls hl => ?_)
      refine lv_goto (tgt := 23) hx hb dL_law__1173 (by decide) ?_
      exact ih (j + 6) (it + 1) (by omega) (by omega) (by omega) FX GX FM GM w f H locs ls hI h (lv_sub hl [1, 2, 3, 4, 0] rfl)
    refine lv_aload_n hx hb dL_law__33 rfl (lv_at hl 0 rfl) ?_
    refine lv_iload hx hb dL_law__34 (lv_at hl 4 rfl) ?_
    refine va_sld hx hb hX hbl hbA h.2.2 (vp_in_nI (by omega) (by omega)) dL_law__36 ?_
    rw [nI_clamp (by omega)]
    refine lv_bipush (v := 31) hx hb dL_law__37 (by decide) ?_
    refine lv_iand hx hb dL_law__39 ?_
    by_cases k0 : xs j &&& 31 = 0
    · refine lv_tableIn (tgt := 144) hx hb dL_law__40 (by rw [k0]; decide) (by rw [k0]; decide) (by rw [k0]; rfl) (by decide) ?_
      exact lawc_0 hst C hX hbl hbA hL hj hcs hs0 FX GX FM GM w f hI h hl back
    by_cases k1 : xs j &&& 31 = 1
    · refine lv_tableIn (tgt := 217) hx hb dL_law__40 (by rw [k1]; decide) (by rw [k1]; decide) (by rw [k1]; rfl) (by decide) ?_
      exact lawc_1 hst C hX hbl hbA hL hj hcs hs1 FX GX FM GM w f hI h hl back
    by_cases k2 : xs j &&& 31 = 2
    · refine lv_tableIn (tgt := 242) hx hb dL_law__40 (by rw [k2]; decide) (by rw [k2]; decide) (by rw [k2]; rfl) (by decide) ?_
      exact lawc_2 hst C hX hbl hbA hL hj hcs hs2 FX GX FM GM w f hI h hl back
    by_cases k3 : xs j &&& 31 = 3
    · refine lv_tableIn (tgt := 298) hx hb dL_law__40 (by rw [k3]; decide) (by rw [k3]; decide) (by rw [k3]; rfl) (by decide) ?_
      exact lawc_3 hst C hX hbl hbA hL hj hcs hs3 FX GX FM GM w f hI h hl back
    by_cases k4 : xs j &&& 31 = 4
    · refine lv_tableIn (tgt := 311) hx hb dL_law__40 (by rw [k4]; decide) (by rw [k4]; decide) (by rw [k4]; rfl) (by decide) ?_
      exact lawc_4 hst C hX hbl hbA hL hj hcs hs4 FX GX FM GM w f hI h hl back
    by_cases k5 : xs j &&& 31 = 5
    · refine lv_tableIn (tgt := 379) hx hb dL_law__40 (by rw [k5]; decide) (by rw [k5]; decide) (by rw [k5]; rfl) (by decide) ?_
      exact lawc_5 hst C hX hbl hbA hL hj hcs hs5 FX GX FM GM w f hI h hl back
    by_cases k6 : xs j &&& 31 = 6
    · refine lv_tableIn (tgt := 404) hx hb dL_law__40 (by rw [k6]; decide) (by rw [k6]; decide) (by rw [k6]; rfl) (by decide) ?_
      exact lawc_6 hst C hX hbl hbA hL hj hcs hs6 FX GX FM GM w f hI h hl back
    by_cases k7 : xs j &&& 31 = 7
    · refine lv_tableIn (tgt := 441) hx hb dL_law__40 (by rw [k7]; decide) (by rw [k7]; decide) (by rw [k7]; rfl) (by decide) ?_
      exact lawc_7 hst C hX hbl hbA hL hj hcs hs7 FX GX FM GM w f hI h hl back
    by_cases k8 : xs j &&& 31 = 8
    · refine lv_tableIn (tgt := 466) hx hb dL_law__40 (by rw [k8]; decide) (by rw [k8]; decide) (by rw [k8]; rfl) (by decide) ?_
      exact lawc_8 hst C hX hbl hbA hL hj hcs hs8 FX GX FM GM w f hI h hl back
    by_cases k9 : xs j &&& 31 = 9
    · refine lv_tableIn (tgt := 539) hx hb dL_law__40 (by rw [k9]; decide) (by rw [k9]; decide) (by rw [k9]; rfl) (by decide) ?_
      exact lawc_9 hst C hX hbl hbA hL hj hcs hs9 FX GX FM GM w f hI h hl back
    by_cases k10 : xs j &&& 31 = 10
    · refine lv_tableIn (tgt := 588) hx hb dL_law__40 (by rw [k10]; decide) (by rw [k10]; decide) (by rw [k10]; rfl) (by decide) ?_
      exact lawc_10 hst C hX hbl hbA hL hj hcs hs10 FX GX FM GM w f hI h hl back
    by_cases k11 : xs j &&& 31 = 11
    · refine lv_tableIn (tgt := 613) hx hb dL_law__40 (by rw [k11]; decide) (by rw [k11]; decide) (by rw [k11]; rfl) (by decide) ?_
      exact lawc_11 hst C hX hbl hbA hL hj hcs hs11 FX GX FM GM w f hI h hl back
    by_cases k12 : xs j &&& 31 = 12
    · refine lv_tableIn (tgt := 638) hx hb dL_law__40 (by rw [k12]; decide) (by rw [k12]; decide) (by rw [k12]; rfl) (by decide) ?_
      exact lawc_12 hst C hX hbl hbA hL hj hcs hs12 FX GX FM GM w f hI h hl back
    by_cases k13 : xs j &&& 31 = 13
    · refine lv_tableIn (tgt := 675) hx hb dL_law__40 (by rw [k13]; decide) (by rw [k13]; decide) (by rw [k13]; rfl) (by decide) ?_
      exact lawc_13 hst C hX hbl hbA hL hj hcs hs13 FX GX FM GM w f hI h hl back
    by_cases k14 : xs j &&& 31 = 14
    · refine lv_tableIn (tgt := 700) hx hb dL_law__40 (by rw [k14]; decide) (by rw [k14]; decide) (by rw [k14]; rfl) (by decide) ?_
      exact lawc_14 hst C hX hbl hbA hL hj hcs hs14 FX GX FM GM w f hI h hl back
    by_cases k15 : xs j &&& 31 = 15
    · refine lv_tableIn (tgt := 713) hx hb dL_law__40 (by rw [k15]; decide) (by rw [k15]; decide) (by rw [k15]; rfl) (by decide) ?_
      exact lawc_15 hst C hX hbl hbA hL hj hcs hs15 FX GX FM GM w f hI h hl back
    by_cases k16 : xs j &&& 31 = 16
    · refine lv_tableIn (tgt := 781) hx hb dL_law__40 (by rw [k16]; decide) (by rw [k16]; decide) (by rw [k16]; rfl) (by decide) ?_
      exact lawc_16 hst C hX hbl hbA hL hj hcs hs16 FX GX FM GM w f hI h hl back
    by_cases k17 : xs j &&& 31 = 17
    · refine lv_tableIn (tgt := 861) hx hb dL_law__40 (by rw [k17]; decide) (by rw [k17]; decide) (by rw [k17]; rfl) (by decide) ?_
      exact lawc_17 hst C hX hbl hbA hL hj hcs hs17 FX GX FM GM w f hI h hl back
    by_cases k18 : xs j &&& 31 = 18
    · refine lv_tableIn (tgt := 929) hx hb dL_law__40 (by rw [k18]; decide) (by rw [k18]; decide) (by rw [k18]; rfl) (by decide) ?_
      exact lawc_18 hst C hX hbl hbA hL hj hcs hs18 FX GX FM GM w f hI h hl back
    by_cases k19 : xs j &&& 31 = 19
    · refine lv_tableIn (tgt := 997) hx hb dL_law__40 (by rw [k19]; decide) (by rw [k19]; decide) (by rw [k19]; rfl) (by decide) ?_
      exact lawc_19 hst C hX hbl hbA hL hj hcs hs19 FX GX FM GM w f hI h hl back
    by_cases k20 : xs j &&& 31 = 20
    · refine lv_tableIn (tgt := 1065) hx hb dL_law__40 (by rw [k20]; decide) (by rw [k20]; decide) (by rw [k20]; rfl) (by decide) ?_
      exact lawc_20 hst C hX hbl hbA hL hj hcs hs20 FX GX FM GM w f hI h hl back
    by_cases k21 : xs j &&& 31 = 21
    · refine lv_tableIn (tgt := 1145) hx hb dL_law__40 (by rw [k21]; decide) (by rw [k21]; decide) (by rw [k21]; rfl) (by decide) ?_
      exact lawc_21 hst C hX hbl hbA hL hj hcs hs21 FX GX FM GM w f hI h hl back
    refine lv_tableOut (tgt := 1170) hx hb dL_law__40 (by have n0 := lv_neT k0 (a := 0) (by decide); have n1 := lv_neT k1 (a := 1) (by decide); have n2 := lv_neT k2 (a := 2) (by decide); have n3 := lv_neT k3 (a := 3) (by decide); have n4 := lv_neT k4 (a := 4) (by decide); have n5 := lv_neT k5 (a := 5) (by decide); have n6 := lv_neT k6 (a := 6) (by decide); have n7 := lv_neT k7 (a := 7) (by decide); have n8 := lv_neT k8 (a := 8) (by decide); have n9 := lv_neT k9 (a := 9) (by decide); have n10 := lv_neT k10 (a := 10) (by decide); have n11 := lv_neT k11 (a := 11) (by decide); have n12 := lv_neT k12 (a := 12) (by decide); have n13 := lv_neT k13 (a := 13) (by decide); have n14 := lv_neT k14 (a := 14) (by decide); have n15 := lv_neT k15 (a := 15) (by decide); have n16 := lv_neT k16 (a := 16) (by decide); have n17 := lv_neT k17 (a := 17) (by decide); have n18 := lv_neT k18 (a := 18) (by decide); have n19 := lv_neT k19 (a := 19) (by decide); have n20 := lv_neT k20 (a := 20) (by decide); have n21 := lv_neT k21 (a := 21) (by decide); omega) (by decide) ?_
    refine W.widen (k := 149 + it + 1) (n := 7562 + 6 * it + 6) (by omega) (by omega) ?_
    exact back FX GX FM GM w f H locs ls hI h hl
