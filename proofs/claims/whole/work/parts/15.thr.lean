/-! exceptions that leave a method of the class -/
def exN : List String := ["java/lang/Exception"]
def exY : String := "java/lang/RuntimeException"
def thrB (cls : String) : List Cond := [.declares (Bundle.initS "java/lang/RuntimeException"), .declares (Bundle.initS "java/lang/Exception"), .declares (Bundle.initS Bundle.tN), .castable cls cls]
/-- what a throw of cls by the constructor link ic and the class link ik needs of the tables -/
def ThrF (cls : String) (ik ic i1 : Nat) (b1 : ByteArray) : Prop := Cond.classLink RX7 ik cls ∈ TB ∧ Cond.initialized cls ∈ TB ∧ Bundle.fit cls = true ∧ cls ∈ casL ∧ (∀ w ∈ (nsAt RX7 ic cls exY exN i1 b1).filter goodWord, w ∈ TB) ∧ (∀ w ∈ (nsAt RX7 ic cls exY exN i1 b1).filter (fun w => !goodWord w), w ∈ thrB cls) ∧ (∀ w ∈ Cond.classLink RX7 ik cls :: Cond.initialized cls :: nsAt RX7 ic cls exY exN i1 b1, vx_ot w = true) ∧ decode b1 0 = .ok (.aload_n 0, 1) ∧ decode b1 1 = .ok (.aload_n 1, 1) ∧ decode b1 2 = .ok (.invokespecial i1, 3) ∧ decode b1 5 = .ok (.return_, 1)
theorem thrF_1 : ThrF "java/lang/IndexOutOfBoundsException" 76 80 7 prog_12_method_2_code := ⟨tb_in 524 (by decide +kernel) rfl, tb_in 53 (by decide +kernel) rfl, by decide +kernel, by decide +kernel, fun w hw => List.mem_filter.mpr ⟨(show ∀ w ∈ (nsAt RX7 80 "java/lang/IndexOutOfBoundsException" exY exN 7 prog_12_method_2_code).filter goodWord, w ∈ lw_tbl by decide +kernel) w hw, (List.mem_filter.mp hw).2⟩, by decide +kernel, by decide +kernel, by decide +kernel, by decide +kernel, by decide +kernel, by decide +kernel⟩
theorem thrF_2 : ThrF "java/util/NoSuchElementException" 203 207 13 prog_19_method_4_code := ⟨tb_in 725 (by decide +kernel) rfl, tb_in 59 (by decide +kernel) rfl, by decide +kernel, by decide +kernel, fun w hw => List.mem_filter.mpr ⟨(show ∀ w ∈ (nsAt RX7 207 "java/util/NoSuchElementException" exY exN 13 prog_19_method_4_code).filter goodWord, w ∈ lw_tbl by decide +kernel) w hw, (List.mem_filter.mp hw).2⟩, by decide +kernel, by decide +kernel, by decide +kernel, by decide +kernel, by decide +kernel, by decide +kernel⟩
def ThrCode (cc : ByteArray) (cls : String) (pc : Nat) : Prop := ∃ (ik is ic i1 lw : Nat) (b1 : ByteArray) (text : String), ThrF cls ik ic i1 b1 ∧ (is, text) ∈ sMsg ∧ decode cc pc = .ok (.new ik, 3) ∧ decode cc (pc + 3) = .ok (.dup, 1) ∧
  ((lw = 2 ∧ decode cc (pc + 4) = .ok (.ldc is, 2)) ∨ (lw = 3 ∧ decode cc (pc + 4) = .ok (.ldc_w is, 3))) ∧ decode cc (pc + 4 + lw) = .ok (.invokespecial ic, 3) ∧ decode cc (pc + 4 + lw + 3) = .ok (.athrow, 1)
def ThrX (p : Program) (l : Launch) (e : Env) (R : Room) (s : State) (m : MethodId) (args : Array Value) (below : List Frame) (meth : Method) (c : Code) (K : KT) (A : Nat → Prop) (Z : State → Prop) (a : Nat → Nat) (cc : ByteArray) (nL : Nat) (cls : String) (QX : FT → GT → Prop) : Prop := ∀ (F : FT) (G : GT) (H : Heap) (locs : List Loc) (ls : Array Slot) (pc : Nat), ThrCode cc cls pc → WD K A s (wX K a F G) H locs → ls.size = nL → QX F G → W p l e R s m args below meth c H locs 0 0 Z (F0 m pc ls [])
def XCX (K : KT) (a : Nat → Nat) (cls : String) (QX : FT → GT → Prop) (A : Nat → Prop) : String → State → State → Prop := vx_X (fun (u : FT × GT) => QX u.1 u.2) (fun E u t => E = cls ∧ PstW K A (wX K a u.1 u.2) t) A
abbrev rmT (fr lo : Nat) : Room := { frames := fr, cells := 1, slots := 6, locals := lo }
def CtXt (l : Launch) (K : KT) (a : Nat → Nat) (y : MethodName) (bytes : ByteArray) (maxL : Nat) (ret : Option FieldType) (fr lo : Nat) (As : List Value) (F : FT) (G : GT) (Q : Int32 → FT → GT → Prop) (cls : String) (QX : FT → GT → Prop) : Prop := ∀ sz : Nat, vx_Met l y (.code y bytes maxL ret :: TB) (rmT fr lo) (va_Pc As (PreW K (wX K a F G) sz)) (QmXi K a Q (va_A (wX K a F G) sz)) (XCX K a cls QX (va_A (wX K a F G) sz)) 1 6 (va_A (wX K a F G) sz)
section THR
variable {p : Program} {l : Launch} {e : Env} {R : Room} {s : State} {m : MethodId} {args : Array Value} {below : List Frame} {meth : Method} {c : Code}
variable {K : KT} {A : Nat → Prop} {cc : ByteArray} {nL : Nat} {a : Nat → Nat} {Qc : Array Value → State → Outcome → State → Prop}
theorem thr_ok {cls : String} {QX : FT → GT → Prop} (C : CX p s m args meth c K A cc nL RX7) (hst : l.stackTraces = false) (htab : ∀ x ∈ c.exceptionTable.toList, False) (hR : 6 ≤ R.frames ∧ 82 ≤ R.locals ∧ 1 ≤ R.cells ∧ 6 ≤ R.slots) :
    ThrX p l e R s m args below meth c K A (vx_MQ below Qc (XCX K a cls QX A) args s 1 6 A) a cc nL cls QX := by
  intro F G H locs ls pc hc h hsz hq
  obtain ⟨ik, is, ic, i1, lw, b1, text, ⟨f1, f2, f3, f4, f5, f6, f7, g0, g1, g2, g5⟩, hm, d0, d3, d4, d6, d9⟩ := hc
  obtain ⟨hx, hb, hml, hown, hts, hK, hA, hE, hlk⟩ := C
  obtain ⟨-, -, hmsg, -, -, -, hU, hN, -, hdec, hcas, -⟩ := hE
  obtain ⟨sa, hsa⟩ := hmsg _ hm
  have hat : ∀ w ∈ nsAt RX7 ic cls exY exN i1 b1, w.before args s = true := vx_hat (fun w hw => hts w (f5 w hw)) f6 (fun w hw => by
    simp only [thrB, List.mem_cons, List.not_mem_nil, or_false] at hw
    rcases hw with rfl | rfl | rfl | rfl
    · exact va_Nw.use rfl (hdec _ (by simp [decL]))
    · exact va_Nw.use rfl (hdec _ (by simp [decL]))
    · exact va_Nw.use rfl (hdec _ (by simp [decL]))
    · exact va_Nw.use rfl (hcas _ f4))
  have hxc : ∀ t : State, s.vm.Alike t.vm → H.size ≤ t.heap.size → (∀ q : Nat, q < H.size → t.heap[q]? = H[q]?) → XCX K a cls QX A cls s t := fun t _ hz hk => ⟨(F, G), hq, ⟨rfl, h.1.kept (fun k q hkq => hk q.1 (h.1 k q hkq).lt), h.2.1⟩, Nat.le_trans h.2.2.1 hz, fun q h1 h2 => (hk q (Nat.lt_of_lt_of_le h1 h.2.2.1)).trans (h.2.2.2.1 q h1 h2)⟩
  have hout : ∀ (x : ExceptionTableEntry), x ∈ c.exceptionTable.toList → ∀ n, covers x n = false := fun x hx9 => (htab x hx9).elim
  exact ns_throw hx hb hst lw g0 g1 g2 g5 hown f3 (by decide) (by decide) (hts _ f1) (hts _ f2) hsa hat f7 hU hN h.2.2 (hsz.trans hml.symm) d0 d3 d4 d6 d9 (fun x hx9 => hout x hx9 _) (by show 1 + 4 < _; omega) (by show 0 + (13 * (1 + 2) + 43) ≤ _; omega) (by omega) (by omega) hlk hxc h.2.2.2.2 (Nat.le_refl _) (Nat.le_refl _)
theorem retX_t {Q : Int32 → FT → GT → Prop} {XC : String → State → State → Prop} (C : CX p s m args meth c K A cc nL RX7) (hr : meth.sig.returnType = some .int) : RetXi p l e R s m args below meth c K A (vx_MQ below (QmXi K a Q A) XC args s 1 6 A) a cc Q :=
  fun r F G H locs ls pc hdg h hq => vx_ret (W.widen (k := 1) (n := 6) (Nat.zero_le _) (Nat.zero_le _) (x_reti (wf := fun (u : FT × GT) => wX K a u.1 u.2) (u := (F, G)) (Q := fun r u => Q r u.1 u.2) C hr rfl h hq hdg))
end THR
theorem x_metT {l : Launch} {K : KT} {y : MethodName} {cc : ByteArray} {nL fr lo sz : Nat} {ret : Option FieldType} {As : List Value} {ws : va_W} {Qm : (Nat → Prop) → Array Value → State → Outcome → State → Prop} {XC : (Nat → Prop) → String → State → State → Prop} (hy : plainName y.cls = true) (hlen : (lg_sl As).length ≤ nL)
    (body : ∀ (p : Program) (e : Env) (s : State) (m : MethodId) (below : List Frame) (meth : Method) (c : Code) (A : Nat → Prop) (ls : Array Slot), CX p s m As.toArray meth c K A cc nL y.cls → meth.sig.returnType = ret → (∀ x ∈ c.exceptionTable.toList, False) → WD K A s ws s.heap [] → lv_has ls nL (lv_args 0 As) → W p l e (rmT fr lo) s m As.toArray below meth c s.heap [] 0 0 (vx_MQ below (Qm A) (XC A) As.toArray s 1 6 A) (F0 m 0 ls [])) :
    vx_Met l y (.code y cc nL ret :: TB) (rmT fr lo) (va_Pc As (PreW K ws sz)) (Qm (va_A ws sz)) (XC (va_A ws sz)) 1 6 (va_A ws sz) := by
  refine vx_ofW (cc := cc) (maxL := nL) (ret := ret) hy rfl ?_
  intro p e s m args below meth c s₁ B hml htab hv
  obtain ⟨rfl, hsz, hP, hK, hD0, hE⟩ := hv
  subst hsz
  have hts := atoms_spec (ws := .code y cc nL ret :: TB) B.pre
  have hown : s.vm.findClass y.cls = some m.cls := findClass_of_methodNamed B.named
  have hD := hD0.self (sz := s.heap.size)
  have hl := lv_entry As (n := nL) hlen
  rw [lg_entry_eq]
  exact body p e s m below meth c (va_A ws s.heap.size) _ ⟨B.exec, B.bytes, hml, hown, fun w hw => hts w (List.mem_cons_of_mem _ hw), hK, fun q h => Or.inr h, hE, B.notSynchronized⟩ B.returns htab ⟨hP, hD, va_S.rf⟩ hl
theorem tc_X7_law_7 : ThrCode cX7_law "java/lang/IndexOutOfBoundsException" 7 := ⟨76, 78, 80, 7, 2, prog_12_method_2_code, "no such land", thrF_1, by decide +kernel, dX7_law_7, dX7_law_10, Or.inl ⟨rfl, dX7_law_11⟩, dX7_law_13, dX7_law_16⟩
theorem tc_X7_rule_7 : ThrCode cX7_rule "java/lang/IndexOutOfBoundsException" 7 := ⟨76, 78, 80, 7, 2, prog_12_method_2_code, "no such land", thrF_1, by decide +kernel, dX7_rule_7, dX7_rule_10, Or.inl ⟨rfl, dX7_rule_11⟩, dX7_rule_13, dX7_rule_16⟩
theorem tc_X7_about_11 : ThrCode cX7_about "java/util/NoSuchElementException" 11 := ⟨203, 205, 207, 13, 2, prog_19_method_4_code, "no such horse", thrF_2, by decide +kernel, dX7_about_11, dX7_about_14, Or.inl ⟨rfl, dX7_about_15⟩, dX7_about_17, dX7_about_20⟩
theorem tc_X7_about_103 : ThrCode cX7_about "java/util/NoSuchElementException" 103 := ⟨203, 217, 207, 13, 2, prog_19_method_4_code, "no such answer about a horse", thrF_2, by decide +kernel, dX7_about_103, dX7_about_106, Or.inl ⟨rfl, dX7_about_107⟩, dX7_about_109, dX7_about_112⟩
theorem tc_X7_fault_18 : ThrCode cX7_fault "java/util/NoSuchElementException" 18 := ⟨203, 219, 207, 13, 2, prog_19_method_4_code, "no such horse or fault", thrF_2, by decide +kernel, dX7_fault_18, dX7_fault_21, Or.inl ⟨rfl, dX7_fault_22⟩, dX7_fault_24, dX7_fault_27⟩
theorem tc_X7_fault_80 : ThrCode cX7_fault "java/util/NoSuchElementException" 80 := ⟨203, 221, 207, 13, 2, prog_19_method_4_code, "no such answer about a fault", thrF_2, by decide +kernel, dX7_fault_80, dX7_fault_83, Or.inl ⟨rfl, dX7_fault_84⟩, dX7_fault_86, dX7_fault_89⟩
theorem tc_X7_sale_15 : ThrCode cX7_sale "java/util/NoSuchElementException" 15 := ⟨203, 223, 207, 13, 2, prog_19_method_4_code, "no such sale", thrF_2, by decide +kernel, dX7_sale_15, dX7_sale_18, Or.inl ⟨rfl, dX7_sale_19⟩, dX7_sale_21, dX7_sale_24⟩
theorem tc_X7_sale_160 : ThrCode cX7_sale "java/util/NoSuchElementException" 160 := ⟨203, 250, 207, 13, 2, prog_19_method_4_code, "no such answer about a sale", thrF_2, by decide +kernel, dX7_sale_160, dX7_sale_163, Or.inl ⟨rfl, dX7_sale_164⟩, dX7_sale_166, dX7_sale_169⟩
theorem tc_X7_purse_11 : ThrCode cX7_purse "java/util/NoSuchElementException" 11 := ⟨203, 252, 207, 13, 2, prog_19_method_4_code, "no such person", thrF_2, by decide +kernel, dX7_purse_11, dX7_purse_14, Or.inl ⟨rfl, dX7_purse_15⟩, dX7_purse_17, dX7_purse_20⟩
theorem tc_X7_purse_130 : ThrCode cX7_purse "java/util/NoSuchElementException" 130 := ⟨203, 267, 207, 13, 3, prog_19_method_4_code, "no such answer about a person", thrF_2, by decide +kernel, dX7_purse_130, dX7_purse_133, Or.inr ⟨rfl, dX7_purse_134⟩, dX7_purse_137, dX7_purse_140⟩
theorem tc_X7_debt_15 : ThrCode cX7_debt "java/util/NoSuchElementException" 15 := ⟨203, 272, 207, 13, 3, prog_19_method_4_code, "no such debt", thrF_2, by decide +kernel, dX7_debt_15, dX7_debt_18, Or.inr ⟨rfl, dX7_debt_19⟩, dX7_debt_22, dX7_debt_25⟩
theorem tc_X7_debt_96 : ThrCode cX7_debt "java/util/NoSuchElementException" 96 := ⟨203, 280, 207, 13, 3, prog_19_method_4_code, "no such answer about a debt", thrF_2, by decide +kernel, dX7_debt_96, dX7_debt_99, Or.inr ⟨rfl, dX7_debt_100⟩, dX7_debt_103, dX7_debt_106⟩
theorem tc_X7_hand_17 : ThrCode cX7_hand "java/util/NoSuchElementException" 17 := ⟨203, 285, 207, 13, 3, prog_19_method_4_code, "no such hand", thrF_2, by decide +kernel, dX7_hand_17, dX7_hand_20, Or.inr ⟨rfl, dX7_hand_21⟩, dX7_hand_24, dX7_hand_27⟩
theorem tc_X7_hand_89 : ThrCode cX7_hand "java/util/NoSuchElementException" 89 := ⟨203, 294, 207, 13, 3, prog_19_method_4_code, "no such answer about a hand", thrF_2, by decide +kernel, dX7_hand_89, dX7_hand_92, Or.inr ⟨rfl, dX7_hand_93⟩, dX7_hand_96, dX7_hand_99⟩
