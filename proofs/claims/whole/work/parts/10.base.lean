/-! my own base: one table of words for all methods, worlds, contracts, rows -/
def TB : List Cond := lw_tbl.filter goodWord
theorem tb_in {w : Cond} (i : Nat) (h : lw_tbl[i]? = some w) (g : goodWord w = true) : w ∈ TB := List.mem_filter.mpr ⟨List.mem_of_getElem? h, g⟩
theorem tb_good (w : Cond) (h : w ∈ TB) : goodWord w = true := (List.mem_filter.mp h).2
theorem tb_all {args : Array Value} {s : State} (h : ∀ w ∈ lw_tbl, w.before args s = true) : ∀ w ∈ TB, w.before args s = true := fun w hw => h w (List.mem_filter.mp hw).1
theorem gi_of {ws : List Cond} (h : ∀ w ∈ ws, w ∈ TB) : GoodIn TB ws := fun w hw => ⟨h w hw, good_of_word (tb_good w (h w hw))⟩
theorem gi_cons {c : Cond} {ws : List Cond} (h : c ∈ TB) (t : ∀ w ∈ ws, w ∈ TB) : ∀ w ∈ c :: ws, w ∈ TB := fun w hw => (List.mem_cons.mp hw).elim (fun e => by rw [e]; exact h) (t w)
theorem gi_tb : ∀ w ∈ TB, w ∈ TB := fun _ h => h
abbrev FT : Type := Nat → Int32
abbrev GT : Type := Nat → Nat → Int32
abbrev KT : Type := (Nat → ClassId) × (Nat → Nat → Nat) × (Nat → ClassId) × (Nat → Nat) × (Nat → Nat)
abbrev kD (K : KT) : va_G := (K.1, K.2.1)
abbrev kt (K : KT) : List (ClassId × FieldType) := [(K.2.2.1 0, .int), (K.2.2.1 1, .byte), (K.2.2.1 2, .boolean), (K.2.2.1 3, .array .int), (K.2.2.1 4, .long)]
def sU (F : FT) (k : Nat) (v : Int32) : FT := fun j => bif Nat.beq j k then v else F j
def gU (G : GT) (k : Nat) (f : Nat → Int32) : GT := fun j => bif Nat.beq j k then f else G j
theorem beq_no {j k : Nat} (h : j ≠ k) : Nat.beq j k = false := by
  cases hb : Nat.beq j k with
  | false => rfl
  | true => exact absurd (Nat.eq_of_beq_eq_true hb) h
theorem sU_same (F : FT) (k : Nat) (v : Int32) : sU F k v k = v := by simp [sU]
theorem sU_ne (F : FT) {k j : Nat} (v : Int32) (h : j ≠ k) : sU F k v j = F j := by
  show (bif Nat.beq j k then v else F j) = F j
  rw [beq_no h]; rfl
theorem gU_same (G : GT) (k : Nat) (f : Nat → Int32) : gU G k f k = f := by simp [gU]
theorem gU_ne (G : GT) {k j : Nat} (f : Nat → Int32) (h : j ≠ k) : gU G k f j = G j := by
  show (bif Nat.beq j k then f else G j) = G j
  rw [beq_no h]; rfl
/-! what lies outside the worlds: the texts, statics -/
def sLen : List Nat := [4, 4, 4, 7]
def sByt : List (List Int32) := [[116, 111, 108, 108], [111, 112, 101, 110], [100, 97, 121, 115], [119, 97, 114, 114, 97, 110, 116]]
def sMsg : List (Nat × String) := [(78, "no such land"), (205, "no such horse"), (217, "no such answer about a horse"), (219, "no such horse or fault"), (221, "no such answer about a fault"), (223, "no such sale"), (250, "no such answer about a sale"), (252, "no such person"), (267, "no such answer about a person"), (272, "no such debt"), (280, "no such answer about a debt"), (285, "no such hand"), (294, "no such answer about a hand")]
def nestL : List (String × Nat × MethodName) := [(RX7, 9, yX6_init), (RX7, 18, yX3_init), (RX7, 25, yX2_init), (RX7, 32, yX4_init), (RX7, 39, yX1_init), (RX7, 46, yX0_init), (RX7, 53, yX5_init), (RX3, 100, yX7_isFault)]
def decL : List MethodName := [Bundle.initS "java/lang/RuntimeException", Bundle.initS "java/lang/Exception", Bundle.initS Bundle.tN]
def casL : List String := ["java/lang/IndexOutOfBoundsException", "java/util/NoSuchElementException"]
def EX (K : KT) (A : Nat → Prop) (U : State) (H : Heap) : Prop :=
  vk_S 4 sLen sByt K.2.2.2.1 K.2.2.2.2 A U H ∧
  (vk_R RX3 103 "toll" (K.2.2.2.1 0) U ∧ vk_R RX3 109 "open" (K.2.2.2.1 1) U ∧ vk_R RX3 111 "days" (K.2.2.2.1 2) U ∧ vk_R RX3 113 "warrant" (K.2.2.2.1 3) U) ∧
  (∀ q ∈ sMsg, ∃ sa : Nat, vk_R RX7 q.1 q.2 sa U) ∧
  va_Z "java/lang/String" "COMPACT_STRINGS" "Z" (.int 1) A U H ∧
  va_Zq "jdk/internal/util/Preconditions" "SIOOBE_FORMATTER" "Ljava/util/function/BiFunction;" A U H ∧
  (va_Z RX8 "TOLL_WORD" "J" (.long 404931) A U H ∧ va_Z RX8 "OPEN_WORD" "J" (.long 307058) A U H ∧ va_Z RX8 "DAYS_WORD" "J" (.long 80155) A U H ∧ va_Z RX8 "WARRANT_WORD" "J" (.long 8934941513) A U H) ∧
  vx_Zq Bundle.tN "UNASSIGNED_STACK" Bundle.steD A U H ∧ vx_Zq Bundle.tN "SUPPRESSED_SENTINEL" Bundle.listD A U H ∧ (∀ q ∈ nestL, va_Nw (.methodLinkNest q.1 q.2.1 q.2.2 RX7) U) ∧ (∀ q ∈ decL, va_Nw (.declares q) U) ∧ (∀ q ∈ casL, va_Nw (.castable q q) U) ∧ va_AOA .int U
theorem EX.moved {K : KT} {A : Nat → Prop} {u U : State} {H : Heap} (hW : u.WarmedH U.vm) (h : EX K A u H) : EX K A U H := by
  obtain ⟨h1, ⟨a0, a1, a2, a3⟩, h3, h4, h5, ⟨b0, b1, b2, b3⟩, h7, h8, h9, h10, h11, h12⟩ := h
  exact ⟨h1.moved hW.alike, ⟨a0.warm hW, a1.warm hW, a2.warm hW, a3.warm hW⟩, fun q hq => (h3 q hq).elim (fun sa z => ⟨sa, z.warm hW⟩), h4.moved hW.alike, h5.moved hW.alike, ⟨b0.moved hW.alike, b1.moved hW.alike, b2.moved hW.alike, b3.moved hW.alike⟩, h7.moved hW.alike, h8.moved hW.alike, fun q hq => va_Nw.warmM hW (h9 q hq), fun q hq => va_Nw.warmD hW (h10 q hq), fun q hq => va_Nw.warmC hW (h11 q hq), over_moved (a := #[]) (a' := #[]) hW.alike h12⟩
theorem EX.same {K : KT} {A : Nat → Prop} {u U : State} {H : Heap} (hv : U.vm = u.vm) (h : EX K A u H) : EX K A U H := by
  obtain ⟨h1, ⟨a0, a1, a2, a3⟩, h3, h4, h5, ⟨b0, b1, b2, b3⟩, h7, h8, h9, h10, h11, h12⟩ := h
  have hW : u.vm.Alike U.vm := by rw [hv]; exact Vm.Alike.refl u.vm
  exact ⟨h1.moved hW, ⟨a0.same hv, a1.same hv, a2.same hv, a3.same hv⟩, fun q hq => (h3 q hq).elim (fun sa z => ⟨sa, z.same hv⟩), h4.moved hW, h5.moved hW, ⟨b0.moved hW, b1.moved hW, b2.moved hW, b3.moved hW⟩, h7.moved hW, h8.moved hW, fun q hq => va_Nw.same rfl hv.symm (h9 q hq), fun q hq => va_Nw.same rfl hv.symm (h10 q hq), fun q hq => va_Nw.same rfl hv.symm (h11 q hq), over_moved (a := #[]) (a' := #[]) hW h12⟩
theorem EX.kept {K : KT} {A : Nat → Prop} {U : State} {H H1 : Heap} (h : EX K A U H) (hq : ∀ a : Nat, a < H.size → ¬ A a → H1[a]? = H[a]?) : EX K A U H1 := by
  obtain ⟨h1, h2, h3, h4, h5, ⟨b0, b1, b2, b3⟩, h7, h8, h9, h10, h11, h12⟩ := h
  exact ⟨h1.kept hq, h2, h3, h4.kept hq, h5.kept hq, ⟨b0.kept hq, b1.kept hq, b2.kept hq, b3.kept hq⟩, h7.kept hq, h8.kept hq, h9, h10, h11, h12⟩
theorem EX.narrow {K : KT} {A B : Nat → Prop} {U : State} {H : Heap} (h : EX K A U H) (hAB : ∀ q, B q → A q) : EX K B U H := by
  obtain ⟨h1, h2, h3, h4, h5, ⟨b0, b1, b2, b3⟩, h7, h8, h9, h10, h11, h12⟩ := h
  exact ⟨h1.narrow hAB, h2, h3, h4.narrow hAB, h5.narrow hAB, ⟨b0.narrow hAB, b1.narrow hAB, b2.narrow hAB, b3.narrow hAB⟩, h7.narrow hAB, h8.narrow hAB, h9, h10, h11, h12⟩
/-! a method's start and end over a world -/
def PreW (K : KT) (ws : va_W) (sz : Nat) (U : State) : Prop := U.heap.size = sz ∧ va_P (kD K) vwCl ws U.heap ∧ va_K (kD K) vwCl (kt K) U ∧ va_D (fun _ => True) ws ∧ EX K (va_A ws sz) U U.heap
def PstW (K : KT) (A : Nat → Prop) (ws : va_W) (t : State) : Prop := va_P (kD K) vwCl ws t.heap ∧ va_D A ws
def CX (p : Program) (s : State) (m : MethodId) (args : Array Value) (meth : Method) (c : Code) (K : KT) (A : Nat → Prop) (cc : ByteArray) (nL : Nat) (own : String) : Prop :=
  p.tables.exec = Jvm.exec ∧ c.code = cc ∧ c.maxLocals = nL ∧ s.vm.findClass own = some m.cls ∧ (∀ w ∈ TB, w.before args s = true) ∧ va_K (kD K) vwCl (kt K) s ∧ (∀ q, s.heap.size ≤ q → A q) ∧ EX K A s s.heap ∧ meth.locks = false
def WD (K : KT) (A : Nat → Prop) (s : State) (ws : va_W) (H : Heap) (locs : List Loc) : Prop := va_P (kD K) vwCl ws H ∧ va_D A ws ∧ va_S A s.heap H locs
theorem preW_blind {K : KT} {As : List Value} {ws : va_W} {sz : Nat} : FrameBlind (va_Pc As (PreW K ws sz)) := by
  intro a U g mk q
  obtain ⟨q0, q1, qP, qK, qD, qE⟩ := q
  exact ⟨q0, q1, qP, va_K.moved (u := U) (U := U.calling g mk a) (Vm.Alike.refl U.vm) qK, qD, EX.same (u := U) (U := U.calling g mk a) rfl qE⟩
section BASE
variable {p : Program} {l : Launch} {e : Env} {R : Room} {s : State} {m : MethodId} {args : Array Value} {below : List Frame} {meth : Method} {c : Code} {H : Heap} {locs : List Loc} {cells slots : Nat} {Z : State → Prop}
variable {K : KT} {A : Nat → Prop} {cc : ByteArray} {nL : Nat} {own : String} {ws : va_W} {pc : Nat} {ls : Array Slot} {rest : List Value}
theorem WD.free (C : CX p s m args meth c K A cc nL own) (h : WD K A s ws H locs) : ∀ q, va_A ws H.size q → A q := by
  intro q hq
  obtain ⟨-, -, -, -, -, -, hA, -, -⟩ := C
  rcases hq with ⟨k, e, hk⟩ | hq
  · exact h.2.1.2 k (q, e) hk
  · exact hA q (Nat.le_trans h.2.2.1 hq)
theorem WD.pre (C : CX p s m args meth c K A cc nL own) (h : WD K A s ws H locs) (U : State) (hU : U.heap = H) (hW : s.WarmedH U.vm) : PreW K ws H.size U := by
  have hf := WD.free C h
  obtain ⟨-, -, -, -, -, hK, -, hE, -⟩ := C
  refine ⟨by rw [hU], by rw [hU]; exact h.1, va_K.moved hW.alike hK, h.2.1.weaken (fun _ _ _ _ => trivial), ?_⟩
  rw [hU]
  exact ((hE.kept h.2.2.2.1).moved hW).narrow hf
/-! fields -/
def FLd (own : String) (idx ci k : Nat) : Prop := ∃ (C : String) (T : u_T) (N : Nat), vwCl[ci]? = some (C, T, N) ∧ (∀ w ∈ u_ws C T N, w ∈ TB) ∧ k < N ∧ Cond.fieldLink own idx (T k).1 (T k).2.1 (T k).2.2.1 ∈ TB
def FPd (own : String) (idx ci k : Nat) (ty : FieldType) : Prop := ∃ (C : String) (T : u_T) (N : Nat) (ty0 : Nat → FieldType), vwCl[ci]? = some (C, T, N) ∧ (∀ w ∈ u_ws C T N, w ∈ TB) ∧ k < N ∧ Cond.fieldLink own idx (T k).1 (T k).2.1 (T k).2.2.1 ∈ TB ∧ (∀ k, k < N → parseFieldDescriptor (T k).2.2.1 = some (ty0 k)) ∧ (∀ a, a < N → ∀ b, b < N → a ≠ b → (T a).2.1 ≠ (T b).2.1) ∧ (T k).2.2.2 = false ∧ parseFieldDescriptor (T k).2.2.1 = some ty
theorem x_get {q0 ad ci k idx : Nat} {fs : List Value} {v : Value} (C : CX p s m args meth c K A cc nL own) (h : WD K A s ws H locs) (he : ws[q0]? = some (ad, .inr (ci, fs))) (fl : FLd own idx ci k) (hv : fs[k]? = some v) (hdg : decode cc pc = .ok (.getfield idx, 3))
    (kk : W p l e R s m args below meth c H locs cells slots Z (F0 m (pc + 3) ls (v :: rest))) : W p l e R s m args below meth c H locs cells slots Z (F0 m pc ls (.ref ad :: rest)) := by
  obtain ⟨hx, hb, -, hown, hts, hK, -⟩ := C
  obtain ⟨Cn, T, N, hc, hin, hk, hlk⟩ := fl
  exact va_get hx hb hts hin hown hK h.1 q0 he hc k hk (hts _ hlk) (fun _ h9 => h9) hv hdg kk
theorem x_put {q0 ad ci k idx : Nat} {fs : List Value} {v : Value} {ty : FieldType} {ws1 : va_W} (C : CX p s m args meth c K A cc nL own) (h : WD K A s ws H locs) (he : ws[q0]? = some (ad, .inr (ci, fs))) (fl : FPd own idx ci k ty) (hn : narrow ty v = v) (hfit : fits ty v = true) (hl : k < fs.length) (hw : ws.set q0 (ad, .inr (ci, fs.set k v)) = ws1) (hdg : decode cc pc = .ok (.putfield idx, 3))
    (kk : ∀ (H1 : Heap) (locs1 : List Loc), WD K A s ws1 H1 locs1 → W p l e R s m args below meth c H1 locs1 cells slots Z (F0 m (pc + 3) ls rest)) : W p l e R s m args below meth c H locs cells slots Z (F0 m pc ls (v :: .ref ad :: rest)) := by
  subst hw
  obtain ⟨hx, hb, -, hown, hts, hK, -⟩ := C
  obtain ⟨Cn, T, N, ty0, hc, hin, hk, hlk, hty, hnm, hfin, hd⟩ := fl
  exact va_put hx hb hts hin ty0 hty hnm hown hK h.1 h.2.1 h.2.2 q0 he hc k hk (hts _ hlk) (fun _ h9 => h9) hfin hd hn hfit hl hdg (fun H1 locs1 a b d => kk H1 locs1 ⟨a, b, d⟩)
/-! arrays -/
theorem x_iald {q0 ad n : Nat} {f : Nat → Int32} {i : Int32} (C : CX p s m args meth c K A cc nL own) (h : WD K A s ws H locs) (he : ws[q0]? = some (ad, .inl (K.2.2.1 0, n, .inl f))) (hin : vp_in i n) (hdg : decode cc pc = .ok (.iaload, 1))
    (kk : W p l e R s m args below meth c H locs cells slots Z (F0 m (pc + 1) ls (.int (f i.toNatClampNeg) :: rest))) : W p l e R s m args below meth c H locs cells slots Z (F0 m pc ls (.int i :: .ref ad :: rest)) := by
  obtain ⟨hx, hb, -, hown, hts, hK, -⟩ := C
  exact va_iald hx hb hK h.1 q0 0 he rfl hin hdg kk
theorem x_bald {q0 ad n : Nat} {f : Nat → Int32} {i : Int32} (C : CX p s m args meth c K A cc nL own) (h : WD K A s ws H locs) (he : ws[q0]? = some (ad, .inl (K.2.2.1 1, n, .inl f))) (hin : vp_in i n) (hdg : decode cc pc = .ok (.baload, 1))
    (kk : W p l e R s m args below meth c H locs cells slots Z (F0 m (pc + 1) ls (.int (f i.toNatClampNeg) :: rest))) : W p l e R s m args below meth c H locs cells slots Z (F0 m pc ls (.int i :: .ref ad :: rest)) := by
  obtain ⟨hx, hb, -, hown, hts, hK, -⟩ := C
  exact va_bald hx hb hK h.1 q0 1 he rfl hin hdg kk
theorem x_zald {q0 ad n : Nat} {f : Nat → Int32} {i : Int32} (C : CX p s m args meth c K A cc nL own) (h : WD K A s ws H locs) (he : ws[q0]? = some (ad, .inl (K.2.2.1 2, n, .inl f))) (hin : vp_in i n) (hdg : decode cc pc = .ok (.baload, 1))
    (kk : W p l e R s m args below meth c H locs cells slots Z (F0 m (pc + 1) ls (.int (f i.toNatClampNeg) :: rest))) : W p l e R s m args below meth c H locs cells slots Z (F0 m pc ls (.int i :: .ref ad :: rest)) := by
  obtain ⟨hx, hb, -, hown, hts, hK, -⟩ := C
  exact va_zald hx hb hK h.1 q0 2 he rfl hin hdg kk
theorem x_aald {q0 ad n : Nat} {f : Nat → Option Nat} {i : Int32} {v : Value} (C : CX p s m args meth c K A cc nL own) (h : WD K A s ws H locs) (he : ws[q0]? = some (ad, .inl (K.2.2.1 3, n, .inr (.inr (.inr (.inr f)))))) (hin : vp_in i n) (hv : va_rf (f i.toNatClampNeg) = v) (hdg : decode cc pc = .ok (.aaload, 1))
    (kk : W p l e R s m args below meth c H locs cells slots Z (F0 m (pc + 1) ls (v :: rest))) : W p l e R s m args below meth c H locs cells slots Z (F0 m pc ls (.int i :: .ref ad :: rest)) := by
  obtain ⟨hx, hb, -, hown, hts, hK, -⟩ := C
  have hlt : i.toNatClampNeg < n := Nat.not_le.mp fun q => hin (Or.inr q)
  subst hv
  exact W.aald (v := va_rf (f i.toNatClampNeg)) (ty := .array .int) hx hb (h.1 q0 _ he) ((hK.2 3 _ rfl).1 n (fun j => va_rf (f j))) rfl (fun q => by cases q) (by show ¬ (i < 0 ∨ (arrV _ _ _).slots.size ≤ _); rw [arrV_size]; exact hin) (by show (arrV _ _ _).slots[_]? = _; rw [arrV_read _ _ hlt]) rfl rfl hdg kk
theorem x_iast {q0 ad n : Nat} {f : Nat → Int32} {i x : Int32} {ws1 : va_W} (C : CX p s m args meth c K A cc nL own) (h : WD K A s ws H locs) (he : ws[q0]? = some (ad, .inl (K.2.2.1 0, n, .inl f))) (hin : vp_in i n) (hw : ws.set q0 (ad, .inl (K.2.2.1 0, n, .inl (upd f i.toNatClampNeg x))) = ws1) (hdg : decode cc pc = .ok (.iastore, 1))
    (kk : ∀ (H1 : Heap) (locs1 : List Loc), WD K A s ws1 H1 locs1 → W p l e R s m args below meth c H1 locs1 cells slots Z (F0 m (pc + 1) ls rest)) : W p l e R s m args below meth c H locs cells slots Z (F0 m pc ls (.int x :: .int i :: .ref ad :: rest)) := by
  subst hw
  obtain ⟨hx, hb, -, hown, hts, hK, -⟩ := C
  exact va_iast hx hb hK h.1 h.2.1 h.2.2 q0 0 he rfl hin hdg (fun H1 locs1 a b d => kk H1 locs1 ⟨a, b, d⟩)
theorem x_bast {q0 ad n : Nat} {f : Nat → Int32} {i x : Int32} {ws1 : va_W} (C : CX p s m args meth c K A cc nL own) (h : WD K A s ws H locs) (he : ws[q0]? = some (ad, .inl (K.2.2.1 1, n, .inl f))) (hin : vp_in i n) (hw : ws.set q0 (ad, .inl (K.2.2.1 1, n, .inl (upd f i.toNatClampNeg (vp_nar .byte x)))) = ws1) (hdg : decode cc pc = .ok (.bastore, 1))
    (kk : ∀ (H1 : Heap) (locs1 : List Loc), WD K A s ws1 H1 locs1 → W p l e R s m args below meth c H1 locs1 cells slots Z (F0 m (pc + 1) ls rest)) : W p l e R s m args below meth c H locs cells slots Z (F0 m pc ls (.int x :: .int i :: .ref ad :: rest)) := by
  subst hw
  obtain ⟨hx, hb, -, hown, hts, hK, -⟩ := C
  exact va_bast hx hb hK h.1 h.2.1 h.2.2 q0 1 he rfl hin hdg (fun H1 locs1 a b d => kk H1 locs1 ⟨a, b, d⟩)
theorem x_zast {q0 ad n : Nat} {f : Nat → Int32} {i x : Int32} {ws1 : va_W} (C : CX p s m args meth c K A cc nL own) (h : WD K A s ws H locs) (he : ws[q0]? = some (ad, .inl (K.2.2.1 2, n, .inl f))) (hin : vp_in i n) (hw : ws.set q0 (ad, .inl (K.2.2.1 2, n, .inl (upd f i.toNatClampNeg (vp_nar .boolean x)))) = ws1) (hdg : decode cc pc = .ok (.bastore, 1))
    (kk : ∀ (H1 : Heap) (locs1 : List Loc), WD K A s ws1 H1 locs1 → W p l e R s m args below meth c H1 locs1 cells slots Z (F0 m (pc + 1) ls rest)) : W p l e R s m args below meth c H locs cells slots Z (F0 m pc ls (.int x :: .int i :: .ref ad :: rest)) := by
  subst hw
  obtain ⟨hx, hb, -, hown, hts, hK, -⟩ := C
  exact va_zast hx hb hK h.1 h.2.1 h.2.2 q0 2 he rfl hin hdg (fun H1 locs1 a b d => kk H1 locs1 ⟨a, b, d⟩)
theorem x_alen {q0 ad n : Nat} {f : Nat → Int32} {v : Int32} (C : CX p s m args meth c K A cc nL own) (h : WD K A s ws H locs) (he : ws[q0]? = some (ad, .inl (K.2.2.1 0, n, .inl f))) (hv : Int32.ofNat n = v) (hdg : decode cc pc = .ok (.arraylength, 1))
    (kk : W p l e R s m args below meth c H locs cells slots Z (F0 m (pc + 1) ls (.int v :: rest))) : W p l e R s m args below meth c H locs cells slots Z (F0 m pc ls (.ref ad :: rest)) := by
  obtain ⟨hx, hb, -, hown, hts, hK, -⟩ := C
  exact va_alen hx hb hK h.1 q0 0 he rfl hv hdg kk
/-! calls -/
def LkV (own : String) (idx : Nat) (Cn : String) (y : MethodName) (bytes : ByteArray) (maxL : Nat) (ret : Option FieldType) (n : Nat) : Prop :=
  (y.cls = Cn ∧ y.cls ≠ "java/lang/invoke/MethodHandle" ∧ y.cls ≠ "java/lang/invoke/VarHandle" ∧ (parseMethodDescriptor y.desc).map (fun d => d.parameters.length) = some n) ∧ Cond.methodLink own idx y ∈ TB ∧ Cond.instanceMethod y ∈ TB ∧ Cond.selects Cn y y ∈ TB ∧ Cond.initialized Cn ∈ TB ∧ Cond.code y bytes maxL ret ∈ TB
def LkS (own : String) (idx : Nat) (y : MethodName) (bytes : ByteArray) (maxL : Nat) (ret : Option FieldType) (n : Nat) : Prop :=
  (y.cls = own ∧ y.cls ≠ "java/lang/invoke/MethodHandle" ∧ y.cls ≠ "java/lang/invoke/VarHandle" ∧ (parseMethodDescriptor y.desc).map (fun d => d.parameters.length) = some n) ∧ Cond.methodLink own idx y ∈ TB ∧ Cond.static y ∈ TB ∧ Cond.initialized own ∈ TB ∧ Cond.code y bytes maxL ret ∈ TB
def LkN (own : String) (idx : Nat) (host : String) (y : MethodName) (bytes : ByteArray) (maxL : Nat) (ret : Option FieldType) (n : Nat) : Prop :=
  (y.cls ≠ "java/lang/invoke/MethodHandle" ∧ y.cls ≠ "java/lang/invoke/VarHandle" ∧ (parseMethodDescriptor y.desc).map (fun d => d.parameters.length) = some n) ∧ ((own, idx, y) ∈ nestL ∧ host = RX7) ∧ Cond.static y ∈ TB ∧ Cond.initialized y.cls ∈ TB ∧ Cond.code y bytes maxL ret ∈ TB
abbrev rmK (fr lo : Nat) : Room := { frames := fr, cells := 0, slots := 0, locals := lo }
theorem x_runV {y : MethodName} {bytes : ByteArray} {maxL fr lo idx n b : Nat} {ret : Option FieldType} {Cn : String} {As st : List Value} {Qc : Array Value → State → Outcome → State → Prop} (C : CX p s m args meth c K A cc nL own) (h : WD K A s ws H locs)
    (hM : Met l y (.code y bytes maxL ret :: TB) (rmK fr lo) (va_Pc (.ref b :: As) (PreW K ws H.size)) Qc 0 0 (va_A ws H.size)) (k : LkV own idx Cn y bytes maxL ret n)
    (hrv : ∃ (q0 ci : Nat) (fs : List Value) (q : vw_C), ws[q0]? = some (b, .inr (ci, fs)) ∧ vwCl[ci]? = some q ∧ q.1 = Cn) (hn : As.length = n) (hsz : ls.size = nL) (hst : st = As.reverse ++ .ref b :: rest) (hW : (rest.map fun v => v.category).sum ≤ 8)
    (hR : fr + 1 ≤ R.frames ∧ 8 + (maxL + 11) + lo ≤ R.locals) (hcs : cells ≤ R.cells ∧ slots ≤ R.slots) (hdg : decode cc pc = .ok (.invokevirtual idx, 3)) :
    va_Run p l e R s m args below meth c H locs cells slots 0 0 (F0 m pc ls st) rest (Qc (Value.ref b :: As).toArray) (va_A ws H.size) := by
  have hpre := WD.pre C h
  obtain ⟨hx, hb, hml, hown, hts, hK, hA, hE, hlk⟩ := C
  obtain ⟨hd, k1, k2, k3, k4, k5⟩ := k
  obtain ⟨q0, ci, fs, q, r1, r2, r3⟩ := hrv
  subst r3
  refine va_runV (As := As) (rest := rest) (Ts := TB) ⟨hx, hb, hml, hown, hts⟩ hM (cwV n hts (gi_of ?_) rfl rfl rfl hd hR) ⟨preW_blind, va_recv hK h.1 r2 r1, fun U hU hW => ⟨rfl, hpre U hU hW⟩⟩ rfl hn hsz hst (lv_room hW) hdg hcs
  exact gi_cons k1 (gi_cons k2 (gi_cons k3 (gi_cons k4 (gi_cons k5 gi_tb))))
theorem x_runS {y : MethodName} {bytes : ByteArray} {maxL fr lo idx n : Nat} {ret : Option FieldType} {As st : List Value} {Qc : Array Value → State → Outcome → State → Prop} (C : CX p s m args meth c K A cc nL own) (h : WD K A s ws H locs)
    (hM : Met l y (.code y bytes maxL ret :: TB) (rmK fr lo) (va_Pc As (PreW K ws H.size)) Qc 0 0 (va_A ws H.size)) (k : LkS own idx y bytes maxL ret n)
    (hn : As.length = n) (hsz : ls.size = nL) (hst : st = As.reverse ++ rest) (hW : (rest.map fun v => v.category).sum ≤ 8)
    (hR : fr + 1 ≤ R.frames ∧ 8 + (maxL + 11) + lo ≤ R.locals) (hcs : cells ≤ R.cells ∧ slots ≤ R.slots) (hdg : decode cc pc = .ok (.invokestatic idx, 3)) :
    va_Run p l e R s m args below meth c H locs cells slots 0 0 (F0 m pc ls st) rest (Qc As.toArray) (va_A ws H.size) := by
  have hpre := WD.pre C h
  obtain ⟨hx, hb, hml, hown, hts, hK, hA, hE, hlk⟩ := C
  obtain ⟨hd, k1, k2, k3, k4⟩ := k
  refine va_runS (As := As) (rest := rest) (Ts := TB) ⟨hx, hb, hml, hown, hts⟩ hM (cwS n hts (gi_of ?_) rfl rfl rfl hd hR) ⟨preW_blind, fun U hU hW => ⟨rfl, hpre U hU hW⟩⟩ rfl hn hsz hst (lv_room hW) hdg hcs
  exact gi_cons k1 (gi_cons k2 (gi_cons k3 (gi_cons k4 gi_tb)))
theorem x_runN {y : MethodName} {bytes : ByteArray} {maxL fr lo idx n : Nat} {host : String} {ret : Option FieldType} {As st : List Value} {Qc : Array Value → State → Outcome → State → Prop} (C : CX p s m args meth c K A cc nL own) (h : WD K A s ws H locs)
    (hM : Met l y (.code y bytes maxL ret :: TB) (rmK fr lo) (va_Pc As (PreW K ws H.size)) Qc 0 0 (va_A ws H.size)) (k : LkN own idx host y bytes maxL ret n)
    (hn : As.length = n) (hsz : ls.size = nL) (hst : st = As.reverse ++ rest) (hW : (rest.map fun v => v.category).sum ≤ 8)
    (hR : fr + 1 ≤ R.frames ∧ 8 + (maxL + 11) + lo ≤ R.locals) (hcs : cells ≤ R.cells ∧ slots ≤ R.slots) (hdg : decode cc pc = .ok (.invokestatic idx, 3)) :
    va_Run p l e R s m args below meth c H locs cells slots 0 0 (F0 m pc ls st) rest (Qc As.toArray) (va_A ws H.size) := by
  have hpre := WD.pre C h
  obtain ⟨hx, hb, hml, hown, hts, hK, hA, hE, hlk⟩ := C
  obtain ⟨hd, ⟨k1, rfl⟩, k2, k3, k4⟩ := k
  obtain ⟨-, -, -, -, -, -, -, -, h9, -⟩ := hE
  exact va_runSN (As := As) (rest := rest) (Ts := TB) ⟨hx, hb, hml, hown, hts⟩ hM ⟨va_cnB n hts (gi_of (gi_cons k4 gi_tb)) rfl rfl rfl (h9 _ k1) (hts _ k3) hd hR, hts _ k2, trivial⟩ ⟨preW_blind, fun U hU hW => ⟨rfl, hpre U hU hW⟩⟩ rfl hn hsz hst (lv_room hW) hdg hcs
theorem x_mmin {idx : Nat} {x y : Int32} (C : CX p s m args meth c K A cc nL own) (hsz : ls.size = nL) (k : Cond.methodLink own idx Lib.Math.min.name ∈ TB ∧ Cond.static Lib.Math.min.name ∈ TB ∧ Cond.initialized "java/lang/Math" ∈ TB ∧ Cond.code Lib.Math.min.name Lib.Math.min.code 2 (some .int) ∈ TB) (hW : (rest.map fun v => v.category).sum ≤ 8)
    (hR : 1 ≤ R.frames ∧ 21 ≤ R.locals) (hcs : cells ≤ R.cells ∧ slots ≤ R.slots) (hdg : decode cc pc = .ok (.invokestatic idx, 3))
    (kk : W p l e R s m args below meth c H locs cells slots Z (F0 m (pc + 3) ls (.int (if y < x then y else x) :: rest))) : W p l e R s m args below meth c H locs cells slots Z (F0 m pc ls (.int y :: .int x :: rest)) := by
  obtain ⟨hx, hb, hml, hown, hts, hK, hA, hE, hlk⟩ := C
  exact va_mmin hx hb (hml.trans hsz.symm) hown (hts _ k.1) (hts _ k.2.1) (hts _ k.2.2.1) (hts _ k.2.2.2) hR.1 (by omega) hcs.1 hcs.2 hdg kk
/-! behind a call, and the ends, over any state S and its world wf -/
theorem x_calli {S : Type} {wf : S → va_W} {Q : Int32 → S → Prop} {st : List Value} {a : Array Value} (C : CX p s m args meth c K A cc nL own) (h : WD K A s ws H locs)
    (hr : va_Run p l e R s m args below meth c H locs cells slots 0 0 (F0 m pc ls st) rest (va_Qi Q (fun u t => PstW K (va_A ws H.size) (wf u) t) (va_A ws H.size) a) (va_A ws H.size))
    (kk : ∀ (r : Int32) (u : S) (H1 : Heap) (locs1 : List Loc), Q r u → WD K A s (wf u) H1 locs1 → W p l e R s m args below meth c H1 locs1 cells slots Z (F0 m (pc + 3) ls (.int r :: rest))) : W p l e R s m args below meth c H locs cells slots Z (F0 m pc ls st) := by
  have hf := WD.free C h
  refine va_calli hr h.2.2 (fun q _ z => hf q z) hf (fun r u t H1 locs1 ht hvm hq hB hz hk hS => ?_)
  exact kk r u H1 locs1 hq ⟨by rw [← ht]; exact hB.1, hB.2.weaken (fun _ _ _ z => hf _ z), hS⟩
theorem x_callv {S : Type} {wf : S → va_W} {Q : S → Prop} {st : List Value} {a : Array Value} (C : CX p s m args meth c K A cc nL own) (h : WD K A s ws H locs)
    (hr : va_Run p l e R s m args below meth c H locs cells slots 0 0 (F0 m pc ls st) rest (va_Qv Q (fun u t => PstW K (va_A ws H.size) (wf u) t) (va_A ws H.size) a) (va_A ws H.size))
    (kk : ∀ (u : S) (H1 : Heap) (locs1 : List Loc), Q u → WD K A s (wf u) H1 locs1 → W p l e R s m args below meth c H1 locs1 cells slots Z (F0 m (pc + 3) ls rest)) : W p l e R s m args below meth c H locs cells slots Z (F0 m pc ls st) := by
  have hf := WD.free C h
  refine va_callv hr h.2.2 (fun q _ z => hf q z) hf (fun u t H1 locs1 ht hvm hq hB hz hk hS => ?_)
  exact kk u H1 locs1 hq ⟨by rw [← ht]; exact hB.1, hB.2.weaken (fun _ _ _ z => hf _ z), hS⟩
theorem x_reti {S : Type} {wf : S → va_W} {Q : Int32 → S → Prop} {u : S} {r : Int32} {ty : FieldType} (C : CX p s m args meth c K A cc nL own) (hr : meth.sig.returnType = some ty) (hty : narrow ty (.int r) = .int r) (h : WD K A s (wf u) H locs) (hq : Q r u) (hdg : decode cc pc = .ok (.ireturn, 1)) :
    W p l e R s m args below meth c H locs cells slots (MQ below (va_Qi Q (fun u t => PstW K A (wf u) t) A) args s cells slots A) (F0 m pc ls [.int r]) := by
  obtain ⟨hx, hb, hml, hown, hts, hK, hA, hE, hlk⟩ := C
  exact W.zret hx hb hr hty (fun t ht hW => ⟨⟨r, u, rfl, hq, by rw [ht]; exact h.1, h.2.1⟩, h.2.2.F ht⟩) h.2.2.2.2 hdg hlk
theorem x_retv {S : Type} {wf : S → va_W} {Q : S → Prop} {u : S} (C : CX p s m args meth c K A cc nL own) (hr : meth.sig.returnType = none) (h : WD K A s (wf u) H locs) (hq : Q u) (hdg : decode cc pc = .ok (.return_, 1)) :
    W p l e R s m args below meth c H locs cells slots (MQ below (va_Qv Q (fun u t => PstW K A (wf u) t) A) args s cells slots A) (F0 m pc ls []) := by
  obtain ⟨hx, hb, hml, hown, hts, hK, hA, hE, hlk⟩ := C
  exact W.vret hx hb hr (fun t ht hW => ⟨⟨u, rfl, hq, by rw [ht]; exact h.1, h.2.1⟩, h.2.2.F ht⟩) h.2.2.2.2 hdg hlk
end BASE
/-- a contract out of its body -/
theorem x_met {l : Launch} {K : KT} {y : MethodName} {cc : ByteArray} {nL fr lo sz : Nat} {ret : Option FieldType} {As : List Value} {ws : va_W} {Qm : (Nat → Prop) → Array Value → State → Outcome → State → Prop} (hy : plainName y.cls = true) (hlen : (lg_sl As).length ≤ nL)
    (body : ∀ (p : Program) (e : Env) (s : State) (m : MethodId) (below : List Frame) (meth : Method) (c : Code) (A : Nat → Prop) (ls : Array Slot), CX p s m As.toArray meth c K A cc nL y.cls → meth.sig.returnType = ret → WD K A s ws s.heap [] → lv_has ls nL (lv_args 0 As) → W p l e (rmK fr lo) s m As.toArray below meth c s.heap [] 0 0 (MQ below (Qm A) As.toArray s 0 0 A) (F0 m 0 ls [])) :
    Met l y (.code y cc nL ret :: TB) (rmK fr lo) (va_Pc As (PreW K ws sz)) (Qm (va_A ws sz)) 0 0 (va_A ws sz) := by
  refine Met.ofW (cc := cc) (maxL := nL) (ret := ret) hy rfl ?_
  intro p e s m args below meth c s₁ B hml hv
  obtain ⟨rfl, hsz, hP, hK, hD0, hE⟩ := hv
  subst hsz
  have hts := atoms_spec (ws := .code y cc nL ret :: TB) B.pre
  have hown : s.vm.findClass y.cls = some m.cls := findClass_of_methodNamed B.named
  have hD := hD0.self (sz := s.heap.size)
  have hl := lv_entry As (n := nL) hlen
  rw [lg_entry_eq]
  exact body p e s m below meth c (va_A ws s.heap.size) _ ⟨B.exec, B.bytes, hml, hown, fun w hw => hts w (List.mem_cons_of_mem _ hw), hK, fun q h => Or.inr h, hE, B.notSynchronized⟩ B.returns ⟨hP, hD, va_S.rf⟩ hl
