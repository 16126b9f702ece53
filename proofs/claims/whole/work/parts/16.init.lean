/-! worlds under permutations, frames of calls, what is made -/
theorem va_P_mem {D : va_G} {cl : List vw_C} {ws : va_W} {H : Heap} : va_P D cl ws H ↔ ∀ q ∈ ws, va_at D cl q H := ⟨fun h q hq => by obtain ⟨i, hi⟩ := List.getElem?_of_mem hq; exact h i q hi, fun h k q hk => h q (List.mem_of_getElem? hk)⟩
theorem va_D_cons {A : Nat → Prop} {x : Nat × va_E} {l : va_W} : va_D A (x :: l) ↔ A x.1 ∧ (∀ q ∈ l, q.1 ≠ x.1) ∧ va_D A l := by
  constructor
  · intro h
    refine ⟨h.2 0 x rfl, fun q hq e => ?_, fun i j p q hi hj e => ?_, fun k q hk => h.2 (k + 1) q hk⟩
    · obtain ⟨i, hi⟩ := List.getElem?_of_mem hq
      have := h.1 (i + 1) 0 q x hi rfl e
      omega
    · have := h.1 (i + 1) (j + 1) p q hi hj e
      omega
  · rintro ⟨h1, h2, h3⟩
    refine ⟨fun i j p q hi hj e => ?_, fun k q hk => ?_⟩
    · cases i with
      | zero =>
        cases j with
        | zero => rfl
        | succ j =>
          cases hi
          exact absurd e.symm (h2 q (List.mem_of_getElem? (i := j) hj))
      | succ i =>
        cases j with
        | zero =>
          cases hj
          exact absurd e (h2 p (List.mem_of_getElem? (i := i) hi))
        | succ j => rw [h3.1 i j p q hi hj e]
    · cases k with
      | zero => cases hk; exact h1
      | succ k => exact h3.2 k q hk
theorem va_D_perm {A : Nat → Prop} {w1 w2 : va_W} (hp : List.Perm w1 w2) : va_D A w1 → va_D A w2 := by
  induction hp with
  | nil => exact id
  | cons x hp ih =>
    intro h
    obtain ⟨h1, h2, h3⟩ := va_D_cons.mp h
    exact va_D_cons.mpr ⟨h1, fun q hq => h2 q (hp.symm.subset hq), ih h3⟩
  | swap x y l =>
    intro h
    obtain ⟨h1, h2, h3⟩ := va_D_cons.mp h
    obtain ⟨g1, g2, g3⟩ := va_D_cons.mp h3
    refine va_D_cons.mpr ⟨g1, fun q hq => ?_, va_D_cons.mpr ⟨h1, fun q hq => h2 q (List.mem_cons_of_mem _ hq), g3⟩⟩
    rcases List.mem_cons.mp hq with rfl | hq
    · exact (h2 _ List.mem_cons_self).symm
    · exact g2 q hq
  | trans _ _ ih1 ih2 => exact fun h => ih2 (ih1 h)
theorem va_P_perm {D : va_G} {cl : List vw_C} {w1 w2 : va_W} {H : Heap} (hp : List.Perm w1 w2) (h : va_P D cl w1 H) : va_P D cl w2 H := va_P_mem.mpr fun q hq => va_P_mem.mp h q (hp.symm.subset hq)
theorem WD.perm {K : KT} {A : Nat → Prop} {s : State} {w1 w2 : va_W} {H : Heap} {locs : List Loc} (hp : List.Perm w1 w2) (h : WD K A s w1 H locs) : WD K A s w2 H locs := ⟨va_P_perm hp h.1, va_D_perm hp h.2.1, h.2.2⟩
theorem fr_join {A0 : Nat → Prop} {D : va_G} {cl : List vw_C} {wr wc w1 : va_W} {H H1 : Heap} (hP : va_P D cl (wr ++ wc) H) (hD : va_D A0 (wr ++ wc))
    (hk : ∀ q : Nat, q < H.size → ¬ va_A wc H.size q → H1[q]? = H[q]?) (hF : ∀ q, va_A wc H.size q → A0 q) (hP1 : va_P D cl w1 H1) (hD1 : va_D (va_A wc H.size) w1) : va_P D cl (wr ++ w1) H1 ∧ va_D A0 (wr ++ w1) := by
  have apart : ∀ q ∈ wr, q.1 < H.size ∧ ¬ va_A wc H.size q.1 := by
    intro q hq
    obtain ⟨i, hi⟩ := List.getElem?_of_mem hq
    have hi' : (wr ++ wc)[i]? = some q := by rw [List.getElem?_append_left (List.getElem?_eq_some_iff.mp hi).1]; exact hi
    have hl := (hP i q hi').lt
    refine ⟨hl, fun h => ?_⟩
    rcases h with ⟨k, e, h⟩ | h
    · have hj : (wr ++ wc)[wr.length + k]? = some (q.1, e) := by rw [List.getElem?_append_right (by omega), Nat.add_sub_cancel_left]; exact h
      have hij := hD.1 i (wr.length + k) q (q.1, e) hi' hj rfl
      have := (List.getElem?_eq_some_iff.mp hi).1
      omega
    · omega
  refine ⟨va_P.app (va_P_mem.mpr fun q hq => ?_) hP1, va_D.app ⟨fun i j p q hi hj e => ?_, fun k q hk => ?_⟩ (hD1.weaken (fun k q _ h => hF q.1 h)) (fun i j x y hx hy hxy => ?_)⟩
  · exact (va_P_mem.mp hP q (List.mem_append_left _ hq)).kept (hk q.1 (apart q hq).1 (apart q hq).2)
  · have hi' : (wr ++ wc)[i]? = some p := by rw [List.getElem?_append_left (List.getElem?_eq_some_iff.mp hi).1]; exact hi
    have hj' : (wr ++ wc)[j]? = some q := by rw [List.getElem?_append_left (List.getElem?_eq_some_iff.mp hj).1]; exact hj
    exact hD.1 i j p q hi' hj' e
  · have hk' : (wr ++ wc)[k]? = some q := by rw [List.getElem?_append_left (List.getElem?_eq_some_iff.mp hk).1]; exact hk
    exact hD.2 k q hk'
  · exact (apart x (List.mem_of_getElem? hx)).2 (by rw [hxy]; exact hD1.2 j y hy)
theorem WD.right {K : KT} {A : Nat → Prop} {s : State} {wr wc : va_W} {H : Heap} {locs : List Loc} (h : WD K A s (wr ++ wc) H locs) : WD K A s wc H locs := by
  refine ⟨va_P_mem.mpr fun q hq => va_P_mem.mp h.1 q (List.mem_append_right _ hq), ⟨fun i j p q hi hj e => ?_, fun k q hk => ?_⟩, h.2.2⟩
  · have hi' : (wr ++ wc)[wr.length + i]? = some p := by rw [List.getElem?_append_right (by omega), Nat.add_sub_cancel_left]; exact hi
    have hj' : (wr ++ wc)[wr.length + j]? = some q := by rw [List.getElem?_append_right (by omega), Nat.add_sub_cancel_left]; exact hj
    have := h.2.1.1 _ _ p q hi' hj' e
    omega
  · exact h.2.1.2 (wr.length + k) q (by rw [List.getElem?_append_right (by omega), Nat.add_sub_cancel_left]; exact hk)
/-! fields that are final, in constructors -/
def FPf (own : String) (idx ci k : Nat) (ty : FieldType) : Prop := ∃ (T : u_T) (N : Nat) (ty0 : Nat → FieldType), vwCl[ci]? = some (own, T, N) ∧ (∀ w ∈ u_ws own T N, w ∈ TB) ∧ k < N ∧ Cond.fieldLink own idx (T k).1 (T k).2.1 (T k).2.2.1 ∈ TB ∧ (∀ k, k < N → parseFieldDescriptor (T k).2.2.1 = some (ty0 k)) ∧ (∀ a, a < N → ∀ b, b < N → a ≠ b → (T a).2.1 ≠ (T b).2.1) ∧ (T k).2.2.2 = true ∧ (T k).1 = own ∧ parseFieldDescriptor (T k).2.2.1 = some ty
def LkNew (own : String) (idx ci : Nat) (fs : List Value) : Prop := ∃ (Cn : String) (T : u_T) (N : Nat) (ty : Nat → FieldType), vwCl[ci]? = some (Cn, T, N) ∧ fs.length = N ∧ (∀ w ∈ u_ws Cn T N, w ∈ TB) ∧ (∀ k, k < N → parseFieldDescriptor (T k).2.2.1 = some (ty k)) ∧ Cond.classLink own idx Cn ∈ TB ∧ Cond.instantiable Cn N ∈ TB ∧ Cond.initialized Cn ∈ TB ∧ (∀ j, j < N → defaultValue (ty j) = vp_V fs j)
theorem kA_int : Cond.arrayClass .int ∈ TB := tb_in 122 (by decide +kernel) rfl
theorem kA_byte : Cond.arrayClass .byte ∈ TB := tb_in 83 (by decide +kernel) rfl
theorem kA_bool : Cond.arrayClass .boolean ∈ TB := tb_in 123 (by decide +kernel) rfl
theorem kA_long : Cond.arrayClass .long ∈ TB := tb_in 1124 (by decide +kernel) rfl
abbrev nA (K : KT) (t n : Nat) : va_E := .inl (K.2.2.1 t, n, .inl (fun _ => 0))
section INIT
variable {p : Program} {l : Launch} {e : Env} {R : Room} {s : State} {m : MethodId} {args : Array Value} {below : List Frame} {meth : Method} {c : Code} {H : Heap} {locs : List Loc} {cells slots : Nat} {Z : State → Prop}
variable {K : KT} {A : Nat → Prop} {cc : ByteArray} {nL : Nat} {own : String} {X Y : va_W} {ws : va_W} {pc : Nat} {ls : Array Slot} {rest : List Value}
theorem x_putF {q0 ad ci k idx : Nat} {fs : List Value} {v : Value} {ty : FieldType} {ws1 : va_W} (C : CX p s m args meth c K A cc nL own) (hin : meth.name = "<init>") (h : WD K A s ws H locs) (he : ws[q0]? = some (ad, .inr (ci, fs))) (fl : FPf own idx ci k ty) (hn : narrow ty v = v) (hfit : fits ty v = true) (hl : k < fs.length) (hw : ws.set q0 (ad, .inr (ci, fs.set k v)) = ws1) (hdg : decode cc pc = .ok (.putfield idx, 3))
    (kk : ∀ (H1 : Heap) (locs1 : List Loc), WD K A s ws1 H1 locs1 → W p l e R s m args below meth c H1 locs1 cells slots Z (F0 m (pc + 3) ls rest)) : W p l e R s m args below meth c H locs cells slots Z (F0 m pc ls (v :: .ref ad :: rest)) := by
  subst hw
  obtain ⟨hx, hb, -, hown, hts, hK, -⟩ := C
  obtain ⟨T, N, ty0, hc, hin2, hk, hlk, hty, hnm, hfin, hdc, hd⟩ := fl
  exact va_putF hx hb hts hin2 ty0 hty hnm hown hK h.1 h.2.1 h.2.2 q0 he hc k hk (hts _ hlk) (fun _ h9 => h9) hfin hin hdc hd hn hfit hl hdg (fun H1 locs1 a b d => kk H1 locs1 ⟨a, b, d⟩)
theorem x_new {ci idx : Nat} {fs : List Value} (C : CX p s m args meth c K A cc nL own) (h : WD K A s ws H locs) (k : LkNew own idx ci fs) (hcells : cells + 1 ≤ R.cells) (hslots : slots + fs.length ≤ R.slots) (hdg : decode cc pc = .ok (.new idx, 3))
    (kk : ∀ (q : Nat) (H1 : Heap), WD K A s (ws ++ [(q, .inr (ci, fs))]) H1 locs → W p l e R s m args below meth c H1 locs (cells + 1) (slots + fs.length) Z (F0 m (pc + 3) ls (.ref q :: rest))) : W p l e R s m args below meth c H locs cells slots Z (F0 m pc ls rest) := by
  obtain ⟨hx, hb, -, hown, hts, hK, hA, -⟩ := C
  obtain ⟨Cn, T, N, ty, hc, rfl, hin, hty, k1, k2, k3, hfs⟩ := k
  exact va_new hx hb hts hin ty hty hown (hts _ k1) (hts _ k2) (hts _ k3) hK h.1 h.2.1 h.2.2 hA hc hfs hcells hslots hdg (fun q H1 a b d => kk q H1 ⟨a, b, d⟩)
theorem arr_cls {ty : FieldType} {cA cB : ClassId} (ho : ∀ C, ty ≠ .object C) (h1 : va_RA s cA ty) (h2 : va_RA s cB ty) : cA = cB := by
  cases ty with
  | object C => exact absurd rfl (ho C)
  | _ => exact Option.some.inj (Eq.trans (Eq.symm h1) h2)
theorem x_newa {ty : FieldType} {atype : ArrayType} {t0 N : Nat} {n : Int32} {z : vp_A} (C : CX p s m args meth c K A cc nL own) (h : WD K A s (X ++ Y) H locs) (hty : newarray.typeOf atype = ty) (ho : ∀ C, ty ≠ .object C) (ht : (kt K)[t0]? = some (K.2.2.1 t0, ty)) (kA : Cond.arrayClass ty ∈ TB) (hz : ∀ cA : ClassId, vp_cell cA z = arrV cA N (fun _ => defaultValue ty)) (hn : ¬ n < 0) (hN : n.toNatClampNeg = N) (hbytes : N * componentBytes ty ≤ 536870912) (hcells : cells + 1 ≤ R.cells) (hslots : slots + N ≤ R.slots) (hdg : decode cc pc = .ok (.newarray atype, 2))
    (kk : ∀ (q : Nat) (H1 : Heap), WD K A s ((X ++ [(q, .inl (K.2.2.1 t0, z))]) ++ Y) H1 locs → W p l e R s m args below meth c H1 locs (cells + 1) (slots + N) Z (F0 m (pc + 2) ls (.ref q :: rest))) : W p l e R s m args below meth c H locs cells slots Z (F0 m pc ls (.int n :: rest)) := by
  obtain ⟨hx, hb, -, hown, hts, hK, hA, -⟩ := C
  refine va_newa hx hb (by rw [hty]; exact hts _ kA) hty hK h.1 h.2.1 h.2.2 hA hz hn hN hbytes hcells hslots hdg (fun q cA H1 hK1 hP hD hS => ?_)
  have hc : cA = K.2.2.1 t0 := arr_cls ho (hK1.2 5 _ rfl).2 (hK.2 t0 _ ht).2
  subst hc
  refine kk q H1 (WD.perm ?_ ⟨hP, hD, hS⟩)
  rw [List.append_assoc, List.append_assoc]
  exact List.Perm.append_left X List.perm_append_comm
theorem x_mna {idx r0 L : Nat} {n k : Int32} (C : CX p s m args meth c K A cc nL own) (h : WD K A s (X ++ Y) H locs) (hcl : Cond.classLink own idx ("[" ++ (FieldType.array .int).toString) ∈ TB) (hov : va_AOA .int s) (hn : ¬ n < 0) (hk : ¬ k < 0) (hN : n.toNatClampNeg = r0) (hL : k.toNatClampNeg = L) (hb1 : r0 * 4 ≤ 536870912) (hb2 : L * componentBytes .int ≤ 536870912) (hb3 : L ≤ 536870912) (hcells : cells + (1 + r0) ≤ R.cells) (hslots : slots + (r0 + r0 * L) ≤ R.slots) (hdg : decode cc pc = .ok (.multianewarray idx 2, 4))
    (kk : ∀ (q : Nat) (r : Nat → Nat) (H1 : Heap), WD K A s ((X ++ [(q, .inl (K.2.2.1 3, r0, .inr (.inr (.inr (.inr (fun i => if i < r0 then some (r i) else none))))))]) ++ (Y ++ (List.range r0).map (fun i => (r i, nA K 0 L)))) H1 locs → W p l e R s m args below meth c H1 locs (cells + 1 + r0) (slots + r0 + r0 * L) Z (F0 m (pc + 4) ls (.ref q :: rest))) : W p l e R s m args below meth c H locs cells slots Z (F0 m pc ls (.int k :: .int n :: rest)) := by
  obtain ⟨hx, hb, -, hown, hts, hK, hA, -⟩ := C
  have hcy : s.vm.findClass (FieldType.array .int).toString = some (K.2.2.1 0) := (hK.2 0 _ rfl).2
  have hP0 : va_P (kD K) vwCl ((X ++ Y) ++ va_pl [] (fun _ => nA K 0 L)) H := by rw [show va_pl [] (fun _ => nA K 0 L) = [] from rfl, List.append_nil]; exact h.1
  have hD0 : va_D A ((X ++ Y) ++ va_pl [] (fun _ => nA K 0 L)) := by rw [show va_pl [] (fun _ => nA K 0 L) = [] from rfl, List.append_nil]; exact h.2.1
  refine va_mna (ty := .int) (z := (L, .inl (fun _ => 0))) hx hb hown (hts _ hcl) hov (hts _ kA_int) hcy hK hP0 hD0 h.2.2 hA hn hk hN hL hb1 hb2 hb3 rfl rfl hcells hslots (fun c9 => ?_) hdg (fun q r cA H1 hinj hnl hK1 hP hD hS => ?_)
  · exact arrV_new c9 L (.int 0)
  · have hc : cA = K.2.2.1 3 := arr_cls (fun C hC => by cases hC) (hK1.2 5 _ rfl).2 (hK.2 3 _ rfl).2
    subst hc
    refine kk q r H1 (WD.perm ?_ ⟨hP, hD, hS⟩)
    have e1 : va_pl ([] ++ (List.range r0).map r) (vr_up (fun _ => nA K 0 L) ((List.range r0).map r) (nA K 0 L)) = (List.range r0).map (fun i => (r i, nA K 0 L)) := by
      unfold va_pl
      rw [List.nil_append, List.map_map]
      apply List.map_congr_left
      intro i hi
      show (r i, vr_up _ _ _ (r i)) = _
      rw [vr_up_in (List.mem_map.mpr ⟨i, hi, rfl⟩)]
    rw [e1, List.append_assoc X, List.append_assoc X, List.append_assoc X, List.append_assoc]
    refine List.Perm.append_left X ?_
    rw [← List.append_assoc, ← List.append_assoc]
    exact List.Perm.append_right _ List.perm_append_comm
end INIT
/-- the words of Object's own constructor -/
def LkObj (own : String) (idx : Nat) : Prop := Cond.methodLink own idx objectInit ∈ TB ∧ Cond.instanceMethod objectInit ∈ TB ∧ Cond.code objectInit ⟨#[0xb1]⟩ 1 none ∈ TB
abbrev rmN (fr lo mc ms : Nat) : Room := { frames := fr, cells := mc, slots := ms, locals := lo }
def CtN (l : Launch) (K : KT) (y : MethodName) (bytes : ByteArray) (fr lo mc ms : Nat) (h0 : Nat) (ci : Nat) (fs : List Value) (post : (Nat → Nat) → Prop) (wf : (Nat → Nat) → va_W) : Prop := ∀ sz : Nat, Met l y (.code y bytes 1 none :: TB) (rmN fr lo mc ms) (va_Pc [.ref h0] (PreW K [(h0, .inr (ci, fs))] sz)) (va_Qv post (fun u t => PstW K (va_A [(h0, .inr (ci, fs))] sz) (wf u) t) (va_A [(h0, .inr (ci, fs))] sz)) mc ms (va_A [(h0, .inr (ci, fs))] sz)
theorem CX.ov {p : Program} {s : State} {m : MethodId} {args : Array Value} {meth : Method} {c : Code} {K : KT} {A : Nat → Prop} {cc : ByteArray} {nL : Nat} {own : String} (C : CX p s m args meth c K A cc nL own) : va_AOA .int s := by
  obtain ⟨-, -, -, -, -, -, -, ⟨-, -, -, -, -, -, -, -, -, -, -, h⟩, -⟩ := C
  exact h
theorem x_metN {l : Launch} {K : KT} {y : MethodName} {cc : ByteArray} {fr lo mc ms h0 ci : Nat} {fs : List Value} {post : (Nat → Nat) → Prop} {wf : (Nat → Nat) → va_W} (hy : plainName y.cls = true) (hyn : y.name = "<init>")
    (body : ∀ (p : Program) (e : Env) (s : State) (m : MethodId) (below : List Frame) (meth : Method) (c : Code) (A : Nat → Prop) (ls : Array Slot), CX p s m [Value.ref h0].toArray meth c K A cc 1 y.cls → meth.name = "<init>" → meth.sig.returnType = none → WD K A s [(h0, .inr (ci, fs))] s.heap [] → lv_has ls 1 [(0, .ref h0)] → W p l e (rmN fr lo mc ms) s m [Value.ref h0].toArray below meth c s.heap [] 0 0 (MQ below (va_Qv post (fun u t => PstW K A (wf u) t) A) [Value.ref h0].toArray s mc ms A) (F0 m 0 ls [])) :
    CtN l K y cc fr lo mc ms h0 ci fs post wf := by
  intro sz
  refine Met.ofW (cc := cc) (maxL := 1) (ret := none) hy rfl ?_
  intro p e s m args below meth c s₁ B hml hv
  obtain ⟨rfl, hsz, hP, hK, hD0, hE⟩ := hv
  subst hsz
  have hts := atoms_spec (ws := .code y cc 1 none :: TB) B.pre
  have hown : s.vm.findClass y.cls = some m.cls := findClass_of_methodNamed B.named
  have hin : meth.name = "<init>" := (name_of_methodNamed B.named B.method).1.trans hyn
  have hD := hD0.self (sz := s.heap.size)
  have hl := lv_entry [Value.ref h0] (n := 1) (Nat.le_of_ble_eq_true rfl)
  rw [lg_entry_eq]
  exact body p e s m below meth c (va_A [(h0, .inr (ci, fs))] s.heap.size) _ ⟨B.exec, B.bytes, hml, hown, fun w hw => hts w (List.mem_cons_of_mem _ hw), hK, fun q h => Or.inr h, hE, B.notSynchronized⟩ hin B.returns ⟨hP, hD, va_S.rf⟩ hl
section CALLN
variable {p : Program} {l : Launch} {e : Env} {R : Room} {s : State} {m : MethodId} {args : Array Value} {below : List Frame} {meth : Method} {c : Code} {H : Heap} {locs : List Loc} {cells slots : Nat} {Z : State → Prop}
variable {K : KT} {A : Nat → Prop} {cc : ByteArray} {nL : Nat} {own : String} {wr wc : va_W} {pc : Nat} {ls : Array Slot} {rest : List Value}
theorem WD.freeR (C : CX p s m args meth c K A cc nL own) (h : WD K A s (wr ++ wc) H locs) : ∀ q, va_A wc H.size q → A q := WD.free C h.right
/-- behind a call over a part of the world -/
theorem x_callvF {S : Type} {wf : S → va_W} {Q : S → Prop} {st : List Value} {a : Array Value} {mc ms : Nat} (C : CX p s m args meth c K A cc nL own) (h : WD K A s (wr ++ wc) H locs)
    (hr : va_Run p l e R s m args below meth c H locs cells slots mc ms (F0 m pc ls st) rest (va_Qv Q (fun u t => PstW K (va_A wc H.size) (wf u) t) (va_A wc H.size) a) (va_A wc H.size))
    (kk : ∀ (u : S) (H1 : Heap) (locs1 : List Loc), Q u → WD K A s (wr ++ wf u) H1 locs1 → W p l e R s m args below meth c H1 locs1 (cells + mc) (slots + ms) Z (F0 m (pc + 3) ls rest)) : W p l e R s m args below meth c H locs cells slots Z (F0 m pc ls st) := by
  have hf := WD.freeR C h
  refine va_callv hr h.2.2 (fun q _ z => hf q z) hf (fun u t H1 locs1 ht hvm hq hB hz hk hS => ?_)
  obtain ⟨a1, a2⟩ := fr_join h.1 h.2.1 hk hf (show va_P (kD K) vwCl (wf u) H1 by rw [← ht]; exact hB.1) hB.2
  exact kk u H1 locs1 hq ⟨a1, a2, hS⟩
theorem x_calliF {S : Type} {wf : S → va_W} {Q : Int32 → S → Prop} {st : List Value} {a : Array Value} {mc ms : Nat} (C : CX p s m args meth c K A cc nL own) (h : WD K A s (wr ++ wc) H locs)
    (hr : va_Run p l e R s m args below meth c H locs cells slots mc ms (F0 m pc ls st) rest (va_Qi Q (fun u t => PstW K (va_A wc H.size) (wf u) t) (va_A wc H.size) a) (va_A wc H.size))
    (kk : ∀ (r : Int32) (u : S) (H1 : Heap) (locs1 : List Loc), Q r u → WD K A s (wr ++ wf u) H1 locs1 → W p l e R s m args below meth c H1 locs1 (cells + mc) (slots + ms) Z (F0 m (pc + 3) ls (.int r :: rest))) : W p l e R s m args below meth c H locs cells slots Z (F0 m pc ls st) := by
  have hf := WD.freeR C h
  refine va_calli hr h.2.2 (fun q _ z => hf q z) hf (fun r u t H1 locs1 ht hvm hq hB hz hk hS => ?_)
  obtain ⟨a1, a2⟩ := fr_join h.1 h.2.1 hk hf (show va_P (kD K) vwCl (wf u) H1 by rw [← ht]; exact hB.1) hB.2
  exact kk r u H1 locs1 hq ⟨a1, a2, hS⟩
def LkI (own : String) (idx : Nat) (y : MethodName) (bytes : ByteArray) : Prop := (y.cls ≠ "java/lang/invoke/MethodHandle" ∧ y.cls ≠ "java/lang/invoke/VarHandle" ∧ (parseMethodDescriptor y.desc).map (fun d => d.parameters.length) = some 0) ∧ y.name = "<init>" ∧ ((own, idx, y) ∈ nestL ∨ Cond.methodLink own idx y ∈ TB) ∧ Cond.instanceMethod y ∈ TB ∧ Cond.initialized y.cls ∈ TB ∧ Cond.code y bytes 1 none ∈ TB
theorem x_callN {y : MethodName} {bytes : ByteArray} {fr lo mc ms idx q ci : Nat} {fs : List Value} {post : (Nat → Nat) → Prop} {wf : (Nat → Nat) → va_W} (C : CX p s m args meth c K A cc nL own) (h : WD K A s (wr ++ [(q, .inr (ci, fs))]) H locs) (hM : CtN l K y bytes fr lo mc ms q ci fs post wf) (k : LkI own idx y bytes)
    (hsz : ls.size = nL) (hW : (rest.map fun v => v.category).sum ≤ 8) (hR : fr + 1 ≤ R.frames ∧ 8 + (1 + 11) + lo ≤ R.locals) (hcs : cells + mc ≤ R.cells ∧ slots + ms ≤ R.slots) (hdg : decode cc pc = .ok (.invokespecial idx, 3))
    (kk : ∀ (u : Nat → Nat) (H1 : Heap) (locs1 : List Loc), post u → WD K A s (wr ++ wf u) H1 locs1 → W p l e R s m args below meth c H1 locs1 (cells + mc) (slots + ms) Z (F0 m (pc + 3) ls rest)) : W p l e R s m args below meth c H locs cells slots Z (F0 m pc ls (.ref q :: rest)) := by
  have hpre := WD.pre C h.right
  refine x_callvF C h (a := (Value.ref q :: []).toArray) ?_ kk
  obtain ⟨hx, hb, hml, hown, hts, hK, hA, hE, hlk⟩ := C
  obtain ⟨hd, hn, k1, k2, k3, k4⟩ := k
  obtain ⟨-, -, -, -, -, -, -, -, h9, -⟩ := hE
  rcases k1 with k1 | k1
  · exact va_runIN (As := []) (rest := rest) (Ts := TB) ⟨hx, hb, hml, hown, hts⟩ (hM H.size) ⟨va_cnB 0 hts (gi_of (gi_cons k4 gi_tb)) rfl rfl rfl (h9 _ k1) (hts _ k3) hd hR, hn, hts _ k2⟩ ⟨preW_blind, fun U hU hW => ⟨rfl, hpre U hU hW⟩⟩ rfl rfl hsz rfl (lv_room hW) hdg hcs
  · exact va_runI (As := []) (rest := rest) (Ts := TB) ⟨hx, hb, hml, hown, hts⟩ (hM H.size) (cwI 0 hts (gi_of (gi_cons k4 gi_tb)) rfl rfl rfl (hts _ k3) (hts _ k1) (hts _ k2) hn hd hR) ⟨preW_blind, fun U hU hW => ⟨rfl, hpre U hU hW⟩⟩ rfl rfl hsz rfl (lv_room hW) hdg hcs
theorem x_obj {idx q : Nat} (C : CX p s m args meth c K A cc nL own) (k : LkObj own idx) (hsz : ls.size = nL) (hR : 1 ≤ R.frames ∧ 12 ≤ R.locals) (hdg : decode cc pc = .ok (.invokespecial idx, 3))
    (kk : W p l e R s m args below meth c H locs cells slots Z (F0 m (pc + 3) ls [])) : W p l e R s m args below meth c H locs cells slots Z (F0 m pc ls [.ref q]) := by
  obtain ⟨hx, hb, hml, hown, hts, hK, hA, hE, hlk⟩ := C
  exact W.objInit hx hb hown (hts _ k.1) (hts _ k.2.1) (hts _ k.2.2) rfl (hsz.trans hml.symm) rfl hdg hR.1 (by show 2 * 0 + 0 + 12 ≤ _; omega) kk
end CALLN
