theorem ks_142 : Cond.fieldLink RX8 142 RX8 "TOLL_WORD" "J" ∈ TB := tb_in 992 (by decide +kernel) rfl
theorem ks_149 : Cond.fieldLink RX8 149 RX8 "OPEN_WORD" "J" ∈ TB := tb_in 998 (by decide +kernel) rfl
theorem ks_152 : Cond.fieldLink RX8 152 RX8 "DAYS_WORD" "J" ∈ TB := tb_in 1000 (by decide +kernel) rfl
theorem ks_155 : Cond.fieldLink RX8 155 RX8 "WARRANT_WORD" "J" ∈ TB := tb_in 1002 (by decide +kernel) rfl
def sC (k j : Nat) : Int32 := (sByt.getD k []).getD j 0
theorem CX.ex {p : Program} {s : State} {m : MethodId} {args : Array Value} {meth : Method} {c : Code} {K : KT} {A : Nat → Prop} {cc : ByteArray} {nL : Nat} {own : String} (C : CX p s m args meth c K A cc nL own) : EX K A s s.heap := C.2.2.2.2.2.2.2.1
def LkO (own : String) (idx : Nat) (y : MethodName) (bytes : ByteArray) (maxL : Nat) (ret : Option FieldType) (n : Nat) : Prop :=
  (y.cls ≠ "java/lang/invoke/MethodHandle" ∧ y.cls ≠ "java/lang/invoke/VarHandle" ∧ (parseMethodDescriptor y.desc).map (fun d => d.parameters.length) = some n) ∧ Cond.methodLink own idx y ∈ TB ∧ Cond.static y ∈ TB ∧ Cond.initialized y.cls ∈ TB ∧ Cond.code y bytes maxL ret ∈ TB
def CtU (l : Launch) (K : KT) (y : MethodName) (bytes : ByteArray) (maxL : Nat) (ret : Option FieldType) (fr lo : Nat) (As : List Value) (ws : va_W) (v : Int32) : Prop := ∀ sz : Nat, Met l y (.code y bytes maxL ret :: TB) (rmK fr lo) (va_Pc As (PreW K ws sz)) (va_Qi (fun (r : Int32) (_ : Unit) => r = v) (fun _ t => PstW K (va_A ws sz) ws t) (va_A ws sz)) 0 0 (va_A ws sz)
def CtUv (l : Launch) (K : KT) (y : MethodName) (bytes : ByteArray) (maxL : Nat) (ret : Option FieldType) (fr lo : Nat) (As : List Value) (ws : va_W) : Prop := ∀ sz : Nat, Met l y (.code y bytes maxL ret :: TB) (rmK fr lo) (va_Pc As (PreW K ws sz)) (va_Qv (fun (_ : Unit) => True) (fun _ t => PstW K (va_A ws sz) ws t) (va_A ws sz)) 0 0 (va_A ws sz)
section STR
variable {p : Program} {l : Launch} {e : Env} {R : Room} {s : State} {m : MethodId} {args : Array Value} {below : List Frame} {meth : Method} {c : Code} {H : Heap} {locs : List Loc} {cells slots : Nat} {Z : State → Prop}
variable {K : KT} {A : Nat → Prop} {cc : ByteArray} {nL : Nat} {own : String} {ws : va_W} {pc : Nat} {ls : Array Slot} {rest : List Value}
theorem x_runVr {y : MethodName} {bytes : ByteArray} {maxL fr lo idx n b : Nat} {ret : Option FieldType} {Cn : String} {As st : List Value} {Qc : Array Value → State → Outcome → State → Prop} (C : CX p s m args meth c K A cc nL own) (h : WD K A s ws H locs)
    (hM : Met l y (.code y bytes maxL ret :: TB) (rmK fr lo) (va_Pc (.ref b :: As) (PreW K ws H.size)) Qc 0 0 (va_A ws H.size)) (k : LkV own idx Cn y bytes maxL ret n)
    (hrv : ∃ cell : Cell, H[b]? = some cell ∧ cell.vm.isStatics = false ∧ s.vm.findClass Cn = some cell.cls) (hn : As.length = n) (hsz : ls.size = nL) (hst : st = As.reverse ++ .ref b :: rest) (hW : (rest.map fun v => v.category).sum ≤ 8)
    (hR : fr + 1 ≤ R.frames ∧ 8 + (maxL + 11) + lo ≤ R.locals) (hcs : cells ≤ R.cells ∧ slots ≤ R.slots) (hdg : decode cc pc = .ok (.invokevirtual idx, 3)) :
    va_Run p l e R s m args below meth c H locs cells slots 0 0 (F0 m pc ls st) rest (Qc (Value.ref b :: As).toArray) (va_A ws H.size) := by
  have hpre := WD.pre C h
  obtain ⟨hx, hb, hml, hown, hts, hK, hA, hE, hlk⟩ := C
  obtain ⟨hd, k1, k2, k3, k4, k5⟩ := k
  refine va_runV (As := As) (rest := rest) (Ts := TB) ⟨hx, hb, hml, hown, hts⟩ hM (cwV n hts (gi_of ?_) rfl rfl rfl hd hR) ⟨preW_blind, hrv, fun U hU hW => ⟨rfl, hpre U hU hW⟩⟩ rfl hn hsz hst (lv_room hW) hdg hcs
  exact gi_cons k1 (gi_cons k2 (gi_cons k3 (gi_cons k4 (gi_cons k5 gi_tb))))
theorem x_runSo {y : MethodName} {bytes : ByteArray} {maxL fr lo idx n : Nat} {ret : Option FieldType} {As st : List Value} {Qc : Array Value → State → Outcome → State → Prop} (C : CX p s m args meth c K A cc nL own) (h : WD K A s ws H locs)
    (hM : Met l y (.code y bytes maxL ret :: TB) (rmK fr lo) (va_Pc As (PreW K ws H.size)) Qc 0 0 (va_A ws H.size)) (k : LkO own idx y bytes maxL ret n)
    (hn : As.length = n) (hsz : ls.size = nL) (hst : st = As.reverse ++ rest) (hW : (rest.map fun v => v.category).sum ≤ 8)
    (hR : fr + 1 ≤ R.frames ∧ 8 + (maxL + 11) + lo ≤ R.locals) (hcs : cells ≤ R.cells ∧ slots ≤ R.slots) (hdg : decode cc pc = .ok (.invokestatic idx, 3)) :
    va_Run p l e R s m args below meth c H locs cells slots 0 0 (F0 m pc ls st) rest (Qc As.toArray) (va_A ws H.size) := by
  have hpre := WD.pre C h
  obtain ⟨hx, hb, hml, hown, hts, hK, hA, hE, hlk⟩ := C
  obtain ⟨hd, k1, k2, k3, k4⟩ := k
  refine va_runS (As := As) (rest := rest) (Ts := TB) ⟨hx, hb, hml, hown, hts⟩ hM (va_cwS n hts (gi_of ?_) rfl rfl rfl hd hR) ⟨preW_blind, fun U hU hW => ⟨rfl, hpre U hU hW⟩⟩ rfl hn hsz hst (lv_room hW) hdg hcs
  exact gi_cons k1 (gi_cons k2 (gi_cons k3 (gi_cons k4 gi_tb)))
end STR
theorem kj_335 : LkV RJ0 335 RJ0 yJ0_coder_7d493 cJ0_coder_7d493 1 (some .byte) 0 := ⟨by decide +kernel, tb_in 634 (by decide +kernel) rfl, tb_in 635 (by decide +kernel) rfl, tb_in 636 (by decide +kernel) rfl, tb_in 55 (by decide +kernel) rfl, tb_in 637 (by decide +kernel) rfl⟩
theorem kj_492 : LkV RJ0 492 RJ0 yJ0_isLatin1_aae02 cJ0_isLatin1_aae02 1 (some .boolean) 0 := ⟨by decide +kernel, tb_in 644 (by decide +kernel) rfl, tb_in 645 (by decide +kernel) rfl, tb_in 646 (by decide +kernel) rfl, tb_in 55 (by decide +kernel) rfl, tb_in 647 (by decide +kernel) rfl⟩
theorem kj_115 : LkV RX3 115 RJ0 yJ0_length_8abf5 cJ0_length_8abf5 1 (some .int) 0 := ⟨by decide +kernel, tb_in 630 (by decide +kernel) rfl, tb_in 631 (by decide +kernel) rfl, tb_in 632 (by decide +kernel) rfl, tb_in 55 (by decide +kernel) rfl, tb_in 633 (by decide +kernel) rfl⟩
theorem kj_119 : LkV RX3 119 RJ0 yJ0_charAt_5068e cJ0_charAt_5068e 2 (some .char) 1 := ⟨by decide +kernel, tb_in 640 (by decide +kernel) rfl, tb_in 641 (by decide +kernel) rfl, tb_in 642 (by decide +kernel) rfl, tb_in 55 (by decide +kernel) rfl, tb_in 643 (by decide +kernel) rfl⟩
theorem kj_495 : LkO RJ0 495 yJ1_charAt_3b067 cJ1_charAt_3b067 2 (some .char) 2 := ⟨by decide +kernel, tb_in 648 (by decide +kernel) rfl, tb_in 649 (by decide +kernel) rfl, tb_in 56 (by decide +kernel) rfl, tb_in 650 (by decide +kernel) rfl⟩
theorem kj_9 : LkO RJ1 9 yJ0_checkIndex_df160 cJ0_checkIndex_df160 2 none 2 := ⟨by decide +kernel, tb_in 651 (by decide +kernel) rfl, tb_in 652 (by decide +kernel) rfl, tb_in 55 (by decide +kernel) rfl, tb_in 653 (by decide +kernel) rfl⟩
theorem kj_1059 : LkO RJ0 1059 yJ3_checkIndex_8e157 cJ3_checkIndex_8e157 3 (some .int) 3 := ⟨by decide +kernel, tb_in 656 (by decide +kernel) rfl, tb_in 657 (by decide +kernel) rfl, tb_in 57 (by decide +kernel) rfl, tb_in 658 (by decide +kernel) rfl⟩
theorem kf_38 : Cond.fieldLink RJ0 38 "java/lang/String" "COMPACT_STRINGS" "Z" ∈ TB := tb_in 638 (by decide +kernel) rfl
theorem kf_1053 : Cond.fieldLink RJ0 1053 "jdk/internal/util/Preconditions" "SIOOBE_FORMATTER" "Ljava/util/function/BiFunction;" ∈ TB := tb_in 654 (by decide +kernel) rfl
theorem kf_9 : Cond.fieldLink RJ0 9 "java/lang/String" "value" "[B" ∈ TB := tb_in 1139 (by decide +kernel) rfl
theorem kf_15 : Cond.fieldLink RJ0 15 "java/lang/String" "coder" "B" ∈ TB := tb_in 1140 (by decide +kernel) rfl
set_option maxRecDepth 100000 in
theorem sC_ok : ∀ k, k < 4 → ∀ j, j < 7 → (((sC k j) &&& 255).toUInt32 % 65536).toInt32 = sC k j ∧ narrow .char (.int (sC k j)) = .int (sC k j) := by decide
theorem sLen_ok : ∀ k, k < 4 → sLen.getD k 0 ≤ 7 := by decide
set_option maxHeartbeats 4000000 in
set_option maxRecDepth 100000 in
theorem cj_coder {l : Launch} {K : KT} {ws : va_W} {k : Nat} (hk : k < 4) : CtU l K yJ0_coder_7d493 cJ0_coder_7d493 1 (some .byte) 0 0 [.ref (K.2.2.2.1 k)] ws 0 := fun sz => x_met (Qm := fun A => va_Qi (fun (r : Int32) (_ : Unit) => r = 0) (fun _ t => PstW K A ws t) A) (by decide) (Nat.le_of_ble_eq_true rfl) (fun p e s m below meth c A ls C hr h hl => by
  have hx := C.1
  have hb := C.2.1
  have hl : lv_has ls 1 [(0, .ref (K.2.2.2.1 k))] := hl
  refine va_gets hx hb C.ex.2.2.2.1 h.2.2 C.2.2.2.1 (C.2.2.2.2.1 _ kf_38) (fun _ z => z) dJ0_coder_7d493_0 ?_
  refine lv_if_eq (tgt := 13) hx hb dJ0_coder_7d493_3 (by decide) (fun c => absurd c (by decide)) (fun c => ?_)
  refine lv_aload_n hx hb dJ0_coder_7d493_6 rfl (lv_at hl 0 rfl) ?_
  refine vk_getf hx hb (C.ex.1.1 k hk).2.1 h.2.2 C.2.2.2.1 (C.2.2.2.2.1 _ kf_15) (fun _ z => z) dJ0_coder_7d493_7 ?_
  refine lv_goto (tgt := 14) hx hb dJ0_coder_7d493_10 (by decide) ?_
  exact x_reti (wf := fun (_ : Unit) => ws) (u := ()) (Q := fun r _ => r = 0) C hr rfl h rfl dJ0_coder_7d493_14)
set_option maxHeartbeats 4000000 in
set_option maxRecDepth 100000 in
theorem cj_isLatin1 {l : Launch} {K : KT} {ws : va_W} {k : Nat} (hk : k < 4) : CtU l K yJ0_isLatin1_aae02 cJ0_isLatin1_aae02 1 (some .boolean) 0 0 [.ref (K.2.2.2.1 k)] ws 1 := fun sz => x_met (Qm := fun A => va_Qi (fun (r : Int32) (_ : Unit) => r = 1) (fun _ t => PstW K A ws t) A) (by decide) (Nat.le_of_ble_eq_true rfl) (fun p e s m below meth c A ls C hr h hl => by
  have hx := C.1
  have hb := C.2.1
  have hl : lv_has ls 1 [(0, .ref (K.2.2.2.1 k))] := hl
  refine va_gets hx hb C.ex.2.2.2.1 h.2.2 C.2.2.2.1 (C.2.2.2.2.1 _ kf_38) (fun _ z => z) dJ0_isLatin1_aae02_0 ?_
  refine lv_if_eq (tgt := 17) hx hb dJ0_isLatin1_aae02_3 (by decide) (fun c => absurd c (by decide)) (fun c => ?_)
  refine lv_aload_n hx hb dJ0_isLatin1_aae02_6 rfl (lv_at hl 0 rfl) ?_
  refine vk_getf hx hb (C.ex.1.1 k hk).2.1 h.2.2 C.2.2.2.1 (C.2.2.2.2.1 _ kf_15) (fun _ z => z) dJ0_isLatin1_aae02_7 ?_
  refine lv_if_ne (tgt := 17) hx hb dJ0_isLatin1_aae02_10 (by decide) (fun c => absurd rfl c) (fun c => ?_)
  refine lv_iconst (v := 1) hx hb dJ0_isLatin1_aae02_13 (by decide) ?_
  refine lv_goto (tgt := 18) hx hb dJ0_isLatin1_aae02_14 (by decide) ?_
  exact x_reti (wf := fun (_ : Unit) => ws) (u := ()) (Q := fun r _ => r = 1) C hr rfl h rfl dJ0_isLatin1_aae02_18)
set_option maxHeartbeats 4000000 in
set_option maxRecDepth 100000 in
theorem cj_length {l : Launch} {K : KT} {ws : va_W} {k : Nat} (hk : k < 4) : CtU l K yJ0_length_8abf5 cJ0_length_8abf5 1 (some .int) 1 20 [.ref (K.2.2.2.1 k)] ws (Int32.ofNat (sLen.getD k 0)) := fun sz => x_met (Qm := fun A => va_Qi (fun (r : Int32) (_ : Unit) => r = Int32.ofNat (sLen.getD k 0)) (fun _ t => PstW K A ws t) A) (by decide) (Nat.le_of_ble_eq_true rfl) (fun p e s m below meth c A ls C hr h hl => by
  have hx := C.1
  have hb := C.2.1
  have hl : lv_has ls 1 [(0, .ref (K.2.2.2.1 k))] := hl
  refine lv_aload_n hx hb dJ0_length_8abf5_0 rfl (lv_at hl 0 rfl) ?_
  refine vk_getf hx hb (C.ex.1.1 k hk).2.2.1 h.2.2 C.2.2.2.1 (C.2.2.2.2.1 _ kf_9) (fun _ z => z) dJ0_length_8abf5_1 ?_
  refine va_tlen hx hb (C.ex.1.1 k hk).2.2.2 h.2.2 rfl dJ0_length_8abf5_4 ?_
  refine lv_aload_n hx hb dJ0_length_8abf5_5 rfl (lv_at hl 0 rfl) ?_
  refine x_calli (wf := fun (_ : Unit) => ws) C h (x_runVr (As := []) C h (cj_coder hk s.heap.size) kj_335 (vk_recv C.ex.1 hk h.2.2) rfl hl.1 rfl (Nat.le_of_ble_eq_true rfl) ⟨Nat.le_of_ble_eq_true rfl, Nat.le_of_ble_eq_true rfl⟩ ⟨Nat.zero_le _, Nat.zero_le _⟩ dJ0_length_8abf5_6) (fun r u H locs hr0 h => ?_)
  subst hr0
  refine lv_ishr hx hb dJ0_length_8abf5_9 ?_
  refine x_reti (wf := fun (_ : Unit) => ws) (u := ()) (Q := fun r _ => r = Int32.ofNat (sLen.getD k 0)) C hr rfl h ?_ dJ0_length_8abf5_10
  exact sb_shr0 _)
set_option maxHeartbeats 4000000 in
set_option maxRecDepth 100000 in
theorem cj_pcheck {l : Launch} {K : KT} {ws : va_W} {i n : Int32} (v3 : Value) (hv : v3 = .null ∨ ∃ t : Nat, v3 = .ref t) (h0 : ¬ i < 0) (h1 : i < n) : CtU l K yJ3_checkIndex_8e157 cJ3_checkIndex_8e157 3 (some .int) 0 0 [.int i, .int n, v3] ws i := fun sz => x_met (Qm := fun A => va_Qi (fun (r : Int32) (_ : Unit) => r = i) (fun _ t => PstW K A ws t) A) (by decide) (by rcases hv with rfl | ⟨t, rfl⟩ <;> exact Nat.le_of_ble_eq_true rfl) (fun p e s m below meth c A ls C hr h hl => by
  have hx := C.1
  have hb := C.2.1
  have hl : lv_has ls 3 [(0, .int i), (1, .int n)] := by
    rcases hv with rfl | ⟨t, rfl⟩
    · exact lv_sub hl [0, 1] rfl
    · exact lv_sub hl [0, 1] rfl
  refine lv_iload_n hx hb dJ3_checkIndex_8e157_0 rfl (lv_at hl 0 rfl) ?_
  refine lv_if_lt (tgt := 9) hx hb dJ3_checkIndex_8e157_1 (by decide) (fun c => absurd c h0) (fun c => ?_)
  refine lv_iload_n hx hb dJ3_checkIndex_8e157_4 rfl (lv_at hl 0 rfl) ?_
  refine lv_iload_n hx hb dJ3_checkIndex_8e157_5 rfl (lv_at hl 1 rfl) ?_
  refine lv_icmp_lt (tgt := 16) hx hb dJ3_checkIndex_8e157_6 (by decide) (fun c => ?_) (fun c => absurd h1 c)
  refine lv_iload_n hx hb dJ3_checkIndex_8e157_16 rfl (lv_at hl 0 rfl) ?_
  exact x_reti (wf := fun (_ : Unit) => ws) (u := ()) (Q := fun r _ => r = i) C hr rfl h rfl dJ3_checkIndex_8e157_17)
set_option maxHeartbeats 4000000 in
set_option maxRecDepth 100000 in
theorem cj_scheck {l : Launch} {K : KT} {ws : va_W} {i n : Int32} (h0 : ¬ i < 0) (h1 : i < n) : CtUv l K yJ0_checkIndex_df160 cJ0_checkIndex_df160 2 none 1 22 [.int i, .int n] ws := fun sz => x_met (Qm := fun A => va_Qv (fun (_ : Unit) => True) (fun _ t => PstW K A ws t) A) (by decide) (Nat.le_of_ble_eq_true rfl) (fun p e s m below meth c A ls C hr h hl => by
  have hx := C.1
  have hb := C.2.1
  have hl : lv_has ls 2 [(0, .int i), (1, .int n)] := hl
  refine lv_iload_n hx hb dJ0_checkIndex_df160_0 rfl (lv_at hl 0 rfl) ?_
  refine lv_iload_n hx hb dJ0_checkIndex_df160_1 rfl (lv_at hl 1 rfl) ?_
  have key : ∀ v3 : Value, (v3 = .null ∨ ∃ t : Nat, v3 = .ref t) → va_Z "jdk/internal/util/Preconditions" "SIOOBE_FORMATTER" "Ljava/util/function/BiFunction;" v3 A s s.heap → W p l e (rmK 1 22) s m [Value.int i, Value.int n].toArray below meth c s.heap [] 0 0 (MQ below (va_Qv (fun (_ : Unit) => True) (fun _ t => PstW K A ws t) A) [Value.int i, Value.int n].toArray s 0 0 A) (F0 m 2 ls [.int n, .int i]) := by
    intro v3 hv hZ
    refine va_gets hx hb hZ h.2.2 C.2.2.2.1 (C.2.2.2.2.1 _ kf_1053) (fun _ z => z) dJ0_checkIndex_df160_2 ?_
    refine x_calli (wf := fun (_ : Unit) => ws) (rest := []) C h (x_runSo (As := [.int i, .int n, v3]) C h (cj_pcheck v3 hv h0 h1 s.heap.size) kj_1059 rfl hl.1 rfl (Nat.le_of_ble_eq_true rfl) ⟨Nat.le_of_ble_eq_true rfl, Nat.le_of_ble_eq_true rfl⟩ ⟨Nat.zero_le _, Nat.zero_le _⟩ dJ0_checkIndex_df160_5) (fun r u H locs hr0 h => ?_)
    refine lv_pop hx hb dJ0_checkIndex_df160_8 rfl ?_
    exact x_retv (wf := fun (_ : Unit) => ws) (u := ()) (Q := fun _ => True) C hr h trivial dJ0_checkIndex_df160_9
  rcases C.ex.2.2.2.2.1 with hZ | ⟨t, hZ⟩
  · exact key _ (Or.inl rfl) hZ
  · exact key _ (Or.inr ⟨t, rfl⟩) hZ)
set_option maxHeartbeats 4000000 in
set_option maxRecDepth 100000 in
theorem cj_lcharAt {l : Launch} {K : KT} {ws : va_W} {k : Nat} {i : Int32} (hk : k < 4) (hi : vp_in i (sLen.getD k 0)) : CtU l K yJ1_charAt_3b067 cJ1_charAt_3b067 2 (some .char) 2 43 [.ref (K.2.2.2.2 k), .int i] ws (sC k i.toNatClampNeg) := fun sz => x_met (Qm := fun A => va_Qi (fun (r : Int32) (_ : Unit) => r = sC k i.toNatClampNeg) (fun _ t => PstW K A ws t) A) (by decide) (Nat.le_of_ble_eq_true rfl) (fun p e s m below meth c A ls C hr h hl => by
  have hx := C.1
  have hb := C.2.1
  have hl : lv_has ls 2 [(0, .ref (K.2.2.2.2 k)), (1, .int i)] := hl
  have hlt := in_lt hi
  have h7 := sLen_ok k hk
  have hs := sC_ok k hk _ (Nat.lt_of_lt_of_le hlt h7)
  have h0 : ¬ i < 0 := fun q => hi (Or.inl q)
  have h1 : i < Int32.ofNat (sLen.getD k 0) := by
    obtain ⟨j, hj, rfl⟩ := vp_in_of hi (by omega)
    exact nI_lt hj (by omega)
  refine lv_iload_n hx hb dJ1_charAt_3b067_0 rfl (lv_at hl 1 rfl) ?_
  refine lv_aload_n hx hb dJ1_charAt_3b067_1 rfl (lv_at hl 0 rfl) ?_
  refine va_tlen hx hb (C.ex.1.1 k hk).2.2.2 h.2.2 rfl dJ1_charAt_3b067_2 ?_
  refine x_callv (wf := fun (_ : Unit) => ws) C h (x_runSo (As := [.int i, .int (Int32.ofNat (sLen.getD k 0))]) C h (cj_scheck h0 h1 s.heap.size) kj_9 rfl hl.1 rfl (Nat.le_of_ble_eq_true rfl) ⟨Nat.le_of_ble_eq_true rfl, Nat.le_of_ble_eq_true rfl⟩ ⟨Nat.zero_le _, Nat.zero_le _⟩ dJ1_charAt_3b067_3) (fun u H locs hr0 h => ?_)
  refine lv_aload_n hx hb dJ1_charAt_3b067_6 rfl (lv_at hl 0 rfl) ?_
  refine lv_iload_n hx hb dJ1_charAt_3b067_7 rfl (lv_at hl 1 rfl) ?_
  refine va_tb hx hb (C.ex.1.1 k hk).2.2.2 h.2.2 hi (v := .int (sC k i.toNatClampNeg)) rfl dJ1_charAt_3b067_8 ?_
  refine lv_sipush (v := 255) hx hb dJ1_charAt_3b067_9 (by decide) ?_
  refine lv_iand hx hb dJ1_charAt_3b067_12 ?_
  refine lv_i2c hx hb dJ1_charAt_3b067_13 hs.1 ?_
  exact x_reti (wf := fun (_ : Unit) => ws) (u := ()) (Q := fun r _ => r = sC k i.toNatClampNeg) C hr hs.2 h rfl dJ1_charAt_3b067_14)
set_option maxHeartbeats 4000000 in
set_option maxRecDepth 100000 in
theorem cj_charAt {l : Launch} {K : KT} {ws : va_W} {k : Nat} {i : Int32} (hk : k < 4) (hi : vp_in i (sLen.getD k 0)) : CtU l K yJ0_charAt_5068e cJ0_charAt_5068e 2 (some .char) 3 64 [.ref (K.2.2.2.1 k), .int i] ws (sC k i.toNatClampNeg) := fun sz => x_met (Qm := fun A => va_Qi (fun (r : Int32) (_ : Unit) => r = sC k i.toNatClampNeg) (fun _ t => PstW K A ws t) A) (by decide) (Nat.le_of_ble_eq_true rfl) (fun p e s m below meth c A ls C hr h hl => by
  have hx := C.1
  have hb := C.2.1
  have hl : lv_has ls 2 [(0, .ref (K.2.2.2.1 k)), (1, .int i)] := hl
  have hs := sC_ok k hk _ (Nat.lt_of_lt_of_le (in_lt hi) (sLen_ok k hk))
  refine lv_aload_n hx hb dJ0_charAt_5068e_0 rfl (lv_at hl 0 rfl) ?_
  refine x_calli (wf := fun (_ : Unit) => ws) (rest := []) C h (x_runVr (As := []) C h (cj_isLatin1 hk s.heap.size) kj_492 (vk_recv C.ex.1 hk h.2.2) rfl hl.1 rfl (Nat.le_of_ble_eq_true rfl) ⟨Nat.le_of_ble_eq_true rfl, Nat.le_of_ble_eq_true rfl⟩ ⟨Nat.zero_le _, Nat.zero_le _⟩ dJ0_charAt_5068e_1) (fun r u H locs hr0 h => ?_)
  subst hr0
  refine lv_if_eq (tgt := 16) hx hb dJ0_charAt_5068e_4 (by decide) (fun c => absurd c (by decide)) (fun c => ?_)
  refine lv_aload_n hx hb dJ0_charAt_5068e_7 rfl (lv_at hl 0 rfl) ?_
  refine vk_getf hx hb (C.ex.1.1 k hk).2.2.1 h.2.2 C.2.2.2.1 (C.2.2.2.2.1 _ kf_9) (fun _ z => z) dJ0_charAt_5068e_8 ?_
  refine lv_iload_n hx hb dJ0_charAt_5068e_11 rfl (lv_at hl 1 rfl) ?_
  refine x_calli (wf := fun (_ : Unit) => ws) (rest := []) C h (x_runSo (As := [.ref (K.2.2.2.2 k), .int i]) C h (cj_lcharAt hk hi H.size) kj_495 rfl hl.1 rfl (Nat.le_of_ble_eq_true rfl) ⟨Nat.le_of_ble_eq_true rfl, Nat.le_of_ble_eq_true rfl⟩ ⟨Nat.zero_le _, Nat.zero_le _⟩ dJ0_charAt_5068e_12) (fun r u H locs hr0 h => ?_)
  subst hr0
  exact x_reti (wf := fun (_ : Unit) => ws) (u := ()) (Q := fun r _ => r = sC k i.toNatClampNeg) C hr hs.2 h rfl dJ0_charAt_5068e_15)
section STR2
variable {p : Program} {l : Launch} {e : Env} {R : Room} {s : State} {m : MethodId} {args : Array Value} {below : List Frame} {meth : Method} {c : Code} {H : Heap} {locs : List Loc} {cells slots : Nat} {Z : State → Prop}
variable {K : KT} {A : Nat → Prop} {cc : ByteArray} {nL : Nat} {ws : va_W} {pc : Nat} {ls : Array Slot} {rest : List Value}
theorem x_strlen_0 (C : CX p s m args meth c K A cc nL RX3) (h : WD K A s ws H locs) (hsz : ls.size = nL) (hW : (rest.map fun v => v.category).sum ≤ 8) (hR : 2 ≤ R.frames ∧ 60 ≤ R.locals) (hcs : cells ≤ R.cells ∧ slots ≤ R.slots) (hdg : decode cc pc = .ok (.invokevirtual 115, 3))
    (kk : ∀ (H1 : Heap) (locs1 : List Loc), WD K A s ws H1 locs1 → W p l e R s m args below meth c H1 locs1 cells slots Z (F0 m (pc + 3) ls (.int 4 :: rest))) : W p l e R s m args below meth c H locs cells slots Z (F0 m pc ls (.ref (K.2.2.2.1 0) :: rest)) := by
  refine x_calli (wf := fun (_ : Unit) => ws) C h (x_runVr (As := []) (rest := rest) C h (cj_length (k := 0) (by decide) H.size) kj_115 (vk_recv C.ex.1 (by decide) h.2.2) rfl hsz rfl hW ⟨Nat.le_trans (Nat.le_of_ble_eq_true rfl) hR.1, Nat.le_trans (Nat.le_of_ble_eq_true rfl) hR.2⟩ hcs hdg) (fun r u H1 locs1 hr0 h1 => ?_)
  rw [show r = 4 from hr0]
  exact kk H1 locs1 h1
theorem x_charAt_0 {i : Int32} (C : CX p s m args meth c K A cc nL RX3) (h : WD K A s ws H locs) (hi : vp_in i 4) (hsz : ls.size = nL) (hW : (rest.map fun v => v.category).sum ≤ 8) (hR : 4 ≤ R.frames ∧ 120 ≤ R.locals) (hcs : cells ≤ R.cells ∧ slots ≤ R.slots) (hdg : decode cc pc = .ok (.invokevirtual 119, 3))
    (kk : ∀ (H1 : Heap) (locs1 : List Loc), WD K A s ws H1 locs1 → W p l e R s m args below meth c H1 locs1 cells slots Z (F0 m (pc + 3) ls (.int (sC 0 i.toNatClampNeg) :: rest))) : W p l e R s m args below meth c H locs cells slots Z (F0 m pc ls (.int i :: .ref (K.2.2.2.1 0) :: rest)) := by
  refine x_calli (wf := fun (_ : Unit) => ws) C h (x_runVr (As := [.int i]) (rest := rest) C h (cj_charAt (k := 0) (by decide) hi H.size) kj_119 (vk_recv C.ex.1 (by decide) h.2.2) rfl hsz rfl hW ⟨Nat.le_trans (Nat.le_of_ble_eq_true rfl) hR.1, Nat.le_trans (Nat.le_of_ble_eq_true rfl) hR.2⟩ hcs hdg) (fun r u H1 locs1 hr0 h1 => ?_)
  rw [show r = sC 0 i.toNatClampNeg from hr0]
  exact kk H1 locs1 h1
theorem x_strlen_1 (C : CX p s m args meth c K A cc nL RX3) (h : WD K A s ws H locs) (hsz : ls.size = nL) (hW : (rest.map fun v => v.category).sum ≤ 8) (hR : 2 ≤ R.frames ∧ 60 ≤ R.locals) (hcs : cells ≤ R.cells ∧ slots ≤ R.slots) (hdg : decode cc pc = .ok (.invokevirtual 115, 3))
    (kk : ∀ (H1 : Heap) (locs1 : List Loc), WD K A s ws H1 locs1 → W p l e R s m args below meth c H1 locs1 cells slots Z (F0 m (pc + 3) ls (.int 4 :: rest))) : W p l e R s m args below meth c H locs cells slots Z (F0 m pc ls (.ref (K.2.2.2.1 1) :: rest)) := by
  refine x_calli (wf := fun (_ : Unit) => ws) C h (x_runVr (As := []) (rest := rest) C h (cj_length (k := 1) (by decide) H.size) kj_115 (vk_recv C.ex.1 (by decide) h.2.2) rfl hsz rfl hW ⟨Nat.le_trans (Nat.le_of_ble_eq_true rfl) hR.1, Nat.le_trans (Nat.le_of_ble_eq_true rfl) hR.2⟩ hcs hdg) (fun r u H1 locs1 hr0 h1 => ?_)
  rw [show r = 4 from hr0]
  exact kk H1 locs1 h1
theorem x_charAt_1 {i : Int32} (C : CX p s m args meth c K A cc nL RX3) (h : WD K A s ws H locs) (hi : vp_in i 4) (hsz : ls.size = nL) (hW : (rest.map fun v => v.category).sum ≤ 8) (hR : 4 ≤ R.frames ∧ 120 ≤ R.locals) (hcs : cells ≤ R.cells ∧ slots ≤ R.slots) (hdg : decode cc pc = .ok (.invokevirtual 119, 3))
    (kk : ∀ (H1 : Heap) (locs1 : List Loc), WD K A s ws H1 locs1 → W p l e R s m args below meth c H1 locs1 cells slots Z (F0 m (pc + 3) ls (.int (sC 1 i.toNatClampNeg) :: rest))) : W p l e R s m args below meth c H locs cells slots Z (F0 m pc ls (.int i :: .ref (K.2.2.2.1 1) :: rest)) := by
  refine x_calli (wf := fun (_ : Unit) => ws) C h (x_runVr (As := [.int i]) (rest := rest) C h (cj_charAt (k := 1) (by decide) hi H.size) kj_119 (vk_recv C.ex.1 (by decide) h.2.2) rfl hsz rfl hW ⟨Nat.le_trans (Nat.le_of_ble_eq_true rfl) hR.1, Nat.le_trans (Nat.le_of_ble_eq_true rfl) hR.2⟩ hcs hdg) (fun r u H1 locs1 hr0 h1 => ?_)
  rw [show r = sC 1 i.toNatClampNeg from hr0]
  exact kk H1 locs1 h1
theorem x_strlen_2 (C : CX p s m args meth c K A cc nL RX3) (h : WD K A s ws H locs) (hsz : ls.size = nL) (hW : (rest.map fun v => v.category).sum ≤ 8) (hR : 2 ≤ R.frames ∧ 60 ≤ R.locals) (hcs : cells ≤ R.cells ∧ slots ≤ R.slots) (hdg : decode cc pc = .ok (.invokevirtual 115, 3))
    (kk : ∀ (H1 : Heap) (locs1 : List Loc), WD K A s ws H1 locs1 → W p l e R s m args below meth c H1 locs1 cells slots Z (F0 m (pc + 3) ls (.int 4 :: rest))) : W p l e R s m args below meth c H locs cells slots Z (F0 m pc ls (.ref (K.2.2.2.1 2) :: rest)) := by
  refine x_calli (wf := fun (_ : Unit) => ws) C h (x_runVr (As := []) (rest := rest) C h (cj_length (k := 2) (by decide) H.size) kj_115 (vk_recv C.ex.1 (by decide) h.2.2) rfl hsz rfl hW ⟨Nat.le_trans (Nat.le_of_ble_eq_true rfl) hR.1, Nat.le_trans (Nat.le_of_ble_eq_true rfl) hR.2⟩ hcs hdg) (fun r u H1 locs1 hr0 h1 => ?_)
  rw [show r = 4 from hr0]
  exact kk H1 locs1 h1
theorem x_charAt_2 {i : Int32} (C : CX p s m args meth c K A cc nL RX3) (h : WD K A s ws H locs) (hi : vp_in i 4) (hsz : ls.size = nL) (hW : (rest.map fun v => v.category).sum ≤ 8) (hR : 4 ≤ R.frames ∧ 120 ≤ R.locals) (hcs : cells ≤ R.cells ∧ slots ≤ R.slots) (hdg : decode cc pc = .ok (.invokevirtual 119, 3))
    (kk : ∀ (H1 : Heap) (locs1 : List Loc), WD K A s ws H1 locs1 → W p l e R s m args below meth c H1 locs1 cells slots Z (F0 m (pc + 3) ls (.int (sC 2 i.toNatClampNeg) :: rest))) : W p l e R s m args below meth c H locs cells slots Z (F0 m pc ls (.int i :: .ref (K.2.2.2.1 2) :: rest)) := by
  refine x_calli (wf := fun (_ : Unit) => ws) C h (x_runVr (As := [.int i]) (rest := rest) C h (cj_charAt (k := 2) (by decide) hi H.size) kj_119 (vk_recv C.ex.1 (by decide) h.2.2) rfl hsz rfl hW ⟨Nat.le_trans (Nat.le_of_ble_eq_true rfl) hR.1, Nat.le_trans (Nat.le_of_ble_eq_true rfl) hR.2⟩ hcs hdg) (fun r u H1 locs1 hr0 h1 => ?_)
  rw [show r = sC 2 i.toNatClampNeg from hr0]
  exact kk H1 locs1 h1
theorem x_strlen_3 (C : CX p s m args meth c K A cc nL RX3) (h : WD K A s ws H locs) (hsz : ls.size = nL) (hW : (rest.map fun v => v.category).sum ≤ 8) (hR : 2 ≤ R.frames ∧ 60 ≤ R.locals) (hcs : cells ≤ R.cells ∧ slots ≤ R.slots) (hdg : decode cc pc = .ok (.invokevirtual 115, 3))
    (kk : ∀ (H1 : Heap) (locs1 : List Loc), WD K A s ws H1 locs1 → W p l e R s m args below meth c H1 locs1 cells slots Z (F0 m (pc + 3) ls (.int 7 :: rest))) : W p l e R s m args below meth c H locs cells slots Z (F0 m pc ls (.ref (K.2.2.2.1 3) :: rest)) := by
  refine x_calli (wf := fun (_ : Unit) => ws) C h (x_runVr (As := []) (rest := rest) C h (cj_length (k := 3) (by decide) H.size) kj_115 (vk_recv C.ex.1 (by decide) h.2.2) rfl hsz rfl hW ⟨Nat.le_trans (Nat.le_of_ble_eq_true rfl) hR.1, Nat.le_trans (Nat.le_of_ble_eq_true rfl) hR.2⟩ hcs hdg) (fun r u H1 locs1 hr0 h1 => ?_)
  rw [show r = 7 from hr0]
  exact kk H1 locs1 h1
theorem x_charAt_3 {i : Int32} (C : CX p s m args meth c K A cc nL RX3) (h : WD K A s ws H locs) (hi : vp_in i 7) (hsz : ls.size = nL) (hW : (rest.map fun v => v.category).sum ≤ 8) (hR : 4 ≤ R.frames ∧ 120 ≤ R.locals) (hcs : cells ≤ R.cells ∧ slots ≤ R.slots) (hdg : decode cc pc = .ok (.invokevirtual 119, 3))
    (kk : ∀ (H1 : Heap) (locs1 : List Loc), WD K A s ws H1 locs1 → W p l e R s m args below meth c H1 locs1 cells slots Z (F0 m (pc + 3) ls (.int (sC 3 i.toNatClampNeg) :: rest))) : W p l e R s m args below meth c H locs cells slots Z (F0 m pc ls (.int i :: .ref (K.2.2.2.1 3) :: rest)) := by
  refine x_calli (wf := fun (_ : Unit) => ws) C h (x_runVr (As := [.int i]) (rest := rest) C h (cj_charAt (k := 3) (by decide) hi H.size) kj_119 (vk_recv C.ex.1 (by decide) h.2.2) rfl hsz rfl hW ⟨Nat.le_trans (Nat.le_of_ble_eq_true rfl) hR.1, Nat.le_trans (Nat.le_of_ble_eq_true rfl) hR.2⟩ hcs hdg) (fun r u H1 locs1 hr0 h1 => ?_)
  rw [show r = sC 3 i.toNatClampNeg from hr0]
  exact kk H1 locs1 h1
end STR2

