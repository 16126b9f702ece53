def ownr (n : Nat) : Nat := bif Nat.ble 300 n then 3 else bif Nat.ble 100 n then 5 else ad [(0, 0), (1, 1), (2, 2), (3, 3), (4, 4), (5, 5), (6, 6), (7, 7), (10, 3), (11, 4), (12, 4), (13, 4), (14, 4), (15, 4), (16, 5), (17, 5), (18, 5), (19, 6), (20, 6), (21, 6), (22, 6), (23, 7), (24, 7), (25, 7), (26, 7), (27, 7), (28, 7), (29, 7), (30, 7), (31, 7), (40, 1), (41, 2), (42, 2), (43, 3), (44, 5), (45, 5), (46, 4), (47, 4)] (fun _ => 0) n
def comb (a0 : Nat) (a1 a2 a3 a4 a5 a6 a7 : Nat → Nat) : Nat → Nat := fun n => match ownr n with
  | 0 => a0
  | 1 => a1 n
  | 2 => a2 n
  | 3 => a3 n
  | 4 => a4 n
  | 5 => a5 n
  | 6 => a6 n
  | _ => a7 n
theorem ownr_3 (i : Nat) : ownr (i + 300) = 3 := by unfold ownr; rw [Nat.ble_eq_true_of_le (by omega)]; rfl
theorem ble_no {a b : Nat} (h : b < a) : Nat.ble a b = false := by
  cases hb : Nat.ble a b with
  | false => rfl
  | true => exact absurd (Nat.le_of_ble_eq_true hb) (by omega)
theorem ownr_1 {i : Nat} (h : i < 40) : ownr (i + 100) = 5 := by unfold ownr; rw [ble_no (by omega), Nat.ble_eq_true_of_le (by omega)]; rfl
theorem ownr_2 {i : Nat} (h : i < 40) : ownr (i + 200) = 5 := by unfold ownr; rw [ble_no (by omega), Nat.ble_eq_true_of_le (by omega)]; rfl
theorem asm (b1 b2 b3 b4 b5 b6 b7 y3 y5 : va_W) : List.Perm (((((((b1 ++ []) ++ (b2 ++ [])) ++ (b3 ++ y3)) ++ (b4 ++ [])) ++ (b5 ++ y5)) ++ (b6 ++ [])) ++ (b7 ++ [])) ((b1 ++ (b2 ++ (b3 ++ (b4 ++ (b5 ++ (b6 ++ b7)))))) ++ (y3 ++ y5)) := by
  simp only [List.append_nil, List.append_assoc]
  refine List.Perm.append_left b1 (List.Perm.append_left b2 (List.Perm.append_left b3 ?_))
  refine List.perm_append_comm.trans ?_
  simp only [List.append_assoc]
  refine List.Perm.append_left b4 (List.Perm.append_left b5 ?_)
  refine List.perm_append_comm.trans ?_
  simp only [List.append_assoc]
  exact List.Perm.refl _
theorem kn_7_7 : LkNew RX7 7 6 [.null, .int 0] := ⟨RX6, TX6, 2, tyX6, rfl, rfl, inT_6, tyX6_ok, tb_in 68 (by decide +kernel) rfl, tb_in 69 (by decide +kernel) rfl, tb_in 42 (by decide +kernel) rfl, by decide⟩
theorem ki_7_9 : LkI RX7 9 yX6_init cX6_init := ⟨by decide +kernel, rfl, Or.inl (by decide +kernel), tb_in 71 (by decide +kernel) rfl, tb_in 42 (by decide +kernel) rfl, tb_in 72 (by decide +kernel) rfl⟩
theorem ff_7_10 : FPf RX7 10 7 0 (.object "HorseFair$Tape") := ⟨TX7, 9, tyX7, rfl, inT_7, by decide, lw_7_10, tyX7_ok, nmX7, rfl, rfl, by decide +kernel⟩
theorem kn_7_16 : LkNew RX7 16 3 [.null, .null, .int 0, .int 0, .int 0, .int 0, .int 0, .int 0, .int 0] := ⟨RX3, TX3, 9, tyX3, rfl, rfl, inT_3, tyX3_ok, tb_in 84 (by decide +kernel) rfl, tb_in 85 (by decide +kernel) rfl, tb_in 43 (by decide +kernel) rfl, by decide⟩
theorem ki_7_18 : LkI RX7 18 yX3_init cX3_init := ⟨by decide +kernel, rfl, Or.inl (by decide +kernel), tb_in 87 (by decide +kernel) rfl, tb_in 43 (by decide +kernel) rfl, tb_in 88 (by decide +kernel) rfl⟩
theorem ff_7_19 : FPf RX7 19 7 1 (.object "HorseFair$LawReader") := ⟨TX7, 9, tyX7, rfl, inT_7, by decide, lw_7_19, tyX7_ok, nmX7, rfl, rfl, by decide +kernel⟩
theorem kn_7_23 : LkNew RX7 23 2 [.null, .null] := ⟨RX2, TX2, 2, tyX2, rfl, rfl, inT_2, tyX2_ok, tb_in 124 (by decide +kernel) rfl, tb_in 125 (by decide +kernel) rfl, tb_in 44 (by decide +kernel) rfl, by decide⟩
theorem ki_7_25 : LkI RX7 25 yX2_init cX2_init := ⟨by decide +kernel, rfl, Or.inl (by decide +kernel), tb_in 127 (by decide +kernel) rfl, tb_in 44 (by decide +kernel) rfl, tb_in 128 (by decide +kernel) rfl⟩
theorem ff_7_26 : FPf RX7 26 7 2 (.object "HorseFair$Lands") := ⟨TX7, 9, tyX7, rfl, inT_7, by decide, lw_7_26, tyX7_ok, nmX7, rfl, rfl, by decide +kernel⟩
theorem kn_7_30 : LkNew RX7 30 4 [.null, .int 0, .int 0, .null, .null, .null, .null, .int 0, .int 0, .null, .null] := ⟨RX4, TX4, 11, tyX4, rfl, rfl, inT_4, tyX4_ok, tb_in 140 (by decide +kernel) rfl, tb_in 141 (by decide +kernel) rfl, tb_in 45 (by decide +kernel) rfl, by decide⟩
theorem ki_7_32 : LkI RX7 32 yX4_init cX4_init := ⟨by decide +kernel, rfl, Or.inl (by decide +kernel), tb_in 143 (by decide +kernel) rfl, tb_in 45 (by decide +kernel) rfl, tb_in 144 (by decide +kernel) rfl⟩
theorem ff_7_33 : FPf RX7 33 7 3 (.object "HorseFair$Money") := ⟨TX7, 9, tyX7, rfl, inT_7, by decide, lw_7_33, tyX7_ok, nmX7, rfl, rfl, by decide +kernel⟩
theorem kn_7_37 : LkNew RX7 37 1 [.null, .null, .null, .null, .null, .int 0] := ⟨RX1, TX1, 6, tyX1, rfl, rfl, inT_1, tyX1_ok, tb_in 187 (by decide +kernel) rfl, tb_in 188 (by decide +kernel) rfl, tb_in 46 (by decide +kernel) rfl, by decide⟩
theorem ki_7_39 : LkI RX7 39 yX1_init cX1_init := ⟨by decide +kernel, rfl, Or.inl (by decide +kernel), tb_in 190 (by decide +kernel) rfl, tb_in 46 (by decide +kernel) rfl, tb_in 191 (by decide +kernel) rfl⟩
theorem ff_7_40 : FPf RX7 40 7 4 (.object "HorseFair$Horses") := ⟨TX7, 9, tyX7, rfl, inT_7, by decide, lw_7_40, tyX7_ok, nmX7, rfl, rfl, by decide +kernel⟩
theorem kn_7_44 : LkNew RX7 44 0 [.null, .null, .null, .null, .int 0] := ⟨RX0, TX0, 5, tyX0, rfl, rfl, inT_0, tyX0_ok, tb_in 219 (by decide +kernel) rfl, tb_in 220 (by decide +kernel) rfl, tb_in 47 (by decide +kernel) rfl, by decide⟩
theorem ki_7_46 : LkI RX7 46 yX0_init cX0_init := ⟨by decide +kernel, rfl, Or.inl (by decide +kernel), tb_in 222 (by decide +kernel) rfl, tb_in 47 (by decide +kernel) rfl, tb_in 223 (by decide +kernel) rfl⟩
theorem ff_7_47 : FPf RX7 47 7 5 (.object "HorseFair$Hands") := ⟨TX7, 9, tyX7, rfl, inT_7, by decide, lw_7_47, tyX7_ok, nmX7, rfl, rfl, by decide +kernel⟩
theorem kn_7_51 : LkNew RX7 51 5 [.null, .null, .null, .null, .null, .null, .null, .null, .null, .int 0] := ⟨RX5, TX5, 10, tyX5, rfl, rfl, inT_5, tyX5_ok, tb_in 245 (by decide +kernel) rfl, tb_in 246 (by decide +kernel) rfl, tb_in 48 (by decide +kernel) rfl, by decide⟩
theorem ki_7_53 : LkI RX7 53 yX5_init cX5_init := ⟨by decide +kernel, rfl, Or.inl (by decide +kernel), tb_in 248 (by decide +kernel) rfl, tb_in 48 (by decide +kernel) rfl, tb_in 249 (by decide +kernel) rfl⟩
theorem ff_7_54 : FPf RX7 54 7 6 (.object "HorseFair$Sales") := ⟨TX7, 9, tyX7, rfl, inT_7, by decide, lw_7_54, tyX7_ok, nmX7, rfl, rfl, by decide +kernel⟩
set_option maxRecDepth 100000 in
theorem comb_perm (K : KT) (h0 : Nat) (a1 a2 a3 a4 a5 a6 a7 : Nat → Nat) : List.Perm ([(h0, .inr (7, [.ref (a1 1), .ref (a2 2), .ref (a3 3), .ref (a4 4), .ref (a5 5), .ref (a6 6), .ref (a7 7), .int 0, .int 0]))] ++ ((((((((bX1 K a1 F00 G00 ++ yX1 K a1 G00) ++ (bX2 K a2 F00 G00 ++ yX2 K a2 G00)) ++ (bX3 K a3 F00 G00 ++ yX3 K a3 G00)) ++ (bX4 K a4 F00 G00 ++ yX4 K a4 G00)) ++ (bX5 K a5 F00 G00 ++ yX5 K a5 G00)) ++ (bX6 K a6 F00 G00 ++ yX6 K a6 G00)) ++ (bX7 K a7 F00 G00 ++ yX7 K a7 G00)))) (wX K (comb h0 a1 a2 a3 a4 a5 a6 a7) F00 G00) := by
  have c3 : ∀ i, (comb h0 a1 a2 a3 a4 a5 a6 a7) (i + 300) = a3 (i + 300) := fun i => by unfold comb; rw [ownr_3]; rfl
  have c1 : ∀ i, i < 40 → (comb h0 a1 a2 a3 a4 a5 a6 a7) (i + 100) = a5 (i + 100) := fun i hi => by unfold comb; rw [ownr_1 hi]; rfl
  have c2 : ∀ i, i < 40 → (comb h0 a1 a2 a3 a4 a5 a6 a7) (i + 200) = a5 (i + 200) := fun i hi => by unfold comb; rw [ownr_2 hi]; rfl
  have p3 : bX3 K (comb h0 a1 a2 a3 a4 a5 a6 a7) F00 G00 = bX3 K a3 F00 G00 := by unfold bX3; simp only [c3]; rfl
  have o1 : (fun i => if i < 40 then some ((comb h0 a1 a2 a3 a4 a5 a6 a7) (i + 100)) else none) = (fun i => if i < 40 then some (a5 (i + 100)) else none) := funext fun i => by by_cases hi : i < 40; rw [if_pos hi, if_pos hi, c1 i hi]; rw [if_neg hi, if_neg hi]
  have o2 : (fun i => if i < 40 then some ((comb h0 a1 a2 a3 a4 a5 a6 a7) (i + 200)) else none) = (fun i => if i < 40 then some (a5 (i + 200)) else none) := funext fun i => by by_cases hi : i < 40; rw [if_pos hi, if_pos hi, c2 i hi]; rw [if_neg hi, if_neg hi]
  have p5 : bX5 K (comb h0 a1 a2 a3 a4 a5 a6 a7) F00 G00 = bX5 K a5 F00 G00 := by unfold bX5; rw [o1, o2]; rfl
  have r3 : yX3 K (comb h0 a1 a2 a3 a4 a5 a6 a7) G00 = yX3 K a3 G00 := by unfold yX3 rowsX; simp only [c3]
  have r5 : yX5 K (comb h0 a1 a2 a3 a4 a5 a6 a7) G00 = yX5 K a5 G00 := by
    unfold yX5 rowsX
    rw [List.map_congr_left (fun i hi => by rw [c1 i (List.mem_range.mp hi)]), List.map_congr_left (l := List.range 40) (f := fun i => ((comb h0 a1 a2 a3 a4 a5 a6 a7) (i + 200), _)) (fun i hi => by rw [c2 i (List.mem_range.mp hi)])]
  have e : wX K (comb h0 a1 a2 a3 a4 a5 a6 a7) F00 G00 = [(h0, .inr (7, [.ref (a1 1), .ref (a2 2), .ref (a3 3), .ref (a4 4), .ref (a5 5), .ref (a6 6), .ref (a7 7), .int 0, .int 0]))] ++ ((bX1 K a1 F00 G00 ++ (bX2 K a2 F00 G00 ++ (bX3 K a3 F00 G00 ++ (bX4 K a4 F00 G00 ++ (bX5 K a5 F00 G00 ++ (bX6 K a6 F00 G00 ++ bX7 K a7 F00 G00)))))) ++ (yX3 K a3 G00 ++ yX5 K a5 G00)) := by
    rw [← p3, ← p5, ← r3, ← r5]; rfl
  rw [e]
  exact List.Perm.append_left _ (asm _ _ _ _ _ _ _ _ _)
set_option maxHeartbeats 4000000 in
set_option maxRecDepth 100000 in
theorem c_X7_init {l : Launch} {K : KT} (h0 : Nat) : CtN l K yX7_init cX7_init 2 32 120 3873 h0 7 [.null, .null, .null, .null, .null, .null, .null, .int 0, .int 0] (fun u => u 0 = h0) (fun u => wX K u F00 G00) := x_metN (by decide) rfl (fun p e s m below meth c A ls C hin hr h hl => by
  have hx := C.1
  have hb := C.2.1
  have h : WD K A s ([(h0, .inr (7, [.null, .null, .null, .null, .null, .null, .null, .int 0, .int 0]))] ++ []) s.heap [] := h
  refine lv_aload_n hx hb dX7_init_0 rfl (lv_at hl 0 rfl) ?_
  refine x_obj C ko_7 hl.1 ⟨Nat.le_of_ble_eq_true rfl, Nat.le_of_ble_eq_true rfl⟩ dX7_init_1 ?_
  refine lv_aload_n hx hb dX7_init_4 rfl (lv_at hl 0 rfl) ?_
  refine x_new (ci := 6) (fs := [.null, .int 0]) C h kn_7_7 (Nat.le_of_ble_eq_true rfl) (Nat.le_of_ble_eq_true rfl) dX7_init_5 (fun q H h5 => ?_)
  refine lv_dup hx hb dX7_init_8 rfl ?_
  refine x_callN C h5 (c_X6_init q) ki_7_9 hl.1 (Nat.le_of_ble_eq_true rfl) ⟨Nat.le_of_ble_eq_true rfl, Nat.le_of_ble_eq_true rfl⟩ ⟨Nat.le_of_ble_eq_true rfl, Nat.le_of_ble_eq_true rfl⟩ dX7_init_9 (fun a1 H locs e1 h => ?_)
  subst e1
  have h : WD K A s ([(h0, .inr (7, [.null, .null, .null, .null, .null, .null, .null, .int 0, .int 0]))] ++ ((bX1 K a1 F00 G00 ++ yX1 K a1 G00))) H _ := h
  refine x_putF (ws1 := [(h0, .inr (7, [.ref (a1 1), .null, .null, .null, .null, .null, .null, .int 0, .int 0]))] ++ ((bX1 K a1 F00 G00 ++ yX1 K a1 G00))) C hin h (q0 := 0) rfl ff_7_10 rfl rfl (Nat.le_of_ble_eq_true rfl) rfl dX7_init_12 (fun H locs h => ?_)
  refine lv_aload_n hx hb dX7_init_15 rfl (lv_at hl 0 rfl) ?_
  refine x_new (ci := 3) (fs := [.null, .null, .int 0, .int 0, .int 0, .int 0, .int 0, .int 0, .int 0]) C h kn_7_16 (Nat.le_of_ble_eq_true rfl) (Nat.le_of_ble_eq_true rfl) dX7_init_16 (fun q H h5 => ?_)
  refine lv_dup hx hb dX7_init_19 rfl ?_
  refine x_callN C h5 (c_X3_init q) ki_7_18 hl.1 (Nat.le_of_ble_eq_true rfl) ⟨Nat.le_of_ble_eq_true rfl, Nat.le_of_ble_eq_true rfl⟩ ⟨Nat.le_of_ble_eq_true rfl, Nat.le_of_ble_eq_true rfl⟩ dX7_init_20 (fun a2 H locs e2 h => ?_)
  subst e2
  have h : WD K A s ([(h0, .inr (7, [.ref (a1 1), .null, .null, .null, .null, .null, .null, .int 0, .int 0]))] ++ (((bX1 K a1 F00 G00 ++ yX1 K a1 G00) ++ (bX2 K a2 F00 G00 ++ yX2 K a2 G00)))) H _ := h
  refine x_putF (ws1 := [(h0, .inr (7, [.ref (a1 1), .ref (a2 2), .null, .null, .null, .null, .null, .int 0, .int 0]))] ++ (((bX1 K a1 F00 G00 ++ yX1 K a1 G00) ++ (bX2 K a2 F00 G00 ++ yX2 K a2 G00)))) C hin h (q0 := 0) rfl ff_7_19 rfl rfl (Nat.le_of_ble_eq_true rfl) rfl dX7_init_23 (fun H locs h => ?_)
  refine lv_aload_n hx hb dX7_init_26 rfl (lv_at hl 0 rfl) ?_
  refine x_new (ci := 2) (fs := [.null, .null]) C h kn_7_23 (Nat.le_of_ble_eq_true rfl) (Nat.le_of_ble_eq_true rfl) dX7_init_27 (fun q H h5 => ?_)
  refine lv_dup hx hb dX7_init_30 rfl ?_
  refine x_callN C h5 (c_X2_init q) ki_7_25 hl.1 (Nat.le_of_ble_eq_true rfl) ⟨Nat.le_of_ble_eq_true rfl, Nat.le_of_ble_eq_true rfl⟩ ⟨Nat.le_of_ble_eq_true rfl, Nat.le_of_ble_eq_true rfl⟩ dX7_init_31 (fun a3 H locs e3 h => ?_)
  subst e3
  have h : WD K A s ([(h0, .inr (7, [.ref (a1 1), .ref (a2 2), .null, .null, .null, .null, .null, .int 0, .int 0]))] ++ ((((bX1 K a1 F00 G00 ++ yX1 K a1 G00) ++ (bX2 K a2 F00 G00 ++ yX2 K a2 G00)) ++ (bX3 K a3 F00 G00 ++ yX3 K a3 G00)))) H _ := h
  refine x_putF (ws1 := [(h0, .inr (7, [.ref (a1 1), .ref (a2 2), .ref (a3 3), .null, .null, .null, .null, .int 0, .int 0]))] ++ ((((bX1 K a1 F00 G00 ++ yX1 K a1 G00) ++ (bX2 K a2 F00 G00 ++ yX2 K a2 G00)) ++ (bX3 K a3 F00 G00 ++ yX3 K a3 G00)))) C hin h (q0 := 0) rfl ff_7_26 rfl rfl (Nat.le_of_ble_eq_true rfl) rfl dX7_init_34 (fun H locs h => ?_)
  refine lv_aload_n hx hb dX7_init_37 rfl (lv_at hl 0 rfl) ?_
  refine x_new (ci := 4) (fs := [.null, .int 0, .int 0, .null, .null, .null, .null, .int 0, .int 0, .null, .null]) C h kn_7_30 (Nat.le_of_ble_eq_true rfl) (Nat.le_of_ble_eq_true rfl) dX7_init_38 (fun q H h5 => ?_)
  refine lv_dup hx hb dX7_init_41 rfl ?_
  refine x_callN C h5 (c_X4_init q) ki_7_32 hl.1 (Nat.le_of_ble_eq_true rfl) ⟨Nat.le_of_ble_eq_true rfl, Nat.le_of_ble_eq_true rfl⟩ ⟨Nat.le_of_ble_eq_true rfl, Nat.le_of_ble_eq_true rfl⟩ dX7_init_42 (fun a4 H locs e4 h => ?_)
  subst e4
  have h : WD K A s ([(h0, .inr (7, [.ref (a1 1), .ref (a2 2), .ref (a3 3), .null, .null, .null, .null, .int 0, .int 0]))] ++ (((((bX1 K a1 F00 G00 ++ yX1 K a1 G00) ++ (bX2 K a2 F00 G00 ++ yX2 K a2 G00)) ++ (bX3 K a3 F00 G00 ++ yX3 K a3 G00)) ++ (bX4 K a4 F00 G00 ++ yX4 K a4 G00)))) H _ := h
  refine x_putF (ws1 := [(h0, .inr (7, [.ref (a1 1), .ref (a2 2), .ref (a3 3), .ref (a4 4), .null, .null, .null, .int 0, .int 0]))] ++ (((((bX1 K a1 F00 G00 ++ yX1 K a1 G00) ++ (bX2 K a2 F00 G00 ++ yX2 K a2 G00)) ++ (bX3 K a3 F00 G00 ++ yX3 K a3 G00)) ++ (bX4 K a4 F00 G00 ++ yX4 K a4 G00)))) C hin h (q0 := 0) rfl ff_7_33 rfl rfl (Nat.le_of_ble_eq_true rfl) rfl dX7_init_45 (fun H locs h => ?_)
  refine lv_aload_n hx hb dX7_init_48 rfl (lv_at hl 0 rfl) ?_
  refine x_new (ci := 1) (fs := [.null, .null, .null, .null, .null, .int 0]) C h kn_7_37 (Nat.le_of_ble_eq_true rfl) (Nat.le_of_ble_eq_true rfl) dX7_init_49 (fun q H h5 => ?_)
  refine lv_dup hx hb dX7_init_52 rfl ?_
  refine x_callN C h5 (c_X1_init q) ki_7_39 hl.1 (Nat.le_of_ble_eq_true rfl) ⟨Nat.le_of_ble_eq_true rfl, Nat.le_of_ble_eq_true rfl⟩ ⟨Nat.le_of_ble_eq_true rfl, Nat.le_of_ble_eq_true rfl⟩ dX7_init_53 (fun a5 H locs e5 h => ?_)
  subst e5
  have h : WD K A s ([(h0, .inr (7, [.ref (a1 1), .ref (a2 2), .ref (a3 3), .ref (a4 4), .null, .null, .null, .int 0, .int 0]))] ++ ((((((bX1 K a1 F00 G00 ++ yX1 K a1 G00) ++ (bX2 K a2 F00 G00 ++ yX2 K a2 G00)) ++ (bX3 K a3 F00 G00 ++ yX3 K a3 G00)) ++ (bX4 K a4 F00 G00 ++ yX4 K a4 G00)) ++ (bX5 K a5 F00 G00 ++ yX5 K a5 G00)))) H _ := h
  refine x_putF (ws1 := [(h0, .inr (7, [.ref (a1 1), .ref (a2 2), .ref (a3 3), .ref (a4 4), .ref (a5 5), .null, .null, .int 0, .int 0]))] ++ ((((((bX1 K a1 F00 G00 ++ yX1 K a1 G00) ++ (bX2 K a2 F00 G00 ++ yX2 K a2 G00)) ++ (bX3 K a3 F00 G00 ++ yX3 K a3 G00)) ++ (bX4 K a4 F00 G00 ++ yX4 K a4 G00)) ++ (bX5 K a5 F00 G00 ++ yX5 K a5 G00)))) C hin h (q0 := 0) rfl ff_7_40 rfl rfl (Nat.le_of_ble_eq_true rfl) rfl dX7_init_56 (fun H locs h => ?_)
  refine lv_aload_n hx hb dX7_init_59 rfl (lv_at hl 0 rfl) ?_
  refine x_new (ci := 0) (fs := [.null, .null, .null, .null, .int 0]) C h kn_7_44 (Nat.le_of_ble_eq_true rfl) (Nat.le_of_ble_eq_true rfl) dX7_init_60 (fun q H h5 => ?_)
  refine lv_dup hx hb dX7_init_63 rfl ?_
  refine x_callN C h5 (c_X0_init q) ki_7_46 hl.1 (Nat.le_of_ble_eq_true rfl) ⟨Nat.le_of_ble_eq_true rfl, Nat.le_of_ble_eq_true rfl⟩ ⟨Nat.le_of_ble_eq_true rfl, Nat.le_of_ble_eq_true rfl⟩ dX7_init_64 (fun a6 H locs e6 h => ?_)
  subst e6
  have h : WD K A s ([(h0, .inr (7, [.ref (a1 1), .ref (a2 2), .ref (a3 3), .ref (a4 4), .ref (a5 5), .null, .null, .int 0, .int 0]))] ++ (((((((bX1 K a1 F00 G00 ++ yX1 K a1 G00) ++ (bX2 K a2 F00 G00 ++ yX2 K a2 G00)) ++ (bX3 K a3 F00 G00 ++ yX3 K a3 G00)) ++ (bX4 K a4 F00 G00 ++ yX4 K a4 G00)) ++ (bX5 K a5 F00 G00 ++ yX5 K a5 G00)) ++ (bX6 K a6 F00 G00 ++ yX6 K a6 G00)))) H _ := h
  refine x_putF (ws1 := [(h0, .inr (7, [.ref (a1 1), .ref (a2 2), .ref (a3 3), .ref (a4 4), .ref (a5 5), .ref (a6 6), .null, .int 0, .int 0]))] ++ (((((((bX1 K a1 F00 G00 ++ yX1 K a1 G00) ++ (bX2 K a2 F00 G00 ++ yX2 K a2 G00)) ++ (bX3 K a3 F00 G00 ++ yX3 K a3 G00)) ++ (bX4 K a4 F00 G00 ++ yX4 K a4 G00)) ++ (bX5 K a5 F00 G00 ++ yX5 K a5 G00)) ++ (bX6 K a6 F00 G00 ++ yX6 K a6 G00)))) C hin h (q0 := 0) rfl ff_7_47 rfl rfl (Nat.le_of_ble_eq_true rfl) rfl dX7_init_67 (fun H locs h => ?_)
  refine lv_aload_n hx hb dX7_init_70 rfl (lv_at hl 0 rfl) ?_
  refine x_new (ci := 5) (fs := [.null, .null, .null, .null, .null, .null, .null, .null, .null, .int 0]) C h kn_7_51 (Nat.le_of_ble_eq_true rfl) (Nat.le_of_ble_eq_true rfl) dX7_init_71 (fun q H h5 => ?_)
  refine lv_dup hx hb dX7_init_74 rfl ?_
  refine x_callN C h5 (c_X5_init q) ki_7_53 hl.1 (Nat.le_of_ble_eq_true rfl) ⟨Nat.le_of_ble_eq_true rfl, Nat.le_of_ble_eq_true rfl⟩ ⟨Nat.le_of_ble_eq_true rfl, Nat.le_of_ble_eq_true rfl⟩ dX7_init_75 (fun a7 H locs e7 h => ?_)
  subst e7
  have h : WD K A s ([(h0, .inr (7, [.ref (a1 1), .ref (a2 2), .ref (a3 3), .ref (a4 4), .ref (a5 5), .ref (a6 6), .null, .int 0, .int 0]))] ++ ((((((((bX1 K a1 F00 G00 ++ yX1 K a1 G00) ++ (bX2 K a2 F00 G00 ++ yX2 K a2 G00)) ++ (bX3 K a3 F00 G00 ++ yX3 K a3 G00)) ++ (bX4 K a4 F00 G00 ++ yX4 K a4 G00)) ++ (bX5 K a5 F00 G00 ++ yX5 K a5 G00)) ++ (bX6 K a6 F00 G00 ++ yX6 K a6 G00)) ++ (bX7 K a7 F00 G00 ++ yX7 K a7 G00)))) H _ := h
  refine x_putF (ws1 := [(h0, .inr (7, [.ref (a1 1), .ref (a2 2), .ref (a3 3), .ref (a4 4), .ref (a5 5), .ref (a6 6), .ref (a7 7), .int 0, .int 0]))] ++ ((((((((bX1 K a1 F00 G00 ++ yX1 K a1 G00) ++ (bX2 K a2 F00 G00 ++ yX2 K a2 G00)) ++ (bX3 K a3 F00 G00 ++ yX3 K a3 G00)) ++ (bX4 K a4 F00 G00 ++ yX4 K a4 G00)) ++ (bX5 K a5 F00 G00 ++ yX5 K a5 G00)) ++ (bX6 K a6 F00 G00 ++ yX6 K a6 G00)) ++ (bX7 K a7 F00 G00 ++ yX7 K a7 G00)))) C hin h (q0 := 0) rfl ff_7_54 rfl rfl (Nat.le_of_ble_eq_true rfl) rfl dX7_init_78 (fun H locs h => ?_)
  refine lv_aload_n hx hb dX7_init_81 rfl (lv_at hl 0 rfl) ?_
  refine lv_iconst (v := 0) hx hb dX7_init_82 (by decide) ?_
  refine x_put (ws1 := [(h0, .inr (7, [.ref (a1 1), .ref (a2 2), .ref (a3 3), .ref (a4 4), .ref (a5 5), .ref (a6 6), .ref (a7 7), .int 0, .int 0]))] ++ ((((((((bX1 K a1 F00 G00 ++ yX1 K a1 G00) ++ (bX2 K a2 F00 G00 ++ yX2 K a2 G00)) ++ (bX3 K a3 F00 G00 ++ yX3 K a3 G00)) ++ (bX4 K a4 F00 G00 ++ yX4 K a4 G00)) ++ (bX5 K a5 F00 G00 ++ yX5 K a5 G00)) ++ (bX6 K a6 F00 G00 ++ yX6 K a6 G00)) ++ (bX7 K a7 F00 G00 ++ yX7 K a7 G00)))) C h (q0 := 0) rfl fp_7_58 rfl rfl (Nat.le_of_ble_eq_true rfl) rfl dX7_init_83 (fun H locs h => ?_)
  refine lv_aload_n hx hb dX7_init_86 rfl (lv_at hl 0 rfl) ?_
  refine lv_iconst (v := 0) hx hb dX7_init_87 (by decide) ?_
  refine x_put (ws1 := [(h0, .inr (7, [.ref (a1 1), .ref (a2 2), .ref (a3 3), .ref (a4 4), .ref (a5 5), .ref (a6 6), .ref (a7 7), .int 0, .int 0]))] ++ ((((((((bX1 K a1 F00 G00 ++ yX1 K a1 G00) ++ (bX2 K a2 F00 G00 ++ yX2 K a2 G00)) ++ (bX3 K a3 F00 G00 ++ yX3 K a3 G00)) ++ (bX4 K a4 F00 G00 ++ yX4 K a4 G00)) ++ (bX5 K a5 F00 G00 ++ yX5 K a5 G00)) ++ (bX6 K a6 F00 G00 ++ yX6 K a6 G00)) ++ (bX7 K a7 F00 G00 ++ yX7 K a7 G00)))) C h (q0 := 0) rfl fp_7_62 rfl rfl (Nat.le_of_ble_eq_true rfl) rfl dX7_init_88 (fun H locs h => ?_)
  refine W.widen (k := 120) (n := 3873) (Nat.le_of_ble_eq_true rfl) (Nat.le_of_ble_eq_true rfl) ?_
  exact x_retv (wf := fun u => wX K u F00 G00) (u := (comb h0 a1 a2 a3 a4 a5 a6 a7)) (Q := fun u => u 0 = h0) C hr (WD.perm (comb_perm K h0 a1 a2 a3 a4 a5 a6 a7) h) rfl dX7_init_91)
