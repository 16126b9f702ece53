/-! what the Statement gives of the start, as the walks want it -/
def sTm : Nat → Term := fun i => match i with
  | 0 => .string RX3 103
  | 1 => .string RX3 109
  | 2 => .string RX3 111
  | _ => .string RX3 113
theorem i4 {P : Nat → Prop} (h0 : P 0) (h1 : P 1) (h2 : P 2) (h3 : P 3) : ∀ i, i < 4 → P i := by
  intro i hi
  match i, hi with
  | 0, _ => exact h0
  | 1, _ => exact h1
  | 2, _ => exact h2
  | 3, _ => exact h3
  | i + 4, hi => omega
set_option maxHeartbeats 4000000 in
set_option maxRecDepth 100000 in
theorem st_ex {s : State} {b : Nat} {A : Nat → Prop} (hA : ∀ a : Nat, a < s.heap.size → ¬ A a) (hts : ∀ w ∈ lw_tbl, w.before #[Value.ref b] s = true) (hgv : (Jvm.Cond.and given_1 narrow_1).before #[Value.ref b] s = true) : ∃ adK adV : Nat → Nat, ∀ (dC : Nat → ClassId) (dI : Nat → Nat → Nat) (cA : Nat → ClassId), EX (dC, dI, cA, adK, adV) A s s.heap := by
  obtain ⟨adK, adV, hS, hT⟩ := vk_Sof (args := #[Value.ref b]) (s := s) (N := 4) (tm := sTm) (len := sLen) (byt := sByt) (A := A) (by decide)
    (i4 (flat_of_before _ hgv _ (by decide +kernel)) (flat_of_before _ hgv _ (by decide +kernel)) (flat_of_before _ hgv _ (by decide +kernel)) (flat_of_before _ hgv _ (by decide +kernel)))
    (i4 (flat_of_before _ hgv _ (by decide +kernel)) (flat_of_before _ hgv _ (by decide +kernel)) (flat_of_before _ hgv _ (by decide +kernel)) (flat_of_before _ hgv _ (by decide +kernel)))
    (i4 (flat_of_before _ hgv _ (by decide +kernel)) (flat_of_before _ hgv _ (by decide +kernel)) (flat_of_before _ hgv _ (by decide +kernel)) (flat_of_before _ hgv _ (by decide +kernel)))
    (i4 (flat_of_before _ hgv _ (by decide +kernel)) (flat_of_before _ hgv _ (by decide +kernel)) (flat_of_before _ hgv _ (by decide +kernel)) (flat_of_before _ hgv _ (by decide +kernel)))
    (i4 (fun j hj => by
      have hj : j < 4 := hj
      match j, hj with
      | 0, _ => exact flat_of_before _ hgv _ (by decide +kernel)
      | 1, _ => exact flat_of_before _ hgv _ (by decide +kernel)
      | 2, _ => exact flat_of_before _ hgv _ (by decide +kernel)
      | 3, _ => exact flat_of_before _ hgv _ (by decide +kernel)
      | j + 4, hj => omega) (fun j hj => by
      have hj : j < 4 := hj
      match j, hj with
      | 0, _ => exact flat_of_before _ hgv _ (by decide +kernel)
      | 1, _ => exact flat_of_before _ hgv _ (by decide +kernel)
      | 2, _ => exact flat_of_before _ hgv _ (by decide +kernel)
      | 3, _ => exact flat_of_before _ hgv _ (by decide +kernel)
      | j + 4, hj => omega) (fun j hj => by
      have hj : j < 4 := hj
      match j, hj with
      | 0, _ => exact flat_of_before _ hgv _ (by decide +kernel)
      | 1, _ => exact flat_of_before _ hgv _ (by decide +kernel)
      | 2, _ => exact flat_of_before _ hgv _ (by decide +kernel)
      | 3, _ => exact flat_of_before _ hgv _ (by decide +kernel)
      | j + 4, hj => omega) (fun j hj => by
      have hj : j < 7 := hj
      match j, hj with
      | 0, _ => exact flat_of_before _ hgv _ (by decide +kernel)
      | 1, _ => exact flat_of_before _ hgv _ (by decide +kernel)
      | 2, _ => exact flat_of_before _ hgv _ (by decide +kernel)
      | 3, _ => exact flat_of_before _ hgv _ (by decide +kernel)
      | 4, _ => exact flat_of_before _ hgv _ (by decide +kernel)
      | 5, _ => exact flat_of_before _ hgv _ (by decide +kernel)
      | 6, _ => exact flat_of_before _ hgv _ (by decide +kernel)
      | j + 7, hj => omega))
    (fun i j hi hj hn => by
      match i, j, hi, hj with
      | 0, 0, _, _ => exact absurd rfl hn
      | 0, 1, _, _ => exact Or.inl (flat_of_before _ hgv _ (by decide +kernel))
      | 0, 2, _, _ => exact Or.inl (flat_of_before _ hgv _ (by decide +kernel))
      | 0, 3, _, _ => exact Or.inl (flat_of_before _ hgv _ (by decide +kernel))
      | 1, 0, _, _ => exact Or.inr (flat_of_before _ hgv _ (by decide +kernel))
      | 1, 1, _, _ => exact absurd rfl hn
      | 1, 2, _, _ => exact Or.inl (flat_of_before _ hgv _ (by decide +kernel))
      | 1, 3, _, _ => exact Or.inl (flat_of_before _ hgv _ (by decide +kernel))
      | 2, 0, _, _ => exact Or.inr (flat_of_before _ hgv _ (by decide +kernel))
      | 2, 1, _, _ => exact Or.inr (flat_of_before _ hgv _ (by decide +kernel))
      | 2, 2, _, _ => exact absurd rfl hn
      | 2, 3, _, _ => exact Or.inl (flat_of_before _ hgv _ (by decide +kernel))
      | 3, 0, _, _ => exact Or.inr (flat_of_before _ hgv _ (by decide +kernel))
      | 3, 1, _, _ => exact Or.inr (flat_of_before _ hgv _ (by decide +kernel))
      | 3, 2, _, _ => exact Or.inr (flat_of_before _ hgv _ (by decide +kernel))
      | 3, 3, _, _ => exact absurd rfl hn
      | i + 4, _, hi, _ => omega
      | _, j + 4, _, hj => omega) hA
  refine ⟨adK, adV, fun dC dI cA => ⟨hS, ⟨vk_R.of (hts _ (List.mem_of_getElem? (i := 625) (by decide +kernel))) (hT 0 (by decide)), vk_R.of (hts _ (List.mem_of_getElem? (i := 678) (by decide +kernel))) (hT 1 (by decide)), vk_R.of (hts _ (List.mem_of_getElem? (i := 679) (by decide +kernel))) (hT 2 (by decide)), vk_R.of (hts _ (List.mem_of_getElem? (i := 680) (by decide +kernel))) (hT 3 (by decide))⟩, ?_, ?_, ?_, ⟨va_Zof (hts _ (List.mem_of_getElem? (i := 993) (by decide +kernel))) (hts _ (List.mem_of_getElem? (i := 49) (by decide +kernel))) (va_eqtl (flat_of_before _ hgv _ (by decide +kernel))) hA, va_Zof (hts _ (List.mem_of_getElem? (i := 999) (by decide +kernel))) (hts _ (List.mem_of_getElem? (i := 49) (by decide +kernel))) (va_eqtl (flat_of_before _ hgv _ (by decide +kernel))) hA, va_Zof (hts _ (List.mem_of_getElem? (i := 1001) (by decide +kernel))) (hts _ (List.mem_of_getElem? (i := 49) (by decide +kernel))) (va_eqtl (flat_of_before _ hgv _ (by decide +kernel))) hA, va_Zof (hts _ (List.mem_of_getElem? (i := 1003) (by decide +kernel))) (hts _ (List.mem_of_getElem? (i := 49) (by decide +kernel))) (va_eqtl (flat_of_before _ hgv _ (by decide +kernel))) hA⟩, ?_, ?_, ?_, ?_, ?_, ?_⟩⟩
  · intro q hq
    simp only [sMsg, List.mem_cons, List.not_mem_nil, or_false] at hq
    rcases hq with rfl | rfl | rfl | rfl | rfl | rfl | rfl | rfl | rfl | rfl | rfl | rfl | rfl
    · obtain ⟨a, c, cA, kA, q1, -⟩ := Cond.exactly_spec (args := #[Value.ref b]) (first := s) (o := none) (s := s) (idx := []) (t := .string RX7 78) (cls := "java/lang/String") (flat_of_before _ hgv _ (by decide +kernel))
      exact ⟨a, vk_R.of (hts _ (List.mem_of_getElem? (i := 564) (by decide +kernel))) q1⟩
    · obtain ⟨a, c, cA, kA, q1, -⟩ := Cond.exactly_spec (args := #[Value.ref b]) (first := s) (o := none) (s := s) (idx := []) (t := .string RX7 205) (cls := "java/lang/String") (flat_of_before _ hgv _ (by decide +kernel))
      exact ⟨a, vk_R.of (hts _ (List.mem_of_getElem? (i := 734) (by decide +kernel))) q1⟩
    · obtain ⟨a, c, cA, kA, q1, -⟩ := Cond.exactly_spec (args := #[Value.ref b]) (first := s) (o := none) (s := s) (idx := []) (t := .string RX7 217) (cls := "java/lang/String") (flat_of_before _ hgv _ (by decide +kernel))
      exact ⟨a, vk_R.of (hts _ (List.mem_of_getElem? (i := 750) (by decide +kernel))) q1⟩
    · obtain ⟨a, c, cA, kA, q1, -⟩ := Cond.exactly_spec (args := #[Value.ref b]) (first := s) (o := none) (s := s) (idx := []) (t := .string RX7 219) (cls := "java/lang/String") (flat_of_before _ hgv _ (by decide +kernel))
      exact ⟨a, vk_R.of (hts _ (List.mem_of_getElem? (i := 758) (by decide +kernel))) q1⟩
    · obtain ⟨a, c, cA, kA, q1, -⟩ := Cond.exactly_spec (args := #[Value.ref b]) (first := s) (o := none) (s := s) (idx := []) (t := .string RX7 221) (cls := "java/lang/String") (flat_of_before _ hgv _ (by decide +kernel))
      exact ⟨a, vk_R.of (hts _ (List.mem_of_getElem? (i := 759) (by decide +kernel))) q1⟩
    · obtain ⟨a, c, cA, kA, q1, -⟩ := Cond.exactly_spec (args := #[Value.ref b]) (first := s) (o := none) (s := s) (idx := []) (t := .string RX7 223) (cls := "java/lang/String") (flat_of_before _ hgv _ (by decide +kernel))
      exact ⟨a, vk_R.of (hts _ (List.mem_of_getElem? (i := 767) (by decide +kernel))) q1⟩
    · obtain ⟨a, c, cA, kA, q1, -⟩ := Cond.exactly_spec (args := #[Value.ref b]) (first := s) (o := none) (s := s) (idx := []) (t := .string RX7 250) (cls := "java/lang/String") (flat_of_before _ hgv _ (by decide +kernel))
      exact ⟨a, vk_R.of (hts _ (List.mem_of_getElem? (i := 768) (by decide +kernel))) q1⟩
    · obtain ⟨a, c, cA, kA, q1, -⟩ := Cond.exactly_spec (args := #[Value.ref b]) (first := s) (o := none) (s := s) (idx := []) (t := .string RX7 252) (cls := "java/lang/String") (flat_of_before _ hgv _ (by decide +kernel))
      exact ⟨a, vk_R.of (hts _ (List.mem_of_getElem? (i := 776) (by decide +kernel))) q1⟩
    · obtain ⟨a, c, cA, kA, q1, -⟩ := Cond.exactly_spec (args := #[Value.ref b]) (first := s) (o := none) (s := s) (idx := []) (t := .string RX7 267) (cls := "java/lang/String") (flat_of_before _ hgv _ (by decide +kernel))
      exact ⟨a, vk_R.of (hts _ (List.mem_of_getElem? (i := 785) (by decide +kernel))) q1⟩
    · obtain ⟨a, c, cA, kA, q1, -⟩ := Cond.exactly_spec (args := #[Value.ref b]) (first := s) (o := none) (s := s) (idx := []) (t := .string RX7 272) (cls := "java/lang/String") (flat_of_before _ hgv _ (by decide +kernel))
      exact ⟨a, vk_R.of (hts _ (List.mem_of_getElem? (i := 793) (by decide +kernel))) q1⟩
    · obtain ⟨a, c, cA, kA, q1, -⟩ := Cond.exactly_spec (args := #[Value.ref b]) (first := s) (o := none) (s := s) (idx := []) (t := .string RX7 280) (cls := "java/lang/String") (flat_of_before _ hgv _ (by decide +kernel))
      exact ⟨a, vk_R.of (hts _ (List.mem_of_getElem? (i := 794) (by decide +kernel))) q1⟩
    · obtain ⟨a, c, cA, kA, q1, -⟩ := Cond.exactly_spec (args := #[Value.ref b]) (first := s) (o := none) (s := s) (idx := []) (t := .string RX7 285) (cls := "java/lang/String") (flat_of_before _ hgv _ (by decide +kernel))
      exact ⟨a, vk_R.of (hts _ (List.mem_of_getElem? (i := 806) (by decide +kernel))) q1⟩
    · obtain ⟨a, c, cA, kA, q1, -⟩ := Cond.exactly_spec (args := #[Value.ref b]) (first := s) (o := none) (s := s) (idx := []) (t := .string RX7 294) (cls := "java/lang/String") (flat_of_before _ hgv _ (by decide +kernel))
      exact ⟨a, vk_R.of (hts _ (List.mem_of_getElem? (i := 807) (by decide +kernel))) q1⟩
  · exact va_Zof (hts _ (List.mem_of_getElem? (i := 639) (by decide +kernel))) (hts _ (List.mem_of_getElem? (i := 55) (by decide +kernel))) (va_eqt (flat_of_before _ hgv _ (by decide +kernel))) hA
  · exact va_Zqof (hts _ (List.mem_of_getElem? (i := 655) (by decide +kernel))) (hts _ (List.mem_of_getElem? (i := 57) (by decide +kernel))) (flat_of_before _ hgv _ (by decide +kernel)) hA
  · exact vx_Zqof (hts _ (List.mem_of_getElem? (i := 551) (by decide +kernel))) (hts _ (List.mem_of_getElem? (i := 50) (by decide +kernel))) (flat_of_before _ hgv _ (by decide +kernel)) hA
  · exact vx_Zqof (hts _ (List.mem_of_getElem? (i := 553) (by decide +kernel))) (hts _ (List.mem_of_getElem? (i := 50) (by decide +kernel))) (flat_of_before _ hgv _ (by decide +kernel)) hA
  · intro q hq
    simp only [nestL, List.mem_cons, List.not_mem_nil, or_false] at hq
    rcases hq with rfl | rfl | rfl | rfl | rfl | rfl | rfl | rfl
    · exact va_Nw.of rfl (hts _ (List.mem_of_getElem? (i := 70) (by decide +kernel)))
    · exact va_Nw.of rfl (hts _ (List.mem_of_getElem? (i := 86) (by decide +kernel)))
    · exact va_Nw.of rfl (hts _ (List.mem_of_getElem? (i := 126) (by decide +kernel)))
    · exact va_Nw.of rfl (hts _ (List.mem_of_getElem? (i := 142) (by decide +kernel)))
    · exact va_Nw.of rfl (hts _ (List.mem_of_getElem? (i := 189) (by decide +kernel)))
    · exact va_Nw.of rfl (hts _ (List.mem_of_getElem? (i := 221) (by decide +kernel)))
    · exact va_Nw.of rfl (hts _ (List.mem_of_getElem? (i := 247) (by decide +kernel)))
    · exact va_Nw.of rfl (hts _ (List.mem_of_getElem? (i := 697) (by decide +kernel)))
  · intro q hq
    simp only [decL, List.mem_cons, List.not_mem_nil, or_false] at hq
    rcases hq with rfl | rfl | rfl
    · exact va_Nw.of rfl (hts _ (List.mem_of_getElem? (i := 528) (by decide +kernel)))
    · exact va_Nw.of rfl (hts _ (List.mem_of_getElem? (i := 530) (by decide +kernel)))
    · exact va_Nw.of rfl (hts _ (List.mem_of_getElem? (i := 532) (by decide +kernel)))
  · intro q hq
    simp only [casL, List.mem_cons, List.not_mem_nil, or_false] at hq
    rcases hq with rfl | rfl
    · exact va_Nw.of rfl (hts _ (List.mem_of_getElem? (i := 526) (by decide +kernel)))
    · exact va_Nw.of rfl (hts _ (List.mem_of_getElem? (i := 727) (by decide +kernel)))
  · exact va_AOA.of (hts _ (List.mem_of_getElem? (i := 131) (by decide +kernel)))
theorem st_arr {args : Array Value} {s : State} {t : FieldType} (h : (Cond.arrayClass t).before args s = true) (ho : ∀ C, t ≠ .object C) : ∃ c : ClassId, ArrOfT s c t ∧ va_RA s c t := by
  obtain ⟨c, k, comp, h1, h2, h3⟩ := Cond.arrayClass_spec h
  refine ⟨c, fun N z => ⟨(fun q hq => by cases hq), k, h2, comp, h3⟩, ?_⟩
  cases t <;> first | exact h1 | exact absurd rfl (ho _)
theorem st_arr2 {args : Array Value} {s : State} (h : (Cond.arrayOver (.array .int)).before args s = true) : ∃ c : ClassId, ArrOfT s c (.array .int) ∧ va_RA s c (.array .int) := by
  obtain ⟨comp, c, k, h1, h2, h3, h4, h5⟩ := arrayOverA_spec h
  exact ⟨c, fun N z => ⟨(fun q hq => by cases hq), k, h3, comp, h4⟩, h5⟩
set_option maxHeartbeats 4000000 in
set_option maxRecDepth 100000 in
theorem st_k {s : State} {b : Nat} (hts : ∀ w ∈ lw_tbl, w.before #[Value.ref b] s = true) : ∃ (dC : Nat → ClassId) (dI : Nat → Nat → Nat) (cA : Nat → ClassId), ∀ adK adV : Nat → Nat, va_K (dC, dI) vwCl (kt (dC, dI, cA, adK, adV)) s := by
  have htb := tb_all hts
  obtain ⟨c0, iS0, hK0⟩ := u_known (C := RX0) (T := TX0) (N := 5) (n := 5) htb inT_0 (htb _ (tb_in 220 (by decide +kernel) rfl))
  obtain ⟨c1, iS1, hK1⟩ := u_known (C := RX1) (T := TX1) (N := 6) (n := 6) htb inT_1 (htb _ (tb_in 188 (by decide +kernel) rfl))
  obtain ⟨c2, iS2, hK2⟩ := u_known (C := RX2) (T := TX2) (N := 2) (n := 2) htb inT_2 (htb _ (tb_in 125 (by decide +kernel) rfl))
  obtain ⟨c3, iS3, hK3⟩ := u_known (C := RX3) (T := TX3) (N := 9) (n := 9) htb inT_3 (htb _ (tb_in 85 (by decide +kernel) rfl))
  obtain ⟨c4, iS4, hK4⟩ := u_known (C := RX4) (T := TX4) (N := 11) (n := 11) htb inT_4 (htb _ (tb_in 141 (by decide +kernel) rfl))
  obtain ⟨c5, iS5, hK5⟩ := u_known (C := RX5) (T := TX5) (N := 10) (n := 10) htb inT_5 (htb _ (tb_in 246 (by decide +kernel) rfl))
  obtain ⟨c6, iS6, hK6⟩ := u_known (C := RX6) (T := TX6) (N := 2) (n := 2) htb inT_6 (htb _ (tb_in 69 (by decide +kernel) rfl))
  obtain ⟨c7, iS7, hK7⟩ := u_known (C := RX7) (T := TX7) (N := 9) (n := 9) htb inT_7 (htb _ (tb_in 61 (by decide +kernel) rfl))
  obtain ⟨c8, iS8, hK8⟩ := u_known (C := RX8) (T := TX8) (N := 44) (n := 44) htb inT_8 (htb _ (tb_in 809 (by decide +kernel) rfl))
  obtain ⟨e0, h0⟩ := st_arr (htb _ kA_int) (fun C hC => by cases hC)
  obtain ⟨e1, h1⟩ := st_arr (htb _ kA_byte) (fun C hC => by cases hC)
  obtain ⟨e2, h2⟩ := st_arr (htb _ kA_bool) (fun C hC => by cases hC)
  obtain ⟨e3, h3⟩ := st_arr2 (hts (.arrayOver (.array .int)) (List.mem_of_getElem? (i := 131) (by decide +kernel)))
  obtain ⟨e4, h4⟩ := st_arr (htb _ kA_long) (fun C hC => by cases hC)
  refine ⟨(fun k => if k = 0 then c0 else if k = 1 then c1 else if k = 2 then c2 else if k = 3 then c3 else if k = 4 then c4 else if k = 5 then c5 else if k = 6 then c6 else if k = 7 then c7 else c8), (fun k => if k = 0 then iS0 else if k = 1 then iS1 else if k = 2 then iS2 else if k = 3 then iS3 else if k = 4 then iS4 else if k = 5 then iS5 else if k = 6 then iS6 else if k = 7 then iS7 else iS8), (fun k => if k = 0 then e0 else if k = 1 then e1 else if k = 2 then e2 else if k = 3 then e3 else e4), fun adK adV => ⟨?_, ?_⟩⟩
  · intro k q hq
    match k, hq with
    | 0, hq => cases hq; exact hK0
    | 1, hq => cases hq; exact hK1
    | 2, hq => cases hq; exact hK2
    | 3, hq => cases hq; exact hK3
    | 4, hq => cases hq; exact hK4
    | 5, hq => cases hq; exact hK5
    | 6, hq => cases hq; exact hK6
    | 7, hq => cases hq; exact hK7
    | 8, hq => cases hq; exact hK8
    | k + 9, hq => simp [vwCl] at hq
  · intro k q hq
    match k, hq with
    | 0, hq => cases hq; exact h0
    | 1, hq => cases hq; exact h1
    | 2, hq => cases hq; exact h2
    | 3, hq => cases hq; exact h3
    | 4, hq => cases hq; exact h4
    | k + 5, hq => simp [kt] at hq
theorem kiL_40 : LkI RL 40 yX7_init cX7_init := ⟨by decide +kernel, rfl, Or.inr (tb_in 62 (by decide +kernel) rfl), tb_in 63 (by decide +kernel) rfl, tb_in 41 (by decide +kernel) rfl, tb_in 64 (by decide +kernel) rfl⟩
theorem kiL_43 : LkI RL 43 yX8_init cX8_init := ⟨by decide +kernel, rfl, Or.inr (tb_in 810 (by decide +kernel) rfl), tb_in 811 (by decide +kernel) rfl, tb_in 49 (by decide +kernel) rfl, tb_in 812 (by decide +kernel) rfl⟩
theorem knL_8 : LkNew RL 8 7 [.null, .null, .null, .null, .null, .null, .null, .int 0, .int 0] := ⟨RX7, TX7, 9, tyX7, rfl, rfl, inT_7, tyX7_ok, tb_in 60 (by decide +kernel) rfl, tb_in 61 (by decide +kernel) rfl, tb_in 41 (by decide +kernel) rfl, by decide⟩
theorem knL_41 : LkNew RL 41 8 [.int 0, .null, .int 0, .null, .null, .int 0, .int 0, .int 0, .int 0, .int 0, .int 0, .int 0, .int 0, .long 0, .null, .int 0, .int 0, .int 0, .null, .null, .null, .null, .int 0, .null, .null, .null, .null, .null, .int 0, .null, .null, .null, .null, .int 0, .null, .null, .null, .null, .null, .null, .null, .null, .null, .int 0] := ⟨RX8, TX8, 44, tyX8, rfl, rfl, inT_8, tyX8_ok, tb_in 808 (by decide +kernel) rfl, tb_in 809 (by decide +kernel) rfl, tb_in 49 (by decide +kernel) rfl, by decide⟩
set_option maxHeartbeats 4000000 in
set_option maxRecDepth 100000 in
theorem whole_walk {I : IT} (hs : StpAll I) (h0 : I F00 G00 F0M G00 0) {p : Program} {e : Env} {s : State} {m : MethodId} {below : List Frame} {meth : Method} {c : Code} (l : Launch) (hst : l.stackTraces = false) {b L : Nat} {xs : Nat → Int32} (hL : L ≤ 3072) (C0 : lw_At p s m meth c b L xs) : W p l e room_1 s m #[Value.ref b] below meth c s.heap [] 0 0 (lw_Z below #[Value.ref b] s) (entryFrame m ([Value.ref b] : List Value).toArray 7) := by
  obtain ⟨hx, hb, hr, hml, hown, hts, hX, hbl, hlocks, hgv⟩ := id C0
  have hA : ∀ q : Nat, s.heap.size ≤ q → (fun q : Nat => s.heap.size ≤ q) q := fun _ h => h
  obtain ⟨adK, adV, hE⟩ := st_ex (A := fun q : Nat => s.heap.size ≤ q) (fun a ha => Nat.not_le.mpr ha) hts hgv
  obtain ⟨dC, dI, cA, hK⟩ := st_k hts
  obtain ⟨K, hKe⟩ : ∃ K : KT, K = (dC, dI, cA, adK, adV) := ⟨_, rfl⟩
  have C : CX p s m #[Value.ref b] meth c K (fun q : Nat => s.heap.size ≤ q) cL_law_ 7 RL := by
    rw [hKe]
    exact ⟨hx, hb, hml, hown, tb_all hts, hK adK adV, hA, hE dC dI cA, hlocks⟩
  have h : WD K (fun q : Nat => s.heap.size ≤ q) s [] s.heap [] := ⟨fun k q h => by simp at h, ⟨fun i j p q h => by simp at h, fun k q h => by simp at h⟩, va_S.rf⟩
  have hl := lv_entry ([.ref b]) (n := 7) (Nat.le_of_ble_eq_true rfl)
  rw [lg_entry_eq]
  generalize (lg_sl ([.ref b]) ++ List.replicate (7 - (lg_sl ([.ref b])).length) Slot.unset).toArray = ls at hl ⊢
  have hl : lv_has ls 7 [(0, .ref b)] := hl
  refine x_new (ci := 7) (fs := [.null, .null, .null, .null, .null, .null, .null, .int 0, .int 0]) C h knL_8 (Nat.le_of_ble_eq_true rfl) (Nat.le_of_ble_eq_true rfl) dL_law__0 (fun q H h5 => ?_)
  refine lv_dup hx hb dL_law__3 rfl ?_
  refine x_callN (wr := []) C h5 (c_X7_init q) kiL_40 hl.1 (Nat.le_of_ble_eq_true rfl) ⟨Nat.le_of_ble_eq_true rfl, Nat.le_of_ble_eq_true rfl⟩ ⟨Nat.le_of_ble_eq_true rfl, Nat.le_of_ble_eq_true rfl⟩ dL_law__4 (fun ax H locs e1 h => ?_)
  subst e1
  refine lv_astore_n (lv' := [(1, .ref (ax 0)), (0, .ref b)]) hx hb dL_law__7 rfl hl (by decide) rfl (fun ls hl => ?_)
  refine x_new (ci := 8) (fs := [.int 0, .null, .int 0, .null, .null, .int 0, .int 0, .int 0, .int 0, .int 0, .int 0, .int 0, .int 0, .long 0, .null, .int 0, .int 0, .int 0, .null, .null, .null, .null, .int 0, .null, .null, .null, .null, .null, .int 0, .null, .null, .null, .null, .int 0, .null, .null, .null, .null, .null, .null, .null, .null, .null, .int 0]) C h knL_41 (Nat.le_of_ble_eq_true rfl) (Nat.le_of_ble_eq_true rfl) dL_law__8 (fun q H h6 => ?_)
  refine lv_dup hx hb dL_law__11 rfl ?_
  refine x_callN C h6 (c_X8_init q) kiL_43 hl.1 (Nat.le_of_ble_eq_true rfl) ⟨Nat.le_of_ble_eq_true rfl, Nat.le_of_ble_eq_true rfl⟩ ⟨Nat.le_of_ble_eq_true rfl, Nat.le_of_ble_eq_true rfl⟩ dL_law__12 (fun am H locs e2 h => ?_)
  subst e2
  refine lv_astore_n (lv' := [(2, .ref (am 0)), (1, .ref (ax 0)), (0, .ref b)]) hx hb dL_law__15 rfl hl (by decide) rfl (fun ls hl => ?_)
  refine lv_iconst (v := 1) hx hb dL_law__16 (by decide) ?_
  have h : WD K (fun q : Nat => s.heap.size ≤ q) s ([] ++ (wX K ax F00 G00 ++ wM K am F0M G00 0)) H _ := h
  refine x_newa (X := []) (Y := wX K ax F00 G00 ++ wM K am F0M G00 0) (ty := .long) (t0 := 4) (N := 1) (z := (1, .inr (.inl (fun _ => 0)))) C h rfl (fun C hC => by cases hC) rfl kA_long (fun _ => rfl) (by decide) (by decide) (by decide) (Nat.le_of_ble_eq_true rfl) (Nat.le_of_ble_eq_true rfl) dL_law__17 (fun o H h => ?_)
  refine lv_astore_n (lv' := [(3, .ref o), (2, .ref (am 0)), (1, .ref (ax 0)), (0, .ref b)]) hx hb dL_law__19 rfl hl (by decide) rfl (fun ls hl => ?_)
  refine lv_iconst (v := nI 0) hx hb dL_law__20 (by decide) ?_
  refine lv_istore (lv' := [(4, .int (nI 0)), (3, .ref o), (2, .ref (am 0)), (1, .ref (ax 0)), (0, .ref b)]) hx hb dL_law__21 hl (by decide) rfl (fun ls hl => ?_)
  refine W.widen (k := 149 + 0) (n := 7562 + 6 * 0) (Nat.le_of_ble_eq_true rfl) (Nat.le_of_ble_eq_true rfl) ?_
  refine law_loop hst hL C hr hX hbl hs (L + 1) 0 0 rfl (by omega) (by omega) F00 G00 F0M G00 0 (fun _ => 0) H _ ls h0 (WD.perm ?_ h) (lv_sub hl [4, 3, 2, 1, 0] rfl)
  show List.Perm (outc K o (fun _ => 0) ++ (wX K ax F00 G00 ++ wM K am F0M G00 0)) ((outc K o (fun _ => 0) ++ wM K am F0M G00 0) ++ wX K ax F00 G00)
  rw [List.append_assoc]
  exact List.Perm.append_left _ List.perm_append_comm
