/-! the two worlds -/
def wXa (K : KT) (a : Nat → Nat) (F : FT) (G : GT) : va_W := [(a 0, .inr (7, [.ref (a 1), .ref (a 2), .ref (a 3), .ref (a 4), .ref (a 5), .ref (a 6), .ref (a 7), .int (F 0), .int (F 1)])),
  (a 1, .inr (6, [.ref (a 40), .int (F 2)])),
  (a 40, .inl (K.2.2.1 1, 320, .inl (G 40))),
  (a 2, .inr (3, [.ref (a 41), .ref (a 42), .int (F 10), .int (F 11), .int (F 12), .int (F 13), .int (F 14), .int (F 15), .int (F 16)])),
  (a 41, .inl (K.2.2.1 0, 14, .inl (G 41))),
  (a 42, .inl (K.2.2.1 2, 14, .inl (G 42))),
  (a 3, .inr (2, [.ref (a 43), .ref (a 10)])),
  (a 43, .inl (K.2.2.1 3, 3, .inr (.inr (.inr (.inr (fun i => if i < 3 then some (a (i + 300)) else none)))))),
  (a 10, .inl (K.2.2.1 0, 3, .inl (G 10))),
  (a 4, .inr (4, [.ref (a 11), .int (F 3), .int (F 4), .ref (a 12), .ref (a 13), .ref (a 14), .ref (a 15), .int (F 5), .int (F 17), .ref (a 46), .ref (a 47)])),
  (a 11, .inl (K.2.2.1 0, 16, .inl (G 11))),
  (a 12, .inl (K.2.2.1 0, 80, .inl (G 12))),
  (a 13, .inl (K.2.2.1 0, 80, .inl (G 13))),
  (a 14, .inl (K.2.2.1 0, 80, .inl (G 14))),
  (a 15, .inl (K.2.2.1 0, 80, .inl (G 15))),
  (a 46, .inl (K.2.2.1 0, 16, .inl (G 46))),
  (a 47, .inl (K.2.2.1 0, 80, .inl (G 47))),
  (a 5, .inr (1, [.ref (a 16), .ref (a 17), .ref (a 18), .ref (a 44), .ref (a 45), .int (F 6)])),
  (a 16, .inl (K.2.2.1 0, 40, .inl (G 16))),
  (a 17, .inl (K.2.2.1 0, 40, .inl (G 17))),
  (a 18, .inl (K.2.2.1 0, 40, .inl (G 18))),
  (a 44, .inl (K.2.2.1 3, 40, .inr (.inr (.inr (.inr (fun i => if i < 40 then some (a (i + 100)) else none)))))),
  (a 45, .inl (K.2.2.1 3, 40, .inr (.inr (.inr (.inr (fun i => if i < 40 then some (a (i + 200)) else none)))))),
  (a 6, .inr (0, [.ref (a 19), .ref (a 20), .ref (a 21), .ref (a 22), .int (F 7)])),
  (a 19, .inl (K.2.2.1 0, 400, .inl (G 19))),
  (a 20, .inl (K.2.2.1 0, 400, .inl (G 20))),
  (a 21, .inl (K.2.2.1 0, 400, .inl (G 21))),
  (a 22, .inl (K.2.2.1 0, 400, .inl (G 22))),
  (a 7, .inr (5, [.ref (a 23), .ref (a 24), .ref (a 25), .ref (a 26), .ref (a 27), .ref (a 28), .ref (a 29), .ref (a 30), .ref (a 31), .int (F 8)])),
  (a 23, .inl (K.2.2.1 0, 80, .inl (G 23))),
  (a 24, .inl (K.2.2.1 0, 80, .inl (G 24))),
  (a 25, .inl (K.2.2.1 0, 80, .inl (G 25))),
  (a 26, .inl (K.2.2.1 0, 80, .inl (G 26))),
  (a 27, .inl (K.2.2.1 0, 80, .inl (G 27))),
  (a 28, .inl (K.2.2.1 0, 80, .inl (G 28))),
  (a 29, .inl (K.2.2.1 0, 80, .inl (G 29))),
  (a 30, .inl (K.2.2.1 2, 80, .inl (G 30))),
  (a 31, .inl (K.2.2.1 2, 80, .inl (G 31)))]
def rowsX (K : KT) (a : Nat → Nat) (G : GT) (b n L : Nat) : va_W := (List.range n).map (fun i => (a (i + b), .inl (K.2.2.1 0, L, .inl (G (i + b)))))
def wXr (K : KT) (a : Nat → Nat) (G : GT) : va_W := rowsX K a G 300 3 14 ++ (rowsX K a G 100 40 6 ++ rowsX K a G 200 40 6)
def wX (K : KT) (a : Nat → Nat) (F : FT) (G : GT) : va_W := wXa K a F G ++ wXr K a G
def wM (K : KT) (a : Nat → Nat) (F : FT) (G : GT) (w : Int64) : va_W := [(a 0, .inr (8, [.int (F 20), .ref (a 50), .int (F 2), .ref (a 51), .ref (a 10), .int (F 21), .int (F 22), .int (F 23), .int (F 24), .int (F 25), .int (F 1), .int (F 26), .int (F 27), .long w, .ref (a 11), .int (F 3), .int (F 4), .int (F 0), .ref (a 12), .ref (a 13), .ref (a 14), .ref (a 15), .int (F 5), .ref (a 16), .ref (a 17), .ref (a 18), .ref (a 52), .ref (a 53), .int (F 6), .ref (a 19), .ref (a 20), .ref (a 21), .ref (a 22), .int (F 7), .ref (a 23), .ref (a 24), .ref (a 25), .ref (a 26), .ref (a 27), .ref (a 28), .ref (a 29), .ref (a 30), .ref (a 31), .int (F 8)])),
  (a 50, .inl (K.2.2.1 0, 320, .inl (G 50))),
  (a 51, .inl (K.2.2.1 0, 56, .inl (G 51))),
  (a 10, .inl (K.2.2.1 0, 3, .inl (G 10))),
  (a 11, .inl (K.2.2.1 0, 16, .inl (G 11))),
  (a 12, .inl (K.2.2.1 0, 80, .inl (G 12))),
  (a 13, .inl (K.2.2.1 0, 80, .inl (G 13))),
  (a 14, .inl (K.2.2.1 0, 80, .inl (G 14))),
  (a 15, .inl (K.2.2.1 0, 80, .inl (G 15))),
  (a 16, .inl (K.2.2.1 0, 40, .inl (G 16))),
  (a 17, .inl (K.2.2.1 0, 40, .inl (G 17))),
  (a 18, .inl (K.2.2.1 0, 40, .inl (G 18))),
  (a 52, .inl (K.2.2.1 0, 240, .inl (G 52))),
  (a 53, .inl (K.2.2.1 0, 240, .inl (G 53))),
  (a 19, .inl (K.2.2.1 0, 400, .inl (G 19))),
  (a 20, .inl (K.2.2.1 0, 400, .inl (G 20))),
  (a 21, .inl (K.2.2.1 0, 400, .inl (G 21))),
  (a 22, .inl (K.2.2.1 0, 400, .inl (G 22))),
  (a 23, .inl (K.2.2.1 0, 80, .inl (G 23))),
  (a 24, .inl (K.2.2.1 0, 80, .inl (G 24))),
  (a 25, .inl (K.2.2.1 0, 80, .inl (G 25))),
  (a 26, .inl (K.2.2.1 0, 80, .inl (G 26))),
  (a 27, .inl (K.2.2.1 0, 80, .inl (G 27))),
  (a 28, .inl (K.2.2.1 0, 80, .inl (G 28))),
  (a 29, .inl (K.2.2.1 0, 80, .inl (G 29))),
  (a 30, .inl (K.2.2.1 2, 80, .inl (G 30))),
  (a 31, .inl (K.2.2.1 2, 80, .inl (G 31)))]
theorem rowsX_gU (K : KT) (a : Nat → Nat) (G : GT) {b n L k : Nat} (f : Nat → Int32) (h : ∀ i, i < n → i + b ≠ k) : rowsX K a (gU G k f) b n L = rowsX K a G b n L := by
  unfold rowsX
  apply List.map_congr_left
  intro i hi
  rw [gU_ne G f (h i (List.mem_range.mp hi))]
theorem wXr_gU (K : KT) (a : Nat → Nat) (G : GT) {k : Nat} (f : Nat → Int32) (h : k < 100) : wXr K a (gU G k f) = wXr K a G := by
  unfold wXr
  rw [rowsX_gU K a G f (fun i _ => by omega), rowsX_gU K a G f (fun i _ => by omega), rowsX_gU K a G f (fun i _ => by omega)]
theorem rowsX_len (K : KT) (a : Nat → Nat) (G : GT) (b n L : Nat) : (rowsX K a G b n L).length = n := by unfold rowsX; rw [List.length_map, List.length_range]
theorem rowsX_at (K : KT) (a : Nat → Nat) (G : GT) {b n L i : Nat} (h : i < n) : (rowsX K a G b n L)[i]? = some (a (i + b), .inl (K.2.2.1 0, L, .inl (G (i + b)))) := by
  unfold rowsX
  rw [List.getElem?_map, List.getElem?_range h]; rfl
theorem rowsX_set (K : KT) (a : Nat → Nat) (G : GT) {b n L i : Nat} (f : Nat → Int32) (h : i < n) : (rowsX K a G b n L).set i (a (i + b), .inl (K.2.2.1 0, L, .inl f)) = rowsX K a (gU G (i + b) f) b n L := by
  apply List.ext_getElem?
  intro j
  by_cases hj : j = i
  · subst hj
    rw [List.getElem?_set_self (by rw [rowsX_len]; exact h), rowsX_at K a _ h, gU_same]
  · rw [List.getElem?_set_ne (Ne.symm hj)]
    by_cases hn : j < n
    · rw [rowsX_at K a _ hn, rowsX_at K a _ hn, gU_ne G f (by omega)]
    · rw [List.getElem?_eq_none (by rw [rowsX_len]; omega), List.getElem?_eq_none (by rw [rowsX_len]; omega)]
theorem wXa_gU (K : KT) (a : Nat → Nat) (F : FT) (G : GT) {k : Nat} (f : Nat → Int32) (h : 100 ≤ k) : wXa K a F (gU G k f) = wXa K a F G := by
  unfold wXa
  rw [gU_ne G (j := 10) f (by omega), gU_ne G (j := 11) f (by omega), gU_ne G (j := 12) f (by omega), gU_ne G (j := 13) f (by omega), gU_ne G (j := 14) f (by omega), gU_ne G (j := 15) f (by omega), gU_ne G (j := 16) f (by omega), gU_ne G (j := 17) f (by omega), gU_ne G (j := 18) f (by omega), gU_ne G (j := 19) f (by omega), gU_ne G (j := 20) f (by omega), gU_ne G (j := 21) f (by omega), gU_ne G (j := 22) f (by omega), gU_ne G (j := 23) f (by omega), gU_ne G (j := 24) f (by omega), gU_ne G (j := 25) f (by omega), gU_ne G (j := 26) f (by omega), gU_ne G (j := 27) f (by omega), gU_ne G (j := 28) f (by omega), gU_ne G (j := 29) f (by omega), gU_ne G (j := 30) f (by omega), gU_ne G (j := 31) f (by omega), gU_ne G (j := 40) f (by omega), gU_ne G (j := 41) f (by omega), gU_ne G (j := 42) f (by omega), gU_ne G (j := 46) f (by omega), gU_ne G (j := 47) f (by omega)]
theorem wXa_len (K : KT) (a : Nat → Nat) (F : FT) (G : GT) : (wXa K a F G).length = 38 := rfl
theorem wX_set (K : KT) (a : Nat → Nat) (F F1 : FT) (G G1 : GT) {k : Nat} {q : Nat × va_E} (hk : k < 38) (h : (wXa K a F G).set k q = wXa K a F1 G1) (h2 : wXr K a G1 = wXr K a G) : (wX K a F G).set k q = wX K a F1 G1 := by
  unfold wX
  rw [List.set_append_left _ _ (by rw [wXa_len]; exact hk), h, h2]
theorem wX_at (K : KT) (a : Nat → Nat) (F : FT) (G : GT) {k : Nat} {q : Nat × va_E} (h : (wXa K a F G)[k]? = some q) : (wX K a F G)[k]? = some q := by
  unfold wX
  rw [List.getElem?_append_left (List.getElem?_eq_some_iff.mp h).1]
  exact h
theorem wXr_at_300 (K : KT) (a : Nat → Nat) (G : GT) {i : Nat} (h : i < 3) : (wXr K a G)[i]? = some (a (i + 300), .inl (K.2.2.1 0, 14, .inl (G (i + 300)))) := by
  unfold wXr
  rw [List.getElem?_append_left (by rw [rowsX_len]; exact h)]
  exact rowsX_at K a G h
theorem wX_at_300 (K : KT) (a : Nat → Nat) (F : FT) (G : GT) {i : Nat} (h : i < 3) : (wX K a F G)[38 + (i)]? = some (a (i + 300), .inl (K.2.2.1 0, 14, .inl (G (i + 300)))) := by
  unfold wX
  rw [List.getElem?_append_right (by rw [wXa_len]; omega), wXa_len, show 38 + (i) - 38 = i by omega]
  exact wXr_at_300 K a G h
theorem wX_set_300 (K : KT) (a : Nat → Nat) (F : FT) (G : GT) {i : Nat} (f : Nat → Int32) (h : i < 3) : (wX K a F G).set (38 + (i)) (a (i + 300), .inl (K.2.2.1 0, 14, .inl f)) = wX K a F (gU G (i + 300) f) := by
  unfold wX
  rw [List.set_append_right _ _ (by rw [wXa_len]; omega), wXa_len, show 38 + (i) - 38 = i by omega, wXa_gU K a F G f (by omega)]
  congr 1
  unfold wXr
  rw [List.set_append_left _ _ (by rw [rowsX_len]; exact h), rowsX_set K a G f h, rowsX_gU K a G (b := 100) f (fun j hj => by omega), rowsX_gU K a G (b := 200) f (fun j hj => by omega)]
theorem wXr_at_100 (K : KT) (a : Nat → Nat) (G : GT) {i : Nat} (h : i < 40) : (wXr K a G)[3 + i]? = some (a (i + 100), .inl (K.2.2.1 0, 6, .inl (G (i + 100)))) := by
  unfold wXr
  rw [List.getElem?_append_right (by rw [rowsX_len]; omega), rowsX_len, show 3 + i - 3 = i by omega, List.getElem?_append_left (by rw [rowsX_len]; exact h)]
  exact rowsX_at K a G h
theorem wX_at_100 (K : KT) (a : Nat → Nat) (F : FT) (G : GT) {i : Nat} (h : i < 40) : (wX K a F G)[38 + (3 + i)]? = some (a (i + 100), .inl (K.2.2.1 0, 6, .inl (G (i + 100)))) := by
  unfold wX
  rw [List.getElem?_append_right (by rw [wXa_len]; omega), wXa_len, show 38 + (3 + i) - 38 = 3 + i by omega]
  exact wXr_at_100 K a G h
theorem wX_set_100 (K : KT) (a : Nat → Nat) (F : FT) (G : GT) {i : Nat} (f : Nat → Int32) (h : i < 40) : (wX K a F G).set (38 + (3 + i)) (a (i + 100), .inl (K.2.2.1 0, 6, .inl f)) = wX K a F (gU G (i + 100) f) := by
  unfold wX
  rw [List.set_append_right _ _ (by rw [wXa_len]; omega), wXa_len, show 38 + (3 + i) - 38 = 3 + i by omega, wXa_gU K a F G f (by omega)]
  congr 1
  unfold wXr
  rw [List.set_append_right _ _ (by rw [rowsX_len]; omega), rowsX_len, show 3 + i - 3 = i by omega, List.set_append_left _ _ (by rw [rowsX_len]; exact h), rowsX_set K a G f h, rowsX_gU K a G (b := 300) f (fun j hj => by omega), rowsX_gU K a G (b := 200) f (fun j hj => by omega)]
theorem wXr_at_200 (K : KT) (a : Nat → Nat) (G : GT) {i : Nat} (h : i < 40) : (wXr K a G)[43 + i]? = some (a (i + 200), .inl (K.2.2.1 0, 6, .inl (G (i + 200)))) := by
  unfold wXr
  rw [List.getElem?_append_right (by rw [rowsX_len]; omega), rowsX_len, List.getElem?_append_right (by rw [rowsX_len]; omega), rowsX_len, show 43 + i - 3 - 40 = i by omega]
  exact rowsX_at K a G h
theorem wX_at_200 (K : KT) (a : Nat → Nat) (F : FT) (G : GT) {i : Nat} (h : i < 40) : (wX K a F G)[38 + (43 + i)]? = some (a (i + 200), .inl (K.2.2.1 0, 6, .inl (G (i + 200)))) := by
  unfold wX
  rw [List.getElem?_append_right (by rw [wXa_len]; omega), wXa_len, show 38 + (43 + i) - 38 = 43 + i by omega]
  exact wXr_at_200 K a G h
theorem wX_set_200 (K : KT) (a : Nat → Nat) (F : FT) (G : GT) {i : Nat} (f : Nat → Int32) (h : i < 40) : (wX K a F G).set (38 + (43 + i)) (a (i + 200), .inl (K.2.2.1 0, 6, .inl f)) = wX K a F (gU G (i + 200) f) := by
  unfold wX
  rw [List.set_append_right _ _ (by rw [wXa_len]; omega), wXa_len, show 38 + (43 + i) - 38 = 43 + i by omega, wXa_gU K a F G f (by omega)]
  congr 1
  unfold wXr
  rw [List.set_append_right _ _ (by rw [rowsX_len]; omega), rowsX_len, List.set_append_right _ _ (by rw [rowsX_len]; omega), rowsX_len, show 43 + i - 3 - 40 = i by omega, rowsX_set K a G f h, rowsX_gU K a G (b := 300) f (fun j hj => by omega), rowsX_gU K a G (b := 100) f (fun j hj => by omega)]
theorem cX_0 (K : KT) (a : Nat → Nat) (F : FT) (G : GT) : (wX K a F G)[0]? = some (a 0, .inr (7, [.ref (a 1), .ref (a 2), .ref (a 3), .ref (a 4), .ref (a 5), .ref (a 6), .ref (a 7), .int (F 0), .int (F 1)])) := wX_at K a F G rfl
theorem rvX_0 (K : KT) (a : Nat → Nat) (F : FT) (G : GT) : ∃ (q0 ci : Nat) (fs : List Value) (q : vw_C), (wX K a F G)[q0]? = some (a 0, .inr (ci, fs)) ∧ vwCl[ci]? = some q ∧ q.1 = RX7 := ⟨_, _, _, _, cX_0 K a F G, rfl, rfl⟩
theorem cX_1 (K : KT) (a : Nat → Nat) (F : FT) (G : GT) : (wX K a F G)[1]? = some (a 1, .inr (6, [.ref (a 40), .int (F 2)])) := wX_at K a F G rfl
theorem rvX_1 (K : KT) (a : Nat → Nat) (F : FT) (G : GT) : ∃ (q0 ci : Nat) (fs : List Value) (q : vw_C), (wX K a F G)[q0]? = some (a 1, .inr (ci, fs)) ∧ vwCl[ci]? = some q ∧ q.1 = RX6 := ⟨_, _, _, _, cX_1 K a F G, rfl, rfl⟩
theorem cX_2 (K : KT) (a : Nat → Nat) (F : FT) (G : GT) : (wX K a F G)[3]? = some (a 2, .inr (3, [.ref (a 41), .ref (a 42), .int (F 10), .int (F 11), .int (F 12), .int (F 13), .int (F 14), .int (F 15), .int (F 16)])) := wX_at K a F G rfl
theorem rvX_2 (K : KT) (a : Nat → Nat) (F : FT) (G : GT) : ∃ (q0 ci : Nat) (fs : List Value) (q : vw_C), (wX K a F G)[q0]? = some (a 2, .inr (ci, fs)) ∧ vwCl[ci]? = some q ∧ q.1 = RX3 := ⟨_, _, _, _, cX_2 K a F G, rfl, rfl⟩
theorem cX_3 (K : KT) (a : Nat → Nat) (F : FT) (G : GT) : (wX K a F G)[6]? = some (a 3, .inr (2, [.ref (a 43), .ref (a 10)])) := wX_at K a F G rfl
theorem rvX_3 (K : KT) (a : Nat → Nat) (F : FT) (G : GT) : ∃ (q0 ci : Nat) (fs : List Value) (q : vw_C), (wX K a F G)[q0]? = some (a 3, .inr (ci, fs)) ∧ vwCl[ci]? = some q ∧ q.1 = RX2 := ⟨_, _, _, _, cX_3 K a F G, rfl, rfl⟩
theorem cX_4 (K : KT) (a : Nat → Nat) (F : FT) (G : GT) : (wX K a F G)[9]? = some (a 4, .inr (4, [.ref (a 11), .int (F 3), .int (F 4), .ref (a 12), .ref (a 13), .ref (a 14), .ref (a 15), .int (F 5), .int (F 17), .ref (a 46), .ref (a 47)])) := wX_at K a F G rfl
theorem rvX_4 (K : KT) (a : Nat → Nat) (F : FT) (G : GT) : ∃ (q0 ci : Nat) (fs : List Value) (q : vw_C), (wX K a F G)[q0]? = some (a 4, .inr (ci, fs)) ∧ vwCl[ci]? = some q ∧ q.1 = RX4 := ⟨_, _, _, _, cX_4 K a F G, rfl, rfl⟩
theorem cX_5 (K : KT) (a : Nat → Nat) (F : FT) (G : GT) : (wX K a F G)[17]? = some (a 5, .inr (1, [.ref (a 16), .ref (a 17), .ref (a 18), .ref (a 44), .ref (a 45), .int (F 6)])) := wX_at K a F G rfl
theorem rvX_5 (K : KT) (a : Nat → Nat) (F : FT) (G : GT) : ∃ (q0 ci : Nat) (fs : List Value) (q : vw_C), (wX K a F G)[q0]? = some (a 5, .inr (ci, fs)) ∧ vwCl[ci]? = some q ∧ q.1 = RX1 := ⟨_, _, _, _, cX_5 K a F G, rfl, rfl⟩
theorem cX_6 (K : KT) (a : Nat → Nat) (F : FT) (G : GT) : (wX K a F G)[23]? = some (a 6, .inr (0, [.ref (a 19), .ref (a 20), .ref (a 21), .ref (a 22), .int (F 7)])) := wX_at K a F G rfl
theorem rvX_6 (K : KT) (a : Nat → Nat) (F : FT) (G : GT) : ∃ (q0 ci : Nat) (fs : List Value) (q : vw_C), (wX K a F G)[q0]? = some (a 6, .inr (ci, fs)) ∧ vwCl[ci]? = some q ∧ q.1 = RX0 := ⟨_, _, _, _, cX_6 K a F G, rfl, rfl⟩
theorem cX_7 (K : KT) (a : Nat → Nat) (F : FT) (G : GT) : (wX K a F G)[28]? = some (a 7, .inr (5, [.ref (a 23), .ref (a 24), .ref (a 25), .ref (a 26), .ref (a 27), .ref (a 28), .ref (a 29), .ref (a 30), .ref (a 31), .int (F 8)])) := wX_at K a F G rfl
theorem rvX_7 (K : KT) (a : Nat → Nat) (F : FT) (G : GT) : ∃ (q0 ci : Nat) (fs : List Value) (q : vw_C), (wX K a F G)[q0]? = some (a 7, .inr (ci, fs)) ∧ vwCl[ci]? = some q ∧ q.1 = RX5 := ⟨_, _, _, _, cX_7 K a F G, rfl, rfl⟩
theorem cX_10 (K : KT) (a : Nat → Nat) (F : FT) (G : GT) : (wX K a F G)[8]? = some (a 10, .inl (K.2.2.1 0, 3, .inl (G 10))) := wX_at K a F G rfl
theorem uX_10 (K : KT) (a : Nat → Nat) (F : FT) (G : GT) (f : Nat → Int32) : (wX K a F G).set 8 (a 10, .inl (K.2.2.1 0, 3, .inl f)) = wX K a F (gU G 10 f) := wX_set K a F F G _ (by decide) rfl (wXr_gU K a G f (by decide))
theorem cX_11 (K : KT) (a : Nat → Nat) (F : FT) (G : GT) : (wX K a F G)[10]? = some (a 11, .inl (K.2.2.1 0, 16, .inl (G 11))) := wX_at K a F G rfl
theorem uX_11 (K : KT) (a : Nat → Nat) (F : FT) (G : GT) (f : Nat → Int32) : (wX K a F G).set 10 (a 11, .inl (K.2.2.1 0, 16, .inl f)) = wX K a F (gU G 11 f) := wX_set K a F F G _ (by decide) rfl (wXr_gU K a G f (by decide))
theorem cX_12 (K : KT) (a : Nat → Nat) (F : FT) (G : GT) : (wX K a F G)[11]? = some (a 12, .inl (K.2.2.1 0, 80, .inl (G 12))) := wX_at K a F G rfl
theorem uX_12 (K : KT) (a : Nat → Nat) (F : FT) (G : GT) (f : Nat → Int32) : (wX K a F G).set 11 (a 12, .inl (K.2.2.1 0, 80, .inl f)) = wX K a F (gU G 12 f) := wX_set K a F F G _ (by decide) rfl (wXr_gU K a G f (by decide))
theorem cX_13 (K : KT) (a : Nat → Nat) (F : FT) (G : GT) : (wX K a F G)[12]? = some (a 13, .inl (K.2.2.1 0, 80, .inl (G 13))) := wX_at K a F G rfl
theorem uX_13 (K : KT) (a : Nat → Nat) (F : FT) (G : GT) (f : Nat → Int32) : (wX K a F G).set 12 (a 13, .inl (K.2.2.1 0, 80, .inl f)) = wX K a F (gU G 13 f) := wX_set K a F F G _ (by decide) rfl (wXr_gU K a G f (by decide))
theorem cX_14 (K : KT) (a : Nat → Nat) (F : FT) (G : GT) : (wX K a F G)[13]? = some (a 14, .inl (K.2.2.1 0, 80, .inl (G 14))) := wX_at K a F G rfl
theorem uX_14 (K : KT) (a : Nat → Nat) (F : FT) (G : GT) (f : Nat → Int32) : (wX K a F G).set 13 (a 14, .inl (K.2.2.1 0, 80, .inl f)) = wX K a F (gU G 14 f) := wX_set K a F F G _ (by decide) rfl (wXr_gU K a G f (by decide))
theorem cX_15 (K : KT) (a : Nat → Nat) (F : FT) (G : GT) : (wX K a F G)[14]? = some (a 15, .inl (K.2.2.1 0, 80, .inl (G 15))) := wX_at K a F G rfl
theorem uX_15 (K : KT) (a : Nat → Nat) (F : FT) (G : GT) (f : Nat → Int32) : (wX K a F G).set 14 (a 15, .inl (K.2.2.1 0, 80, .inl f)) = wX K a F (gU G 15 f) := wX_set K a F F G _ (by decide) rfl (wXr_gU K a G f (by decide))
theorem cX_16 (K : KT) (a : Nat → Nat) (F : FT) (G : GT) : (wX K a F G)[18]? = some (a 16, .inl (K.2.2.1 0, 40, .inl (G 16))) := wX_at K a F G rfl
theorem uX_16 (K : KT) (a : Nat → Nat) (F : FT) (G : GT) (f : Nat → Int32) : (wX K a F G).set 18 (a 16, .inl (K.2.2.1 0, 40, .inl f)) = wX K a F (gU G 16 f) := wX_set K a F F G _ (by decide) rfl (wXr_gU K a G f (by decide))
theorem cX_17 (K : KT) (a : Nat → Nat) (F : FT) (G : GT) : (wX K a F G)[19]? = some (a 17, .inl (K.2.2.1 0, 40, .inl (G 17))) := wX_at K a F G rfl
theorem uX_17 (K : KT) (a : Nat → Nat) (F : FT) (G : GT) (f : Nat → Int32) : (wX K a F G).set 19 (a 17, .inl (K.2.2.1 0, 40, .inl f)) = wX K a F (gU G 17 f) := wX_set K a F F G _ (by decide) rfl (wXr_gU K a G f (by decide))
theorem cX_18 (K : KT) (a : Nat → Nat) (F : FT) (G : GT) : (wX K a F G)[20]? = some (a 18, .inl (K.2.2.1 0, 40, .inl (G 18))) := wX_at K a F G rfl
theorem uX_18 (K : KT) (a : Nat → Nat) (F : FT) (G : GT) (f : Nat → Int32) : (wX K a F G).set 20 (a 18, .inl (K.2.2.1 0, 40, .inl f)) = wX K a F (gU G 18 f) := wX_set K a F F G _ (by decide) rfl (wXr_gU K a G f (by decide))
theorem cX_19 (K : KT) (a : Nat → Nat) (F : FT) (G : GT) : (wX K a F G)[24]? = some (a 19, .inl (K.2.2.1 0, 400, .inl (G 19))) := wX_at K a F G rfl
theorem uX_19 (K : KT) (a : Nat → Nat) (F : FT) (G : GT) (f : Nat → Int32) : (wX K a F G).set 24 (a 19, .inl (K.2.2.1 0, 400, .inl f)) = wX K a F (gU G 19 f) := wX_set K a F F G _ (by decide) rfl (wXr_gU K a G f (by decide))
theorem cX_20 (K : KT) (a : Nat → Nat) (F : FT) (G : GT) : (wX K a F G)[25]? = some (a 20, .inl (K.2.2.1 0, 400, .inl (G 20))) := wX_at K a F G rfl
theorem uX_20 (K : KT) (a : Nat → Nat) (F : FT) (G : GT) (f : Nat → Int32) : (wX K a F G).set 25 (a 20, .inl (K.2.2.1 0, 400, .inl f)) = wX K a F (gU G 20 f) := wX_set K a F F G _ (by decide) rfl (wXr_gU K a G f (by decide))
theorem cX_21 (K : KT) (a : Nat → Nat) (F : FT) (G : GT) : (wX K a F G)[26]? = some (a 21, .inl (K.2.2.1 0, 400, .inl (G 21))) := wX_at K a F G rfl
theorem uX_21 (K : KT) (a : Nat → Nat) (F : FT) (G : GT) (f : Nat → Int32) : (wX K a F G).set 26 (a 21, .inl (K.2.2.1 0, 400, .inl f)) = wX K a F (gU G 21 f) := wX_set K a F F G _ (by decide) rfl (wXr_gU K a G f (by decide))
theorem cX_22 (K : KT) (a : Nat → Nat) (F : FT) (G : GT) : (wX K a F G)[27]? = some (a 22, .inl (K.2.2.1 0, 400, .inl (G 22))) := wX_at K a F G rfl
theorem uX_22 (K : KT) (a : Nat → Nat) (F : FT) (G : GT) (f : Nat → Int32) : (wX K a F G).set 27 (a 22, .inl (K.2.2.1 0, 400, .inl f)) = wX K a F (gU G 22 f) := wX_set K a F F G _ (by decide) rfl (wXr_gU K a G f (by decide))
theorem cX_23 (K : KT) (a : Nat → Nat) (F : FT) (G : GT) : (wX K a F G)[29]? = some (a 23, .inl (K.2.2.1 0, 80, .inl (G 23))) := wX_at K a F G rfl
theorem uX_23 (K : KT) (a : Nat → Nat) (F : FT) (G : GT) (f : Nat → Int32) : (wX K a F G).set 29 (a 23, .inl (K.2.2.1 0, 80, .inl f)) = wX K a F (gU G 23 f) := wX_set K a F F G _ (by decide) rfl (wXr_gU K a G f (by decide))
theorem cX_24 (K : KT) (a : Nat → Nat) (F : FT) (G : GT) : (wX K a F G)[30]? = some (a 24, .inl (K.2.2.1 0, 80, .inl (G 24))) := wX_at K a F G rfl
theorem uX_24 (K : KT) (a : Nat → Nat) (F : FT) (G : GT) (f : Nat → Int32) : (wX K a F G).set 30 (a 24, .inl (K.2.2.1 0, 80, .inl f)) = wX K a F (gU G 24 f) := wX_set K a F F G _ (by decide) rfl (wXr_gU K a G f (by decide))
theorem cX_25 (K : KT) (a : Nat → Nat) (F : FT) (G : GT) : (wX K a F G)[31]? = some (a 25, .inl (K.2.2.1 0, 80, .inl (G 25))) := wX_at K a F G rfl
theorem uX_25 (K : KT) (a : Nat → Nat) (F : FT) (G : GT) (f : Nat → Int32) : (wX K a F G).set 31 (a 25, .inl (K.2.2.1 0, 80, .inl f)) = wX K a F (gU G 25 f) := wX_set K a F F G _ (by decide) rfl (wXr_gU K a G f (by decide))
theorem cX_26 (K : KT) (a : Nat → Nat) (F : FT) (G : GT) : (wX K a F G)[32]? = some (a 26, .inl (K.2.2.1 0, 80, .inl (G 26))) := wX_at K a F G rfl
theorem uX_26 (K : KT) (a : Nat → Nat) (F : FT) (G : GT) (f : Nat → Int32) : (wX K a F G).set 32 (a 26, .inl (K.2.2.1 0, 80, .inl f)) = wX K a F (gU G 26 f) := wX_set K a F F G _ (by decide) rfl (wXr_gU K a G f (by decide))
theorem cX_27 (K : KT) (a : Nat → Nat) (F : FT) (G : GT) : (wX K a F G)[33]? = some (a 27, .inl (K.2.2.1 0, 80, .inl (G 27))) := wX_at K a F G rfl
theorem uX_27 (K : KT) (a : Nat → Nat) (F : FT) (G : GT) (f : Nat → Int32) : (wX K a F G).set 33 (a 27, .inl (K.2.2.1 0, 80, .inl f)) = wX K a F (gU G 27 f) := wX_set K a F F G _ (by decide) rfl (wXr_gU K a G f (by decide))
theorem cX_28 (K : KT) (a : Nat → Nat) (F : FT) (G : GT) : (wX K a F G)[34]? = some (a 28, .inl (K.2.2.1 0, 80, .inl (G 28))) := wX_at K a F G rfl
theorem uX_28 (K : KT) (a : Nat → Nat) (F : FT) (G : GT) (f : Nat → Int32) : (wX K a F G).set 34 (a 28, .inl (K.2.2.1 0, 80, .inl f)) = wX K a F (gU G 28 f) := wX_set K a F F G _ (by decide) rfl (wXr_gU K a G f (by decide))
theorem cX_29 (K : KT) (a : Nat → Nat) (F : FT) (G : GT) : (wX K a F G)[35]? = some (a 29, .inl (K.2.2.1 0, 80, .inl (G 29))) := wX_at K a F G rfl
theorem uX_29 (K : KT) (a : Nat → Nat) (F : FT) (G : GT) (f : Nat → Int32) : (wX K a F G).set 35 (a 29, .inl (K.2.2.1 0, 80, .inl f)) = wX K a F (gU G 29 f) := wX_set K a F F G _ (by decide) rfl (wXr_gU K a G f (by decide))
theorem cX_30 (K : KT) (a : Nat → Nat) (F : FT) (G : GT) : (wX K a F G)[36]? = some (a 30, .inl (K.2.2.1 2, 80, .inl (G 30))) := wX_at K a F G rfl
theorem uX_30 (K : KT) (a : Nat → Nat) (F : FT) (G : GT) (f : Nat → Int32) : (wX K a F G).set 36 (a 30, .inl (K.2.2.1 2, 80, .inl f)) = wX K a F (gU G 30 f) := wX_set K a F F G _ (by decide) rfl (wXr_gU K a G f (by decide))
theorem cX_31 (K : KT) (a : Nat → Nat) (F : FT) (G : GT) : (wX K a F G)[37]? = some (a 31, .inl (K.2.2.1 2, 80, .inl (G 31))) := wX_at K a F G rfl
theorem uX_31 (K : KT) (a : Nat → Nat) (F : FT) (G : GT) (f : Nat → Int32) : (wX K a F G).set 37 (a 31, .inl (K.2.2.1 2, 80, .inl f)) = wX K a F (gU G 31 f) := wX_set K a F F G _ (by decide) rfl (wXr_gU K a G f (by decide))
theorem cX_40 (K : KT) (a : Nat → Nat) (F : FT) (G : GT) : (wX K a F G)[2]? = some (a 40, .inl (K.2.2.1 1, 320, .inl (G 40))) := wX_at K a F G rfl
theorem uX_40 (K : KT) (a : Nat → Nat) (F : FT) (G : GT) (f : Nat → Int32) : (wX K a F G).set 2 (a 40, .inl (K.2.2.1 1, 320, .inl f)) = wX K a F (gU G 40 f) := wX_set K a F F G _ (by decide) rfl (wXr_gU K a G f (by decide))
theorem cX_41 (K : KT) (a : Nat → Nat) (F : FT) (G : GT) : (wX K a F G)[4]? = some (a 41, .inl (K.2.2.1 0, 14, .inl (G 41))) := wX_at K a F G rfl
theorem uX_41 (K : KT) (a : Nat → Nat) (F : FT) (G : GT) (f : Nat → Int32) : (wX K a F G).set 4 (a 41, .inl (K.2.2.1 0, 14, .inl f)) = wX K a F (gU G 41 f) := wX_set K a F F G _ (by decide) rfl (wXr_gU K a G f (by decide))
theorem cX_42 (K : KT) (a : Nat → Nat) (F : FT) (G : GT) : (wX K a F G)[5]? = some (a 42, .inl (K.2.2.1 2, 14, .inl (G 42))) := wX_at K a F G rfl
theorem uX_42 (K : KT) (a : Nat → Nat) (F : FT) (G : GT) (f : Nat → Int32) : (wX K a F G).set 5 (a 42, .inl (K.2.2.1 2, 14, .inl f)) = wX K a F (gU G 42 f) := wX_set K a F F G _ (by decide) rfl (wXr_gU K a G f (by decide))
theorem cX_46 (K : KT) (a : Nat → Nat) (F : FT) (G : GT) : (wX K a F G)[15]? = some (a 46, .inl (K.2.2.1 0, 16, .inl (G 46))) := wX_at K a F G rfl
theorem uX_46 (K : KT) (a : Nat → Nat) (F : FT) (G : GT) (f : Nat → Int32) : (wX K a F G).set 15 (a 46, .inl (K.2.2.1 0, 16, .inl f)) = wX K a F (gU G 46 f) := wX_set K a F F G _ (by decide) rfl (wXr_gU K a G f (by decide))
theorem cX_47 (K : KT) (a : Nat → Nat) (F : FT) (G : GT) : (wX K a F G)[16]? = some (a 47, .inl (K.2.2.1 0, 80, .inl (G 47))) := wX_at K a F G rfl
theorem uX_47 (K : KT) (a : Nat → Nat) (F : FT) (G : GT) (f : Nat → Int32) : (wX K a F G).set 16 (a 47, .inl (K.2.2.1 0, 80, .inl f)) = wX K a F (gU G 47 f) := wX_set K a F F G _ (by decide) rfl (wXr_gU K a G f (by decide))
theorem cX_43 (K : KT) (a : Nat → Nat) (F : FT) (G : GT) : (wX K a F G)[7]? = some (a 43, .inl (K.2.2.1 3, 3, .inr (.inr (.inr (.inr (fun i => if i < 3 then some (a (i + 300)) else none)))))) := wX_at K a F G rfl
theorem cX_44 (K : KT) (a : Nat → Nat) (F : FT) (G : GT) : (wX K a F G)[21]? = some (a 44, .inl (K.2.2.1 3, 40, .inr (.inr (.inr (.inr (fun i => if i < 40 then some (a (i + 100)) else none)))))) := wX_at K a F G rfl
theorem cX_45 (K : KT) (a : Nat → Nat) (F : FT) (G : GT) : (wX K a F G)[22]? = some (a 45, .inl (K.2.2.1 3, 40, .inr (.inr (.inr (.inr (fun i => if i < 40 then some (a (i + 200)) else none)))))) := wX_at K a F G rfl
theorem fX_0 (K : KT) (a : Nat → Nat) (F : FT) (G : GT) (v : Int32) : (wX K a F G).set 0 (a 0, .inr (7, ([.ref (a 1), .ref (a 2), .ref (a 3), .ref (a 4), .ref (a 5), .ref (a 6), .ref (a 7), .int (F 0), .int (F 1)] : List Value).set 7 (.int v))) = wX K a (sU F 0 v) G := wX_set K a F _ G G (by decide) rfl rfl
theorem fX_1 (K : KT) (a : Nat → Nat) (F : FT) (G : GT) (v : Int32) : (wX K a F G).set 0 (a 0, .inr (7, ([.ref (a 1), .ref (a 2), .ref (a 3), .ref (a 4), .ref (a 5), .ref (a 6), .ref (a 7), .int (F 0), .int (F 1)] : List Value).set 8 (.int v))) = wX K a (sU F 1 v) G := wX_set K a F _ G G (by decide) rfl rfl
theorem fX_2 (K : KT) (a : Nat → Nat) (F : FT) (G : GT) (v : Int32) : (wX K a F G).set 1 (a 1, .inr (6, ([.ref (a 40), .int (F 2)] : List Value).set 1 (.int v))) = wX K a (sU F 2 v) G := wX_set K a F _ G G (by decide) rfl rfl
theorem fX_3 (K : KT) (a : Nat → Nat) (F : FT) (G : GT) (v : Int32) : (wX K a F G).set 9 (a 4, .inr (4, ([.ref (a 11), .int (F 3), .int (F 4), .ref (a 12), .ref (a 13), .ref (a 14), .ref (a 15), .int (F 5), .int (F 17), .ref (a 46), .ref (a 47)] : List Value).set 1 (.int v))) = wX K a (sU F 3 v) G := wX_set K a F _ G G (by decide) rfl rfl
theorem fX_4 (K : KT) (a : Nat → Nat) (F : FT) (G : GT) (v : Int32) : (wX K a F G).set 9 (a 4, .inr (4, ([.ref (a 11), .int (F 3), .int (F 4), .ref (a 12), .ref (a 13), .ref (a 14), .ref (a 15), .int (F 5), .int (F 17), .ref (a 46), .ref (a 47)] : List Value).set 2 (.int v))) = wX K a (sU F 4 v) G := wX_set K a F _ G G (by decide) rfl rfl
theorem fX_5 (K : KT) (a : Nat → Nat) (F : FT) (G : GT) (v : Int32) : (wX K a F G).set 9 (a 4, .inr (4, ([.ref (a 11), .int (F 3), .int (F 4), .ref (a 12), .ref (a 13), .ref (a 14), .ref (a 15), .int (F 5), .int (F 17), .ref (a 46), .ref (a 47)] : List Value).set 7 (.int v))) = wX K a (sU F 5 v) G := wX_set K a F _ G G (by decide) rfl rfl
theorem fX_6 (K : KT) (a : Nat → Nat) (F : FT) (G : GT) (v : Int32) : (wX K a F G).set 17 (a 5, .inr (1, ([.ref (a 16), .ref (a 17), .ref (a 18), .ref (a 44), .ref (a 45), .int (F 6)] : List Value).set 5 (.int v))) = wX K a (sU F 6 v) G := wX_set K a F _ G G (by decide) rfl rfl
theorem fX_7 (K : KT) (a : Nat → Nat) (F : FT) (G : GT) (v : Int32) : (wX K a F G).set 23 (a 6, .inr (0, ([.ref (a 19), .ref (a 20), .ref (a 21), .ref (a 22), .int (F 7)] : List Value).set 4 (.int v))) = wX K a (sU F 7 v) G := wX_set K a F _ G G (by decide) rfl rfl
theorem fX_8 (K : KT) (a : Nat → Nat) (F : FT) (G : GT) (v : Int32) : (wX K a F G).set 28 (a 7, .inr (5, ([.ref (a 23), .ref (a 24), .ref (a 25), .ref (a 26), .ref (a 27), .ref (a 28), .ref (a 29), .ref (a 30), .ref (a 31), .int (F 8)] : List Value).set 9 (.int v))) = wX K a (sU F 8 v) G := wX_set K a F _ G G (by decide) rfl rfl
theorem fX_10 (K : KT) (a : Nat → Nat) (F : FT) (G : GT) (v : Int32) : (wX K a F G).set 3 (a 2, .inr (3, ([.ref (a 41), .ref (a 42), .int (F 10), .int (F 11), .int (F 12), .int (F 13), .int (F 14), .int (F 15), .int (F 16)] : List Value).set 2 (.int v))) = wX K a (sU F 10 v) G := wX_set K a F _ G G (by decide) rfl rfl
theorem fX_11 (K : KT) (a : Nat → Nat) (F : FT) (G : GT) (v : Int32) : (wX K a F G).set 3 (a 2, .inr (3, ([.ref (a 41), .ref (a 42), .int (F 10), .int (F 11), .int (F 12), .int (F 13), .int (F 14), .int (F 15), .int (F 16)] : List Value).set 3 (.int v))) = wX K a (sU F 11 v) G := wX_set K a F _ G G (by decide) rfl rfl
theorem fX_12 (K : KT) (a : Nat → Nat) (F : FT) (G : GT) (v : Int32) : (wX K a F G).set 3 (a 2, .inr (3, ([.ref (a 41), .ref (a 42), .int (F 10), .int (F 11), .int (F 12), .int (F 13), .int (F 14), .int (F 15), .int (F 16)] : List Value).set 4 (.int v))) = wX K a (sU F 12 v) G := wX_set K a F _ G G (by decide) rfl rfl
theorem fX_13 (K : KT) (a : Nat → Nat) (F : FT) (G : GT) (v : Int32) : (wX K a F G).set 3 (a 2, .inr (3, ([.ref (a 41), .ref (a 42), .int (F 10), .int (F 11), .int (F 12), .int (F 13), .int (F 14), .int (F 15), .int (F 16)] : List Value).set 5 (.int v))) = wX K a (sU F 13 v) G := wX_set K a F _ G G (by decide) rfl rfl
theorem fX_14 (K : KT) (a : Nat → Nat) (F : FT) (G : GT) (v : Int32) : (wX K a F G).set 3 (a 2, .inr (3, ([.ref (a 41), .ref (a 42), .int (F 10), .int (F 11), .int (F 12), .int (F 13), .int (F 14), .int (F 15), .int (F 16)] : List Value).set 6 (.int v))) = wX K a (sU F 14 v) G := wX_set K a F _ G G (by decide) rfl rfl
theorem fX_15 (K : KT) (a : Nat → Nat) (F : FT) (G : GT) (v : Int32) : (wX K a F G).set 3 (a 2, .inr (3, ([.ref (a 41), .ref (a 42), .int (F 10), .int (F 11), .int (F 12), .int (F 13), .int (F 14), .int (F 15), .int (F 16)] : List Value).set 7 (.int v))) = wX K a (sU F 15 v) G := wX_set K a F _ G G (by decide) rfl rfl
theorem fX_16 (K : KT) (a : Nat → Nat) (F : FT) (G : GT) (v : Int32) : (wX K a F G).set 3 (a 2, .inr (3, ([.ref (a 41), .ref (a 42), .int (F 10), .int (F 11), .int (F 12), .int (F 13), .int (F 14), .int (F 15), .int (F 16)] : List Value).set 8 (.int v))) = wX K a (sU F 16 v) G := wX_set K a F _ G G (by decide) rfl rfl
theorem fX_17 (K : KT) (a : Nat → Nat) (F : FT) (G : GT) (v : Int32) : (wX K a F G).set 9 (a 4, .inr (4, ([.ref (a 11), .int (F 3), .int (F 4), .ref (a 12), .ref (a 13), .ref (a 14), .ref (a 15), .int (F 5), .int (F 17), .ref (a 46), .ref (a 47)] : List Value).set 8 (.int v))) = wX K a (sU F 17 v) G := wX_set K a F _ G G (by decide) rfl rfl
theorem cM_0 (K : KT) (a : Nat → Nat) (F : FT) (G : GT) (w : Int64) : (wM K a F G w)[0]? = some (a 0, .inr (8, [.int (F 20), .ref (a 50), .int (F 2), .ref (a 51), .ref (a 10), .int (F 21), .int (F 22), .int (F 23), .int (F 24), .int (F 25), .int (F 1), .int (F 26), .int (F 27), .long w, .ref (a 11), .int (F 3), .int (F 4), .int (F 0), .ref (a 12), .ref (a 13), .ref (a 14), .ref (a 15), .int (F 5), .ref (a 16), .ref (a 17), .ref (a 18), .ref (a 52), .ref (a 53), .int (F 6), .ref (a 19), .ref (a 20), .ref (a 21), .ref (a 22), .int (F 7), .ref (a 23), .ref (a 24), .ref (a 25), .ref (a 26), .ref (a 27), .ref (a 28), .ref (a 29), .ref (a 30), .ref (a 31), .int (F 8)])) := rfl
theorem rvM_0 (K : KT) (a : Nat → Nat) (F : FT) (G : GT) (w : Int64) : ∃ (q0 ci : Nat) (fs : List Value) (q : vw_C), (wM K a F G w)[q0]? = some (a 0, .inr (ci, fs)) ∧ vwCl[ci]? = some q ∧ q.1 = RX8 := ⟨_, _, _, _, cM_0 K a F G w, rfl, rfl⟩
theorem cM_10 (K : KT) (a : Nat → Nat) (F : FT) (G : GT) (w : Int64) : (wM K a F G w)[3]? = some (a 10, .inl (K.2.2.1 0, 3, .inl (G 10))) := rfl
theorem uM_10 (K : KT) (a : Nat → Nat) (F : FT) (G : GT) (w : Int64) (f : Nat → Int32) : (wM K a F G w).set 3 (a 10, .inl (K.2.2.1 0, 3, .inl f)) = wM K a F (gU G 10 f) w := rfl
theorem cM_11 (K : KT) (a : Nat → Nat) (F : FT) (G : GT) (w : Int64) : (wM K a F G w)[4]? = some (a 11, .inl (K.2.2.1 0, 16, .inl (G 11))) := rfl
theorem uM_11 (K : KT) (a : Nat → Nat) (F : FT) (G : GT) (w : Int64) (f : Nat → Int32) : (wM K a F G w).set 4 (a 11, .inl (K.2.2.1 0, 16, .inl f)) = wM K a F (gU G 11 f) w := rfl
theorem cM_12 (K : KT) (a : Nat → Nat) (F : FT) (G : GT) (w : Int64) : (wM K a F G w)[5]? = some (a 12, .inl (K.2.2.1 0, 80, .inl (G 12))) := rfl
theorem uM_12 (K : KT) (a : Nat → Nat) (F : FT) (G : GT) (w : Int64) (f : Nat → Int32) : (wM K a F G w).set 5 (a 12, .inl (K.2.2.1 0, 80, .inl f)) = wM K a F (gU G 12 f) w := rfl
theorem cM_13 (K : KT) (a : Nat → Nat) (F : FT) (G : GT) (w : Int64) : (wM K a F G w)[6]? = some (a 13, .inl (K.2.2.1 0, 80, .inl (G 13))) := rfl
theorem uM_13 (K : KT) (a : Nat → Nat) (F : FT) (G : GT) (w : Int64) (f : Nat → Int32) : (wM K a F G w).set 6 (a 13, .inl (K.2.2.1 0, 80, .inl f)) = wM K a F (gU G 13 f) w := rfl
theorem cM_14 (K : KT) (a : Nat → Nat) (F : FT) (G : GT) (w : Int64) : (wM K a F G w)[7]? = some (a 14, .inl (K.2.2.1 0, 80, .inl (G 14))) := rfl
theorem uM_14 (K : KT) (a : Nat → Nat) (F : FT) (G : GT) (w : Int64) (f : Nat → Int32) : (wM K a F G w).set 7 (a 14, .inl (K.2.2.1 0, 80, .inl f)) = wM K a F (gU G 14 f) w := rfl
theorem cM_15 (K : KT) (a : Nat → Nat) (F : FT) (G : GT) (w : Int64) : (wM K a F G w)[8]? = some (a 15, .inl (K.2.2.1 0, 80, .inl (G 15))) := rfl
theorem uM_15 (K : KT) (a : Nat → Nat) (F : FT) (G : GT) (w : Int64) (f : Nat → Int32) : (wM K a F G w).set 8 (a 15, .inl (K.2.2.1 0, 80, .inl f)) = wM K a F (gU G 15 f) w := rfl
theorem cM_16 (K : KT) (a : Nat → Nat) (F : FT) (G : GT) (w : Int64) : (wM K a F G w)[9]? = some (a 16, .inl (K.2.2.1 0, 40, .inl (G 16))) := rfl
theorem uM_16 (K : KT) (a : Nat → Nat) (F : FT) (G : GT) (w : Int64) (f : Nat → Int32) : (wM K a F G w).set 9 (a 16, .inl (K.2.2.1 0, 40, .inl f)) = wM K a F (gU G 16 f) w := rfl
theorem cM_17 (K : KT) (a : Nat → Nat) (F : FT) (G : GT) (w : Int64) : (wM K a F G w)[10]? = some (a 17, .inl (K.2.2.1 0, 40, .inl (G 17))) := rfl
theorem uM_17 (K : KT) (a : Nat → Nat) (F : FT) (G : GT) (w : Int64) (f : Nat → Int32) : (wM K a F G w).set 10 (a 17, .inl (K.2.2.1 0, 40, .inl f)) = wM K a F (gU G 17 f) w := rfl
theorem cM_18 (K : KT) (a : Nat → Nat) (F : FT) (G : GT) (w : Int64) : (wM K a F G w)[11]? = some (a 18, .inl (K.2.2.1 0, 40, .inl (G 18))) := rfl
theorem uM_18 (K : KT) (a : Nat → Nat) (F : FT) (G : GT) (w : Int64) (f : Nat → Int32) : (wM K a F G w).set 11 (a 18, .inl (K.2.2.1 0, 40, .inl f)) = wM K a F (gU G 18 f) w := rfl
theorem cM_19 (K : KT) (a : Nat → Nat) (F : FT) (G : GT) (w : Int64) : (wM K a F G w)[14]? = some (a 19, .inl (K.2.2.1 0, 400, .inl (G 19))) := rfl
theorem uM_19 (K : KT) (a : Nat → Nat) (F : FT) (G : GT) (w : Int64) (f : Nat → Int32) : (wM K a F G w).set 14 (a 19, .inl (K.2.2.1 0, 400, .inl f)) = wM K a F (gU G 19 f) w := rfl
theorem cM_20 (K : KT) (a : Nat → Nat) (F : FT) (G : GT) (w : Int64) : (wM K a F G w)[15]? = some (a 20, .inl (K.2.2.1 0, 400, .inl (G 20))) := rfl
theorem uM_20 (K : KT) (a : Nat → Nat) (F : FT) (G : GT) (w : Int64) (f : Nat → Int32) : (wM K a F G w).set 15 (a 20, .inl (K.2.2.1 0, 400, .inl f)) = wM K a F (gU G 20 f) w := rfl
theorem cM_21 (K : KT) (a : Nat → Nat) (F : FT) (G : GT) (w : Int64) : (wM K a F G w)[16]? = some (a 21, .inl (K.2.2.1 0, 400, .inl (G 21))) := rfl
theorem uM_21 (K : KT) (a : Nat → Nat) (F : FT) (G : GT) (w : Int64) (f : Nat → Int32) : (wM K a F G w).set 16 (a 21, .inl (K.2.2.1 0, 400, .inl f)) = wM K a F (gU G 21 f) w := rfl
theorem cM_22 (K : KT) (a : Nat → Nat) (F : FT) (G : GT) (w : Int64) : (wM K a F G w)[17]? = some (a 22, .inl (K.2.2.1 0, 400, .inl (G 22))) := rfl
theorem uM_22 (K : KT) (a : Nat → Nat) (F : FT) (G : GT) (w : Int64) (f : Nat → Int32) : (wM K a F G w).set 17 (a 22, .inl (K.2.2.1 0, 400, .inl f)) = wM K a F (gU G 22 f) w := rfl
theorem cM_23 (K : KT) (a : Nat → Nat) (F : FT) (G : GT) (w : Int64) : (wM K a F G w)[18]? = some (a 23, .inl (K.2.2.1 0, 80, .inl (G 23))) := rfl
theorem uM_23 (K : KT) (a : Nat → Nat) (F : FT) (G : GT) (w : Int64) (f : Nat → Int32) : (wM K a F G w).set 18 (a 23, .inl (K.2.2.1 0, 80, .inl f)) = wM K a F (gU G 23 f) w := rfl
theorem cM_24 (K : KT) (a : Nat → Nat) (F : FT) (G : GT) (w : Int64) : (wM K a F G w)[19]? = some (a 24, .inl (K.2.2.1 0, 80, .inl (G 24))) := rfl
theorem uM_24 (K : KT) (a : Nat → Nat) (F : FT) (G : GT) (w : Int64) (f : Nat → Int32) : (wM K a F G w).set 19 (a 24, .inl (K.2.2.1 0, 80, .inl f)) = wM K a F (gU G 24 f) w := rfl
theorem cM_25 (K : KT) (a : Nat → Nat) (F : FT) (G : GT) (w : Int64) : (wM K a F G w)[20]? = some (a 25, .inl (K.2.2.1 0, 80, .inl (G 25))) := rfl
theorem uM_25 (K : KT) (a : Nat → Nat) (F : FT) (G : GT) (w : Int64) (f : Nat → Int32) : (wM K a F G w).set 20 (a 25, .inl (K.2.2.1 0, 80, .inl f)) = wM K a F (gU G 25 f) w := rfl
theorem cM_26 (K : KT) (a : Nat → Nat) (F : FT) (G : GT) (w : Int64) : (wM K a F G w)[21]? = some (a 26, .inl (K.2.2.1 0, 80, .inl (G 26))) := rfl
theorem uM_26 (K : KT) (a : Nat → Nat) (F : FT) (G : GT) (w : Int64) (f : Nat → Int32) : (wM K a F G w).set 21 (a 26, .inl (K.2.2.1 0, 80, .inl f)) = wM K a F (gU G 26 f) w := rfl
theorem cM_27 (K : KT) (a : Nat → Nat) (F : FT) (G : GT) (w : Int64) : (wM K a F G w)[22]? = some (a 27, .inl (K.2.2.1 0, 80, .inl (G 27))) := rfl
theorem uM_27 (K : KT) (a : Nat → Nat) (F : FT) (G : GT) (w : Int64) (f : Nat → Int32) : (wM K a F G w).set 22 (a 27, .inl (K.2.2.1 0, 80, .inl f)) = wM K a F (gU G 27 f) w := rfl
theorem cM_28 (K : KT) (a : Nat → Nat) (F : FT) (G : GT) (w : Int64) : (wM K a F G w)[23]? = some (a 28, .inl (K.2.2.1 0, 80, .inl (G 28))) := rfl
theorem uM_28 (K : KT) (a : Nat → Nat) (F : FT) (G : GT) (w : Int64) (f : Nat → Int32) : (wM K a F G w).set 23 (a 28, .inl (K.2.2.1 0, 80, .inl f)) = wM K a F (gU G 28 f) w := rfl
theorem cM_29 (K : KT) (a : Nat → Nat) (F : FT) (G : GT) (w : Int64) : (wM K a F G w)[24]? = some (a 29, .inl (K.2.2.1 0, 80, .inl (G 29))) := rfl
theorem uM_29 (K : KT) (a : Nat → Nat) (F : FT) (G : GT) (w : Int64) (f : Nat → Int32) : (wM K a F G w).set 24 (a 29, .inl (K.2.2.1 0, 80, .inl f)) = wM K a F (gU G 29 f) w := rfl
theorem cM_30 (K : KT) (a : Nat → Nat) (F : FT) (G : GT) (w : Int64) : (wM K a F G w)[25]? = some (a 30, .inl (K.2.2.1 2, 80, .inl (G 30))) := rfl
theorem uM_30 (K : KT) (a : Nat → Nat) (F : FT) (G : GT) (w : Int64) (f : Nat → Int32) : (wM K a F G w).set 25 (a 30, .inl (K.2.2.1 2, 80, .inl f)) = wM K a F (gU G 30 f) w := rfl
theorem cM_31 (K : KT) (a : Nat → Nat) (F : FT) (G : GT) (w : Int64) : (wM K a F G w)[26]? = some (a 31, .inl (K.2.2.1 2, 80, .inl (G 31))) := rfl
theorem uM_31 (K : KT) (a : Nat → Nat) (F : FT) (G : GT) (w : Int64) (f : Nat → Int32) : (wM K a F G w).set 26 (a 31, .inl (K.2.2.1 2, 80, .inl f)) = wM K a F (gU G 31 f) w := rfl
theorem cM_50 (K : KT) (a : Nat → Nat) (F : FT) (G : GT) (w : Int64) : (wM K a F G w)[1]? = some (a 50, .inl (K.2.2.1 0, 320, .inl (G 50))) := rfl
theorem uM_50 (K : KT) (a : Nat → Nat) (F : FT) (G : GT) (w : Int64) (f : Nat → Int32) : (wM K a F G w).set 1 (a 50, .inl (K.2.2.1 0, 320, .inl f)) = wM K a F (gU G 50 f) w := rfl
theorem cM_51 (K : KT) (a : Nat → Nat) (F : FT) (G : GT) (w : Int64) : (wM K a F G w)[2]? = some (a 51, .inl (K.2.2.1 0, 56, .inl (G 51))) := rfl
theorem uM_51 (K : KT) (a : Nat → Nat) (F : FT) (G : GT) (w : Int64) (f : Nat → Int32) : (wM K a F G w).set 2 (a 51, .inl (K.2.2.1 0, 56, .inl f)) = wM K a F (gU G 51 f) w := rfl
theorem cM_52 (K : KT) (a : Nat → Nat) (F : FT) (G : GT) (w : Int64) : (wM K a F G w)[12]? = some (a 52, .inl (K.2.2.1 0, 240, .inl (G 52))) := rfl
theorem uM_52 (K : KT) (a : Nat → Nat) (F : FT) (G : GT) (w : Int64) (f : Nat → Int32) : (wM K a F G w).set 12 (a 52, .inl (K.2.2.1 0, 240, .inl f)) = wM K a F (gU G 52 f) w := rfl
theorem cM_53 (K : KT) (a : Nat → Nat) (F : FT) (G : GT) (w : Int64) : (wM K a F G w)[13]? = some (a 53, .inl (K.2.2.1 0, 240, .inl (G 53))) := rfl
theorem uM_53 (K : KT) (a : Nat → Nat) (F : FT) (G : GT) (w : Int64) (f : Nat → Int32) : (wM K a F G w).set 13 (a 53, .inl (K.2.2.1 0, 240, .inl f)) = wM K a F (gU G 53 f) w := rfl
theorem fM_0 (K : KT) (a : Nat → Nat) (F : FT) (G : GT) (w : Int64) (v : Int32) : (wM K a F G w).set 0 (a 0, .inr (8, ([.int (F 20), .ref (a 50), .int (F 2), .ref (a 51), .ref (a 10), .int (F 21), .int (F 22), .int (F 23), .int (F 24), .int (F 25), .int (F 1), .int (F 26), .int (F 27), .long w, .ref (a 11), .int (F 3), .int (F 4), .int (F 0), .ref (a 12), .ref (a 13), .ref (a 14), .ref (a 15), .int (F 5), .ref (a 16), .ref (a 17), .ref (a 18), .ref (a 52), .ref (a 53), .int (F 6), .ref (a 19), .ref (a 20), .ref (a 21), .ref (a 22), .int (F 7), .ref (a 23), .ref (a 24), .ref (a 25), .ref (a 26), .ref (a 27), .ref (a 28), .ref (a 29), .ref (a 30), .ref (a 31), .int (F 8)] : List Value).set 17 (.int v))) = wM K a (sU F 0 v) G w := rfl
theorem fM_1 (K : KT) (a : Nat → Nat) (F : FT) (G : GT) (w : Int64) (v : Int32) : (wM K a F G w).set 0 (a 0, .inr (8, ([.int (F 20), .ref (a 50), .int (F 2), .ref (a 51), .ref (a 10), .int (F 21), .int (F 22), .int (F 23), .int (F 24), .int (F 25), .int (F 1), .int (F 26), .int (F 27), .long w, .ref (a 11), .int (F 3), .int (F 4), .int (F 0), .ref (a 12), .ref (a 13), .ref (a 14), .ref (a 15), .int (F 5), .ref (a 16), .ref (a 17), .ref (a 18), .ref (a 52), .ref (a 53), .int (F 6), .ref (a 19), .ref (a 20), .ref (a 21), .ref (a 22), .int (F 7), .ref (a 23), .ref (a 24), .ref (a 25), .ref (a 26), .ref (a 27), .ref (a 28), .ref (a 29), .ref (a 30), .ref (a 31), .int (F 8)] : List Value).set 10 (.int v))) = wM K a (sU F 1 v) G w := rfl
theorem fM_2 (K : KT) (a : Nat → Nat) (F : FT) (G : GT) (w : Int64) (v : Int32) : (wM K a F G w).set 0 (a 0, .inr (8, ([.int (F 20), .ref (a 50), .int (F 2), .ref (a 51), .ref (a 10), .int (F 21), .int (F 22), .int (F 23), .int (F 24), .int (F 25), .int (F 1), .int (F 26), .int (F 27), .long w, .ref (a 11), .int (F 3), .int (F 4), .int (F 0), .ref (a 12), .ref (a 13), .ref (a 14), .ref (a 15), .int (F 5), .ref (a 16), .ref (a 17), .ref (a 18), .ref (a 52), .ref (a 53), .int (F 6), .ref (a 19), .ref (a 20), .ref (a 21), .ref (a 22), .int (F 7), .ref (a 23), .ref (a 24), .ref (a 25), .ref (a 26), .ref (a 27), .ref (a 28), .ref (a 29), .ref (a 30), .ref (a 31), .int (F 8)] : List Value).set 2 (.int v))) = wM K a (sU F 2 v) G w := rfl
theorem fM_3 (K : KT) (a : Nat → Nat) (F : FT) (G : GT) (w : Int64) (v : Int32) : (wM K a F G w).set 0 (a 0, .inr (8, ([.int (F 20), .ref (a 50), .int (F 2), .ref (a 51), .ref (a 10), .int (F 21), .int (F 22), .int (F 23), .int (F 24), .int (F 25), .int (F 1), .int (F 26), .int (F 27), .long w, .ref (a 11), .int (F 3), .int (F 4), .int (F 0), .ref (a 12), .ref (a 13), .ref (a 14), .ref (a 15), .int (F 5), .ref (a 16), .ref (a 17), .ref (a 18), .ref (a 52), .ref (a 53), .int (F 6), .ref (a 19), .ref (a 20), .ref (a 21), .ref (a 22), .int (F 7), .ref (a 23), .ref (a 24), .ref (a 25), .ref (a 26), .ref (a 27), .ref (a 28), .ref (a 29), .ref (a 30), .ref (a 31), .int (F 8)] : List Value).set 15 (.int v))) = wM K a (sU F 3 v) G w := rfl
theorem fM_4 (K : KT) (a : Nat → Nat) (F : FT) (G : GT) (w : Int64) (v : Int32) : (wM K a F G w).set 0 (a 0, .inr (8, ([.int (F 20), .ref (a 50), .int (F 2), .ref (a 51), .ref (a 10), .int (F 21), .int (F 22), .int (F 23), .int (F 24), .int (F 25), .int (F 1), .int (F 26), .int (F 27), .long w, .ref (a 11), .int (F 3), .int (F 4), .int (F 0), .ref (a 12), .ref (a 13), .ref (a 14), .ref (a 15), .int (F 5), .ref (a 16), .ref (a 17), .ref (a 18), .ref (a 52), .ref (a 53), .int (F 6), .ref (a 19), .ref (a 20), .ref (a 21), .ref (a 22), .int (F 7), .ref (a 23), .ref (a 24), .ref (a 25), .ref (a 26), .ref (a 27), .ref (a 28), .ref (a 29), .ref (a 30), .ref (a 31), .int (F 8)] : List Value).set 16 (.int v))) = wM K a (sU F 4 v) G w := rfl
theorem fM_5 (K : KT) (a : Nat → Nat) (F : FT) (G : GT) (w : Int64) (v : Int32) : (wM K a F G w).set 0 (a 0, .inr (8, ([.int (F 20), .ref (a 50), .int (F 2), .ref (a 51), .ref (a 10), .int (F 21), .int (F 22), .int (F 23), .int (F 24), .int (F 25), .int (F 1), .int (F 26), .int (F 27), .long w, .ref (a 11), .int (F 3), .int (F 4), .int (F 0), .ref (a 12), .ref (a 13), .ref (a 14), .ref (a 15), .int (F 5), .ref (a 16), .ref (a 17), .ref (a 18), .ref (a 52), .ref (a 53), .int (F 6), .ref (a 19), .ref (a 20), .ref (a 21), .ref (a 22), .int (F 7), .ref (a 23), .ref (a 24), .ref (a 25), .ref (a 26), .ref (a 27), .ref (a 28), .ref (a 29), .ref (a 30), .ref (a 31), .int (F 8)] : List Value).set 22 (.int v))) = wM K a (sU F 5 v) G w := rfl
theorem fM_6 (K : KT) (a : Nat → Nat) (F : FT) (G : GT) (w : Int64) (v : Int32) : (wM K a F G w).set 0 (a 0, .inr (8, ([.int (F 20), .ref (a 50), .int (F 2), .ref (a 51), .ref (a 10), .int (F 21), .int (F 22), .int (F 23), .int (F 24), .int (F 25), .int (F 1), .int (F 26), .int (F 27), .long w, .ref (a 11), .int (F 3), .int (F 4), .int (F 0), .ref (a 12), .ref (a 13), .ref (a 14), .ref (a 15), .int (F 5), .ref (a 16), .ref (a 17), .ref (a 18), .ref (a 52), .ref (a 53), .int (F 6), .ref (a 19), .ref (a 20), .ref (a 21), .ref (a 22), .int (F 7), .ref (a 23), .ref (a 24), .ref (a 25), .ref (a 26), .ref (a 27), .ref (a 28), .ref (a 29), .ref (a 30), .ref (a 31), .int (F 8)] : List Value).set 28 (.int v))) = wM K a (sU F 6 v) G w := rfl
theorem fM_7 (K : KT) (a : Nat → Nat) (F : FT) (G : GT) (w : Int64) (v : Int32) : (wM K a F G w).set 0 (a 0, .inr (8, ([.int (F 20), .ref (a 50), .int (F 2), .ref (a 51), .ref (a 10), .int (F 21), .int (F 22), .int (F 23), .int (F 24), .int (F 25), .int (F 1), .int (F 26), .int (F 27), .long w, .ref (a 11), .int (F 3), .int (F 4), .int (F 0), .ref (a 12), .ref (a 13), .ref (a 14), .ref (a 15), .int (F 5), .ref (a 16), .ref (a 17), .ref (a 18), .ref (a 52), .ref (a 53), .int (F 6), .ref (a 19), .ref (a 20), .ref (a 21), .ref (a 22), .int (F 7), .ref (a 23), .ref (a 24), .ref (a 25), .ref (a 26), .ref (a 27), .ref (a 28), .ref (a 29), .ref (a 30), .ref (a 31), .int (F 8)] : List Value).set 33 (.int v))) = wM K a (sU F 7 v) G w := rfl
theorem fM_8 (K : KT) (a : Nat → Nat) (F : FT) (G : GT) (w : Int64) (v : Int32) : (wM K a F G w).set 0 (a 0, .inr (8, ([.int (F 20), .ref (a 50), .int (F 2), .ref (a 51), .ref (a 10), .int (F 21), .int (F 22), .int (F 23), .int (F 24), .int (F 25), .int (F 1), .int (F 26), .int (F 27), .long w, .ref (a 11), .int (F 3), .int (F 4), .int (F 0), .ref (a 12), .ref (a 13), .ref (a 14), .ref (a 15), .int (F 5), .ref (a 16), .ref (a 17), .ref (a 18), .ref (a 52), .ref (a 53), .int (F 6), .ref (a 19), .ref (a 20), .ref (a 21), .ref (a 22), .int (F 7), .ref (a 23), .ref (a 24), .ref (a 25), .ref (a 26), .ref (a 27), .ref (a 28), .ref (a 29), .ref (a 30), .ref (a 31), .int (F 8)] : List Value).set 43 (.int v))) = wM K a (sU F 8 v) G w := rfl
theorem fM_20 (K : KT) (a : Nat → Nat) (F : FT) (G : GT) (w : Int64) (v : Int32) : (wM K a F G w).set 0 (a 0, .inr (8, ([.int (F 20), .ref (a 50), .int (F 2), .ref (a 51), .ref (a 10), .int (F 21), .int (F 22), .int (F 23), .int (F 24), .int (F 25), .int (F 1), .int (F 26), .int (F 27), .long w, .ref (a 11), .int (F 3), .int (F 4), .int (F 0), .ref (a 12), .ref (a 13), .ref (a 14), .ref (a 15), .int (F 5), .ref (a 16), .ref (a 17), .ref (a 18), .ref (a 52), .ref (a 53), .int (F 6), .ref (a 19), .ref (a 20), .ref (a 21), .ref (a 22), .int (F 7), .ref (a 23), .ref (a 24), .ref (a 25), .ref (a 26), .ref (a 27), .ref (a 28), .ref (a 29), .ref (a 30), .ref (a 31), .int (F 8)] : List Value).set 0 (.int v))) = wM K a (sU F 20 v) G w := rfl
theorem fM_21 (K : KT) (a : Nat → Nat) (F : FT) (G : GT) (w : Int64) (v : Int32) : (wM K a F G w).set 0 (a 0, .inr (8, ([.int (F 20), .ref (a 50), .int (F 2), .ref (a 51), .ref (a 10), .int (F 21), .int (F 22), .int (F 23), .int (F 24), .int (F 25), .int (F 1), .int (F 26), .int (F 27), .long w, .ref (a 11), .int (F 3), .int (F 4), .int (F 0), .ref (a 12), .ref (a 13), .ref (a 14), .ref (a 15), .int (F 5), .ref (a 16), .ref (a 17), .ref (a 18), .ref (a 52), .ref (a 53), .int (F 6), .ref (a 19), .ref (a 20), .ref (a 21), .ref (a 22), .int (F 7), .ref (a 23), .ref (a 24), .ref (a 25), .ref (a 26), .ref (a 27), .ref (a 28), .ref (a 29), .ref (a 30), .ref (a 31), .int (F 8)] : List Value).set 5 (.int v))) = wM K a (sU F 21 v) G w := rfl
theorem fM_22 (K : KT) (a : Nat → Nat) (F : FT) (G : GT) (w : Int64) (v : Int32) : (wM K a F G w).set 0 (a 0, .inr (8, ([.int (F 20), .ref (a 50), .int (F 2), .ref (a 51), .ref (a 10), .int (F 21), .int (F 22), .int (F 23), .int (F 24), .int (F 25), .int (F 1), .int (F 26), .int (F 27), .long w, .ref (a 11), .int (F 3), .int (F 4), .int (F 0), .ref (a 12), .ref (a 13), .ref (a 14), .ref (a 15), .int (F 5), .ref (a 16), .ref (a 17), .ref (a 18), .ref (a 52), .ref (a 53), .int (F 6), .ref (a 19), .ref (a 20), .ref (a 21), .ref (a 22), .int (F 7), .ref (a 23), .ref (a 24), .ref (a 25), .ref (a 26), .ref (a 27), .ref (a 28), .ref (a 29), .ref (a 30), .ref (a 31), .int (F 8)] : List Value).set 6 (.int v))) = wM K a (sU F 22 v) G w := rfl
theorem fM_23 (K : KT) (a : Nat → Nat) (F : FT) (G : GT) (w : Int64) (v : Int32) : (wM K a F G w).set 0 (a 0, .inr (8, ([.int (F 20), .ref (a 50), .int (F 2), .ref (a 51), .ref (a 10), .int (F 21), .int (F 22), .int (F 23), .int (F 24), .int (F 25), .int (F 1), .int (F 26), .int (F 27), .long w, .ref (a 11), .int (F 3), .int (F 4), .int (F 0), .ref (a 12), .ref (a 13), .ref (a 14), .ref (a 15), .int (F 5), .ref (a 16), .ref (a 17), .ref (a 18), .ref (a 52), .ref (a 53), .int (F 6), .ref (a 19), .ref (a 20), .ref (a 21), .ref (a 22), .int (F 7), .ref (a 23), .ref (a 24), .ref (a 25), .ref (a 26), .ref (a 27), .ref (a 28), .ref (a 29), .ref (a 30), .ref (a 31), .int (F 8)] : List Value).set 7 (.int v))) = wM K a (sU F 23 v) G w := rfl
theorem fM_24 (K : KT) (a : Nat → Nat) (F : FT) (G : GT) (w : Int64) (v : Int32) : (wM K a F G w).set 0 (a 0, .inr (8, ([.int (F 20), .ref (a 50), .int (F 2), .ref (a 51), .ref (a 10), .int (F 21), .int (F 22), .int (F 23), .int (F 24), .int (F 25), .int (F 1), .int (F 26), .int (F 27), .long w, .ref (a 11), .int (F 3), .int (F 4), .int (F 0), .ref (a 12), .ref (a 13), .ref (a 14), .ref (a 15), .int (F 5), .ref (a 16), .ref (a 17), .ref (a 18), .ref (a 52), .ref (a 53), .int (F 6), .ref (a 19), .ref (a 20), .ref (a 21), .ref (a 22), .int (F 7), .ref (a 23), .ref (a 24), .ref (a 25), .ref (a 26), .ref (a 27), .ref (a 28), .ref (a 29), .ref (a 30), .ref (a 31), .int (F 8)] : List Value).set 8 (.int v))) = wM K a (sU F 24 v) G w := rfl
theorem fM_25 (K : KT) (a : Nat → Nat) (F : FT) (G : GT) (w : Int64) (v : Int32) : (wM K a F G w).set 0 (a 0, .inr (8, ([.int (F 20), .ref (a 50), .int (F 2), .ref (a 51), .ref (a 10), .int (F 21), .int (F 22), .int (F 23), .int (F 24), .int (F 25), .int (F 1), .int (F 26), .int (F 27), .long w, .ref (a 11), .int (F 3), .int (F 4), .int (F 0), .ref (a 12), .ref (a 13), .ref (a 14), .ref (a 15), .int (F 5), .ref (a 16), .ref (a 17), .ref (a 18), .ref (a 52), .ref (a 53), .int (F 6), .ref (a 19), .ref (a 20), .ref (a 21), .ref (a 22), .int (F 7), .ref (a 23), .ref (a 24), .ref (a 25), .ref (a 26), .ref (a 27), .ref (a 28), .ref (a 29), .ref (a 30), .ref (a 31), .int (F 8)] : List Value).set 9 (.int v))) = wM K a (sU F 25 v) G w := rfl
theorem fM_26 (K : KT) (a : Nat → Nat) (F : FT) (G : GT) (w : Int64) (v : Int32) : (wM K a F G w).set 0 (a 0, .inr (8, ([.int (F 20), .ref (a 50), .int (F 2), .ref (a 51), .ref (a 10), .int (F 21), .int (F 22), .int (F 23), .int (F 24), .int (F 25), .int (F 1), .int (F 26), .int (F 27), .long w, .ref (a 11), .int (F 3), .int (F 4), .int (F 0), .ref (a 12), .ref (a 13), .ref (a 14), .ref (a 15), .int (F 5), .ref (a 16), .ref (a 17), .ref (a 18), .ref (a 52), .ref (a 53), .int (F 6), .ref (a 19), .ref (a 20), .ref (a 21), .ref (a 22), .int (F 7), .ref (a 23), .ref (a 24), .ref (a 25), .ref (a 26), .ref (a 27), .ref (a 28), .ref (a 29), .ref (a 30), .ref (a 31), .int (F 8)] : List Value).set 11 (.int v))) = wM K a (sU F 26 v) G w := rfl
theorem fM_27 (K : KT) (a : Nat → Nat) (F : FT) (G : GT) (w : Int64) (v : Int32) : (wM K a F G w).set 0 (a 0, .inr (8, ([.int (F 20), .ref (a 50), .int (F 2), .ref (a 51), .ref (a 10), .int (F 21), .int (F 22), .int (F 23), .int (F 24), .int (F 25), .int (F 1), .int (F 26), .int (F 27), .long w, .ref (a 11), .int (F 3), .int (F 4), .int (F 0), .ref (a 12), .ref (a 13), .ref (a 14), .ref (a 15), .int (F 5), .ref (a 16), .ref (a 17), .ref (a 18), .ref (a 52), .ref (a 53), .int (F 6), .ref (a 19), .ref (a 20), .ref (a 21), .ref (a 22), .int (F 7), .ref (a 23), .ref (a 24), .ref (a 25), .ref (a 26), .ref (a 27), .ref (a 28), .ref (a 29), .ref (a 30), .ref (a 31), .int (F 8)] : List Value).set 12 (.int v))) = wM K a (sU F 27 v) G w := rfl
theorem fM_w (K : KT) (a : Nat → Nat) (F : FT) (G : GT) (w v : Int64) : (wM K a F G w).set 0 (a 0, .inr (8, ([.int (F 20), .ref (a 50), .int (F 2), .ref (a 51), .ref (a 10), .int (F 21), .int (F 22), .int (F 23), .int (F 24), .int (F 25), .int (F 1), .int (F 26), .int (F 27), .long w, .ref (a 11), .int (F 3), .int (F 4), .int (F 0), .ref (a 12), .ref (a 13), .ref (a 14), .ref (a 15), .int (F 5), .ref (a 16), .ref (a 17), .ref (a 18), .ref (a 52), .ref (a 53), .int (F 6), .ref (a 19), .ref (a 20), .ref (a 21), .ref (a 22), .int (F 7), .ref (a 23), .ref (a 24), .ref (a 25), .ref (a 26), .ref (a 27), .ref (a 28), .ref (a 29), .ref (a 30), .ref (a 31), .int (F 8)] : List Value).set 13 (.long v))) = wM K a F G v := rfl
theorem inT_0 : ∀ w ∈ u_ws RX0 TX0 5, w ∈ TB := by
  intro w hw
  refine List.mem_filter.mpr ⟨?_, ?_⟩
  · revert w; decide +kernel
  · revert w; decide +kernel
theorem inT_1 : ∀ w ∈ u_ws RX1 TX1 6, w ∈ TB := by
  intro w hw
  refine List.mem_filter.mpr ⟨?_, ?_⟩
  · revert w; decide +kernel
  · revert w; decide +kernel
theorem inT_2 : ∀ w ∈ u_ws RX2 TX2 2, w ∈ TB := by
  intro w hw
  refine List.mem_filter.mpr ⟨?_, ?_⟩
  · revert w; decide +kernel
  · revert w; decide +kernel
theorem inT_3 : ∀ w ∈ u_ws RX3 TX3 9, w ∈ TB := by
  intro w hw
  refine List.mem_filter.mpr ⟨?_, ?_⟩
  · revert w; decide +kernel
  · revert w; decide +kernel
theorem inT_4 : ∀ w ∈ u_ws RX4 TX4 11, w ∈ TB := by
  intro w hw
  refine List.mem_filter.mpr ⟨?_, ?_⟩
  · revert w; decide +kernel
  · revert w; decide +kernel
theorem inT_5 : ∀ w ∈ u_ws RX5 TX5 10, w ∈ TB := by
  intro w hw
  refine List.mem_filter.mpr ⟨?_, ?_⟩
  · revert w; decide +kernel
  · revert w; decide +kernel
theorem inT_6 : ∀ w ∈ u_ws RX6 TX6 2, w ∈ TB := by
  intro w hw
  refine List.mem_filter.mpr ⟨?_, ?_⟩
  · revert w; decide +kernel
  · revert w; decide +kernel
theorem inT_7 : ∀ w ∈ u_ws RX7 TX7 9, w ∈ TB := by
  intro w hw
  refine List.mem_filter.mpr ⟨?_, ?_⟩
  · revert w; decide +kernel
  · revert w; decide +kernel
theorem inT_8 : ∀ w ∈ u_ws RX8 TX8 44, w ∈ TB := by
  intro w hw
  refine List.mem_filter.mpr ⟨?_, ?_⟩
  · revert w; decide +kernel
  · revert w; decide +kernel
theorem lw_6_9 : Cond.fieldLink RX6 9 "HorseFair$Tape" "bytes" "[B" ∈ TB := tb_in 74 (by decide +kernel) rfl
theorem fl_6_9 : FLd RX6 9 6 0 := ⟨RX6, TX6, 2, rfl, inT_6, by decide, lw_6_9⟩
theorem lw_6_15 : Cond.fieldLink RX6 15 "HorseFair$Tape" "length" "I" ∈ TB := tb_in 75 (by decide +kernel) rfl
theorem fl_6_15 : FLd RX6 15 6 1 := ⟨RX6, TX6, 2, rfl, inT_6, by decide, lw_6_15⟩
theorem fp_6_15 : FPd RX6 15 6 1 .int := ⟨RX6, TX6, 2, tyX6, rfl, inT_6, by decide, lw_6_15, tyX6_ok, nmX6, rfl, by decide +kernel⟩
theorem lw_7_65 : Cond.fieldLink RX7 65 "HorseFair$Tape" "length" "I" ∈ TB := tb_in 76 (by decide +kernel) rfl
theorem fl_7_65 : FLd RX7 65 6 1 := ⟨RX6, TX6, 2, rfl, inT_6, by decide, lw_7_65⟩
theorem fp_7_65 : FPd RX7 65 6 1 .int := ⟨RX6, TX6, 2, tyX6, rfl, inT_6, by decide, lw_7_65, tyX6_ok, nmX6, rfl, by decide +kernel⟩
theorem lw_3_44 : Cond.fieldLink RX3 44 "HorseFair$Tape" "length" "I" ∈ TB := tb_in 77 (by decide +kernel) rfl
theorem fl_3_44 : FLd RX3 44 6 1 := ⟨RX6, TX6, 2, rfl, inT_6, by decide, lw_3_44⟩
theorem fp_3_44 : FPd RX3 44 6 1 .int := ⟨RX6, TX6, 2, tyX6, rfl, inT_6, by decide, lw_3_44, tyX6_ok, nmX6, rfl, by decide +kernel⟩
theorem lw_3_9 : Cond.fieldLink RX3 9 "HorseFair$LawReader" "numbers" "[I" ∈ TB := tb_in 90 (by decide +kernel) rfl
theorem fl_3_9 : FLd RX3 9 3 0 := ⟨RX3, TX3, 9, rfl, inT_3, by decide, lw_3_9⟩
theorem lw_7_93 : Cond.fieldLink RX7 93 "HorseFair$LawReader" "numbers" "[I" ∈ TB := tb_in 91 (by decide +kernel) rfl
theorem fl_7_93 : FLd RX7 93 3 0 := ⟨RX3, TX3, 9, rfl, inT_3, by decide, lw_7_93⟩
theorem lw_3_15 : Cond.fieldLink RX3 15 "HorseFair$LawReader" "told" "[Z" ∈ TB := tb_in 92 (by decide +kernel) rfl
theorem fl_3_15 : FLd RX3 15 3 1 := ⟨RX3, TX3, 9, rfl, inT_3, by decide, lw_3_15⟩
theorem lw_3_19 : Cond.fieldLink RX3 19 "HorseFair$LawReader" "rules" "I" ∈ TB := tb_in 93 (by decide +kernel) rfl
theorem fl_3_19 : FLd RX3 19 3 2 := ⟨RX3, TX3, 9, rfl, inT_3, by decide, lw_3_19⟩
theorem fp_3_19 : FPd RX3 19 3 2 .int := ⟨RX3, TX3, 9, tyX3, rfl, inT_3, by decide, lw_3_19, tyX3_ok, nmX3, rfl, by decide +kernel⟩
theorem lw_7_101 : Cond.fieldLink RX7 101 "HorseFair$LawReader" "rules" "I" ∈ TB := tb_in 94 (by decide +kernel) rfl
theorem fl_7_101 : FLd RX7 101 3 2 := ⟨RX3, TX3, 9, rfl, inT_3, by decide, lw_7_101⟩
theorem fp_7_101 : FPd RX7 101 3 2 .int := ⟨RX3, TX3, 9, tyX3, rfl, inT_3, by decide, lw_7_101, tyX3_ok, nmX3, rfl, by decide +kernel⟩
theorem lw_3_23 : Cond.fieldLink RX3 23 "HorseFair$LawReader" "faultKind" "I" ∈ TB := tb_in 95 (by decide +kernel) rfl
theorem fl_3_23 : FLd RX3 23 3 3 := ⟨RX3, TX3, 9, rfl, inT_3, by decide, lw_3_23⟩
theorem fp_3_23 : FPd RX3 23 3 3 .int := ⟨RX3, TX3, 9, tyX3, rfl, inT_3, by decide, lw_3_23, tyX3_ok, nmX3, rfl, by decide +kernel⟩
theorem lw_7_87 : Cond.fieldLink RX7 87 "HorseFair$LawReader" "faultKind" "I" ∈ TB := tb_in 96 (by decide +kernel) rfl
theorem fl_7_87 : FLd RX7 87 3 3 := ⟨RX3, TX3, 9, rfl, inT_3, by decide, lw_7_87⟩
theorem fp_7_87 : FPd RX7 87 3 3 .int := ⟨RX3, TX3, 9, tyX3, rfl, inT_3, by decide, lw_7_87, tyX3_ok, nmX3, rfl, by decide +kernel⟩
theorem lw_3_26 : Cond.fieldLink RX3 26 "HorseFair$LawReader" "faultPlace" "I" ∈ TB := tb_in 97 (by decide +kernel) rfl
theorem fl_3_26 : FLd RX3 26 3 4 := ⟨RX3, TX3, 9, rfl, inT_3, by decide, lw_3_26⟩
theorem fp_3_26 : FPd RX3 26 3 4 .int := ⟨RX3, TX3, 9, tyX3, rfl, inT_3, by decide, lw_3_26, tyX3_ok, nmX3, rfl, by decide +kernel⟩
theorem lw_7_90 : Cond.fieldLink RX7 90 "HorseFair$LawReader" "faultPlace" "I" ∈ TB := tb_in 98 (by decide +kernel) rfl
theorem fl_7_90 : FLd RX7 90 3 4 := ⟨RX3, TX3, 9, rfl, inT_3, by decide, lw_7_90⟩
theorem fp_7_90 : FPd RX7 90 3 4 .int := ⟨RX3, TX3, 9, tyX3, rfl, inT_3, by decide, lw_7_90, tyX3_ok, nmX3, rfl, by decide +kernel⟩
theorem lw_3_29 : Cond.fieldLink RX3 29 "HorseFair$LawReader" "awaited" "I" ∈ TB := tb_in 99 (by decide +kernel) rfl
theorem fl_3_29 : FLd RX3 29 3 5 := ⟨RX3, TX3, 9, rfl, inT_3, by decide, lw_3_29⟩
theorem fp_3_29 : FPd RX3 29 3 5 .int := ⟨RX3, TX3, 9, tyX3, rfl, inT_3, by decide, lw_3_29, tyX3_ok, nmX3, rfl, by decide +kernel⟩
theorem lw_3_32 : Cond.fieldLink RX3 32 "HorseFair$LawReader" "slot" "I" ∈ TB := tb_in 100 (by decide +kernel) rfl
theorem fl_3_32 : FLd RX3 32 3 6 := ⟨RX3, TX3, 9, rfl, inT_3, by decide, lw_3_32⟩
theorem fp_3_32 : FPd RX3 32 3 6 .int := ⟨RX3, TX3, 9, tyX3, rfl, inT_3, by decide, lw_3_32, tyX3_ok, nmX3, rfl, by decide +kernel⟩
theorem lw_3_35 : Cond.fieldLink RX3 35 "HorseFair$LawReader" "start" "I" ∈ TB := tb_in 101 (by decide +kernel) rfl
theorem fl_3_35 : FLd RX3 35 3 7 := ⟨RX3, TX3, 9, rfl, inT_3, by decide, lw_3_35⟩
theorem fp_3_35 : FPd RX3 35 3 7 .int := ⟨RX3, TX3, 9, tyX3, rfl, inT_3, by decide, lw_3_35, tyX3_ok, nmX3, rfl, by decide +kernel⟩
theorem lw_3_38 : Cond.fieldLink RX3 38 "HorseFair$LawReader" "past" "I" ∈ TB := tb_in 102 (by decide +kernel) rfl
theorem fl_3_38 : FLd RX3 38 3 8 := ⟨RX3, TX3, 9, rfl, inT_3, by decide, lw_3_38⟩
theorem fp_3_38 : FPd RX3 38 3 8 .int := ⟨RX3, TX3, 9, tyX3, rfl, inT_3, by decide, lw_3_38, tyX3_ok, nmX3, rfl, by decide +kernel⟩
theorem lw_2_11 : Cond.fieldLink RX2 11 "HorseFair$Lands" "law" "[[I" ∈ TB := tb_in 132 (by decide +kernel) rfl
theorem fl_2_11 : FLd RX2 11 2 0 := ⟨RX2, TX2, 2, rfl, inT_2, by decide, lw_2_11⟩
theorem lw_2_16 : Cond.fieldLink RX2 16 "HorseFair$Lands" "chest" "[I" ∈ TB := tb_in 133 (by decide +kernel) rfl
theorem fl_2_16 : FLd RX2 16 2 1 := ⟨RX2, TX2, 2, rfl, inT_2, by decide, lw_2_16⟩
theorem lw_7_104 : Cond.fieldLink RX7 104 "HorseFair$Lands" "chest" "[I" ∈ TB := tb_in 134 (by decide +kernel) rfl
theorem fl_7_104 : FLd RX7 104 2 1 := ⟨RX2, TX2, 2, rfl, inT_2, by decide, lw_7_104⟩
theorem lw_4_9 : Cond.fieldLink RX4 9 "HorseFair$Money" "pence" "[I" ∈ TB := tb_in 146 (by decide +kernel) rfl
theorem fl_4_9 : FLd RX4 9 4 0 := ⟨RX4, TX4, 11, rfl, inT_4, by decide, lw_4_9⟩
theorem lw_7_132 : Cond.fieldLink RX7 132 "HorseFair$Money" "pence" "[I" ∈ TB := tb_in 147 (by decide +kernel) rfl
theorem fl_7_132 : FLd RX7 132 4 0 := ⟨RX4, TX4, 11, rfl, inT_4, by decide, lw_7_132⟩
theorem lw_4_15 : Cond.fieldLink RX4 15 "HorseFair$Money" "people" "I" ∈ TB := tb_in 148 (by decide +kernel) rfl
theorem fl_4_15 : FLd RX4 15 4 1 := ⟨RX4, TX4, 11, rfl, inT_4, by decide, lw_4_15⟩
theorem fp_4_15 : FPd RX4 15 4 1 .int := ⟨RX4, TX4, 11, tyX4, rfl, inT_4, by decide, lw_4_15, tyX4_ok, nmX4, rfl, by decide +kernel⟩
theorem lw_7_111 : Cond.fieldLink RX7 111 "HorseFair$Money" "people" "I" ∈ TB := tb_in 149 (by decide +kernel) rfl
theorem fl_7_111 : FLd RX7 111 4 1 := ⟨RX4, TX4, 11, rfl, inT_4, by decide, lw_7_111⟩
theorem fp_7_111 : FPd RX7 111 4 1 .int := ⟨RX4, TX4, 11, tyX4, rfl, inT_4, by decide, lw_7_111, tyX4_ok, nmX4, rfl, by decide +kernel⟩
theorem lw_4_19 : Cond.fieldLink RX4 19 "HorseFair$Money" "cameInAll" "I" ∈ TB := tb_in 150 (by decide +kernel) rfl
theorem fl_4_19 : FLd RX4 19 4 2 := ⟨RX4, TX4, 11, rfl, inT_4, by decide, lw_4_19⟩
theorem fp_4_19 : FPd RX4 19 4 2 .int := ⟨RX4, TX4, 11, tyX4, rfl, inT_4, by decide, lw_4_19, tyX4_ok, nmX4, rfl, by decide +kernel⟩
theorem lw_4_22 : Cond.fieldLink RX4 22 "HorseFair$Money" "debtor" "[I" ∈ TB := tb_in 151 (by decide +kernel) rfl
theorem fl_4_22 : FLd RX4 22 4 3 := ⟨RX4, TX4, 11, rfl, inT_4, by decide, lw_4_22⟩
theorem lw_7_254 : Cond.fieldLink RX7 254 "HorseFair$Money" "debtor" "[I" ∈ TB := tb_in 152 (by decide +kernel) rfl
theorem fl_7_254 : FLd RX7 254 4 3 := ⟨RX4, TX4, 11, rfl, inT_4, by decide, lw_7_254⟩
theorem lw_4_25 : Cond.fieldLink RX4 25 "HorseFair$Money" "creditor" "[I" ∈ TB := tb_in 153 (by decide +kernel) rfl
theorem fl_4_25 : FLd RX4 25 4 4 := ⟨RX4, TX4, 11, rfl, inT_4, by decide, lw_4_25⟩
theorem lw_7_261 : Cond.fieldLink RX7 261 "HorseFair$Money" "creditor" "[I" ∈ TB := tb_in 154 (by decide +kernel) rfl
theorem fl_7_261 : FLd RX7 261 4 4 := ⟨RX4, TX4, 11, rfl, inT_4, by decide, lw_7_261⟩
theorem lw_4_28 : Cond.fieldLink RX4 28 "HorseFair$Money" "atFirst" "[I" ∈ TB := tb_in 155 (by decide +kernel) rfl
theorem fl_4_28 : FLd RX4 28 4 5 := ⟨RX4, TX4, 11, rfl, inT_4, by decide, lw_4_28⟩
theorem lw_7_274 : Cond.fieldLink RX7 274 "HorseFair$Money" "atFirst" "[I" ∈ TB := tb_in 156 (by decide +kernel) rfl
theorem fl_7_274 : FLd RX7 274 4 5 := ⟨RX4, TX4, 11, rfl, inT_4, by decide, lw_7_274⟩
theorem lw_4_31 : Cond.fieldLink RX4 31 "HorseFair$Money" "left" "[I" ∈ TB := tb_in 157 (by decide +kernel) rfl
theorem fl_4_31 : FLd RX4 31 4 6 := ⟨RX4, TX4, 11, rfl, inT_4, by decide, lw_4_31⟩
theorem lw_7_277 : Cond.fieldLink RX7 277 "HorseFair$Money" "left" "[I" ∈ TB := tb_in 158 (by decide +kernel) rfl
theorem fl_7_277 : FLd RX7 277 4 6 := ⟨RX4, TX4, 11, rfl, inT_4, by decide, lw_7_277⟩
theorem lw_4_34 : Cond.fieldLink RX4 34 "HorseFair$Money" "debts" "I" ∈ TB := tb_in 159 (by decide +kernel) rfl
theorem fl_4_34 : FLd RX4 34 4 7 := ⟨RX4, TX4, 11, rfl, inT_4, by decide, lw_4_34⟩
theorem fp_4_34 : FPd RX4 34 4 7 .int := ⟨RX4, TX4, 11, tyX4, rfl, inT_4, by decide, lw_4_34, tyX4_ok, nmX4, rfl, by decide +kernel⟩
theorem lw_7_269 : Cond.fieldLink RX7 269 "HorseFair$Money" "debts" "I" ∈ TB := tb_in 160 (by decide +kernel) rfl
theorem fl_7_269 : FLd RX7 269 4 7 := ⟨RX4, TX4, 11, rfl, inT_4, by decide, lw_7_269⟩
theorem fp_7_269 : FPd RX7 269 4 7 .int := ⟨RX4, TX4, 11, tyX4, rfl, inT_4, by decide, lw_7_269, tyX4_ok, nmX4, rfl, by decide +kernel⟩
theorem lw_4_37 : Cond.fieldLink RX4 37 "HorseFair$Money" "oldestOpen" "I" ∈ TB := tb_in 161 (by decide +kernel) rfl
theorem fl_4_37 : FLd RX4 37 4 8 := ⟨RX4, TX4, 11, rfl, inT_4, by decide, lw_4_37⟩
theorem fp_4_37 : FPd RX4 37 4 8 .int := ⟨RX4, TX4, 11, tyX4, rfl, inT_4, by decide, lw_4_37, tyX4_ok, nmX4, rfl, by decide +kernel⟩
theorem lw_4_40 : Cond.fieldLink RX4 40 "HorseFair$Money" "penceSeen" "[I" ∈ TB := tb_in 162 (by decide +kernel) rfl
theorem fl_4_40 : FLd RX4 40 4 9 := ⟨RX4, TX4, 11, rfl, inT_4, by decide, lw_4_40⟩
theorem lw_4_43 : Cond.fieldLink RX4 43 "HorseFair$Money" "leftSeen" "[I" ∈ TB := tb_in 163 (by decide +kernel) rfl
theorem fl_4_43 : FLd RX4 43 4 10 := ⟨RX4, TX4, 11, rfl, inT_4, by decide, lw_4_43⟩
theorem lw_1_9 : Cond.fieldLink RX1 9 "HorseFair$Horses" "holder" "[I" ∈ TB := tb_in 194 (by decide +kernel) rfl
theorem fl_1_9 : FLd RX1 9 1 0 := ⟨RX1, TX1, 6, rfl, inT_1, by decide, lw_1_9⟩
theorem lw_7_148 : Cond.fieldLink RX7 148 "HorseFair$Horses" "holder" "[I" ∈ TB := tb_in 195 (by decide +kernel) rfl
theorem fl_7_148 : FLd RX7 148 1 0 := ⟨RX1, TX1, 6, rfl, inT_1, by decide, lw_7_148⟩
theorem lw_1_15 : Cond.fieldLink RX1 15 "HorseFair$Horses" "title" "[I" ∈ TB := tb_in 196 (by decide +kernel) rfl
theorem fl_1_15 : FLd RX1 15 1 1 := ⟨RX1, TX1, 6, rfl, inT_1, by decide, lw_1_15⟩
theorem lw_7_151 : Cond.fieldLink RX7 151 "HorseFair$Horses" "title" "[I" ∈ TB := tb_in 197 (by decide +kernel) rfl
theorem fl_7_151 : FLd RX7 151 1 1 := ⟨RX1, TX1, 6, rfl, inT_1, by decide, lw_7_151⟩
theorem lw_1_18 : Cond.fieldLink RX1 18 "HorseFair$Horses" "apartFrom" "[I" ∈ TB := tb_in 198 (by decide +kernel) rfl
theorem fl_1_18 : FLd RX1 18 1 2 := ⟨RX1, TX1, 6, rfl, inT_1, by decide, lw_1_18⟩
theorem lw_7_191 : Cond.fieldLink RX7 191 "HorseFair$Horses" "apartFrom" "[I" ∈ TB := tb_in 199 (by decide +kernel) rfl
theorem fl_7_191 : FLd RX7 191 1 2 := ⟨RX1, TX1, 6, rfl, inT_1, by decide, lw_7_191⟩
theorem lw_1_23 : Cond.fieldLink RX1 23 "HorseFair$Horses" "foundOn" "[[I" ∈ TB := tb_in 200 (by decide +kernel) rfl
theorem fl_1_23 : FLd RX1 23 1 3 := ⟨RX1, TX1, 6, rfl, inT_1, by decide, lw_1_23⟩
theorem lw_7_177 : Cond.fieldLink RX7 177 "HorseFair$Horses" "foundOn" "[[I" ∈ TB := tb_in 201 (by decide +kernel) rfl
theorem fl_7_177 : FLd RX7 177 1 3 := ⟨RX1, TX1, 6, rfl, inT_1, by decide, lw_7_177⟩
theorem lw_1_26 : Cond.fieldLink RX1 26 "HorseFair$Horses" "since" "[[I" ∈ TB := tb_in 202 (by decide +kernel) rfl
theorem fl_1_26 : FLd RX1 26 1 4 := ⟨RX1, TX1, 6, rfl, inT_1, by decide, lw_1_26⟩
theorem lw_7_181 : Cond.fieldLink RX7 181 "HorseFair$Horses" "since" "[[I" ∈ TB := tb_in 203 (by decide +kernel) rfl
theorem fl_7_181 : FLd RX7 181 1 4 := ⟨RX1, TX1, 6, rfl, inT_1, by decide, lw_7_181⟩
theorem lw_1_29 : Cond.fieldLink RX1 29 "HorseFair$Horses" "size" "I" ∈ TB := tb_in 204 (by decide +kernel) rfl
theorem fl_1_29 : FLd RX1 29 1 5 := ⟨RX1, TX1, 6, rfl, inT_1, by decide, lw_1_29⟩
theorem fp_1_29 : FPd RX1 29 1 5 .int := ⟨RX1, TX1, 6, tyX1, rfl, inT_1, by decide, lw_1_29, tyX1_ok, nmX1, rfl, by decide +kernel⟩
theorem lw_7_135 : Cond.fieldLink RX7 135 "HorseFair$Horses" "size" "I" ∈ TB := tb_in 205 (by decide +kernel) rfl
theorem fl_7_135 : FLd RX7 135 1 5 := ⟨RX1, TX1, 6, rfl, inT_1, by decide, lw_7_135⟩
theorem fp_7_135 : FPd RX7 135 1 5 .int := ⟨RX1, TX1, 6, tyX1, rfl, inT_1, by decide, lw_7_135, tyX1_ok, nmX1, rfl, by decide +kernel⟩
theorem lw_0_9 : Cond.fieldLink RX0 9 "HorseFair$Hands" "horseOf" "[I" ∈ TB := tb_in 225 (by decide +kernel) rfl
theorem fl_0_9 : FLd RX0 9 0 0 := ⟨RX0, TX0, 5, rfl, inT_0, by decide, lw_0_9⟩
theorem lw_0_15 : Cond.fieldLink RX0 15 "HorseFair$Hands" "holder" "[I" ∈ TB := tb_in 226 (by decide +kernel) rfl
theorem fl_0_15 : FLd RX0 15 0 1 := ⟨RX0, TX0, 5, rfl, inT_0, by decide, lw_0_15⟩
theorem lw_7_287 : Cond.fieldLink RX7 287 "HorseFair$Hands" "holder" "[I" ∈ TB := tb_in 227 (by decide +kernel) rfl
theorem fl_7_287 : FLd RX7 287 0 1 := ⟨RX0, TX0, 5, rfl, inT_0, by decide, lw_7_287⟩
theorem lw_0_18 : Cond.fieldLink RX0 18 "HorseFair$Hands" "from" "[I" ∈ TB := tb_in 228 (by decide +kernel) rfl
theorem fl_0_18 : FLd RX0 18 0 2 := ⟨RX0, TX0, 5, rfl, inT_0, by decide, lw_0_18⟩
theorem lw_7_288 : Cond.fieldLink RX7 288 "HorseFair$Hands" "from" "[I" ∈ TB := tb_in 229 (by decide +kernel) rfl
theorem fl_7_288 : FLd RX7 288 0 2 := ⟨RX0, TX0, 5, rfl, inT_0, by decide, lw_7_288⟩
theorem lw_0_21 : Cond.fieldLink RX0 21 "HorseFair$Hands" "how" "[I" ∈ TB := tb_in 230 (by decide +kernel) rfl
theorem fl_0_21 : FLd RX0 21 0 3 := ⟨RX0, TX0, 5, rfl, inT_0, by decide, lw_0_21⟩
theorem lw_7_291 : Cond.fieldLink RX7 291 "HorseFair$Hands" "how" "[I" ∈ TB := tb_in 231 (by decide +kernel) rfl
theorem fl_7_291 : FLd RX7 291 0 3 := ⟨RX0, TX0, 5, rfl, inT_0, by decide, lw_7_291⟩
theorem lw_0_24 : Cond.fieldLink RX0 24 "HorseFair$Hands" "size" "I" ∈ TB := tb_in 232 (by decide +kernel) rfl
theorem fl_0_24 : FLd RX0 24 0 4 := ⟨RX0, TX0, 5, rfl, inT_0, by decide, lw_0_24⟩
theorem fp_0_24 : FPd RX0 24 0 4 .int := ⟨RX0, TX0, 5, tyX0, rfl, inT_0, by decide, lw_0_24, tyX0_ok, nmX0, rfl, by decide +kernel⟩
theorem lw_7_300 : Cond.fieldLink RX7 300 "HorseFair$Hands" "size" "I" ∈ TB := tb_in 233 (by decide +kernel) rfl
theorem fl_7_300 : FLd RX7 300 0 4 := ⟨RX0, TX0, 5, rfl, inT_0, by decide, lw_7_300⟩
theorem fp_7_300 : FPd RX7 300 0 4 .int := ⟨RX0, TX0, 5, tyX0, rfl, inT_0, by decide, lw_7_300, tyX0_ok, nmX0, rfl, by decide +kernel⟩
theorem lw_5_9 : Cond.fieldLink RX5 9 "HorseFair$Sales" "horseOf" "[I" ∈ TB := tb_in 251 (by decide +kernel) rfl
theorem fl_5_9 : FLd RX5 9 5 0 := ⟨RX5, TX5, 10, rfl, inT_5, by decide, lw_5_9⟩
theorem lw_7_225 : Cond.fieldLink RX7 225 "HorseFair$Sales" "horseOf" "[I" ∈ TB := tb_in 252 (by decide +kernel) rfl
theorem fl_7_225 : FLd RX7 225 5 0 := ⟨RX5, TX5, 10, rfl, inT_5, by decide, lw_7_225⟩
theorem lw_5_15 : Cond.fieldLink RX5 15 "HorseFair$Sales" "seller" "[I" ∈ TB := tb_in 253 (by decide +kernel) rfl
theorem fl_5_15 : FLd RX5 15 5 1 := ⟨RX5, TX5, 10, rfl, inT_5, by decide, lw_5_15⟩
theorem lw_7_228 : Cond.fieldLink RX7 228 "HorseFair$Sales" "seller" "[I" ∈ TB := tb_in 254 (by decide +kernel) rfl
theorem fl_7_228 : FLd RX7 228 5 1 := ⟨RX5, TX5, 10, rfl, inT_5, by decide, lw_7_228⟩
theorem lw_5_18 : Cond.fieldLink RX5 18 "HorseFair$Sales" "buyer" "[I" ∈ TB := tb_in 255 (by decide +kernel) rfl
theorem fl_5_18 : FLd RX5 18 5 2 := ⟨RX5, TX5, 10, rfl, inT_5, by decide, lw_5_18⟩
theorem lw_7_231 : Cond.fieldLink RX7 231 "HorseFair$Sales" "buyer" "[I" ∈ TB := tb_in 256 (by decide +kernel) rfl
theorem fl_7_231 : FLd RX7 231 5 2 := ⟨RX5, TX5, 10, rfl, inT_5, by decide, lw_7_231⟩
theorem lw_5_21 : Cond.fieldLink RX5 21 "HorseFair$Sales" "price" "[I" ∈ TB := tb_in 257 (by decide +kernel) rfl
theorem fl_5_21 : FLd RX5 21 5 3 := ⟨RX5, TX5, 10, rfl, inT_5, by decide, lw_5_21⟩
theorem lw_7_234 : Cond.fieldLink RX7 234 "HorseFair$Sales" "price" "[I" ∈ TB := tb_in 258 (by decide +kernel) rfl
theorem fl_7_234 : FLd RX7 234 5 3 := ⟨RX5, TX5, 10, rfl, inT_5, by decide, lw_7_234⟩
theorem lw_5_24 : Cond.fieldLink RX5 24 "HorseFair$Sales" "warrants" "[I" ∈ TB := tb_in 259 (by decide +kernel) rfl
theorem fl_5_24 : FLd RX5 24 5 4 := ⟨RX5, TX5, 10, rfl, inT_5, by decide, lw_5_24⟩
theorem lw_7_237 : Cond.fieldLink RX7 237 "HorseFair$Sales" "warrants" "[I" ∈ TB := tb_in 260 (by decide +kernel) rfl
theorem fl_7_237 : FLd RX7 237 5 4 := ⟨RX5, TX5, 10, rfl, inT_5, by decide, lw_7_237⟩
theorem lw_5_27 : Cond.fieldLink RX5 27 "HorseFair$Sales" "land" "[I" ∈ TB := tb_in 261 (by decide +kernel) rfl
theorem fl_5_27 : FLd RX5 27 5 5 := ⟨RX5, TX5, 10, rfl, inT_5, by decide, lw_5_27⟩
theorem lw_7_240 : Cond.fieldLink RX7 240 "HorseFair$Sales" "land" "[I" ∈ TB := tb_in 262 (by decide +kernel) rfl
theorem fl_7_240 : FLd RX7 240 5 5 := ⟨RX5, TX5, 10, rfl, inT_5, by decide, lw_7_240⟩
theorem lw_5_30 : Cond.fieldLink RX5 30 "HorseFair$Sales" "madeOn" "[I" ∈ TB := tb_in 263 (by decide +kernel) rfl
theorem fl_5_30 : FLd RX5 30 5 6 := ⟨RX5, TX5, 10, rfl, inT_5, by decide, lw_5_30⟩
theorem lw_7_243 : Cond.fieldLink RX7 243 "HorseFair$Sales" "madeOn" "[I" ∈ TB := tb_in 264 (by decide +kernel) rfl
theorem fl_7_243 : FLd RX7 243 5 6 := ⟨RX5, TX5, 10, rfl, inT_5, by decide, lw_7_243⟩
theorem lw_5_33 : Cond.fieldLink RX5 33 "HorseFair$Sales" "undone" "[Z" ∈ TB := tb_in 265 (by decide +kernel) rfl
theorem fl_5_33 : FLd RX5 33 5 7 := ⟨RX5, TX5, 10, rfl, inT_5, by decide, lw_5_33⟩
theorem lw_7_246 : Cond.fieldLink RX7 246 "HorseFair$Sales" "undone" "[Z" ∈ TB := tb_in 266 (by decide +kernel) rfl
theorem fl_7_246 : FLd RX7 246 5 7 := ⟨RX5, TX5, 10, rfl, inT_5, by decide, lw_7_246⟩
theorem lw_5_37 : Cond.fieldLink RX5 37 "HorseFair$Sales" "titled" "[Z" ∈ TB := tb_in 267 (by decide +kernel) rfl
theorem fl_5_37 : FLd RX5 37 5 8 := ⟨RX5, TX5, 10, rfl, inT_5, by decide, lw_5_37⟩
theorem lw_7_312 : Cond.fieldLink RX7 312 "HorseFair$Sales" "titled" "[Z" ∈ TB := tb_in 268 (by decide +kernel) rfl
theorem fl_7_312 : FLd RX7 312 5 8 := ⟨RX5, TX5, 10, rfl, inT_5, by decide, lw_7_312⟩
theorem lw_5_40 : Cond.fieldLink RX5 40 "HorseFair$Sales" "size" "I" ∈ TB := tb_in 269 (by decide +kernel) rfl
theorem fl_5_40 : FLd RX5 40 5 9 := ⟨RX5, TX5, 10, rfl, inT_5, by decide, lw_5_40⟩
theorem fp_5_40 : FPd RX5 40 5 9 .int := ⟨RX5, TX5, 10, tyX5, rfl, inT_5, by decide, lw_5_40, tyX5_ok, nmX5, rfl, by decide +kernel⟩
theorem lw_7_190 : Cond.fieldLink RX7 190 "HorseFair$Sales" "size" "I" ∈ TB := tb_in 270 (by decide +kernel) rfl
theorem fl_7_190 : FLd RX7 190 5 9 := ⟨RX5, TX5, 10, rfl, inT_5, by decide, lw_7_190⟩
theorem fp_7_190 : FPd RX7 190 5 9 .int := ⟨RX5, TX5, 10, tyX5, rfl, inT_5, by decide, lw_7_190, tyX5_ok, nmX5, rfl, by decide +kernel⟩
theorem lw_7_10 : Cond.fieldLink RX7 10 "HorseFair" "tape" "LHorseFair$Tape;" ∈ TB := tb_in 292 (by decide +kernel) rfl
theorem fl_7_10 : FLd RX7 10 7 0 := ⟨RX7, TX7, 9, rfl, inT_7, by decide, lw_7_10⟩
theorem lw_7_19 : Cond.fieldLink RX7 19 "HorseFair" "reader" "LHorseFair$LawReader;" ∈ TB := tb_in 293 (by decide +kernel) rfl
theorem fl_7_19 : FLd RX7 19 7 1 := ⟨RX7, TX7, 9, rfl, inT_7, by decide, lw_7_19⟩
theorem lw_7_26 : Cond.fieldLink RX7 26 "HorseFair" "lands" "LHorseFair$Lands;" ∈ TB := tb_in 294 (by decide +kernel) rfl
theorem fl_7_26 : FLd RX7 26 7 2 := ⟨RX7, TX7, 9, rfl, inT_7, by decide, lw_7_26⟩
theorem lw_7_33 : Cond.fieldLink RX7 33 "HorseFair" "money" "LHorseFair$Money;" ∈ TB := tb_in 295 (by decide +kernel) rfl
theorem fl_7_33 : FLd RX7 33 7 3 := ⟨RX7, TX7, 9, rfl, inT_7, by decide, lw_7_33⟩
theorem lw_7_40 : Cond.fieldLink RX7 40 "HorseFair" "horses" "LHorseFair$Horses;" ∈ TB := tb_in 296 (by decide +kernel) rfl
theorem fl_7_40 : FLd RX7 40 7 4 := ⟨RX7, TX7, 9, rfl, inT_7, by decide, lw_7_40⟩
theorem lw_7_47 : Cond.fieldLink RX7 47 "HorseFair" "hands" "LHorseFair$Hands;" ∈ TB := tb_in 297 (by decide +kernel) rfl
theorem fl_7_47 : FLd RX7 47 7 5 := ⟨RX7, TX7, 9, rfl, inT_7, by decide, lw_7_47⟩
theorem lw_7_54 : Cond.fieldLink RX7 54 "HorseFair" "sales" "LHorseFair$Sales;" ∈ TB := tb_in 298 (by decide +kernel) rfl
theorem fl_7_54 : FLd RX7 54 7 6 := ⟨RX7, TX7, 9, rfl, inT_7, by decide, lw_7_54⟩
theorem lw_7_58 : Cond.fieldLink RX7 58 "HorseFair" "day" "I" ∈ TB := tb_in 299 (by decide +kernel) rfl
theorem fl_7_58 : FLd RX7 58 7 7 := ⟨RX7, TX7, 9, rfl, inT_7, by decide, lw_7_58⟩
theorem fp_7_58 : FPd RX7 58 7 7 .int := ⟨RX7, TX7, 9, tyX7, rfl, inT_7, by decide, lw_7_58, tyX7_ok, nmX7, rfl, by decide +kernel⟩
theorem lw_7_62 : Cond.fieldLink RX7 62 "HorseFair" "wrongKind" "I" ∈ TB := tb_in 300 (by decide +kernel) rfl
theorem fl_7_62 : FLd RX7 62 7 8 := ⟨RX7, TX7, 9, rfl, inT_7, by decide, lw_7_62⟩
theorem fp_7_62 : FPd RX7 62 7 8 .int := ⟨RX7, TX7, 9, tyX7, rfl, inT_7, by decide, lw_7_62, tyX7_ok, nmX7, rfl, by decide +kernel⟩
theorem lw_8_89 : Cond.fieldLink RX8 89 "HorseFairModel" "thrown" "I" ∈ TB := tb_in 814 (by decide +kernel) rfl
theorem fl_8_89 : FLd RX8 89 8 0 := ⟨RX8, TX8, 44, rfl, inT_8, by decide, lw_8_89⟩
theorem fp_8_89 : FPd RX8 89 8 0 .int := ⟨RX8, TX8, 44, tyX8, rfl, inT_8, by decide, lw_8_89, tyX8_ok, nmX8, rfl, by decide +kernel⟩
theorem lw_8_7 : Cond.fieldLink RX8 7 "HorseFairModel" "tape" "[I" ∈ TB := tb_in 815 (by decide +kernel) rfl
theorem fl_8_7 : FLd RX8 7 8 1 := ⟨RX8, TX8, 44, rfl, inT_8, by decide, lw_8_7⟩
theorem lw_8_93 : Cond.fieldLink RX8 93 "HorseFairModel" "taped" "I" ∈ TB := tb_in 816 (by decide +kernel) rfl
theorem fl_8_93 : FLd RX8 93 8 2 := ⟨RX8, TX8, 44, rfl, inT_8, by decide, lw_8_93⟩
theorem fp_8_93 : FPd RX8 93 8 2 .int := ⟨RX8, TX8, 44, tyX8, rfl, inT_8, by decide, lw_8_93, tyX8_ok, nmX8, rfl, by decide +kernel⟩
theorem lw_8_13 : Cond.fieldLink RX8 13 "HorseFairModel" "law" "[I" ∈ TB := tb_in 817 (by decide +kernel) rfl
theorem fl_8_13 : FLd RX8 13 8 3 := ⟨RX8, TX8, 44, rfl, inT_8, by decide, lw_8_13⟩
theorem lw_8_16 : Cond.fieldLink RX8 16 "HorseFairModel" "chest" "[I" ∈ TB := tb_in 818 (by decide +kernel) rfl
theorem fl_8_16 : FLd RX8 16 8 4 := ⟨RX8, TX8, 44, rfl, inT_8, by decide, lw_8_16⟩
theorem lw_8_100 : Cond.fieldLink RX8 100 "HorseFairModel" "size" "I" ∈ TB := tb_in 819 (by decide +kernel) rfl
theorem fl_8_100 : FLd RX8 100 8 5 := ⟨RX8, TX8, 44, rfl, inT_8, by decide, lw_8_100⟩
theorem fp_8_100 : FPd RX8 100 8 5 .int := ⟨RX8, TX8, 44, tyX8, rfl, inT_8, by decide, lw_8_100, tyX8_ok, nmX8, rfl, by decide +kernel⟩
theorem lw_8_103 : Cond.fieldLink RX8 103 "HorseFairModel" "to" "I" ∈ TB := tb_in 820 (by decide +kernel) rfl
theorem fl_8_103 : FLd RX8 103 8 6 := ⟨RX8, TX8, 44, rfl, inT_8, by decide, lw_8_103⟩
theorem fp_8_103 : FPd RX8 103 8 6 .int := ⟨RX8, TX8, 44, tyX8, rfl, inT_8, by decide, lw_8_103, tyX8_ok, nmX8, rfl, by decide +kernel⟩
theorem lw_8_106 : Cond.fieldLink RX8 106 "HorseFairModel" "from" "I" ∈ TB := tb_in 821 (by decide +kernel) rfl
theorem fl_8_106 : FLd RX8 106 8 7 := ⟨RX8, TX8, 44, rfl, inT_8, by decide, lw_8_106⟩
theorem fp_8_106 : FPd RX8 106 8 7 .int := ⟨RX8, TX8, 44, tyX8, rfl, inT_8, by decide, lw_8_106, tyX8_ok, nmX8, rfl, by decide +kernel⟩
theorem lw_8_109 : Cond.fieldLink RX8 109 "HorseFairModel" "kind" "I" ∈ TB := tb_in 822 (by decide +kernel) rfl
theorem fl_8_109 : FLd RX8 109 8 8 := ⟨RX8, TX8, 44, rfl, inT_8, by decide, lw_8_109⟩
theorem fp_8_109 : FPd RX8 109 8 8 .int := ⟨RX8, TX8, 44, tyX8, rfl, inT_8, by decide, lw_8_109, tyX8_ok, nmX8, rfl, by decide +kernel⟩
theorem lw_8_123 : Cond.fieldLink RX8 123 "HorseFairModel" "number" "I" ∈ TB := tb_in 823 (by decide +kernel) rfl
theorem fl_8_123 : FLd RX8 123 8 9 := ⟨RX8, TX8, 44, rfl, inT_8, by decide, lw_8_123⟩
theorem fp_8_123 : FPd RX8 123 8 9 .int := ⟨RX8, TX8, 44, tyX8, rfl, inT_8, by decide, lw_8_123, tyX8_ok, nmX8, rfl, by decide +kernel⟩
theorem lw_8_136 : Cond.fieldLink RX8 136 "HorseFairModel" "wrong" "I" ∈ TB := tb_in 824 (by decide +kernel) rfl
theorem fl_8_136 : FLd RX8 136 8 10 := ⟨RX8, TX8, 44, rfl, inT_8, by decide, lw_8_136⟩
theorem fp_8_136 : FPd RX8 136 8 10 .int := ⟨RX8, TX8, 44, tyX8, rfl, inT_8, by decide, lw_8_136, tyX8_ok, nmX8, rfl, by decide +kernel⟩
theorem lw_8_139 : Cond.fieldLink RX8 139 "HorseFairModel" "place" "I" ∈ TB := tb_in 825 (by decide +kernel) rfl
theorem fl_8_139 : FLd RX8 139 8 11 := ⟨RX8, TX8, 44, rfl, inT_8, by decide, lw_8_139⟩
theorem fp_8_139 : FPd RX8 139 8 11 .int := ⟨RX8, TX8, 44, tyX8, rfl, inT_8, by decide, lw_8_139, tyX8_ok, nmX8, rfl, by decide +kernel⟩
theorem lw_8_161 : Cond.fieldLink RX8 161 "HorseFairModel" "told" "I" ∈ TB := tb_in 826 (by decide +kernel) rfl
theorem fl_8_161 : FLd RX8 161 8 12 := ⟨RX8, TX8, 44, rfl, inT_8, by decide, lw_8_161⟩
theorem fp_8_161 : FPd RX8 161 8 12 .int := ⟨RX8, TX8, 44, tyX8, rfl, inT_8, by decide, lw_8_161, tyX8_ok, nmX8, rfl, by decide +kernel⟩
theorem lw_8_119 : Cond.fieldLink RX8 119 "HorseFairModel" "word" "J" ∈ TB := tb_in 827 (by decide +kernel) rfl
theorem fl_8_119 : FLd RX8 119 8 13 := ⟨RX8, TX8, 44, rfl, inT_8, by decide, lw_8_119⟩
theorem fp_8_119 : FPd RX8 119 8 13 .long := ⟨RX8, TX8, 44, tyX8, rfl, inT_8, by decide, lw_8_119, tyX8_ok, nmX8, rfl, by decide +kernel⟩
theorem lw_8_19 : Cond.fieldLink RX8 19 "HorseFairModel" "pence" "[I" ∈ TB := tb_in 828 (by decide +kernel) rfl
theorem fl_8_19 : FLd RX8 19 8 14 := ⟨RX8, TX8, 44, rfl, inT_8, by decide, lw_8_19⟩
theorem lw_8_175 : Cond.fieldLink RX8 175 "HorseFairModel" "people" "I" ∈ TB := tb_in 829 (by decide +kernel) rfl
theorem fl_8_175 : FLd RX8 175 8 15 := ⟨RX8, TX8, 44, rfl, inT_8, by decide, lw_8_175⟩
theorem fp_8_175 : FPd RX8 175 8 15 .int := ⟨RX8, TX8, 44, tyX8, rfl, inT_8, by decide, lw_8_175, tyX8_ok, nmX8, rfl, by decide +kernel⟩
theorem lw_8_179 : Cond.fieldLink RX8 179 "HorseFairModel" "came" "I" ∈ TB := tb_in 830 (by decide +kernel) rfl
theorem fl_8_179 : FLd RX8 179 8 16 := ⟨RX8, TX8, 44, rfl, inT_8, by decide, lw_8_179⟩
theorem fp_8_179 : FPd RX8 179 8 16 .int := ⟨RX8, TX8, 44, tyX8, rfl, inT_8, by decide, lw_8_179, tyX8_ok, nmX8, rfl, by decide +kernel⟩
theorem lw_8_201 : Cond.fieldLink RX8 201 "HorseFairModel" "day" "I" ∈ TB := tb_in 831 (by decide +kernel) rfl
theorem fl_8_201 : FLd RX8 201 8 17 := ⟨RX8, TX8, 44, rfl, inT_8, by decide, lw_8_201⟩
theorem fp_8_201 : FPd RX8 201 8 17 .int := ⟨RX8, TX8, 44, tyX8, rfl, inT_8, by decide, lw_8_201, tyX8_ok, nmX8, rfl, by decide +kernel⟩
theorem lw_8_22 : Cond.fieldLink RX8 22 "HorseFairModel" "debtor" "[I" ∈ TB := tb_in 832 (by decide +kernel) rfl
theorem fl_8_22 : FLd RX8 22 8 18 := ⟨RX8, TX8, 44, rfl, inT_8, by decide, lw_8_22⟩
theorem lw_8_25 : Cond.fieldLink RX8 25 "HorseFairModel" "creditor" "[I" ∈ TB := tb_in 833 (by decide +kernel) rfl
theorem fl_8_25 : FLd RX8 25 8 19 := ⟨RX8, TX8, 44, rfl, inT_8, by decide, lw_8_25⟩
theorem lw_8_28 : Cond.fieldLink RX8 28 "HorseFairModel" "owed" "[I" ∈ TB := tb_in 834 (by decide +kernel) rfl
theorem fl_8_28 : FLd RX8 28 8 20 := ⟨RX8, TX8, 44, rfl, inT_8, by decide, lw_8_28⟩
theorem lw_8_31 : Cond.fieldLink RX8 31 "HorseFairModel" "left" "[I" ∈ TB := tb_in 835 (by decide +kernel) rfl
theorem fl_8_31 : FLd RX8 31 8 21 := ⟨RX8, TX8, 44, rfl, inT_8, by decide, lw_8_31⟩
theorem lw_8_189 : Cond.fieldLink RX8 189 "HorseFairModel" "debts" "I" ∈ TB := tb_in 836 (by decide +kernel) rfl
theorem fl_8_189 : FLd RX8 189 8 22 := ⟨RX8, TX8, 44, rfl, inT_8, by decide, lw_8_189⟩
theorem fp_8_189 : FPd RX8 189 8 22 .int := ⟨RX8, TX8, 44, tyX8, rfl, inT_8, by decide, lw_8_189, tyX8_ok, nmX8, rfl, by decide +kernel⟩
theorem lw_8_34 : Cond.fieldLink RX8 34 "HorseFairModel" "holder" "[I" ∈ TB := tb_in 837 (by decide +kernel) rfl
theorem fl_8_34 : FLd RX8 34 8 23 := ⟨RX8, TX8, 44, rfl, inT_8, by decide, lw_8_34⟩
theorem lw_8_37 : Cond.fieldLink RX8 37 "HorseFairModel" "title" "[I" ∈ TB := tb_in 838 (by decide +kernel) rfl
theorem fl_8_37 : FLd RX8 37 8 24 := ⟨RX8, TX8, 44, rfl, inT_8, by decide, lw_8_37⟩
theorem lw_8_40 : Cond.fieldLink RX8 40 "HorseFairModel" "apart" "[I" ∈ TB := tb_in 839 (by decide +kernel) rfl
theorem fl_8_40 : FLd RX8 40 8 25 := ⟨RX8, TX8, 44, rfl, inT_8, by decide, lw_8_40⟩
theorem lw_8_43 : Cond.fieldLink RX8 43 "HorseFairModel" "found" "[I" ∈ TB := tb_in 840 (by decide +kernel) rfl
theorem fl_8_43 : FLd RX8 43 8 26 := ⟨RX8, TX8, 44, rfl, inT_8, by decide, lw_8_43⟩
theorem lw_8_46 : Cond.fieldLink RX8 46 "HorseFairModel" "since" "[I" ∈ TB := tb_in 841 (by decide +kernel) rfl
theorem fl_8_46 : FLd RX8 46 8 27 := ⟨RX8, TX8, 44, rfl, inT_8, by decide, lw_8_46⟩
theorem lw_8_192 : Cond.fieldLink RX8 192 "HorseFairModel" "horses" "I" ∈ TB := tb_in 842 (by decide +kernel) rfl
theorem fl_8_192 : FLd RX8 192 8 28 := ⟨RX8, TX8, 44, rfl, inT_8, by decide, lw_8_192⟩
theorem fp_8_192 : FPd RX8 192 8 28 .int := ⟨RX8, TX8, 44, tyX8, rfl, inT_8, by decide, lw_8_192, tyX8_ok, nmX8, rfl, by decide +kernel⟩
theorem lw_8_49 : Cond.fieldLink RX8 49 "HorseFairModel" "handOf" "[I" ∈ TB := tb_in 843 (by decide +kernel) rfl
theorem fl_8_49 : FLd RX8 49 8 29 := ⟨RX8, TX8, 44, rfl, inT_8, by decide, lw_8_49⟩
theorem lw_8_52 : Cond.fieldLink RX8 52 "HorseFairModel" "handWho" "[I" ∈ TB := tb_in 844 (by decide +kernel) rfl
theorem fl_8_52 : FLd RX8 52 8 30 := ⟨RX8, TX8, 44, rfl, inT_8, by decide, lw_8_52⟩
theorem lw_8_55 : Cond.fieldLink RX8 55 "HorseFairModel" "handDay" "[I" ∈ TB := tb_in 845 (by decide +kernel) rfl
theorem fl_8_55 : FLd RX8 55 8 31 := ⟨RX8, TX8, 44, rfl, inT_8, by decide, lw_8_55⟩
theorem lw_8_58 : Cond.fieldLink RX8 58 "HorseFairModel" "handHow" "[I" ∈ TB := tb_in 846 (by decide +kernel) rfl
theorem fl_8_58 : FLd RX8 58 8 32 := ⟨RX8, TX8, 44, rfl, inT_8, by decide, lw_8_58⟩
theorem lw_8_198 : Cond.fieldLink RX8 198 "HorseFairModel" "hands" "I" ∈ TB := tb_in 847 (by decide +kernel) rfl
theorem fl_8_198 : FLd RX8 198 8 33 := ⟨RX8, TX8, 44, rfl, inT_8, by decide, lw_8_198⟩
theorem fp_8_198 : FPd RX8 198 8 33 .int := ⟨RX8, TX8, 44, tyX8, rfl, inT_8, by decide, lw_8_198, tyX8_ok, nmX8, rfl, by decide +kernel⟩
theorem lw_8_61 : Cond.fieldLink RX8 61 "HorseFairModel" "saleHorse" "[I" ∈ TB := tb_in 848 (by decide +kernel) rfl
theorem fl_8_61 : FLd RX8 61 8 34 := ⟨RX8, TX8, 44, rfl, inT_8, by decide, lw_8_61⟩
theorem lw_8_64 : Cond.fieldLink RX8 64 "HorseFairModel" "seller" "[I" ∈ TB := tb_in 849 (by decide +kernel) rfl
theorem fl_8_64 : FLd RX8 64 8 35 := ⟨RX8, TX8, 44, rfl, inT_8, by decide, lw_8_64⟩
theorem lw_8_67 : Cond.fieldLink RX8 67 "HorseFairModel" "buyer" "[I" ∈ TB := tb_in 850 (by decide +kernel) rfl
theorem fl_8_67 : FLd RX8 67 8 36 := ⟨RX8, TX8, 44, rfl, inT_8, by decide, lw_8_67⟩
theorem lw_8_70 : Cond.fieldLink RX8 70 "HorseFairModel" "price" "[I" ∈ TB := tb_in 851 (by decide +kernel) rfl
theorem fl_8_70 : FLd RX8 70 8 37 := ⟨RX8, TX8, 44, rfl, inT_8, by decide, lw_8_70⟩
theorem lw_8_73 : Cond.fieldLink RX8 73 "HorseFairModel" "warrants" "[I" ∈ TB := tb_in 852 (by decide +kernel) rfl
theorem fl_8_73 : FLd RX8 73 8 38 := ⟨RX8, TX8, 44, rfl, inT_8, by decide, lw_8_73⟩
theorem lw_8_76 : Cond.fieldLink RX8 76 "HorseFairModel" "land" "[I" ∈ TB := tb_in 853 (by decide +kernel) rfl
theorem fl_8_76 : FLd RX8 76 8 39 := ⟨RX8, TX8, 44, rfl, inT_8, by decide, lw_8_76⟩
theorem lw_8_79 : Cond.fieldLink RX8 79 "HorseFairModel" "saleDay" "[I" ∈ TB := tb_in 854 (by decide +kernel) rfl
theorem fl_8_79 : FLd RX8 79 8 40 := ⟨RX8, TX8, 44, rfl, inT_8, by decide, lw_8_79⟩
theorem lw_8_82 : Cond.fieldLink RX8 82 "HorseFairModel" "undone" "[Z" ∈ TB := tb_in 855 (by decide +kernel) rfl
theorem fl_8_82 : FLd RX8 82 8 41 := ⟨RX8, TX8, 44, rfl, inT_8, by decide, lw_8_82⟩
theorem lw_8_86 : Cond.fieldLink RX8 86 "HorseFairModel" "titled" "[Z" ∈ TB := tb_in 856 (by decide +kernel) rfl
theorem fl_8_86 : FLd RX8 86 8 42 := ⟨RX8, TX8, 44, rfl, inT_8, by decide, lw_8_86⟩
theorem lw_8_195 : Cond.fieldLink RX8 195 "HorseFairModel" "sales" "I" ∈ TB := tb_in 857 (by decide +kernel) rfl
theorem fl_8_195 : FLd RX8 195 8 43 := ⟨RX8, TX8, 44, rfl, inT_8, by decide, lw_8_195⟩
theorem fp_8_195 : FPd RX8 195 8 43 .int := ⟨RX8, TX8, 44, tyX8, rfl, inT_8, by decide, lw_8_195, tyX8_ok, nmX8, rfl, by decide +kernel⟩
