/-! the pure part: what holds of both sides between two steps -/
def bd (x : Int32) (m : Nat) : Prop := ∃ j : Nat, j ≤ m ∧ x = nI j
theorem bd_in {x : Int32} {m N : Nat} (h : bd x m) (hm : m < N) (hN : N < 2 ^ 31) : vp_in x N := by
  obtain ⟨j, hj, rfl⟩ := h
  exact vp_in_nI (by omega) hN
theorem bd_n {j m : Nat} (h : j ≤ m) : bd (nI j) m := ⟨j, h, rfl⟩
theorem bd_0 {m : Nat} : bd 0 m := ⟨0, Nat.zero_le m, rfl⟩
theorem bd_upd {f : Nat → Int32} {m k : Nat} {y : Int32} (h : ∀ i, bd (f i) m) (hy : bd y m) : ∀ i, bd (upd f k y i) m := by
  intro i
  unfold upd
  split
  · exact hy
  · exact h i
def sm (p : Nat → Nat) : Nat → Nat
  | 0 => 0
  | n + 1 => sm p n + p n
def nu (p : Nat → Nat) (k y : Nat) : Nat → Nat := fun j => if j = k then y else p j
theorem nu_s {p : Nat → Nat} {k y : Nat} : nu p k y k = y := if_pos rfl
theorem nu_n {p : Nat → Nat} {k y j : Nat} (h : j ≠ k) : nu p k y j = p j := if_neg h
theorem sm_out {p : Nat → Nat} {k y : Nat} : ∀ n, n ≤ k → sm (nu p k y) n = sm p n
  | 0, _ => rfl
  | n + 1, h => by
    have h1 := sm_out (p := p) (k := k) (y := y) n (by omega)
    simp only [sm, h1, nu_n (show n ≠ k by omega)]
theorem sm_nu {p : Nat → Nat} {k y : Nat} : ∀ n, k < n → sm (nu p k y) n + p k = sm p n + y
  | 0, h => absurd h (Nat.not_lt_zero k)
  | n + 1, h => by
    by_cases hk : n = k
    · subst hk
      simp only [sm, sm_out n (Nat.le_refl n), nu_s]
      omega
    · have h1 := sm_nu (p := p) (k := k) (y := y) n (by omega)
      simp only [sm, nu_n hk]
      omega
theorem sm_ge {p : Nat → Nat} {k : Nat} : ∀ n, k < n → p k ≤ sm p n
  | 0, h => absurd h (Nat.not_lt_zero k)
  | n + 1, h => by
    by_cases hk : n = k
    · subst hk
      simp only [sm]; omega
    · have h1 := sm_ge (p := p) (k := k) n (by omega)
      simp only [sm]; omega
theorem sm_le {p : Nat → Nat} {c : Nat} (h : ∀ i, p i ≤ c) : ∀ n, sm p n ≤ n * c
  | 0 => by simp [sm]
  | n + 1 => by
    have h1 := sm_le h n
    have h2 := h n
    simp only [sm, Nat.add_mul]; omega
theorem upd_nI {p : Nat → Nat} {k y : Nat} : upd (fun i => nI (p i)) k (nI y) = fun i => nI (nu p k y i) := by
  funext j
  unfold upd nu
  split <;> rfl
theorem upd_0 {f : Nat → Int32} {k : Nat} : upd f k (f k) = f := by
  funext j
  unfold upd
  split
  · rename_i h; rw [h]
  · rfl
/-- x names one of the q people (or 0 while there is none) -/
def pp (y x : Int32) : Prop := ∃ q j : Nat, y = nI q ∧ q ≤ 16 ∧ j ≤ q - 1 ∧ x = nI j
theorem pp_bd {y x : Int32} (h : pp y x) : bd x 15 := by
  obtain ⟨q, j, _, hq, hj, e⟩ := h
  exact ⟨j, by omega, e⟩
theorem pp_q {q : Nat} {x : Int32} (h : pp (nI q) x) (hq : q ≤ 16) : ∃ j, j ≤ q - 1 ∧ j < 16 ∧ x = nI j := by
  obtain ⟨q', j, e, hq', hj, ex⟩ := h
  have := (nI_eq (by omega) (by omega)).1 e
  subst this
  exact ⟨j, hj, by omega, ex⟩
theorem pp_n {q j : Nat} (hq : q ≤ 16) (hj : j ≤ q - 1) : pp (nI q) (nI j) := ⟨q, j, rfl, hq, hj, rfl⟩
theorem pp_s {q : Nat} {x : Int32} (h : pp (nI q) x) (hq : q + 1 ≤ 16) : pp (nI (q + 1)) x := by
  obtain ⟨j, hj, _, rfl⟩ := pp_q h (by omega)
  exact pp_n hq (by omega)
theorem pp_upd {f : Nat → Int32} {k : Nat} {y z : Int32} (h : ∀ i, pp z (f i)) (hy : pp z y) : ∀ i, pp z (upd f k y i) := by
  intro i
  unfold upd
  split
  · exact hy
  · exact h i
theorem pp_0 : pp 0 0 := ⟨0, 0, rfl, by omega, by omega, rfl⟩
def EQ (FX : FT) (GX : GT) (FM : FT) (GM : GT) : Prop :=
  (∀ k, k < 9 → FM k = FX k) ∧ (∀ k, 10 ≤ k → k < 32 → k ≠ 18 → GM k = GX k) ∧ (∀ i, i < 320 → GM 50 i = GX 40 i &&& 255) ∧ (∀ l k, l < 3 → k < 14 → GM 51 (14 * l + k) = GX (l + 300) k) ∧ (∀ h f, h < 40 → f < 6 → GM 52 (6 * h + f) = GX (h + 100) f) ∧ (∀ h f, h < 40 → f < 6 → GM 53 (6 * h + f) = GX (h + 200) f) ∧ (∀ h, h < 40 → GX 16 h ≠ GX 17 h → GM 18 h = GX 18 h)
/-- the money: pence p, left lf, came c, undone u, debts d, oldest o, people q -/
def Mon (F : FT) (G : GT) : Prop :=
  ∃ (p lf u : Nat → Nat) (c d o q : Nat), G 11 = (fun i => nI (p i)) ∧ G 15 = (fun i => nI (lf i)) ∧ G 30 = (fun i => nI (u i)) ∧ F 4 = nI c ∧ F 5 = nI d ∧ F 17 = nI o ∧ F 3 = nI q ∧ sm p 16 ≤ c ∧ c ≤ 1000000000 ∧ (∀ i, q ≤ i → p i = 0) ∧ q ≤ 16 ∧ (∀ i, lf i ≤ 100000) ∧ (∀ i, u i ≤ 1) ∧ d ≤ sm u 80 ∧ d ≤ 80 ∧ o ≤ d ∧ (∀ i, i < o → lf i = 0) ∧ (∀ i, d ≤ i → lf i = 0)
/-- every hand is one of a horse that is there -/
def Hnd (F : FT) (G : GT) : Prop := ∃ n6 n7 : Nat, F 6 = nI n6 ∧ F 7 = nI n7 ∧ n6 ≤ 40 ∧ n7 ≤ 400 ∧ ∀ i, i < n7 → ∃ j, j < n6 ∧ G 19 i = nI j
def Bds (F : FT) (G : GT) : Prop :=
  bd (F 0) 999 ∧ bd (F 2) 320 ∧ bd (F 6) 40 ∧ bd (F 7) 400 ∧ bd (F 8) 80 ∧ (∀ i, pp (F 3) (G 12 i)) ∧ (∀ i, pp (F 3) (G 13 i)) ∧ (∀ i, pp (F 3) (G 16 i)) ∧ (∀ i, pp (F 3) (G 17 i)) ∧ (∀ i, pp (F 3) (G 24 i)) ∧ (∀ i, pp (F 3) (G 25 i)) ∧ (∀ i, bd (G 26 i) 100000) ∧ (∀ i, bd (G 28 i) 2) ∧ (∀ i, bd (G 18 i) 80) ∧ (∀ l k, l < 3 → bd (G (l + 300) k) 999) ∧ Hnd F G
def Inv : IT := fun FX GX FM GM _ => EQ FX GX FM GM ∧ Mon FX GX ∧ Bds FX GX
theorem EQ.F {FX : FT} {GX : GT} {FM : FT} {GM : GT} (h : EQ FX GX FM GM) : FM 0 = FX 0 ∧ FM 1 = FX 1 ∧ FM 2 = FX 2 ∧ FM 3 = FX 3 ∧ FM 4 = FX 4 ∧ FM 5 = FX 5 ∧ FM 6 = FX 6 ∧ FM 7 = FX 7 ∧ FM 8 = FX 8 :=
  ⟨h.1 0 (by omega), h.1 1 (by omega), h.1 2 (by omega), h.1 3 (by omega), h.1 4 (by omega), h.1 5 (by omega), h.1 6 (by omega), h.1 7 (by omega), h.1 8 (by omega)⟩
theorem EQ.g {FX : FT} {GX : GT} {FM : FT} {GM : GT} (h : EQ FX GX FM GM) (k : Nat) (h1 : 10 ≤ k) (h2 : k < 32) (h3 : k ≠ 18) : GM k = GX k := h.2.1 k h1 h2 h3
theorem EQ.G {FX : FT} {GX : GT} {FM : FT} {GM : GT} (h : EQ FX GX FM GM) : GM 10 = GX 10 ∧ GM 11 = GX 11 ∧ GM 12 = GX 12 ∧ GM 13 = GX 13 ∧ GM 14 = GX 14 ∧ GM 15 = GX 15 ∧ GM 16 = GX 16 ∧ GM 17 = GX 17 ∧ GM 19 = GX 19 ∧ GM 20 = GX 20 ∧ GM 21 = GX 21 ∧ GM 22 = GX 22 ∧ GM 23 = GX 23 ∧ GM 24 = GX 24 ∧ GM 25 = GX 25 ∧ GM 26 = GX 26 ∧ GM 27 = GX 27 ∧ GM 28 = GX 28 ∧ GM 29 = GX 29 ∧ GM 30 = GX 30 ∧ GM 31 = GX 31 := by
  refine ⟨h.g 10 ?_ ?_ ?_, h.g 11 ?_ ?_ ?_, h.g 12 ?_ ?_ ?_, h.g 13 ?_ ?_ ?_, h.g 14 ?_ ?_ ?_, h.g 15 ?_ ?_ ?_, h.g 16 ?_ ?_ ?_, h.g 17 ?_ ?_ ?_, h.g 19 ?_ ?_ ?_, h.g 20 ?_ ?_ ?_, h.g 21 ?_ ?_ ?_, h.g 22 ?_ ?_ ?_, h.g 23 ?_ ?_ ?_, h.g 24 ?_ ?_ ?_, h.g 25 ?_ ?_ ?_, h.g 26 ?_ ?_ ?_, h.g 27 ?_ ?_ ?_, h.g 28 ?_ ?_ ?_, h.g 29 ?_ ?_ ?_, h.g 30 ?_ ?_ ?_, h.g 31 ?_ ?_ ?_⟩ <;> decide
theorem EQ.m {FX : FT} {GX : GT} {FM FM' : FT} {GM : GT} (h : EQ FX GX FM GM) (hk : ∀ k, k < 9 → FM' k = FM k) : EQ FX GX FM' GM := ⟨fun k hk' => (hk k hk').trans (h.1 k hk'), h.2⟩
theorem EQ.t {FX : FT} {GX : GT} {FM : FT} {GM : GT} {z : Int32} (h : EQ FX GX FM GM) : EQ FX GX (sU FM 20 z) GM := h.m (fun k hk => sU_ne _ _ (by omega))
theorem Inv.t {FX : FT} {GX : GT} {FM : FT} {GM : GT} {w : Int64} {z : Int32} (h : Inv FX GX FM GM w) : Inv FX GX (sU FM 20 z) GM w := ⟨h.1.t, h.2⟩
set_option maxRecDepth 100000 in
theorem inv_0 : Inv F00 G00 F0M G00 0 := by
  refine ⟨⟨fun k hk => ?_, fun _ _ _ _ => rfl, fun _ _ => (by decide : (0 : Int32) = 0 &&& 255), fun _ _ _ _ => rfl, fun _ _ _ _ => rfl, fun _ _ _ _ => rfl, fun _ _ _ => rfl⟩, ⟨fun _ => 0, fun _ => 0, fun _ => 0, 0, 0, 0, 0, rfl, rfl, rfl, rfl, rfl, rfl, rfl, by decide, by decide, fun _ _ => rfl, by decide, fun _ => Nat.zero_le _, fun _ => Nat.zero_le _, by decide, by decide, by decide, fun _ _ => rfl, fun _ _ => rfl⟩, ?_⟩
  · show (0 : Int32) = sU (fun _ => 0) 13 1 k
    rw [sU_ne _ _ (by omega)]
  · exact ⟨bd_0, bd_0, bd_0, bd_0, bd_0, fun _ => pp_0, fun _ => pp_0, fun _ => pp_0, fun _ => pp_0, fun _ => pp_0, fun _ => pp_0, fun _ => bd_0, fun _ => bd_0, fun _ => bd_0, fun _ _ _ => bd_0, ⟨0, 0, rfl, rfl, by omega, by omega, fun i hi => absurd hi (Nat.not_lt_zero i)⟩⟩
