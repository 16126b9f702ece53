theorem l_mul (a b : Nat) : lN a * lN b = lN (a * b) := (Int64.ofNat_mul a b).symm
theorem l_i (n : Nat) : (lN n).toInt32 = nI n := by
  show (Int64.ofNat n).toInt32 = Int32.ofNat n
  simp
theorem toll {P N : Nat} (hP : P ≤ 100000) (hN : N ≤ 999) : (nI P * nI N) / 1000 = nI (P * N / 1000) ∧ (((nI P).toInt64 * (nI N).toInt64) / 1000).toInt32 = nI (P * N / 1000) ∧ P * N / 1000 ≤ P := by
  have h1 : P * N ≤ 100000 * 999 := Nat.mul_le_mul hP hN
  have h2 : P * N ≤ P * 999 := Nat.mul_le_mul_left P hN
  refine ⟨?_, ?_, by omega⟩
  · rw [pk_mul, show (1000 : Int32) = nI 1000 from rfl, pk_div (by omega) (by omega) (by omega)]
  · rw [nI_l (by omega), nI_l (by omega), l_mul, show (1000 : Int64) = lN 1000 from rfl, pk_lDiv (by omega) (by omega) (by omega), l_i]
