theorem ks_142 : Cond.fieldLink RX8 142 RX8 "TOLL_WORD" "J" ∈ TB := tb_in 971 (by decide +kernel) rfl
theorem ks_149 : Cond.fieldLink RX8 149 RX8 "OPEN_WORD" "J" ∈ TB := tb_in 977 (by decide +kernel) rfl
theorem ks_152 : Cond.fieldLink RX8 152 RX8 "DAYS_WORD" "J" ∈ TB := tb_in 979 (by decide +kernel) rfl
theorem ks_155 : Cond.fieldLink RX8 155 RX8 "WARRANT_WORD" "J" ∈ TB := tb_in 981 (by decide +kernel) rfl
def sC (k j : Nat) : Int32 := (sByt.getD k []).getD j 0

