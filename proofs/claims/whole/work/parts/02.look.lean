theorem tb_len : lw_tbl.length = 1 := by decide +kernel
theorem tb_good : lw_tbl.all goodWord = true := by decide +kernel
theorem tb_mem : Cond.fieldLink "UphillOnly" 55 "UphillOnly$Script" "length" "I" ∈ lw_tbl := by decide +kernel
