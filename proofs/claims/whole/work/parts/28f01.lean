/-! the rows of methods 51 to 95 -/
set_option maxRecDepth 100000 in
theorem nb_k1 : (List.range' 51 45).all nb_mchk = true := by decide +kernel
