/-! the rows of methods 294 to 295 -/
set_option maxRecDepth 100000 in
theorem nb_k10 : (List.range' 294 2).all nb_mchk = true := by decide +kernel
