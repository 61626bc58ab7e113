/-! the rows of methods 240 to 276 -/
set_option maxRecDepth 100000 in
theorem nb_k7 : (List.range' 240 37).all nb_mchk = true := by decide +kernel
