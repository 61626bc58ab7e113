/-! the rows of methods 149 to 183 -/
set_option maxRecDepth 100000 in
theorem nb_k4 : (List.range' 149 35).all nb_mchk = true := by decide +kernel
