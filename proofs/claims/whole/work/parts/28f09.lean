/-! the rows of methods 293 to 293 -/
set_option maxRecDepth 100000 in
theorem nb_k9 : (List.range' 293 1).all nb_mchk = true := by decide +kernel
