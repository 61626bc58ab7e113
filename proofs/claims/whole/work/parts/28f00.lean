/-! the rows of methods 0 to 50 -/
set_option maxRecDepth 100000 in
theorem nb_k0 : (List.range' 0 51).all nb_mchk = true := by decide +kernel
