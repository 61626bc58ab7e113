/-! the rows of methods 96 to 122 -/
set_option maxRecDepth 100000 in
theorem nb_k2 : (List.range' 96 27).all nb_mchk = true := by decide +kernel
