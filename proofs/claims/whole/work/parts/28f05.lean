/-! the rows of methods 184 to 208 -/
set_option maxRecDepth 100000 in
theorem nb_k5 : (List.range' 184 25).all nb_mchk = true := by decide +kernel
