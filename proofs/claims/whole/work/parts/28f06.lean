/-! the rows of methods 209 to 239 -/
set_option maxRecDepth 100000 in
theorem nb_k6 : (List.range' 209 31).all nb_mchk = true := by decide +kernel
