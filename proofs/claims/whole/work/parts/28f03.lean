/-! the rows of methods 123 to 148 -/
set_option maxRecDepth 100000 in
theorem nb_k3 : (List.range' 123 26).all nb_mchk = true := by decide +kernel
