/-! the rows of methods 277 to 292 -/
set_option maxRecDepth 100000 in
theorem nb_k8 : (List.range' 277 16).all nb_mchk = true := by decide +kernel
