/-! the rows of methods 190 to 221 -/
set_option maxRecDepth 100000 in
theorem nb_k5 : (List.range' 190 32).all nb_mchk = true := by decide +kernel
/-! the rows of methods 222 to 255 -/
set_option maxRecDepth 100000 in
theorem nb_k6 : (List.range' 222 34).all nb_mchk = true := by decide +kernel
/-! the rows of methods 256 to 292 -/
set_option maxRecDepth 100000 in
theorem nb_k7 : (List.range' 256 37).all nb_mchk = true := by decide +kernel
/-! the rows of methods 293 to 298 -/
set_option maxRecDepth 100000 in
theorem nb_k8 : (List.range' 293 6).all nb_mchk = true := by decide +kernel
