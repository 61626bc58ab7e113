/-! the rows of methods 0 to 53 -/
set_option maxRecDepth 100000 in
theorem nb_k0 : (List.range' 0 54).all nb_mchk = true := by decide +kernel
/-! the rows of methods 54 to 98 -/
set_option maxRecDepth 100000 in
theorem nb_k1 : (List.range' 54 45).all nb_mchk = true := by decide +kernel
/-! the rows of methods 99 to 129 -/
set_option maxRecDepth 100000 in
theorem nb_k2 : (List.range' 99 31).all nb_mchk = true := by decide +kernel
/-! the rows of methods 130 to 162 -/
set_option maxRecDepth 100000 in
theorem nb_k3 : (List.range' 130 33).all nb_mchk = true := by decide +kernel
/-! the rows of methods 163 to 189 -/
set_option maxRecDepth 100000 in
theorem nb_k4 : (List.range' 163 27).all nb_mchk = true := by decide +kernel
