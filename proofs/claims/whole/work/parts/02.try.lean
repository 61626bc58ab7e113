theorem zz_try : (1:Nat)+1 = 2 := by
  have h := @W.getf
  trace_state
  rfl
theorem zz_try2 : (1 : Nat) + 2 = 3 := by
  have h := @W.callV
  trace_state
  rfl
