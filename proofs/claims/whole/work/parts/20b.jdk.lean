/-! what is known of the JDK's own objects: the texts, two statics -/
def nb_Jt (E : nb_E) (U : State) (k : Nat) : Prop := ∃ adV : Nat, va_O "java/lang/String" (E.2.2.2.2.2 k) (fun q => E.2.1 ≤ q) U E.2.2.1 ∧ va_OF "java/lang/String" "coder" "B" (.int 0) (E.2.2.2.2.2 k) (fun q => E.2.1 ≤ q) U E.2.2.1 ∧ va_OF "java/lang/String" "value" "[B" (.ref adV) (E.2.2.2.2.2 k) (fun q => E.2.1 ≤ q) U E.2.2.1 ∧ va_T .byte adV (nb_txts.getD k []).length (fun j => .int (Int32.ofInt ((nb_txts.getD k []).getD j 0))) (fun q => E.2.1 ≤ q) U E.2.2.1
def nb_J (E : nb_E) (U : State) : Prop := (∀ k, 1 ≤ k → k < nb_txts.length → nb_Jt E U k) ∧ va_Z "java/lang/String" "COMPACT_STRINGS" "Z" (.int 1) (fun q => E.2.1 ≤ q) U E.2.2.1 ∧ va_Zq "jdk/internal/util/Preconditions" "SIOOBE_FORMATTER" "Ljava/util/function/BiFunction;" (fun q => E.2.1 ≤ q) U E.2.2.1
theorem nb_J.warm {E : nb_E} {s U : State} (hW : s.WarmedH U.vm) (h : nb_J E s) : nb_J E U := by
  refine ⟨fun k h1 h2 => ?_, va_Z.moved hW.alike h.2.1, va_Zq.moved hW.alike h.2.2⟩
  obtain ⟨adV, j1, j2, j3, j4⟩ := h.1 k h1 h2
  exact ⟨adV, va_O.moved hW.alike j1, va_OF.moved hW.alike j2, va_OF.moved hW.alike j3, va_T.moved hW.alike j4⟩
