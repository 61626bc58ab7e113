/-! what is known of the JDK's own objects: the texts, two statics -/
def nb_Jt (E : nb_E) (U : State) (k : Nat) : Prop := ∃ adV : Nat, va_O "java/lang/String" (E.2.2.2.2.2 k) (fun q => E.2.1 ≤ q) U E.2.2.1 ∧ va_OF "java/lang/String" "coder" "B" (.int 0) (E.2.2.2.2.2 k) (fun q => E.2.1 ≤ q) U E.2.2.1 ∧ va_OF "java/lang/String" "value" "[B" (.ref adV) (E.2.2.2.2.2 k) (fun q => E.2.1 ≤ q) U E.2.2.1 ∧ va_T .byte adV (nb_txts.getD k []).length (fun j => .int (Int32.ofInt ((nb_txts.getD k []).getD j 0))) (fun q => E.2.1 ≤ q) U E.2.2.1
def nb_J (E : nb_E) (U : State) : Prop := (∀ k, 1 ≤ k → k < nb_txts.length → nb_Jt E U k) ∧ va_Z "java/lang/String" "COMPACT_STRINGS" "Z" (.int 1) (fun q => E.2.1 ≤ q) U E.2.2.1 ∧ va_Zq "jdk/internal/util/Preconditions" "SIOOBE_FORMATTER" "Ljava/util/function/BiFunction;" (fun q => E.2.1 ≤ q) U E.2.2.1 ∧ vx_Zq Bundle.tN "UNASSIGNED_STACK" Bundle.steD (fun q => E.2.1 ≤ q) U E.2.2.1 ∧ vx_Zq Bundle.tN "SUPPRESSED_SENTINEL" Bundle.listD (fun q => E.2.1 ≤ q) U E.2.2.1
theorem nb_J.warm {E : nb_E} {s U : State} (hW : s.WarmedH U.vm) (h : nb_J E s) : nb_J E U := by
  refine ⟨fun k h1 h2 => ?_, va_Z.moved hW.alike h.2.1, va_Zq.moved hW.alike h.2.2.1, vx_Zq.moved hW.alike h.2.2.2.1, vx_Zq.moved hW.alike h.2.2.2.2⟩
  obtain ⟨adV, j1, j2, j3, j4⟩ := h.1 k h1 h2
  exact ⟨adV, va_O.moved hW.alike j1, va_OF.moved hW.alike j2, va_OF.moved hW.alike j3, va_T.moved hW.alike j4⟩
theorem nb_over_spec {args : Array Value} {first s : State} {o : Option Outcome} {idx : List Nat} {ty : FieldType} (h : (Cond.arrayOver (.array ty)).holds args first o s idx = true) :
    ∃ comp c k, s.vm.findClass (FieldType.array ty).toString = some comp ∧ (s.vm.classes.findIdx? fun x => match x.kind with | .array component _ => component == comp | _ => false) = some c ∧ s.vm.classes[c]? = some k ∧ k.kind = .array comp (.array ty) ∧
      s.vm.findClass ("[" ++ (FieldType.array ty).toString) = some c := by
  simp only [Cond.holds, Cond.value, beq_iff_eq] at h
  cases hc : s.vm.findClass (FieldType.array ty).toString with
  | none => simp [hc] at h
  | some comp =>
    simp only [hc, Option.bind_some, Option.bind_eq_some_iff, Option.map_eq_some_iff] at h
    obtain ⟨c, hi, k, hk, hb⟩ := h
    obtain ⟨hlt, hp, -⟩ := Array.findIdx?_eq_some_iff_getElem.mp hi
    have hkk : s.vm.classes[c] = k := (Array.getElem?_eq_some_iff.mp hk).2
    rw [hkk] at hp
    cases hkind : k.kind with
    | array component ty =>
      rw [hkind] at hb hp
      simp at hb hp
      exact ⟨comp, c, k, rfl, hi, hk, by rw [hkind, hp, hb.1], hb.2⟩
    | _ => rw [hkind] at hb; simp at hb
theorem nb_over_alike {args args' : Array Value} {s first U first' : State} {o o' : Option Outcome} {idx idx' : List Nat} {ty : FieldType} (hal : s.vm.Alike U.vm)
    (h : (Cond.arrayOver (.array ty)).holds args first o s idx = true) : (Cond.arrayOver (.array ty)).holds args' first' o' U idx' = true := by
  obtain ⟨comp, c, k, hcomp, hidx, hk, hkind, hname⟩ := nb_over_spec h
  obtain ⟨k', hk', hek'⟩ := hal.2.2 _ _ hk
  have hkind' : k'.kind = .array comp (.array ty) := by rw [hek']; exact hkind
  have hname' : U.vm.findClass ("[" ++ (FieldType.array ty).toString) = some c := by rw [hal.findClass]; exact hname
  have hcomp' : U.vm.findClass (FieldType.array ty).toString = some comp := by rw [hal.findClass]; exact hcomp
  simp only [Cond.holds, Cond.value, hcomp', Option.bind_some, beq_iff_eq]
  rw [Option.bind_eq_some_iff]
  refine ⟨c, (hal.findIdx?_eqK _ (fun _ => rfl)).trans hidx, ?_⟩
  simp [hk', hkind', hname']
