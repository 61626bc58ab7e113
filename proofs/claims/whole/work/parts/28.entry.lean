/-! SOUNDNESS: a method's entry -/
theorem nb_lay_args (E : nb_E) : ∀ (vs : List nb_V) (j0 j : Nat) (v : nb_V), (nb_lay vs)[j]? = some v → v.1 < 90 → (j0 + j, nb_val E v) ∈ lv_args j0 (vs.map (nb_val E))
  | [], j0, j, v, h, _ => by simp [nb_lay] at h
  | u :: vs, j0, j, v, h, hv => by
    rw [List.map_cons]
    unfold lv_args
    rw [nb_val_cat]
    unfold nb_lay at h
    by_cases hu : u.1 = 1
    · rw [if_pos hu] at h
      simp only [hu, if_true]
      match j, h with
      | 0, h =>
        cases h
        exact List.mem_cons_self
      | 1, h =>
        cases h
        exact absurd hv (by decide)
      | j + 2, h =>
        have := nb_lay_args E vs (j0 + 2) j v h hv
        rw [show j0 + (j + 2) = j0 + 2 + j by omega]
        exact List.mem_cons_of_mem _ this
    · rw [if_neg hu] at h
      simp only [hu, if_false]
      match j, h with
      | 0, h =>
        cases h
        exact List.mem_cons_self
      | j + 1, h =>
        have := nb_lay_args E vs (j0 + 1) j v h hv
        rw [show j0 + (j + 1) = j0 + 1 + j by omega]
        exact List.mem_cons_of_mem _ this
theorem nb_lay_len (E : nb_E) : ∀ vs : List nb_V, (lg_sl (vs.map (nb_val E))).length = (nb_lay vs).length
  | [] => rfl
  | u :: vs => by
    have ih := nb_lay_len E vs
    unfold lg_sl at ih ⊢
    have hl : nb_lay (u :: vs) = if u.1 = 1 then u :: (98, 0) :: nb_lay vs else u :: nb_lay vs := rfl
    rw [List.map_cons, List.flatMap_cons, List.length_append, ih, nb_val_cat, hl]
    by_cases hu : u.1 = 1
    · simp [hu]
      omega
    · simp [hu]
      omega
theorem nb_lay_ok {M : nb_M} : ∀ {vs : List nb_V}, (∀ v ∈ vs, nb_ok M v) → ∀ v ∈ nb_lay vs, nb_ok M v
  | [], _, v, h => by simp [nb_lay] at h
  | u :: vs, hv, v, h => by
    unfold nb_lay at h
    have ih := nb_lay_ok (vs := vs) (fun v hv' => hv v (List.mem_cons_of_mem _ hv'))
    split at h
    · rcases List.mem_cons.mp h with rfl | h
      · exact hv _ List.mem_cons_self
      · rcases List.mem_cons.mp h with rfl | h
        · exact nb_ok_0 M 98
        · exact ih v h
    · rcases List.mem_cons.mp h with rfl | h
      · exact hv _ List.mem_cons_self
      · exact ih v h
theorem nb_ent_len {vs : List nb_V} {n : Nat} (h : (nb_lay vs).length ≤ n) : (nb_ent vs n).length = n := by
  unfold nb_ent
  simp
  omega
theorem nb_LR_entry {E : nb_E} {M : nb_M} {vs : List nb_V} {n : Nat} (hfit : (nb_lay vs).length ≤ n) (hok : ∀ v ∈ vs, nb_ok M v) : nb_LR E M ((lg_sl (vs.map (nb_val E)) ++ List.replicate (n - (lg_sl (vs.map (nb_val E))).length) Slot.unset).toArray) (nb_ent vs n) := by
  have hh := lv_entry (vs.map (nb_val E)) (n := n) (by rw [nb_lay_len]; exact hfit)
  refine ⟨hh.1.trans (nb_ent_len hfit).symm, hh.2.1, fun j v hj hv => ?_, fun v hv => ?_⟩
  · unfold nb_ent at hj
    by_cases hl : j < (nb_lay vs).length
    · rw [List.getElem?_append_left hl] at hj
      have := nb_lay_args E vs 0 j v hj hv
      rw [Nat.zero_add] at this
      exact hh.2.2 _ this
    · rw [List.getElem?_append_right (by omega)] at hj
      have := List.eq_of_mem_replicate (List.mem_of_getElem? hj)
      rw [this] at hv
      exact absurd hv (by decide)
  · unfold nb_ent at hv
    rcases List.mem_append.mp hv with hv | hv
    · exact nb_lay_ok hok v hv
    · rw [List.eq_of_mem_replicate hv]
      exact nb_ok_0 M 98
/-- what is fixed of a method that runs -/
def nb_Cx (i : Nat) (X : nb_X) (p : Program) (s : State) (m : MethodId) (meth : Method) (c : Code) (E : nb_E) : Prop :=
  ∃ (y : MethodName) (cc : ByteArray) (rt : Option FieldType), nb_nams[i]? = some y ∧ nb_cods[i]? = some cc ∧ nb_rets[i]? = some rt ∧ p.tables.exec = Jvm.exec ∧ c.code = cc ∧ c.maxLocals = X.2.1 ∧ meth.sig.returnType = rt ∧ meth.locks = false ∧ s.vm.findClass (nb_onm X.1) = some m.cls ∧ nb_S E s ∧ (y.name = "<init>" → meth.name = "<init>")
/-- a run of n steps of fuel is the machine's -/
def nb_Sd (l : Launch) (n : Nat) : Prop := ∀ (i : Nat) (X : nb_X) (k : Nat) (B : nb_B) (L st : List nb_V) (M : nb_M) (r : List nb_V × nb_M), nb_P.2.2.2.2.1 i = some X → nb_P.2.2.2.1 i k = some B → L.length = X.2.1 → nb_run nb_P n i k L st M = some r →
  ∀ (p : Program) (e : Env) (R : Room) (s : State) (m : MethodId) (args : Array Value) (below : List Frame) (meth : Method) (c : Code) (E : nb_E) (z0 z1 : Nat), nb_Cx i X p s m meth c E → X.2.2.2.2 ≤ R.frames ∧ 100 * X.2.2.2.2 ≤ R.locals ∧ nb_cz r.2 - z0 ≤ R.cells ∧ nb_sz r.2 - z1 ≤ R.slots → z0 ≤ nb_cz M ∧ z1 ≤ nb_sz M →
  nb_Go p l e R s m args below meth c (MQ below (nb_Qc E r) args s (nb_cz r.2 - z0) (nb_sz r.2 - z1) (fun q => E.2.1 ≤ q)) E z0 z1 B.1 L st M
/-- a method's row of the program's table -/
def nb_MH (i : Nat) (X : nb_X) : Prop := ∃ (y : MethodName) (cc : ByteArray) (rt : Option FieldType) (B : nb_B), nb_nams[i]? = some y ∧ nb_cods[i]? = some cc ∧ nb_rets[i]? = some rt ∧ Cond.code y cc X.2.1 rt ∈ nb_Ts ∧ y.cls = nb_onm X.1 ∧ plainName y.cls = true ∧ nb_retok rt X.2.2.1 ∧ nb_P.2.2.2.1 i 0 = some B ∧ B.1 = 0 ∧ (y.cls ≠ "java/lang/invoke/MethodHandle" ∧ y.cls ≠ "java/lang/invoke/VarHandle") ∧ Cond.initialized y.cls ∈ nb_Ts ∧ X.2.1 ≤ 81
def nb_pre (E : nb_E) (M : nb_M) (vs : List nb_V) : Array Value → State → Prop := fun a U => a = (vs.map (nb_val E)).toArray ∧ nb_S E U ∧ nb_H E M U.heap
theorem nb_pre_blind (E : nb_E) (M : nb_M) (vs : List nb_V) : FrameBlind (nb_pre E M vs) := by
  intro a U g mk h
  exact ⟨h.1, nb_S.warm (State.WarmedH.refl U) h.2.1, h.2.2⟩
/-- a method's contract -/
theorem nb_met {l : Launch} {n : Nat} (hn : nb_Sd l n) {i : Nat} {X : nb_X} {vs : List nb_V} {M : nb_M} {r : List nb_V × nb_M} {E : nb_E} {y : MethodName} {cc : ByteArray} {rt : Option FieldType} (hX : nb_P.2.2.2.2.1 i = some X) (hM : nb_MH i X) (hy : nb_nams[i]? = some y) (hc : nb_cods[i]? = some cc) (hr : nb_rets[i]? = some rt) (hok : ∀ v ∈ vs, nb_ok M v) (h : nb_entr nb_P (nb_run nb_P n) i X vs M = some r) :
    Met l y [Cond.code y cc X.2.1 rt] { frames := X.2.2.2.2, cells := nb_cz r.2 - nb_cz M, slots := nb_sz r.2 - nb_sz M, locals := 100 * X.2.2.2.2 } (nb_pre E M vs) (nb_Qc E r) (nb_cz r.2 - nb_cz M) (nb_sz r.2 - nb_sz M) (fun q => E.2.1 ≤ q) := by
  obtain ⟨y', cc', rt', B, m1, m2, m3, m4, m5, m6, m7, m8, m9, m10, m11, m12⟩ := hM
  cases hy.symm.trans m1
  cases hc.symm.trans m2
  cases hr.symm.trans m3
  unfold nb_entr at h
  split at h
  · rename_i hfit
    refine Met.ofW (cc := cc) (maxL := X.2.1) (ret := rt) m6 rfl ?_
    intro p e s m args below meth c s₁ Bd hml hv
    obtain ⟨rfl, hS, hH⟩ := hv
    have hown : s.vm.findClass y.cls = some m.cls := findClass_of_methodNamed Bd.named
    rw [m5] at hown
    have hgo := hn i X 0 B (nb_ent vs X.2.1) [] M r hX m8 (nb_ent_len hfit) h p e { frames := X.2.2.2.2, cells := nb_cz r.2 - nb_cz M, slots := nb_sz r.2 - nb_sz M, locals := 100 * X.2.2.2.2 } s m (vs.map (nb_val E)).toArray below meth c E (nb_cz M) (nb_sz M) ⟨y, cc, rt, m1, m2, m3, Bd.exec, Bd.bytes, hml, Bd.returns, Bd.notSynchronized, hown, hS, fun q => by rw [(name_of_methodNamed Bd.named Bd.method).1]; exact q⟩ ⟨Nat.le_refl _, Nat.le_refl _, Nat.le_refl _, Nat.le_refl _⟩ ⟨Nat.le_refl _, Nat.le_refl _⟩ _ s.heap [] (nb_LR_entry hfit hok) (fun v hv => by cases hv) hH (fun q hq => by cases hq)
    rw [lg_entry_eq]
    rw [m9, Nat.sub_self, Nat.sub_self] at hgo
    exact hgo
  · cases h
