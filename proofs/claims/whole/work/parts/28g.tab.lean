/-! THE TABLES ARE RIGHT: the whole -/
theorem nb_kall : (List.range' 0 296).all nb_mchk = true := by
  have e : List.range' 0 296 = List.range' 0 51 ++ List.range' 51 45 ++ List.range' 96 27 ++ List.range' 123 26 ++ List.range' 149 35 ++ List.range' 184 25 ++ List.range' 209 31 ++ List.range' 240 37 ++ List.range' 277 16 ++ List.range' 293 1 ++ List.range' 294 2 := by decide +kernel
  rw [e]
  simp only [List.all_append, nb_k0, nb_k1, nb_k2, nb_k3, nb_k4, nb_k5, nb_k6, nb_k7, nb_k8, nb_k9, nb_k10, Bool.and_self]
theorem nb_mths_len : nb_mths.length = 296 := by decide +kernel
theorem nb_mh_all (cl : Nat) (X : nb_X) (hX : nb_mths[cl]? = some X) (h : cl ≠ 293) : nb_MH cl X := by
  have hi : cl < 296 := nb_mths_len ▸ (List.getElem?_eq_some_iff.mp hX).1
  have hm : nb_mhB cl = true := nb_mhl cl (by omega) h
  exact nb_mhB_ok hX (nb_cwl cl (by omega) h) hm
theorem nb_ckB_ok {own lv cl j : Nat} {last : Instr} (h : nb_ckB own lv last cl j = true) : nb_CK own lv last cl := by
  unfold nb_ckB at h
  unfold nb_CK
  show (match nb_mths[cl]? with | some X => _ | none => _ : Prop)
  split at h
  · rename_i X hX
    rw [hX]
    dsimp only
    split at h
    · rename_i y hy
      simp only [Bool.and_eq_true] at h
      obtain ⟨h1, h2, h3⟩ := h
      have h1 := of_decide_eq_true h1
      have h2 := of_decide_eq_true h2
      have hM := nb_mh_all cl X hX h1
      split at h3
      · simp only [Bool.and_eq_true, decide_eq_true_eq] at h3
        obtain ⟨g1, g2, g3, g4, g5, g6⟩ := h3
        exact Or.inl ⟨_, rfl, hM, h2, y, hy, g1, g2, g3, nb_in_Ts g4, nb_in_Ts g5, nb_in_Ts g6⟩
      · simp only [Bool.and_eq_true, decide_eq_true_eq] at h3
        obtain ⟨g1, g2, g3, g4, g5, g6, g7⟩ := h3
        refine Or.inr (Or.inl ⟨_, rfl, hM, h2, y, hy, g1, g2, g3, nb_in_Ts g4, g5, g6, ?_⟩)
        rcases (Bool.or_eq_true _ _ ▸ g7 : _ ∨ _) with g | g
        · exact Or.inl (nb_in_Ts g)
        · exact Or.inr ⟨_, nb_wat_mem g⟩
      · simp only [Bool.and_eq_true, decide_eq_true_eq] at h3
        obtain ⟨g1, g2, g3⟩ := h3
        exact Or.inr (Or.inr ⟨_, rfl, hM, h2, y, hy, g1, nb_in_Ts g2, nb_in_Ts g3⟩)
      · cases h3
    · cases h
  · rename_i hX
    rw [hX]
    dsimp only
    split at h
    · simp only [Bool.and_eq_true, decide_eq_true_eq] at h
      exact ⟨_, rfl, nb_in_Ts h.1, h.2⟩
    · simp only [Bool.and_eq_true, decide_eq_true_eq] at h
      exact ⟨_, rfl, nb_in_Ts h.1, h.2⟩
    · simp only [Bool.and_eq_true, decide_eq_true_eq] at h
      exact ⟨_, rfl, nb_in_Ts h.1, h.2⟩
    · simp only [Bool.and_eq_true, decide_eq_true_eq] at h
      exact ⟨_, rfl, nb_in_Ts h.1, h.2⟩
    · simp only [Bool.and_eq_true, decide_eq_true_eq] at h
      exact ⟨_, h.1, rfl, h.2.1, h.2.2⟩
    · simp only [Bool.and_eq_true, decide_eq_true_eq] at h
      exact ⟨_, rfl, nb_in_Ts h.1, h.2⟩
    · simp only [Bool.and_eq_true, decide_eq_true_eq] at h
      exact ⟨_, rfl, nb_in_Ts h.1, h.2⟩
    · simp only [Bool.and_eq_true, decide_eq_true_eq] at h
      exact ⟨_, rfl, nb_in_Ts h.1, h.2⟩
    · trivial
    · cases h
theorem nb_tab : nb_TAB ∧ ∀ (i : Nat) (X : nb_X), nb_P.2.2.2.2.1 i = some X → X.1 < 14 := by
  have key : ∀ (i : Nat) (X : nb_X), nb_P.2.2.2.2.1 i = some X → X.1 < 14 ∧ ∃ (cc : ByteArray) (rt : Option FieldType), nb_cods[i]? = some cc ∧ nb_rets[i]? = some rt ∧ nb_retok rt X.2.2.1 ∧ ∀ (k : Nat) (B : nb_B), nb_P.2.2.2.1 i k = some B → nb_BK i X cc B := by
    intro i X hX
    have hX' : nb_mths[i]? = some X := hX
    have hi : i < 296 := nb_mths_len ▸ (List.getElem?_eq_some_iff.mp hX').1
    have hm : nb_mchk i = true := List.all_eq_true.mp nb_kall i (by simp [List.mem_range']; omega)
    unfold nb_mchk at hm
    rw [hX'] at hm
    split at hm
    · rename_i X1 cc rt bs js e1 e2 e3 e4 e5
      cases e1
      simp only [Bool.and_eq_true, decide_eq_true_eq] at hm
      obtain ⟨m1, m2, m3⟩ := hm
      rw [nb_frc_eq] at m3
      refine ⟨m2, cc, rt, e2, e3, nb_roB_ok m1, fun k B hB => ?_⟩
      have hB' : bs[k]? = some B := by
        have : (nb_blks[i]?).bind (fun l => l[k]?) = some B := hB
        rw [e4] at this
        exact this
      obtain ⟨j, g1, g2, g3⟩ := nb_mF_ok e4 bs js 0 _ rfl m3 B (List.mem_of_getElem? hB')
      exact ⟨g1, g2, fun q => nb_ckB_ok (g3 q)⟩
    · cases hm
  exact ⟨fun i X hX => ⟨nb_tok_all _ (key i X hX).1, (key i X hX).2⟩, fun i X hX => (key i X hX).1⟩
