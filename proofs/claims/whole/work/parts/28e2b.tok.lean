/-! THE TABLES ARE RIGHT: fields, constants, classes -/
theorem nb_uws {i : Nat} {q : vw_C} (h : vwCl[i]? = some q) : ∀ w ∈ u_ws q.1 q.2.1 q.2.2, w ∈ nb_Ts := by
  have hi : i < 10 := (List.getElem?_eq_some_iff.mp h).1
  intro w hw
  match i, hi, h with
  | 0, _, h => cases h; obtain ⟨j, hj⟩ := nb_all2_mem nb_uw0 w hw; exact nb_in_Ts hj
  | 1, _, h => cases h; obtain ⟨j, hj⟩ := nb_all2_mem nb_uw1 w hw; exact nb_in_Ts hj
  | 2, _, h => cases h; obtain ⟨j, hj⟩ := nb_all2_mem nb_uw2 w hw; exact nb_in_Ts hj
  | 3, _, h => cases h; obtain ⟨j, hj⟩ := nb_all2_mem nb_uw3 w hw; exact nb_in_Ts hj
  | 4, _, h => cases h; obtain ⟨j, hj⟩ := nb_all2_mem nb_uw4 w hw; exact nb_in_Ts hj
  | 5, _, h => cases h; obtain ⟨j, hj⟩ := nb_all2_mem nb_uw5 w hw; exact nb_in_Ts hj
  | 6, _, h => cases h; obtain ⟨j, hj⟩ := nb_all2_mem nb_uw6 w hw; exact nb_in_Ts hj
  | 7, _, h => cases h; obtain ⟨j, hj⟩ := nb_all2_mem nb_uw7 w hw; exact nb_in_Ts hj
  | 8, _, h => cases h; obtain ⟨j, hj⟩ := nb_all2_mem nb_uw8 w hw; exact nb_in_Ts hj
  | 9, _, h => cases h; obtain ⟨j, hj⟩ := nb_all2_mem nb_uw9 w hw; exact nb_in_Ts hj
theorem nb_lookup_mem {α : Type} : ∀ {l : List (Nat × α)} {n : Nat} {v : α}, l.lookup n = some v → (n, v) ∈ l
  | [], _, _, h => by simp at h
  | (m, u) :: l, n, v, h => by
    rw [List.lookup_cons] at h
    split at h
    · rename_i e
      have : n = m := by simpa using e
      cases h
      subst this
      exact List.mem_cons_self
    · exact List.mem_cons_of_mem _ (nb_lookup_mem h)
theorem nb_fB_ok {own : Nat} {q : Nat × nb_F} {j : Nat} (h : nb_fB own q j = true) : nb_FOK own q.1 q.2 := by
  unfold nb_fB at h
  split at h
  · rename_i C T N hcl
    simp only [Bool.and_eq_true, decide_eq_true_eq] at h
    obtain ⟨h1, h2, h3, h4⟩ := h
    split at h4
    · rename_i ty hty
      exact ⟨C, T, N, ty, hcl, h1, h2, nb_in_Ts h3, nb_uws hcl, hty, nb_tyB_ok h4⟩
    · cases h4
  · cases h
theorem nb_cB_ok {own : Nat} {q : Nat × nb_V} {j : Nat} (h : nb_cB own q j = true) : nb_COK own q.1 q.2 := by
  unfold nb_cB at h
  obtain ⟨n, t, v⟩ := q
  dsimp only at h ⊢
  split at h
  · simp only [Bool.and_eq_true, decide_eq_true_eq] at h
    exact ⟨fun _ => ⟨nb_in_Ts h.1, h.2.1, h.2.2⟩, fun q => absurd (show (0 : Nat) = 1 from q) (by decide)⟩
  · simp only [Bool.and_eq_true, decide_eq_true_eq] at h
    exact ⟨fun q => absurd (show (1 : Nat) = 0 from q) (by decide), fun _ => ⟨nb_in_Ts h.1, h.2.1, h.2.2⟩⟩
  · rename_i h0 h1
    exact ⟨fun q => absurd q h0, fun q => absurd q h1⟩
theorem nb_nB_ok {own : Nat} {q : Nat × (Nat × Nat)} {j : Nat × Nat × Nat} (h : nb_nB own q j = true) : nb_NOK own q.1 q.2 ∧ nb_AOK own q.1 q.2 := by
  unfold nb_nB at h
  split at h
  · rename_i C T N hcl
    simp only [Bool.and_eq_true, decide_eq_true_eq, List.all_eq_true] at h
    obtain ⟨h1, h2, h3, h4, h5, h6, h7, h8⟩ := h
    constructor
    · refine ⟨C, T, N, fun k => (parseFieldDescriptor (T k).2.2.1).getD .int, h1, h2, hcl, h3, h4, nb_in_Ts h5, nb_in_Ts h6, nb_in_Ts h7, nb_uws hcl, fun k hk => ?_⟩
      have := h8 k (List.mem_range.mpr hk)
      split at this
      · rename_i ty hty
        show parseFieldDescriptor (T k).2.2.1 = some ((parseFieldDescriptor (T k).2.2.1).getD .int) ∧ ∃ z, nb_tyok ((parseFieldDescriptor (T k).2.2.1).getD .int) (nb_tag q.2.1 k) z
        rw [hty]
        refine ⟨rfl, ?_⟩
        rcases (Bool.or_eq_true _ _ ▸ this : _ ∨ _) with g | g
        · exact ⟨true, nb_tyB_ok g⟩
        · exact ⟨false, nb_tyB_ok g⟩
      · cases this
    · intro ho
      have hk : (q.2.1 = 8 ∧ nb_over q.2.1 = 4) ∨ (q.2.1 = 13 ∧ nb_over q.2.1 = 5) ∨ (q.2.1 = 12 ∧ nb_over q.2.1 = 6) := by
        unfold nb_over at ho ⊢
        split at ho <;> simp_all
      have hw : ∀ kd : Nat, kd = 4 ∨ kd = 5 ∨ kd = 6 → Cond.arrayOver (nb_aty kd) ∈ lw_tbl := by
        intro kd hkd
        obtain ⟨j', hj'⟩ := nb_all2_mem nb_ov kd (by rcases hkd with rfl | rfl | rfl <;> simp)
        exact nb_wat_mem hj'
      rcases hk with ⟨e, e2⟩ | ⟨e, e2⟩ | ⟨e, e2⟩
      · rw [e] at hcl
        cases hcl
        rw [e2]
        exact ⟨_, rfl, nb_in_Ts h5, hw 4 (Or.inl rfl)⟩
      · rw [e] at hcl
        cases hcl
        rw [e2]
        exact ⟨_, rfl, nb_in_Ts h5, hw 5 (Or.inr (Or.inl rfl))⟩
      · rw [e] at hcl
        cases hcl
        rw [e2]
        exact ⟨_, rfl, nb_in_Ts h5, hw 6 (Or.inr (Or.inr rfl))⟩
  · cases h
theorem nb_tok_of {own : Nat} {kf kc : List Nat} {kn : List (Nat × Nat × Nat)} (hf : nb_all2 (nb_fB own) (nb_flds.getD own []) kf = true) (hc : nb_all2 (nb_cB own) (nb_csts.getD own []) kc = true) (hn : nb_all2 (nb_nB own) (nb_clss.getD own []) kn = true) : nb_TOK own := by
  refine ⟨fun n f h => ?_, fun n v h => ?_, fun n q h => ?_, fun kd hk => ?_⟩
  · obtain ⟨j, hj⟩ := nb_all2_mem hf _ (nb_lookup_mem h)
    exact nb_fB_ok hj
  · obtain ⟨j, hj⟩ := nb_all2_mem hc _ (nb_lookup_mem h)
    exact nb_cB_ok hj
  · obtain ⟨j, hj⟩ := nb_all2_mem hn _ (nb_lookup_mem h)
    exact nb_nB_ok hj
  · obtain ⟨j, hj⟩ := nb_all2_mem nb_ar kd (by
      have : kd = 0 ∨ kd = 1 ∨ kd = 2 ∨ kd = 3 := by omega
      rcases this with rfl | rfl | rfl | rfl <;> simp)
    exact nb_in_Ts hj
theorem nb_tok_all : ∀ own, own < 14 → nb_TOK own
  | 0, _ => nb_tok_of nb_f0 nb_c0 nb_n0
  | 1, _ => nb_tok_of nb_f1 nb_c1 nb_n1
  | 2, _ => nb_tok_of nb_f2 nb_c2 nb_n2
  | 3, _ => nb_tok_of nb_f3 nb_c3 nb_n3
  | 4, _ => nb_tok_of nb_f4 nb_c4 nb_n4
  | 5, _ => nb_tok_of nb_f5 nb_c5 nb_n5
  | 6, _ => nb_tok_of nb_f6 nb_c6 nb_n6
  | 7, _ => nb_tok_of nb_f7 nb_c7 nb_n7
  | 8, _ => nb_tok_of nb_f8 nb_c8 nb_n8
  | 9, _ => nb_tok_of nb_f9 nb_c9 nb_n9
  | 10, _ => nb_tok_of nb_f10 nb_c10 nb_n10
  | 11, _ => nb_tok_of nb_f11 nb_c11 nb_n11
  | 12, _ => nb_tok_of nb_f12 nb_c12 nb_n12
  | 13, _ => nb_tok_of nb_f13 nb_c13 nb_n13
  | n + 14, h => absurd h (by omega)
