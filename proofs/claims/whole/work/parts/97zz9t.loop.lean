/-! THE LAW'S LOOP -/
theorem lw_loop {L : Nat} {X : Int → Int} (hL : L ≤ 3072) (hX : ∀ j, -2147483648 ≤ X j ∧ X j ≤ 2147483647) : ∀ (m k : Nat), k + m = 513 → ∀ (N : nb_M) (v5 v6 : nb_V), pu_I N k → N.2.1 = nb_Kn L → N.1 1 = X → N.2.2.1 ≤ k → N.2.2.2 ≤ 6 * k → nb_W 293 6 [(3, 1), (19, 2), (20, 603), (5, 619), (0, 6 * (k : Int)), v5, v6] [] N (fun r M => r = [(0, 1)] ∧ M.2.1 = nb_Kn L ∧ M.2.2.1 ≤ 513 ∧ M.2.2.2 ≤ 6 * 513) := by
  have hln : ∀ N : nb_M, N.2.1 = nb_Kn L → nb_ln N 1 = L := fun N h => by
    unfold nb_ln
    rw [h]
    rfl
  have hsub : nb_sub (L : Int) 6 = (L : Int) - 6 := nb_sub_eq (by omega) (by omega)
  intro m
  induction m with
  | zero =>
    intro k hk N v5 v6 hI h1 h2 h3 h4
    refine nb_Wg (q_law_law_6 (h1 := by decide) ..) ?_
    rw [hln N h1, hsub]
    refine nb_Gt (by omega) (nb_Gr ?_)
    exact nb_Wg (q_law_law_240 ..) (nb_Gs ⟨rfl, h1, by omega, by omega⟩)
  | succ m ih =>
    intro k hk N v5 v6 hI h1 h2 h3 h4
    refine nb_Wg (q_law_law_6 (h1 := by decide) ..) ?_
    rw [hln N h1, hsub]
    refine nb_Gi (fun c => nb_Gr ?_) (fun c => nb_Gr ?_)
    · exact nb_Wg (q_law_law_240 ..) (nb_Gs ⟨rfl, h1, by omega, by omega⟩)
    · refine lc_all hI (by omega) (hln N h1) (by omega) (by omega) (fun v5 v6 N2 hI2 s => ?_) (fun j => by rw [h2]; exact hX j)
      refine nb_Wg (q_law_law_239 ..) (nb_Gr ?_)
      rw [nb_add_eq (by omega) (by omega)]
      obtain ⟨s1, s2, s3, s4⟩ := s
      have g := ih (k + 1) (by omega) N2 v5 v6 (by rw [show ((k + 1 : Nat) : Int) = (k : Int) + 1 by omega]; exact hI2) (s1.trans h1) (s4.trans h2) (by omega) (by omega)
      rw [show 6 * ((k + 1 : Nat) : Int) = 6 * (k : Int) + 6 by omega] at g
      exact g
theorem nb_Kn_len (L : Nat) : (nb_Kn L).length = 620 := by
  unfold nb_Kn
  rw [List.length_append, List.length_append, List.length_append, List.length_append, List.length_append, List.length_append, List.length_append, List.length_append, nb_KB_len, cy_rep 15, cy_len]
  rfl
theorem cy_sum : ∀ n, ((cy n).map (fun q => q.2)).sum = n * (nb_KS.map (fun q => q.2)).sum
  | 0 => by rw [Nat.zero_mul]; rfl
  | n + 1 => by
    show ((cy n ++ nb_KS).map (fun q => q.2)).sum = _
    rw [List.map_append, List.sum_append, cy_sum n, Nat.succ_mul]
theorem nb_Kn_sum (L : Nat) : ((nb_Kn L).map (fun q => q.2)).sum ≤ L + 100000 := by
  unfold nb_Kn
  rw [List.map_append, List.map_append, List.map_append, List.map_append, List.map_append, List.map_append, List.map_append, List.map_append, List.sum_append, List.sum_append, List.sum_append, List.sum_append, List.sum_append, List.sum_append, List.sum_append, List.sum_append, cy_rep 15, cy_sum]
  have h1 : (nb_KH.map (fun q => q.2)).sum ≤ 1000 := by decide +kernel
  have h2 : (nb_KA.map (fun q => q.2)).sum ≤ 4000 := by decide +kernel
  have h3 : (nb_KS.map (fun q => q.2)).sum ≤ 1000 := by decide +kernel
  have h4 : (nb_KB.map (fun q => q.2)).sum ≤ 4000 := by decide +kernel
  have h5 : (nb_KM.map (fun q => q.2)).sum ≤ 6000 := by decide +kernel
  have h0 : (([(0, 0), (0, L), (16, 18), (1, 1000)] : List (Nat × Nat)).map (fun q => q.2)).sum = L + 1018 := by
    simp only [List.map_cons, List.map_nil, List.sum_cons, List.sum_nil]
    omega
  omega
