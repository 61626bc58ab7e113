/-! THE LAW'S CASES; printed by wip/gen/req/genlaw.py -/
variable {N : nb_M} {k : Int} {L : Nat} {v5 v6 : nb_V} {Q : List nb_V → nb_M → Prop}
theorem lc_0 (hI : pu_I N k) (k0 : 0 ≤ k) (hl : nb_ln N 1 = L) (hb : 6 * k + 6 ≤ L) (hL : L ≤ 3072) (H : ∀ v5 v6 N2, pu_I N2 (k + 1) → pu_lwn N2 N → nb_W 293 239 [(3, 1), (19, 2), (20, 603), (5, 619), (0, 6 * k), v5, v6] [] N2 Q) : nb_W 293 8 [(3, 1), (19, 2), (20, 603), (5, 619), (0, 6 * k), v5, v6] [] N Q := by
  have a1 : nb_add (6 * k) 1 = 6 * k + 1 := nb_add_eq (by omega) (by omega)
  have a2 : nb_add (6 * k) 2 = 6 * k + 2 := nb_add_eq (by omega) (by omega)
  have a3 : nb_add (6 * k) 3 = 6 * k + 3 := nb_add_eq (by omega) (by omega)
  have a4 : nb_add (6 * k) 4 = 6 * k + 4 := nb_add_eq (by omega) (by omega)
  have a5 : nb_add (6 * k) 5 = 6 * k + 5 := nb_add_eq (by omega) (by omega)
  have hl1 : ∀ N1 : nb_M, pu_sm N1 N → nb_ln N1 1 = L := fun N1 s1 => by
    unfold nb_ln at hl ⊢
    rw [s1.1]
    exact hl
  refine lw_case (pr_feed) hI k0 (by omega) (q_law_law_8 (h1 := by first | decide | omega) (h2 := by first | decide | omega) (h3 := by first | decide | omega) (h4 := by first | decide | omega) (h5 := by first | decide | omega) (h6 := by first | decide | omega) (h7 := by first | decide | omega) (h8 := by first | decide | omega) (h9 := by first | decide | omega) (h10 := by first | decide | omega) (h11 := by first | decide | omega) (h12 := by first | decide | omega) ..) (fun N1 s1 s => ?_) (fun N2 s => (q_law_law_10 ..).trans (if_pos rfl)) (fun N2 x y => H _ _ N2 x y.lwn)
  have hl2 := hl1 N1 s1
  have er : ∀ x, nb_rd N1 1 x = nb_rd N 1 x := fun x => congrFun s1.2 x
  exact (q_law_law_9 (h1 := by first | decide | omega) (h2 := by first | decide | omega) (h3 := by first | decide | omega) (h4 := by first | decide | omega) (h5 := by first | decide | omega) (h6 := by first | decide | omega) (h7 := by first | decide | omega) (h8 := by first | decide | omega) (h9 := by first | decide | omega) (h10 := by first | decide | omega) (h11 := by first | decide | omega) (h12 := by first | decide | omega) ..).trans (by simp only [er])
theorem lc_1 (hI : pu_I N k) (k0 : 0 ≤ k) (hl : nb_ln N 1 = L) (hb : 6 * k + 6 ≤ L) (hL : L ≤ 3072) (H : ∀ v5 v6 N2, pu_I N2 (k + 1) → pu_lwn N2 N → nb_W 293 239 [(3, 1), (19, 2), (20, 603), (5, 619), (0, 6 * k), v5, v6] [] N2 Q) : nb_W 293 12 [(3, 1), (19, 2), (20, 603), (5, 619), (0, 6 * k), v5, v6] [] N Q := by
  have a1 : nb_add (6 * k) 1 = 6 * k + 1 := nb_add_eq (by omega) (by omega)
  have a2 : nb_add (6 * k) 2 = 6 * k + 2 := nb_add_eq (by omega) (by omega)
  have a3 : nb_add (6 * k) 3 = 6 * k + 3 := nb_add_eq (by omega) (by omega)
  have a4 : nb_add (6 * k) 4 = 6 * k + 4 := nb_add_eq (by omega) (by omega)
  have a5 : nb_add (6 * k) 5 = 6 * k + 5 := nb_add_eq (by omega) (by omega)
  have hl1 : ∀ N1 : nb_M, pu_sm N1 N → nb_ln N1 1 = L := fun N1 s1 => by
    unfold nb_ln at hl ⊢
    rw [s1.1]
    exact hl
  refine lw_case (pr_house) hI k0 (by omega) (q_law_law_12 (h1 := by first | decide | omega) (h2 := by first | decide | omega) (h3 := by first | decide | omega) (h4 := by first | decide | omega) ..) (fun N1 s1 s => ?_) (fun N2 s => (q_law_law_14 ..).trans (if_pos rfl)) (fun N2 x y => H _ _ N2 x y.lwn)
  have hl2 := hl1 N1 s1
  have er : ∀ x, nb_rd N1 1 x = nb_rd N 1 x := fun x => congrFun s1.2 x
  exact (q_law_law_13 (h1 := by first | decide | omega) (h2 := by first | decide | omega) (h3 := by first | decide | omega) (h4 := by first | decide | omega) ..).trans (by simp only [er])
theorem lc_2 (hI : pu_I N k) (k0 : 0 ≤ k) (hl : nb_ln N 1 = L) (hb : 6 * k + 6 ≤ L) (hL : L ≤ 3072) (H : ∀ v5 v6 N2, pu_I N2 (k + 1) → pu_lwn N2 N → nb_W 293 239 [(3, 1), (19, 2), (20, 603), (5, 619), (0, 6 * k), v5, v6] [] N2 Q) : nb_W 293 16 [(3, 1), (19, 2), (20, 603), (5, 619), (0, 6 * k), v5, v6] [] N Q := by
  have a1 : nb_add (6 * k) 1 = 6 * k + 1 := nb_add_eq (by omega) (by omega)
  have a2 : nb_add (6 * k) 2 = 6 * k + 2 := nb_add_eq (by omega) (by omega)
  have a3 : nb_add (6 * k) 3 = 6 * k + 3 := nb_add_eq (by omega) (by omega)
  have a4 : nb_add (6 * k) 4 = 6 * k + 4 := nb_add_eq (by omega) (by omega)
  have a5 : nb_add (6 * k) 5 = 6 * k + 5 := nb_add_eq (by omega) (by omega)
  have hl1 : ∀ N1 : nb_M, pu_sm N1 N → nb_ln N1 1 = L := fun N1 s1 => by
    unfold nb_ln at hl ⊢
    rw [s1.1]
    exact hl
  refine lw_case (pa_fault) hI k0 (by omega) (q_law_law_16 (h1 := by first | decide | omega) ..) (fun N1 s1 s => ?_) (fun N2 s => (q_law_law_18 ..).trans (if_pos rfl)) (fun N2 x y => H _ _ N2 x y.lwn)
  have hl2 := hl1 N1 s1
  exact q_law_law_17 (h1 := by first | decide | omega) ..
theorem lc_3 (hI : pu_I N k) (k0 : 0 ≤ k) (hl : nb_ln N 1 = L) (hb : 6 * k + 6 ≤ L) (hL : L ≤ 3072) (H : ∀ v5 v6 N2, pu_I N2 (k + 1) → pu_lwn N2 N → nb_W 293 239 [(3, 1), (19, 2), (20, 603), (5, 619), (0, 6 * k), v5, v6] [] N2 Q) : nb_W 293 20 [(3, 1), (19, 2), (20, 603), (5, 619), (0, 6 * k), v5, v6] [] N Q := by
  have a1 : nb_add (6 * k) 1 = 6 * k + 1 := nb_add_eq (by omega) (by omega)
  have a2 : nb_add (6 * k) 2 = 6 * k + 2 := nb_add_eq (by omega) (by omega)
  have a3 : nb_add (6 * k) 3 = 6 * k + 3 := nb_add_eq (by omega) (by omega)
  have a4 : nb_add (6 * k) 4 = 6 * k + 4 := nb_add_eq (by omega) (by omega)
  have a5 : nb_add (6 * k) 5 = 6 * k + 5 := nb_add_eq (by omega) (by omega)
  have hl1 : ∀ N1 : nb_M, pu_sm N1 N → nb_ln N1 1 = L := fun N1 s1 => by
    unfold nb_ln at hl ⊢
    rw [s1.1]
    exact hl
  refine lw_case (pa_where) hI k0 (by omega) (q_law_law_20 (h1 := by first | decide | omega) ..) (fun N1 s1 s => ?_) (fun N2 s => (q_law_law_22 ..).trans (if_pos rfl)) (fun N2 x y => H _ _ N2 x y.lwn)
  have hl2 := hl1 N1 s1
  exact q_law_law_21 (h1 := by first | decide | omega) ..
theorem lc_4 (hI : pu_I N k) (k0 : 0 ≤ k) (hl : nb_ln N 1 = L) (hb : 6 * k + 6 ≤ L) (hL : L ≤ 3072) (H : ∀ v5 v6 N2, pu_I N2 (k + 1) → pu_lwn N2 N → nb_W 293 239 [(3, 1), (19, 2), (20, 603), (5, 619), (0, 6 * k), v5, v6] [] N2 Q) : nb_W 293 24 [(3, 1), (19, 2), (20, 603), (5, 619), (0, 6 * k), v5, v6] [] N Q := by
  have a1 : nb_add (6 * k) 1 = 6 * k + 1 := nb_add_eq (by omega) (by omega)
  have a2 : nb_add (6 * k) 2 = 6 * k + 2 := nb_add_eq (by omega) (by omega)
  have a3 : nb_add (6 * k) 3 = 6 * k + 3 := nb_add_eq (by omega) (by omega)
  have a4 : nb_add (6 * k) 4 = 6 * k + 4 := nb_add_eq (by omega) (by omega)
  have a5 : nb_add (6 * k) 5 = 6 * k + 5 := nb_add_eq (by omega) (by omega)
  have hl1 : ∀ N1 : nb_M, pu_sm N1 N → nb_ln N1 1 = L := fun N1 s1 => by
    unfold nb_ln at hl ⊢
    rw [s1.1]
    exact hl
  refine lw_case (pa_person _ _) hI k0 (by omega) (q_law_law_24 (h1 := by first | decide | omega) (h2 := by first | decide | omega) (h3 := by first | decide | omega) (h4 := by first | decide | omega) (h5 := by first | decide | omega) (h6 := by first | decide | omega) ..) (fun N1 s1 s => ?_) (fun N2 s => (q_law_law_26 ..).trans (if_pos rfl)) (fun N2 x y => H _ _ N2 x y.lwn)
  have hl2 := hl1 N1 s1
  have er : ∀ x, nb_rd N1 1 x = nb_rd N 1 x := fun x => congrFun s1.2 x
  exact (q_law_law_25 (h1 := by first | decide | omega) (h2 := by first | decide | omega) (h3 := by first | decide | omega) (h4 := by first | decide | omega) (h5 := by first | decide | omega) (h6 := by first | decide | omega) ..).trans (by simp only [er])
theorem lc_5 (hI : pu_I N k) (k0 : 0 ≤ k) (hl : nb_ln N 1 = L) (hb : 6 * k + 6 ≤ L) (hL : L ≤ 3072) (H : ∀ v5 v6 N2, pu_I N2 (k + 1) → pu_lwn N2 N → nb_W 293 239 [(3, 1), (19, 2), (20, 603), (5, 619), (0, 6 * k), v5, v6] [] N2 Q) : nb_W 293 28 [(3, 1), (19, 2), (20, 603), (5, 619), (0, 6 * k), v5, v6] [] N Q := by
  have a1 : nb_add (6 * k) 1 = 6 * k + 1 := nb_add_eq (by omega) (by omega)
  have a2 : nb_add (6 * k) 2 = 6 * k + 2 := nb_add_eq (by omega) (by omega)
  have a3 : nb_add (6 * k) 3 = 6 * k + 3 := nb_add_eq (by omega) (by omega)
  have a4 : nb_add (6 * k) 4 = 6 * k + 4 := nb_add_eq (by omega) (by omega)
  have a5 : nb_add (6 * k) 5 = 6 * k + 5 := nb_add_eq (by omega) (by omega)
  have hl1 : ∀ N1 : nb_M, pu_sm N1 N → nb_ln N1 1 = L := fun N1 s1 => by
    unfold nb_ln at hl ⊢
    rw [s1.1]
    exact hl
  refine lw_case (pa_staff _ _) hI k0 (by omega) (q_law_law_28 (h1 := by first | decide | omega) (h2 := by first | decide | omega) (h3 := by first | decide | omega) (h4 := by first | decide | omega) (h5 := by first | decide | omega) (h6 := by first | decide | omega) ..) (fun N1 s1 s => ?_) (fun N2 s => (q_law_law_30 ..).trans (if_pos rfl)) (fun N2 x y => H _ _ N2 x y.lwn)
  have hl2 := hl1 N1 s1
  have er : ∀ x, nb_rd N1 1 x = nb_rd N 1 x := fun x => congrFun s1.2 x
  exact (q_law_law_29 (h1 := by first | decide | omega) (h2 := by first | decide | omega) (h3 := by first | decide | omega) (h4 := by first | decide | omega) (h5 := by first | decide | omega) (h6 := by first | decide | omega) ..).trans (by simp only [er])
theorem lc_6 (hI : pu_I N k) (k0 : 0 ≤ k) (hl : nb_ln N 1 = L) (hb : 6 * k + 6 ≤ L) (hL : L ≤ 3072) (H : ∀ v5 v6 N2, pu_I N2 (k + 1) → pu_lwn N2 N → nb_W 293 239 [(3, 1), (19, 2), (20, 603), (5, 619), (0, 6 * k), v5, v6] [] N2 Q) : nb_W 293 32 [(3, 1), (19, 2), (20, 603), (5, 619), (0, 6 * k), v5, v6] [] N Q := by
  have a1 : nb_add (6 * k) 1 = 6 * k + 1 := nb_add_eq (by omega) (by omega)
  have a2 : nb_add (6 * k) 2 = 6 * k + 2 := nb_add_eq (by omega) (by omega)
  have a3 : nb_add (6 * k) 3 = 6 * k + 3 := nb_add_eq (by omega) (by omega)
  have a4 : nb_add (6 * k) 4 = 6 * k + 4 := nb_add_eq (by omega) (by omega)
  have a5 : nb_add (6 * k) 5 = 6 * k + 5 := nb_add_eq (by omega) (by omega)
  have hl1 : ∀ N1 : nb_M, pu_sm N1 N → nb_ln N1 1 = L := fun N1 s1 => by
    unfold nb_ln at hl ⊢
    rw [s1.1]
    exact hl
  refine lw_case (pa_elbows _) hI k0 (by omega) (q_law_law_32 (h1 := by first | decide | omega) (h2 := by first | decide | omega) (h3 := by first | decide | omega) (h4 := by first | decide | omega) ..) (fun N1 s1 s => ?_) (fun N2 s => (q_law_law_34 ..).trans (if_pos rfl)) (fun N2 x y => H _ _ N2 x y.lwn)
  have hl2 := hl1 N1 s1
  have er : ∀ x, nb_rd N1 1 x = nb_rd N 1 x := fun x => congrFun s1.2 x
  exact (q_law_law_33 (h1 := by first | decide | omega) (h2 := by first | decide | omega) (h3 := by first | decide | omega) (h4 := by first | decide | omega) ..).trans (by simp only [er])
theorem lc_7 (hI : pu_I N k) (k0 : 0 ≤ k) (hl : nb_ln N 1 = L) (hb : 6 * k + 6 ≤ L) (hL : L ≤ 3072) (H : ∀ v5 v6 N2, pu_I N2 (k + 1) → pu_lwn N2 N → nb_W 293 239 [(3, 1), (19, 2), (20, 603), (5, 619), (0, 6 * k), v5, v6] [] N2 Q) : nb_W 293 36 [(3, 1), (19, 2), (20, 603), (5, 619), (0, 6 * k), v5, v6] [] N Q := by
  have a1 : nb_add (6 * k) 1 = 6 * k + 1 := nb_add_eq (by omega) (by omega)
  have a2 : nb_add (6 * k) 2 = 6 * k + 2 := nb_add_eq (by omega) (by omega)
  have a3 : nb_add (6 * k) 3 = 6 * k + 3 := nb_add_eq (by omega) (by omega)
  have a4 : nb_add (6 * k) 4 = 6 * k + 4 := nb_add_eq (by omega) (by omega)
  have a5 : nb_add (6 * k) 5 = 6 * k + 5 := nb_add_eq (by omega) (by omega)
  have hl1 : ∀ N1 : nb_M, pu_sm N1 N → nb_ln N1 1 = L := fun N1 s1 => by
    unfold nb_ln at hl ⊢
    rw [s1.1]
    exact hl
  refine lw_case (pa_waiting) hI k0 (by omega) (q_law_law_36 (h1 := by first | decide | omega) ..) (fun N1 s1 s => ?_) (fun N2 s => (q_law_law_38 ..).trans (if_pos rfl)) (fun N2 x y => H _ _ N2 x y.lwn)
  have hl2 := hl1 N1 s1
  exact q_law_law_37 (h1 := by first | decide | omega) ..
theorem lc_8 (hI : pu_I N k) (k0 : 0 ≤ k) (hl : nb_ln N 1 = L) (hb : 6 * k + 6 ≤ L) (hL : L ≤ 3072) (H : ∀ v5 v6 N2, pu_I N2 (k + 1) → pu_lwn N2 N → nb_W 293 239 [(3, 1), (19, 2), (20, 603), (5, 619), (0, 6 * k), v5, v6] [] N2 Q) : nb_W 293 40 [(3, 1), (19, 2), (20, 603), (5, 619), (0, 6 * k), v5, v6] [] N Q := by
  have a1 : nb_add (6 * k) 1 = 6 * k + 1 := nb_add_eq (by omega) (by omega)
  have a2 : nb_add (6 * k) 2 = 6 * k + 2 := nb_add_eq (by omega) (by omega)
  have a3 : nb_add (6 * k) 3 = 6 * k + 3 := nb_add_eq (by omega) (by omega)
  have a4 : nb_add (6 * k) 4 = 6 * k + 4 := nb_add_eq (by omega) (by omega)
  have a5 : nb_add (6 * k) 5 = 6 * k + 5 := nb_add_eq (by omega) (by omega)
  have hl1 : ∀ N1 : nb_M, pu_sm N1 N → nb_ln N1 1 = L := fun N1 s1 => by
    unfold nb_ln at hl ⊢
    rw [s1.1]
    exact hl
  refine lw_case (pa_next _) hI k0 (by omega) (q_law_law_40 (h1 := by first | decide | omega) (h2 := by first | decide | omega) (h3 := by first | decide | omega) (h4 := by first | decide | omega) ..) (fun N1 s1 s => ?_) (fun N2 s => (q_law_law_42 ..).trans (if_pos rfl)) (fun N2 x y => H _ _ N2 x y.lwn)
  have hl2 := hl1 N1 s1
  have er : ∀ x, nb_rd N1 1 x = nb_rd N 1 x := fun x => congrFun s1.2 x
  exact (q_law_law_41 (h1 := by first | decide | omega) (h2 := by first | decide | omega) (h3 := by first | decide | omega) (h4 := by first | decide | omega) ..).trans (by simp only [er])
theorem lc_9 (hI : pu_I N k) (k0 : 0 ≤ k) (hl : nb_ln N 1 = L) (hb : 6 * k + 6 ≤ L) (hL : L ≤ 3072) (H : ∀ v5 v6 N2, pu_I N2 (k + 1) → pu_lwn N2 N → nb_W 293 239 [(3, 1), (19, 2), (20, 603), (5, 619), (0, 6 * k), v5, v6] [] N2 Q) : nb_W 293 44 [(3, 1), (19, 2), (20, 603), (5, 619), (0, 6 * k), v5, v6] [] N Q := by
  have a1 : nb_add (6 * k) 1 = 6 * k + 1 := nb_add_eq (by omega) (by omega)
  have a2 : nb_add (6 * k) 2 = 6 * k + 2 := nb_add_eq (by omega) (by omega)
  have a3 : nb_add (6 * k) 3 = 6 * k + 3 := nb_add_eq (by omega) (by omega)
  have a4 : nb_add (6 * k) 4 = 6 * k + 4 := nb_add_eq (by omega) (by omega)
  have a5 : nb_add (6 * k) 5 = 6 * k + 5 := nb_add_eq (by omega) (by omega)
  have hl1 : ∀ N1 : nb_M, pu_sm N1 N → nb_ln N1 1 = L := fun N1 s1 => by
    unfold nb_ln at hl ⊢
    rw [s1.1]
    exact hl
  refine lw_case (pa_time _ _) hI k0 (by omega) (q_law_law_44 (h1 := by first | decide | omega) (h2 := by first | decide | omega) (h3 := by first | decide | omega) (h4 := by first | decide | omega) (h5 := by first | decide | omega) (h6 := by first | decide | omega) ..) (fun N1 s1 s => ?_) (fun N2 s => (q_law_law_46 ..).trans (if_pos rfl)) (fun N2 x y => H _ _ N2 x y.lwn)
  have hl2 := hl1 N1 s1
  have er : ∀ x, nb_rd N1 1 x = nb_rd N 1 x := fun x => congrFun s1.2 x
  exact (q_law_law_45 (h1 := by first | decide | omega) (h2 := by first | decide | omega) (h3 := by first | decide | omega) (h4 := by first | decide | omega) (h5 := by first | decide | omega) (h6 := by first | decide | omega) ..).trans (by simp only [er])
theorem lc_10 (hI : pu_I N k) (k0 : 0 ≤ k) (hl : nb_ln N 1 = L) (hb : 6 * k + 6 ≤ L) (hL : L ≤ 3072) (H : ∀ v5 v6 N2, pu_I N2 (k + 1) → pu_lwn N2 N → nb_W 293 239 [(3, 1), (19, 2), (20, 603), (5, 619), (0, 6 * k), v5, v6] [] N2 Q) : nb_W 293 48 [(3, 1), (19, 2), (20, 603), (5, 619), (0, 6 * k), v5, v6] [] N Q := by
  have a1 : nb_add (6 * k) 1 = 6 * k + 1 := nb_add_eq (by omega) (by omega)
  have a2 : nb_add (6 * k) 2 = 6 * k + 2 := nb_add_eq (by omega) (by omega)
  have a3 : nb_add (6 * k) 3 = 6 * k + 3 := nb_add_eq (by omega) (by omega)
  have a4 : nb_add (6 * k) 4 = 6 * k + 4 := nb_add_eq (by omega) (by omega)
  have a5 : nb_add (6 * k) 5 = 6 * k + 5 := nb_add_eq (by omega) (by omega)
  have hl1 : ∀ N1 : nb_M, pu_sm N1 N → nb_ln N1 1 = L := fun N1 s1 => by
    unfold nb_ln at hl ⊢
    rw [s1.1]
    exact hl
  refine lw_case (pa_costs _) hI k0 (by omega) (q_law_law_48 (h1 := by first | decide | omega) (h2 := by first | decide | omega) (h3 := by first | decide | omega) (h4 := by first | decide | omega) ..) (fun N1 s1 s => ?_) (fun N2 s => (q_law_law_50 ..).trans (if_pos rfl)) (fun N2 x y => H _ _ N2 x y.lwn)
  have hl2 := hl1 N1 s1
  have er : ∀ x, nb_rd N1 1 x = nb_rd N 1 x := fun x => congrFun s1.2 x
  exact (q_law_law_49 (h1 := by first | decide | omega) (h2 := by first | decide | omega) (h3 := by first | decide | omega) (h4 := by first | decide | omega) ..).trans (by simp only [er])
theorem lc_11 (hI : pu_I N k) (k0 : 0 ≤ k) (hl : nb_ln N 1 = L) (hb : 6 * k + 6 ≤ L) (hL : L ≤ 3072) (H : ∀ v5 v6 N2, pu_I N2 (k + 1) → pu_lwn N2 N → nb_W 293 239 [(3, 1), (19, 2), (20, 603), (5, 619), (0, 6 * k), v5, v6] [] N2 Q) : nb_W 293 52 [(3, 1), (19, 2), (20, 603), (5, 619), (0, 6 * k), v5, v6] [] N Q := by
  have a1 : nb_add (6 * k) 1 = 6 * k + 1 := nb_add_eq (by omega) (by omega)
  have a2 : nb_add (6 * k) 2 = 6 * k + 2 := nb_add_eq (by omega) (by omega)
  have a3 : nb_add (6 * k) 3 = 6 * k + 3 := nb_add_eq (by omega) (by omega)
  have a4 : nb_add (6 * k) 4 = 6 * k + 4 := nb_add_eq (by omega) (by omega)
  have a5 : nb_add (6 * k) 5 = 6 * k + 5 := nb_add_eq (by omega) (by omega)
  have hl1 : ∀ N1 : nb_M, pu_sm N1 N → nb_ln N1 1 = L := fun N1 s1 => by
    unfold nb_ln at hl ⊢
    rw [s1.1]
    exact hl
  refine lw_case (pa_fate _) hI k0 (by omega) (q_law_law_52 (h1 := by first | decide | omega) (h2 := by first | decide | omega) (h3 := by first | decide | omega) (h4 := by first | decide | omega) ..) (fun N1 s1 s => ?_) (fun N2 s => (q_law_law_54 ..).trans (if_pos rfl)) (fun N2 x y => H _ _ N2 x y.lwn)
  have hl2 := hl1 N1 s1
  have er : ∀ x, nb_rd N1 1 x = nb_rd N 1 x := fun x => congrFun s1.2 x
  exact (q_law_law_53 (h1 := by first | decide | omega) (h2 := by first | decide | omega) (h3 := by first | decide | omega) (h4 := by first | decide | omega) ..).trans (by simp only [er])
theorem lc_12 (hI : pu_I N k) (k0 : 0 ≤ k) (hl : nb_ln N 1 = L) (hb : 6 * k + 6 ≤ L) (hL : L ≤ 3072) (H : ∀ v5 v6 N2, pu_I N2 (k + 1) → pu_lwn N2 N → nb_W 293 239 [(3, 1), (19, 2), (20, 603), (5, 619), (0, 6 * k), v5, v6] [] N2 Q) : nb_W 293 56 [(3, 1), (19, 2), (20, 603), (5, 619), (0, 6 * k), v5, v6] [] N Q := by
  have a1 : nb_add (6 * k) 1 = 6 * k + 1 := nb_add_eq (by omega) (by omega)
  have a2 : nb_add (6 * k) 2 = 6 * k + 2 := nb_add_eq (by omega) (by omega)
  have a3 : nb_add (6 * k) 3 = 6 * k + 3 := nb_add_eq (by omega) (by omega)
  have a4 : nb_add (6 * k) 4 = 6 * k + 4 := nb_add_eq (by omega) (by omega)
  have a5 : nb_add (6 * k) 5 = 6 * k + 5 := nb_add_eq (by omega) (by omega)
  have hl1 : ∀ N1 : nb_M, pu_sm N1 N → nb_ln N1 1 = L := fun N1 s1 => by
    unfold nb_ln at hl ⊢
    rw [s1.1]
    exact hl
  refine lw_case (pa_waits _) hI k0 (by omega) (q_law_law_56 (h1 := by first | decide | omega) (h2 := by first | decide | omega) (h3 := by first | decide | omega) (h4 := by first | decide | omega) ..) (fun N1 s1 s => ?_) (fun N2 s => (q_law_law_58 ..).trans (if_pos rfl)) (fun N2 x y => H _ _ N2 x y.lwn)
  have hl2 := hl1 N1 s1
  have er : ∀ x, nb_rd N1 1 x = nb_rd N 1 x := fun x => congrFun s1.2 x
  exact (q_law_law_57 (h1 := by first | decide | omega) (h2 := by first | decide | omega) (h3 := by first | decide | omega) (h4 := by first | decide | omega) ..).trans (by simp only [er])
theorem lc_13 (hI : pu_I N k) (k0 : 0 ≤ k) (hl : nb_ln N 1 = L) (hb : 6 * k + 6 ≤ L) (hL : L ≤ 3072) (H : ∀ v5 v6 N2, pu_I N2 (k + 1) → pu_lwn N2 N → nb_W 293 239 [(3, 1), (19, 2), (20, 603), (5, 619), (0, 6 * k), v5, v6] [] N2 Q) : nb_W 293 60 [(3, 1), (19, 2), (20, 603), (5, 619), (0, 6 * k), v5, v6] [] N Q := by
  have a1 : nb_add (6 * k) 1 = 6 * k + 1 := nb_add_eq (by omega) (by omega)
  have a2 : nb_add (6 * k) 2 = 6 * k + 2 := nb_add_eq (by omega) (by omega)
  have a3 : nb_add (6 * k) 3 = 6 * k + 3 := nb_add_eq (by omega) (by omega)
  have a4 : nb_add (6 * k) 4 = 6 * k + 4 := nb_add_eq (by omega) (by omega)
  have a5 : nb_add (6 * k) 5 = 6 * k + 5 := nb_add_eq (by omega) (by omega)
  have hl1 : ∀ N1 : nb_M, pu_sm N1 N → nb_ln N1 1 = L := fun N1 s1 => by
    unfold nb_ln at hl ⊢
    rw [s1.1]
    exact hl
  refine lw_case (pa_whom _) hI k0 (by omega) (q_law_law_60 (h1 := by first | decide | omega) (h2 := by first | decide | omega) (h3 := by first | decide | omega) (h4 := by first | decide | omega) ..) (fun N1 s1 s => ?_) (fun N2 s => (q_law_law_62 ..).trans (if_pos rfl)) (fun N2 x y => H _ _ N2 x y.lwn)
  have hl2 := hl1 N1 s1
  have er : ∀ x, nb_rd N1 1 x = nb_rd N 1 x := fun x => congrFun s1.2 x
  exact (q_law_law_61 (h1 := by first | decide | omega) (h2 := by first | decide | omega) (h3 := by first | decide | omega) (h4 := by first | decide | omega) ..).trans (by simp only [er])
theorem lc_14 (hI : pu_I N k) (k0 : 0 ≤ k) (hl : nb_ln N 1 = L) (hb : 6 * k + 6 ≤ L) (hL : L ≤ 3072) (H : ∀ v5 v6 N2, pu_I N2 (k + 1) → pu_lwn N2 N → nb_W 293 239 [(3, 1), (19, 2), (20, 603), (5, 619), (0, 6 * k), v5, v6] [] N2 Q) : nb_W 293 64 [(3, 1), (19, 2), (20, 603), (5, 619), (0, 6 * k), v5, v6] [] N Q := by
  have a1 : nb_add (6 * k) 1 = 6 * k + 1 := nb_add_eq (by omega) (by omega)
  have a2 : nb_add (6 * k) 2 = 6 * k + 2 := nb_add_eq (by omega) (by omega)
  have a3 : nb_add (6 * k) 3 = 6 * k + 3 := nb_add_eq (by omega) (by omega)
  have a4 : nb_add (6 * k) 4 = 6 * k + 4 := nb_add_eq (by omega) (by omega)
  have a5 : nb_add (6 * k) 5 = 6 * k + 5 := nb_add_eq (by omega) (by omega)
  have hl1 : ∀ N1 : nb_M, pu_sm N1 N → nb_ln N1 1 = L := fun N1 s1 => by
    unfold nb_ln at hl ⊢
    rw [s1.1]
    exact hl
  refine lw_case (pa_has _) hI k0 (by omega) (q_law_law_64 (h1 := by first | decide | omega) (h2 := by first | decide | omega) (h3 := by first | decide | omega) (h4 := by first | decide | omega) ..) (fun N1 s1 s => ?_) (fun N2 s => (q_law_law_66 ..).trans (if_pos rfl)) (fun N2 x y => H _ _ N2 x y.lwn)
  have hl2 := hl1 N1 s1
  have er : ∀ x, nb_rd N1 1 x = nb_rd N 1 x := fun x => congrFun s1.2 x
  exact (q_law_law_65 (h1 := by first | decide | omega) (h2 := by first | decide | omega) (h3 := by first | decide | omega) (h4 := by first | decide | omega) ..).trans (by simp only [er])
theorem lc_15 (hI : pu_I N k) (k0 : 0 ≤ k) (hl : nb_ln N 1 = L) (hb : 6 * k + 6 ≤ L) (hL : L ≤ 3072) (H : ∀ v5 v6 N2, pu_I N2 (k + 1) → pu_lwn N2 N → nb_W 293 239 [(3, 1), (19, 2), (20, 603), (5, 619), (0, 6 * k), v5, v6] [] N2 Q) : nb_W 293 68 [(3, 1), (19, 2), (20, 603), (5, 619), (0, 6 * k), v5, v6] [] N Q := by
  have a1 : nb_add (6 * k) 1 = 6 * k + 1 := nb_add_eq (by omega) (by omega)
  have a2 : nb_add (6 * k) 2 = 6 * k + 2 := nb_add_eq (by omega) (by omega)
  have a3 : nb_add (6 * k) 3 = 6 * k + 3 := nb_add_eq (by omega) (by omega)
  have a4 : nb_add (6 * k) 4 = 6 * k + 4 := nb_add_eq (by omega) (by omega)
  have a5 : nb_add (6 * k) 5 = 6 * k + 5 := nb_add_eq (by omega) (by omega)
  have hl1 : ∀ N1 : nb_M, pu_sm N1 N → nb_ln N1 1 = L := fun N1 s1 => by
    unfold nb_ln at hl ⊢
    rw [s1.1]
    exact hl
  refine lw_case (pa_passed _) hI k0 (by omega) (q_law_law_68 (h1 := by first | decide | omega) (h2 := by first | decide | omega) (h3 := by first | decide | omega) (h4 := by first | decide | omega) ..) (fun N1 s1 s => ?_) (fun N2 s => (q_law_law_70 ..).trans (if_pos rfl)) (fun N2 x y => H _ _ N2 x y.lwn)
  have hl2 := hl1 N1 s1
  have er : ∀ x, nb_rd N1 1 x = nb_rd N 1 x := fun x => congrFun s1.2 x
  exact (q_law_law_69 (h1 := by first | decide | omega) (h2 := by first | decide | omega) (h3 := by first | decide | omega) (h4 := by first | decide | omega) ..).trans (by simp only [er])
theorem lc_16 (hI : pu_I N k) (k0 : 0 ≤ k) (hl : nb_ln N 1 = L) (hb : 6 * k + 6 ≤ L) (hL : L ≤ 3072) (H : ∀ v5 v6 N2, pu_I N2 (k + 1) → pu_lwn N2 N → nb_W 293 239 [(3, 1), (19, 2), (20, 603), (5, 619), (0, 6 * k), v5, v6] [] N2 Q) : nb_W 293 72 [(3, 1), (19, 2), (20, 603), (5, 619), (0, 6 * k), v5, v6] [] N Q := by
  have a1 : nb_add (6 * k) 1 = 6 * k + 1 := nb_add_eq (by omega) (by omega)
  have a2 : nb_add (6 * k) 2 = 6 * k + 2 := nb_add_eq (by omega) (by omega)
  have a3 : nb_add (6 * k) 3 = 6 * k + 3 := nb_add_eq (by omega) (by omega)
  have a4 : nb_add (6 * k) 4 = 6 * k + 4 := nb_add_eq (by omega) (by omega)
  have a5 : nb_add (6 * k) 5 = 6 * k + 5 := nb_add_eq (by omega) (by omega)
  have hl1 : ∀ N1 : nb_M, pu_sm N1 N → nb_ln N1 1 = L := fun N1 s1 => by
    unfold nb_ln at hl ⊢
    rw [s1.1]
    exact hl
  refine lw_case (pa_pushed _) hI k0 (by omega) (q_law_law_72 (h1 := by first | decide | omega) (h2 := by first | decide | omega) (h3 := by first | decide | omega) (h4 := by first | decide | omega) ..) (fun N1 s1 s => ?_) (fun N2 s => (q_law_law_74 ..).trans (if_pos rfl)) (fun N2 x y => H _ _ N2 x y.lwn)
  have hl2 := hl1 N1 s1
  have er : ∀ x, nb_rd N1 1 x = nb_rd N 1 x := fun x => congrFun s1.2 x
  exact (q_law_law_73 (h1 := by first | decide | omega) (h2 := by first | decide | omega) (h3 := by first | decide | omega) (h4 := by first | decide | omega) ..).trans (by simp only [er])
theorem lc_17 (hI : pu_I N k) (k0 : 0 ≤ k) (hl : nb_ln N 1 = L) (hb : 6 * k + 6 ≤ L) (hL : L ≤ 3072) (H : ∀ v5 v6 N2, pu_I N2 (k + 1) → pu_lwn N2 N → nb_W 293 239 [(3, 1), (19, 2), (20, 603), (5, 619), (0, 6 * k), v5, v6] [] N2 Q) : nb_W 293 76 [(3, 1), (19, 2), (20, 603), (5, 619), (0, 6 * k), v5, v6] [] N Q := by
  have a1 : nb_add (6 * k) 1 = 6 * k + 1 := nb_add_eq (by omega) (by omega)
  have a2 : nb_add (6 * k) 2 = 6 * k + 2 := nb_add_eq (by omega) (by omega)
  have a3 : nb_add (6 * k) 3 = 6 * k + 3 := nb_add_eq (by omega) (by omega)
  have a4 : nb_add (6 * k) 4 = 6 * k + 4 := nb_add_eq (by omega) (by omega)
  have a5 : nb_add (6 * k) 5 = 6 * k + 5 := nb_add_eq (by omega) (by omega)
  have hl1 : ∀ N1 : nb_M, pu_sm N1 N → nb_ln N1 1 = L := fun N1 s1 => by
    unfold nb_ln at hl ⊢
    rw [s1.1]
    exact hl
  refine lw_case (pa_sum _) hI k0 (by omega) (q_law_law_76 (h1 := by first | decide | omega) (h2 := by first | decide | omega) (h3 := by first | decide | omega) (h4 := by first | decide | omega) ..) (fun N1 s1 s => ?_) (fun N2 s => (q_law_law_78 ..).trans (if_pos rfl)) (fun N2 x y => H _ _ N2 x y.lwn)
  have hl2 := hl1 N1 s1
  have er : ∀ x, nb_rd N1 1 x = nb_rd N 1 x := fun x => congrFun s1.2 x
  exact (q_law_law_77 (h1 := by first | decide | omega) (h2 := by first | decide | omega) (h3 := by first | decide | omega) (h4 := by first | decide | omega) ..).trans (by simp only [er])
theorem lc_18 (hI : pu_I N k) (k0 : 0 ≤ k) (hl : nb_ln N 1 = L) (hb : 6 * k + 6 ≤ L) (hL : L ≤ 3072) (H : ∀ v5 v6 N2, pu_I N2 (k + 1) → pu_lwn N2 N → nb_W 293 239 [(3, 1), (19, 2), (20, 603), (5, 619), (0, 6 * k), v5, v6] [] N2 Q) : nb_W 293 80 [(3, 1), (19, 2), (20, 603), (5, 619), (0, 6 * k), v5, v6] [] N Q := by
  have a1 : nb_add (6 * k) 1 = 6 * k + 1 := nb_add_eq (by omega) (by omega)
  have a2 : nb_add (6 * k) 2 = 6 * k + 2 := nb_add_eq (by omega) (by omega)
  have a3 : nb_add (6 * k) 3 = 6 * k + 3 := nb_add_eq (by omega) (by omega)
  have a4 : nb_add (6 * k) 4 = 6 * k + 4 := nb_add_eq (by omega) (by omega)
  have a5 : nb_add (6 * k) 5 = 6 * k + 5 := nb_add_eq (by omega) (by omega)
  have hl1 : ∀ N1 : nb_M, pu_sm N1 N → nb_ln N1 1 = L := fun N1 s1 => by
    unfold nb_ln at hl ⊢
    rw [s1.1]
    exact hl
  refine lw_case (pa_served _) hI k0 (by omega) (q_law_law_80 (h1 := by first | decide | omega) (h2 := by first | decide | omega) (h3 := by first | decide | omega) (h4 := by first | decide | omega) ..) (fun N1 s1 s => ?_) (fun N2 s => (q_law_law_82 ..).trans (if_pos rfl)) (fun N2 x y => H _ _ N2 x y.lwn)
  have hl2 := hl1 N1 s1
  have er : ∀ x, nb_rd N1 1 x = nb_rd N 1 x := fun x => congrFun s1.2 x
  exact (q_law_law_81 (h1 := by first | decide | omega) (h2 := by first | decide | omega) (h3 := by first | decide | omega) (h4 := by first | decide | omega) ..).trans (by simp only [er])
theorem lc_19 (hI : pu_I N k) (k0 : 0 ≤ k) (hl : nb_ln N 1 = L) (hb : 6 * k + 6 ≤ L) (hL : L ≤ 3072) (H : ∀ v5 v6 N2, pu_I N2 (k + 1) → pu_lwn N2 N → nb_W 293 239 [(3, 1), (19, 2), (20, 603), (5, 619), (0, 6 * k), v5, v6] [] N2 Q) : nb_W 293 84 [(3, 1), (19, 2), (20, 603), (5, 619), (0, 6 * k), v5, v6] [] N Q := by
  have a1 : nb_add (6 * k) 1 = 6 * k + 1 := nb_add_eq (by omega) (by omega)
  have a2 : nb_add (6 * k) 2 = 6 * k + 2 := nb_add_eq (by omega) (by omega)
  have a3 : nb_add (6 * k) 3 = 6 * k + 3 := nb_add_eq (by omega) (by omega)
  have a4 : nb_add (6 * k) 4 = 6 * k + 4 := nb_add_eq (by omega) (by omega)
  have a5 : nb_add (6 * k) 5 = 6 * k + 5 := nb_add_eq (by omega) (by omega)
  have hl1 : ∀ N1 : nb_M, pu_sm N1 N → nb_ln N1 1 = L := fun N1 s1 => by
    unfold nb_ln at hl ⊢
    rw [s1.1]
    exact hl
  by_cases hc : nb_rd N 1 (nb_add (6 * k) 2) = 0
  · refine lw_case (pa_by _ _ _) hI k0 (by omega) ((q_law_law_84 (h1 := by first | decide | omega) (h2 := by first | decide | omega) (h3 := by first | decide | omega) (h4 := by first | decide | omega) (h5 := by first | decide | omega) ..).trans ((if_pos hc).trans ((q_law_law_86  ..).trans (q_law_law_87 (h1 := by first | decide | omega) (h2 := by first | decide | omega) (h3 := by first | decide | omega) (h4 := by first | decide | omega) ..)))) (fun N1 s1 s => ?_) (fun N2 s => (q_law_law_92 ..).trans (if_pos rfl)) (fun N2 x y => H _ _ N2 x y.lwn)
    have hl2 := hl1 N1 s1
    have er : ∀ x, nb_rd N1 1 x = nb_rd N 1 x := fun x => congrFun s1.2 x
    have hc1 : nb_rd N1 1 (nb_add (6 * k) 2) = 0 := by rw [er]; exact hc
    exact (q_law_law_88 (h1 := by first | decide | omega) (h2 := by first | decide | omega) (h3 := by first | decide | omega) (h4 := by first | decide | omega) (h5 := by first | decide | omega) ..).trans ((if_pos hc1).trans ((q_law_law_90  ..).trans ((q_law_law_91 (h1 := by first | decide | omega) (h2 := by first | decide | omega) (h3 := by first | decide | omega) (h4 := by first | decide | omega) ..).trans (by simp only [er]))))
  · refine lw_case (pa_by _ _ _) hI k0 (by omega) ((q_law_law_84 (h1 := by first | decide | omega) (h2 := by first | decide | omega) (h3 := by first | decide | omega) (h4 := by first | decide | omega) (h5 := by first | decide | omega) ..).trans ((if_neg hc).trans ((q_law_law_85  ..).trans (q_law_law_87 (h1 := by first | decide | omega) (h2 := by first | decide | omega) (h3 := by first | decide | omega) (h4 := by first | decide | omega) ..)))) (fun N1 s1 s => ?_) (fun N2 s => (q_law_law_92 ..).trans (if_pos rfl)) (fun N2 x y => H _ _ N2 x y.lwn)
    have hl2 := hl1 N1 s1
    have er : ∀ x, nb_rd N1 1 x = nb_rd N 1 x := fun x => congrFun s1.2 x
    have hc1 : ¬ nb_rd N1 1 (nb_add (6 * k) 2) = 0 := by rw [er]; exact hc
    exact (q_law_law_88 (h1 := by first | decide | omega) (h2 := by first | decide | omega) (h3 := by first | decide | omega) (h4 := by first | decide | omega) (h5 := by first | decide | omega) ..).trans ((if_neg hc1).trans ((q_law_law_89  ..).trans ((q_law_law_91 (h1 := by first | decide | omega) (h2 := by first | decide | omega) (h3 := by first | decide | omega) (h4 := by first | decide | omega) ..).trans (by simp only [er]))))
theorem lc_20 (hI : pu_I N k) (k0 : 0 ≤ k) (hl : nb_ln N 1 = L) (hb : 6 * k + 6 ≤ L) (hL : L ≤ 3072) (H : ∀ v5 v6 N2, pu_I N2 (k + 1) → pu_lwn N2 N → nb_W 293 239 [(3, 1), (19, 2), (20, 603), (5, 619), (0, 6 * k), v5, v6] [] N2 Q) : nb_W 293 94 [(3, 1), (19, 2), (20, 603), (5, 619), (0, 6 * k), v5, v6] [] N Q := by
  have a1 : nb_add (6 * k) 1 = 6 * k + 1 := nb_add_eq (by omega) (by omega)
  have a2 : nb_add (6 * k) 2 = 6 * k + 2 := nb_add_eq (by omega) (by omega)
  have a3 : nb_add (6 * k) 3 = 6 * k + 3 := nb_add_eq (by omega) (by omega)
  have a4 : nb_add (6 * k) 4 = 6 * k + 4 := nb_add_eq (by omega) (by omega)
  have a5 : nb_add (6 * k) 5 = 6 * k + 5 := nb_add_eq (by omega) (by omega)
  have hl1 : ∀ N1 : nb_M, pu_sm N1 N → nb_ln N1 1 = L := fun N1 s1 => by
    unfold nb_ln at hl ⊢
    rw [s1.1]
    exact hl
  by_cases hc : nb_rd N 1 (nb_add (6 * k) 1) = 0
  · refine lw_case (pa_bestRule _) hI k0 (by omega) ((q_law_law_94 (h1 := by first | decide | omega) (h2 := by first | decide | omega) (h3 := by first | decide | omega) ..).trans ((if_pos hc).trans ((q_law_law_96  ..).trans (q_law_law_97 (h1 := by first | decide | omega) ..)))) (fun N1 s1 s => ?_) (fun N2 s => (q_law_law_102 ..).trans (if_pos rfl)) (fun N2 x y => H _ _ N2 x y.lwn)
    have hl2 := hl1 N1 s1
    have er : ∀ x, nb_rd N1 1 x = nb_rd N 1 x := fun x => congrFun s1.2 x
    have hc1 : nb_rd N1 1 (nb_add (6 * k) 1) = 0 := by rw [er]; exact hc
    exact (q_law_law_98 (h1 := by first | decide | omega) (h2 := by first | decide | omega) (h3 := by first | decide | omega) ..).trans ((if_pos hc1).trans ((q_law_law_100  ..).trans ((q_law_law_101 (h1 := by first | decide | omega) ..).trans (by simp only [er]))))
  · refine lw_case (pa_bestRule _) hI k0 (by omega) ((q_law_law_94 (h1 := by first | decide | omega) (h2 := by first | decide | omega) (h3 := by first | decide | omega) ..).trans ((if_neg hc).trans ((q_law_law_95  ..).trans (q_law_law_97 (h1 := by first | decide | omega) ..)))) (fun N1 s1 s => ?_) (fun N2 s => (q_law_law_102 ..).trans (if_pos rfl)) (fun N2 x y => H _ _ N2 x y.lwn)
    have hl2 := hl1 N1 s1
    have er : ∀ x, nb_rd N1 1 x = nb_rd N 1 x := fun x => congrFun s1.2 x
    have hc1 : ¬ nb_rd N1 1 (nb_add (6 * k) 1) = 0 := by rw [er]; exact hc
    exact (q_law_law_98 (h1 := by first | decide | omega) (h2 := by first | decide | omega) (h3 := by first | decide | omega) ..).trans ((if_neg hc1).trans ((q_law_law_99  ..).trans ((q_law_law_101 (h1 := by first | decide | omega) ..).trans (by simp only [er]))))
theorem lc_21 (hI : pu_I N k) (k0 : 0 ≤ k) (hl : nb_ln N 1 = L) (hb : 6 * k + 6 ≤ L) (hL : L ≤ 3072) (H : ∀ v5 v6 N2, pu_I N2 (k + 1) → pu_lwn N2 N → nb_W 293 239 [(3, 1), (19, 2), (20, 603), (5, 619), (0, 6 * k), v5, v6] [] N2 Q) : nb_W 293 104 [(3, 1), (19, 2), (20, 603), (5, 619), (0, 6 * k), v5, v6] [] N Q := by
  have a1 : nb_add (6 * k) 1 = 6 * k + 1 := nb_add_eq (by omega) (by omega)
  have a2 : nb_add (6 * k) 2 = 6 * k + 2 := nb_add_eq (by omega) (by omega)
  have a3 : nb_add (6 * k) 3 = 6 * k + 3 := nb_add_eq (by omega) (by omega)
  have a4 : nb_add (6 * k) 4 = 6 * k + 4 := nb_add_eq (by omega) (by omega)
  have a5 : nb_add (6 * k) 5 = 6 * k + 5 := nb_add_eq (by omega) (by omega)
  have hl1 : ∀ N1 : nb_M, pu_sm N1 N → nb_ln N1 1 = L := fun N1 s1 => by
    unfold nb_ln at hl ⊢
    rw [s1.1]
    exact hl
  refine lw_case (pa_hand) hI k0 (by omega) (q_law_law_104 (h1 := by first | decide | omega) ..) (fun N1 s1 s => ?_) (fun N2 s => (q_law_law_106 ..).trans (if_pos rfl)) (fun N2 x y => H _ _ N2 x y.lwn)
  have hl2 := hl1 N1 s1
  exact q_law_law_105 (h1 := by first | decide | omega) ..
theorem lc_22 (hI : pu_I N k) (k0 : 0 ≤ k) (hl : nb_ln N 1 = L) (hb : 6 * k + 6 ≤ L) (hL : L ≤ 3072) (H : ∀ v5 v6 N2, pu_I N2 (k + 1) → pu_lwn N2 N → nb_W 293 239 [(3, 1), (19, 2), (20, 603), (5, 619), (0, 6 * k), v5, v6] [] N2 Q) : nb_W 293 108 [(3, 1), (19, 2), (20, 603), (5, 619), (0, 6 * k), v5, v6] [] N Q := by
  have a1 : nb_add (6 * k) 1 = 6 * k + 1 := nb_add_eq (by omega) (by omega)
  have a2 : nb_add (6 * k) 2 = 6 * k + 2 := nb_add_eq (by omega) (by omega)
  have a3 : nb_add (6 * k) 3 = 6 * k + 3 := nb_add_eq (by omega) (by omega)
  have a4 : nb_add (6 * k) 4 = 6 * k + 4 := nb_add_eq (by omega) (by omega)
  have a5 : nb_add (6 * k) 5 = 6 * k + 5 := nb_add_eq (by omega) (by omega)
  have hl1 : ∀ N1 : nb_M, pu_sm N1 N → nb_ln N1 1 = L := fun N1 s1 => by
    unfold nb_ln at hl ⊢
    rw [s1.1]
    exact hl
  refine lw_case (pa_beforehand _) hI k0 (by omega) (q_law_law_108 (h1 := by first | decide | omega) (h2 := by first | decide | omega) (h3 := by first | decide | omega) (h4 := by first | decide | omega) ..) (fun N1 s1 s => ?_) (fun N2 s => (q_law_law_110 ..).trans (if_pos rfl)) (fun N2 x y => H _ _ N2 x y.lwn)
  have hl2 := hl1 N1 s1
  have er : ∀ x, nb_rd N1 1 x = nb_rd N 1 x := fun x => congrFun s1.2 x
  exact (q_law_law_109 (h1 := by first | decide | omega) (h2 := by first | decide | omega) (h3 := by first | decide | omega) (h4 := by first | decide | omega) ..).trans (by simp only [er])
theorem lc_23 (hI : pu_I N k) (k0 : 0 ≤ k) (hl : nb_ln N 1 = L) (hb : 6 * k + 6 ≤ L) (hL : L ≤ 3072) (H : ∀ v5 v6 N2, pu_I N2 (k + 1) → pu_lwn N2 N → nb_W 293 239 [(3, 1), (19, 2), (20, 603), (5, 619), (0, 6 * k), v5, v6] [] N2 Q) : nb_W 293 112 [(3, 1), (19, 2), (20, 603), (5, 619), (0, 6 * k), v5, v6] [] N Q := by
  have a1 : nb_add (6 * k) 1 = 6 * k + 1 := nb_add_eq (by omega) (by omega)
  have a2 : nb_add (6 * k) 2 = 6 * k + 2 := nb_add_eq (by omega) (by omega)
  have a3 : nb_add (6 * k) 3 = 6 * k + 3 := nb_add_eq (by omega) (by omega)
  have a4 : nb_add (6 * k) 4 = 6 * k + 4 := nb_add_eq (by omega) (by omega)
  have a5 : nb_add (6 * k) 5 = 6 * k + 5 := nb_add_eq (by omega) (by omega)
  have hl1 : ∀ N1 : nb_M, pu_sm N1 N → nb_ln N1 1 = L := fun N1 s1 => by
    unfold nb_ln at hl ⊢
    rw [s1.1]
    exact hl
  refine lw_case (pa_bestPlace _) hI k0 (by omega) (q_law_law_112 (h1 := by first | decide | omega) (h2 := by first | decide | omega) (h3 := by first | decide | omega) (h4 := by first | decide | omega) ..) (fun N1 s1 s => ?_) (fun N2 s => (q_law_law_114 ..).trans (if_pos rfl)) (fun N2 x y => H _ _ N2 x y.lwn)
  have hl2 := hl1 N1 s1
  have er : ∀ x, nb_rd N1 1 x = nb_rd N 1 x := fun x => congrFun s1.2 x
  exact (q_law_law_113 (h1 := by first | decide | omega) (h2 := by first | decide | omega) (h3 := by first | decide | omega) (h4 := by first | decide | omega) ..).trans (by simp only [er])
theorem lc_24 (hI : pu_I N k) (k0 : 0 ≤ k) (hl : nb_ln N 1 = L) (hb : 6 * k + 6 ≤ L) (hL : L ≤ 3072) (H : ∀ v5 v6 N2, pu_I N2 (k + 1) → pu_lwn N2 N → nb_W 293 239 [(3, 1), (19, 2), (20, 603), (5, 619), (0, 6 * k), v5, v6] [] N2 Q) : nb_W 293 116 [(3, 1), (19, 2), (20, 603), (5, 619), (0, 6 * k), v5, v6] [] N Q := by
  have a1 : nb_add (6 * k) 1 = 6 * k + 1 := nb_add_eq (by omega) (by omega)
  have a2 : nb_add (6 * k) 2 = 6 * k + 2 := nb_add_eq (by omega) (by omega)
  have a3 : nb_add (6 * k) 3 = 6 * k + 3 := nb_add_eq (by omega) (by omega)
  have a4 : nb_add (6 * k) 4 = 6 * k + 4 := nb_add_eq (by omega) (by omega)
  have a5 : nb_add (6 * k) 5 = 6 * k + 5 := nb_add_eq (by omega) (by omega)
  have hl1 : ∀ N1 : nb_M, pu_sm N1 N → nb_ln N1 1 = L := fun N1 s1 => by
    unfold nb_ln at hl ⊢
    rw [s1.1]
    exact hl
  refine lw_case (pa_bestManner _) hI k0 (by omega) (q_law_law_116 (h1 := by first | decide | omega) (h2 := by first | decide | omega) (h3 := by first | decide | omega) (h4 := by first | decide | omega) ..) (fun N1 s1 s => ?_) (fun N2 s => (q_law_law_118 ..).trans (if_pos rfl)) (fun N2 x y => H _ _ N2 x y.lwn)
  have hl2 := hl1 N1 s1
  have er : ∀ x, nb_rd N1 1 x = nb_rd N 1 x := fun x => congrFun s1.2 x
  exact (q_law_law_117 (h1 := by first | decide | omega) (h2 := by first | decide | omega) (h3 := by first | decide | omega) (h4 := by first | decide | omega) ..).trans (by simp only [er])
theorem lc_25 (hI : pu_I N k) (k0 : 0 ≤ k) (hl : nb_ln N 1 = L) (hb : 6 * k + 6 ≤ L) (hL : L ≤ 3072) (H : ∀ v5 v6 N2, pu_I N2 (k + 1) → pu_lwn N2 N → nb_W 293 239 [(3, 1), (19, 2), (20, 603), (5, 619), (0, 6 * k), v5, v6] [] N2 Q) : nb_W 293 120 [(3, 1), (19, 2), (20, 603), (5, 619), (0, 6 * k), v5, v6] [] N Q := by
  have a1 : nb_add (6 * k) 1 = 6 * k + 1 := nb_add_eq (by omega) (by omega)
  have a2 : nb_add (6 * k) 2 = 6 * k + 2 := nb_add_eq (by omega) (by omega)
  have a3 : nb_add (6 * k) 3 = 6 * k + 3 := nb_add_eq (by omega) (by omega)
  have a4 : nb_add (6 * k) 4 = 6 * k + 4 := nb_add_eq (by omega) (by omega)
  have a5 : nb_add (6 * k) 5 = 6 * k + 5 := nb_add_eq (by omega) (by omega)
  have hl1 : ∀ N1 : nb_M, pu_sm N1 N → nb_ln N1 1 = L := fun N1 s1 => by
    unfold nb_ln at hl ⊢
    rw [s1.1]
    exact hl
  refine lw_case (pa_cut) hI k0 (by omega) (q_law_law_120 (h1 := by first | decide | omega) ..) (fun N1 s1 s => ?_) (fun N2 s => (q_law_law_122 ..).trans (if_pos rfl)) (fun N2 x y => H _ _ N2 x y.lwn)
  have hl2 := hl1 N1 s1
  exact q_law_law_121 (h1 := by first | decide | omega) ..
theorem lc_26 (hI : pu_I N k) (k0 : 0 ≤ k) (hl : nb_ln N 1 = L) (hb : 6 * k + 6 ≤ L) (hL : L ≤ 3072) (H : ∀ v5 v6 N2, pu_I N2 (k + 1) → pu_lwn N2 N → nb_W 293 239 [(3, 1), (19, 2), (20, 603), (5, 619), (0, 6 * k), v5, v6] [] N2 Q) : nb_W 293 124 [(3, 1), (19, 2), (20, 603), (5, 619), (0, 6 * k), v5, v6] [] N Q := by
  have a1 : nb_add (6 * k) 1 = 6 * k + 1 := nb_add_eq (by omega) (by omega)
  have a2 : nb_add (6 * k) 2 = 6 * k + 2 := nb_add_eq (by omega) (by omega)
  have a3 : nb_add (6 * k) 3 = 6 * k + 3 := nb_add_eq (by omega) (by omega)
  have a4 : nb_add (6 * k) 4 = 6 * k + 4 := nb_add_eq (by omega) (by omega)
  have a5 : nb_add (6 * k) 5 = 6 * k + 5 := nb_add_eq (by omega) (by omega)
  have hl1 : ∀ N1 : nb_M, pu_sm N1 N → nb_ln N1 1 = L := fun N1 s1 => by
    unfold nb_ln at hl ⊢
    rw [s1.1]
    exact hl
  refine lw_case (pa_cutWaits) hI k0 (by omega) (q_law_law_124 (h1 := by first | decide | omega) ..) (fun N1 s1 s => ?_) (fun N2 s => (q_law_law_126 ..).trans (if_pos rfl)) (fun N2 x y => H _ _ N2 x y.lwn)
  have hl2 := hl1 N1 s1
  exact q_law_law_125 (h1 := by first | decide | omega) ..
theorem lc_27 (hI : pu_I N k) (k0 : 0 ≤ k) (hl : nb_ln N 1 = L) (hb : 6 * k + 6 ≤ L) (hL : L ≤ 3072) (H : ∀ v5 v6 N2, pu_I N2 (k + 1) → pu_lwn N2 N → nb_W 293 239 [(3, 1), (19, 2), (20, 603), (5, 619), (0, 6 * k), v5, v6] [] N2 Q) : nb_W 293 128 [(3, 1), (19, 2), (20, 603), (5, 619), (0, 6 * k), v5, v6] [] N Q := by
  have a1 : nb_add (6 * k) 1 = 6 * k + 1 := nb_add_eq (by omega) (by omega)
  have a2 : nb_add (6 * k) 2 = 6 * k + 2 := nb_add_eq (by omega) (by omega)
  have a3 : nb_add (6 * k) 3 = 6 * k + 3 := nb_add_eq (by omega) (by omega)
  have a4 : nb_add (6 * k) 4 = 6 * k + 4 := nb_add_eq (by omega) (by omega)
  have a5 : nb_add (6 * k) 5 = 6 * k + 5 := nb_add_eq (by omega) (by omega)
  have hl1 : ∀ N1 : nb_M, pu_sm N1 N → nb_ln N1 1 = L := fun N1 s1 => by
    unfold nb_ln at hl ⊢
    rw [s1.1]
    exact hl
  refine lw_case (pa_leastLook _) hI k0 (by omega) (q_law_law_128 (h1 := by first | decide | omega) (h2 := by first | decide | omega) (h3 := by first | decide | omega) (h4 := by first | decide | omega) ..) (fun N1 s1 s => ?_) (fun N2 s => (q_law_law_130 ..).trans (if_pos rfl)) (fun N2 x y => H _ _ N2 x y.lwn)
  have hl2 := hl1 N1 s1
  have er : ∀ x, nb_rd N1 1 x = nb_rd N 1 x := fun x => congrFun s1.2 x
  exact (q_law_law_129 (h1 := by first | decide | omega) (h2 := by first | decide | omega) (h3 := by first | decide | omega) (h4 := by first | decide | omega) ..).trans (by simp only [er])
theorem lc_28 (hI : pu_I N k) (k0 : 0 ≤ k) (hl : nb_ln N 1 = L) (hb : 6 * k + 6 ≤ L) (hL : L ≤ 3072) (H : ∀ v5 v6 N2, pu_I N2 (k + 1) → pu_lwn N2 N → nb_W 293 239 [(3, 1), (19, 2), (20, 603), (5, 619), (0, 6 * k), v5, v6] [] N2 Q) : nb_W 293 132 [(3, 1), (19, 2), (20, 603), (5, 619), (0, 6 * k), v5, v6] [] N Q := by
  have a1 : nb_add (6 * k) 1 = 6 * k + 1 := nb_add_eq (by omega) (by omega)
  have a2 : nb_add (6 * k) 2 = 6 * k + 2 := nb_add_eq (by omega) (by omega)
  have a3 : nb_add (6 * k) 3 = 6 * k + 3 := nb_add_eq (by omega) (by omega)
  have a4 : nb_add (6 * k) 4 = 6 * k + 4 := nb_add_eq (by omega) (by omega)
  have a5 : nb_add (6 * k) 5 = 6 * k + 5 := nb_add_eq (by omega) (by omega)
  have hl1 : ∀ N1 : nb_M, pu_sm N1 N → nb_ln N1 1 = L := fun N1 s1 => by
    unfold nb_ln at hl ⊢
    rw [s1.1]
    exact hl
  refine lw_case (pa_letCosts _ _) hI k0 (by omega) (q_law_law_132 (h1 := by first | decide | omega) (h2 := by first | decide | omega) (h3 := by first | decide | omega) (h4 := by first | decide | omega) (h5 := by first | decide | omega) (h6 := by first | decide | omega) ..) (fun N1 s1 s => ?_) (fun N2 s => (q_law_law_134 ..).trans (if_pos rfl)) (fun N2 x y => H _ _ N2 x y.lwn)
  have hl2 := hl1 N1 s1
  have er : ∀ x, nb_rd N1 1 x = nb_rd N 1 x := fun x => congrFun s1.2 x
  exact (q_law_law_133 (h1 := by first | decide | omega) (h2 := by first | decide | omega) (h3 := by first | decide | omega) (h4 := by first | decide | omega) (h5 := by first | decide | omega) (h6 := by first | decide | omega) ..).trans (by simp only [er])
theorem lc_29 (hI : pu_I N k) (k0 : 0 ≤ k) (hl : nb_ln N 1 = L) (hb : 6 * k + 6 ≤ L) (hL : L ≤ 3072) (H : ∀ v5 v6 N2, pu_I N2 (k + 1) → pu_lwn N2 N → nb_W 293 239 [(3, 1), (19, 2), (20, 603), (5, 619), (0, 6 * k), v5, v6] [] N2 Q) : nb_W 293 136 [(3, 1), (19, 2), (20, 603), (5, 619), (0, 6 * k), v5, v6] [] N Q := by
  have a1 : nb_add (6 * k) 1 = 6 * k + 1 := nb_add_eq (by omega) (by omega)
  have a2 : nb_add (6 * k) 2 = 6 * k + 2 := nb_add_eq (by omega) (by omega)
  have a3 : nb_add (6 * k) 3 = 6 * k + 3 := nb_add_eq (by omega) (by omega)
  have a4 : nb_add (6 * k) 4 = 6 * k + 4 := nb_add_eq (by omega) (by omega)
  have a5 : nb_add (6 * k) 5 = 6 * k + 5 := nb_add_eq (by omega) (by omega)
  have hl1 : ∀ N1 : nb_M, pu_sm N1 N → nb_ln N1 1 = L := fun N1 s1 => by
    unfold nb_ln at hl ⊢
    rw [s1.1]
    exact hl
  refine lw_case (pa_bell _ _) hI k0 (by omega) (q_law_law_136 (h1 := by first | decide | omega) (h2 := by first | decide | omega) (h3 := by first | decide | omega) (h4 := by first | decide | omega) (h5 := by first | decide | omega) (h6 := by first | decide | omega) ..) (fun N1 s1 s => ?_) (fun N2 s => (q_law_law_138 ..).trans (if_pos rfl)) (fun N2 x y => H _ _ N2 x y.lwn)
  have hl2 := hl1 N1 s1
  have er : ∀ x, nb_rd N1 1 x = nb_rd N 1 x := fun x => congrFun s1.2 x
  exact (q_law_law_137 (h1 := by first | decide | omega) (h2 := by first | decide | omega) (h3 := by first | decide | omega) (h4 := by first | decide | omega) (h5 := by first | decide | omega) (h6 := by first | decide | omega) ..).trans (by simp only [er])
theorem lc_30 (hI : pu_I N k) (k0 : 0 ≤ k) (hl : nb_ln N 1 = L) (hb : 6 * k + 6 ≤ L) (hL : L ≤ 3072) (H : ∀ v5 v6 N2, pu_I N2 (k + 1) → pu_lwn N2 N → nb_W 293 239 [(3, 1), (19, 2), (20, 603), (5, 619), (0, 6 * k), v5, v6] [] N2 Q) : nb_W 293 140 [(3, 1), (19, 2), (20, 603), (5, 619), (0, 6 * k), v5, v6] [] N Q := by
  have a1 : nb_add (6 * k) 1 = 6 * k + 1 := nb_add_eq (by omega) (by omega)
  have a2 : nb_add (6 * k) 2 = 6 * k + 2 := nb_add_eq (by omega) (by omega)
  have a3 : nb_add (6 * k) 3 = 6 * k + 3 := nb_add_eq (by omega) (by omega)
  have a4 : nb_add (6 * k) 4 = 6 * k + 4 := nb_add_eq (by omega) (by omega)
  have a5 : nb_add (6 * k) 5 = 6 * k + 5 := nb_add_eq (by omega) (by omega)
  have hl1 : ∀ N1 : nb_M, pu_sm N1 N → nb_ln N1 1 = L := fun N1 s1 => by
    unfold nb_ln at hl ⊢
    rw [s1.1]
    exact hl
  refine lw_case (pa_waitingAt _) hI k0 (by omega) (q_law_law_140 (h1 := by first | decide | omega) (h2 := by first | decide | omega) (h3 := by first | decide | omega) (h4 := by first | decide | omega) ..) (fun N1 s1 s => ?_) (fun N2 s => (q_law_law_142 ..).trans (if_pos rfl)) (fun N2 x y => H _ _ N2 x y.lwn)
  have hl2 := hl1 N1 s1
  have er : ∀ x, nb_rd N1 1 x = nb_rd N 1 x := fun x => congrFun s1.2 x
  exact (q_law_law_141 (h1 := by first | decide | omega) (h2 := by first | decide | omega) (h3 := by first | decide | omega) (h4 := by first | decide | omega) ..).trans (by simp only [er])
theorem lc_31 (hI : pu_I N k) (k0 : 0 ≤ k) (hl : nb_ln N 1 = L) (hb : 6 * k + 6 ≤ L) (hL : L ≤ 3072) (H : ∀ v5 v6 N2, pu_I N2 (k + 1) → pu_lwn N2 N → nb_W 293 239 [(3, 1), (19, 2), (20, 603), (5, 619), (0, 6 * k), v5, v6] [] N2 Q) : nb_W 293 144 [(3, 1), (19, 2), (20, 603), (5, 619), (0, 6 * k), v5, v6] [] N Q := by
  have a1 : nb_add (6 * k) 1 = 6 * k + 1 := nb_add_eq (by omega) (by omega)
  have a2 : nb_add (6 * k) 2 = 6 * k + 2 := nb_add_eq (by omega) (by omega)
  have a3 : nb_add (6 * k) 3 = 6 * k + 3 := nb_add_eq (by omega) (by omega)
  have a4 : nb_add (6 * k) 4 = 6 * k + 4 := nb_add_eq (by omega) (by omega)
  have a5 : nb_add (6 * k) 5 = 6 * k + 5 := nb_add_eq (by omega) (by omega)
  have hl1 : ∀ N1 : nb_M, pu_sm N1 N → nb_ln N1 1 = L := fun N1 s1 => by
    unfold nb_ln at hl ⊢
    rw [s1.1]
    exact hl
  by_cases hc : nb_rd N 1 (nb_add (6 * k) 2) = 0
  · refine lw_case (pa_honesty _ _ (Or.inl rfl)) hI k0 (by omega) ((q_law_law_144 (h1 := by first | decide | omega) (h2 := by first | decide | omega) (h3 := by first | decide | omega) (h4 := by first | decide | omega) (h5 := by first | decide | omega) ..).trans ((if_pos hc).trans ((q_law_law_146  ..).trans (q_law_law_147 (h1 := by first | decide | omega) ..)))) (fun N1 s1 s => ?_) (fun N2 s => (q_law_law_152 ..).trans (if_pos rfl)) (fun N2 x y => H _ _ N2 x y.lwn)
    have hl2 := hl1 N1 s1
    have er : ∀ x, nb_rd N1 1 x = nb_rd N 1 x := fun x => congrFun s1.2 x
    have hc1 : nb_rd N1 1 (nb_add (6 * k) 2) = 0 := by rw [er]; exact hc
    exact (q_law_law_148 (h1 := by first | decide | omega) (h2 := by first | decide | omega) (h3 := by first | decide | omega) (h4 := by first | decide | omega) (h5 := by first | decide | omega) ..).trans ((if_pos hc1).trans ((q_law_law_150  ..).trans ((q_law_law_151 (h1 := by first | decide | omega) ..).trans (by simp only [er]))))
  · refine lw_case (pa_honesty _ _ (Or.inr rfl)) hI k0 (by omega) ((q_law_law_144 (h1 := by first | decide | omega) (h2 := by first | decide | omega) (h3 := by first | decide | omega) (h4 := by first | decide | omega) (h5 := by first | decide | omega) ..).trans ((if_neg hc).trans ((q_law_law_145  ..).trans (q_law_law_147 (h1 := by first | decide | omega) ..)))) (fun N1 s1 s => ?_) (fun N2 s => (q_law_law_152 ..).trans (if_pos rfl)) (fun N2 x y => H _ _ N2 x y.lwn)
    have hl2 := hl1 N1 s1
    have er : ∀ x, nb_rd N1 1 x = nb_rd N 1 x := fun x => congrFun s1.2 x
    have hc1 : ¬ nb_rd N1 1 (nb_add (6 * k) 2) = 0 := by rw [er]; exact hc
    exact (q_law_law_148 (h1 := by first | decide | omega) (h2 := by first | decide | omega) (h3 := by first | decide | omega) (h4 := by first | decide | omega) (h5 := by first | decide | omega) ..).trans ((if_neg hc1).trans ((q_law_law_149  ..).trans ((q_law_law_151 (h1 := by first | decide | omega) ..).trans (by simp only [er]))))
theorem lc_32 (hI : pu_I N k) (k0 : 0 ≤ k) (hl : nb_ln N 1 = L) (hb : 6 * k + 6 ≤ L) (hL : L ≤ 3072) (H : ∀ v5 v6 N2, pu_I N2 (k + 1) → pu_lwn N2 N → nb_W 293 239 [(3, 1), (19, 2), (20, 603), (5, 619), (0, 6 * k), v5, v6] [] N2 Q) : nb_W 293 154 [(3, 1), (19, 2), (20, 603), (5, 619), (0, 6 * k), v5, v6] [] N Q := by
  have a1 : nb_add (6 * k) 1 = 6 * k + 1 := nb_add_eq (by omega) (by omega)
  have a2 : nb_add (6 * k) 2 = 6 * k + 2 := nb_add_eq (by omega) (by omega)
  have a3 : nb_add (6 * k) 3 = 6 * k + 3 := nb_add_eq (by omega) (by omega)
  have a4 : nb_add (6 * k) 4 = 6 * k + 4 := nb_add_eq (by omega) (by omega)
  have a5 : nb_add (6 * k) 5 = 6 * k + 5 := nb_add_eq (by omega) (by omega)
  have hl1 : ∀ N1 : nb_M, pu_sm N1 N → nb_ln N1 1 = L := fun N1 s1 => by
    unfold nb_ln at hl ⊢
    rw [s1.1]
    exact hl
  refine lw_case (pa_rest _) hI k0 (by omega) (q_law_law_154 (h1 := by first | decide | omega) (h2 := by first | decide | omega) (h3 := by first | decide | omega) (h4 := by first | decide | omega) ..) (fun N1 s1 s => ?_) (fun N2 s => (q_law_law_156 ..).trans (if_pos rfl)) (fun N2 x y => H _ _ N2 x y.lwn)
  have hl2 := hl1 N1 s1
  have er : ∀ x, nb_rd N1 1 x = nb_rd N 1 x := fun x => congrFun s1.2 x
  exact (q_law_law_155 (h1 := by first | decide | omega) (h2 := by first | decide | omega) (h3 := by first | decide | omega) (h4 := by first | decide | omega) ..).trans (by simp only [er])
theorem lc_33 (hI : pu_I N k) (k0 : 0 ≤ k) (hl : nb_ln N 1 = L) (hb : 6 * k + 6 ≤ L) (hL : L ≤ 3072) (H : ∀ v5 v6 N2, pu_I N2 (k + 1) → pu_lwn N2 N → nb_W 293 239 [(3, 1), (19, 2), (20, 603), (5, 619), (0, 6 * k), v5, v6] [] N2 Q) : nb_W 293 158 [(3, 1), (19, 2), (20, 603), (5, 619), (0, 6 * k), v5, v6] [] N Q := by
  have a1 : nb_add (6 * k) 1 = 6 * k + 1 := nb_add_eq (by omega) (by omega)
  have a2 : nb_add (6 * k) 2 = 6 * k + 2 := nb_add_eq (by omega) (by omega)
  have a3 : nb_add (6 * k) 3 = 6 * k + 3 := nb_add_eq (by omega) (by omega)
  have a4 : nb_add (6 * k) 4 = 6 * k + 4 := nb_add_eq (by omega) (by omega)
  have a5 : nb_add (6 * k) 5 = 6 * k + 5 := nb_add_eq (by omega) (by omega)
  have hl1 : ∀ N1 : nb_M, pu_sm N1 N → nb_ln N1 1 = L := fun N1 s1 => by
    unfold nb_ln at hl ⊢
    rw [s1.1]
    exact hl
  refine lw_case (pa_rests) hI k0 (by omega) (q_law_law_158 (h1 := by first | decide | omega) ..) (fun N1 s1 s => ?_) (fun N2 s => (q_law_law_160 ..).trans (if_pos rfl)) (fun N2 x y => H _ _ N2 x y.lwn)
  have hl2 := hl1 N1 s1
  exact q_law_law_159 (h1 := by first | decide | omega) ..
theorem lc_34 (hI : pu_I N k) (k0 : 0 ≤ k) (hl : nb_ln N 1 = L) (hb : 6 * k + 6 ≤ L) (hL : L ≤ 3072) (H : ∀ v5 v6 N2, pu_I N2 (k + 1) → pu_lwn N2 N → nb_W 293 239 [(3, 1), (19, 2), (20, 603), (5, 619), (0, 6 * k), v5, v6] [] N2 Q) : nb_W 293 162 [(3, 1), (19, 2), (20, 603), (5, 619), (0, 6 * k), v5, v6] [] N Q := by
  have a1 : nb_add (6 * k) 1 = 6 * k + 1 := nb_add_eq (by omega) (by omega)
  have a2 : nb_add (6 * k) 2 = 6 * k + 2 := nb_add_eq (by omega) (by omega)
  have a3 : nb_add (6 * k) 3 = 6 * k + 3 := nb_add_eq (by omega) (by omega)
  have a4 : nb_add (6 * k) 4 = 6 * k + 4 := nb_add_eq (by omega) (by omega)
  have a5 : nb_add (6 * k) 5 = 6 * k + 5 := nb_add_eq (by omega) (by omega)
  have hl1 : ∀ N1 : nb_M, pu_sm N1 N → nb_ln N1 1 = L := fun N1 s1 => by
    unfold nb_ln at hl ⊢
    rw [s1.1]
    exact hl
  refine lw_case (pa_row _ _) hI k0 (by omega) (q_law_law_162 (h1 := by first | decide | omega) (h2 := by first | decide | omega) (h3 := by first | decide | omega) (h4 := by first | decide | omega) (h5 := by first | decide | omega) (h6 := by first | decide | omega) ..) (fun N1 s1 s => ?_) (fun N2 s => (q_law_law_164 ..).trans (if_pos rfl)) (fun N2 x y => H _ _ N2 x y.lwn)
  have hl2 := hl1 N1 s1
  have er : ∀ x, nb_rd N1 1 x = nb_rd N 1 x := fun x => congrFun s1.2 x
  exact (q_law_law_163 (h1 := by first | decide | omega) (h2 := by first | decide | omega) (h3 := by first | decide | omega) (h4 := by first | decide | omega) (h5 := by first | decide | omega) (h6 := by first | decide | omega) ..).trans (by simp only [er])
theorem lc_35 (hI : pu_I N k) (k0 : 0 ≤ k) (hl : nb_ln N 1 = L) (hb : 6 * k + 6 ≤ L) (hL : L ≤ 3072) (H : ∀ v5 v6 N2, pu_I N2 (k + 1) → pu_lwn N2 N → nb_W 293 239 [(3, 1), (19, 2), (20, 603), (5, 619), (0, 6 * k), v5, v6] [] N2 Q) : nb_W 293 166 [(3, 1), (19, 2), (20, 603), (5, 619), (0, 6 * k), v5, v6] [] N Q := by
  have a1 : nb_add (6 * k) 1 = 6 * k + 1 := nb_add_eq (by omega) (by omega)
  have a2 : nb_add (6 * k) 2 = 6 * k + 2 := nb_add_eq (by omega) (by omega)
  have a3 : nb_add (6 * k) 3 = 6 * k + 3 := nb_add_eq (by omega) (by omega)
  have a4 : nb_add (6 * k) 4 = 6 * k + 4 := nb_add_eq (by omega) (by omega)
  have a5 : nb_add (6 * k) 5 = 6 * k + 5 := nb_add_eq (by omega) (by omega)
  have hl1 : ∀ N1 : nb_M, pu_sm N1 N → nb_ln N1 1 = L := fun N1 s1 => by
    unfold nb_ln at hl ⊢
    rw [s1.1]
    exact hl
  refine lw_case (pa_rowSum _) hI k0 (by omega) (q_law_law_166 (h1 := by first | decide | omega) (h2 := by first | decide | omega) (h3 := by first | decide | omega) (h4 := by first | decide | omega) ..) (fun N1 s1 s => ?_) (fun N2 s => (q_law_law_168 ..).trans (if_pos rfl)) (fun N2 x y => H _ _ N2 x y.lwn)
  have hl2 := hl1 N1 s1
  have er : ∀ x, nb_rd N1 1 x = nb_rd N 1 x := fun x => congrFun s1.2 x
  exact (q_law_law_167 (h1 := by first | decide | omega) (h2 := by first | decide | omega) (h3 := by first | decide | omega) (h4 := by first | decide | omega) ..).trans (by simp only [er])
theorem lc_36 (hI : pu_I N k) (k0 : 0 ≤ k) (hl : nb_ln N 1 = L) (hb : 6 * k + 6 ≤ L) (hL : L ≤ 3072) (H : ∀ v5 v6 N2, pu_I N2 (k + 1) → pu_lwn N2 N → nb_W 293 239 [(3, 1), (19, 2), (20, 603), (5, 619), (0, 6 * k), v5, v6] [] N2 Q) : nb_W 293 170 [(3, 1), (19, 2), (20, 603), (5, 619), (0, 6 * k), v5, v6] [] N Q := by
  have a1 : nb_add (6 * k) 1 = 6 * k + 1 := nb_add_eq (by omega) (by omega)
  have a2 : nb_add (6 * k) 2 = 6 * k + 2 := nb_add_eq (by omega) (by omega)
  have a3 : nb_add (6 * k) 3 = 6 * k + 3 := nb_add_eq (by omega) (by omega)
  have a4 : nb_add (6 * k) 4 = 6 * k + 4 := nb_add_eq (by omega) (by omega)
  have a5 : nb_add (6 * k) 5 = 6 * k + 5 := nb_add_eq (by omega) (by omega)
  have hl1 : ∀ N1 : nb_M, pu_sm N1 N → nb_ln N1 1 = L := fun N1 s1 => by
    unfold nb_ln at hl ⊢
    rw [s1.1]
    exact hl
  refine lw_case (pa_liars) hI k0 (by omega) (q_law_law_170 (h1 := by first | decide | omega) ..) (fun N1 s1 s => ?_) (fun N2 s => (q_law_law_172 ..).trans (if_pos rfl)) (fun N2 x y => H _ _ N2 x y.lwn)
  have hl2 := hl1 N1 s1
  exact q_law_law_171 (h1 := by first | decide | omega) ..
theorem lc_37 (hI : pu_I N k) (k0 : 0 ≤ k) (hl : nb_ln N 1 = L) (hb : 6 * k + 6 ≤ L) (hL : L ≤ 3072) (H : ∀ v5 v6 N2, pu_I N2 (k + 1) → pu_lwn N2 N → nb_W 293 239 [(3, 1), (19, 2), (20, 603), (5, 619), (0, 6 * k), v5, v6] [] N2 Q) : nb_W 293 174 [(3, 1), (19, 2), (20, 603), (5, 619), (0, 6 * k), v5, v6] [] N Q := by
  have a1 : nb_add (6 * k) 1 = 6 * k + 1 := nb_add_eq (by omega) (by omega)
  have a2 : nb_add (6 * k) 2 = 6 * k + 2 := nb_add_eq (by omega) (by omega)
  have a3 : nb_add (6 * k) 3 = 6 * k + 3 := nb_add_eq (by omega) (by omega)
  have a4 : nb_add (6 * k) 4 = 6 * k + 4 := nb_add_eq (by omega) (by omega)
  have a5 : nb_add (6 * k) 5 = 6 * k + 5 := nb_add_eq (by omega) (by omega)
  have hl1 : ∀ N1 : nb_M, pu_sm N1 N → nb_ln N1 1 = L := fun N1 s1 => by
    unfold nb_ln at hl ⊢
    rw [s1.1]
    exact hl
  refine lw_case (pa_surely _ _) hI k0 (by omega) (q_law_law_174 (h1 := by first | decide | omega) (h2 := by first | decide | omega) (h3 := by first | decide | omega) (h4 := by first | decide | omega) (h5 := by first | decide | omega) (h6 := by first | decide | omega) ..) (fun N1 s1 s => ?_) (fun N2 s => (q_law_law_176 ..).trans (if_pos rfl)) (fun N2 x y => H _ _ N2 x y.lwn)
  have hl2 := hl1 N1 s1
  have er : ∀ x, nb_rd N1 1 x = nb_rd N 1 x := fun x => congrFun s1.2 x
  exact (q_law_law_175 (h1 := by first | decide | omega) (h2 := by first | decide | omega) (h3 := by first | decide | omega) (h4 := by first | decide | omega) (h5 := by first | decide | omega) (h6 := by first | decide | omega) ..).trans (by simp only [er])
theorem lc_38 (hI : pu_I N k) (k0 : 0 ≤ k) (hl : nb_ln N 1 = L) (hb : 6 * k + 6 ≤ L) (hL : L ≤ 3072) (H : ∀ v5 v6 N2, pu_I N2 (k + 1) → pu_lwn N2 N → nb_W 293 239 [(3, 1), (19, 2), (20, 603), (5, 619), (0, 6 * k), v5, v6] [] N2 Q) : nb_W 293 178 [(3, 1), (19, 2), (20, 603), (5, 619), (0, 6 * k), v5, v6] [] N Q := by
  have a1 : nb_add (6 * k) 1 = 6 * k + 1 := nb_add_eq (by omega) (by omega)
  have a2 : nb_add (6 * k) 2 = 6 * k + 2 := nb_add_eq (by omega) (by omega)
  have a3 : nb_add (6 * k) 3 = 6 * k + 3 := nb_add_eq (by omega) (by omega)
  have a4 : nb_add (6 * k) 4 = 6 * k + 4 := nb_add_eq (by omega) (by omega)
  have a5 : nb_add (6 * k) 5 = 6 * k + 5 := nb_add_eq (by omega) (by omega)
  have hl1 : ∀ N1 : nb_M, pu_sm N1 N → nb_ln N1 1 = L := fun N1 s1 => by
    unfold nb_ln at hl ⊢
    rw [s1.1]
    exact hl
  refine lw_case (pa_so) hI k0 (by omega) (q_law_law_178 (h1 := by first | decide | omega) ..) (fun N1 s1 s => ?_) (fun N2 s => (q_law_law_180 ..).trans (if_pos rfl)) (fun N2 x y => H _ _ N2 x y.lwn)
  have hl2 := hl1 N1 s1
  exact q_law_law_179 (h1 := by first | decide | omega) ..
theorem lc_39 (hI : pu_I N k) (k0 : 0 ≤ k) (hl : nb_ln N 1 = L) (hb : 6 * k + 6 ≤ L) (hL : L ≤ 3072) (H : ∀ v5 v6 N2, pu_I N2 (k + 1) → pu_lwn N2 N → nb_W 293 239 [(3, 1), (19, 2), (20, 603), (5, 619), (0, 6 * k), v5, v6] [] N2 Q) : nb_W 293 182 [(3, 1), (19, 2), (20, 603), (5, 619), (0, 6 * k), v5, v6] [] N Q := by
  have a1 : nb_add (6 * k) 1 = 6 * k + 1 := nb_add_eq (by omega) (by omega)
  have a2 : nb_add (6 * k) 2 = 6 * k + 2 := nb_add_eq (by omega) (by omega)
  have a3 : nb_add (6 * k) 3 = 6 * k + 3 := nb_add_eq (by omega) (by omega)
  have a4 : nb_add (6 * k) 4 = 6 * k + 4 := nb_add_eq (by omega) (by omega)
  have a5 : nb_add (6 * k) 5 = 6 * k + 5 := nb_add_eq (by omega) (by omega)
  have hl1 : ∀ N1 : nb_M, pu_sm N1 N → nb_ln N1 1 = L := fun N1 s1 => by
    unfold nb_ln at hl ⊢
    rw [s1.1]
    exact hl
  refine lw_case (pa_pass _) hI k0 (by omega) (q_law_law_182 (h1 := by first | decide | omega) (h2 := by first | decide | omega) (h3 := by first | decide | omega) (h4 := by first | decide | omega) ..) (fun N1 s1 s => ?_) (fun N2 s => (q_law_law_184 ..).trans (if_pos rfl)) (fun N2 x y => H _ _ N2 x y.lwn)
  have hl2 := hl1 N1 s1
  have er : ∀ x, nb_rd N1 1 x = nb_rd N 1 x := fun x => congrFun s1.2 x
  exact (q_law_law_183 (h1 := by first | decide | omega) (h2 := by first | decide | omega) (h3 := by first | decide | omega) (h4 := by first | decide | omega) ..).trans (by simp only [er])
theorem lc_40 (hI : pu_I N k) (k0 : 0 ≤ k) (hl : nb_ln N 1 = L) (hb : 6 * k + 6 ≤ L) (hL : L ≤ 3072) (H : ∀ v5 v6 N2, pu_I N2 (k + 1) → pu_lwn N2 N → nb_W 293 239 [(3, 1), (19, 2), (20, 603), (5, 619), (0, 6 * k), v5, v6] [] N2 Q) : nb_W 293 186 [(3, 1), (19, 2), (20, 603), (5, 619), (0, 6 * k), v5, v6] [] N Q := by
  have a1 : nb_add (6 * k) 1 = 6 * k + 1 := nb_add_eq (by omega) (by omega)
  have a2 : nb_add (6 * k) 2 = 6 * k + 2 := nb_add_eq (by omega) (by omega)
  have a3 : nb_add (6 * k) 3 = 6 * k + 3 := nb_add_eq (by omega) (by omega)
  have a4 : nb_add (6 * k) 4 = 6 * k + 4 := nb_add_eq (by omega) (by omega)
  have a5 : nb_add (6 * k) 5 = 6 * k + 5 := nb_add_eq (by omega) (by omega)
  have hl1 : ∀ N1 : nb_M, pu_sm N1 N → nb_ln N1 1 = L := fun N1 s1 => by
    unfold nb_ln at hl ⊢
    rw [s1.1]
    exact hl
  refine lw_case (pa_moves _ _) hI k0 (by omega) (q_law_law_186 (h1 := by first | decide | omega) (h2 := by first | decide | omega) (h3 := by first | decide | omega) (h4 := by first | decide | omega) (h5 := by first | decide | omega) (h6 := by first | decide | omega) ..) (fun N1 s1 s => ?_) (fun N2 s => (q_law_law_188 ..).trans (if_pos rfl)) (fun N2 x y => H _ _ N2 x y.lwn)
  have hl2 := hl1 N1 s1
  have er : ∀ x, nb_rd N1 1 x = nb_rd N 1 x := fun x => congrFun s1.2 x
  exact (q_law_law_187 (h1 := by first | decide | omega) (h2 := by first | decide | omega) (h3 := by first | decide | omega) (h4 := by first | decide | omega) (h5 := by first | decide | omega) (h6 := by first | decide | omega) ..).trans (by simp only [er])
theorem lc_41 (hI : pu_I N k) (k0 : 0 ≤ k) (hl : nb_ln N 1 = L) (hb : 6 * k + 6 ≤ L) (hL : L ≤ 3072) (H : ∀ v5 v6 N2, pu_I N2 (k + 1) → pu_lwn N2 N → nb_W 293 239 [(3, 1), (19, 2), (20, 603), (5, 619), (0, 6 * k), v5, v6] [] N2 Q) : nb_W 293 190 [(3, 1), (19, 2), (20, 603), (5, 619), (0, 6 * k), v5, v6] [] N Q := by
  have a1 : nb_add (6 * k) 1 = 6 * k + 1 := nb_add_eq (by omega) (by omega)
  have a2 : nb_add (6 * k) 2 = 6 * k + 2 := nb_add_eq (by omega) (by omega)
  have a3 : nb_add (6 * k) 3 = 6 * k + 3 := nb_add_eq (by omega) (by omega)
  have a4 : nb_add (6 * k) 4 = 6 * k + 4 := nb_add_eq (by omega) (by omega)
  have a5 : nb_add (6 * k) 5 = 6 * k + 5 := nb_add_eq (by omega) (by omega)
  have hl1 : ∀ N1 : nb_M, pu_sm N1 N → nb_ln N1 1 = L := fun N1 s1 => by
    unfold nb_ln at hl ⊢
    rw [s1.1]
    exact hl
  refine lw_case (pa_lets _ _) hI k0 (by omega) (q_law_law_190 (h1 := by first | decide | omega) (h2 := by first | decide | omega) (h3 := by first | decide | omega) (h4 := by first | decide | omega) (h5 := by first | decide | omega) (h6 := by first | decide | omega) ..) (fun N1 s1 s => ?_) (fun N2 s => (q_law_law_192 ..).trans (if_pos rfl)) (fun N2 x y => H _ _ N2 x y.lwn)
  have hl2 := hl1 N1 s1
  have er : ∀ x, nb_rd N1 1 x = nb_rd N 1 x := fun x => congrFun s1.2 x
  exact (q_law_law_191 (h1 := by first | decide | omega) (h2 := by first | decide | omega) (h3 := by first | decide | omega) (h4 := by first | decide | omega) (h5 := by first | decide | omega) (h6 := by first | decide | omega) ..).trans (by simp only [er])
theorem lc_42 (hI : pu_I N k) (k0 : 0 ≤ k) (hl : nb_ln N 1 = L) (hb : 6 * k + 6 ≤ L) (hL : L ≤ 3072) (H : ∀ v5 v6 N2, pu_I N2 (k + 1) → pu_lwn N2 N → nb_W 293 239 [(3, 1), (19, 2), (20, 603), (5, 619), (0, 6 * k), v5, v6] [] N2 Q) : nb_W 293 194 [(3, 1), (19, 2), (20, 603), (5, 619), (0, 6 * k), v5, v6] [] N Q := by
  have a1 : nb_add (6 * k) 1 = 6 * k + 1 := nb_add_eq (by omega) (by omega)
  have a2 : nb_add (6 * k) 2 = 6 * k + 2 := nb_add_eq (by omega) (by omega)
  have a3 : nb_add (6 * k) 3 = 6 * k + 3 := nb_add_eq (by omega) (by omega)
  have a4 : nb_add (6 * k) 4 = 6 * k + 4 := nb_add_eq (by omega) (by omega)
  have a5 : nb_add (6 * k) 5 = 6 * k + 5 := nb_add_eq (by omega) (by omega)
  have hl1 : ∀ N1 : nb_M, pu_sm N1 N → nb_ln N1 1 = L := fun N1 s1 => by
    unfold nb_ln at hl ⊢
    rw [s1.1]
    exact hl
  refine lw_case (pa_calls _) hI k0 (by omega) (q_law_law_194 (h1 := by first | decide | omega) (h2 := by first | decide | omega) (h3 := by first | decide | omega) (h4 := by first | decide | omega) ..) (fun N1 s1 s => ?_) (fun N2 s => (q_law_law_196 ..).trans (if_pos rfl)) (fun N2 x y => H _ _ N2 x y.lwn)
  have hl2 := hl1 N1 s1
  have er : ∀ x, nb_rd N1 1 x = nb_rd N 1 x := fun x => congrFun s1.2 x
  exact (q_law_law_195 (h1 := by first | decide | omega) (h2 := by first | decide | omega) (h3 := by first | decide | omega) (h4 := by first | decide | omega) ..).trans (by simp only [er])
theorem lc_43 (hI : pu_I N k) (k0 : 0 ≤ k) (hl : nb_ln N 1 = L) (hb : 6 * k + 6 ≤ L) (hL : L ≤ 3072) (H : ∀ v5 v6 N2, pu_I N2 (k + 1) → pu_lwn N2 N → nb_W 293 239 [(3, 1), (19, 2), (20, 603), (5, 619), (0, 6 * k), v5, v6] [] N2 Q) : nb_W 293 198 [(3, 1), (19, 2), (20, 603), (5, 619), (0, 6 * k), v5, v6] [] N Q := by
  have a1 : nb_add (6 * k) 1 = 6 * k + 1 := nb_add_eq (by omega) (by omega)
  have a2 : nb_add (6 * k) 2 = 6 * k + 2 := nb_add_eq (by omega) (by omega)
  have a3 : nb_add (6 * k) 3 = 6 * k + 3 := nb_add_eq (by omega) (by omega)
  have a4 : nb_add (6 * k) 4 = 6 * k + 4 := nb_add_eq (by omega) (by omega)
  have a5 : nb_add (6 * k) 5 = 6 * k + 5 := nb_add_eq (by omega) (by omega)
  have hl1 : ∀ N1 : nb_M, pu_sm N1 N → nb_ln N1 1 = L := fun N1 s1 => by
    unfold nb_ln at hl ⊢
    rw [s1.1]
    exact hl
  refine lw_case (pa_leaves _) hI k0 (by omega) (q_law_law_198 (h1 := by first | decide | omega) (h2 := by first | decide | omega) (h3 := by first | decide | omega) (h4 := by first | decide | omega) ..) (fun N1 s1 s => ?_) (fun N2 s => (q_law_law_200 ..).trans (if_pos rfl)) (fun N2 x y => H _ _ N2 x y.lwn)
  have hl2 := hl1 N1 s1
  have er : ∀ x, nb_rd N1 1 x = nb_rd N 1 x := fun x => congrFun s1.2 x
  exact (q_law_law_199 (h1 := by first | decide | omega) (h2 := by first | decide | omega) (h3 := by first | decide | omega) (h4 := by first | decide | omega) ..).trans (by simp only [er])
theorem lc_44 (hI : pu_I N k) (k0 : 0 ≤ k) (hl : nb_ln N 1 = L) (hb : 6 * k + 6 ≤ L) (hL : L ≤ 3072) (H : ∀ v5 v6 N2, pu_I N2 (k + 1) → pu_lwn N2 N → nb_W 293 239 [(3, 1), (19, 2), (20, 603), (5, 619), (0, 6 * k), v5, v6] [] N2 Q) : nb_W 293 202 [(3, 1), (19, 2), (20, 603), (5, 619), (0, 6 * k), v5, v6] [] N Q := by
  have a1 : nb_add (6 * k) 1 = 6 * k + 1 := nb_add_eq (by omega) (by omega)
  have a2 : nb_add (6 * k) 2 = 6 * k + 2 := nb_add_eq (by omega) (by omega)
  have a3 : nb_add (6 * k) 3 = 6 * k + 3 := nb_add_eq (by omega) (by omega)
  have a4 : nb_add (6 * k) 4 = 6 * k + 4 := nb_add_eq (by omega) (by omega)
  have a5 : nb_add (6 * k) 5 = 6 * k + 5 := nb_add_eq (by omega) (by omega)
  have hl1 : ∀ N1 : nb_M, pu_sm N1 N → nb_ln N1 1 = L := fun N1 s1 => by
    unfold nb_ln at hl ⊢
    rw [s1.1]
    exact hl
  refine lw_case (pa_undo) hI k0 (by omega) (q_law_law_202 (h1 := by first | decide | omega) ..) (fun N1 s1 s => ?_) (fun N2 s => (q_law_law_204 ..).trans (if_pos rfl)) (fun N2 x y => H _ _ N2 x y.lwn)
  have hl2 := hl1 N1 s1
  exact q_law_law_203 (h1 := by first | decide | omega) ..
theorem lc_45 (hI : pu_I N k) (k0 : 0 ≤ k) (hl : nb_ln N 1 = L) (hb : 6 * k + 6 ≤ L) (hL : L ≤ 3072) (H : ∀ v5 v6 N2, pu_I N2 (k + 1) → pu_lwn N2 N → nb_W 293 239 [(3, 1), (19, 2), (20, 603), (5, 619), (0, 6 * k), v5, v6] [] N2 Q) : nb_W 293 206 [(3, 1), (19, 2), (20, 603), (5, 619), (0, 6 * k), v5, v6] [] N Q := by
  have a1 : nb_add (6 * k) 1 = 6 * k + 1 := nb_add_eq (by omega) (by omega)
  have a2 : nb_add (6 * k) 2 = 6 * k + 2 := nb_add_eq (by omega) (by omega)
  have a3 : nb_add (6 * k) 3 = 6 * k + 3 := nb_add_eq (by omega) (by omega)
  have a4 : nb_add (6 * k) 4 = 6 * k + 4 := nb_add_eq (by omega) (by omega)
  have a5 : nb_add (6 * k) 5 = 6 * k + 5 := nb_add_eq (by omega) (by omega)
  have hl1 : ∀ N1 : nb_M, pu_sm N1 N → nb_ln N1 1 = L := fun N1 s1 => by
    unfold nb_ln at hl ⊢
    rw [s1.1]
    exact hl
  refine lw_case (pa_image) hI k0 (by omega) (q_law_law_206 (h1 := by first | decide | omega) ..) (fun N1 s1 s => ?_) (fun N2 s => (q_law_law_208 ..).trans (if_pos rfl)) (fun N2 x y => H _ _ N2 x y.lwn)
  have hl2 := hl1 N1 s1
  exact q_law_law_207 (h1 := by first | decide | omega) ..
theorem lc_46 (hI : pu_I N k) (k0 : 0 ≤ k) (hl : nb_ln N 1 = L) (hb : 6 * k + 6 ≤ L) (hL : L ≤ 3072) (H : ∀ v5 v6 N2, pu_I N2 (k + 1) → pu_lwn N2 N → nb_W 293 239 [(3, 1), (19, 2), (20, 603), (5, 619), (0, 6 * k), v5, v6] [] N2 Q) : nb_W 293 210 [(3, 1), (19, 2), (20, 603), (5, 619), (0, 6 * k), v5, v6] [] N Q := by
  have a1 : nb_add (6 * k) 1 = 6 * k + 1 := nb_add_eq (by omega) (by omega)
  have a2 : nb_add (6 * k) 2 = 6 * k + 2 := nb_add_eq (by omega) (by omega)
  have a3 : nb_add (6 * k) 3 = 6 * k + 3 := nb_add_eq (by omega) (by omega)
  have a4 : nb_add (6 * k) 4 = 6 * k + 4 := nb_add_eq (by omega) (by omega)
  have a5 : nb_add (6 * k) 5 = 6 * k + 5 := nb_add_eq (by omega) (by omega)
  have hl1 : ∀ N1 : nb_M, pu_sm N1 N → nb_ln N1 1 = L := fun N1 s1 => by
    unfold nb_ln at hl ⊢
    rw [s1.1]
    exact hl
  refine lw_case (pa_back _) hI k0 (by omega) (q_law_law_210 (h1 := by first | decide | omega) (h2 := by first | decide | omega) (h3 := by first | decide | omega) (h4 := by first | decide | omega) ..) (fun N1 s1 s => ?_) (fun N2 s => (q_law_law_212 ..).trans (if_pos rfl)) (fun N2 x y => H _ _ N2 x y.lwn)
  have hl2 := hl1 N1 s1
  have er : ∀ x, nb_rd N1 1 x = nb_rd N 1 x := fun x => congrFun s1.2 x
  exact (q_law_law_211 (h1 := by first | decide | omega) (h2 := by first | decide | omega) (h3 := by first | decide | omega) (h4 := by first | decide | omega) ..).trans (by simp only [er])
theorem lc_47 (hI : pu_I N k) (k0 : 0 ≤ k) (hl : nb_ln N 1 = L) (hb : 6 * k + 6 ≤ L) (hL : L ≤ 3072) (H : ∀ v5 v6 N2, pu_I N2 (k + 1) → pu_lwn N2 N → nb_W 293 239 [(3, 1), (19, 2), (20, 603), (5, 619), (0, 6 * k), v5, v6] [] N2 Q) : nb_W 293 214 [(3, 1), (19, 2), (20, 603), (5, 619), (0, 6 * k), v5, v6] [] N Q := by
  have a1 : nb_add (6 * k) 1 = 6 * k + 1 := nb_add_eq (by omega) (by omega)
  have a2 : nb_add (6 * k) 2 = 6 * k + 2 := nb_add_eq (by omega) (by omega)
  have a3 : nb_add (6 * k) 3 = 6 * k + 3 := nb_add_eq (by omega) (by omega)
  have a4 : nb_add (6 * k) 4 = 6 * k + 4 := nb_add_eq (by omega) (by omega)
  have a5 : nb_add (6 * k) 5 = 6 * k + 5 := nb_add_eq (by omega) (by omega)
  have hl1 : ∀ N1 : nb_M, pu_sm N1 N → nb_ln N1 1 = L := fun N1 s1 => by
    unfold nb_ln at hl ⊢
    rw [s1.1]
    exact hl
  refine lw_case (pa_told _ _) hI k0 (by omega) (q_law_law_214 (h1 := by first | decide | omega) (h2 := by first | decide | omega) (h3 := by first | decide | omega) (h4 := by first | decide | omega) (h5 := by first | decide | omega) (h6 := by first | decide | omega) ..) (fun N1 s1 s => ?_) (fun N2 s => (q_law_law_216 ..).trans (if_pos rfl)) (fun N2 x y => H _ _ N2 x y.lwn)
  have hl2 := hl1 N1 s1
  have er : ∀ x, nb_rd N1 1 x = nb_rd N 1 x := fun x => congrFun s1.2 x
  exact (q_law_law_215 (h1 := by first | decide | omega) (h2 := by first | decide | omega) (h3 := by first | decide | omega) (h4 := by first | decide | omega) (h5 := by first | decide | omega) (h6 := by first | decide | omega) ..).trans (by simp only [er])
theorem lc_48 (hI : pu_I N k) (k0 : 0 ≤ k) (hl : nb_ln N 1 = L) (hb : 6 * k + 6 ≤ L) (hL : L ≤ 3072) (H : ∀ v5 v6 N2, pu_I N2 (k + 1) → pu_lwn N2 N → nb_W 293 239 [(3, 1), (19, 2), (20, 603), (5, 619), (0, 6 * k), v5, v6] [] N2 Q) : nb_W 293 218 [(3, 1), (19, 2), (20, 603), (5, 619), (0, 6 * k), v5, v6] [] N Q := by
  have a1 : nb_add (6 * k) 1 = 6 * k + 1 := nb_add_eq (by omega) (by omega)
  have a2 : nb_add (6 * k) 2 = 6 * k + 2 := nb_add_eq (by omega) (by omega)
  have a3 : nb_add (6 * k) 3 = 6 * k + 3 := nb_add_eq (by omega) (by omega)
  have a4 : nb_add (6 * k) 4 = 6 * k + 4 := nb_add_eq (by omega) (by omega)
  have a5 : nb_add (6 * k) 5 = 6 * k + 5 := nb_add_eq (by omega) (by omega)
  have hl1 : ∀ N1 : nb_M, pu_sm N1 N → nb_ln N1 1 = L := fun N1 s1 => by
    unfold nb_ln at hl ⊢
    rw [s1.1]
    exact hl
  refine lw_case (pa_wants _ _) hI k0 (by omega) (q_law_law_218 (h1 := by first | decide | omega) (h2 := by first | decide | omega) (h3 := by first | decide | omega) (h4 := by first | decide | omega) (h5 := by first | decide | omega) (h6 := by first | decide | omega) ..) (fun N1 s1 s => ?_) (fun N2 s => (q_law_law_220 ..).trans (if_pos rfl)) (fun N2 x y => H _ _ N2 x y.lwn)
  have hl2 := hl1 N1 s1
  have er : ∀ x, nb_rd N1 1 x = nb_rd N 1 x := fun x => congrFun s1.2 x
  exact (q_law_law_219 (h1 := by first | decide | omega) (h2 := by first | decide | omega) (h3 := by first | decide | omega) (h4 := by first | decide | omega) (h5 := by first | decide | omega) (h6 := by first | decide | omega) ..).trans (by simp only [er])
theorem lc_49 (hI : pu_I N k) (k0 : 0 ≤ k) (hl : nb_ln N 1 = L) (hb : 6 * k + 6 ≤ L) (hL : L ≤ 3072) (H : ∀ v5 v6 N2, pu_I N2 (k + 1) → pu_lwn N2 N → nb_W 293 239 [(3, 1), (19, 2), (20, 603), (5, 619), (0, 6 * k), v5, v6] [] N2 Q) (hx : ∀ j, -2147483648 ≤ N.1 1 j ∧ N.1 1 j ≤ 2147483647) : nb_W 293 222 [(3, 1), (19, 2), (20, 603), (5, 619), (0, 6 * k), v5, v6] [] N Q := by
  have a1 : nb_add (6 * k) 1 = 6 * k + 1 := nb_add_eq (by omega) (by omega)
  have a2 : nb_add (6 * k) 2 = 6 * k + 2 := nb_add_eq (by omega) (by omega)
  have a3 : nb_add (6 * k) 3 = 6 * k + 3 := nb_add_eq (by omega) (by omega)
  have a4 : nb_add (6 * k) 4 = 6 * k + 4 := nb_add_eq (by omega) (by omega)
  have a5 : nb_add (6 * k) 5 = 6 * k + 5 := nb_add_eq (by omega) (by omega)
  obtain ⟨Ho, hHo, hx2, hx3, hh, hSn, hT, h14, h7, W⟩ := pu_I_at hI
  have n5 := hT.1.2.2.2.2.2.2.1
  obtain ⟨i, hi⟩ : ∃ i, i = nb_rd N 1 (nb_add (6 * k) 1) := ⟨_, rfl⟩
  have ir : -2147483648 ≤ i ∧ i ≤ 2147483647 := by rw [hi]; exact hx _
  have pr := pu_wn_rg (R := N.1 608) (i := i) (N.1 606 5).toNat
  obtain ⟨p, hp⟩ : ∃ p, p = pu_wn (N.1 608) i (N.1 606 5).toNat := ⟨_, rfl⟩
  rw [← hp] at pr
  have pr2 : -1 ≤ p ∧ p ≤ 10 := by omega
  have thr : (i < 0 ∨ p < 0) ↔ ¬ (0 ≤ i ∧ i < pu_cnt (N.1 608) 1 (N.1 606 5).toNat) := by
    by_cases c : i < 0
    · exact ⟨fun _ z => by omega, fun _ => Or.inl c⟩
    · by_cases d : i < pu_cnt (N.1 608) 1 (N.1 606 5).toNat
      · have g := pu_wn_some (R := N.1 608) (i := i) (N.1 606 5).toNat (by omega) d
        rw [← hp] at g
        exact ⟨fun z => by omega, fun z => absurd ⟨by omega, d⟩ z⟩
      · have g := pu_wn_none (R := N.1 608) (i := i) (N.1 606 5).toNat (by omega)
        rw [← hp] at g
        exact ⟨fun _ z => d z.2, fun _ => Or.inr (by omega)⟩
  refine nb_Wg (q_law_law_222 (h1 := by first | decide | omega) (h2 := by first | decide | omega) (h3 := by first | decide | omega) ..) ?_
  rw [← hi, led_F (i := i) (p := p) W (fun i0 => by
    show nb_R nb_P 0 0 [(15, 84), (0, i), (98, 0), (98, 0)] [] N = _
    rw [hp]
    exact sp_sc_waitN W nb_sc84 n5 ⟨i0, ir.2⟩ hSn.1) (by omega)]
  -- what follows, for both ends
  have rest : ∀ (N' : nb_M) (f : Int), nb_Lay N' → N'.2.1 = N.2.1 → (∀ a, a ≠ 619 → N'.1 a = N.1 a) → N'.2.2.1 ≤ N.2.2.1 + 1 → N'.2.2.2 ≤ N.2.2.2 + 6 → (f = 1 ∧ (i < 0 ∨ p < 0) ∨ f = 0 ∧ ¬ (i < 0 ∨ p < 0) ∧ N'.1 619 0 = p) → nb_W 293 223 [(3, 1), (19, 2), (20, 603), (5, 619), (0, 6 * k), v5, v6] [(0, f)] N' Q := by
    intro N' f W' h21 hr j1 j2 hf
    have hlN : nb_ln N' 1 = L := by
      unfold nb_ln at hl ⊢
      rw [h21]
      exact hl
    have e1 : nb_rd N' 1 (nb_add (6 * k) 1) = i := by
      rw [hi]
      exact congrFun (hr 1 (by decide)) _
    refine nb_Wg (q_law_law_223 (h1 := by first | decide | omega) (h2 := by first | decide | omega) (h3 := by first | decide | omega) (h4 := by first | decide | omega) ..) (nb_Gb ?_)
    rw [e1]
    have e8 : N'.1 608 = N.1 608 := hr 608 (by decide)
    have e6 : N'.1 606 = N.1 606 := hr 606 (by decide)
    have e3 : N'.1 603 = N.1 603 := hr 603 (by decide)
    refine nb_W.imp (sp_m_led (np := N.1 606 5) W' (by rw [e6]) n5 (by rw [e3]; exact h14)) ?_
    rw [e8, ← thr]
    rintro r N2 ⟨g1, g2⟩
    have fin : ∀ (x : Int) (v5 v6 : nb_V), N2 = nb_wr N' 603 0 x → nb_W 293 239 [(3, 1), (19, 2), (20, 603), (5, 619), (0, 6 * k), v5, v6] [] N2 Q := fun x v5 v6 h => by
      subst h
      refine H _ _ _ ?_ ⟨h21, j1, j2, ?_⟩
      · have q : pu_I (nb_wr N 603 0 x) (k + 1) := pu_I_q hI (pu_CQ_id W) (pu_MQ_th h7 hI.2.2.2.2.1.1.symm (W.wr (fun w => nb_nlit (by decide) (by decide)))) (fun z => hI.2.2.2.2.1.1.symm.trans z)
        refine pu_I_619 q h21 (fun a ha => ?_)
        by_cases c : a = 603
        · subst c
          funext j
          rw [nb_wr_1, nb_wr_1, e3]
        · rw [nb_wr_b c, nb_wr_b c]; exact hr a ha
      · rw [nb_wr_b (by decide)]; exact hr 1 (by decide)
    rcases hf with ⟨rfl, c⟩ | ⟨rfl, c, c0⟩
    · obtain ⟨rfl, h2⟩ := g2 c
      refine nb_Wg (q_law_law_224 (h1 := by first | decide | omega) ..) (nb_Gb ?_)
      refine nb_Wp (q_m_thrown_0 (h1 := by decide) ..) ?_
      refine nb_Wg (q_law_law_225 ..) ?_
      refine nb_Gt ?_ (nb_Gr ?_)
      · rw [h2]
        show (nb_wr N' 603 0 1).1 603 0 = 1
        rw [nb_wr_1, if_pos ⟨rfl, rfl⟩]
      refine nb_Wg (q_law_law_227 ..) (nb_Gf (by decide) (nb_Gr ?_))
      exact nb_Wg (q_law_law_230 ..) (nb_Gr (fin 1 _ _ h2))
    · obtain ⟨rfl, h2⟩ := g1 (Classical.byContradiction (fun z => c (thr.2 z)))
      have l619 : nb_ln N2 619 = 1 := by
        rw [h2]
        exact (W'.wr (fun w => nb_nlit (by decide) (by decide))).lk (by decide) (by decide +kernel)
      refine nb_Wg (q_law_law_224 (h1 := by first | decide | omega) ..) (nb_Gb ?_)
      refine nb_Wp (q_m_thrown_0 (h1 := by decide) ..) ?_
      refine nb_Wg (q_law_law_225 ..) ?_
      refine nb_Gt ?_ (nb_Gr ?_)
      · rw [h2]
        show (nb_wr N' 603 0 0).1 603 0 = 0
        rw [nb_wr_1, if_pos ⟨rfl, rfl⟩]
      refine nb_Wg (q_law_law_227 ..) (nb_Gt (by decide) (nb_Gr ?_))
      refine nb_Wg (q_law_law_228 (h1 := by decide) (h2 := by decide) (h3 := by omega) ..) ?_
      refine nb_Gt ?_ (nb_Gr ?_)
      · rw [nb_lcmp_0, pu_i2l_eq (by omega) (by omega), ← hp, h2]
        show (nb_wr N' 603 0 0).1 619 0 = p
        rw [nb_wr_b (by decide)]
        exact c0
      exact nb_Wg (q_law_law_230 ..) (nb_Gr (fin 0 _ _ h2))
  by_cases c : i < 0 ∨ p < 0
  · rw [if_pos c]
    refine nb_Gp (rest (nb_jk N) 1 (W.mono rfl (fun _ _ _ _ => rfl)) rfl (fun _ _ => rfl) (Nat.le_refl _) (Nat.le_refl _) (Or.inl ⟨rfl, c⟩))
  · rw [if_neg c]
    refine nb_Gp (rest (nb_wr N 619 0 p) 0 (W.wr (fun w => nb_nnum (by decide) (by decide))) rfl (fun a ha => nb_wr_b ha) (Nat.le_succ _) (by show N.2.2.2 ≤ N.2.2.2 + 6; omega) (Or.inr ⟨rfl, c, by rw [nb_wr_1, if_pos ⟨rfl, rfl⟩]⟩))
theorem lc_50 (hI : pu_I N k) (k0 : 0 ≤ k) (hl : nb_ln N 1 = L) (hb : 6 * k + 6 ≤ L) (hL : L ≤ 3072) (H : ∀ v5 v6 N2, pu_I N2 (k + 1) → pu_lwn N2 N → nb_W 293 239 [(3, 1), (19, 2), (20, 603), (5, 619), (0, 6 * k), v5, v6] [] N2 Q) : nb_W 293 231 [(3, 1), (19, 2), (20, 603), (5, 619), (0, 6 * k), v5, v6] [] N Q := by
  have a1 : nb_add (6 * k) 1 = 6 * k + 1 := nb_add_eq (by omega) (by omega)
  have a2 : nb_add (6 * k) 2 = 6 * k + 2 := nb_add_eq (by omega) (by omega)
  have a3 : nb_add (6 * k) 3 = 6 * k + 3 := nb_add_eq (by omega) (by omega)
  have a4 : nb_add (6 * k) 4 = 6 * k + 4 := nb_add_eq (by omega) (by omega)
  have a5 : nb_add (6 * k) 5 = 6 * k + 5 := nb_add_eq (by omega) (by omega)
  have hl1 : ∀ N1 : nb_M, pu_sm N1 N → nb_ln N1 1 = L := fun N1 s1 => by
    unfold nb_ln at hl ⊢
    rw [s1.1]
    exact hl
  refine lw_case (pa_size _) hI k0 (by omega) (q_law_law_231 (h1 := by first | decide | omega) (h2 := by first | decide | omega) (h3 := by first | decide | omega) (h4 := by first | decide | omega) ..) (fun N1 s1 s => ?_) (fun N2 s => (q_law_law_233 ..).trans (if_pos rfl)) (fun N2 x y => H _ _ N2 x y.lwn)
  have hl2 := hl1 N1 s1
  have er : ∀ x, nb_rd N1 1 x = nb_rd N 1 x := fun x => congrFun s1.2 x
  exact (q_law_law_232 (h1 := by first | decide | omega) (h2 := by first | decide | omega) (h3 := by first | decide | omega) (h4 := by first | decide | omega) ..).trans (by simp only [er])
theorem lc_51 (hI : pu_I N k) (k0 : 0 ≤ k) (hl : nb_ln N 1 = L) (hb : 6 * k + 6 ≤ L) (hL : L ≤ 3072) (H : ∀ v5 v6 N2, pu_I N2 (k + 1) → pu_lwn N2 N → nb_W 293 239 [(3, 1), (19, 2), (20, 603), (5, 619), (0, 6 * k), v5, v6] [] N2 Q) : nb_W 293 235 [(3, 1), (19, 2), (20, 603), (5, 619), (0, 6 * k), v5, v6] [] N Q := by
  have a1 : nb_add (6 * k) 1 = 6 * k + 1 := nb_add_eq (by omega) (by omega)
  have a2 : nb_add (6 * k) 2 = 6 * k + 2 := nb_add_eq (by omega) (by omega)
  have a3 : nb_add (6 * k) 3 = 6 * k + 3 := nb_add_eq (by omega) (by omega)
  have a4 : nb_add (6 * k) 4 = 6 * k + 4 := nb_add_eq (by omega) (by omega)
  have a5 : nb_add (6 * k) 5 = 6 * k + 5 := nb_add_eq (by omega) (by omega)
  have hl1 : ∀ N1 : nb_M, pu_sm N1 N → nb_ln N1 1 = L := fun N1 s1 => by
    unfold nb_ln at hl ⊢
    rw [s1.1]
    exact hl
  refine lw_case (pa_trouble) hI k0 (by omega) (q_law_law_235 (h1 := by first | decide | omega) ..) (fun N1 s1 s => ?_) (fun N2 s => (q_law_law_237 ..).trans (if_pos rfl)) (fun N2 x y => H _ _ N2 x y.lwn)
  have hl2 := hl1 N1 s1
  exact q_law_law_236 (h1 := by first | decide | omega) ..
theorem lc_all (hI : pu_I N k) (k0 : 0 ≤ k) (hl : nb_ln N 1 = L) (hb : 6 * k + 6 ≤ L) (hL : L ≤ 3072) (H : ∀ v5 v6 N2, pu_I N2 (k + 1) → pu_lwn N2 N → nb_W 293 239 [(3, 1), (19, 2), (20, 603), (5, 619), (0, 6 * k), v5, v6] [] N2 Q) (hx : ∀ j, -2147483648 ≤ N.1 1 j ∧ N.1 1 j ≤ 2147483647) : nb_W 293 7 [(3, 1), (19, 2), (20, 603), (5, 619), (0, 6 * k), v5, v6] [] N Q := by
  refine nb_Wg (q_law_law_7 (h1 := by first | decide | omega) (h2 := by first | decide | omega) (h3 := by first | decide | omega) ..) ?_
  refine nb_Gi (fun _ => nb_Gr (lc_0 hI k0 hl hb hL H)) (fun _ => ?_)
  refine nb_Gi (fun _ => nb_Gr (lc_1 hI k0 hl hb hL H)) (fun _ => ?_)
  refine nb_Gi (fun _ => nb_Gr (lc_2 hI k0 hl hb hL H)) (fun _ => ?_)
  refine nb_Gi (fun _ => nb_Gr (lc_3 hI k0 hl hb hL H)) (fun _ => ?_)
  refine nb_Gi (fun _ => nb_Gr (lc_4 hI k0 hl hb hL H)) (fun _ => ?_)
  refine nb_Gi (fun _ => nb_Gr (lc_5 hI k0 hl hb hL H)) (fun _ => ?_)
  refine nb_Gi (fun _ => nb_Gr (lc_6 hI k0 hl hb hL H)) (fun _ => ?_)
  refine nb_Gi (fun _ => nb_Gr (lc_7 hI k0 hl hb hL H)) (fun _ => ?_)
  refine nb_Gi (fun _ => nb_Gr (lc_8 hI k0 hl hb hL H)) (fun _ => ?_)
  refine nb_Gi (fun _ => nb_Gr (lc_9 hI k0 hl hb hL H)) (fun _ => ?_)
  refine nb_Gi (fun _ => nb_Gr (lc_10 hI k0 hl hb hL H)) (fun _ => ?_)
  refine nb_Gi (fun _ => nb_Gr (lc_11 hI k0 hl hb hL H)) (fun _ => ?_)
  refine nb_Gi (fun _ => nb_Gr (lc_12 hI k0 hl hb hL H)) (fun _ => ?_)
  refine nb_Gi (fun _ => nb_Gr (lc_13 hI k0 hl hb hL H)) (fun _ => ?_)
  refine nb_Gi (fun _ => nb_Gr (lc_14 hI k0 hl hb hL H)) (fun _ => ?_)
  refine nb_Gi (fun _ => nb_Gr (lc_15 hI k0 hl hb hL H)) (fun _ => ?_)
  refine nb_Gi (fun _ => nb_Gr (lc_16 hI k0 hl hb hL H)) (fun _ => ?_)
  refine nb_Gi (fun _ => nb_Gr (lc_17 hI k0 hl hb hL H)) (fun _ => ?_)
  refine nb_Gi (fun _ => nb_Gr (lc_18 hI k0 hl hb hL H)) (fun _ => ?_)
  refine nb_Gi (fun _ => nb_Gr (lc_19 hI k0 hl hb hL H)) (fun _ => ?_)
  refine nb_Gi (fun _ => nb_Gr (lc_20 hI k0 hl hb hL H)) (fun _ => ?_)
  refine nb_Gi (fun _ => nb_Gr (lc_21 hI k0 hl hb hL H)) (fun _ => ?_)
  refine nb_Gi (fun _ => nb_Gr (lc_22 hI k0 hl hb hL H)) (fun _ => ?_)
  refine nb_Gi (fun _ => nb_Gr (lc_23 hI k0 hl hb hL H)) (fun _ => ?_)
  refine nb_Gi (fun _ => nb_Gr (lc_24 hI k0 hl hb hL H)) (fun _ => ?_)
  refine nb_Gi (fun _ => nb_Gr (lc_25 hI k0 hl hb hL H)) (fun _ => ?_)
  refine nb_Gi (fun _ => nb_Gr (lc_26 hI k0 hl hb hL H)) (fun _ => ?_)
  refine nb_Gi (fun _ => nb_Gr (lc_27 hI k0 hl hb hL H)) (fun _ => ?_)
  refine nb_Gi (fun _ => nb_Gr (lc_28 hI k0 hl hb hL H)) (fun _ => ?_)
  refine nb_Gi (fun _ => nb_Gr (lc_29 hI k0 hl hb hL H)) (fun _ => ?_)
  refine nb_Gi (fun _ => nb_Gr (lc_30 hI k0 hl hb hL H)) (fun _ => ?_)
  refine nb_Gi (fun _ => nb_Gr (lc_31 hI k0 hl hb hL H)) (fun _ => ?_)
  refine nb_Gi (fun _ => nb_Gr (lc_32 hI k0 hl hb hL H)) (fun _ => ?_)
  refine nb_Gi (fun _ => nb_Gr (lc_33 hI k0 hl hb hL H)) (fun _ => ?_)
  refine nb_Gi (fun _ => nb_Gr (lc_34 hI k0 hl hb hL H)) (fun _ => ?_)
  refine nb_Gi (fun _ => nb_Gr (lc_35 hI k0 hl hb hL H)) (fun _ => ?_)
  refine nb_Gi (fun _ => nb_Gr (lc_36 hI k0 hl hb hL H)) (fun _ => ?_)
  refine nb_Gi (fun _ => nb_Gr (lc_37 hI k0 hl hb hL H)) (fun _ => ?_)
  refine nb_Gi (fun _ => nb_Gr (lc_38 hI k0 hl hb hL H)) (fun _ => ?_)
  refine nb_Gi (fun _ => nb_Gr (lc_39 hI k0 hl hb hL H)) (fun _ => ?_)
  refine nb_Gi (fun _ => nb_Gr (lc_40 hI k0 hl hb hL H)) (fun _ => ?_)
  refine nb_Gi (fun _ => nb_Gr (lc_41 hI k0 hl hb hL H)) (fun _ => ?_)
  refine nb_Gi (fun _ => nb_Gr (lc_42 hI k0 hl hb hL H)) (fun _ => ?_)
  refine nb_Gi (fun _ => nb_Gr (lc_43 hI k0 hl hb hL H)) (fun _ => ?_)
  refine nb_Gi (fun _ => nb_Gr (lc_44 hI k0 hl hb hL H)) (fun _ => ?_)
  refine nb_Gi (fun _ => nb_Gr (lc_45 hI k0 hl hb hL H)) (fun _ => ?_)
  refine nb_Gi (fun _ => nb_Gr (lc_46 hI k0 hl hb hL H)) (fun _ => ?_)
  refine nb_Gi (fun _ => nb_Gr (lc_47 hI k0 hl hb hL H)) (fun _ => ?_)
  refine nb_Gi (fun _ => nb_Gr (lc_48 hI k0 hl hb hL H)) (fun _ => ?_)
  refine nb_Gi (fun _ => nb_Gr (lc_49 hI k0 hl hb hL H hx)) (fun _ => ?_)
  refine nb_Gi (fun _ => nb_Gr (lc_50 hI k0 hl hb hL H)) (fun _ => ?_)
  refine nb_Gi (fun _ => nb_Gr (lc_51 hI k0 hl hb hL H)) (fun _ => ?_)
  obtain ⟨Ho, hHo, hx2, hx3, hh, hSn, hT, h14, h7, W⟩ := pu_I_at hI
  exact nb_Gr (H _ _ N (pu_I_q hI (pu_CQ_id W) ⟨W, rfl, hI.2.2.2.2.1.1.symm, h7, fun _ _ _ _ => rfl, fun _ _ _ _ _ _ _ _ => rfl⟩ (fun z => hI.2.2.2.2.1.1.symm.trans z)) ⟨rfl, by omega, by omega, rfl⟩)
