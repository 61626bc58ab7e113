/-! rules, printed by wip/gen -/
theorem w_m_copy_0 {l0 l1 l2 l3 l4 : Int} {v5 : nb_V} {M : nb_M} {Q : List nb_V → nb_M → Prop} {n0 n2 : Int} (h0 : l0 ≠ 0) (h2 : l2 ≠ 0) (h21 : l2 ≠ 1) (hn0 : nb_ln M l0 = n0) (hn2 : nb_ln M l2 = n2) (b0_ : 0 ≤ l1 ∧ l1 ≤ 2000) (b1_ : 0 ≤ l3 ∧ l3 ≤ 2000) (b2_ : 0 ≤ l4 ∧ l4 ≤ 2000) (H : nb_W 86 1 [(3, l0), (0, l1), (3, l2), (0, l3), (0, l4), (0, 0)] [] M Q) :
    nb_W 86 0 [(3, l0), (0, l1), (3, l2), (0, l3), (0, l4), v5] [] M Q := by
  replace H := nb_Hw H
  refine nb_Wg (q_m_copy_0 _ _ _ _ _ _ _) ?_
  refine nb_Gr ?_
  exact nb_Hu H

theorem w_m_copy_1 {l0 l1 l2 l3 l4 l5 : Int} {M : nb_M} {Q : List nb_V → nb_M → Prop} {n0 n2 : Int} (h0 : l0 ≠ 0) (h2 : l2 ≠ 0) (h21 : l2 ≠ 1) (hn0 : nb_ln M l0 = n0) (hn2 : nb_ln M l2 = n2) (b0_ : 0 ≤ l1 ∧ l1 ≤ 2000) (b1_ : 0 ≤ l3 ∧ l3 ≤ 2000) (b2_ : 0 ≤ l4 ∧ l4 ≤ 2000) (b3_ : 0 ≤ l5 ∧ l5 ≤ 2000) (H : (l5 < l4 → 0 ≤ l1 + l5 ∧ l1 + l5 < n0 ∧ 0 ≤ l3 + l5 ∧ l3 + l5 < n2 ∧ nb_W 86 1 [(3, l0), (0, l1), (3, l2), (0, l3), (0, l4), (0, l5 + 1)] [] (nb_wr M l2 (l3 + l5) (M.1 l0 (l1 + l5))) Q) ∧ (l4 ≤ l5 → Q [] M)) :
    nb_W 86 1 [(3, l0), (0, l1), (3, l2), (0, l3), (0, l4), (0, l5)] [] M Q := by
  replace H := nb_Hw H
  refine nb_Wg (q_m_copy_1 _ _ _ _ _ _ _) ?_
  refine nb_Gi (fun c7 => ?_) (fun c7 => ?_)
  · have H := nb_Hw ((nb_Hu H).1 c7)
    refine nb_Gr ?_
    obtain ⟨p0_, p1_, p2_, p3_, H⟩ := H
    replace H := nb_Hw H
    have E1 : nb_add l3 l5 = l3 + l5 := nb_add_eq (by omega) (by omega)
    have E2 : nb_add l1 l5 = l1 + l5 := nb_add_eq (by omega) (by omega)
    have N3 : nb_ln M l0 = n0 := hn0
    have E4 : nb_rd M l0 (l1 + l5) = M.1 l0 (l1 + l5) := nb_rd_1 _ _ _
    have N5 : nb_ln M l2 = n2 := hn2
    refine nb_Wg (q_m_copy_2 _ _ _ _ _ _ _ (by omega) (by rw [E2]; first | done | omega) (by rw [E2, N3]; first | done | omega) (by omega) (by omega) (by rw [E1]; first | done | omega) (by rw [E1, N5]; first | done | omega)) ?_
    simp only [E1, E2, E4]
    clear E1 E2 N3 E4 N5
    refine nb_Gr ?_
    have E6 : nb_add l5 1 = l5 + 1 := nb_add_eq (by omega) (by omega)
    refine nb_Wg (q_m_copy_3 _ _ _ _ _ _ _) ?_
    simp only [E6]
    clear E6
    refine nb_Gr ?_
    exact nb_Hu H
  · have H := nb_Hw ((nb_Hu H).2 (by omega))
    have c7 : l4 ≤ l5 := by omega
    refine nb_Gr ?_
    refine nb_Wg (q_m_copy_4 _ _ _ _ _ _ _) ?_
    refine nb_Gs ?_
    exact nb_Hu H
