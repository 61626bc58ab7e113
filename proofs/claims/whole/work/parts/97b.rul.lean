/-! rules, printed by wip/gen -/
theorem w_m_so_0 {v1 v2 : nb_V} {M : nb_M} {Q : List nb_V → nb_M → Prop} (W : nb_Lay M) (H : 0 ≤ M.1 603 14 ∧ M.1 603 14 ≤ 1 ∧ (M.1 603 14 = 0 → (nb_Lay (nb_wr (nb_wr (nb_wr M 603 0 0) 603 11 0) 603 11 1) → Q [(0, (-1))] (nb_wr (nb_wr (nb_wr M 603 0 0) 603 11 0) 603 11 1))) ∧ (M.1 603 14 ≠ 0 → nb_W 199 6 [(20, 603), (0, 0), (0, 0)] [] (nb_up (nb_up (nb_wr (nb_wr (nb_wr M 603 0 0) 603 11 0) 603 25 ((M.1 606) 4)) 612 (pu_cpy (M.1 606) (M.1 612) 23 0 18)) 613 (pu_cpy (M.1 606) (M.1 613) 41 0 70)) Q)) :
    nb_W 199 0 [(20, 603), v1, v2] [] M Q := by
  replace H := nb_Hw H
  refine nb_Wg (q_m_so_0 _ _ _ _ (by omega)) ?_
  refine nb_Gb ?_
  refine nb_Wg (q_m_good_0 _ _ (by omega)) ?_
  have W1 : nb_Lay (nb_wr M 603 0 0) := W.wr (fun w => (nb_nlit (by decide) (by decide)))
  refine nb_Gr ?_
  refine nb_Wg (q_m_good_1 _ _ (by omega)) ?_
  have W2 : nb_Lay (nb_wr (nb_wr M 603 0 0) 603 11 0) := W1.wr (fun w => (nb_nlit (by decide) (by decide)))
  refine nb_Gr ?_
  refine nb_Wg (q_m_good_2 _ _) ?_
  refine nb_Gs ?_
  show nb_W 199 1 [(20, 603), v1, v2] [] (nb_wr (nb_wr M 603 0 0) 603 11 0) _
  obtain ⟨p0_, p1_, H⟩ := H
  replace H := nb_Hw H
  have E3 : nb_rd (nb_wr (nb_wr M 603 0 0) 603 11 0) 603 14 = M.1 603 14 := nb_rdw (Or.inr (by decide)) (nb_rdw (Or.inr (by decide)) (nb_rd_1 _ _ _))
  refine nb_Wg (q_m_so_1 _ _ _ _ (by omega)) ?_
  simp only [E3]
  clear E3
  refine nb_Gi (fun c8 => ?_) (fun c8 => ?_)
  · have H := nb_Hw ((nb_Hu H).1 c8)
    refine nb_Gr ?_
    refine nb_Wg (q_m_so_2 _ _ _ _ (by omega)) ?_
    refine nb_Gb ?_
    refine nb_Wg (q_m_no_0 _ _ _ (by omega)) ?_
    have W4 : nb_Lay (nb_wr (nb_wr (nb_wr M 603 0 0) 603 11 0) 603 11 1) := W2.wr (fun w => (nb_nlit (by decide) (by decide)))
    refine nb_Gr ?_
    refine nb_Wg (q_m_no_1 _ _ _) ?_
    refine nb_Gs ?_
    show nb_W 199 3 [(20, 603), v1, v2] [(0, (-1))] (nb_wr (nb_wr (nb_wr M 603 0 0) 603 11 0) 603 11 1) _
    refine nb_Wg (q_m_so_3 _ _ _ _ _) ?_
    refine nb_Gs ?_
    exact nb_Hu H W4
  · have H := nb_Hw ((nb_Hu H).2 (by omega))
    have c8 : M.1 603 14 ≠ 0 := by omega
    refine nb_Gr ?_
    refine nb_Wg (q_m_so_4 _ _ _ _ (by omega)) ?_
    have W5 : nb_Lay (nb_wr (nb_wr (nb_wr M 603 0 0) 603 11 0) 603 25 ((M.1 606) 4)) := W2.wr (fun w => (nb_nlit (by decide) (by decide)))
    have W6 : nb_Lay (nb_up (nb_wr (nb_wr (nb_wr M 603 0 0) 603 11 0) 603 25 ((M.1 606) 4)) 612 (pu_cpy (M.1 606) (M.1 612) 23 0 18)) := W5.up (fun i w => (nb_nnum (by decide) (by decide)))
    have W7 : nb_Lay (nb_up (nb_up (nb_wr (nb_wr (nb_wr M 603 0 0) 603 11 0) 603 25 ((M.1 606) 4)) 612 (pu_cpy (M.1 606) (M.1 612) 23 0 18)) 613 (pu_cpy (M.1 606) (M.1 613) 41 0 70)) := W6.up (fun i w => (nb_nnum (by decide) (by decide)))
    rw [show nb_R nb_P 121 0 [(20, 603)] [] (nb_wr (nb_wr M 603 0 0) 603 11 0) = some ([], nb_up (nb_up (nb_wr (nb_wr (nb_wr M 603 0 0) 603 11 0) 603 25 ((M.1 606) 4)) 612 (pu_cpy (M.1 606) (M.1 612) 23 0 18)) 613 (pu_cpy (M.1 606) (M.1 613) 41 0 70)) from (sp_m_asTold W2).trans (by first | rfl | simp [nb_wr_up, nb_up_1, nb_up_up, nb_ud])]
    refine nb_Gp ?_
    show nb_W 199 5 [(20, 603), v1, v2] [] (nb_up (nb_up (nb_wr (nb_wr (nb_wr M 603 0 0) 603 11 0) 603 25 ((M.1 606) 4)) 612 (pu_cpy (M.1 606) (M.1 612) 23 0 18)) 613 (pu_cpy (M.1 606) (M.1 613) 41 0 70)) _
    refine nb_Wg (q_m_so_5 _ _ _ _) ?_
    refine nb_Gr ?_
    exact nb_Hu H

theorem w_c_so_0 {Ho : Int} {v1 v2 : nb_V} {M : nb_M} {Q : List nb_V → nb_M → Prop} (W : nb_Lay M) (hHo : nb_hs Ho) (hx2 : M.1 2 2 = Ho) (H : 0 ≤ M.1 Ho 13 ∧ M.1 Ho 13 ≤ 10 ∧ (0 < M.1 Ho 13 → nb_W 62 5 [(19, 2), (0, 0), (0, 0)] [] (nb_wr M 2 15 0) Q) ∧ (M.1 Ho 13 ≤ 0 → (nb_Lay (nb_wr M 2 15 1) → Q [(0, (-1))] (nb_wr M 2 15 1)))) :
    nb_W 62 0 [(19, 2), v1, v2] [] M Q := by
  replace H := nb_Hw H
  have uhHo := hHo
  unfold nb_hs at uhHo
  refine nb_Wg (q_c_so_0 _ _ _ _ (by omega)) ?_
  refine nb_Gb ?_
  obtain ⟨p0_, p1_, H⟩ := H
  replace H := nb_Hw H
  have E1 : nb_rd M 2 2 = Ho := hx2
  have E2 : nb_rd M Ho 13 = M.1 Ho 13 := nb_rd_1 _ _ _
  refine nb_Wg (q_c_isOpen_0 _ _ (by omega) (by rw [E1]; first | done | omega)) ?_
  simp only [E1, E2]
  clear E1 E2
  refine nb_Gi (fun c9 => ?_) (fun c9 => ?_)
  · have H := nb_Hw ((nb_Hu H).1 c9)
    refine nb_Gr ?_
    refine nb_Wg (q_c_isOpen_1 _ _) ?_
    refine nb_Gr ?_
    have E3 : nb_i2z 1 = 1 := by decide
    refine nb_Wg (q_c_isOpen_3 _ _ _) ?_
    simp only [E3]
    clear E3
    refine nb_Gs ?_
    show nb_W 62 1 [(19, 2), v1, v2] [(0, 1), (19, 2)] M _
    refine nb_Wg (q_c_so_1 _ _ _ _ _ _ (by omega)) ?_
    refine nb_Gb ?_
    refine nb_Wg (q_c_granted_0 _ _ _ _) ?_
    refine nb_Gf (by decide) ?_
    refine nb_Gr ?_
    refine nb_Wg (q_c_granted_1 _ _ _ _ _) ?_
    refine nb_Gr ?_
    refine nb_Wg (q_c_granted_3 _ _ _ _ _ _ (by omega)) ?_
    have W4 : nb_Lay (nb_wr M 2 15 0) := W.wr (fun w => (nb_nlit (by decide) (by decide)))
    refine nb_Gr ?_
    have E5 : nb_i2z 1 = 1 := by decide
    refine nb_Wg (q_c_granted_4 _ _ _ _) ?_
    simp only [E5]
    clear E5
    refine nb_Gs ?_
    show nb_W 62 2 [(19, 2), v1, v2] [(0, 1)] (nb_wr M 2 15 0) _
    refine nb_Wg (q_c_so_2 _ _ _ _ _) ?_
    refine nb_Gf (by decide) ?_
    refine nb_Gr ?_
    refine nb_Wg (q_c_so_4 _ _ _ _) ?_
    refine nb_Gr ?_
    exact nb_Hu H
  · have H := nb_Hw ((nb_Hu H).2 (by omega))
    have c9 : M.1 Ho 13 ≤ 0 := by omega
    refine nb_Gr ?_
    refine nb_Wg (q_c_isOpen_2 _ _) ?_
    refine nb_Gr ?_
    have E6 : nb_i2z 0 = 0 := by decide
    refine nb_Wg (q_c_isOpen_3 _ _ _) ?_
    simp only [E6]
    clear E6
    refine nb_Gs ?_
    show nb_W 62 1 [(19, 2), v1, v2] [(0, 0), (19, 2)] M _
    refine nb_Wg (q_c_so_1 _ _ _ _ _ _ (by omega)) ?_
    refine nb_Gb ?_
    refine nb_Wg (q_c_granted_0 _ _ _ _) ?_
    refine nb_Gt (by decide) ?_
    refine nb_Gr ?_
    refine nb_Wg (q_c_granted_2 _ _ _ _ _) ?_
    refine nb_Gr ?_
    refine nb_Wg (q_c_granted_3 _ _ _ _ _ _ (by omega)) ?_
    have W7 : nb_Lay (nb_wr M 2 15 1) := W.wr (fun w => (nb_nlit (by decide) (by decide)))
    refine nb_Gr ?_
    have E8 : nb_i2z 0 = 0 := by decide
    refine nb_Wg (q_c_granted_4 _ _ _ _) ?_
    simp only [E8]
    clear E8
    refine nb_Gs ?_
    show nb_W 62 2 [(19, 2), v1, v2] [(0, 0)] (nb_wr M 2 15 1) _
    refine nb_Wg (q_c_so_2 _ _ _ _ _) ?_
    refine nb_Gt (by decide) ?_
    refine nb_Gr ?_
    refine nb_Wg (q_c_so_3 _ _ _ _) ?_
    refine nb_Gs ?_
    exact nb_Hu H W7

theorem w_m_so_6 {l1 l2 : Int} {M : nb_M} {Q : List nb_V → nb_M → Prop} (W : nb_Lay M)  (b0_ : 0 ≤ l1 ∧ l1 ≤ 8) (b1_ : 0 ≤ l2 ∧ l2 ≤ 8) (H : 0 ≤ M.1 606 7 ∧ M.1 606 7 ≤ 8 ∧ (l2 < M.1 606 7 → 0 ≤ M.1 606 (161 + 3 * l2 + 2) ∧ M.1 606 (161 + 3 * l2 + 2) ≤ 9 ∧ 0 ≤ M.1 606 (161 + 3 * l2 + 1) ∧ M.1 606 (161 + 3 * l2 + 1) ≤ 9 ∧ (M.1 613 (7 * (M.1 606 (161 + 3 * l2 + 1)) + 2) < M.1 613 (7 * (M.1 606 (161 + 3 * l2 + 2)) + 2) → nb_W 199 6 [(20, 603), (0, l1 + 1), (0, l2 + 1)] [] M Q) ∧ (M.1 613 (7 * (M.1 606 (161 + 3 * l2 + 2)) + 2) ≤ M.1 613 (7 * (M.1 606 (161 + 3 * l2 + 1)) + 2) → (M.1 613 (7 * (M.1 606 (161 + 3 * l2 + 2)) + 2) = M.1 613 (7 * (M.1 606 (161 + 3 * l2 + 1)) + 2) → (M.1 606 (161 + 3 * l2 + 1) < M.1 606 (161 + 3 * l2 + 2) → nb_W 199 6 [(20, 603), (0, l1 + 1), (0, l2 + 1)] [] M Q) ∧ (M.1 606 (161 + 3 * l2 + 2) ≤ M.1 606 (161 + 3 * l2 + 1) → nb_W 199 6 [(20, 603), (0, l1), (0, l2 + 1)] [] M Q)) ∧ (M.1 613 (7 * (M.1 606 (161 + 3 * l2 + 2)) + 2) ≠ M.1 613 (7 * (M.1 606 (161 + 3 * l2 + 1)) + 2) → nb_W 199 6 [(20, 603), (0, l1), (0, l2 + 1)] [] M Q))) ∧ (M.1 606 7 ≤ l2 → Q [(0, l1)] M)) :
    nb_W 199 6 [(20, 603), (0, l1), (0, l2)] [] M Q := by
  replace H := nb_Hw H
  obtain ⟨p0_, p1_, H⟩ := H
  replace H := nb_Hw H
  have E1 : nb_rd M 603 15 = 606 := W.m15
  have N2 : nb_ln M 606 = 347 := W.lk (by decide) (by decide +kernel)
  have E3 : nb_rd M 606 7 = M.1 606 7 := nb_rd_1 _ _ _
  refine nb_Wg (q_m_so_6 _ _ _ _ (by omega) (by rw [E1]; first | done | omega) (by omega) (by rw [E1, N2]; first | done | omega)) ?_
  simp only [E1, E3]
  clear E1 N2 E3
  refine nb_Gi (fun c51 => ?_) (fun c51 => ?_)
  · have H := nb_Hw ((nb_Hu H).1 c51)
    refine nb_Gr ?_
    obtain ⟨p0_, p1_, p2_, p3_, H⟩ := H
    replace H := nb_Hw H
    have E4 : nb_rd M 603 15 = 606 := W.m15
    have E5 : nb_mul 3 l2 = 3 * l2 := nb_mul_eq (by omega) (by omega)
    have E6 : nb_add 161 (3 * l2) = 161 + 3 * l2 := (nb_add_eq (x := 161) (y := 3 * l2) (by omega) (by omega)).trans (by omega)
    have E7 : nb_add (161 + 3 * l2) 2 = 161 + 3 * l2 + 2 := nb_add_eq (by omega) (by omega)
    have N8 : nb_ln M 606 = 347 := W.lk (by decide) (by decide +kernel)
    have E9 : nb_rd M 606 (161 + 3 * l2 + 2) = M.1 606 (161 + 3 * l2 + 2) := nb_rd_1 _ _ _
    have E10 : nb_rd M 603 15 = 606 := W.m15
    have E11 : nb_mul 3 l2 = 3 * l2 := nb_mul_eq (by omega) (by omega)
    have E12 : nb_add 161 (3 * l2) = 161 + 3 * l2 := (nb_add_eq (x := 161) (y := 3 * l2) (by omega) (by omega)).trans (by omega)
    have E13 : nb_add (161 + 3 * l2) 1 = 161 + 3 * l2 + 1 := nb_add_eq (by omega) (by omega)
    have N14 : nb_ln M 606 = 347 := W.lk (by decide) (by decide +kernel)
    have E15 : nb_rd M 606 (161 + 3 * l2 + 1) = M.1 606 (161 + 3 * l2 + 1) := nb_rd_1 _ _ _
    refine nb_Wg (q_m_so_7 _ _ _ _ (by omega) (by rw [E4]; first | done | omega) (by rw [E5, E6, E7]; first | done | omega) (by rw [E5, E6, E7, E4, N8]; first | done | omega) (by rw [E11, E12, E13]; first | done | omega) (by rw [E11, E12, E13, E10, N14]; first | done | omega)) ?_
    simp only [E4, E5, E6, E7, E9, E10, E11, E12, E13, E15]
    clear E4 E5 E6 E7 N8 E9 E10 E11 E12 E13 N14 E15
    refine nb_Gb ?_
    refine nb_Wg (q_m_isBehind_0 _ _ _ _ (by omega)) ?_
    refine nb_Gb ?_
    have E16 : nb_rd M 603 24 = 613 := W.m24
    have E17 : nb_mul 7 (M.1 606 (161 + 3 * l2 + 2)) = 7 * (M.1 606 (161 + 3 * l2 + 2)) := nb_mul_eq (by omega) (by omega)
    have E18 : nb_add (7 * (M.1 606 (161 + 3 * l2 + 2))) 2 = 7 * (M.1 606 (161 + 3 * l2 + 2)) + 2 := nb_add_eq (by omega) (by omega)
    have N19 : nb_ln M 613 = 70 := W.lk (by decide) (by decide +kernel)
    have E20 : nb_rd M 613 (7 * (M.1 606 (161 + 3 * l2 + 2)) + 2) = M.1 613 (7 * (M.1 606 (161 + 3 * l2 + 2)) + 2) := nb_rd_1 _ _ _
    refine nb_Wg (q_m_man_0 _ _ _ _ (by omega) (by rw [E16]; first | done | omega) (by rw [E17, E18]; first | done | omega) (by rw [E17, E18, E16, N19]; first | done | omega)) ?_
    simp only [E16, E17, E18, E20]
    clear E16 E17 E18 N19 E20
    refine nb_Gs ?_
    show nb_W 137 1 [(20, 603), (0, M.1 606 (161 + 3 * l2 + 2)), (0, M.1 606 (161 + 3 * l2 + 1))] [(0, M.1 613 (7 * (M.1 606 (161 + 3 * l2 + 2)) + 2))] M _
    refine nb_Wg (q_m_isBehind_1 _ _ _ _ _ (by omega)) ?_
    refine nb_Gb ?_
    have E21 : nb_rd M 603 24 = 613 := W.m24
    have E22 : nb_mul 7 (M.1 606 (161 + 3 * l2 + 1)) = 7 * (M.1 606 (161 + 3 * l2 + 1)) := nb_mul_eq (by omega) (by omega)
    have E23 : nb_add (7 * (M.1 606 (161 + 3 * l2 + 1))) 2 = 7 * (M.1 606 (161 + 3 * l2 + 1)) + 2 := nb_add_eq (by omega) (by omega)
    have N24 : nb_ln M 613 = 70 := W.lk (by decide) (by decide +kernel)
    have E25 : nb_rd M 613 (7 * (M.1 606 (161 + 3 * l2 + 1)) + 2) = M.1 613 (7 * (M.1 606 (161 + 3 * l2 + 1)) + 2) := nb_rd_1 _ _ _
    refine nb_Wg (q_m_man_0 _ _ _ _ (by omega) (by rw [E21]; first | done | omega) (by rw [E22, E23]; first | done | omega) (by rw [E22, E23, E21, N24]; first | done | omega)) ?_
    simp only [E21, E22, E23, E25]
    clear E21 E22 E23 N24 E25
    refine nb_Gs ?_
    show nb_W 137 2 [(20, 603), (0, M.1 606 (161 + 3 * l2 + 2)), (0, M.1 606 (161 + 3 * l2 + 1))] [(0, M.1 613 (7 * (M.1 606 (161 + 3 * l2 + 1)) + 2)), (0, M.1 613 (7 * (M.1 606 (161 + 3 * l2 + 2)) + 2))] M _
    refine nb_Wg (q_m_isBehind_2 _ _ _ _ _ _) ?_
    refine nb_Gi (fun c50 => ?_) (fun c50 => ?_)
    · have H := nb_Hw ((nb_Hu H).1 c50)
      refine nb_Gr ?_
      refine nb_Wg (q_m_isBehind_7 _ _ _ _) ?_
      refine nb_Gr ?_
      have E26 : nb_i2z 1 = 1 := by decide
      refine nb_Wg (q_m_isBehind_9 _ _ _ _ _) ?_
      simp only [E26]
      clear E26
      refine nb_Gs ?_
      show nb_W 199 8 [(20, 603), (0, l1), (0, l2)] [(0, 1), (0, l1)] M _
      refine nb_Wg (q_m_so_8 _ _ _ _ _ _) ?_
      refine nb_Gf (by decide) ?_
      refine nb_Gr ?_
      refine nb_Wg (q_m_so_9 _ _ _ _ _) ?_
      refine nb_Gr ?_
      have E27 : nb_add l1 1 = l1 + 1 := nb_add_eq (by omega) (by omega)
      have E28 : nb_add l2 1 = l2 + 1 := nb_add_eq (by omega) (by omega)
      refine nb_Wg (q_m_so_11 _ _ _ _ _ _) ?_
      simp only [E27, E28]
      clear E27 E28
      refine nb_Gr ?_
      exact nb_Hu H
    · have H := nb_Hw ((nb_Hu H).2 (by omega))
      have c50 : M.1 613 (7 * (M.1 606 (161 + 3 * l2 + 2)) + 2) ≤ M.1 613 (7 * (M.1 606 (161 + 3 * l2 + 1)) + 2) := by omega
      refine nb_Gr ?_
      refine nb_Wg (q_m_isBehind_3 _ _ _ _ (by omega)) ?_
      refine nb_Gb ?_
      have E29 : nb_rd M 603 24 = 613 := W.m24
      have E30 : nb_mul 7 (M.1 606 (161 + 3 * l2 + 2)) = 7 * (M.1 606 (161 + 3 * l2 + 2)) := nb_mul_eq (by omega) (by omega)
      have E31 : nb_add (7 * (M.1 606 (161 + 3 * l2 + 2))) 2 = 7 * (M.1 606 (161 + 3 * l2 + 2)) + 2 := nb_add_eq (by omega) (by omega)
      have N32 : nb_ln M 613 = 70 := W.lk (by decide) (by decide +kernel)
      have E33 : nb_rd M 613 (7 * (M.1 606 (161 + 3 * l2 + 2)) + 2) = M.1 613 (7 * (M.1 606 (161 + 3 * l2 + 2)) + 2) := nb_rd_1 _ _ _
      refine nb_Wg (q_m_man_0 _ _ _ _ (by omega) (by rw [E29]; first | done | omega) (by rw [E30, E31]; first | done | omega) (by rw [E30, E31, E29, N32]; first | done | omega)) ?_
      simp only [E29, E30, E31, E33]
      clear E29 E30 E31 N32 E33
      refine nb_Gs ?_
      show nb_W 137 4 [(20, 603), (0, M.1 606 (161 + 3 * l2 + 2)), (0, M.1 606 (161 + 3 * l2 + 1))] [(0, M.1 613 (7 * (M.1 606 (161 + 3 * l2 + 2)) + 2))] M _
      refine nb_Wg (q_m_isBehind_4 _ _ _ _ _ (by omega)) ?_
      refine nb_Gb ?_
      have E34 : nb_rd M 603 24 = 613 := W.m24
      have E35 : nb_mul 7 (M.1 606 (161 + 3 * l2 + 1)) = 7 * (M.1 606 (161 + 3 * l2 + 1)) := nb_mul_eq (by omega) (by omega)
      have E36 : nb_add (7 * (M.1 606 (161 + 3 * l2 + 1))) 2 = 7 * (M.1 606 (161 + 3 * l2 + 1)) + 2 := nb_add_eq (by omega) (by omega)
      have N37 : nb_ln M 613 = 70 := W.lk (by decide) (by decide +kernel)
      have E38 : nb_rd M 613 (7 * (M.1 606 (161 + 3 * l2 + 1)) + 2) = M.1 613 (7 * (M.1 606 (161 + 3 * l2 + 1)) + 2) := nb_rd_1 _ _ _
      refine nb_Wg (q_m_man_0 _ _ _ _ (by omega) (by rw [E34]; first | done | omega) (by rw [E35, E36]; first | done | omega) (by rw [E35, E36, E34, N37]; first | done | omega)) ?_
      simp only [E34, E35, E36, E38]
      clear E34 E35 E36 N37 E38
      refine nb_Gs ?_
      show nb_W 137 5 [(20, 603), (0, M.1 606 (161 + 3 * l2 + 2)), (0, M.1 606 (161 + 3 * l2 + 1))] [(0, M.1 613 (7 * (M.1 606 (161 + 3 * l2 + 1)) + 2)), (0, M.1 613 (7 * (M.1 606 (161 + 3 * l2 + 2)) + 2))] M _
      refine nb_Wg (q_m_isBehind_5 _ _ _ _ _ _) ?_
      refine nb_Gi (fun c49 => ?_) (fun c49 => ?_)
      · have H := nb_Hw ((nb_Hu H).1 c49)
        refine nb_Gr ?_
        refine nb_Wg (q_m_isBehind_6 _ _ _ _) ?_
        refine nb_Gi (fun c45 => ?_) (fun c45 => ?_)
        · have H := nb_Hw ((nb_Hu H).1 c45)
          refine nb_Gr ?_
          refine nb_Wg (q_m_isBehind_7 _ _ _ _) ?_
          refine nb_Gr ?_
          have E39 : nb_i2z 1 = 1 := by decide
          refine nb_Wg (q_m_isBehind_9 _ _ _ _ _) ?_
          simp only [E39]
          clear E39
          refine nb_Gs ?_
          show nb_W 199 8 [(20, 603), (0, l1), (0, l2)] [(0, 1), (0, l1)] M _
          refine nb_Wg (q_m_so_8 _ _ _ _ _ _) ?_
          refine nb_Gf (by decide) ?_
          refine nb_Gr ?_
          refine nb_Wg (q_m_so_9 _ _ _ _ _) ?_
          refine nb_Gr ?_
          have E40 : nb_add l1 1 = l1 + 1 := nb_add_eq (by omega) (by omega)
          have E41 : nb_add l2 1 = l2 + 1 := nb_add_eq (by omega) (by omega)
          refine nb_Wg (q_m_so_11 _ _ _ _ _ _) ?_
          simp only [E40, E41]
          clear E40 E41
          refine nb_Gr ?_
          exact nb_Hu H
        · have H := nb_Hw ((nb_Hu H).2 (by omega))
          have c45 : M.1 606 (161 + 3 * l2 + 2) ≤ M.1 606 (161 + 3 * l2 + 1) := by omega
          refine nb_Gr ?_
          refine nb_Wg (q_m_isBehind_8 _ _ _ _) ?_
          refine nb_Gr ?_
          have E42 : nb_i2z 0 = 0 := by decide
          refine nb_Wg (q_m_isBehind_9 _ _ _ _ _) ?_
          simp only [E42]
          clear E42
          refine nb_Gs ?_
          show nb_W 199 8 [(20, 603), (0, l1), (0, l2)] [(0, 0), (0, l1)] M _
          refine nb_Wg (q_m_so_8 _ _ _ _ _ _) ?_
          refine nb_Gt (by decide) ?_
          refine nb_Gr ?_
          refine nb_Wg (q_m_so_10 _ _ _ _ _) ?_
          refine nb_Gr ?_
          have E43 : nb_add l1 0 = l1 := (nb_add_eq (x := l1) (y := 0) (by omega) (by omega)).trans (by omega)
          have E44 : nb_add l2 1 = l2 + 1 := nb_add_eq (by omega) (by omega)
          refine nb_Wg (q_m_so_11 _ _ _ _ _ _) ?_
          simp only [E43, E44]
          clear E43 E44
          refine nb_Gr ?_
          exact nb_Hu H
      · have H := nb_Hw ((nb_Hu H).2 (by omega))
        have c49 : M.1 613 (7 * (M.1 606 (161 + 3 * l2 + 2)) + 2) ≠ M.1 613 (7 * (M.1 606 (161 + 3 * l2 + 1)) + 2) := by omega
        refine nb_Gr ?_
        refine nb_Wg (q_m_isBehind_8 _ _ _ _) ?_
        refine nb_Gr ?_
        have E46 : nb_i2z 0 = 0 := by decide
        refine nb_Wg (q_m_isBehind_9 _ _ _ _ _) ?_
        simp only [E46]
        clear E46
        refine nb_Gs ?_
        show nb_W 199 8 [(20, 603), (0, l1), (0, l2)] [(0, 0), (0, l1)] M _
        refine nb_Wg (q_m_so_8 _ _ _ _ _ _) ?_
        refine nb_Gt (by decide) ?_
        refine nb_Gr ?_
        refine nb_Wg (q_m_so_10 _ _ _ _ _) ?_
        refine nb_Gr ?_
        have E47 : nb_add l1 0 = l1 := (nb_add_eq (x := l1) (y := 0) (by omega) (by omega)).trans (by omega)
        have E48 : nb_add l2 1 = l2 + 1 := nb_add_eq (by omega) (by omega)
        refine nb_Wg (q_m_so_11 _ _ _ _ _ _) ?_
        simp only [E47, E48]
        clear E47 E48
        refine nb_Gr ?_
        exact nb_Hu H
  · have H := nb_Hw ((nb_Hu H).2 (by omega))
    have c51 : M.1 606 7 ≤ l2 := by omega
    refine nb_Gr ?_
    refine nb_Wg (q_m_so_12 _ _ _ _) ?_
    refine nb_Gs ?_
    exact nb_Hu H

theorem w_c_so_5 {l1 l2 Ho : Int} {M : nb_M} {Q : List nb_V → nb_M → Prop} (W : nb_Lay M) (hHo : nb_hs Ho) (hx2 : M.1 2 2 = Ho) (b0_ : 0 ≤ l1 ∧ l1 ≤ 8) (b1_ : 0 ≤ l2 ∧ l2 ≤ 8) (H : 0 ≤ M.1 Ho 15 ∧ M.1 Ho 15 ≤ 8 ∧ (l2 < M.1 Ho 15 → 0 ≤ M.1 (Ho + 18) l2 ∧ M.1 (Ho + 18) l2 ≤ 9 ∧ 0 ≤ M.1 (Ho + 19) l2 ∧ M.1 (Ho + 19) l2 ≤ 9 ∧ (M.1 (Ho + 20 + (M.1 (Ho + 18) l2)) 2 < M.1 (Ho + 20 + (M.1 (Ho + 19) l2)) 2 → nb_W 62 5 [(19, 2), (0, l1 + 1), (0, l2 + 1)] [] M Q) ∧ (M.1 (Ho + 20 + (M.1 (Ho + 19) l2)) 2 ≤ M.1 (Ho + 20 + (M.1 (Ho + 18) l2)) 2 → (M.1 (Ho + 20 + (M.1 (Ho + 18) l2)) 2 = M.1 (Ho + 20 + (M.1 (Ho + 19) l2)) 2 → (M.1 (Ho + 18) l2 < M.1 (Ho + 19) l2 → nb_W 62 5 [(19, 2), (0, l1 + 1), (0, l2 + 1)] [] M Q) ∧ (M.1 (Ho + 19) l2 ≤ M.1 (Ho + 18) l2 → nb_W 62 5 [(19, 2), (0, l1), (0, l2 + 1)] [] M Q)) ∧ (M.1 (Ho + 20 + (M.1 (Ho + 18) l2)) 2 ≠ M.1 (Ho + 20 + (M.1 (Ho + 19) l2)) 2 → nb_W 62 5 [(19, 2), (0, l1), (0, l2 + 1)] [] M Q))) ∧ (M.1 Ho 15 ≤ l2 → Q [(0, l1)] M)) :
    nb_W 62 5 [(19, 2), (0, l1), (0, l2)] [] M Q := by
  replace H := nb_Hw H
  have uhHo := hHo
  unfold nb_hs at uhHo
  obtain ⟨p0_, p1_, H⟩ := H
  replace H := nb_Hw H
  have E1 : nb_rd M 2 2 = Ho := hx2
  have E2 : nb_rd M Ho 15 = M.1 Ho 15 := nb_rd_1 _ _ _
  refine nb_Wg (q_c_so_5 _ _ _ _ (by omega) (by rw [E1]; first | done | omega)) ?_
  simp only [E1, E2]
  clear E1 E2
  refine nb_Gi (fun c33 => ?_) (fun c33 => ?_)
  · have H := nb_Hw ((nb_Hu H).1 c33)
    refine nb_Gr ?_
    obtain ⟨p0_, p1_, p2_, p3_, H⟩ := H
    replace H := nb_Hw H
    have E3 : nb_rd M 2 2 = Ho := hx2
    have E4 : nb_rd M 2 2 = Ho := hx2
    have E5 : nb_rd M Ho 7 = Ho + 18 := W.h7 (H := Ho) hHo
    have N6 : nb_ln M (Ho + 18) = 8 := W.hn18 (H := Ho) hHo
    have E7 : nb_rd M (Ho + 18) l2 = M.1 (Ho + 18) l2 := nb_rd_1 _ _ _
    have E8 : nb_rd M 2 2 = Ho := hx2
    have E9 : nb_rd M Ho 8 = Ho + 19 := W.h8 (H := Ho) hHo
    have N10 : nb_ln M (Ho + 19) = 8 := W.hn19 (H := Ho) hHo
    have E11 : nb_rd M (Ho + 19) l2 = M.1 (Ho + 19) l2 := nb_rd_1 _ _ _
    refine nb_Wg (q_c_so_6 _ _ _ _ (by omega) (by rw [E4]; first | done | omega) (by rw [E4, E5]; first | done | omega) (by omega) (by rw [E4, E5, N6]; first | done | omega) (by rw [E8, E9]; first | done | omega) (by rw [E8, E9, N10]; first | done | omega)) ?_
    simp only [E3, E4, E5, E7, E8, E9, E11]
    clear E3 E4 E5 N6 E7 E8 E9 N10 E11
    refine nb_Gb ?_
    have E12 : nb_rd M Ho 4 = Ho + 15 := W.h4 (H := Ho) hHo
    have N13 : nb_ln M (Ho + 15) = 10 := W.hn15 (H := Ho) hHo
    have E14 : nb_rd M (Ho + 15) (M.1 (Ho + 18) l2) = Ho + 20 + (M.1 (Ho + 18) l2) := W.hg (H := Ho) (i := M.1 (Ho + 18) l2) hHo (by omega) (by omega)
    have E15 : nb_rd M (Ho + 20 + (M.1 (Ho + 18) l2)) 2 = M.1 (Ho + 20 + (M.1 (Ho + 18) l2)) 2 := nb_rd_1 _ _ _
    have E16 : nb_rd M Ho 4 = Ho + 15 := W.h4 (H := Ho) hHo
    have N17 : nb_ln M (Ho + 15) = 10 := W.hn15 (H := Ho) hHo
    have E18 : nb_rd M (Ho + 15) (M.1 (Ho + 19) l2) = Ho + 20 + (M.1 (Ho + 19) l2) := W.hg (H := Ho) (i := M.1 (Ho + 19) l2) hHo (by omega) (by omega)
    have E19 : nb_rd M (Ho + 20 + (M.1 (Ho + 19) l2)) 2 = M.1 (Ho + 20 + (M.1 (Ho + 19) l2)) 2 := nb_rd_1 _ _ _
    refine nb_Wg (q_h_cameAhead_0 _ _ _ _ _ _ (by omega) (by rw [E12]; first | done | omega) (by omega) (by rw [E12, N13]; first | done | omega) (by rw [E12, E14]; first | done | omega) (by omega) (by rw [E16, N17]; first | done | omega) (by rw [E16, E18]; first | done | omega)) ?_
    simp only [E12, E14, E15, E16, E18, E19]
    clear E12 N13 E14 E15 E16 N17 E18 E19
    refine nb_Gi (fun c32 => ?_) (fun c32 => ?_)
    · have H := nb_Hw ((nb_Hu H).1 c32)
      refine nb_Gr ?_
      refine nb_Wg (q_h_cameAhead_3 _ _ _ _ _ _) ?_
      refine nb_Gr ?_
      have E20 : nb_i2z 1 = 1 := by decide
      refine nb_Wg (q_h_cameAhead_5 _ _ _ _ _ _ _) ?_
      simp only [E20]
      clear E20
      refine nb_Gs ?_
      show nb_W 62 7 [(19, 2), (0, l1), (0, l2)] [(0, 1)] M _
      refine nb_Wg (q_c_so_7 _ _ _ _ _) ?_
      refine nb_Gf (by decide) ?_
      refine nb_Gr ?_
      have E21 : nb_add l1 1 = l1 + 1 := nb_add_eq (by omega) (by omega)
      refine nb_Wg (q_c_so_8 _ _ _ _) ?_
      simp only [E21]
      clear E21
      refine nb_Gr ?_
      have E22 : nb_add l2 1 = l2 + 1 := nb_add_eq (by omega) (by omega)
      refine nb_Wg (q_c_so_9 _ _ _ _) ?_
      simp only [E22]
      clear E22
      refine nb_Gr ?_
      exact nb_Hu H
    · have H := nb_Hw ((nb_Hu H).2 (by omega))
      have c32 : M.1 (Ho + 20 + (M.1 (Ho + 19) l2)) 2 ≤ M.1 (Ho + 20 + (M.1 (Ho + 18) l2)) 2 := by omega
      refine nb_Gr ?_
      refine nb_Wg (q_h_cameAhead_1 _ _ _ _ _ _) ?_
      refine nb_Gi (fun c31 => ?_) (fun c31 => ?_)
      · have H := nb_Hw ((nb_Hu H).1 c31)
        refine nb_Gr ?_
        refine nb_Wg (q_h_cameAhead_2 _ _ _ _ _ _) ?_
        refine nb_Gi (fun c28 => ?_) (fun c28 => ?_)
        · have H := nb_Hw ((nb_Hu H).1 c28)
          refine nb_Gr ?_
          refine nb_Wg (q_h_cameAhead_3 _ _ _ _ _ _) ?_
          refine nb_Gr ?_
          have E23 : nb_i2z 1 = 1 := by decide
          refine nb_Wg (q_h_cameAhead_5 _ _ _ _ _ _ _) ?_
          simp only [E23]
          clear E23
          refine nb_Gs ?_
          show nb_W 62 7 [(19, 2), (0, l1), (0, l2)] [(0, 1)] M _
          refine nb_Wg (q_c_so_7 _ _ _ _ _) ?_
          refine nb_Gf (by decide) ?_
          refine nb_Gr ?_
          have E24 : nb_add l1 1 = l1 + 1 := nb_add_eq (by omega) (by omega)
          refine nb_Wg (q_c_so_8 _ _ _ _) ?_
          simp only [E24]
          clear E24
          refine nb_Gr ?_
          have E25 : nb_add l2 1 = l2 + 1 := nb_add_eq (by omega) (by omega)
          refine nb_Wg (q_c_so_9 _ _ _ _) ?_
          simp only [E25]
          clear E25
          refine nb_Gr ?_
          exact nb_Hu H
        · have H := nb_Hw ((nb_Hu H).2 (by omega))
          have c28 : M.1 (Ho + 19) l2 ≤ M.1 (Ho + 18) l2 := by omega
          refine nb_Gr ?_
          refine nb_Wg (q_h_cameAhead_4 _ _ _ _ _ _) ?_
          refine nb_Gr ?_
          have E26 : nb_i2z 0 = 0 := by decide
          refine nb_Wg (q_h_cameAhead_5 _ _ _ _ _ _ _) ?_
          simp only [E26]
          clear E26
          refine nb_Gs ?_
          show nb_W 62 7 [(19, 2), (0, l1), (0, l2)] [(0, 0)] M _
          refine nb_Wg (q_c_so_7 _ _ _ _ _) ?_
          refine nb_Gt (by decide) ?_
          refine nb_Gr ?_
          have E27 : nb_add l2 1 = l2 + 1 := nb_add_eq (by omega) (by omega)
          refine nb_Wg (q_c_so_9 _ _ _ _) ?_
          simp only [E27]
          clear E27
          refine nb_Gr ?_
          exact nb_Hu H
      · have H := nb_Hw ((nb_Hu H).2 (by omega))
        have c31 : M.1 (Ho + 20 + (M.1 (Ho + 18) l2)) 2 ≠ M.1 (Ho + 20 + (M.1 (Ho + 19) l2)) 2 := by omega
        refine nb_Gr ?_
        refine nb_Wg (q_h_cameAhead_4 _ _ _ _ _ _) ?_
        refine nb_Gr ?_
        have E29 : nb_i2z 0 = 0 := by decide
        refine nb_Wg (q_h_cameAhead_5 _ _ _ _ _ _ _) ?_
        simp only [E29]
        clear E29
        refine nb_Gs ?_
        show nb_W 62 7 [(19, 2), (0, l1), (0, l2)] [(0, 0)] M _
        refine nb_Wg (q_c_so_7 _ _ _ _ _) ?_
        refine nb_Gt (by decide) ?_
        refine nb_Gr ?_
        have E30 : nb_add l2 1 = l2 + 1 := nb_add_eq (by omega) (by omega)
        refine nb_Wg (q_c_so_9 _ _ _ _) ?_
        simp only [E30]
        clear E30
        refine nb_Gr ?_
        exact nb_Hu H
  · have H := nb_Hw ((nb_Hu H).2 (by omega))
    have c33 : M.1 Ho 15 ≤ l2 := by omega
    refine nb_Gr ?_
    refine nb_Wg (q_c_so_10 _ _ _ _) ?_
    refine nb_Gs ?_
    exact nb_Hu H
