/-! rules, printed by wip/gen -/
theorem w_m_staff_0 {l1 l2 : Int} {v3 v4 v5 v6 : nb_V} {M : nb_M} {Q : List nb_V → nb_M → Prop} (W : nb_Lay M) (H : 0 ≤ M.1 603 14 ∧ M.1 603 14 ≤ 1 ∧ (M.1 603 14 = 0 → (nb_Lay (nb_wr (nb_wr (nb_wr M 603 0 0) 603 11 0) 603 11 1) → Q [(0, (-1))] (nb_wr (nb_wr (nb_wr M 603 0 0) 603 11 0) 603 11 1))) ∧ (M.1 603 14 ≠ 0 → 0 ≤ M.1 606 4 ∧ M.1 606 4 ≤ 3 ∧ (l1 < 0 → (nb_Lay (nb_wr (nb_wr (nb_wr M 603 0 0) 603 11 0) 603 11 1) → Q [(0, (-1))] (nb_wr (nb_wr (nb_wr M 603 0 0) 603 11 0) 603 11 1))) ∧ (0 ≤ l1 → (M.1 606 4 - 1 < l1 → (nb_Lay (nb_wr (nb_wr (nb_wr M 603 0 0) 603 11 0) 603 11 1) → Q [(0, (-1))] (nb_wr (nb_wr (nb_wr M 603 0 0) 603 11 0) 603 11 1))) ∧ (l1 ≤ M.1 606 4 - 1 → (l2 < 0 → (nb_Lay (nb_wr (nb_wr (nb_wr M 603 0 0) 603 11 0) 603 11 1) → Q [(0, (-1))] (nb_wr (nb_wr (nb_wr M 603 0 0) 603 11 0) 603 11 1))) ∧ (0 ≤ l2 → (2 < l2 → (nb_Lay (nb_wr (nb_wr (nb_wr M 603 0 0) 603 11 0) 603 11 1) → Q [(0, (-1))] (nb_wr (nb_wr (nb_wr M 603 0 0) 603 11 0) 603 11 1))) ∧ (l2 ≤ 2 → nb_W 143 9 [(20, 603), (0, l1), (0, l2), (0, 92 + 4 * l1), (0, 0), (0, 1000000), (0, 1)] [] (nb_up (nb_up (nb_wr (nb_wr (nb_wr M 603 0 0) 603 11 0) 603 25 ((M.1 606) 4)) 612 (pu_cpy (M.1 606) (M.1 612) 23 0 18)) 613 (pu_cpy (M.1 606) (M.1 613) 41 0 70)) Q)))))) :
    nb_W 143 0 [(20, 603), (0, l1), (0, l2), v3, v4, v5, v6] [] M Q := by
  replace H := nb_Hw H
  refine nb_Wg (q_m_staff_0 _ _ _ _ _ _ _ _ (by omega)) ?_
  refine nb_Gb ?_
  refine nb_Wg (q_m_good_0 _ _ (by omega)) ?_
  have W1 : nb_Lay (nb_wr M 603 0 0) := W.wr (fun w => (nb_nlit (by decide) (by decide)))
  refine nb_Gr ?_
  refine nb_Wg (q_m_good_1 _ _ (by omega)) ?_
  have W2 : nb_Lay (nb_wr (nb_wr M 603 0 0) 603 11 0) := W1.wr (fun w => (nb_nlit (by decide) (by decide)))
  refine nb_Gr ?_
  refine nb_Wg (q_m_good_2 _ _) ?_
  refine nb_Gs ?_
  show nb_W 143 1 [(20, 603), (0, l1), (0, l2), v3, v4, v5, v6] [] (nb_wr (nb_wr M 603 0 0) 603 11 0) _
  refine nb_Wg (q_m_staff_1 _ _ _ _ _ _ _ _ (by omega)) ?_
  refine nb_Gb ?_
  obtain ⟨p0_, p1_, H⟩ := H
  replace H := nb_Hw H
  have E3 : nb_rd (nb_wr (nb_wr M 603 0 0) 603 11 0) 603 14 = M.1 603 14 := nb_rdw (Or.inr (by decide)) (nb_rdw (Or.inr (by decide)) (nb_rd_1 _ _ _))
  refine nb_Wg (q_m_isStaff_0 _ _ _ (by omega)) ?_
  simp only [E3]
  clear E3
  refine nb_Gi (fun c32 => ?_) (fun c32 => ?_)
  · have H := nb_Hw ((nb_Hu H).1 c32)
    refine nb_Gr ?_
    refine nb_Wg (q_m_isStaff_4 _ _ _) ?_
    refine nb_Gr ?_
    have E4 : nb_i2z 0 = 0 := by decide
    refine nb_Wg (q_m_isStaff_5 _ _ _ _) ?_
    simp only [E4]
    clear E4
    refine nb_Gs ?_
    show nb_W 143 2 [(20, 603), (0, l1), (0, l2), v3, v4, v5, v6] [(0, 0)] (nb_wr (nb_wr M 603 0 0) 603 11 0) _
    refine nb_Wg (q_m_staff_2 _ _ _ _ _ _ _ _ _) ?_
    refine nb_Gt (by decide) ?_
    refine nb_Gr ?_
    refine nb_Wg (q_m_staff_5 _ _ _ _ _ _ _ _ (by omega)) ?_
    refine nb_Gb ?_
    refine nb_Wg (q_m_no_0 _ _ _ (by omega)) ?_
    have W5 : nb_Lay (nb_wr (nb_wr (nb_wr M 603 0 0) 603 11 0) 603 11 1) := W2.wr (fun w => (nb_nlit (by decide) (by decide)))
    refine nb_Gr ?_
    refine nb_Wg (q_m_no_1 _ _ _) ?_
    refine nb_Gs ?_
    show nb_W 143 6 [(20, 603), (0, l1), (0, l2), v3, v4, v5, v6] [(0, (-1))] (nb_wr (nb_wr (nb_wr M 603 0 0) 603 11 0) 603 11 1) _
    refine nb_Wg (q_m_staff_6 _ _ _ _ _ _ _ _ _) ?_
    refine nb_Gs ?_
    exact nb_Hu H W5
  · have H := nb_Hw ((nb_Hu H).2 (by omega))
    have c32 : M.1 603 14 ≠ 0 := by omega
    refine nb_Gr ?_
    obtain ⟨p0_, p1_, H⟩ := H
    replace H := nb_Hw H
    have E6 : nb_rd (nb_wr (nb_wr M 603 0 0) 603 11 0) 603 15 = 606 := W2.m15
    have N7 : nb_ln (nb_wr (nb_wr M 603 0 0) 603 11 0) 606 = 347 := W2.lk (by decide) (by decide +kernel)
    have E8 : nb_rd (nb_wr (nb_wr M 603 0 0) 603 11 0) 606 4 = M.1 606 4 := nb_rdw (Or.inl (by decide)) (nb_rdw (Or.inl (by decide)) (nb_rd_1 _ _ _))
    have E9 : nb_sub (M.1 606 4) 1 = M.1 606 4 - 1 := nb_sub_eq (by omega) (by omega)
    refine nb_Wg (q_m_isStaff_1 _ _ _ (by omega) (by rw [E6]; first | done | omega) (by omega) (by rw [E6, N7]; first | done | omega)) ?_
    simp only [E6, E8, E9]
    clear E6 N7 E8 E9
    refine nb_Gb ?_
    refine nb_Wg (q_m_within_0 _ _ _ _) ?_
    refine nb_Gi (fun c31 => ?_) (fun c31 => ?_)
    · have H := nb_Hw ((nb_Hu H).1 c31)
      refine nb_Gr ?_
      refine nb_Wg (q_m_within_3 _ _ _ _) ?_
      refine nb_Gr ?_
      have E10 : nb_i2z 0 = 0 := by decide
      refine nb_Wg (q_m_within_4 _ _ _ _ _) ?_
      simp only [E10]
      clear E10
      refine nb_Gs ?_
      show nb_W 117 2 [(20, 603), (0, l1)] [(0, 0)] (nb_wr (nb_wr M 603 0 0) 603 11 0) _
      refine nb_Wg (q_m_isStaff_2 _ _ _ _) ?_
      refine nb_Gt (by decide) ?_
      refine nb_Gr ?_
      refine nb_Wg (q_m_isStaff_4 _ _ _) ?_
      refine nb_Gr ?_
      have E11 : nb_i2z 0 = 0 := by decide
      refine nb_Wg (q_m_isStaff_5 _ _ _ _) ?_
      simp only [E11]
      clear E11
      refine nb_Gs ?_
      show nb_W 143 2 [(20, 603), (0, l1), (0, l2), v3, v4, v5, v6] [(0, 0)] (nb_wr (nb_wr M 603 0 0) 603 11 0) _
      refine nb_Wg (q_m_staff_2 _ _ _ _ _ _ _ _ _) ?_
      refine nb_Gt (by decide) ?_
      refine nb_Gr ?_
      refine nb_Wg (q_m_staff_5 _ _ _ _ _ _ _ _ (by omega)) ?_
      refine nb_Gb ?_
      refine nb_Wg (q_m_no_0 _ _ _ (by omega)) ?_
      have W12 : nb_Lay (nb_wr (nb_wr (nb_wr M 603 0 0) 603 11 0) 603 11 1) := W2.wr (fun w => (nb_nlit (by decide) (by decide)))
      refine nb_Gr ?_
      refine nb_Wg (q_m_no_1 _ _ _) ?_
      refine nb_Gs ?_
      show nb_W 143 6 [(20, 603), (0, l1), (0, l2), v3, v4, v5, v6] [(0, (-1))] (nb_wr (nb_wr (nb_wr M 603 0 0) 603 11 0) 603 11 1) _
      refine nb_Wg (q_m_staff_6 _ _ _ _ _ _ _ _ _) ?_
      refine nb_Gs ?_
      exact nb_Hu H W12
    · have H := nb_Hw ((nb_Hu H).2 (by omega))
      have c31 : 0 ≤ l1 := by omega
      refine nb_Gr ?_
      refine nb_Wg (q_m_within_1 _ _ _ _) ?_
      refine nb_Gi (fun c30 => ?_) (fun c30 => ?_)
      · have H := nb_Hw ((nb_Hu H).1 c30)
        refine nb_Gr ?_
        refine nb_Wg (q_m_within_3 _ _ _ _) ?_
        refine nb_Gr ?_
        have E13 : nb_i2z 0 = 0 := by decide
        refine nb_Wg (q_m_within_4 _ _ _ _ _) ?_
        simp only [E13]
        clear E13
        refine nb_Gs ?_
        show nb_W 117 2 [(20, 603), (0, l1)] [(0, 0)] (nb_wr (nb_wr M 603 0 0) 603 11 0) _
        refine nb_Wg (q_m_isStaff_2 _ _ _ _) ?_
        refine nb_Gt (by decide) ?_
        refine nb_Gr ?_
        refine nb_Wg (q_m_isStaff_4 _ _ _) ?_
        refine nb_Gr ?_
        have E14 : nb_i2z 0 = 0 := by decide
        refine nb_Wg (q_m_isStaff_5 _ _ _ _) ?_
        simp only [E14]
        clear E14
        refine nb_Gs ?_
        show nb_W 143 2 [(20, 603), (0, l1), (0, l2), v3, v4, v5, v6] [(0, 0)] (nb_wr (nb_wr M 603 0 0) 603 11 0) _
        refine nb_Wg (q_m_staff_2 _ _ _ _ _ _ _ _ _) ?_
        refine nb_Gt (by decide) ?_
        refine nb_Gr ?_
        refine nb_Wg (q_m_staff_5 _ _ _ _ _ _ _ _ (by omega)) ?_
        refine nb_Gb ?_
        refine nb_Wg (q_m_no_0 _ _ _ (by omega)) ?_
        have W15 : nb_Lay (nb_wr (nb_wr (nb_wr M 603 0 0) 603 11 0) 603 11 1) := W2.wr (fun w => (nb_nlit (by decide) (by decide)))
        refine nb_Gr ?_
        refine nb_Wg (q_m_no_1 _ _ _) ?_
        refine nb_Gs ?_
        show nb_W 143 6 [(20, 603), (0, l1), (0, l2), v3, v4, v5, v6] [(0, (-1))] (nb_wr (nb_wr (nb_wr M 603 0 0) 603 11 0) 603 11 1) _
        refine nb_Wg (q_m_staff_6 _ _ _ _ _ _ _ _ _) ?_
        refine nb_Gs ?_
        exact nb_Hu H W15
      · have H := nb_Hw ((nb_Hu H).2 (by omega))
        have c30 : l1 ≤ M.1 606 4 - 1 := by omega
        refine nb_Gr ?_
        refine nb_Wg (q_m_within_2 _ _ _ _) ?_
        refine nb_Gr ?_
        have E16 : nb_i2z 1 = 1 := by decide
        refine nb_Wg (q_m_within_4 _ _ _ _ _) ?_
        simp only [E16]
        clear E16
        refine nb_Gs ?_
        show nb_W 117 2 [(20, 603), (0, l1)] [(0, 1)] (nb_wr (nb_wr M 603 0 0) 603 11 0) _
        refine nb_Wg (q_m_isStaff_2 _ _ _ _) ?_
        refine nb_Gf (by decide) ?_
        refine nb_Gr ?_
        refine nb_Wg (q_m_isStaff_3 _ _ _) ?_
        refine nb_Gr ?_
        have E17 : nb_i2z 1 = 1 := by decide
        refine nb_Wg (q_m_isStaff_5 _ _ _ _) ?_
        simp only [E17]
        clear E17
        refine nb_Gs ?_
        show nb_W 143 2 [(20, 603), (0, l1), (0, l2), v3, v4, v5, v6] [(0, 1)] (nb_wr (nb_wr M 603 0 0) 603 11 0) _
        refine nb_Wg (q_m_staff_2 _ _ _ _ _ _ _ _ _) ?_
        refine nb_Gf (by decide) ?_
        refine nb_Gr ?_
        refine nb_Wg (q_m_staff_3 _ _ _ _ _ _ _ _) ?_
        refine nb_Gb ?_
        refine nb_Wg (q_m_within_0 _ _ _ _) ?_
        refine nb_Gi (fun c29 => ?_) (fun c29 => ?_)
        · have H := nb_Hw ((nb_Hu H).1 c29)
          refine nb_Gr ?_
          refine nb_Wg (q_m_within_3 _ _ _ _) ?_
          refine nb_Gr ?_
          have E18 : nb_i2z 0 = 0 := by decide
          refine nb_Wg (q_m_within_4 _ _ _ _ _) ?_
          simp only [E18]
          clear E18
          refine nb_Gs ?_
          show nb_W 143 4 [(20, 603), (0, l1), (0, l2), v3, v4, v5, v6] [(0, 0)] (nb_wr (nb_wr M 603 0 0) 603 11 0) _
          refine nb_Wg (q_m_staff_4 _ _ _ _ _ _ _ _ _) ?_
          refine nb_Gt (by decide) ?_
          refine nb_Gr ?_
          refine nb_Wg (q_m_staff_5 _ _ _ _ _ _ _ _ (by omega)) ?_
          refine nb_Gb ?_
          refine nb_Wg (q_m_no_0 _ _ _ (by omega)) ?_
          have W19 : nb_Lay (nb_wr (nb_wr (nb_wr M 603 0 0) 603 11 0) 603 11 1) := W2.wr (fun w => (nb_nlit (by decide) (by decide)))
          refine nb_Gr ?_
          refine nb_Wg (q_m_no_1 _ _ _) ?_
          refine nb_Gs ?_
          show nb_W 143 6 [(20, 603), (0, l1), (0, l2), v3, v4, v5, v6] [(0, (-1))] (nb_wr (nb_wr (nb_wr M 603 0 0) 603 11 0) 603 11 1) _
          refine nb_Wg (q_m_staff_6 _ _ _ _ _ _ _ _ _) ?_
          refine nb_Gs ?_
          exact nb_Hu H W19
        · have H := nb_Hw ((nb_Hu H).2 (by omega))
          have c29 : 0 ≤ l2 := by omega
          refine nb_Gr ?_
          refine nb_Wg (q_m_within_1 _ _ _ _) ?_
          refine nb_Gi (fun c28 => ?_) (fun c28 => ?_)
          · have H := nb_Hw ((nb_Hu H).1 c28)
            refine nb_Gr ?_
            refine nb_Wg (q_m_within_3 _ _ _ _) ?_
            refine nb_Gr ?_
            have E20 : nb_i2z 0 = 0 := by decide
            refine nb_Wg (q_m_within_4 _ _ _ _ _) ?_
            simp only [E20]
            clear E20
            refine nb_Gs ?_
            show nb_W 143 4 [(20, 603), (0, l1), (0, l2), v3, v4, v5, v6] [(0, 0)] (nb_wr (nb_wr M 603 0 0) 603 11 0) _
            refine nb_Wg (q_m_staff_4 _ _ _ _ _ _ _ _ _) ?_
            refine nb_Gt (by decide) ?_
            refine nb_Gr ?_
            refine nb_Wg (q_m_staff_5 _ _ _ _ _ _ _ _ (by omega)) ?_
            refine nb_Gb ?_
            refine nb_Wg (q_m_no_0 _ _ _ (by omega)) ?_
            have W21 : nb_Lay (nb_wr (nb_wr (nb_wr M 603 0 0) 603 11 0) 603 11 1) := W2.wr (fun w => (nb_nlit (by decide) (by decide)))
            refine nb_Gr ?_
            refine nb_Wg (q_m_no_1 _ _ _) ?_
            refine nb_Gs ?_
            show nb_W 143 6 [(20, 603), (0, l1), (0, l2), v3, v4, v5, v6] [(0, (-1))] (nb_wr (nb_wr (nb_wr M 603 0 0) 603 11 0) 603 11 1) _
            refine nb_Wg (q_m_staff_6 _ _ _ _ _ _ _ _ _) ?_
            refine nb_Gs ?_
            exact nb_Hu H W21
          · have H := nb_Hw ((nb_Hu H).2 (by omega))
            have c28 : l2 ≤ 2 := by omega
            refine nb_Gr ?_
            refine nb_Wg (q_m_within_2 _ _ _ _) ?_
            refine nb_Gr ?_
            have E22 : nb_i2z 1 = 1 := by decide
            refine nb_Wg (q_m_within_4 _ _ _ _ _) ?_
            simp only [E22]
            clear E22
            refine nb_Gs ?_
            show nb_W 143 4 [(20, 603), (0, l1), (0, l2), v3, v4, v5, v6] [(0, 1)] (nb_wr (nb_wr M 603 0 0) 603 11 0) _
            refine nb_Wg (q_m_staff_4 _ _ _ _ _ _ _ _ _) ?_
            refine nb_Gf (by decide) ?_
            refine nb_Gr ?_
            refine nb_Wg (q_m_staff_7 _ _ _ _ _ _ _ _ (by omega)) ?_
            have W23 : nb_Lay (nb_wr (nb_wr (nb_wr M 603 0 0) 603 11 0) 603 25 ((M.1 606) 4)) := W2.wr (fun w => (nb_nlit (by decide) (by decide)))
            have W24 : nb_Lay (nb_up (nb_wr (nb_wr (nb_wr M 603 0 0) 603 11 0) 603 25 ((M.1 606) 4)) 612 (pu_cpy (M.1 606) (M.1 612) 23 0 18)) := W23.up (fun i w => (nb_nnum (by decide) (by decide)))
            have W25 : nb_Lay (nb_up (nb_up (nb_wr (nb_wr (nb_wr M 603 0 0) 603 11 0) 603 25 ((M.1 606) 4)) 612 (pu_cpy (M.1 606) (M.1 612) 23 0 18)) 613 (pu_cpy (M.1 606) (M.1 613) 41 0 70)) := W24.up (fun i w => (nb_nnum (by decide) (by decide)))
            rw [show nb_R nb_P 121 0 [(20, 603)] [] (nb_wr (nb_wr M 603 0 0) 603 11 0) = some ([], nb_up (nb_up (nb_wr (nb_wr (nb_wr M 603 0 0) 603 11 0) 603 25 ((M.1 606) 4)) 612 (pu_cpy (M.1 606) (M.1 612) 23 0 18)) 613 (pu_cpy (M.1 606) (M.1 613) 41 0 70)) from (sp_m_asTold W2).trans (by first | rfl | simp [nb_wr_up, nb_up_1, nb_up_up, nb_ud])]
            refine nb_Gp ?_
            show nb_W 143 8 [(20, 603), (0, l1), (0, l2), v3, v4, v5, v6] [] (nb_up (nb_up (nb_wr (nb_wr (nb_wr M 603 0 0) 603 11 0) 603 25 ((M.1 606) 4)) 612 (pu_cpy (M.1 606) (M.1 612) 23 0 18)) 613 (pu_cpy (M.1 606) (M.1 613) 41 0 70)) _
            have E26 : nb_mul 4 l1 = 4 * l1 := nb_mul_eq (by omega) (by omega)
            have E27 : nb_add 92 (4 * l1) = 92 + 4 * l1 := (nb_add_eq (x := 92) (y := 4 * l1) (by omega) (by omega)).trans (by omega)
            refine nb_Wg (q_m_staff_8 _ _ _ _ _ _ _ _) ?_
            simp only [E26, E27]
            clear E26 E27
            refine nb_Gr ?_
            exact nb_Hu H

theorem w_c_staff_0 {l1 l2 Ho : Int} {v3 : nb_V} {M : nb_M} {Q : List nb_V → nb_M → Prop} (W : nb_Lay M) (hHo : nb_hs Ho) (hx2 : M.1 2 2 = Ho) (H : (l1 < 0 → (nb_Lay (nb_wr M 2 15 1) → Q [(0, (-1))] (nb_wr M 2 15 1))) ∧ (0 ≤ l1 → 0 ≤ M.1 Ho 12 ∧ M.1 Ho 12 ≤ 3 ∧ (l1 < M.1 Ho 12 → (l2 < 0 → (nb_Lay (nb_wr M 2 15 1) → Q [(0, (-1))] (nb_wr M 2 15 1))) ∧ (0 ≤ l2 → (2 < l2 → (nb_Lay (nb_wr M 2 15 1) → Q [(0, (-1))] (nb_wr M 2 15 1))) ∧ (l2 ≤ 2 → (l2 = 0 → (nb_Lay (nb_wr M 2 15 0) → Q [(0, M.1 (98 + 2 * l1) 2)] (nb_wr M 2 15 0))) ∧ (l2 = 1 → nb_W 276 0 [(16, 98 + 2 * l1), (0, M.1 84 7), (98, 0), (98, 0)] [] (nb_wr M 2 15 0) (fun r M22 => ∃ x21 : Int, r = [(0, x21)] ∧ nb_Lay M22 ∧ M22.1 2 2 = Ho ∧ (nb_Lay M22 → Q [(0, x21)] M22))) ∧ (l2 ≠ 0 → l2 ≠ 1 → nb_W 277 0 [(16, 98 + 2 * l1), (0, M.1 84 7), (98, 0), (98, 0)] [] (nb_wr M 2 15 0) (fun r M29 => ∃ x28 : Int, r = [(0, x28)] ∧ nb_Lay M29 ∧ M29.1 2 2 = Ho ∧ (nb_Lay M29 → Q [(0, x28)] M29)))))) ∧ (M.1 Ho 12 ≤ l1 → (nb_Lay (nb_wr M 2 15 1) → Q [(0, (-1))] (nb_wr M 2 15 1))))) :
    nb_W 17 0 [(19, 2), (0, l1), (0, l2), v3] [] M Q := by
  replace H := nb_Hw H
  have uhHo := hHo
  unfold nb_hs at uhHo
  refine nb_Wg (q_c_staff_0 _ _ _ _ _ (by omega)) ?_
  refine nb_Gb ?_
  refine nb_Wg (q_c_isStaff_0 _ _ _) ?_
  refine nb_Gi (fun c38 => ?_) (fun c38 => ?_)
  · have H := nb_Hw ((nb_Hu H).1 c38)
    refine nb_Gr ?_
    refine nb_Wg (q_c_isStaff_3 _ _ _) ?_
    refine nb_Gr ?_
    have E1 : nb_i2z 0 = 0 := by decide
    refine nb_Wg (q_c_isStaff_4 _ _ _ _) ?_
    simp only [E1]
    clear E1
    refine nb_Gs ?_
    show nb_W 17 1 [(19, 2), (0, l1), (0, l2), v3] [(0, 0), (19, 2)] M _
    refine nb_Wg (q_c_staff_1 _ _ _ _ _ _ _) ?_
    refine nb_Gt (by decide) ?_
    refine nb_Gr ?_
    refine nb_Wg (q_c_staff_5 _ _ _ _ _ _) ?_
    refine nb_Gr ?_
    refine nb_Wg (q_c_staff_6 _ _ _ _ _ _ _ (by omega)) ?_
    refine nb_Gb ?_
    refine nb_Wg (q_c_granted_0 _ _ _ _) ?_
    refine nb_Gt (by decide) ?_
    refine nb_Gr ?_
    refine nb_Wg (q_c_granted_2 _ _ _ _ _) ?_
    refine nb_Gr ?_
    refine nb_Wg (q_c_granted_3 _ _ _ _ _ _ (by omega)) ?_
    have W2 : nb_Lay (nb_wr M 2 15 1) := W.wr (fun w => (nb_nlit (by decide) (by decide)))
    refine nb_Gr ?_
    have E3 : nb_i2z 0 = 0 := by decide
    refine nb_Wg (q_c_granted_4 _ _ _ _) ?_
    simp only [E3]
    clear E3
    refine nb_Gs ?_
    show nb_W 17 7 [(19, 2), (0, l1), (0, l2), v3] [(0, 0)] (nb_wr M 2 15 1) _
    refine nb_Wg (q_c_staff_7 _ _ _ _ _ _) ?_
    refine nb_Gt (by decide) ?_
    refine nb_Gr ?_
    refine nb_Wg (q_c_staff_8 _ _ _ _ _) ?_
    refine nb_Gs ?_
    exact nb_Hu H W2
  · have H := nb_Hw ((nb_Hu H).2 (by omega))
    have c38 : 0 ≤ l1 := by omega
    refine nb_Gr ?_
    obtain ⟨p0_, p1_, H⟩ := H
    replace H := nb_Hw H
    have E4 : nb_rd M 2 2 = Ho := hx2
    have E5 : nb_rd M Ho 12 = M.1 Ho 12 := nb_rd_1 _ _ _
    refine nb_Wg (q_c_isStaff_1 _ _ _ (by omega) (by rw [E4]; first | done | omega)) ?_
    simp only [E4, E5]
    clear E4 E5
    refine nb_Gi (fun c37 => ?_) (fun c37 => ?_)
    · have H := nb_Hw ((nb_Hu H).1 c37)
      refine nb_Gr ?_
      refine nb_Wg (q_c_isStaff_2 _ _ _) ?_
      refine nb_Gr ?_
      have E6 : nb_i2z 1 = 1 := by decide
      refine nb_Wg (q_c_isStaff_4 _ _ _ _) ?_
      simp only [E6]
      clear E6
      refine nb_Gs ?_
      show nb_W 17 1 [(19, 2), (0, l1), (0, l2), v3] [(0, 1), (19, 2)] M _
      refine nb_Wg (q_c_staff_1 _ _ _ _ _ _ _) ?_
      refine nb_Gf (by decide) ?_
      refine nb_Gr ?_
      refine nb_Wg (q_c_staff_2 _ _ _ _ _ _) ?_
      refine nb_Gi (fun c33 => ?_) (fun c33 => ?_)
      · have H := nb_Hw ((nb_Hu H).1 c33)
        refine nb_Gr ?_
        refine nb_Wg (q_c_staff_5 _ _ _ _ _ _) ?_
        refine nb_Gr ?_
        refine nb_Wg (q_c_staff_6 _ _ _ _ _ _ _ (by omega)) ?_
        refine nb_Gb ?_
        refine nb_Wg (q_c_granted_0 _ _ _ _) ?_
        refine nb_Gt (by decide) ?_
        refine nb_Gr ?_
        refine nb_Wg (q_c_granted_2 _ _ _ _ _) ?_
        refine nb_Gr ?_
        refine nb_Wg (q_c_granted_3 _ _ _ _ _ _ (by omega)) ?_
        have W7 : nb_Lay (nb_wr M 2 15 1) := W.wr (fun w => (nb_nlit (by decide) (by decide)))
        refine nb_Gr ?_
        have E8 : nb_i2z 0 = 0 := by decide
        refine nb_Wg (q_c_granted_4 _ _ _ _) ?_
        simp only [E8]
        clear E8
        refine nb_Gs ?_
        show nb_W 17 7 [(19, 2), (0, l1), (0, l2), v3] [(0, 0)] (nb_wr M 2 15 1) _
        refine nb_Wg (q_c_staff_7 _ _ _ _ _ _) ?_
        refine nb_Gt (by decide) ?_
        refine nb_Gr ?_
        refine nb_Wg (q_c_staff_8 _ _ _ _ _) ?_
        refine nb_Gs ?_
        exact nb_Hu H W7
      · have H := nb_Hw ((nb_Hu H).2 (by omega))
        have c33 : 0 ≤ l2 := by omega
        refine nb_Gr ?_
        refine nb_Wg (q_c_staff_3 _ _ _ _ _ _) ?_
        refine nb_Gi (fun c32 => ?_) (fun c32 => ?_)
        · have H := nb_Hw ((nb_Hu H).1 c32)
          refine nb_Gr ?_
          refine nb_Wg (q_c_staff_5 _ _ _ _ _ _) ?_
          refine nb_Gr ?_
          refine nb_Wg (q_c_staff_6 _ _ _ _ _ _ _ (by omega)) ?_
          refine nb_Gb ?_
          refine nb_Wg (q_c_granted_0 _ _ _ _) ?_
          refine nb_Gt (by decide) ?_
          refine nb_Gr ?_
          refine nb_Wg (q_c_granted_2 _ _ _ _ _) ?_
          refine nb_Gr ?_
          refine nb_Wg (q_c_granted_3 _ _ _ _ _ _ (by omega)) ?_
          have W9 : nb_Lay (nb_wr M 2 15 1) := W.wr (fun w => (nb_nlit (by decide) (by decide)))
          refine nb_Gr ?_
          have E10 : nb_i2z 0 = 0 := by decide
          refine nb_Wg (q_c_granted_4 _ _ _ _) ?_
          simp only [E10]
          clear E10
          refine nb_Gs ?_
          show nb_W 17 7 [(19, 2), (0, l1), (0, l2), v3] [(0, 0)] (nb_wr M 2 15 1) _
          refine nb_Wg (q_c_staff_7 _ _ _ _ _ _) ?_
          refine nb_Gt (by decide) ?_
          refine nb_Gr ?_
          refine nb_Wg (q_c_staff_8 _ _ _ _ _) ?_
          refine nb_Gs ?_
          exact nb_Hu H W9
        · have H := nb_Hw ((nb_Hu H).2 (by omega))
          have c32 : l2 ≤ 2 := by omega
          refine nb_Gr ?_
          refine nb_Wg (q_c_staff_4 _ _ _ _ _ _) ?_
          refine nb_Gr ?_
          refine nb_Wg (q_c_staff_6 _ _ _ _ _ _ _ (by omega)) ?_
          refine nb_Gb ?_
          refine nb_Wg (q_c_granted_0 _ _ _ _) ?_
          refine nb_Gf (by decide) ?_
          refine nb_Gr ?_
          refine nb_Wg (q_c_granted_1 _ _ _ _ _) ?_
          refine nb_Gr ?_
          refine nb_Wg (q_c_granted_3 _ _ _ _ _ _ (by omega)) ?_
          have W11 : nb_Lay (nb_wr M 2 15 0) := W.wr (fun w => (nb_nlit (by decide) (by decide)))
          refine nb_Gr ?_
          have E12 : nb_i2z 1 = 1 := by decide
          refine nb_Wg (q_c_granted_4 _ _ _ _) ?_
          simp only [E12]
          clear E12
          refine nb_Gs ?_
          show nb_W 17 7 [(19, 2), (0, l1), (0, l2), v3] [(0, 1)] (nb_wr M 2 15 0) _
          refine nb_Wg (q_c_staff_7 _ _ _ _ _ _) ?_
          refine nb_Gf (by decide) ?_
          refine nb_Gr ?_
          have E13 : nb_rd (nb_wr M 2 15 0) 2 5 = 84 := W11.c5
          have E14 : nb_rd (nb_wr M 2 15 0) 84 1 = 86 := W11.s1 (A := 84) nb_sc84
          have N15 : nb_ln (nb_wr M 2 15 0) 86 = 4 := W11.sn2 (A := 84) nb_sc84
          have E16 : nb_rd (nb_wr M 2 15 0) 86 l1 = 98 + 2 * l1 := W11.sv (A := 84) (i := l1) nb_sc84 (by omega) (by omega)
          refine nb_Wg (q_c_staff_9 _ _ _ _ _ (by omega) (by rw [E13]; first | done | omega) (by rw [E13, E14]; first | done | omega) (by omega) (by rw [E13, E14, N15]; first | done | omega)) ?_
          simp only [E13, E14, E16]
          clear E13 E14 N15 E16
          refine nb_Gi (fun c18 => ?_) (fun c18 => ?_)
          · have H := nb_Hw ((nb_Hu H).1 c18)
            refine nb_Gr ?_
            have E17 : nb_rd (nb_wr M 2 15 0) (98 + 2 * l1) 2 = M.1 (98 + 2 * l1) 2 := nb_rdw (Or.inr (by decide)) (nb_rd_1 _ _ _)
            refine nb_Wg (q_c_staff_10 _ _ _ _ _ (by omega)) ?_
            simp only [E17]
            clear E17
            refine nb_Gs ?_
            exact nb_Hu H W11
          refine nb_Gi (fun c25 => ?_) (fun c25 => ?_)
          · have H := nb_Hw ((nb_Hu H).2.1 c25)
            refine nb_Gr ?_
            have E19 : nb_rd (nb_wr M 2 15 0) 2 5 = 84 := W11.c5
            have E20 : nb_rd (nb_wr M 2 15 0) 84 7 = M.1 84 7 := nb_rdw (Or.inl (by decide)) (nb_rd_1 _ _ _)
            refine nb_Wg (q_c_staff_11 _ _ _ _ _ (by omega) (by rw [E19]; first | done | omega) (by omega)) ?_
            simp only [E19, E20]
            clear E19 E20
            refine nb_Gb ?_
            refine nb_W.imp (nb_Hu H) (fun r M22 H => ?_)
            obtain ⟨x21, rfl, W23, g24, H⟩ := H
            replace H := nb_Hw H
            show nb_W 17 12 [(19, 2), (0, l1), (0, l2), (16, 98 + 2 * l1)] [(0, x21)] M22 _
            refine nb_Wg (q_c_staff_12 _ _ _ _ _ _) ?_
            refine nb_Gs ?_
            exact nb_Hu H W23
          have H := nb_Hw ((nb_Hu H).2.2 (by omega) (by omega))
          refine nb_Gr ?_
          have E26 : nb_rd (nb_wr M 2 15 0) 2 5 = 84 := W11.c5
          have E27 : nb_rd (nb_wr M 2 15 0) 84 7 = M.1 84 7 := nb_rdw (Or.inl (by decide)) (nb_rd_1 _ _ _)
          refine nb_Wg (q_c_staff_13 _ _ _ _ _ (by omega) (by rw [E26]; first | done | omega) (by omega)) ?_
          simp only [E26, E27]
          clear E26 E27
          refine nb_Gb ?_
          refine nb_W.imp (nb_Hu H) (fun r M29 H => ?_)
          obtain ⟨x28, rfl, W30, g31, H⟩ := H
          replace H := nb_Hw H
          show nb_W 17 14 [(19, 2), (0, l1), (0, l2), (16, 98 + 2 * l1)] [(0, x28)] M29 _
          refine nb_Wg (q_c_staff_14 _ _ _ _ _ _) ?_
          refine nb_Gs ?_
          exact nb_Hu H W30
    · have H := nb_Hw ((nb_Hu H).2 (by omega))
      have c37 : M.1 Ho 12 ≤ l1 := by omega
      refine nb_Gr ?_
      refine nb_Wg (q_c_isStaff_3 _ _ _) ?_
      refine nb_Gr ?_
      have E34 : nb_i2z 0 = 0 := by decide
      refine nb_Wg (q_c_isStaff_4 _ _ _ _) ?_
      simp only [E34]
      clear E34
      refine nb_Gs ?_
      show nb_W 17 1 [(19, 2), (0, l1), (0, l2), v3] [(0, 0), (19, 2)] M _
      refine nb_Wg (q_c_staff_1 _ _ _ _ _ _ _) ?_
      refine nb_Gt (by decide) ?_
      refine nb_Gr ?_
      refine nb_Wg (q_c_staff_5 _ _ _ _ _ _) ?_
      refine nb_Gr ?_
      refine nb_Wg (q_c_staff_6 _ _ _ _ _ _ _ (by omega)) ?_
      refine nb_Gb ?_
      refine nb_Wg (q_c_granted_0 _ _ _ _) ?_
      refine nb_Gt (by decide) ?_
      refine nb_Gr ?_
      refine nb_Wg (q_c_granted_2 _ _ _ _ _) ?_
      refine nb_Gr ?_
      refine nb_Wg (q_c_granted_3 _ _ _ _ _ _ (by omega)) ?_
      have W35 : nb_Lay (nb_wr M 2 15 1) := W.wr (fun w => (nb_nlit (by decide) (by decide)))
      refine nb_Gr ?_
      have E36 : nb_i2z 0 = 0 := by decide
      refine nb_Wg (q_c_granted_4 _ _ _ _) ?_
      simp only [E36]
      clear E36
      refine nb_Gs ?_
      show nb_W 17 7 [(19, 2), (0, l1), (0, l2), v3] [(0, 0)] (nb_wr M 2 15 1) _
      refine nb_Wg (q_c_staff_7 _ _ _ _ _ _) ?_
      refine nb_Gt (by decide) ?_
      refine nb_Gr ?_
      refine nb_Wg (q_c_staff_8 _ _ _ _ _) ?_
      refine nb_Gs ?_
      exact nb_Hu H W35

theorem w_sv_busy_0 {v l1 : Int} {v2 v3 : nb_V} {M : nb_M} {Q : List nb_V → nb_M → Prop} (hv : v ≠ 0) (hvf : M.1 v 0 = v + 1) (hvl : nb_ln M (v + 1) = 2) (hv1 : v + 1 ≠ 0) (H : nb_W 276 1 [(16, v), (0, l1), (0, 0), (0, 0)] [] M Q) :
    nb_W 276 0 [(16, v), (0, l1), v2, v3] [] M Q := by
  replace H := nb_Hw H
  refine nb_Wg (q_sv_busyHands_0 _ _ _ _ _) ?_
  refine nb_Gr ?_
  exact nb_Hu H

theorem w_sv_busy_1 {v l1 l2 l3 : Int} {M : nb_M} {Q : List nb_V → nb_M → Prop} (hv : v ≠ 0) (hvf : M.1 v 0 = v + 1) (hvl : nb_ln M (v + 1) = 2) (hv1 : v + 1 ≠ 0) (b0_ : 0 ≤ l2 ∧ l2 ≤ 2) (b1_ : 0 ≤ l3 ∧ l3 ≤ 2) (H : (l3 < 2 → (l3 < M.1 v 6 → (l1 < M.1 (v + 1) l3 → nb_W 276 1 [(16, v), (0, l1), (0, l2 + 1), (0, l3 + 1)] [] M Q) ∧ (M.1 (v + 1) l3 ≤ l1 → nb_W 276 1 [(16, v), (0, l1), (0, l2), (0, l3 + 1)] [] M Q)) ∧ (M.1 v 6 ≤ l3 → Q [(0, l2)] M)) ∧ (2 ≤ l3 → Q [(0, l2)] M)) :
    nb_W 276 1 [(16, v), (0, l1), (0, l2), (0, l3)] [] M Q := by
  replace H := nb_Hw H
  refine nb_Wg (q_sv_busyHands_1 _ _ _ _ _) ?_
  refine nb_Gi (fun c10 => ?_) (fun c10 => ?_)
  · have H := nb_Hw ((nb_Hu H).1 c10)
    refine nb_Gr ?_
    have E1 : nb_rd M v 6 = M.1 v 6 := nb_rd_1 _ _ _
    refine nb_Wg (q_sv_busyHands_2 _ _ _ _ _ (by omega)) ?_
    simp only [E1]
    clear E1
    refine nb_Gi (fun c9 => ?_) (fun c9 => ?_)
    · have H := nb_Hw ((nb_Hu H).1 c9)
      refine nb_Gr ?_
      have E2 : nb_rd M v 0 = v + 1 := hvf
      have N3 : nb_ln M (v + 1) = 2 := hvl
      have E4 : nb_rd M (v + 1) l3 = M.1 (v + 1) l3 := nb_rd_1 _ _ _
      refine nb_Wg (q_sv_busyHands_3 _ _ _ _ _ (by omega) (by rw [E2]; first | done | omega) (by omega) (by rw [E2, N3]; first | done | omega)) ?_
      simp only [E2, E4]
      clear E2 N3 E4
      refine nb_Gi (fun c8 => ?_) (fun c8 => ?_)
      · have H := nb_Hw ((nb_Hu H).1 c8)
        refine nb_Gr ?_
        have E5 : nb_add l2 1 = l2 + 1 := nb_add_eq (by omega) (by omega)
        refine nb_Wg (q_sv_busyHands_4 _ _ _ _ _) ?_
        simp only [E5]
        clear E5
        refine nb_Gr ?_
        have E6 : nb_add l3 1 = l3 + 1 := nb_add_eq (by omega) (by omega)
        refine nb_Wg (q_sv_busyHands_5 _ _ _ _ _) ?_
        simp only [E6]
        clear E6
        refine nb_Gr ?_
        exact nb_Hu H
      · have H := nb_Hw ((nb_Hu H).2 (by omega))
        have c8 : M.1 (v + 1) l3 ≤ l1 := by omega
        refine nb_Gr ?_
        have E7 : nb_add l3 1 = l3 + 1 := nb_add_eq (by omega) (by omega)
        refine nb_Wg (q_sv_busyHands_5 _ _ _ _ _) ?_
        simp only [E7]
        clear E7
        refine nb_Gr ?_
        exact nb_Hu H
    · have H := nb_Hw ((nb_Hu H).2 (by omega))
      have c9 : M.1 v 6 ≤ l3 := by omega
      refine nb_Gr ?_
      refine nb_Wg (q_sv_busyHands_6 _ _ _ _ _) ?_
      refine nb_Gs ?_
      exact nb_Hu H
  · have H := nb_Hw ((nb_Hu H).2 (by omega))
    have c10 : 2 ≤ l3 := by omega
    refine nb_Gr ?_
    refine nb_Wg (q_sv_busyHands_6 _ _ _ _ _) ?_
    refine nb_Gs ?_
    exact nb_Hu H

theorem w_sv_firstF_0 {v l1 : Int} {v2 v3 : nb_V} {M : nb_M} {Q : List nb_V → nb_M → Prop} (hv : v ≠ 0) (hvf : M.1 v 0 = v + 1) (hvl : nb_ln M (v + 1) = 2) (hv1 : v + 1 ≠ 0) (H : nb_W 277 1 [(16, v), (0, l1), (0, 1000000), (0, 0)] [] M Q) :
    nb_W 277 0 [(16, v), (0, l1), v2, v3] [] M Q := by
  replace H := nb_Hw H
  refine nb_Wg (q_sv_firstFree_0 _ _ _ _ _) ?_
  refine nb_Gr ?_
  exact nb_Hu H

theorem w_sv_firstF_1 {v l1 l2 l3 : Int} {M : nb_M} {Q : List nb_V → nb_M → Prop} (hv : v ≠ 0) (hvf : M.1 v 0 = v + 1) (hvl : nb_ln M (v + 1) = 2) (hv1 : v + 1 ≠ 0) (b0_ : 0 ≤ l3 ∧ l3 ≤ 2) (H : (l3 < 2 → (l3 < M.1 v 6 → nb_W 277 1 [(16, v), (0, l1), (0, if (if l1 < M.1 (v + 1) l3 then M.1 (v + 1) l3 else l1) < l2 then (if l1 < M.1 (v + 1) l3 then M.1 (v + 1) l3 else l1) else l2), (0, l3 + 1)] [] M Q) ∧ (M.1 v 6 ≤ l3 → Q [(0, l2)] M)) ∧ (2 ≤ l3 → Q [(0, l2)] M)) :
    nb_W 277 1 [(16, v), (0, l1), (0, l2), (0, l3)] [] M Q := by
  replace H := nb_Hw H
  refine nb_Wg (q_sv_firstFree_1 _ _ _ _ _) ?_
  refine nb_Gi (fun c7 => ?_) (fun c7 => ?_)
  · have H := nb_Hw ((nb_Hu H).1 c7)
    refine nb_Gr ?_
    have E1 : nb_rd M v 6 = M.1 v 6 := nb_rd_1 _ _ _
    refine nb_Wg (q_sv_firstFree_2 _ _ _ _ _ (by omega)) ?_
    simp only [E1]
    clear E1
    refine nb_Gi (fun c6 => ?_) (fun c6 => ?_)
    · have H := nb_Hw ((nb_Hu H).1 c6)
      refine nb_Gr ?_
      have E2 : nb_rd M v 0 = v + 1 := hvf
      have N3 : nb_ln M (v + 1) = 2 := hvl
      have E4 : nb_rd M (v + 1) l3 = M.1 (v + 1) l3 := nb_rd_1 _ _ _
      refine nb_Wg (q_sv_firstFree_3 _ _ _ _ _ (by omega) (by rw [E2]; first | done | omega) (by omega) (by rw [E2, N3]; first | done | omega)) ?_
      simp only [E2, E4]
      clear E2 N3 E4
      refine nb_Gp ?_
      show nb_W 277 4 [(16, v), (0, l1), (0, l2), (0, l3)] [(0, (if l1 < M.1 (v + 1) l3 then M.1 (v + 1) l3 else l1)), (0, l2)] M _
      refine nb_Wg (q_sv_firstFree_4 _ _ _ _ _ _ _) ?_
      refine nb_Gp ?_
      show nb_W 277 5 [(16, v), (0, l1), (0, l2), (0, l3)] [(0, if (if l1 < M.1 (v + 1) l3 then M.1 (v + 1) l3 else l1) < l2 then (if l1 < M.1 (v + 1) l3 then M.1 (v + 1) l3 else l1) else l2)] M _
      have E5 : nb_add l3 1 = l3 + 1 := nb_add_eq (by omega) (by omega)
      refine nb_Wg (q_sv_firstFree_5 _ _ _ _ _ _) ?_
      simp only [E5]
      clear E5
      refine nb_Gr ?_
      exact nb_Hu H
    · have H := nb_Hw ((nb_Hu H).2 (by omega))
      have c6 : M.1 v 6 ≤ l3 := by omega
      refine nb_Gr ?_
      refine nb_Wg (q_sv_firstFree_6 _ _ _ _ _) ?_
      refine nb_Gs ?_
      exact nb_Hu H
  · have H := nb_Hw ((nb_Hu H).2 (by omega))
    have c7 : 2 ≤ l3 := by omega
    refine nb_Gr ?_
    refine nb_Wg (q_sv_firstFree_6 _ _ _ _ _) ?_
    refine nb_Gs ?_
    exact nb_Hu H

theorem w_m_staff_9 {l1 l2 l3 l4 l5 l6 : Int} {M : nb_M} {Q : List nb_V → nb_M → Prop} (W : nb_Lay M)  (b0_ : 0 ≤ l4 ∧ l4 ≤ 2) (b1_ : 0 ≤ l6 ∧ l6 ≤ 3) (b2_ : 0 ≤ l1 ∧ l1 ≤ 2) (b3_ : 92 ≤ l3 ∧ l3 ≤ 104) (b4_ : 0 ≤ l5 ∧ l5 ≤ 1000000) (H : 0 ≤ M.1 612 (6 * l1 + 5) ∧ M.1 612 (6 * l1 + 5) ≤ 2 ∧ (M.1 612 (6 * l1 + 5) < l6 → (l2 = 0 → Q [(0, M.1 608 l3)] M) ∧ (l2 ≠ 0 → (l2 = 1 → Q [(0, l4)] M) ∧ (l2 ≠ 1 → (M.1 608 0 < l5 → Q [(0, l5)] M) ∧ (l5 ≤ M.1 608 0 → Q [(0, M.1 608 0)] M)))) ∧ (l6 ≤ M.1 612 (6 * l1 + 5) → (M.1 608 0 < M.1 608 (l3 + l6) → (M.1 608 (l3 + l6) < l5 → nb_W 143 9 [(20, 603), (0, l1), (0, l2), (0, l3), (0, l4 + 1), (0, M.1 608 (l3 + l6)), (0, l6 + 1)] [] M Q) ∧ (l5 ≤ M.1 608 (l3 + l6) → nb_W 143 9 [(20, 603), (0, l1), (0, l2), (0, l3), (0, l4 + 1), (0, l5), (0, l6 + 1)] [] M Q)) ∧ (M.1 608 (l3 + l6) ≤ M.1 608 0 → (M.1 608 (l3 + l6) < l5 → nb_W 143 9 [(20, 603), (0, l1), (0, l2), (0, l3), (0, l4), (0, M.1 608 (l3 + l6)), (0, l6 + 1)] [] M Q) ∧ (l5 ≤ M.1 608 (l3 + l6) → nb_W 143 9 [(20, 603), (0, l1), (0, l2), (0, l3), (0, l4), (0, l5), (0, l6 + 1)] [] M Q)))) :
    nb_W 143 9 [(20, 603), (0, l1), (0, l2), (0, l3), (0, l4), (0, l5), (0, l6)] [] M Q := by
  replace H := nb_Hw H
  obtain ⟨p0_, p1_, H⟩ := H
  replace H := nb_Hw H
  have E1 : nb_rd M 603 23 = 612 := W.m23
  have E2 : nb_mul 6 l1 = 6 * l1 := nb_mul_eq (by omega) (by omega)
  have E3 : nb_add (6 * l1) 5 = 6 * l1 + 5 := nb_add_eq (by omega) (by omega)
  have N4 : nb_ln M 612 = 24 := W.lk (by decide) (by decide +kernel)
  have E5 : nb_rd M 612 (6 * l1 + 5) = M.1 612 (6 * l1 + 5) := nb_rd_1 _ _ _
  refine nb_Wg (q_m_staff_9 _ _ _ _ _ _ _ _ (by omega) (by rw [E1]; first | done | omega) (by rw [E2, E3]; first | done | omega) (by rw [E2, E3, E1, N4]; first | done | omega)) ?_
  simp only [E1, E2, E3, E5]
  clear E1 E2 E3 N4 E5
  refine nb_Gi (fun c50 => ?_) (fun c50 => ?_)
  · have H := nb_Hw ((nb_Hu H).1 c50)
    refine nb_Gr ?_
    refine nb_Wg (q_m_staff_17 _ _ _ _ _ _ _ _) ?_
    refine nb_Gi (fun c17 => ?_) (fun c17 => ?_)
    · have H := nb_Hw ((nb_Hu H).1 c17)
      refine nb_Gr ?_
      have E6 : nb_rd M 603 17 = 608 := W.m17
      have N7 : nb_ln M 608 = 108 := W.lk (by decide) (by decide +kernel)
      have E8 : nb_rd M 608 l3 = M.1 608 l3 := nb_rd_1 _ _ _
      refine nb_Wg (q_m_staff_18 _ _ _ _ _ _ _ _ (by omega) (by rw [E6]; first | done | omega) (by omega) (by rw [E6, N7]; first | done | omega)) ?_
      simp only [E6, E8]
      clear E6 N7 E8
      refine nb_Gr ?_
      refine nb_Wg (q_m_staff_24 _ _ _ _ _ _ _ _ _) ?_
      refine nb_Gs ?_
      exact nb_Hu H
    · have H := nb_Hw ((nb_Hu H).2 (by omega))
      have c17 : l2 ≠ 0 := by omega
      refine nb_Gr ?_
      refine nb_Wg (q_m_staff_19 _ _ _ _ _ _ _ _) ?_
      refine nb_Gi (fun c16 => ?_) (fun c16 => ?_)
      · have H := nb_Hw ((nb_Hu H).1 c16)
        refine nb_Gr ?_
        refine nb_Wg (q_m_staff_20 _ _ _ _ _ _ _ _) ?_
        refine nb_Gr ?_
        refine nb_Wg (q_m_staff_24 _ _ _ _ _ _ _ _ _) ?_
        refine nb_Gs ?_
        exact nb_Hu H
      · have H := nb_Hw ((nb_Hu H).2 (by omega))
        have c16 : l2 ≠ 1 := by omega
        refine nb_Gr ?_
        have E9 : nb_rd M 603 17 = 608 := W.m17
        have N10 : nb_ln M 608 = 108 := W.lk (by decide) (by decide +kernel)
        have E11 : nb_rd M 608 0 = M.1 608 0 := nb_rd_1 _ _ _
        refine nb_Wg (q_m_staff_21 _ _ _ _ _ _ _ _ (by omega) (by rw [E9]; first | done | omega) (by omega) (by rw [E9, N10]; first | done | omega)) ?_
        simp only [E9, E11]
        clear E9 N10 E11
        refine nb_Gi (fun c15 => ?_) (fun c15 => ?_)
        · have H := nb_Hw ((nb_Hu H).1 c15)
          refine nb_Gr ?_
          refine nb_Wg (q_m_staff_22 _ _ _ _ _ _ _ _) ?_
          refine nb_Gr ?_
          refine nb_Wg (q_m_staff_24 _ _ _ _ _ _ _ _ _) ?_
          refine nb_Gs ?_
          exact nb_Hu H
        · have H := nb_Hw ((nb_Hu H).2 (by omega))
          have c15 : l5 ≤ M.1 608 0 := by omega
          refine nb_Gr ?_
          have E12 : nb_rd M 603 17 = 608 := W.m17
          have N13 : nb_ln M 608 = 108 := W.lk (by decide) (by decide +kernel)
          have E14 : nb_rd M 608 0 = M.1 608 0 := nb_rd_1 _ _ _
          refine nb_Wg (q_m_staff_23 _ _ _ _ _ _ _ _ (by omega) (by rw [E12]; first | done | omega) (by omega) (by rw [E12, N13]; first | done | omega)) ?_
          simp only [E12, E14]
          clear E12 N13 E14
          refine nb_Gr ?_
          refine nb_Wg (q_m_staff_24 _ _ _ _ _ _ _ _ _) ?_
          refine nb_Gs ?_
          exact nb_Hu H
  · have H := nb_Hw ((nb_Hu H).2 (by omega))
    have c50 : l6 ≤ M.1 612 (6 * l1 + 5) := by omega
    refine nb_Gr ?_
    have E18 : nb_rd M 603 17 = 608 := W.m17
    have E19 : nb_add l3 l6 = l3 + l6 := nb_add_eq (by omega) (by omega)
    have N20 : nb_ln M 608 = 108 := W.lk (by decide) (by decide +kernel)
    have E21 : nb_rd M 608 (l3 + l6) = M.1 608 (l3 + l6) := nb_rd_1 _ _ _
    have E22 : nb_rd M 603 17 = 608 := W.m17
    have N23 : nb_ln M 608 = 108 := W.lk (by decide) (by decide +kernel)
    have E24 : nb_rd M 608 0 = M.1 608 0 := nb_rd_1 _ _ _
    refine nb_Wg (q_m_staff_10 _ _ _ _ _ _ _ _ (by omega) (by rw [E18]; first | done | omega) (by rw [E19]; first | done | omega) (by rw [E19, E18, N20]; first | done | omega) (by omega) (by rw [E22, N23]; first | done | omega)) ?_
    simp only [E18, E19, E21, E22, E24]
    clear E18 E19 N20 E21 E22 N23 E24
    refine nb_Gi (fun c49 => ?_) (fun c49 => ?_)
    · have H := nb_Hw ((nb_Hu H).1 c49)
      refine nb_Gr ?_
      refine nb_Wg (q_m_staff_11 _ _ _ _ _ _ _ _ _) ?_
      refine nb_Gr ?_
      have E25 : nb_add l4 1 = l4 + 1 := nb_add_eq (by omega) (by omega)
      have E26 : nb_rd M 603 17 = 608 := W.m17
      have E27 : nb_add l3 l6 = l3 + l6 := nb_add_eq (by omega) (by omega)
      have N28 : nb_ln M 608 = 108 := W.lk (by decide) (by decide +kernel)
      have E29 : nb_rd M 608 (l3 + l6) = M.1 608 (l3 + l6) := nb_rd_1 _ _ _
      refine nb_Wg (q_m_staff_13 _ _ _ _ _ _ _ _ _ _ (by omega) (by rw [E26]; first | done | omega) (by rw [E27]; first | done | omega) (by rw [E27, E26, N28]; first | done | omega)) ?_
      simp only [E25, E26, E27, E29]
      clear E25 E26 E27 N28 E29
      refine nb_Gi (fun c36 => ?_) (fun c36 => ?_)
      · have H := nb_Hw ((nb_Hu H).1 c36)
        refine nb_Gr ?_
        have E30 : nb_rd M 603 17 = 608 := W.m17
        have E31 : nb_add l3 l6 = l3 + l6 := nb_add_eq (by omega) (by omega)
        have N32 : nb_ln M 608 = 108 := W.lk (by decide) (by decide +kernel)
        have E33 : nb_rd M 608 (l3 + l6) = M.1 608 (l3 + l6) := nb_rd_1 _ _ _
        refine nb_Wg (q_m_staff_14 _ _ _ _ _ _ _ _ (by omega) (by rw [E30]; first | done | omega) (by rw [E31]; first | done | omega) (by rw [E31, E30, N32]; first | done | omega)) ?_
        simp only [E30, E31, E33]
        clear E30 E31 N32 E33
        refine nb_Gr ?_
        have E34 : nb_add l6 1 = l6 + 1 := nb_add_eq (by omega) (by omega)
        refine nb_Wg (q_m_staff_16 _ _ _ _ _ _ _ _ _) ?_
        simp only [E34]
        clear E34
        refine nb_Gr ?_
        exact nb_Hu H
      · have H := nb_Hw ((nb_Hu H).2 (by omega))
        have c36 : l5 ≤ M.1 608 (l3 + l6) := by omega
        refine nb_Gr ?_
        refine nb_Wg (q_m_staff_15 _ _ _ _ _ _ _ _) ?_
        refine nb_Gr ?_
        have E35 : nb_add l6 1 = l6 + 1 := nb_add_eq (by omega) (by omega)
        refine nb_Wg (q_m_staff_16 _ _ _ _ _ _ _ _ _) ?_
        simp only [E35]
        clear E35
        refine nb_Gr ?_
        exact nb_Hu H
    · have H := nb_Hw ((nb_Hu H).2 (by omega))
      have c49 : M.1 608 (l3 + l6) ≤ M.1 608 0 := by omega
      refine nb_Gr ?_
      refine nb_Wg (q_m_staff_12 _ _ _ _ _ _ _ _ _) ?_
      refine nb_Gr ?_
      have E37 : nb_add l4 0 = l4 := (nb_add_eq (x := l4) (y := 0) (by omega) (by omega)).trans (by omega)
      have E38 : nb_rd M 603 17 = 608 := W.m17
      have E39 : nb_add l3 l6 = l3 + l6 := nb_add_eq (by omega) (by omega)
      have N40 : nb_ln M 608 = 108 := W.lk (by decide) (by decide +kernel)
      have E41 : nb_rd M 608 (l3 + l6) = M.1 608 (l3 + l6) := nb_rd_1 _ _ _
      refine nb_Wg (q_m_staff_13 _ _ _ _ _ _ _ _ _ _ (by omega) (by rw [E38]; first | done | omega) (by rw [E39]; first | done | omega) (by rw [E39, E38, N40]; first | done | omega)) ?_
      simp only [E37, E38, E39, E41]
      clear E37 E38 E39 N40 E41
      refine nb_Gi (fun c48 => ?_) (fun c48 => ?_)
      · have H := nb_Hw ((nb_Hu H).1 c48)
        refine nb_Gr ?_
        have E42 : nb_rd M 603 17 = 608 := W.m17
        have E43 : nb_add l3 l6 = l3 + l6 := nb_add_eq (by omega) (by omega)
        have N44 : nb_ln M 608 = 108 := W.lk (by decide) (by decide +kernel)
        have E45 : nb_rd M 608 (l3 + l6) = M.1 608 (l3 + l6) := nb_rd_1 _ _ _
        refine nb_Wg (q_m_staff_14 _ _ _ _ _ _ _ _ (by omega) (by rw [E42]; first | done | omega) (by rw [E43]; first | done | omega) (by rw [E43, E42, N44]; first | done | omega)) ?_
        simp only [E42, E43, E45]
        clear E42 E43 N44 E45
        refine nb_Gr ?_
        have E46 : nb_add l6 1 = l6 + 1 := nb_add_eq (by omega) (by omega)
        refine nb_Wg (q_m_staff_16 _ _ _ _ _ _ _ _ _) ?_
        simp only [E46]
        clear E46
        refine nb_Gr ?_
        exact nb_Hu H
      · have H := nb_Hw ((nb_Hu H).2 (by omega))
        have c48 : l5 ≤ M.1 608 (l3 + l6) := by omega
        refine nb_Gr ?_
        refine nb_Wg (q_m_staff_15 _ _ _ _ _ _ _ _) ?_
        refine nb_Gr ?_
        have E47 : nb_add l6 1 = l6 + 1 := nb_add_eq (by omega) (by omega)
        refine nb_Wg (q_m_staff_16 _ _ _ _ _ _ _ _ _) ?_
        simp only [E47]
        clear E47
        refine nb_Gr ?_
        exact nb_Hu H
