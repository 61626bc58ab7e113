/-! rules, printed by wip/gen -/
theorem w_m_letCosts_q {l1 l2 : Int} {v3 v4 v5 : nb_V} {M : nb_M} {Q : List nb_V → nb_M → Prop} (W : nb_Lay M) (H : 0 ≤ M.1 603 14 ∧ M.1 603 14 ≤ 1 ∧ (M.1 603 14 = 0 → (nb_Lay (nb_wr (nb_wr (nb_wr M 603 0 0) 603 11 0) 603 11 1) → Q [(0, (-1000))] (nb_wr (nb_wr (nb_wr M 603 0 0) 603 11 0) 603 11 1))) ∧ (M.1 603 14 ≠ 0 → 0 ≤ M.1 606 5 ∧ M.1 606 5 ≤ 10 ∧ (l1 < 0 → (nb_Lay (nb_wr (nb_wr (nb_wr M 603 0 0) 603 11 0) 603 11 1) → Q [(0, (-1000))] (nb_wr (nb_wr (nb_wr M 603 0 0) 603 11 0) 603 11 1))) ∧ (0 ≤ l1 → (M.1 606 5 - 1 < l1 → (nb_Lay (nb_wr (nb_wr (nb_wr M 603 0 0) 603 11 0) 603 11 1) → Q [(0, (-1000))] (nb_wr (nb_wr (nb_wr M 603 0 0) 603 11 0) 603 11 1))) ∧ (l1 ≤ M.1 606 5 - 1 → (l2 < 0 → (nb_Lay (nb_wr (nb_wr (nb_wr M 603 0 0) 603 11 0) 603 11 1) → Q [(0, (-1000))] (nb_wr (nb_wr (nb_wr M 603 0 0) 603 11 0) 603 11 1))) ∧ (0 ≤ l2 → (M.1 606 5 - 1 < l2 → (nb_Lay (nb_wr (nb_wr (nb_wr M 603 0 0) 603 11 0) 603 11 1) → Q [(0, (-1000))] (nb_wr (nb_wr (nb_wr M 603 0 0) 603 11 0) 603 11 1))) ∧ (l2 ≤ M.1 606 5 - 1 → (l1 = l2 → (nb_Lay (nb_wr (nb_wr (nb_wr M 603 0 0) 603 11 0) 603 11 1) → Q [(0, (-1000))] (nb_wr (nb_wr (nb_wr M 603 0 0) 603 11 0) 603 11 1))) ∧ (l1 ≠ l2 → (M.1 608 (12 + 8 * l1) = 1 → (M.1 608 (12 + 8 * l2) = 1 → (M.1 608 (12 + 8 * l2 + 3) < M.1 608 (12 + 8 * l1 + 3) → (nb_Lay (nb_wr (nb_wr (nb_wr M 603 0 0) 603 11 0) 603 11 5) → Q [(0, (-1000))] (nb_wr (nb_wr (nb_wr M 603 0 0) 603 11 0) 603 11 5))) ∧ (M.1 608 (12 + 8 * l1 + 3) ≤ M.1 608 (12 + 8 * l2 + 3) → nb_W 121 0 [(20, 603)] [] (nb_wr (nb_wr M 603 0 0) 603 11 0) (fun r M62 => r = [] ∧ nb_Lay M62 ∧ nb_W 134 0 [(20, 603)] [] (nb_wr M62 603 26 (M62.1 606 2)) (fun r M69 => r = [] ∧ nb_Lay M69 ∧ nb_W 136 0 [(20, 603), (0, l1), (98, 0)] [] M69 (fun r M72 => ∃ x71 : Int, r = [(0, x71)] ∧ nb_Lay M72 ∧ -2147483648 ≤ 8 * l1 ∧ 8 * l1 ≤ 2147483647 ∧ -2147483648 ≤ 12 + 8 * l1 ∧ 12 + 8 * l1 ≤ 2147483647 ∧ -2147483648 ≤ 12 + 8 * l1 + 3 ∧ 12 + 8 * l1 + 3 ≤ 2147483647 ∧ 0 ≤ 12 + 8 * l1 + 3 ∧ 12 + 8 * l1 + 3 < 108 ∧ -2147483648 ≤ 8 * l2 ∧ 8 * l2 ≤ 2147483647 ∧ -2147483648 ≤ 12 + 8 * l2 ∧ 12 + 8 * l2 ≤ 2147483647 ∧ -2147483648 ≤ 12 + 8 * l2 + 3 ∧ 12 + 8 * l2 + 3 ≤ 2147483647 ∧ 0 ≤ 12 + 8 * l2 + 3 ∧ 12 + 8 * l2 + 3 < 108 ∧ -2147483648 ≤ M72.1 608 (12 + 8 * l2 + 3) + 1 ∧ M72.1 608 (12 + 8 * l2 + 3) + 1 ≤ 2147483647 ∧ nb_W 134 0 [(20, 603)] [] (nb_wr M72 608 (12 + 8 * l1 + 3) (M72.1 608 (12 + 8 * l2 + 3) + 1)) (fun r M91 => r = [] ∧ nb_Lay M91 ∧ nb_W 136 0 [(20, 603), (0, l1), (98, 0)] [] (nb_wr M91 608 (12 + 8 * l1 + 3) (M72.1 608 (12 + 8 * l1 + 3))) (fun r M97 => ∃ x96 : Int, r = [(0, x96)] ∧ nb_Lay M97 ∧ -2147483648 ≤ x96 - x71 ∧ x96 - x71 ≤ 2147483647 ∧ (nb_Lay M97 → Q [(0, x96 - x71)] M97)))))))) ∧ (M.1 608 (12 + 8 * l2) ≠ 1 → (nb_Lay (nb_wr (nb_wr (nb_wr M 603 0 0) 603 11 0) 603 11 5) → Q [(0, (-1000))] (nb_wr (nb_wr (nb_wr M 603 0 0) 603 11 0) 603 11 5)))) ∧ (M.1 608 (12 + 8 * l1) ≠ 1 → (nb_Lay (nb_wr (nb_wr (nb_wr M 603 0 0) 603 11 0) 603 11 5) → Q [(0, (-1000))] (nb_wr (nb_wr (nb_wr M 603 0 0) 603 11 0) 603 11 5)))))))))) :
    nb_W 176 0 [(20, 603), (0, l1), (0, l2), v3, v4, v5] [] M Q := by
  replace H := nb_Hw H
  refine nb_Wg (q_m_letCosts_0 _ _ _ _ _ _ _ (by omega)) ?_
  refine nb_Gb ?_
  refine nb_Wg (q_m_good_0 _ _ (by omega)) ?_
  have W1 : nb_Lay (nb_wr M 603 0 0) := W.wr (fun w => (nb_nlit (by decide) (by decide)))
  refine nb_Gr ?_
  refine nb_Wg (q_m_good_1 _ _ (by omega)) ?_
  have W2 : nb_Lay (nb_wr (nb_wr M 603 0 0) 603 11 0) := W1.wr (fun w => (nb_nlit (by decide) (by decide)))
  refine nb_Gr ?_
  refine nb_Wg (q_m_good_2 _ _) ?_
  refine nb_Gs ?_
  show nb_W 176 1 [(20, 603), (0, l1), (0, l2), v3, v4, v5] [] (nb_wr (nb_wr M 603 0 0) 603 11 0) _
  refine nb_Wg (q_m_letCosts_1 _ _ _ _ _ _ _ (by omega)) ?_
  refine nb_Gb ?_
  obtain ⟨p0_, p1_, H⟩ := H
  replace H := nb_Hw H
  have E3 : nb_rd (nb_wr (nb_wr M 603 0 0) 603 11 0) 603 14 = M.1 603 14 := nb_rdw (Or.inr (by decide)) (nb_rdw (Or.inr (by decide)) (nb_rd_1 _ _ _))
  refine nb_Wg (q_m_isPerson_0 _ _ _ (by omega)) ?_
  simp only [E3]
  clear E3
  refine nb_Gi (fun c114 => ?_) (fun c114 => ?_)
  · have H := nb_Hw ((nb_Hu H).1 c114)
    refine nb_Gr ?_
    refine nb_Wg (q_m_isPerson_4 _ _ _) ?_
    refine nb_Gr ?_
    have E4 : nb_i2z 0 = 0 := by decide
    refine nb_Wg (q_m_isPerson_5 _ _ _ _) ?_
    simp only [E4]
    clear E4
    refine nb_Gs ?_
    show nb_W 176 2 [(20, 603), (0, l1), (0, l2), v3, v4, v5] [(0, 0)] (nb_wr (nb_wr M 603 0 0) 603 11 0) _
    refine nb_Wg (q_m_letCosts_2 _ _ _ _ _ _ _ _) ?_
    refine nb_Gt (by decide) ?_
    refine nb_Gr ?_
    refine nb_Wg (q_m_letCosts_6 _ _ _ _ _ _ _ (by omega)) ?_
    refine nb_Gb ?_
    refine nb_Wg (q_m_noLess_0 _ _ _ (by omega)) ?_
    have W5 : nb_Lay (nb_wr (nb_wr (nb_wr M 603 0 0) 603 11 0) 603 11 1) := W2.wr (fun w => (nb_nlit (by decide) (by decide)))
    refine nb_Gr ?_
    refine nb_Wg (q_m_noLess_1 _ _ _) ?_
    refine nb_Gs ?_
    show nb_W 176 7 [(20, 603), (0, l1), (0, l2), v3, v4, v5] [(0, (-1000))] (nb_wr (nb_wr (nb_wr M 603 0 0) 603 11 0) 603 11 1) _
    refine nb_Wg (q_m_letCosts_7 _ _ _ _ _ _ _ _) ?_
    refine nb_Gs ?_
    exact nb_Hu H W5
  · have H := nb_Hw ((nb_Hu H).2 (by omega))
    have c114 : M.1 603 14 ≠ 0 := by omega
    refine nb_Gr ?_
    obtain ⟨p0_, p1_, H⟩ := H
    replace H := nb_Hw H
    have E6 : nb_rd (nb_wr (nb_wr M 603 0 0) 603 11 0) 603 15 = 606 := W2.m15
    have N7 : nb_ln (nb_wr (nb_wr M 603 0 0) 603 11 0) 606 = 347 := W2.lk (by decide) (by decide +kernel)
    have E8 : nb_rd (nb_wr (nb_wr M 603 0 0) 603 11 0) 606 5 = M.1 606 5 := nb_rdw (Or.inl (by decide)) (nb_rdw (Or.inl (by decide)) (nb_rd_1 _ _ _))
    have E9 : nb_sub (M.1 606 5) 1 = M.1 606 5 - 1 := nb_sub_eq (by omega) (by omega)
    refine nb_Wg (q_m_isPerson_1 _ _ _ (by omega) (by rw [E6]; first | done | omega) (by omega) (by rw [E6, N7]; first | done | omega)) ?_
    simp only [E6, E8, E9]
    clear E6 N7 E8 E9
    refine nb_Gb ?_
    refine nb_Wg (q_m_within_0 _ _ _ _) ?_
    refine nb_Gi (fun c113 => ?_) (fun c113 => ?_)
    · have H := nb_Hw ((nb_Hu H).1 c113)
      refine nb_Gr ?_
      refine nb_Wg (q_m_within_3 _ _ _ _) ?_
      refine nb_Gr ?_
      have E10 : nb_i2z 0 = 0 := by decide
      refine nb_Wg (q_m_within_4 _ _ _ _ _) ?_
      simp only [E10]
      clear E10
      refine nb_Gs ?_
      show nb_W 116 2 [(20, 603), (0, l1)] [(0, 0)] (nb_wr (nb_wr M 603 0 0) 603 11 0) _
      refine nb_Wg (q_m_isPerson_2 _ _ _ _) ?_
      refine nb_Gt (by decide) ?_
      refine nb_Gr ?_
      refine nb_Wg (q_m_isPerson_4 _ _ _) ?_
      refine nb_Gr ?_
      have E11 : nb_i2z 0 = 0 := by decide
      refine nb_Wg (q_m_isPerson_5 _ _ _ _) ?_
      simp only [E11]
      clear E11
      refine nb_Gs ?_
      show nb_W 176 2 [(20, 603), (0, l1), (0, l2), v3, v4, v5] [(0, 0)] (nb_wr (nb_wr M 603 0 0) 603 11 0) _
      refine nb_Wg (q_m_letCosts_2 _ _ _ _ _ _ _ _) ?_
      refine nb_Gt (by decide) ?_
      refine nb_Gr ?_
      refine nb_Wg (q_m_letCosts_6 _ _ _ _ _ _ _ (by omega)) ?_
      refine nb_Gb ?_
      refine nb_Wg (q_m_noLess_0 _ _ _ (by omega)) ?_
      have W12 : nb_Lay (nb_wr (nb_wr (nb_wr M 603 0 0) 603 11 0) 603 11 1) := W2.wr (fun w => (nb_nlit (by decide) (by decide)))
      refine nb_Gr ?_
      refine nb_Wg (q_m_noLess_1 _ _ _) ?_
      refine nb_Gs ?_
      show nb_W 176 7 [(20, 603), (0, l1), (0, l2), v3, v4, v5] [(0, (-1000))] (nb_wr (nb_wr (nb_wr M 603 0 0) 603 11 0) 603 11 1) _
      refine nb_Wg (q_m_letCosts_7 _ _ _ _ _ _ _ _) ?_
      refine nb_Gs ?_
      exact nb_Hu H W12
    · have H := nb_Hw ((nb_Hu H).2 (by omega))
      have c113 : 0 ≤ l1 := by omega
      refine nb_Gr ?_
      refine nb_Wg (q_m_within_1 _ _ _ _) ?_
      refine nb_Gi (fun c112 => ?_) (fun c112 => ?_)
      · have H := nb_Hw ((nb_Hu H).1 c112)
        refine nb_Gr ?_
        refine nb_Wg (q_m_within_3 _ _ _ _) ?_
        refine nb_Gr ?_
        have E13 : nb_i2z 0 = 0 := by decide
        refine nb_Wg (q_m_within_4 _ _ _ _ _) ?_
        simp only [E13]
        clear E13
        refine nb_Gs ?_
        show nb_W 116 2 [(20, 603), (0, l1)] [(0, 0)] (nb_wr (nb_wr M 603 0 0) 603 11 0) _
        refine nb_Wg (q_m_isPerson_2 _ _ _ _) ?_
        refine nb_Gt (by decide) ?_
        refine nb_Gr ?_
        refine nb_Wg (q_m_isPerson_4 _ _ _) ?_
        refine nb_Gr ?_
        have E14 : nb_i2z 0 = 0 := by decide
        refine nb_Wg (q_m_isPerson_5 _ _ _ _) ?_
        simp only [E14]
        clear E14
        refine nb_Gs ?_
        show nb_W 176 2 [(20, 603), (0, l1), (0, l2), v3, v4, v5] [(0, 0)] (nb_wr (nb_wr M 603 0 0) 603 11 0) _
        refine nb_Wg (q_m_letCosts_2 _ _ _ _ _ _ _ _) ?_
        refine nb_Gt (by decide) ?_
        refine nb_Gr ?_
        refine nb_Wg (q_m_letCosts_6 _ _ _ _ _ _ _ (by omega)) ?_
        refine nb_Gb ?_
        refine nb_Wg (q_m_noLess_0 _ _ _ (by omega)) ?_
        have W15 : nb_Lay (nb_wr (nb_wr (nb_wr M 603 0 0) 603 11 0) 603 11 1) := W2.wr (fun w => (nb_nlit (by decide) (by decide)))
        refine nb_Gr ?_
        refine nb_Wg (q_m_noLess_1 _ _ _) ?_
        refine nb_Gs ?_
        show nb_W 176 7 [(20, 603), (0, l1), (0, l2), v3, v4, v5] [(0, (-1000))] (nb_wr (nb_wr (nb_wr M 603 0 0) 603 11 0) 603 11 1) _
        refine nb_Wg (q_m_letCosts_7 _ _ _ _ _ _ _ _) ?_
        refine nb_Gs ?_
        exact nb_Hu H W15
      · have H := nb_Hw ((nb_Hu H).2 (by omega))
        have c112 : l1 ≤ M.1 606 5 - 1 := by omega
        refine nb_Gr ?_
        refine nb_Wg (q_m_within_2 _ _ _ _) ?_
        refine nb_Gr ?_
        have E16 : nb_i2z 1 = 1 := by decide
        refine nb_Wg (q_m_within_4 _ _ _ _ _) ?_
        simp only [E16]
        clear E16
        refine nb_Gs ?_
        show nb_W 116 2 [(20, 603), (0, l1)] [(0, 1)] (nb_wr (nb_wr M 603 0 0) 603 11 0) _
        refine nb_Wg (q_m_isPerson_2 _ _ _ _) ?_
        refine nb_Gf (by decide) ?_
        refine nb_Gr ?_
        refine nb_Wg (q_m_isPerson_3 _ _ _) ?_
        refine nb_Gr ?_
        have E17 : nb_i2z 1 = 1 := by decide
        refine nb_Wg (q_m_isPerson_5 _ _ _ _) ?_
        simp only [E17]
        clear E17
        refine nb_Gs ?_
        show nb_W 176 2 [(20, 603), (0, l1), (0, l2), v3, v4, v5] [(0, 1)] (nb_wr (nb_wr M 603 0 0) 603 11 0) _
        refine nb_Wg (q_m_letCosts_2 _ _ _ _ _ _ _ _) ?_
        refine nb_Gf (by decide) ?_
        refine nb_Gr ?_
        refine nb_Wg (q_m_letCosts_3 _ _ _ _ _ _ _ (by omega)) ?_
        refine nb_Gb ?_
        have E18 : nb_rd (nb_wr (nb_wr M 603 0 0) 603 11 0) 603 14 = M.1 603 14 := nb_rdw (Or.inr (by decide)) (nb_rdw (Or.inr (by decide)) (nb_rd_1 _ _ _))
        refine nb_Wg (q_m_isPerson_0 _ _ _ (by omega)) ?_
        simp only [E18]
        clear E18
        refine nb_Gf (by omega) ?_
        refine nb_Gr ?_
        have E19 : nb_rd (nb_wr (nb_wr M 603 0 0) 603 11 0) 603 15 = 606 := W2.m15
        have N20 : nb_ln (nb_wr (nb_wr M 603 0 0) 603 11 0) 606 = 347 := W2.lk (by decide) (by decide +kernel)
        have E21 : nb_rd (nb_wr (nb_wr M 603 0 0) 603 11 0) 606 5 = M.1 606 5 := nb_rdw (Or.inl (by decide)) (nb_rdw (Or.inl (by decide)) (nb_rd_1 _ _ _))
        have E22 : nb_sub (M.1 606 5) 1 = M.1 606 5 - 1 := nb_sub_eq (by omega) (by omega)
        refine nb_Wg (q_m_isPerson_1 _ _ _ (by omega) (by rw [E19]; first | done | omega) (by omega) (by rw [E19, N20]; first | done | omega)) ?_
        simp only [E19, E21, E22]
        clear E19 N20 E21 E22
        refine nb_Gb ?_
        refine nb_Wg (q_m_within_0 _ _ _ _) ?_
        refine nb_Gi (fun c111 => ?_) (fun c111 => ?_)
        · have H := nb_Hw ((nb_Hu H).1 c111)
          refine nb_Gr ?_
          refine nb_Wg (q_m_within_3 _ _ _ _) ?_
          refine nb_Gr ?_
          have E23 : nb_i2z 0 = 0 := by decide
          refine nb_Wg (q_m_within_4 _ _ _ _ _) ?_
          simp only [E23]
          clear E23
          refine nb_Gs ?_
          show nb_W 116 2 [(20, 603), (0, l2)] [(0, 0)] (nb_wr (nb_wr M 603 0 0) 603 11 0) _
          refine nb_Wg (q_m_isPerson_2 _ _ _ _) ?_
          refine nb_Gt (by decide) ?_
          refine nb_Gr ?_
          refine nb_Wg (q_m_isPerson_4 _ _ _) ?_
          refine nb_Gr ?_
          have E24 : nb_i2z 0 = 0 := by decide
          refine nb_Wg (q_m_isPerson_5 _ _ _ _) ?_
          simp only [E24]
          clear E24
          refine nb_Gs ?_
          show nb_W 176 4 [(20, 603), (0, l1), (0, l2), v3, v4, v5] [(0, 0)] (nb_wr (nb_wr M 603 0 0) 603 11 0) _
          refine nb_Wg (q_m_letCosts_4 _ _ _ _ _ _ _ _) ?_
          refine nb_Gt (by decide) ?_
          refine nb_Gr ?_
          refine nb_Wg (q_m_letCosts_6 _ _ _ _ _ _ _ (by omega)) ?_
          refine nb_Gb ?_
          refine nb_Wg (q_m_noLess_0 _ _ _ (by omega)) ?_
          have W25 : nb_Lay (nb_wr (nb_wr (nb_wr M 603 0 0) 603 11 0) 603 11 1) := W2.wr (fun w => (nb_nlit (by decide) (by decide)))
          refine nb_Gr ?_
          refine nb_Wg (q_m_noLess_1 _ _ _) ?_
          refine nb_Gs ?_
          show nb_W 176 7 [(20, 603), (0, l1), (0, l2), v3, v4, v5] [(0, (-1000))] (nb_wr (nb_wr (nb_wr M 603 0 0) 603 11 0) 603 11 1) _
          refine nb_Wg (q_m_letCosts_7 _ _ _ _ _ _ _ _) ?_
          refine nb_Gs ?_
          exact nb_Hu H W25
        · have H := nb_Hw ((nb_Hu H).2 (by omega))
          have c111 : 0 ≤ l2 := by omega
          refine nb_Gr ?_
          refine nb_Wg (q_m_within_1 _ _ _ _) ?_
          refine nb_Gi (fun c110 => ?_) (fun c110 => ?_)
          · have H := nb_Hw ((nb_Hu H).1 c110)
            refine nb_Gr ?_
            refine nb_Wg (q_m_within_3 _ _ _ _) ?_
            refine nb_Gr ?_
            have E26 : nb_i2z 0 = 0 := by decide
            refine nb_Wg (q_m_within_4 _ _ _ _ _) ?_
            simp only [E26]
            clear E26
            refine nb_Gs ?_
            show nb_W 116 2 [(20, 603), (0, l2)] [(0, 0)] (nb_wr (nb_wr M 603 0 0) 603 11 0) _
            refine nb_Wg (q_m_isPerson_2 _ _ _ _) ?_
            refine nb_Gt (by decide) ?_
            refine nb_Gr ?_
            refine nb_Wg (q_m_isPerson_4 _ _ _) ?_
            refine nb_Gr ?_
            have E27 : nb_i2z 0 = 0 := by decide
            refine nb_Wg (q_m_isPerson_5 _ _ _ _) ?_
            simp only [E27]
            clear E27
            refine nb_Gs ?_
            show nb_W 176 4 [(20, 603), (0, l1), (0, l2), v3, v4, v5] [(0, 0)] (nb_wr (nb_wr M 603 0 0) 603 11 0) _
            refine nb_Wg (q_m_letCosts_4 _ _ _ _ _ _ _ _) ?_
            refine nb_Gt (by decide) ?_
            refine nb_Gr ?_
            refine nb_Wg (q_m_letCosts_6 _ _ _ _ _ _ _ (by omega)) ?_
            refine nb_Gb ?_
            refine nb_Wg (q_m_noLess_0 _ _ _ (by omega)) ?_
            have W28 : nb_Lay (nb_wr (nb_wr (nb_wr M 603 0 0) 603 11 0) 603 11 1) := W2.wr (fun w => (nb_nlit (by decide) (by decide)))
            refine nb_Gr ?_
            refine nb_Wg (q_m_noLess_1 _ _ _) ?_
            refine nb_Gs ?_
            show nb_W 176 7 [(20, 603), (0, l1), (0, l2), v3, v4, v5] [(0, (-1000))] (nb_wr (nb_wr (nb_wr M 603 0 0) 603 11 0) 603 11 1) _
            refine nb_Wg (q_m_letCosts_7 _ _ _ _ _ _ _ _) ?_
            refine nb_Gs ?_
            exact nb_Hu H W28
          · have H := nb_Hw ((nb_Hu H).2 (by omega))
            have c110 : l2 ≤ M.1 606 5 - 1 := by omega
            refine nb_Gr ?_
            refine nb_Wg (q_m_within_2 _ _ _ _) ?_
            refine nb_Gr ?_
            have E29 : nb_i2z 1 = 1 := by decide
            refine nb_Wg (q_m_within_4 _ _ _ _ _) ?_
            simp only [E29]
            clear E29
            refine nb_Gs ?_
            show nb_W 116 2 [(20, 603), (0, l2)] [(0, 1)] (nb_wr (nb_wr M 603 0 0) 603 11 0) _
            refine nb_Wg (q_m_isPerson_2 _ _ _ _) ?_
            refine nb_Gf (by decide) ?_
            refine nb_Gr ?_
            refine nb_Wg (q_m_isPerson_3 _ _ _) ?_
            refine nb_Gr ?_
            have E30 : nb_i2z 1 = 1 := by decide
            refine nb_Wg (q_m_isPerson_5 _ _ _ _) ?_
            simp only [E30]
            clear E30
            refine nb_Gs ?_
            show nb_W 176 4 [(20, 603), (0, l1), (0, l2), v3, v4, v5] [(0, 1)] (nb_wr (nb_wr M 603 0 0) 603 11 0) _
            refine nb_Wg (q_m_letCosts_4 _ _ _ _ _ _ _ _) ?_
            refine nb_Gf (by decide) ?_
            refine nb_Gr ?_
            refine nb_Wg (q_m_letCosts_5 _ _ _ _ _ _ _) ?_
            refine nb_Gi (fun c109 => ?_) (fun c109 => ?_)
            · have H := nb_Hw ((nb_Hu H).1 c109)
              refine nb_Gr ?_
              refine nb_Wg (q_m_letCosts_6 _ _ _ _ _ _ _ (by omega)) ?_
              refine nb_Gb ?_
              refine nb_Wg (q_m_noLess_0 _ _ _ (by omega)) ?_
              have W31 : nb_Lay (nb_wr (nb_wr (nb_wr M 603 0 0) 603 11 0) 603 11 1) := W2.wr (fun w => (nb_nlit (by decide) (by decide)))
              refine nb_Gr ?_
              refine nb_Wg (q_m_noLess_1 _ _ _) ?_
              refine nb_Gs ?_
              show nb_W 176 7 [(20, 603), (0, l1), (0, l2), v3, v4, v5] [(0, (-1000))] (nb_wr (nb_wr (nb_wr M 603 0 0) 603 11 0) 603 11 1) _
              refine nb_Wg (q_m_letCosts_7 _ _ _ _ _ _ _ _) ?_
              refine nb_Gs ?_
              exact nb_Hu H W31
            · have H := nb_Hw ((nb_Hu H).2 (by omega))
              have c109 : l1 ≠ l2 := by omega
              refine nb_Gr ?_
              refine nb_Wg (q_m_letCosts_8 _ _ _ _ _ _ _ (by omega)) ?_
              refine nb_Gb ?_
              have E32 : nb_rd (nb_wr (nb_wr M 603 0 0) 603 11 0) 603 17 = 608 := W2.m17
              refine nb_Wg (q_m_canNotLet_0 _ _ _ _ (by omega)) ?_
              simp only [E32]
              clear E32
              refine nb_Gb ?_
              refine nb_Wg (q_m_isWaiting_0 _ _ _) ?_
              refine nb_Gb ?_
              have E33 : nb_mul 8 l1 = 8 * l1 := nb_mul_eq (by omega) (by omega)
              have E34 : nb_add 12 (8 * l1) = 12 + 8 * l1 := (nb_add_eq (x := 12) (y := 8 * l1) (by omega) (by omega)).trans (by omega)
              have E35 : nb_add (12 + 8 * l1) 0 = 12 + 8 * l1 := (nb_add_eq (x := 12 + 8 * l1) (y := 0) (by omega) (by omega)).trans (by omega)
              have N36 : nb_ln (nb_wr (nb_wr M 603 0 0) 603 11 0) 608 = 108 := W2.lk (by decide) (by decide +kernel)
              have E37 : nb_rd (nb_wr (nb_wr M 603 0 0) 603 11 0) 608 (12 + 8 * l1) = M.1 608 (12 + 8 * l1) := nb_rdw (Or.inl (by decide)) (nb_rdw (Or.inl (by decide)) (nb_rd_1 _ _ _))
              refine nb_Wg (q_m_its_0 _ _ _ _ (by omega) (by rw [E33, E34, E35]; first | done | omega) (by rw [E33, E34, E35, N36]; first | done | omega)) ?_
              simp only [E33, E34, E35, E37]
              clear E33 E34 E35 N36 E37
              refine nb_Gs ?_
              show nb_W 126 1 [(3, 608), (0, l1)] [(0, M.1 608 (12 + 8 * l1))] (nb_wr (nb_wr M 603 0 0) 603 11 0) _
              refine nb_Wg (q_m_isWaiting_1 _ _ _ _) ?_
              refine nb_Gi (fun c108 => ?_) (fun c108 => ?_)
              · have H := nb_Hw ((nb_Hu H).1 c108)
                refine nb_Gr ?_
                refine nb_Wg (q_m_isWaiting_2 _ _ _) ?_
                refine nb_Gr ?_
                have E38 : nb_i2z 1 = 1 := by decide
                refine nb_Wg (q_m_isWaiting_4 _ _ _ _) ?_
                simp only [E38]
                clear E38
                refine nb_Gs ?_
                show nb_W 175 1 [(20, 603), (0, l1), (0, l2)] [(0, 1)] (nb_wr (nb_wr M 603 0 0) 603 11 0) _
                refine nb_Wg (q_m_canNotLet_1 _ _ _ _ _) ?_
                refine nb_Gf (by decide) ?_
                refine nb_Gr ?_
                have E39 : nb_rd (nb_wr (nb_wr M 603 0 0) 603 11 0) 603 17 = 608 := W2.m17
                refine nb_Wg (q_m_canNotLet_2 _ _ _ _ (by omega)) ?_
                simp only [E39]
                clear E39
                refine nb_Gb ?_
                refine nb_Wg (q_m_isWaiting_0 _ _ _) ?_
                refine nb_Gb ?_
                have E40 : nb_mul 8 l2 = 8 * l2 := nb_mul_eq (by omega) (by omega)
                have E41 : nb_add 12 (8 * l2) = 12 + 8 * l2 := (nb_add_eq (x := 12) (y := 8 * l2) (by omega) (by omega)).trans (by omega)
                have E42 : nb_add (12 + 8 * l2) 0 = 12 + 8 * l2 := (nb_add_eq (x := 12 + 8 * l2) (y := 0) (by omega) (by omega)).trans (by omega)
                have N43 : nb_ln (nb_wr (nb_wr M 603 0 0) 603 11 0) 608 = 108 := W2.lk (by decide) (by decide +kernel)
                have E44 : nb_rd (nb_wr (nb_wr M 603 0 0) 603 11 0) 608 (12 + 8 * l2) = M.1 608 (12 + 8 * l2) := nb_rdw (Or.inl (by decide)) (nb_rdw (Or.inl (by decide)) (nb_rd_1 _ _ _))
                refine nb_Wg (q_m_its_0 _ _ _ _ (by omega) (by rw [E40, E41, E42]; first | done | omega) (by rw [E40, E41, E42, N43]; first | done | omega)) ?_
                simp only [E40, E41, E42, E44]
                clear E40 E41 E42 N43 E44
                refine nb_Gs ?_
                show nb_W 126 1 [(3, 608), (0, l2)] [(0, M.1 608 (12 + 8 * l2))] (nb_wr (nb_wr M 603 0 0) 603 11 0) _
                refine nb_Wg (q_m_isWaiting_1 _ _ _ _) ?_
                refine nb_Gi (fun c104 => ?_) (fun c104 => ?_)
                · have H := nb_Hw ((nb_Hu H).1 c104)
                  refine nb_Gr ?_
                  refine nb_Wg (q_m_isWaiting_2 _ _ _) ?_
                  refine nb_Gr ?_
                  have E45 : nb_i2z 1 = 1 := by decide
                  refine nb_Wg (q_m_isWaiting_4 _ _ _ _) ?_
                  simp only [E45]
                  clear E45
                  refine nb_Gs ?_
                  show nb_W 175 3 [(20, 603), (0, l1), (0, l2)] [(0, 1)] (nb_wr (nb_wr M 603 0 0) 603 11 0) _
                  refine nb_Wg (q_m_canNotLet_3 _ _ _ _ _) ?_
                  refine nb_Gf (by decide) ?_
                  refine nb_Gr ?_
                  have E46 : nb_rd (nb_wr (nb_wr M 603 0 0) 603 11 0) 603 17 = 608 := W2.m17
                  refine nb_Wg (q_m_canNotLet_4 _ _ _ _ (by omega)) ?_
                  simp only [E46]
                  clear E46
                  refine nb_Gb ?_
                  have E47 : nb_mul 8 l1 = 8 * l1 := nb_mul_eq (by omega) (by omega)
                  have E48 : nb_add 12 (8 * l1) = 12 + 8 * l1 := (nb_add_eq (x := 12) (y := 8 * l1) (by omega) (by omega)).trans (by omega)
                  have E49 : nb_add (12 + 8 * l1) 3 = 12 + 8 * l1 + 3 := nb_add_eq (by omega) (by omega)
                  have N50 : nb_ln (nb_wr (nb_wr M 603 0 0) 603 11 0) 608 = 108 := W2.lk (by decide) (by decide +kernel)
                  have E51 : nb_rd (nb_wr (nb_wr M 603 0 0) 603 11 0) 608 (12 + 8 * l1 + 3) = M.1 608 (12 + 8 * l1 + 3) := nb_rdw (Or.inl (by decide)) (nb_rdw (Or.inl (by decide)) (nb_rd_1 _ _ _))
                  refine nb_Wg (q_m_its_0 _ _ _ _ (by omega) (by rw [E47, E48, E49]; first | done | omega) (by rw [E47, E48, E49, N50]; first | done | omega)) ?_
                  simp only [E47, E48, E49, E51]
                  clear E47 E48 E49 N50 E51
                  refine nb_Gs ?_
                  show nb_W 175 5 [(20, 603), (0, l1), (0, l2)] [(0, M.1 608 (12 + 8 * l1 + 3))] (nb_wr (nb_wr M 603 0 0) 603 11 0) _
                  have E52 : nb_rd (nb_wr (nb_wr M 603 0 0) 603 11 0) 603 17 = 608 := W2.m17
                  refine nb_Wg (q_m_canNotLet_5 _ _ _ _ _ (by omega)) ?_
                  simp only [E52]
                  clear E52
                  refine nb_Gb ?_
                  have E53 : nb_mul 8 l2 = 8 * l2 := nb_mul_eq (by omega) (by omega)
                  have E54 : nb_add 12 (8 * l2) = 12 + 8 * l2 := (nb_add_eq (x := 12) (y := 8 * l2) (by omega) (by omega)).trans (by omega)
                  have E55 : nb_add (12 + 8 * l2) 3 = 12 + 8 * l2 + 3 := nb_add_eq (by omega) (by omega)
                  have N56 : nb_ln (nb_wr (nb_wr M 603 0 0) 603 11 0) 608 = 108 := W2.lk (by decide) (by decide +kernel)
                  have E57 : nb_rd (nb_wr (nb_wr M 603 0 0) 603 11 0) 608 (12 + 8 * l2 + 3) = M.1 608 (12 + 8 * l2 + 3) := nb_rdw (Or.inl (by decide)) (nb_rdw (Or.inl (by decide)) (nb_rd_1 _ _ _))
                  refine nb_Wg (q_m_its_0 _ _ _ _ (by omega) (by rw [E53, E54, E55]; first | done | omega) (by rw [E53, E54, E55, N56]; first | done | omega)) ?_
                  simp only [E53, E54, E55, E57]
                  clear E53 E54 E55 N56 E57
                  refine nb_Gs ?_
                  show nb_W 175 6 [(20, 603), (0, l1), (0, l2)] [(0, M.1 608 (12 + 8 * l2 + 3)), (0, M.1 608 (12 + 8 * l1 + 3))] (nb_wr (nb_wr M 603 0 0) 603 11 0) _
                  refine nb_Wg (q_m_canNotLet_6 _ _ _ _ _ _) ?_
                  refine nb_Gi (fun c100 => ?_) (fun c100 => ?_)
                  · have H := nb_Hw ((nb_Hu H).1 c100)
                    refine nb_Gr ?_
                    refine nb_Wg (q_m_canNotLet_7 _ _ _ _) ?_
                    refine nb_Gr ?_
                    have E58 : nb_i2z 1 = 1 := by decide
                    refine nb_Wg (q_m_canNotLet_9 _ _ _ _ _) ?_
                    simp only [E58]
                    clear E58
                    refine nb_Gs ?_
                    show nb_W 176 9 [(20, 603), (0, l1), (0, l2), v3, v4, v5] [(0, 1)] (nb_wr (nb_wr M 603 0 0) 603 11 0) _
                    refine nb_Wg (q_m_letCosts_9 _ _ _ _ _ _ _ _) ?_
                    refine nb_Gf (by decide) ?_
                    refine nb_Gr ?_
                    refine nb_Wg (q_m_letCosts_10 _ _ _ _ _ _ _ (by omega)) ?_
                    have W59 : nb_Lay (nb_wr (nb_wr (nb_wr M 603 0 0) 603 11 0) 603 11 5) := W2.wr (fun w => (nb_nlit (by decide) (by decide)))
                    refine nb_Gr ?_
                    refine nb_Wg (q_m_letCosts_11 _ _ _ _ _ _ _) ?_
                    refine nb_Gs ?_
                    exact nb_Hu H W59
                  · have H := nb_Hw ((nb_Hu H).2 (by omega))
                    have c100 : M.1 608 (12 + 8 * l1 + 3) ≤ M.1 608 (12 + 8 * l2 + 3) := by omega
                    refine nb_Gr ?_
                    refine nb_Wg (q_m_canNotLet_8 _ _ _ _) ?_
                    refine nb_Gr ?_
                    have E60 : nb_i2z 0 = 0 := by decide
                    refine nb_Wg (q_m_canNotLet_9 _ _ _ _ _) ?_
                    simp only [E60]
                    clear E60
                    refine nb_Gs ?_
                    show nb_W 176 9 [(20, 603), (0, l1), (0, l2), v3, v4, v5] [(0, 0)] (nb_wr (nb_wr M 603 0 0) 603 11 0) _
                    refine nb_Wg (q_m_letCosts_9 _ _ _ _ _ _ _ _) ?_
                    refine nb_Gt (by decide) ?_
                    refine nb_Gr ?_
                    refine nb_Wg (q_m_letCosts_12 _ _ _ _ _ _ _ (by omega)) ?_
                    refine nb_Gb ?_
                    refine nb_Wg (q_m_tellEvening_0 _ _ (by omega)) ?_
                    refine nb_Gb ?_
                    refine nb_W.imp (nb_Hu H) (fun r M62 H => ?_)
                    obtain ⟨rfl, W63, H⟩ := H
                    replace H := nb_Hw H
                    show nb_W 150 1 [(20, 603)] [] M62 _
                    have E64 : nb_rd M62 603 15 = 606 := W63.m15
                    have N65 : nb_ln M62 606 = 347 := W63.lk (by decide) (by decide +kernel)
                    have E66 : nb_rd M62 606 2 = M62.1 606 2 := nb_rd_1 _ _ _
                    refine nb_Wg (q_m_tellEvening_1 _ _ (by omega) (by rw [E64]; first | done | omega) (by omega) (by rw [E64, N65]; first | done | omega)) ?_
                    simp only [E64, E66]
                    clear E64 N65 E66
                    have W67 : nb_Lay (nb_wr M62 603 26 (M62.1 606 2)) := W63.wr (fun w => (nb_nlit (by decide) (by decide)))
                    refine nb_Gr ?_
                    refine nb_Wg (q_m_tellEvening_2 _ _ (by omega)) ?_
                    refine nb_Gb ?_
                    refine nb_W.imp (nb_Hu H) (fun r M69 H => ?_)
                    obtain ⟨rfl, W70, H⟩ := H
                    replace H := nb_Hw H
                    show nb_W 150 3 [(20, 603)] [] M69 _
                    refine nb_Wg (q_m_tellEvening_3 _ _) ?_
                    refine nb_Gs ?_
                    show nb_W 176 13 [(20, 603), (0, l1), (0, l2), v3, v4, v5] [] M69 _
                    refine nb_Wg (q_m_letCosts_13 _ _ _ _ _ _ _ (by omega)) ?_
                    refine nb_Gb ?_
                    refine nb_W.imp (nb_Hu H) (fun r M72 H => ?_)
                    obtain ⟨x71, rfl, W73, H⟩ := H
                    replace H := nb_Hw H
                    show nb_W 176 14 [(20, 603), (0, l1), (0, l2), v3, v4, v5] [(0, x71)] M72 _
                    obtain ⟨p0_, p1_, p2_, p3_, p4_, p5_, p6_, p7_, H⟩ := H
                    replace H := nb_Hw H
                    have E74 : nb_mul 8 l1 = 8 * l1 := nb_mul_eq (by omega) (by omega)
                    have E75 : nb_add 12 (8 * l1) = 12 + 8 * l1 := (nb_add_eq (x := 12) (y := 8 * l1) (by omega) (by omega)).trans (by omega)
                    have E76 : nb_add (12 + 8 * l1) 3 = 12 + 8 * l1 + 3 := nb_add_eq (by omega) (by omega)
                    have E77 : nb_rd M72 603 17 = 608 := W73.m17
                    have N78 : nb_ln M72 608 = 108 := W73.lk (by decide) (by decide +kernel)
                    have E79 : nb_rd M72 608 (12 + 8 * l1 + 3) = M72.1 608 (12 + 8 * l1 + 3) := nb_rd_1 _ _ _
                    have E80 : nb_rd M72 603 17 = 608 := W73.m17
                    have E81 : nb_rd M72 603 17 = 608 := W73.m17
                    refine nb_Wg (q_m_letCosts_14 _ _ _ _ _ _ _ _ (by omega) (by rw [E77]; first | done | omega) (by rw [E74, E75, E76]; first | done | omega) (by rw [E74, E75, E76, E77, N78]; first | done | omega)) ?_
                    simp only [E74, E75, E76, E77, E79, E80, E81]
                    clear E74 E75 E76 E77 N78 E79 E80 E81
                    refine nb_Gb ?_
                    obtain ⟨p0_, p1_, p2_, p3_, p4_, p5_, p6_, p7_, H⟩ := H
                    replace H := nb_Hw H
                    have E82 : nb_mul 8 l2 = 8 * l2 := nb_mul_eq (by omega) (by omega)
                    have E83 : nb_add 12 (8 * l2) = 12 + 8 * l2 := (nb_add_eq (x := 12) (y := 8 * l2) (by omega) (by omega)).trans (by omega)
                    have E84 : nb_add (12 + 8 * l2) 3 = 12 + 8 * l2 + 3 := nb_add_eq (by omega) (by omega)
                    have N85 : nb_ln M72 608 = 108 := W73.lk (by decide) (by decide +kernel)
                    have E86 : nb_rd M72 608 (12 + 8 * l2 + 3) = M72.1 608 (12 + 8 * l2 + 3) := nb_rd_1 _ _ _
                    refine nb_Wg (q_m_its_0 _ _ _ _ (by omega) (by rw [E82, E83, E84]; first | done | omega) (by rw [E82, E83, E84, N85]; first | done | omega)) ?_
                    simp only [E82, E83, E84, E86]
                    clear E82 E83 E84 N85 E86
                    refine nb_Gs ?_
                    show nb_W 176 15 [(20, 603), (0, l1), (0, l2), (0, x71), (0, 12 + 8 * l1 + 3), (0, M72.1 608 (12 + 8 * l1 + 3))] [(0, M72.1 608 (12 + 8 * l2 + 3)), (0, 12 + 8 * l1 + 3), (3, 608)] M72 _
                    obtain ⟨p0_, p1_, H⟩ := H
                    replace H := nb_Hw H
                    have E87 : nb_add (M72.1 608 (12 + 8 * l2 + 3)) 1 = M72.1 608 (12 + 8 * l2 + 3) + 1 := nb_add_eq (by omega) (by omega)
                    have N88 : nb_ln M72 608 = 108 := W73.lk (by decide) (by decide +kernel)
                    refine nb_Wg (q_m_letCosts_15 _ _ _ _ _ _ _ _ _ _ (by omega) (by omega) (by omega) (by rw [N88]; first | done | omega)) ?_
                    simp only [E87]
                    clear E87 N88
                    have W89 : nb_Lay (nb_wr M72 608 (12 + 8 * l1 + 3) (M72.1 608 (12 + 8 * l2 + 3) + 1)) := W73.wr (fun w => (nb_nnum (by decide) (by decide)))
                    refine nb_Gr ?_
                    refine nb_Wg (q_m_letCosts_16 _ _ _ _ _ _ _ (by omega)) ?_
                    refine nb_Gb ?_
                    refine nb_W.imp (nb_Hu H) (fun r M91 H => ?_)
                    obtain ⟨rfl, W92, H⟩ := H
                    replace H := nb_Hw H
                    show nb_W 176 17 [(20, 603), (0, l1), (0, l2), (0, x71), (0, 12 + 8 * l1 + 3), (0, M72.1 608 (12 + 8 * l1 + 3))] [] M91 _
                    have E93 : nb_rd M91 603 17 = 608 := W92.m17
                    have N94 : nb_ln M91 608 = 108 := W92.lk (by decide) (by decide +kernel)
                    refine nb_Wg (q_m_letCosts_17 _ _ _ _ _ _ _ (by omega) (by rw [E93]; first | done | omega) (by rw [E93]; first | done | omega) (by omega) (by rw [E93, N94]; first | done | omega)) ?_
                    simp only [E93]
                    clear E93 N94
                    have W95 : nb_Lay (nb_wr M91 608 (12 + 8 * l1 + 3) (M72.1 608 (12 + 8 * l1 + 3))) := W92.wr (fun w => (nb_nnum (by decide) (by decide)))
                    refine nb_Gr ?_
                    refine nb_Wg (q_m_letCosts_18 _ _ _ _ _ _ _ (by omega)) ?_
                    refine nb_Gb ?_
                    refine nb_W.imp (nb_Hu H) (fun r M97 H => ?_)
                    obtain ⟨x96, rfl, W98, H⟩ := H
                    replace H := nb_Hw H
                    show nb_W 176 19 [(20, 603), (0, l1), (0, l2), (0, x71), (0, 12 + 8 * l1 + 3), (0, M72.1 608 (12 + 8 * l1 + 3))] [(0, x96)] M97 _
                    obtain ⟨p0_, p1_, H⟩ := H
                    replace H := nb_Hw H
                    have E99 : nb_sub x96 x71 = x96 - x71 := nb_sub_eq (by omega) (by omega)
                    refine nb_Wg (q_m_letCosts_19 _ _ _ _ _ _ _ _) ?_
                    simp only [E99]
                    clear E99
                    refine nb_Gs ?_
                    exact nb_Hu H W98
                · have H := nb_Hw ((nb_Hu H).2 (by omega))
                  have c104 : M.1 608 (12 + 8 * l2) ≠ 1 := by omega
                  refine nb_Gr ?_
                  refine nb_Wg (q_m_isWaiting_3 _ _ _) ?_
                  refine nb_Gr ?_
                  have E101 : nb_i2z 0 = 0 := by decide
                  refine nb_Wg (q_m_isWaiting_4 _ _ _ _) ?_
                  simp only [E101]
                  clear E101
                  refine nb_Gs ?_
                  show nb_W 175 3 [(20, 603), (0, l1), (0, l2)] [(0, 0)] (nb_wr (nb_wr M 603 0 0) 603 11 0) _
                  refine nb_Wg (q_m_canNotLet_3 _ _ _ _ _) ?_
                  refine nb_Gt (by decide) ?_
                  refine nb_Gr ?_
                  refine nb_Wg (q_m_canNotLet_7 _ _ _ _) ?_
                  refine nb_Gr ?_
                  have E102 : nb_i2z 1 = 1 := by decide
                  refine nb_Wg (q_m_canNotLet_9 _ _ _ _ _) ?_
                  simp only [E102]
                  clear E102
                  refine nb_Gs ?_
                  show nb_W 176 9 [(20, 603), (0, l1), (0, l2), v3, v4, v5] [(0, 1)] (nb_wr (nb_wr M 603 0 0) 603 11 0) _
                  refine nb_Wg (q_m_letCosts_9 _ _ _ _ _ _ _ _) ?_
                  refine nb_Gf (by decide) ?_
                  refine nb_Gr ?_
                  refine nb_Wg (q_m_letCosts_10 _ _ _ _ _ _ _ (by omega)) ?_
                  have W103 : nb_Lay (nb_wr (nb_wr (nb_wr M 603 0 0) 603 11 0) 603 11 5) := W2.wr (fun w => (nb_nlit (by decide) (by decide)))
                  refine nb_Gr ?_
                  refine nb_Wg (q_m_letCosts_11 _ _ _ _ _ _ _) ?_
                  refine nb_Gs ?_
                  exact nb_Hu H W103
              · have H := nb_Hw ((nb_Hu H).2 (by omega))
                have c108 : M.1 608 (12 + 8 * l1) ≠ 1 := by omega
                refine nb_Gr ?_
                refine nb_Wg (q_m_isWaiting_3 _ _ _) ?_
                refine nb_Gr ?_
                have E105 : nb_i2z 0 = 0 := by decide
                refine nb_Wg (q_m_isWaiting_4 _ _ _ _) ?_
                simp only [E105]
                clear E105
                refine nb_Gs ?_
                show nb_W 175 1 [(20, 603), (0, l1), (0, l2)] [(0, 0)] (nb_wr (nb_wr M 603 0 0) 603 11 0) _
                refine nb_Wg (q_m_canNotLet_1 _ _ _ _ _) ?_
                refine nb_Gt (by decide) ?_
                refine nb_Gr ?_
                refine nb_Wg (q_m_canNotLet_7 _ _ _ _) ?_
                refine nb_Gr ?_
                have E106 : nb_i2z 1 = 1 := by decide
                refine nb_Wg (q_m_canNotLet_9 _ _ _ _ _) ?_
                simp only [E106]
                clear E106
                refine nb_Gs ?_
                show nb_W 176 9 [(20, 603), (0, l1), (0, l2), v3, v4, v5] [(0, 1)] (nb_wr (nb_wr M 603 0 0) 603 11 0) _
                refine nb_Wg (q_m_letCosts_9 _ _ _ _ _ _ _ _) ?_
                refine nb_Gf (by decide) ?_
                refine nb_Gr ?_
                refine nb_Wg (q_m_letCosts_10 _ _ _ _ _ _ _ (by omega)) ?_
                have W107 : nb_Lay (nb_wr (nb_wr (nb_wr M 603 0 0) 603 11 0) 603 11 5) := W2.wr (fun w => (nb_nlit (by decide) (by decide)))
                refine nb_Gr ?_
                refine nb_Wg (q_m_letCosts_11 _ _ _ _ _ _ _) ?_
                refine nb_Gs ?_
                exact nb_Hu H W107

theorem w_ja_fill_0 {l0 l1 n : Int} {v2 v3 : nb_V} {M : nb_M} {Q : List nb_V → nb_M → Prop} (hr0 : l0 ≠ 0) (hr1 : l0 ≠ 1) (hn : nb_ln M l0 = n) (b0_ : 0 ≤ n ∧ n ≤ 2000) (H : nb_W 295 1 [(3, l0), (0, l1), (0, 0), (0, n)] [] M Q) :
    nb_W 295 0 [(3, l0), (0, l1), v2, v3] [] M Q := by
  replace H := nb_Hw H
  have E1 : nb_ln M l0 = n := hn
  refine nb_Wg (q_ja_fill_0 _ _ _ _ _ (by omega)) ?_
  simp only [E1]
  clear E1
  refine nb_Gr ?_
  exact nb_Hu H

theorem w_ja_fill_1 {l0 l1 l2 l3 n : Int} {M : nb_M} {Q : List nb_V → nb_M → Prop} (hr0 : l0 ≠ 0) (hr1 : l0 ≠ 1) (hn : nb_ln M l0 = n) (b0_ : 0 ≤ n ∧ n ≤ 2000) (b1_ : 0 ≤ l2 ∧ l2 ≤ 2000) (b2_ : 0 ≤ l3 ∧ l3 ≤ 2000) (H : (l2 < l3 → 0 ≤ l2 ∧ l2 < n ∧ nb_W 295 1 [(3, l0), (0, l1), (0, l2 + 1), (0, l3)] [] (nb_wr M l0 l2 l1) Q) ∧ (l3 ≤ l2 → Q [] M)) :
    nb_W 295 1 [(3, l0), (0, l1), (0, l2), (0, l3)] [] M Q := by
  replace H := nb_Hw H
  refine nb_Wg (q_ja_fill_1 _ _ _ _ _) ?_
  refine nb_Gi (fun c3 => ?_) (fun c3 => ?_)
  · have H := nb_Hw ((nb_Hu H).1 c3)
    refine nb_Gr ?_
    obtain ⟨p0_, p1_, H⟩ := H
    replace H := nb_Hw H
    have N1 : nb_ln M l0 = n := hn
    refine nb_Wg (q_ja_fill_2 _ _ _ _ _ (by omega) (by omega) (by omega) (by rw [N1]; first | done | omega)) ?_
    clear N1
    refine nb_Gr ?_
    have E2 : nb_add l2 1 = l2 + 1 := nb_add_eq (by omega) (by omega)
    refine nb_Wg (q_ja_fill_3 _ _ _ _ _) ?_
    simp only [E2]
    clear E2
    refine nb_Gr ?_
    exact nb_Hu H
  · have H := nb_Hw ((nb_Hu H).2 (by omega))
    have c3 : l3 ≤ l2 := by omega
    refine nb_Gr ?_
    refine nb_Wg (q_ja_fill_4 _ _ _ _ _) ?_
    refine nb_Gs ?_
    exact nb_Hu H

