/-! rules, printed by wip/gen -/
theorem w_m_led_0 {l1 : Int} {v2 v3 : nb_V} {M : nb_M} {Q : List nb_V → nb_M → Prop} (W : nb_Lay M) (H : nb_W 211 1 [(20, 603), (0, l1), (0, 0), (0, 0)] [] M Q) :
    nb_W 211 0 [(20, 603), (0, l1), v2, v3] [] M Q := by
  replace H := nb_Hw H
  refine nb_Wg (q_m_led_0 _ _ _ _ _) ?_
  refine nb_Gr ?_
  exact nb_Hu H

theorem w_m_led_1 {l1 l2 l3 : Int} {M : nb_M} {Q : List nb_V → nb_M → Prop} (W : nb_Lay M)  (b0_ : 0 ≤ l2 ∧ l2 ≤ 10) (b1_ : 0 ≤ l3 ∧ l3 ≤ 10) (H : 0 ≤ M.1 603 14 ∧ M.1 603 14 ≤ 1 ∧ (M.1 603 14 = 0 → (nb_Lay (nb_wr M 603 0 1) → Q [(0, 0)] (nb_wr M 603 0 1))) ∧ (M.1 603 14 ≠ 0 → 0 ≤ M.1 606 5 ∧ M.1 606 5 ≤ 10 ∧ (l3 < M.1 606 5 → (M.1 608 (12 + 8 * l3) = 1 → (l2 = l1 → (nb_Lay (nb_wr M 603 0 0) → Q [(0, l3)] (nb_wr M 603 0 0))) ∧ (l2 ≠ l1 → nb_W 211 1 [(20, 603), (0, l1), (0, l2 + 1), (0, l3 + 1)] [] M Q)) ∧ (M.1 608 (12 + 8 * l3) ≠ 1 → nb_W 211 1 [(20, 603), (0, l1), (0, l2), (0, l3 + 1)] [] M Q)) ∧ (M.1 606 5 ≤ l3 → (nb_Lay (nb_wr M 603 0 1) → Q [(0, 0)] (nb_wr M 603 0 1))))) :
    nb_W 211 1 [(20, 603), (0, l1), (0, l2), (0, l3)] [] M Q := by
  replace H := nb_Hw H
  obtain ⟨p0_, p1_, H⟩ := H
  replace H := nb_Hw H
  have E1 : nb_rd M 603 14 = M.1 603 14 := nb_rd_1 _ _ _
  refine nb_Wg (q_m_led_1 _ _ _ _ _ (by omega)) ?_
  simp only [E1]
  clear E1
  refine nb_Gi (fun c22 => ?_) (fun c22 => ?_)
  · have H := nb_Hw ((nb_Hu H).1 c22)
    refine nb_Gr ?_
    refine nb_Wg (q_m_led_11 _ _ _ _ _ (by omega)) ?_
    have W2 : nb_Lay (nb_wr M 603 0 1) := W.wr (fun w => (nb_nlit (by decide) (by decide)))
    refine nb_Gr ?_
    refine nb_Wg (q_m_led_12 _ _ _ _ _) ?_
    refine nb_Gs ?_
    exact nb_Hu H W2
  · have H := nb_Hw ((nb_Hu H).2 (by omega))
    have c22 : M.1 603 14 ≠ 0 := by omega
    refine nb_Gr ?_
    obtain ⟨p0_, p1_, H⟩ := H
    replace H := nb_Hw H
    have E3 : nb_rd M 603 15 = 606 := W.m15
    have N4 : nb_ln M 606 = 347 := W.lk (by decide) (by decide +kernel)
    have E5 : nb_rd M 606 5 = M.1 606 5 := nb_rd_1 _ _ _
    refine nb_Wg (q_m_led_2 _ _ _ _ _ (by omega) (by rw [E3]; first | done | omega) (by omega) (by rw [E3, N4]; first | done | omega)) ?_
    simp only [E3, E5]
    clear E3 N4 E5
    refine nb_Gi (fun c21 => ?_) (fun c21 => ?_)
    · have H := nb_Hw ((nb_Hu H).1 c21)
      refine nb_Gr ?_
      have E6 : nb_rd M 603 17 = 608 := W.m17
      refine nb_Wg (q_m_led_3 _ _ _ _ _ (by omega)) ?_
      simp only [E6]
      clear E6
      refine nb_Gb ?_
      refine nb_Wg (q_m_isWaiting_0 _ _ _) ?_
      refine nb_Gb ?_
      have E7 : nb_mul 8 l3 = 8 * l3 := nb_mul_eq (by omega) (by omega)
      have E8 : nb_add 12 (8 * l3) = 12 + 8 * l3 := (nb_add_eq (x := 12) (y := 8 * l3) (by omega) (by omega)).trans (by omega)
      have E9 : nb_add (12 + 8 * l3) 0 = 12 + 8 * l3 := (nb_add_eq (x := 12 + 8 * l3) (y := 0) (by omega) (by omega)).trans (by omega)
      have N10 : nb_ln M 608 = 108 := W.lk (by decide) (by decide +kernel)
      have E11 : nb_rd M 608 (12 + 8 * l3) = M.1 608 (12 + 8 * l3) := nb_rd_1 _ _ _
      refine nb_Wg (q_m_its_0 _ _ _ _ (by omega) (by rw [E7, E8, E9]; first | done | omega) (by rw [E7, E8, E9, N10]; first | done | omega)) ?_
      simp only [E7, E8, E9, E11]
      clear E7 E8 E9 N10 E11
      refine nb_Gs ?_
      show nb_W 126 1 [(3, 608), (0, l3)] [(0, M.1 608 (12 + 8 * l3))] M _
      refine nb_Wg (q_m_isWaiting_1 _ _ _ _) ?_
      refine nb_Gi (fun c19 => ?_) (fun c19 => ?_)
      · have H := nb_Hw ((nb_Hu H).1 c19)
        refine nb_Gr ?_
        refine nb_Wg (q_m_isWaiting_2 _ _ _) ?_
        refine nb_Gr ?_
        have E12 : nb_i2z 1 = 1 := by decide
        refine nb_Wg (q_m_isWaiting_4 _ _ _ _) ?_
        simp only [E12]
        clear E12
        refine nb_Gs ?_
        show nb_W 211 4 [(20, 603), (0, l1), (0, l2), (0, l3)] [(0, 1)] M _
        refine nb_Wg (q_m_led_4 _ _ _ _ _ _) ?_
        refine nb_Gf (by decide) ?_
        refine nb_Gr ?_
        refine nb_Wg (q_m_led_6 _ _ _ _ _) ?_
        refine nb_Gi (fun c16 => ?_) (fun c16 => ?_)
        · have H := nb_Hw ((nb_Hu H).1 c16)
          refine nb_Gr ?_
          refine nb_Wg (q_m_led_7 _ _ _ _ _ (by omega)) ?_
          have W13 : nb_Lay (nb_wr M 603 0 0) := W.wr (fun w => (nb_nlit (by decide) (by decide)))
          refine nb_Gr ?_
          refine nb_Wg (q_m_led_8 _ _ _ _ _) ?_
          refine nb_Gs ?_
          exact nb_Hu H W13
        · have H := nb_Hw ((nb_Hu H).2 (by omega))
          have c16 : l2 ≠ l1 := by omega
          refine nb_Gr ?_
          have E14 : nb_add l2 1 = l2 + 1 := nb_add_eq (by omega) (by omega)
          refine nb_Wg (q_m_led_9 _ _ _ _ _) ?_
          simp only [E14]
          clear E14
          refine nb_Gr ?_
          have E15 : nb_add l3 1 = l3 + 1 := nb_add_eq (by omega) (by omega)
          refine nb_Wg (q_m_led_10 _ _ _ _ _) ?_
          simp only [E15]
          clear E15
          refine nb_Gr ?_
          exact nb_Hu H
      · have H := nb_Hw ((nb_Hu H).2 (by omega))
        have c19 : M.1 608 (12 + 8 * l3) ≠ 1 := by omega
        refine nb_Gr ?_
        refine nb_Wg (q_m_isWaiting_3 _ _ _) ?_
        refine nb_Gr ?_
        have E17 : nb_i2z 0 = 0 := by decide
        refine nb_Wg (q_m_isWaiting_4 _ _ _ _) ?_
        simp only [E17]
        clear E17
        refine nb_Gs ?_
        show nb_W 211 4 [(20, 603), (0, l1), (0, l2), (0, l3)] [(0, 0)] M _
        refine nb_Wg (q_m_led_4 _ _ _ _ _ _) ?_
        refine nb_Gt (by decide) ?_
        refine nb_Gr ?_
        refine nb_Wg (q_m_led_5 _ _ _ _ _) ?_
        refine nb_Gr ?_
        have E18 : nb_add l3 1 = l3 + 1 := nb_add_eq (by omega) (by omega)
        refine nb_Wg (q_m_led_10 _ _ _ _ _) ?_
        simp only [E18]
        clear E18
        refine nb_Gr ?_
        exact nb_Hu H
    · have H := nb_Hw ((nb_Hu H).2 (by omega))
      have c21 : M.1 606 5 ≤ l3 := by omega
      refine nb_Gr ?_
      refine nb_Wg (q_m_led_11 _ _ _ _ _ (by omega)) ?_
      have W20 : nb_Lay (nb_wr M 603 0 1) := W.wr (fun w => (nb_nlit (by decide) (by decide)))
      refine nb_Gr ?_
      refine nb_Wg (q_m_led_12 _ _ _ _ _) ?_
      refine nb_Gs ?_
      exact nb_Hu H W20

