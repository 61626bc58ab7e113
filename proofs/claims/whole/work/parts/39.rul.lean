/-! rules, printed by wip/gen/mk39.py -/
theorem w_m_timeBehind_0 {l1 l2 : Int} {v3 v4 v5 v6 : nb_V} {M : nb_M} {Q : List nb_V → nb_M → Prop} (W : nb_Lay M) (H : nb_W 129 1 [(20, 603), (0, l1), (0, l2), (0, 0), (0, 0), v5, v6] [] M Q) :
    nb_W 129 0 [(20, 603), (0, l1), (0, l2), v3, v4, v5, v6] [] M Q := by
  replace H := nb_Hw H
  refine nb_Wg (q_m_timeBehind_0 _ _ _ _ _ _ _ _) ?_
  refine nb_Gr ?_
  exact nb_Hu H

theorem w_m_timeBehind_1 {l1 l2 l3 l4 : Int} {v5 v6 : nb_V} {M : nb_M} {Q : List nb_V → nb_M → Prop} (W : nb_Lay M)  (b0_ : (-1) ≤ l1 ∧ l1 ≤ 9) (b1_ : 0 ≤ l2 ∧ l2 ≤ 9) (b2_ : 0 ≤ l4 ∧ l4 ≤ 5) (H : (l4 < 5 → (M.1 606 (111 + 5 * l2 + l4) = 0 → nb_W 129 1 [(20, 603), (0, l1), (0, l2), (0, l3), (0, l4 + 1), (0, M.1 606 (111 + 5 * l2 + l4)), v6] [] M Q) ∧ (M.1 606 (111 + 5 * l2 + l4) ≠ 0 → -2147483648 ≤ (M.1 606 (111 + 5 * l2 + l4)) * (M.1 606 (8 + 3 * l4 + 1)) ∧ (M.1 606 (111 + 5 * l2 + l4)) * (M.1 606 (8 + 3 * l4 + 1)) ≤ 2147483647 ∧ -2147483648 ≤ l3 + ((M.1 606 (111 + 5 * l2 + l4)) * (M.1 606 (8 + 3 * l4 + 1))) ∧ l3 + ((M.1 606 (111 + 5 * l2 + l4)) * (M.1 606 (8 + 3 * l4 + 1))) ≤ 2147483647 ∧ (l1 < 0 → -2147483648 ≤ M.1 606 (8 + 3 * l4) - (M.1 606 (8 + 3 * l4 + 1)) ∧ M.1 606 (8 + 3 * l4) - (M.1 606 (8 + 3 * l4 + 1)) ≤ 2147483647 ∧ -2147483648 ≤ l3 + ((M.1 606 (111 + 5 * l2 + l4)) * (M.1 606 (8 + 3 * l4 + 1))) + (M.1 606 (8 + 3 * l4) - (M.1 606 (8 + 3 * l4 + 1))) ∧ l3 + ((M.1 606 (111 + 5 * l2 + l4)) * (M.1 606 (8 + 3 * l4 + 1))) + (M.1 606 (8 + 3 * l4) - (M.1 606 (8 + 3 * l4 + 1))) ≤ 2147483647 ∧ nb_W 129 1 [(20, 603), (0, l1), (0, l2), (0, l3 + ((M.1 606 (111 + 5 * l2 + l4)) * (M.1 606 (8 + 3 * l4 + 1))) + (M.1 606 (8 + 3 * l4) - (M.1 606 (8 + 3 * l4 + 1)))), (0, l4 + 1), (0, M.1 606 (111 + 5 * l2 + l4)), (0, M.1 606 (8 + 3 * l4 + 1))] [] M Q) ∧ (0 ≤ l1 → (M.1 606 (111 + 5 * l1 + l4) = 0 → -2147483648 ≤ M.1 606 (8 + 3 * l4) - (M.1 606 (8 + 3 * l4 + 1)) ∧ M.1 606 (8 + 3 * l4) - (M.1 606 (8 + 3 * l4 + 1)) ≤ 2147483647 ∧ -2147483648 ≤ l3 + ((M.1 606 (111 + 5 * l2 + l4)) * (M.1 606 (8 + 3 * l4 + 1))) + (M.1 606 (8 + 3 * l4) - (M.1 606 (8 + 3 * l4 + 1))) ∧ l3 + ((M.1 606 (111 + 5 * l2 + l4)) * (M.1 606 (8 + 3 * l4 + 1))) + (M.1 606 (8 + 3 * l4) - (M.1 606 (8 + 3 * l4 + 1))) ≤ 2147483647 ∧ nb_W 129 1 [(20, 603), (0, l1), (0, l2), (0, l3 + ((M.1 606 (111 + 5 * l2 + l4)) * (M.1 606 (8 + 3 * l4 + 1))) + (M.1 606 (8 + 3 * l4) - (M.1 606 (8 + 3 * l4 + 1)))), (0, l4 + 1), (0, M.1 606 (111 + 5 * l2 + l4)), (0, M.1 606 (8 + 3 * l4 + 1))] [] M Q) ∧ (M.1 606 (111 + 5 * l1 + l4) ≠ 0 → nb_W 129 1 [(20, 603), (0, l1), (0, l2), (0, l3 + ((M.1 606 (111 + 5 * l2 + l4)) * (M.1 606 (8 + 3 * l4 + 1)))), (0, l4 + 1), (0, M.1 606 (111 + 5 * l2 + l4)), (0, M.1 606 (8 + 3 * l4 + 1))] [] M Q)))) ∧ (5 ≤ l4 → Q [(0, l3)] M)) :
    nb_W 129 1 [(20, 603), (0, l1), (0, l2), (0, l3), (0, l4), v5, v6] [] M Q := by
  replace H := nb_Hw H
  refine nb_Wg (q_m_timeBehind_1 _ _ _ _ _ _ _ _) ?_
  refine nb_Gi (fun c42 => ?_) (fun c42 => ?_)
  · have H := nb_Hw ((nb_Hu H).1 c42)
    refine nb_Gr ?_
    refine nb_Wg (q_m_timeBehind_2 _ _ _ _ _ _ _ _ (by omega)) ?_
    refine nb_Gb ?_
    have E1 : nb_rd M 603 15 = 606 := W.m15
    have E2 : nb_mul 5 l2 = 5 * l2 := nb_mul_eq (by omega) (by omega)
    have E3 : nb_add 111 (5 * l2) = 111 + 5 * l2 := (nb_add_eq (x := 111) (y := 5 * l2) (by omega) (by omega)).trans (by omega)
    have E4 : nb_add (111 + 5 * l2) l4 = 111 + 5 * l2 + l4 := nb_add_eq (by omega) (by omega)
    have N5 : nb_ln M 606 = 347 := W.lk (by decide) (by decide +kernel)
    have E6 : nb_rd M 606 (111 + 5 * l2 + l4) = M.1 606 (111 + 5 * l2 + l4) := nb_rd_1 _ _ _
    refine nb_Wg (q_m_wantsOf_0 _ _ _ _ (by omega) (by rw [E1]; first | done | omega) (by rw [E2, E3, E4]; first | done | omega) (by rw [E2, E3, E4, E1, N5]; first | done | omega)) ?_
    simp only [E1, E2, E3, E4, E6]
    clear E1 E2 E3 E4 N5 E6
    refine nb_Gs ?_
    show nb_W 129 3 [(20, 603), (0, l1), (0, l2), (0, l3), (0, l4), v5, v6] [(0, M.1 606 (111 + 5 * l2 + l4))] M _
    refine nb_Wg (q_m_timeBehind_3 _ _ _ _ _ _ _ _ _) ?_
    refine nb_Gi (fun c41 => ?_) (fun c41 => ?_)
    · have H := nb_Hw ((nb_Hu H).1 c41)
      refine nb_Gr ?_
      refine nb_Wg (q_m_timeBehind_4 _ _ _ _ _ _ _ _) ?_
      refine nb_Gr ?_
      have E7 : nb_add l4 1 = l4 + 1 := nb_add_eq (by omega) (by omega)
      refine nb_Wg (q_m_timeBehind_9 _ _ _ _ _ _ _ _) ?_
      simp only [E7]
      clear E7
      refine nb_Gr ?_
      exact nb_Hu H
    · have H := nb_Hw ((nb_Hu H).2 (by omega))
      have c41 : M.1 606 (111 + 5 * l2 + l4) ≠ 0 := by omega
      refine nb_Gr ?_
      obtain ⟨p0_, p1_, p2_, p3_, H⟩ := H
      replace H := nb_Hw H
      have E8 : nb_rd M 603 15 = 606 := W.m15
      have E9 : nb_mul 3 l4 = 3 * l4 := nb_mul_eq (by omega) (by omega)
      have E10 : nb_add 8 (3 * l4) = 8 + 3 * l4 := (nb_add_eq (x := 8) (y := 3 * l4) (by omega) (by omega)).trans (by omega)
      have E11 : nb_add (8 + 3 * l4) 1 = 8 + 3 * l4 + 1 := nb_add_eq (by omega) (by omega)
      have N12 : nb_ln M 606 = 347 := W.lk (by decide) (by decide +kernel)
      have E13 : nb_rd M 606 (8 + 3 * l4 + 1) = M.1 606 (8 + 3 * l4 + 1) := nb_rd_1 _ _ _
      have E14 : nb_mul (M.1 606 (111 + 5 * l2 + l4)) (M.1 606 (8 + 3 * l4 + 1)) = (M.1 606 (111 + 5 * l2 + l4)) * (M.1 606 (8 + 3 * l4 + 1)) := (nb_mul_eq (x := M.1 606 (111 + 5 * l2 + l4)) (y := M.1 606 (8 + 3 * l4 + 1)) (by omega) (by omega)).trans (by omega)
      have E15 : nb_add l3 ((M.1 606 (111 + 5 * l2 + l4)) * (M.1 606 (8 + 3 * l4 + 1))) = l3 + ((M.1 606 (111 + 5 * l2 + l4)) * (M.1 606 (8 + 3 * l4 + 1))) := nb_add_eq (by omega) (by omega)
      refine nb_Wg (q_m_timeBehind_5 _ _ _ _ _ _ _ _ (by omega) (by rw [E8]; first | done | omega) (by rw [E9, E10, E11]; first | done | omega) (by rw [E9, E10, E11, E8, N12]; first | done | omega)) ?_
      simp only [E8, E9, E10, E11, E13, E14, E15]
      clear E8 E9 E10 E11 N12 E13 E14 E15
      refine nb_Gi (fun c40 => ?_) (fun c40 => ?_)
      · have H := nb_Hw ((nb_Hu H).1 c40)
        refine nb_Gr ?_
        obtain ⟨p0_, p1_, p2_, p3_, H⟩ := H
        replace H := nb_Hw H
        have E16 : nb_rd M 603 15 = 606 := W.m15
        have E17 : nb_mul 3 l4 = 3 * l4 := nb_mul_eq (by omega) (by omega)
        have E18 : nb_add 8 (3 * l4) = 8 + 3 * l4 := (nb_add_eq (x := 8) (y := 3 * l4) (by omega) (by omega)).trans (by omega)
        have N19 : nb_ln M 606 = 347 := W.lk (by decide) (by decide +kernel)
        have E20 : nb_rd M 606 (8 + 3 * l4) = M.1 606 (8 + 3 * l4) := nb_rd_1 _ _ _
        have E21 : nb_sub (M.1 606 (8 + 3 * l4)) (M.1 606 (8 + 3 * l4 + 1)) = M.1 606 (8 + 3 * l4) - (M.1 606 (8 + 3 * l4 + 1)) := nb_sub_eq (by omega) (by omega)
        have E22 : nb_add (l3 + ((M.1 606 (111 + 5 * l2 + l4)) * (M.1 606 (8 + 3 * l4 + 1)))) (M.1 606 (8 + 3 * l4) - (M.1 606 (8 + 3 * l4 + 1))) = l3 + ((M.1 606 (111 + 5 * l2 + l4)) * (M.1 606 (8 + 3 * l4 + 1))) + (M.1 606 (8 + 3 * l4) - (M.1 606 (8 + 3 * l4 + 1))) := nb_add_eq (by omega) (by omega)
        refine nb_Wg (q_m_timeBehind_8 _ _ _ _ _ _ _ _ (by omega) (by rw [E16]; first | done | omega) (by rw [E17, E18]; first | done | omega) (by rw [E17, E18, E16, N19]; first | done | omega)) ?_
        simp only [E16, E17, E18, E20, E21, E22]
        clear E16 E17 E18 N19 E20 E21 E22
        refine nb_Gr ?_
        have E23 : nb_add l4 1 = l4 + 1 := nb_add_eq (by omega) (by omega)
        refine nb_Wg (q_m_timeBehind_9 _ _ _ _ _ _ _ _) ?_
        simp only [E23]
        clear E23
        refine nb_Gr ?_
        exact nb_Hu H
      · have H := nb_Hw ((nb_Hu H).2 (by omega))
        have c40 : 0 ≤ l1 := by omega
        refine nb_Gr ?_
        refine nb_Wg (q_m_timeBehind_6 _ _ _ _ _ _ _ _ (by omega)) ?_
        refine nb_Gb ?_
        have E24 : nb_rd M 603 15 = 606 := W.m15
        have E25 : nb_mul 5 l1 = 5 * l1 := nb_mul_eq (by omega) (by omega)
        have E26 : nb_add 111 (5 * l1) = 111 + 5 * l1 := (nb_add_eq (x := 111) (y := 5 * l1) (by omega) (by omega)).trans (by omega)
        have E27 : nb_add (111 + 5 * l1) l4 = 111 + 5 * l1 + l4 := nb_add_eq (by omega) (by omega)
        have N28 : nb_ln M 606 = 347 := W.lk (by decide) (by decide +kernel)
        have E29 : nb_rd M 606 (111 + 5 * l1 + l4) = M.1 606 (111 + 5 * l1 + l4) := nb_rd_1 _ _ _
        refine nb_Wg (q_m_wantsOf_0 _ _ _ _ (by omega) (by rw [E24]; first | done | omega) (by rw [E25, E26, E27]; first | done | omega) (by rw [E25, E26, E27, E24, N28]; first | done | omega)) ?_
        simp only [E24, E25, E26, E27, E29]
        clear E24 E25 E26 E27 N28 E29
        refine nb_Gs ?_
        show nb_W 129 7 [(20, 603), (0, l1), (0, l2), (0, l3 + ((M.1 606 (111 + 5 * l2 + l4)) * (M.1 606 (8 + 3 * l4 + 1)))), (0, l4), (0, M.1 606 (111 + 5 * l2 + l4)), (0, M.1 606 (8 + 3 * l4 + 1))] [(0, M.1 606 (111 + 5 * l1 + l4))] M _
        refine nb_Wg (q_m_timeBehind_7 _ _ _ _ _ _ _ _ _) ?_
        refine nb_Gi (fun c39 => ?_) (fun c39 => ?_)
        · have H := nb_Hw ((nb_Hu H).1 c39)
          refine nb_Gr ?_
          obtain ⟨p0_, p1_, p2_, p3_, H⟩ := H
          replace H := nb_Hw H
          have E30 : nb_rd M 603 15 = 606 := W.m15
          have E31 : nb_mul 3 l4 = 3 * l4 := nb_mul_eq (by omega) (by omega)
          have E32 : nb_add 8 (3 * l4) = 8 + 3 * l4 := (nb_add_eq (x := 8) (y := 3 * l4) (by omega) (by omega)).trans (by omega)
          have N33 : nb_ln M 606 = 347 := W.lk (by decide) (by decide +kernel)
          have E34 : nb_rd M 606 (8 + 3 * l4) = M.1 606 (8 + 3 * l4) := nb_rd_1 _ _ _
          have E35 : nb_sub (M.1 606 (8 + 3 * l4)) (M.1 606 (8 + 3 * l4 + 1)) = M.1 606 (8 + 3 * l4) - (M.1 606 (8 + 3 * l4 + 1)) := nb_sub_eq (by omega) (by omega)
          have E36 : nb_add (l3 + ((M.1 606 (111 + 5 * l2 + l4)) * (M.1 606 (8 + 3 * l4 + 1)))) (M.1 606 (8 + 3 * l4) - (M.1 606 (8 + 3 * l4 + 1))) = l3 + ((M.1 606 (111 + 5 * l2 + l4)) * (M.1 606 (8 + 3 * l4 + 1))) + (M.1 606 (8 + 3 * l4) - (M.1 606 (8 + 3 * l4 + 1))) := nb_add_eq (by omega) (by omega)
          refine nb_Wg (q_m_timeBehind_8 _ _ _ _ _ _ _ _ (by omega) (by rw [E30]; first | done | omega) (by rw [E31, E32]; first | done | omega) (by rw [E31, E32, E30, N33]; first | done | omega)) ?_
          simp only [E30, E31, E32, E34, E35, E36]
          clear E30 E31 E32 N33 E34 E35 E36
          refine nb_Gr ?_
          have E37 : nb_add l4 1 = l4 + 1 := nb_add_eq (by omega) (by omega)
          refine nb_Wg (q_m_timeBehind_9 _ _ _ _ _ _ _ _) ?_
          simp only [E37]
          clear E37
          refine nb_Gr ?_
          exact nb_Hu H
        · have H := nb_Hw ((nb_Hu H).2 (by omega))
          have c39 : M.1 606 (111 + 5 * l1 + l4) ≠ 0 := by omega
          refine nb_Gr ?_
          have E38 : nb_add l4 1 = l4 + 1 := nb_add_eq (by omega) (by omega)
          refine nb_Wg (q_m_timeBehind_9 _ _ _ _ _ _ _ _) ?_
          simp only [E38]
          clear E38
          refine nb_Gr ?_
          exact nb_Hu H
  · have H := nb_Hw ((nb_Hu H).2 (by omega))
    have c42 : 5 ≤ l4 := by omega
    refine nb_Gr ?_
    refine nb_Wg (q_m_timeBehind_10 _ _ _ _ _ _ _ _) ?_
    refine nb_Gs ?_
    exact nb_Hu H

theorem w_m_costsOf_0 {l1 : Int} {v2 v3 : nb_V} {M : nb_M} {Q : List nb_V → nb_M → Prop} (W : nb_Lay M) (H : nb_W 141 1 [(20, 603), (0, l1), (0, 0), (0, 0)] [] M Q) :
    nb_W 141 0 [(20, 603), (0, l1), v2, v3] [] M Q := by
  replace H := nb_Hw H
  refine nb_Wg (q_m_costsOf_0 _ _ _ _ _) ?_
  refine nb_Gr ?_
  exact nb_Hu H

theorem w_m_costsOf_1 {l1 l2 l3 : Int} {M : nb_M} {Q : List nb_V → nb_M → Prop} (W : nb_Lay M)  (b0_ : 0 ≤ l1 ∧ l1 ≤ 9) (b1_ : 0 ≤ l3 ∧ l3 ≤ 5) (H : (l3 < 5 → -2147483648 ≤ (M.1 606 (111 + 5 * l1 + l3)) * (M.1 606 (8 + 3 * l3 + 2)) ∧ (M.1 606 (111 + 5 * l1 + l3)) * (M.1 606 (8 + 3 * l3 + 2)) ≤ 2147483647 ∧ -2147483648 ≤ l2 + ((M.1 606 (111 + 5 * l1 + l3)) * (M.1 606 (8 + 3 * l3 + 2))) ∧ l2 + ((M.1 606 (111 + 5 * l1 + l3)) * (M.1 606 (8 + 3 * l3 + 2))) ≤ 2147483647 ∧ nb_W 141 1 [(20, 603), (0, l1), (0, l2 + ((M.1 606 (111 + 5 * l1 + l3)) * (M.1 606 (8 + 3 * l3 + 2)))), (0, l3 + 1)] [] M Q) ∧ (5 ≤ l3 → Q [(0, l2)] M)) :
    nb_W 141 1 [(20, 603), (0, l1), (0, l2), (0, l3)] [] M Q := by
  replace H := nb_Hw H
  refine nb_Wg (q_m_costsOf_1 _ _ _ _ _) ?_
  refine nb_Gi (fun c16 => ?_) (fun c16 => ?_)
  · have H := nb_Hw ((nb_Hu H).1 c16)
    refine nb_Gr ?_
    refine nb_Wg (q_m_costsOf_2 _ _ _ _ _ (by omega)) ?_
    refine nb_Gb ?_
    have E1 : nb_rd M 603 15 = 606 := W.m15
    have E2 : nb_mul 5 l1 = 5 * l1 := nb_mul_eq (by omega) (by omega)
    have E3 : nb_add 111 (5 * l1) = 111 + 5 * l1 := (nb_add_eq (x := 111) (y := 5 * l1) (by omega) (by omega)).trans (by omega)
    have E4 : nb_add (111 + 5 * l1) l3 = 111 + 5 * l1 + l3 := nb_add_eq (by omega) (by omega)
    have N5 : nb_ln M 606 = 347 := W.lk (by decide) (by decide +kernel)
    have E6 : nb_rd M 606 (111 + 5 * l1 + l3) = M.1 606 (111 + 5 * l1 + l3) := nb_rd_1 _ _ _
    refine nb_Wg (q_m_wantsOf_0 _ _ _ _ (by omega) (by rw [E1]; first | done | omega) (by rw [E2, E3, E4]; first | done | omega) (by rw [E2, E3, E4, E1, N5]; first | done | omega)) ?_
    simp only [E1, E2, E3, E4, E6]
    clear E1 E2 E3 E4 N5 E6
    refine nb_Gs ?_
    show nb_W 141 3 [(20, 603), (0, l1), (0, l2), (0, l3)] [(0, M.1 606 (111 + 5 * l1 + l3)), (0, l2)] M _
    obtain ⟨p0_, p1_, p2_, p3_, H⟩ := H
    replace H := nb_Hw H
    have E7 : nb_rd M 603 15 = 606 := W.m15
    have E8 : nb_mul 3 l3 = 3 * l3 := nb_mul_eq (by omega) (by omega)
    have E9 : nb_add 8 (3 * l3) = 8 + 3 * l3 := (nb_add_eq (x := 8) (y := 3 * l3) (by omega) (by omega)).trans (by omega)
    have E10 : nb_add (8 + 3 * l3) 2 = 8 + 3 * l3 + 2 := nb_add_eq (by omega) (by omega)
    have N11 : nb_ln M 606 = 347 := W.lk (by decide) (by decide +kernel)
    have E12 : nb_rd M 606 (8 + 3 * l3 + 2) = M.1 606 (8 + 3 * l3 + 2) := nb_rd_1 _ _ _
    have E13 : nb_mul (M.1 606 (111 + 5 * l1 + l3)) (M.1 606 (8 + 3 * l3 + 2)) = (M.1 606 (111 + 5 * l1 + l3)) * (M.1 606 (8 + 3 * l3 + 2)) := (nb_mul_eq (x := M.1 606 (111 + 5 * l1 + l3)) (y := M.1 606 (8 + 3 * l3 + 2)) (by omega) (by omega)).trans (by omega)
    have E14 : nb_add l2 ((M.1 606 (111 + 5 * l1 + l3)) * (M.1 606 (8 + 3 * l3 + 2))) = l2 + ((M.1 606 (111 + 5 * l1 + l3)) * (M.1 606 (8 + 3 * l3 + 2))) := nb_add_eq (by omega) (by omega)
    have E15 : nb_add l3 1 = l3 + 1 := nb_add_eq (by omega) (by omega)
    refine nb_Wg (q_m_costsOf_3 _ _ _ _ _ _ _ (by omega) (by rw [E7]; first | done | omega) (by rw [E8, E9, E10]; first | done | omega) (by rw [E8, E9, E10, E7, N11]; first | done | omega)) ?_
    simp only [E7, E8, E9, E10, E12, E13, E14, E15]
    clear E7 E8 E9 E10 N11 E12 E13 E14 E15
    refine nb_Gr ?_
    exact nb_Hu H
  · have H := nb_Hw ((nb_Hu H).2 (by omega))
    have c16 : 5 ≤ l3 := by omega
    refine nb_Gr ?_
    refine nb_Wg (q_m_costsOf_4 _ _ _ _ _) ?_
    refine nb_Gs ?_
    exact nb_Hu H

theorem w_m_turn_0 {l1 l2 l3 : Int} {v4 v5 : nb_V} {M : nb_M} {Q : List nb_V → nb_M → Prop} (W : nb_Lay M) (hr0 : l1 ≠ 0) (hr1 : l1 ≠ 1) (hrl : nb_ln M l1 = 108) (b0_ : 0 ≤ l2 ∧ l2 ≤ 3) (b1_ : 0 ≤ l3 ∧ l3 ≤ 9) (b2_ : 0 ≤ M.1 l1 (12 + 8 * l3 + 1) ∧ M.1 l1 (12 + 8 * l3 + 1) ≤ 19) (b3_ : 0 ≤ M.1 l1 (92 + 4 * l2) ∧ M.1 l1 (92 + 4 * l2) ≤ 19) (b4_ : 0 ≤ M.1 l1 (12 + 8 * l3 + 2) ∧ M.1 l1 (12 + 8 * l3 + 2) ≤ 99) (H : (M.1 612 (6 * l2) = 0 → (M.1 l1 (12 + 8 * l3 + 1) < M.1 l1 (92 + 4 * l2) → Q [(0, 1000000 + (M.1 l1 (12 + 8 * l3 + 1)))] M) ∧ (M.1 l1 (92 + 4 * l2) ≤ M.1 l1 (12 + 8 * l3 + 1) → Q [(0, M.1 l1 (12 + 8 * l3 + 1) - (M.1 l1 (92 + 4 * l2)))] M)) ∧ (M.1 612 (6 * l2) = 1 → (M.1 l1 (12 + 8 * l3 + 1) < M.1 l1 (92 + 4 * l2) → (M.1 l1 (92 + 4 * l2) < M.1 l1 (12 + 8 * l3 + 1) → Q [(0, 2 * (M.1 l1 (92 + 4 * l2) - (M.1 l1 (12 + 8 * l3 + 1))) + 1)] M) ∧ (M.1 l1 (12 + 8 * l3 + 1) ≤ M.1 l1 (92 + 4 * l2) → Q [(0, 2 * (M.1 l1 (92 + 4 * l2) - (M.1 l1 (12 + 8 * l3 + 1))))] M)) ∧ (M.1 l1 (92 + 4 * l2) ≤ M.1 l1 (12 + 8 * l3 + 1) → (M.1 l1 (92 + 4 * l2) < M.1 l1 (12 + 8 * l3 + 1) → Q [(0, 2 * (M.1 l1 (12 + 8 * l3 + 1) - (M.1 l1 (92 + 4 * l2))) + 1)] M) ∧ (M.1 l1 (12 + 8 * l3 + 1) ≤ M.1 l1 (92 + 4 * l2) → Q [(0, 2 * (M.1 l1 (12 + 8 * l3 + 1) - (M.1 l1 (92 + 4 * l2))))] M))) ∧ (M.1 612 (6 * l2) = 2 → Q [(0, -(M.1 l1 (12 + 8 * l3 + 2)))] M) ∧ (M.1 612 (6 * l2) = 3 → Q [(0, M.1 l1 (12 + 8 * l3 + 3))] M) ∧ (M.1 612 (6 * l2) ≠ 0 → M.1 612 (6 * l2) ≠ 1 → M.1 612 (6 * l2) ≠ 2 → M.1 612 (6 * l2) ≠ 3 → (M.1 613 (7 * l3) = 3 → Q [(0, 0)] M) ∧ (M.1 613 (7 * l3) ≠ 3 → Q [(0, 1)] M))) :
    nb_W 130 0 [(20, 603), (3, l1), (0, l2), (0, l3), v4, v5] [] M Q := by
  replace H := nb_Hw H
  have E1 : nb_mul 4 l2 = 4 * l2 := nb_mul_eq (by omega) (by omega)
  have E2 : nb_add 92 (4 * l2) = 92 + 4 * l2 := (nb_add_eq (x := 92) (y := 4 * l2) (by omega) (by omega)).trans (by omega)
  have N3 : nb_ln M l1 = 108 := hrl
  have E4 : nb_rd M l1 (92 + 4 * l2) = M.1 l1 (92 + 4 * l2) := nb_rd_1 _ _ _
  refine nb_Wg (q_m_turn_0 _ _ _ _ _ _ _ (by omega) (by rw [E1, E2]; first | done | omega) (by rw [E1, E2, N3]; first | done | omega)) ?_
  simp only [E1, E2, E4]
  clear E1 E2 N3 E4
  refine nb_Gb ?_
  have E5 : nb_mul 8 l3 = 8 * l3 := nb_mul_eq (by omega) (by omega)
  have E6 : nb_add 12 (8 * l3) = 12 + 8 * l3 := (nb_add_eq (x := 12) (y := 8 * l3) (by omega) (by omega)).trans (by omega)
  have E7 : nb_add (12 + 8 * l3) 1 = 12 + 8 * l3 + 1 := nb_add_eq (by omega) (by omega)
  have N8 : nb_ln M l1 = 108 := hrl
  have E9 : nb_rd M l1 (12 + 8 * l3 + 1) = M.1 l1 (12 + 8 * l3 + 1) := nb_rd_1 _ _ _
  refine nb_Wg (q_m_its_0 _ _ _ _ (by omega) (by rw [E5, E6, E7]; first | done | omega) (by rw [E5, E6, E7, N8]; first | done | omega)) ?_
  simp only [E5, E6, E7, E9]
  clear E5 E6 E7 N8 E9
  refine nb_Gs ?_
  show nb_W 130 1 [(20, 603), (3, l1), (0, l2), (0, l3), (0, M.1 l1 (92 + 4 * l2)), v5] [(0, M.1 l1 (12 + 8 * l3 + 1))] M _
  have E10 : nb_rd M 603 23 = 612 := W.m23
  have E11 : nb_mul 6 l2 = 6 * l2 := nb_mul_eq (by omega) (by omega)
  have E12 : nb_add (6 * l2) 0 = 6 * l2 := (nb_add_eq (x := 6 * l2) (y := 0) (by omega) (by omega)).trans (by omega)
  have N13 : nb_ln M 612 = 24 := W.lk (by decide) (by decide +kernel)
  have E14 : nb_rd M 612 (6 * l2) = M.1 612 (6 * l2) := nb_rd_1 _ _ _
  refine nb_Wg (q_m_turn_1 _ _ _ _ _ _ _ _ (by omega) (by rw [E10]; first | done | omega) (by rw [E11, E12]; first | done | omega) (by rw [E11, E12, E10, N13]; first | done | omega)) ?_
  simp only [E10, E11, E12, E14]
  clear E10 E11 E12 N13 E14
  refine nb_Gi (fun c18 => ?_) (fun c18 => ?_)
  · have H := nb_Hw ((nb_Hu H).1 c18)
    refine nb_Gr ?_
    refine nb_Wg (q_m_turn_2 _ _ _ _ _ _ _) ?_
    refine nb_Gi (fun c17 => ?_) (fun c17 => ?_)
    · have H := nb_Hw ((nb_Hu H).1 c17)
      refine nb_Gr ?_
      have E15 : nb_add 1000000 (M.1 l1 (12 + 8 * l3 + 1)) = 1000000 + (M.1 l1 (12 + 8 * l3 + 1)) := nb_add_eq (by omega) (by omega)
      refine nb_Wg (q_m_turn_4 _ _ _ _ _ _ _) ?_
      simp only [E15]
      clear E15
      refine nb_Gr ?_
      refine nb_Wg (q_m_turn_5 _ _ _ _ _ _ _ _) ?_
      refine nb_Gs ?_
      exact nb_Hu H
    · have H := nb_Hw ((nb_Hu H).2 (by omega))
      have c17 : M.1 l1 (92 + 4 * l2) ≤ M.1 l1 (12 + 8 * l3 + 1) := by omega
      refine nb_Gr ?_
      have E16 : nb_sub (M.1 l1 (12 + 8 * l3 + 1)) (M.1 l1 (92 + 4 * l2)) = M.1 l1 (12 + 8 * l3 + 1) - (M.1 l1 (92 + 4 * l2)) := nb_sub_eq (by omega) (by omega)
      refine nb_Wg (q_m_turn_3 _ _ _ _ _ _ _) ?_
      simp only [E16]
      clear E16
      refine nb_Gr ?_
      refine nb_Wg (q_m_turn_5 _ _ _ _ _ _ _ _) ?_
      refine nb_Gs ?_
      exact nb_Hu H
  refine nb_Gi (fun c30 => ?_) (fun c30 => ?_)
  · have H := nb_Hw ((nb_Hu H).2.1 c30)
    refine nb_Gr ?_
    refine nb_Wg (q_m_turn_6 _ _ _ _ _ _ _) ?_
    refine nb_Gb ?_
    refine nb_Wg (q_m_far_0 _ _ _) ?_
    refine nb_Gi (fun c29 => ?_) (fun c29 => ?_)
    · have H := nb_Hw ((nb_Hu H).1 c29)
      refine nb_Gr ?_
      have E19 : nb_sub (M.1 l1 (92 + 4 * l2)) (M.1 l1 (12 + 8 * l3 + 1)) = M.1 l1 (92 + 4 * l2) - (M.1 l1 (12 + 8 * l3 + 1)) := nb_sub_eq (by omega) (by omega)
      refine nb_Wg (q_m_far_1 _ _ _) ?_
      simp only [E19]
      clear E19
      refine nb_Gr ?_
      refine nb_Wg (q_m_far_3 _ _ _ _) ?_
      refine nb_Gs ?_
      show nb_W 130 7 [(20, 603), (3, l1), (0, l2), (0, l3), (0, M.1 l1 (92 + 4 * l2)), (0, M.1 l1 (12 + 8 * l3 + 1))] [(0, M.1 l1 (92 + 4 * l2) - (M.1 l1 (12 + 8 * l3 + 1))), (0, 2)] M _
      have E20 : nb_mul 2 (M.1 l1 (92 + 4 * l2) - (M.1 l1 (12 + 8 * l3 + 1))) = 2 * (M.1 l1 (92 + 4 * l2) - (M.1 l1 (12 + 8 * l3 + 1))) := nb_mul_eq (by omega) (by omega)
      refine nb_Wg (q_m_turn_7 _ _ _ _ _ _ _ _ _) ?_
      simp only [E20]
      clear E20
      refine nb_Gi (fun c23 => ?_) (fun c23 => ?_)
      · have H := nb_Hw ((nb_Hu H).1 c23)
        refine nb_Gr ?_
        refine nb_Wg (q_m_turn_8 _ _ _ _ _ _ _ _) ?_
        refine nb_Gr ?_
        have E21 : nb_add (2 * (M.1 l1 (92 + 4 * l2) - (M.1 l1 (12 + 8 * l3 + 1)))) 1 = 2 * (M.1 l1 (92 + 4 * l2) - (M.1 l1 (12 + 8 * l3 + 1))) + 1 := nb_add_eq (by omega) (by omega)
        refine nb_Wg (q_m_turn_10 _ _ _ _ _ _ _ _ _) ?_
        simp only [E21]
        clear E21
        refine nb_Gs ?_
        exact nb_Hu H
      · have H := nb_Hw ((nb_Hu H).2 (by omega))
        have c23 : M.1 l1 (12 + 8 * l3 + 1) ≤ M.1 l1 (92 + 4 * l2) := by omega
        refine nb_Gr ?_
        refine nb_Wg (q_m_turn_9 _ _ _ _ _ _ _ _) ?_
        refine nb_Gr ?_
        have E22 : nb_add (2 * (M.1 l1 (92 + 4 * l2) - (M.1 l1 (12 + 8 * l3 + 1)))) 0 = 2 * (M.1 l1 (92 + 4 * l2) - (M.1 l1 (12 + 8 * l3 + 1))) := (nb_add_eq (x := 2 * (M.1 l1 (92 + 4 * l2) - (M.1 l1 (12 + 8 * l3 + 1)))) (y := 0) (by omega) (by omega)).trans (by omega)
        refine nb_Wg (q_m_turn_10 _ _ _ _ _ _ _ _ _) ?_
        simp only [E22]
        clear E22
        refine nb_Gs ?_
        exact nb_Hu H
    · have H := nb_Hw ((nb_Hu H).2 (by omega))
      have c29 : M.1 l1 (92 + 4 * l2) ≤ M.1 l1 (12 + 8 * l3 + 1) := by omega
      refine nb_Gr ?_
      have E24 : nb_sub (M.1 l1 (12 + 8 * l3 + 1)) (M.1 l1 (92 + 4 * l2)) = M.1 l1 (12 + 8 * l3 + 1) - (M.1 l1 (92 + 4 * l2)) := nb_sub_eq (by omega) (by omega)
      refine nb_Wg (q_m_far_2 _ _ _) ?_
      simp only [E24]
      clear E24
      refine nb_Gr ?_
      refine nb_Wg (q_m_far_3 _ _ _ _) ?_
      refine nb_Gs ?_
      show nb_W 130 7 [(20, 603), (3, l1), (0, l2), (0, l3), (0, M.1 l1 (92 + 4 * l2)), (0, M.1 l1 (12 + 8 * l3 + 1))] [(0, M.1 l1 (12 + 8 * l3 + 1) - (M.1 l1 (92 + 4 * l2))), (0, 2)] M _
      have E25 : nb_mul 2 (M.1 l1 (12 + 8 * l3 + 1) - (M.1 l1 (92 + 4 * l2))) = 2 * (M.1 l1 (12 + 8 * l3 + 1) - (M.1 l1 (92 + 4 * l2))) := nb_mul_eq (by omega) (by omega)
      refine nb_Wg (q_m_turn_7 _ _ _ _ _ _ _ _ _) ?_
      simp only [E25]
      clear E25
      refine nb_Gi (fun c28 => ?_) (fun c28 => ?_)
      · have H := nb_Hw ((nb_Hu H).1 c28)
        refine nb_Gr ?_
        refine nb_Wg (q_m_turn_8 _ _ _ _ _ _ _ _) ?_
        refine nb_Gr ?_
        have E26 : nb_add (2 * (M.1 l1 (12 + 8 * l3 + 1) - (M.1 l1 (92 + 4 * l2)))) 1 = 2 * (M.1 l1 (12 + 8 * l3 + 1) - (M.1 l1 (92 + 4 * l2))) + 1 := nb_add_eq (by omega) (by omega)
        refine nb_Wg (q_m_turn_10 _ _ _ _ _ _ _ _ _) ?_
        simp only [E26]
        clear E26
        refine nb_Gs ?_
        exact nb_Hu H
      · have H := nb_Hw ((nb_Hu H).2 (by omega))
        have c28 : M.1 l1 (12 + 8 * l3 + 1) ≤ M.1 l1 (92 + 4 * l2) := by omega
        refine nb_Gr ?_
        refine nb_Wg (q_m_turn_9 _ _ _ _ _ _ _ _) ?_
        refine nb_Gr ?_
        have E27 : nb_add (2 * (M.1 l1 (12 + 8 * l3 + 1) - (M.1 l1 (92 + 4 * l2)))) 0 = 2 * (M.1 l1 (12 + 8 * l3 + 1) - (M.1 l1 (92 + 4 * l2))) := (nb_add_eq (x := 2 * (M.1 l1 (12 + 8 * l3 + 1) - (M.1 l1 (92 + 4 * l2)))) (y := 0) (by omega) (by omega)).trans (by omega)
        refine nb_Wg (q_m_turn_10 _ _ _ _ _ _ _ _ _) ?_
        simp only [E27]
        clear E27
        refine nb_Gs ?_
        exact nb_Hu H
  refine nb_Gi (fun c37 => ?_) (fun c37 => ?_)
  · have H := nb_Hw ((nb_Hu H).2.2.1 c37)
    refine nb_Gr ?_
    refine nb_Wg (q_m_turn_11 _ _ _ _ _ _ _) ?_
    refine nb_Gb ?_
    have E31 : nb_mul 8 l3 = 8 * l3 := nb_mul_eq (by omega) (by omega)
    have E32 : nb_add 12 (8 * l3) = 12 + 8 * l3 := (nb_add_eq (x := 12) (y := 8 * l3) (by omega) (by omega)).trans (by omega)
    have E33 : nb_add (12 + 8 * l3) 2 = 12 + 8 * l3 + 2 := nb_add_eq (by omega) (by omega)
    have N34 : nb_ln M l1 = 108 := hrl
    have E35 : nb_rd M l1 (12 + 8 * l3 + 2) = M.1 l1 (12 + 8 * l3 + 2) := nb_rd_1 _ _ _
    refine nb_Wg (q_m_its_0 _ _ _ _ (by omega) (by rw [E31, E32, E33]; first | done | omega) (by rw [E31, E32, E33, N34]; first | done | omega)) ?_
    simp only [E31, E32, E33, E35]
    clear E31 E32 E33 N34 E35
    refine nb_Gs ?_
    show nb_W 130 12 [(20, 603), (3, l1), (0, l2), (0, l3), (0, M.1 l1 (92 + 4 * l2)), (0, M.1 l1 (12 + 8 * l3 + 1))] [(0, M.1 l1 (12 + 8 * l3 + 2))] M _
    have E36 : nb_neg (M.1 l1 (12 + 8 * l3 + 2)) = -(M.1 l1 (12 + 8 * l3 + 2)) := nb_neg_eq (by omega) (by omega)
    refine nb_Wg (q_m_turn_12 _ _ _ _ _ _ _ _) ?_
    simp only [E36]
    clear E36
    refine nb_Gs ?_
    exact nb_Hu H
  refine nb_Gi (fun c43 => ?_) (fun c43 => ?_)
  · have H := nb_Hw ((nb_Hu H).2.2.2.1 c43)
    refine nb_Gr ?_
    refine nb_Wg (q_m_turn_13 _ _ _ _ _ _ _) ?_
    refine nb_Gb ?_
    have E38 : nb_mul 8 l3 = 8 * l3 := nb_mul_eq (by omega) (by omega)
    have E39 : nb_add 12 (8 * l3) = 12 + 8 * l3 := (nb_add_eq (x := 12) (y := 8 * l3) (by omega) (by omega)).trans (by omega)
    have E40 : nb_add (12 + 8 * l3) 3 = 12 + 8 * l3 + 3 := nb_add_eq (by omega) (by omega)
    have N41 : nb_ln M l1 = 108 := hrl
    have E42 : nb_rd M l1 (12 + 8 * l3 + 3) = M.1 l1 (12 + 8 * l3 + 3) := nb_rd_1 _ _ _
    refine nb_Wg (q_m_its_0 _ _ _ _ (by omega) (by rw [E38, E39, E40]; first | done | omega) (by rw [E38, E39, E40, N41]; first | done | omega)) ?_
    simp only [E38, E39, E40, E42]
    clear E38 E39 E40 N41 E42
    refine nb_Gs ?_
    show nb_W 130 14 [(20, 603), (3, l1), (0, l2), (0, l3), (0, M.1 l1 (92 + 4 * l2)), (0, M.1 l1 (12 + 8 * l3 + 1))] [(0, M.1 l1 (12 + 8 * l3 + 3))] M _
    refine nb_Wg (q_m_turn_14 _ _ _ _ _ _ _ _) ?_
    refine nb_Gs ?_
    exact nb_Hu H
  have H := nb_Hw ((nb_Hu H).2.2.2.2 (by omega) (by omega) (by omega) (by omega))
  refine nb_Gr ?_
  refine nb_Wg (q_m_turn_15 _ _ _ _ _ _ _ (by omega)) ?_
  refine nb_Gb ?_
  have E44 : nb_rd M 603 24 = 613 := W.m24
  have E45 : nb_mul 7 l3 = 7 * l3 := nb_mul_eq (by omega) (by omega)
  have E46 : nb_add (7 * l3) 0 = 7 * l3 := (nb_add_eq (x := 7 * l3) (y := 0) (by omega) (by omega)).trans (by omega)
  have N47 : nb_ln M 613 = 70 := W.lk (by decide) (by decide +kernel)
  have E48 : nb_rd M 613 (7 * l3) = M.1 613 (7 * l3) := nb_rd_1 _ _ _
  refine nb_Wg (q_m_man_0 _ _ _ _ (by omega) (by rw [E44]; first | done | omega) (by rw [E45, E46]; first | done | omega) (by rw [E45, E46, E44, N47]; first | done | omega)) ?_
  simp only [E44, E45, E46, E48]
  clear E44 E45 E46 N47 E48
  refine nb_Gs ?_
  show nb_W 130 16 [(20, 603), (3, l1), (0, l2), (0, l3), (0, M.1 l1 (92 + 4 * l2)), (0, M.1 l1 (12 + 8 * l3 + 1))] [(0, M.1 613 (7 * l3))] M _
  refine nb_Wg (q_m_turn_16 _ _ _ _ _ _ _ _) ?_
  refine nb_Gi (fun c49 => ?_) (fun c49 => ?_)
  · have H := nb_Hw ((nb_Hu H).1 c49)
    refine nb_Gr ?_
    refine nb_Wg (q_m_turn_17 _ _ _ _ _ _ _) ?_
    refine nb_Gr ?_
    refine nb_Wg (q_m_turn_19 _ _ _ _ _ _ _ _) ?_
    refine nb_Gs ?_
    exact nb_Hu H
  · have H := nb_Hw ((nb_Hu H).2 (by omega))
    have c49 : M.1 613 (7 * l3) ≠ 3 := by omega
    refine nb_Gr ?_
    refine nb_Wg (q_m_turn_18 _ _ _ _ _ _ _) ?_
    refine nb_Gr ?_
    refine nb_Wg (q_m_turn_19 _ _ _ _ _ _ _ _) ?_
    refine nb_Gs ?_
    exact nb_Hu H

theorem w_m_far_0 {l0 l1 : Int} {M : nb_M} {Q : List nb_V → nb_M → Prop}  (b0_ : (-1000000) ≤ l0 ∧ l0 ≤ 1000000) (b1_ : (-1000000) ≤ l1 ∧ l1 ≤ 1000000) (H : (l0 < l1 → Q [(0, l1 - l0)] M) ∧ (l1 ≤ l0 → Q [(0, l0 - l1)] M)) :
    nb_W 127 0 [(0, l0), (0, l1)] [] M Q := by
  replace H := nb_Hw H
  refine nb_Wg (q_m_far_0 _ _ _) ?_
  refine nb_Gi (fun c3 => ?_) (fun c3 => ?_)
  · have H := nb_Hw ((nb_Hu H).1 c3)
    refine nb_Gr ?_
    have E1 : nb_sub l1 l0 = l1 - l0 := nb_sub_eq (by omega) (by omega)
    refine nb_Wg (q_m_far_1 _ _ _) ?_
    simp only [E1]
    clear E1
    refine nb_Gr ?_
    refine nb_Wg (q_m_far_3 _ _ _ _) ?_
    refine nb_Gs ?_
    exact nb_Hu H
  · have H := nb_Hw ((nb_Hu H).2 (by omega))
    have c3 : l1 ≤ l0 := by omega
    refine nb_Gr ?_
    have E2 : nb_sub l0 l1 = l0 - l1 := nb_sub_eq (by omega) (by omega)
    refine nb_Wg (q_m_far_2 _ _ _) ?_
    simp only [E2]
    clear E2
    refine nb_Gr ?_
    refine nb_Wg (q_m_far_3 _ _ _ _) ?_
    refine nb_Gs ?_
    exact nb_Hu H
