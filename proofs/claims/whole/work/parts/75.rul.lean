/-! rules, printed by wip/gen -/
theorem w_m_sumOf_0 {l1 : Int} {v2 v3 v4 : nb_V} {M : nb_M} {Q : List nb_V → nb_M → Prop} (W : nb_Lay M) (H : nb_W 140 1 [(20, 603), (0, l1), (0, 0), (0, 0), v4] [] M Q) :
    nb_W 140 0 [(20, 603), (0, l1), v2, v3, v4] [] M Q := by
  replace H := nb_Hw H
  refine nb_Wg (q_m_sumOf_0 _ _ _ _ _ _) ?_
  refine nb_Gr ?_
  exact nb_Hu H

theorem w_m_sumOf_1 {l1 l2 l3 : Int} {v4 : nb_V} {M : nb_M} {Q : List nb_V → nb_M → Prop} (W : nb_Lay M)  (b0_ : 0 ≤ l3 ∧ l3 ≤ 10) (b1_ : (-1000000) ≤ l2 ∧ l2 ≤ 10000000) (H : 0 ≤ M.1 606 5 ∧ M.1 606 5 ≤ 10 ∧ (l3 < M.1 606 5 → (M.1 609 (12 + 8 * l3) = 0 → nb_W 140 1 [(20, 603), (0, l1), (0, l2), (0, l3 + 1), (0, pu_fo (M.1 609) l3)] [] M Q) ∧ (M.1 609 (12 + 8 * l3) ≠ 0 → (l1 = 0 → (pu_fo (M.1 609) l3 < 2 → nb_W 140 1 [(20, 603), (0, l1), (0, l2 + 1), (0, l3 + 1), (0, pu_fo (M.1 609) l3)] [] M Q) ∧ (2 ≤ pu_fo (M.1 609) l3 → nb_W 140 1 [(20, 603), (0, l1), (0, l2), (0, l3 + 1), (0, pu_fo (M.1 609) l3)] [] M Q)) ∧ (l1 = 1 → (pu_fo (M.1 609) l3 = 2 → nb_W 140 1 [(20, 603), (0, l1), (0, l2 + 1), (0, l3 + 1), (0, pu_fo (M.1 609) l3)] [] M Q) ∧ (pu_fo (M.1 609) l3 ≠ 2 → nb_W 140 1 [(20, 603), (0, l1), (0, l2), (0, l3 + 1), (0, pu_fo (M.1 609) l3)] [] M Q)) ∧ (l1 = 2 → (pu_fo (M.1 609) l3 = 3 → nb_W 140 1 [(20, 603), (0, l1), (0, l2 + 1), (0, l3 + 1), (0, pu_fo (M.1 609) l3)] [] M Q) ∧ (pu_fo (M.1 609) l3 ≠ 3 → nb_W 140 1 [(20, 603), (0, l1), (0, l2), (0, l3 + 1), (0, pu_fo (M.1 609) l3)] [] M Q)) ∧ (l1 = 3 → (pu_fo (M.1 609) l3 = 4 → nb_W 140 1 [(20, 603), (0, l1), (0, l2), (0, l3 + 1), (0, pu_fo (M.1 609) l3)] [] M Q) ∧ (pu_fo (M.1 609) l3 ≠ 4 → pu_Rw (M.1 609) ∧ pu_Rp (M.1 613) ∧ 0 ≤ M.1 603 26 ∧ M.1 603 26 ≤ 9000 ∧ -2147483648 ≤ l2 + pu_wo (M.1 613) (M.1 609) (M.1 603 26) l3 ∧ l2 + pu_wo (M.1 613) (M.1 609) (M.1 603 26) l3 ≤ 2147483647 ∧ nb_W 140 1 [(20, 603), (0, l1), (0, l2 + pu_wo (M.1 613) (M.1 609) (M.1 603 26) l3), (0, l3 + 1), (0, pu_fo (M.1 609) l3)] [] M Q)) ∧ (l1 = 4 → pu_Rw (M.1 609) ∧ -2147483648 ≤ l2 + pu_ones (pu_pa (M.1 613) (M.1 609) l3) ∧ l2 + pu_ones (pu_pa (M.1 613) (M.1 609) l3) ≤ 2147483647 ∧ nb_W 140 1 [(20, 603), (0, l1), (0, l2 + pu_ones (pu_pa (M.1 613) (M.1 609) l3)), (0, l3 + 1), (0, pu_fo (M.1 609) l3)] [] M Q) ∧ (l1 ≠ 0 → l1 ≠ 1 → l1 ≠ 2 → l1 ≠ 3 → l1 ≠ 4 → (pu_fo (M.1 609) l3 < 2 → pu_Rr (M.1 606) ∧ -2147483648 ≤ l2 + pu_co (M.1 606) l3 ∧ l2 + pu_co (M.1 606) l3 ≤ 2147483647 ∧ nb_W 140 1 [(20, 603), (0, l1), (0, l2 + pu_co (M.1 606) l3), (0, l3 + 1), (0, pu_fo (M.1 609) l3)] [] M Q) ∧ (2 ≤ pu_fo (M.1 609) l3 → nb_W 140 1 [(20, 603), (0, l1), (0, l2), (0, l3 + 1), (0, pu_fo (M.1 609) l3)] [] M Q)))) ∧ (M.1 606 5 ≤ l3 → Q [(0, l2)] M)) :
    nb_W 140 1 [(20, 603), (0, l1), (0, l2), (0, l3), v4] [] M Q := by
  replace H := nb_Hw H
  obtain ⟨p0_, p1_, H⟩ := H
  replace H := nb_Hw H
  have E1 : nb_rd M 603 15 = 606 := W.m15
  have N2 : nb_ln M 606 = 347 := W.lk (by decide) (by decide +kernel)
  have E3 : nb_rd M 606 5 = M.1 606 5 := nb_rd_1 _ _ _
  refine nb_Wg (q_m_sumOf_1 _ _ _ _ _ _ (by omega) (by rw [E1]; first | done | omega) (by omega) (by rw [E1, N2]; first | done | omega)) ?_
  simp only [E1, E3]
  clear E1 N2 E3
  refine nb_Gi (fun c44 => ?_) (fun c44 => ?_)
  · have H := nb_Hw ((nb_Hu H).1 c44)
    refine nb_Gr ?_
    refine nb_Wg (q_m_sumOf_2 _ _ _ _ _ _ (by omega)) ?_
    rw [show nb_R nb_P 135 0 [(20, 603), (0, l3)] [] M = some ([(0, pu_fo (M.1 609) l3)], M) from sp_m_fateOf W (by omega)]
    refine nb_Gp ?_
    show nb_W 140 3 [(20, 603), (0, l1), (0, l2), (0, l3), v4] [(0, pu_fo (M.1 609) l3)] M _
    have E4 : nb_rd M 603 18 = 609 := W.m18
    refine nb_Wg (q_m_sumOf_3 _ _ _ _ _ _ _ (by omega)) ?_
    simp only [E4]
    clear E4
    refine nb_Gb ?_
    have E5 : nb_mul 8 l3 = 8 * l3 := nb_mul_eq (by omega) (by omega)
    have E6 : nb_add 12 (8 * l3) = 12 + 8 * l3 := (nb_add_eq (x := 12) (y := 8 * l3) (by omega) (by omega)).trans (by omega)
    have E7 : nb_add (12 + 8 * l3) 0 = 12 + 8 * l3 := (nb_add_eq (x := 12 + 8 * l3) (y := 0) (by omega) (by omega)).trans (by omega)
    have N8 : nb_ln M 609 = 108 := W.lk (by decide) (by decide +kernel)
    have E9 : nb_rd M 609 (12 + 8 * l3) = M.1 609 (12 + 8 * l3) := nb_rd_1 _ _ _
    refine nb_Wg (q_m_its_0 _ _ _ _ (by omega) (by rw [E5, E6, E7]; first | done | omega) (by rw [E5, E6, E7, N8]; first | done | omega)) ?_
    simp only [E5, E6, E7, E9]
    clear E5 E6 E7 N8 E9
    refine nb_Gs ?_
    show nb_W 140 4 [(20, 603), (0, l1), (0, l2), (0, l3), (0, pu_fo (M.1 609) l3)] [(0, M.1 609 (12 + 8 * l3))] M _
    refine nb_Wg (q_m_sumOf_4 _ _ _ _ _ _ _) ?_
    refine nb_Gi (fun c43 => ?_) (fun c43 => ?_)
    · have H := nb_Hw ((nb_Hu H).1 c43)
      refine nb_Gr ?_
      refine nb_Wg (q_m_sumOf_5 _ _ _ _ _ _) ?_
      refine nb_Gr ?_
      have E10 : nb_add l3 1 = l3 + 1 := nb_add_eq (by omega) (by omega)
      refine nb_Wg (q_m_sumOf_31 _ _ _ _ _ _) ?_
      simp only [E10]
      clear E10
      refine nb_Gr ?_
      exact nb_Hu H
    · have H := nb_Hw ((nb_Hu H).2 (by omega))
      have c43 : M.1 609 (12 + 8 * l3) ≠ 0 := by omega
      refine nb_Gr ?_
      refine nb_Wg (q_m_sumOf_6 _ _ _ _ _ _) ?_
      refine nb_Gi (fun c16 => ?_) (fun c16 => ?_)
      · have H := nb_Hw ((nb_Hu H).1 c16)
        refine nb_Gr ?_
        refine nb_Wg (q_m_sumOf_7 _ _ _ _ _ _) ?_
        refine nb_Gi (fun c15 => ?_) (fun c15 => ?_)
        · have H := nb_Hw ((nb_Hu H).1 c15)
          refine nb_Gr ?_
          refine nb_Wg (q_m_sumOf_8 _ _ _ _ _ _ _) ?_
          refine nb_Gr ?_
          have E11 : nb_add l2 1 = l2 + 1 := nb_add_eq (by omega) (by omega)
          refine nb_Wg (q_m_sumOf_10 _ _ _ _ _ _ _ _) ?_
          simp only [E11]
          clear E11
          refine nb_Gr ?_
          have E12 : nb_add l3 1 = l3 + 1 := nb_add_eq (by omega) (by omega)
          refine nb_Wg (q_m_sumOf_31 _ _ _ _ _ _) ?_
          simp only [E12]
          clear E12
          refine nb_Gr ?_
          exact nb_Hu H
        · have H := nb_Hw ((nb_Hu H).2 (by omega))
          have c15 : 2 ≤ pu_fo (M.1 609) l3 := by omega
          refine nb_Gr ?_
          refine nb_Wg (q_m_sumOf_9 _ _ _ _ _ _ _) ?_
          refine nb_Gr ?_
          have E13 : nb_add l2 0 = l2 := (nb_add_eq (x := l2) (y := 0) (by omega) (by omega)).trans (by omega)
          refine nb_Wg (q_m_sumOf_10 _ _ _ _ _ _ _ _) ?_
          simp only [E13]
          clear E13
          refine nb_Gr ?_
          have E14 : nb_add l3 1 = l3 + 1 := nb_add_eq (by omega) (by omega)
          refine nb_Wg (q_m_sumOf_31 _ _ _ _ _ _) ?_
          simp only [E14]
          clear E14
          refine nb_Gr ?_
          exact nb_Hu H
      refine nb_Gi (fun c22 => ?_) (fun c22 => ?_)
      · have H := nb_Hw ((nb_Hu H).2.1 c22)
        refine nb_Gr ?_
        refine nb_Wg (q_m_sumOf_11 _ _ _ _ _ _) ?_
        refine nb_Gi (fun c21 => ?_) (fun c21 => ?_)
        · have H := nb_Hw ((nb_Hu H).1 c21)
          refine nb_Gr ?_
          refine nb_Wg (q_m_sumOf_12 _ _ _ _ _ _ _) ?_
          refine nb_Gr ?_
          have E17 : nb_add l2 1 = l2 + 1 := nb_add_eq (by omega) (by omega)
          refine nb_Wg (q_m_sumOf_14 _ _ _ _ _ _ _ _) ?_
          simp only [E17]
          clear E17
          refine nb_Gr ?_
          have E18 : nb_add l3 1 = l3 + 1 := nb_add_eq (by omega) (by omega)
          refine nb_Wg (q_m_sumOf_31 _ _ _ _ _ _) ?_
          simp only [E18]
          clear E18
          refine nb_Gr ?_
          exact nb_Hu H
        · have H := nb_Hw ((nb_Hu H).2 (by omega))
          have c21 : pu_fo (M.1 609) l3 ≠ 2 := by omega
          refine nb_Gr ?_
          refine nb_Wg (q_m_sumOf_13 _ _ _ _ _ _ _) ?_
          refine nb_Gr ?_
          have E19 : nb_add l2 0 = l2 := (nb_add_eq (x := l2) (y := 0) (by omega) (by omega)).trans (by omega)
          refine nb_Wg (q_m_sumOf_14 _ _ _ _ _ _ _ _) ?_
          simp only [E19]
          clear E19
          refine nb_Gr ?_
          have E20 : nb_add l3 1 = l3 + 1 := nb_add_eq (by omega) (by omega)
          refine nb_Wg (q_m_sumOf_31 _ _ _ _ _ _) ?_
          simp only [E20]
          clear E20
          refine nb_Gr ?_
          exact nb_Hu H
      refine nb_Gi (fun c28 => ?_) (fun c28 => ?_)
      · have H := nb_Hw ((nb_Hu H).2.2.1 c28)
        refine nb_Gr ?_
        refine nb_Wg (q_m_sumOf_15 _ _ _ _ _ _) ?_
        refine nb_Gi (fun c27 => ?_) (fun c27 => ?_)
        · have H := nb_Hw ((nb_Hu H).1 c27)
          refine nb_Gr ?_
          refine nb_Wg (q_m_sumOf_16 _ _ _ _ _ _ _) ?_
          refine nb_Gr ?_
          have E23 : nb_add l2 1 = l2 + 1 := nb_add_eq (by omega) (by omega)
          refine nb_Wg (q_m_sumOf_18 _ _ _ _ _ _ _ _) ?_
          simp only [E23]
          clear E23
          refine nb_Gr ?_
          have E24 : nb_add l3 1 = l3 + 1 := nb_add_eq (by omega) (by omega)
          refine nb_Wg (q_m_sumOf_31 _ _ _ _ _ _) ?_
          simp only [E24]
          clear E24
          refine nb_Gr ?_
          exact nb_Hu H
        · have H := nb_Hw ((nb_Hu H).2 (by omega))
          have c27 : pu_fo (M.1 609) l3 ≠ 3 := by omega
          refine nb_Gr ?_
          refine nb_Wg (q_m_sumOf_17 _ _ _ _ _ _ _) ?_
          refine nb_Gr ?_
          have E25 : nb_add l2 0 = l2 := (nb_add_eq (x := l2) (y := 0) (by omega) (by omega)).trans (by omega)
          refine nb_Wg (q_m_sumOf_18 _ _ _ _ _ _ _ _) ?_
          simp only [E25]
          clear E25
          refine nb_Gr ?_
          have E26 : nb_add l3 1 = l3 + 1 := nb_add_eq (by omega) (by omega)
          refine nb_Wg (q_m_sumOf_31 _ _ _ _ _ _) ?_
          simp only [E26]
          clear E26
          refine nb_Gr ?_
          exact nb_Hu H
      refine nb_Gi (fun c34 => ?_) (fun c34 => ?_)
      · have H := nb_Hw ((nb_Hu H).2.2.2.1 c34)
        refine nb_Gr ?_
        refine nb_Wg (q_m_sumOf_19 _ _ _ _ _ _) ?_
        refine nb_Gi (fun c33 => ?_) (fun c33 => ?_)
        · have H := nb_Hw ((nb_Hu H).1 c33)
          refine nb_Gr ?_
          refine nb_Wg (q_m_sumOf_20 _ _ _ _ _ _ _) ?_
          refine nb_Gr ?_
          have E29 : nb_add l2 0 = l2 := (nb_add_eq (x := l2) (y := 0) (by omega) (by omega)).trans (by omega)
          refine nb_Wg (q_m_sumOf_22 _ _ _ _ _ _ _ _) ?_
          simp only [E29]
          clear E29
          refine nb_Gr ?_
          have E30 : nb_add l3 1 = l3 + 1 := nb_add_eq (by omega) (by omega)
          refine nb_Wg (q_m_sumOf_31 _ _ _ _ _ _) ?_
          simp only [E30]
          clear E30
          refine nb_Gr ?_
          exact nb_Hu H
        · have H := nb_Hw ((nb_Hu H).2 (by omega))
          have c33 : pu_fo (M.1 609) l3 ≠ 4 := by omega
          refine nb_Gr ?_
          obtain ⟨p0_, p1_, p2_, p3_, H⟩ := H
          replace H := nb_Hw H
          refine nb_Wg (q_m_sumOf_21 _ _ _ _ _ _ _ (by omega)) ?_
          rw [show nb_R nb_P 136 0 [(20, 603), (0, l3), (98, 0)] [] M = some ([(0, pu_wo (M.1 613) (M.1 609) (M.1 603 26) l3)], M) from sp_m_waitOf W (by omega) (by assumption) (by assumption) (by omega)]
          refine nb_Gp ?_
          show nb_W 140 22 [(20, 603), (0, l1), (0, l2), (0, l3), (0, pu_fo (M.1 609) l3)] [(0, pu_wo (M.1 613) (M.1 609) (M.1 603 26) l3), (0, l2)] M _
          obtain ⟨p0_, p1_, H⟩ := H
          replace H := nb_Hw H
          have E31 : nb_add l2 (pu_wo (M.1 613) (M.1 609) (M.1 603 26) l3) = l2 + pu_wo (M.1 613) (M.1 609) (M.1 603 26) l3 := (nb_add_eq (x := l2) (y := pu_wo (M.1 613) (M.1 609) (M.1 603 26) l3) (by omega) (by omega)).trans (by omega)
          refine nb_Wg (q_m_sumOf_22 _ _ _ _ _ _ _ _) ?_
          simp only [E31]
          clear E31
          refine nb_Gr ?_
          have E32 : nb_add l3 1 = l3 + 1 := nb_add_eq (by omega) (by omega)
          refine nb_Wg (q_m_sumOf_31 _ _ _ _ _ _) ?_
          simp only [E32]
          clear E32
          refine nb_Gr ?_
          exact nb_Hu H
      refine nb_Gi (fun c37 => ?_) (fun c37 => ?_)
      · have H := nb_Hw ((nb_Hu H).2.2.2.2.1 c37)
        refine nb_Gr ?_
        obtain ⟨p0_, H⟩ := H
        replace H := nb_Hw H
        refine nb_Wg (q_m_sumOf_23 _ _ _ _ _ _ (by omega)) ?_
        rw [show nb_R nb_P 138 0 [(20, 603), (0, l3), (98, 0), (98, 0), (98, 0), (98, 0), (98, 0)] [] M = some ([(0, pu_pa (M.1 613) (M.1 609) l3)], M) from sp_m_passedOf W (by assumption) (by omega)]
        refine nb_Gp ?_
        show nb_W 140 24 [(20, 603), (0, l1), (0, l2), (0, l3), (0, pu_fo (M.1 609) l3)] [(0, pu_pa (M.1 613) (M.1 609) l3), (0, l2)] M _
        refine nb_Wg (q_m_sumOf_24 _ _ _ _ _ _ _ _) ?_
        rw [show nb_R nb_P 85 0 [(0, pu_pa (M.1 613) (M.1 609) l3), (98, 0), (98, 0)] [] M = some ([(0, pu_ones (pu_pa (M.1 613) (M.1 609) l3))], M) from sp_m_ones]
        refine nb_Gp ?_
        show nb_W 140 25 [(20, 603), (0, l1), (0, l2), (0, l3), (0, pu_fo (M.1 609) l3)] [(0, pu_ones (pu_pa (M.1 613) (M.1 609) l3)), (0, l2)] M _
        obtain ⟨p0_, p1_, H⟩ := H
        replace H := nb_Hw H
        have E35 : nb_add l2 (pu_ones (pu_pa (M.1 613) (M.1 609) l3)) = l2 + pu_ones (pu_pa (M.1 613) (M.1 609) l3) := (nb_add_eq (x := l2) (y := pu_ones (pu_pa (M.1 613) (M.1 609) l3)) (by omega) (by omega)).trans (by omega)
        refine nb_Wg (q_m_sumOf_25 _ _ _ _ _ _ _ _) ?_
        simp only [E35]
        clear E35
        refine nb_Gr ?_
        have E36 : nb_add l3 1 = l3 + 1 := nb_add_eq (by omega) (by omega)
        refine nb_Wg (q_m_sumOf_31 _ _ _ _ _ _) ?_
        simp only [E36]
        clear E36
        refine nb_Gr ?_
        exact nb_Hu H
      have H := nb_Hw ((nb_Hu H).2.2.2.2.2 (by omega) (by omega) (by omega) (by omega) (by omega))
      refine nb_Gr ?_
      refine nb_Wg (q_m_sumOf_26 _ _ _ _ _ _) ?_
      refine nb_Gi (fun c42 => ?_) (fun c42 => ?_)
      · have H := nb_Hw ((nb_Hu H).1 c42)
        refine nb_Gr ?_
        obtain ⟨p0_, H⟩ := H
        replace H := nb_Hw H
        refine nb_Wg (q_m_sumOf_27 _ _ _ _ _ _ _ (by omega)) ?_
        rw [show nb_R nb_P 141 0 [(20, 603), (0, l3), (98, 0), (98, 0)] [] M = some ([(0, pu_co (M.1 606) l3)], M) from sp_m_costsOf W (by assumption) (by omega)]
        refine nb_Gp ?_
        show nb_W 140 28 [(20, 603), (0, l1), (0, l2), (0, l3), (0, pu_fo (M.1 609) l3)] [(0, pu_co (M.1 606) l3), (0, l2)] M _
        refine nb_Wg (q_m_sumOf_28 _ _ _ _ _ _ _ _) ?_
        refine nb_Gr ?_
        obtain ⟨p0_, p1_, H⟩ := H
        replace H := nb_Hw H
        have E38 : nb_add l2 (pu_co (M.1 606) l3) = l2 + pu_co (M.1 606) l3 := (nb_add_eq (x := l2) (y := pu_co (M.1 606) l3) (by omega) (by omega)).trans (by omega)
        refine nb_Wg (q_m_sumOf_30 _ _ _ _ _ _ _ _) ?_
        simp only [E38]
        clear E38
        refine nb_Gr ?_
        have E39 : nb_add l3 1 = l3 + 1 := nb_add_eq (by omega) (by omega)
        refine nb_Wg (q_m_sumOf_31 _ _ _ _ _ _) ?_
        simp only [E39]
        clear E39
        refine nb_Gr ?_
        exact nb_Hu H
      · have H := nb_Hw ((nb_Hu H).2 (by omega))
        have c42 : 2 ≤ pu_fo (M.1 609) l3 := by omega
        refine nb_Gr ?_
        refine nb_Wg (q_m_sumOf_29 _ _ _ _ _ _ _) ?_
        refine nb_Gr ?_
        have E40 : nb_add l2 0 = l2 := (nb_add_eq (x := l2) (y := 0) (by omega) (by omega)).trans (by omega)
        refine nb_Wg (q_m_sumOf_30 _ _ _ _ _ _ _ _) ?_
        simp only [E40]
        clear E40
        refine nb_Gr ?_
        have E41 : nb_add l3 1 = l3 + 1 := nb_add_eq (by omega) (by omega)
        refine nb_Wg (q_m_sumOf_31 _ _ _ _ _ _) ?_
        simp only [E41]
        clear E41
        refine nb_Gr ?_
        exact nb_Hu H
  · have H := nb_Hw ((nb_Hu H).2 (by omega))
    have c44 : M.1 606 5 ≤ l3 := by omega
    refine nb_Gr ?_
    refine nb_Wg (q_m_sumOf_32 _ _ _ _ _ _) ?_
    refine nb_Gs ?_
    exact nb_Hu H
