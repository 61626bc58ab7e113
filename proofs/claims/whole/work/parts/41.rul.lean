/-! rules, printed by wip/gen/mk41.py -/
theorem w_m_nextFor_0 {l1 l2 : Int} {v3 v4 v5 v6 : nb_V} {M : nb_M} {Q : List nb_V → nb_M → Prop} (W : nb_Lay M) (hr0 : l1 ≠ 0) (hr1 : l1 ≠ 1) (hrl : nb_ln M l1 = 108) (H : nb_W 131 1 [(20, 603), (3, l1), (0, l2), (0, (-2)), (0, 0), v5, v6] [] M Q) :
    nb_W 131 0 [(20, 603), (3, l1), (0, l2), v3, v4, v5, v6] [] M Q := by
  replace H := nb_Hw H
  refine nb_Wg (q_m_nextFor_0 _ _ _ _ _ _ _ _) ?_
  refine nb_Gr ?_
  exact nb_Hu H

theorem w_m_nextFor_1 {l1 l2 l3 l4 : Int} {v5 v6 : nb_V} {M : nb_M} {Q : List nb_V → nb_M → Prop} (W : nb_Lay M) (hr0 : l1 ≠ 0) (hr1 : l1 ≠ 1) (hrl : nb_ln M l1 = 108) (b0_ : 0 ≤ l2 ∧ l2 ≤ 3) (b1_ : (-2) ≤ l3 ∧ l3 ≤ 9) (b2_ : 0 ≤ l4 ∧ l4 ≤ 10) (b3_ : 0 ≤ M.1 606 5 ∧ M.1 606 5 ≤ 10) (H : (l4 < M.1 606 5 → (M.1 l1 (12 + 8 * l4) = 1 → (M.1 l1 (12 + 8 * l4 + 1) < M.1 612 (6 * l2 + 2) → nb_W 131 1 [(20, 603), (3, l1), (0, l2), (0, l3), (0, l4 + 1), v5, v6] [] M Q) ∧ (M.1 612 (6 * l2 + 2) ≤ M.1 l1 (12 + 8 * l4 + 1) → (M.1 612 (6 * l2 + 3) < M.1 l1 (12 + 8 * l4 + 1) → nb_W 131 1 [(20, 603), (3, l1), (0, l2), (0, l3), (0, l4 + 1), v5, v6] [] M Q) ∧ (M.1 l1 (12 + 8 * l4 + 1) ≤ M.1 612 (6 * l2 + 3) → (l3 = (-2) → nb_W 131 1 [(20, 603), (3, l1), (0, l2), (0, l4), (0, l4 + 1), v5, v6] [] M Q) ∧ (l3 ≠ (-2) → pu_Rw (M.1 l1) ∧ 0 ≤ l4 ∧ l4 ≤ 9 ∧ 0 ≤ l3 ∧ l3 ≤ 9 ∧ (pu_tn (M.1 612) (M.1 613) (M.1 l1) l2 l4 < pu_tn (M.1 612) (M.1 613) (M.1 l1) l2 l3 → nb_W 131 1 [(20, 603), (3, l1), (0, l2), (0, l4), (0, l4 + 1), (0, pu_tn (M.1 612) (M.1 613) (M.1 l1) l2 l4), (0, pu_tn (M.1 612) (M.1 613) (M.1 l1) l2 l3)] [] M Q) ∧ (pu_tn (M.1 612) (M.1 613) (M.1 l1) l2 l3 ≤ pu_tn (M.1 612) (M.1 613) (M.1 l1) l2 l4 → (pu_tn (M.1 612) (M.1 613) (M.1 l1) l2 l4 = pu_tn (M.1 612) (M.1 613) (M.1 l1) l2 l3 → 0 ≤ 7 * l3 + 2 ∧ 7 * l3 + 2 < 70 ∧ (M.1 613 (7 * l4 + 2) < M.1 613 (7 * l3 + 2) → nb_W 131 1 [(20, 603), (3, l1), (0, l2), (0, l4), (0, l4 + 1), (0, pu_tn (M.1 612) (M.1 613) (M.1 l1) l2 l4), (0, pu_tn (M.1 612) (M.1 613) (M.1 l1) l2 l3)] [] M Q) ∧ (M.1 613 (7 * l3 + 2) ≤ M.1 613 (7 * l4 + 2) → nb_W 131 1 [(20, 603), (3, l1), (0, l2), (0, l3), (0, l4 + 1), (0, pu_tn (M.1 612) (M.1 613) (M.1 l1) l2 l4), (0, pu_tn (M.1 612) (M.1 613) (M.1 l1) l2 l3)] [] M Q)) ∧ (pu_tn (M.1 612) (M.1 613) (M.1 l1) l2 l4 ≠ pu_tn (M.1 612) (M.1 613) (M.1 l1) l2 l3 → nb_W 131 1 [(20, 603), (3, l1), (0, l2), (0, l3), (0, l4 + 1), (0, pu_tn (M.1 612) (M.1 613) (M.1 l1) l2 l4), (0, pu_tn (M.1 612) (M.1 613) (M.1 l1) l2 l3)] [] M Q)))))) ∧ (M.1 l1 (12 + 8 * l4) ≠ 1 → nb_W 131 1 [(20, 603), (3, l1), (0, l2), (0, l3), (0, l4 + 1), v5, v6] [] M Q)) ∧ (M.1 606 5 ≤ l4 → Q [(0, l3)] M)) :
    nb_W 131 1 [(20, 603), (3, l1), (0, l2), (0, l3), (0, l4), v5, v6] [] M Q := by
  replace H := nb_Hw H
  have E1 : nb_rd M 603 15 = 606 := W.m15
  have N2 : nb_ln M 606 = 347 := W.lk (by decide) (by decide +kernel)
  have E3 : nb_rd M 606 5 = M.1 606 5 := nb_rd_1 _ _ _
  refine nb_Wg (q_m_nextFor_1 _ _ _ _ _ _ _ _ (by omega) (by rw [E1]; first | done | omega) (by omega) (by rw [E1, N2]; first | done | omega)) ?_
  simp only [E1, E3]
  clear E1 N2 E3
  refine nb_Gi (fun c54 => ?_) (fun c54 => ?_)
  · have H := nb_Hw ((nb_Hu H).1 c54)
    refine nb_Gr ?_
    refine nb_Wg (q_m_nextFor_2 _ _ _ _ _ _ _ _) ?_
    refine nb_Gb ?_
    refine nb_Wg (q_m_isWaiting_0 _ _ _) ?_
    refine nb_Gb ?_
    have E4 : nb_mul 8 l4 = 8 * l4 := nb_mul_eq (by omega) (by omega)
    have E5 : nb_add 12 (8 * l4) = 12 + 8 * l4 := (nb_add_eq (x := 12) (y := 8 * l4) (by omega) (by omega)).trans (by omega)
    have E6 : nb_add (12 + 8 * l4) 0 = 12 + 8 * l4 := (nb_add_eq (x := 12 + 8 * l4) (y := 0) (by omega) (by omega)).trans (by omega)
    have N7 : nb_ln M l1 = 108 := hrl
    have E8 : nb_rd M l1 (12 + 8 * l4) = M.1 l1 (12 + 8 * l4) := nb_rd_1 _ _ _
    refine nb_Wg (q_m_its_0 _ _ _ _ (by omega) (by rw [E4, E5, E6]; first | done | omega) (by rw [E4, E5, E6, N7]; first | done | omega)) ?_
    simp only [E4, E5, E6, E8]
    clear E4 E5 E6 N7 E8
    refine nb_Gs ?_
    show nb_W 126 1 [(3, l1), (0, l4)] [(0, M.1 l1 (12 + 8 * l4))] M _
    refine nb_Wg (q_m_isWaiting_1 _ _ _ _) ?_
    refine nb_Gi (fun c53 => ?_) (fun c53 => ?_)
    · have H := nb_Hw ((nb_Hu H).1 c53)
      refine nb_Gr ?_
      refine nb_Wg (q_m_isWaiting_2 _ _ _) ?_
      refine nb_Gr ?_
      have E9 : nb_i2z 1 = 1 := by decide
      refine nb_Wg (q_m_isWaiting_4 _ _ _ _) ?_
      simp only [E9]
      clear E9
      refine nb_Gs ?_
      show nb_W 131 3 [(20, 603), (3, l1), (0, l2), (0, l3), (0, l4), v5, v6] [(0, 1)] M _
      refine nb_Wg (q_m_nextFor_3 _ _ _ _ _ _ _ _ _) ?_
      refine nb_Gf (by decide) ?_
      refine nb_Gr ?_
      refine nb_Wg (q_m_nextFor_4 _ _ _ _ _ _ _ _) ?_
      refine nb_Gb ?_
      have E10 : nb_mul 8 l4 = 8 * l4 := nb_mul_eq (by omega) (by omega)
      have E11 : nb_add 12 (8 * l4) = 12 + 8 * l4 := (nb_add_eq (x := 12) (y := 8 * l4) (by omega) (by omega)).trans (by omega)
      have E12 : nb_add (12 + 8 * l4) 1 = 12 + 8 * l4 + 1 := nb_add_eq (by omega) (by omega)
      have N13 : nb_ln M l1 = 108 := hrl
      have E14 : nb_rd M l1 (12 + 8 * l4 + 1) = M.1 l1 (12 + 8 * l4 + 1) := nb_rd_1 _ _ _
      refine nb_Wg (q_m_its_0 _ _ _ _ (by omega) (by rw [E10, E11, E12]; first | done | omega) (by rw [E10, E11, E12, N13]; first | done | omega)) ?_
      simp only [E10, E11, E12, E14]
      clear E10 E11 E12 N13 E14
      refine nb_Gs ?_
      show nb_W 131 5 [(20, 603), (3, l1), (0, l2), (0, l3), (0, l4), v5, v6] [(0, M.1 l1 (12 + 8 * l4 + 1))] M _
      have E15 : nb_rd M 603 23 = 612 := W.m23
      have E16 : nb_mul 6 l2 = 6 * l2 := nb_mul_eq (by omega) (by omega)
      have E17 : nb_add (6 * l2) 2 = 6 * l2 + 2 := nb_add_eq (by omega) (by omega)
      have N18 : nb_ln M 612 = 24 := W.lk (by decide) (by decide +kernel)
      have E19 : nb_rd M 612 (6 * l2 + 2) = M.1 612 (6 * l2 + 2) := nb_rd_1 _ _ _
      have E20 : nb_rd M 603 23 = 612 := W.m23
      have E21 : nb_mul 6 l2 = 6 * l2 := nb_mul_eq (by omega) (by omega)
      have E22 : nb_add (6 * l2) 3 = 6 * l2 + 3 := nb_add_eq (by omega) (by omega)
      have N23 : nb_ln M 612 = 24 := W.lk (by decide) (by decide +kernel)
      have E24 : nb_rd M 612 (6 * l2 + 3) = M.1 612 (6 * l2 + 3) := nb_rd_1 _ _ _
      refine nb_Wg (q_m_nextFor_5 _ _ _ _ _ _ _ _ _ (by omega) (by rw [E15]; first | done | omega) (by rw [E16, E17]; first | done | omega) (by rw [E16, E17, E15, N18]; first | done | omega) (by rw [E21, E22]; first | done | omega) (by rw [E21, E22, E20, N23]; first | done | omega)) ?_
      simp only [E15, E16, E17, E19, E20, E21, E22, E24]
      clear E15 E16 E17 N18 E19 E20 E21 E22 N23 E24
      refine nb_Gb ?_
      refine nb_Wg (q_m_within_0 _ _ _ _) ?_
      refine nb_Gi (fun c50 => ?_) (fun c50 => ?_)
      · have H := nb_Hw ((nb_Hu H).1 c50)
        refine nb_Gr ?_
        refine nb_Wg (q_m_within_3 _ _ _ _) ?_
        refine nb_Gr ?_
        have E25 : nb_i2z 0 = 0 := by decide
        refine nb_Wg (q_m_within_4 _ _ _ _ _) ?_
        simp only [E25]
        clear E25
        refine nb_Gs ?_
        show nb_W 131 6 [(20, 603), (3, l1), (0, l2), (0, l3), (0, l4), v5, v6] [(0, 0)] M _
        refine nb_Wg (q_m_nextFor_6 _ _ _ _ _ _ _ _ _) ?_
        refine nb_Gt (by decide) ?_
        refine nb_Gr ?_
        refine nb_Wg (q_m_nextFor_7 _ _ _ _ _ _ _ _) ?_
        refine nb_Gr ?_
        have E26 : nb_add l4 1 = l4 + 1 := nb_add_eq (by omega) (by omega)
        refine nb_Wg (q_m_nextFor_18 _ _ _ _ _ _ _ _) ?_
        simp only [E26]
        clear E26
        refine nb_Gr ?_
        exact nb_Hu H
      · have H := nb_Hw ((nb_Hu H).2 (by omega))
        have c50 : M.1 612 (6 * l2 + 2) ≤ M.1 l1 (12 + 8 * l4 + 1) := by omega
        refine nb_Gr ?_
        refine nb_Wg (q_m_within_1 _ _ _ _) ?_
        refine nb_Gi (fun c49 => ?_) (fun c49 => ?_)
        · have H := nb_Hw ((nb_Hu H).1 c49)
          refine nb_Gr ?_
          refine nb_Wg (q_m_within_3 _ _ _ _) ?_
          refine nb_Gr ?_
          have E27 : nb_i2z 0 = 0 := by decide
          refine nb_Wg (q_m_within_4 _ _ _ _ _) ?_
          simp only [E27]
          clear E27
          refine nb_Gs ?_
          show nb_W 131 6 [(20, 603), (3, l1), (0, l2), (0, l3), (0, l4), v5, v6] [(0, 0)] M _
          refine nb_Wg (q_m_nextFor_6 _ _ _ _ _ _ _ _ _) ?_
          refine nb_Gt (by decide) ?_
          refine nb_Gr ?_
          refine nb_Wg (q_m_nextFor_7 _ _ _ _ _ _ _ _) ?_
          refine nb_Gr ?_
          have E28 : nb_add l4 1 = l4 + 1 := nb_add_eq (by omega) (by omega)
          refine nb_Wg (q_m_nextFor_18 _ _ _ _ _ _ _ _) ?_
          simp only [E28]
          clear E28
          refine nb_Gr ?_
          exact nb_Hu H
        · have H := nb_Hw ((nb_Hu H).2 (by omega))
          have c49 : M.1 l1 (12 + 8 * l4 + 1) ≤ M.1 612 (6 * l2 + 3) := by omega
          refine nb_Gr ?_
          refine nb_Wg (q_m_within_2 _ _ _ _) ?_
          refine nb_Gr ?_
          have E29 : nb_i2z 1 = 1 := by decide
          refine nb_Wg (q_m_within_4 _ _ _ _ _) ?_
          simp only [E29]
          clear E29
          refine nb_Gs ?_
          show nb_W 131 6 [(20, 603), (3, l1), (0, l2), (0, l3), (0, l4), v5, v6] [(0, 1)] M _
          refine nb_Wg (q_m_nextFor_6 _ _ _ _ _ _ _ _ _) ?_
          refine nb_Gf (by decide) ?_
          refine nb_Gr ?_
          refine nb_Wg (q_m_nextFor_8 _ _ _ _ _ _ _ _) ?_
          refine nb_Gi (fun c48 => ?_) (fun c48 => ?_)
          · have H := nb_Hw ((nb_Hu H).1 c48)
            refine nb_Gr ?_
            refine nb_Wg (q_m_nextFor_9 _ _ _ _ _ _ _ _) ?_
            refine nb_Gr ?_
            have E30 : nb_add l4 1 = l4 + 1 := nb_add_eq (by omega) (by omega)
            refine nb_Wg (q_m_nextFor_18 _ _ _ _ _ _ _ _) ?_
            simp only [E30]
            clear E30
            refine nb_Gr ?_
            exact nb_Hu H
          · have H := nb_Hw ((nb_Hu H).2 (by omega))
            have c48 : l3 ≠ (-2) := by omega
            refine nb_Gr ?_
            obtain ⟨p0_, p1_, p2_, H⟩ := H
            replace H := nb_Hw H
            refine nb_Wg (q_m_nextFor_10 _ _ _ _ _ _ _ _ (by omega)) ?_
            rw [show nb_R nb_P 130 0 [(20, 603), (3, l1), (0, l2), (0, l4), (98, 0), (98, 0)] [] M = some ([(0, pu_tn (M.1 612) (M.1 613) (M.1 l1) l2 l4)], M) from sp_m_turn W (by omega) (by omega) (by first | assumption | exact hrl) (by assumption) (by omega) (by omega)]
            refine nb_Gp ?_
            show nb_W 131 11 [(20, 603), (3, l1), (0, l2), (0, l3), (0, l4), v5, v6] [(0, pu_tn (M.1 612) (M.1 613) (M.1 l1) l2 l4)] M _
            obtain ⟨p0_, p1_, H⟩ := H
            replace H := nb_Hw H
            refine nb_Wg (q_m_nextFor_11 _ _ _ _ _ _ _ _ _ (by omega)) ?_
            rw [show nb_R nb_P 130 0 [(20, 603), (3, l1), (0, l2), (0, l3), (98, 0), (98, 0)] [] M = some ([(0, pu_tn (M.1 612) (M.1 613) (M.1 l1) l2 l3)], M) from sp_m_turn W (by omega) (by omega) (by first | assumption | exact hrl) (by assumption) (by omega) (by omega)]
            refine nb_Gp ?_
            show nb_W 131 12 [(20, 603), (3, l1), (0, l2), (0, l3), (0, l4), (0, pu_tn (M.1 612) (M.1 613) (M.1 l1) l2 l4), v6] [(0, pu_tn (M.1 612) (M.1 613) (M.1 l1) l2 l3)] M _
            refine nb_Wg (q_m_nextFor_12 _ _ _ _ _ _ _ _ _) ?_
            refine nb_Gi (fun c47 => ?_) (fun c47 => ?_)
            · have H := nb_Hw ((nb_Hu H).1 c47)
              refine nb_Gr ?_
              refine nb_Wg (q_m_nextFor_17 _ _ _ _ _ _ _ _) ?_
              refine nb_Gr ?_
              have E31 : nb_add l4 1 = l4 + 1 := nb_add_eq (by omega) (by omega)
              refine nb_Wg (q_m_nextFor_18 _ _ _ _ _ _ _ _) ?_
              simp only [E31]
              clear E31
              refine nb_Gr ?_
              exact nb_Hu H
            · have H := nb_Hw ((nb_Hu H).2 (by omega))
              have c47 : pu_tn (M.1 612) (M.1 613) (M.1 l1) l2 l3 ≤ pu_tn (M.1 612) (M.1 613) (M.1 l1) l2 l4 := by omega
              refine nb_Gr ?_
              refine nb_Wg (q_m_nextFor_13 _ _ _ _ _ _ _ _) ?_
              refine nb_Gi (fun c46 => ?_) (fun c46 => ?_)
              · have H := nb_Hw ((nb_Hu H).1 c46)
                refine nb_Gr ?_
                refine nb_Wg (q_m_nextFor_14 _ _ _ _ _ _ _ _ (by omega)) ?_
                refine nb_Gb ?_
                have E32 : nb_rd M 603 24 = 613 := W.m24
                have E33 : nb_mul 7 l4 = 7 * l4 := nb_mul_eq (by omega) (by omega)
                have E34 : nb_add (7 * l4) 2 = 7 * l4 + 2 := nb_add_eq (by omega) (by omega)
                have N35 : nb_ln M 613 = 70 := W.lk (by decide) (by decide +kernel)
                have E36 : nb_rd M 613 (7 * l4 + 2) = M.1 613 (7 * l4 + 2) := nb_rd_1 _ _ _
                refine nb_Wg (q_m_man_0 _ _ _ _ (by omega) (by rw [E32]; first | done | omega) (by rw [E33, E34]; first | done | omega) (by rw [E33, E34, E32, N35]; first | done | omega)) ?_
                simp only [E32, E33, E34, E36]
                clear E32 E33 E34 N35 E36
                refine nb_Gs ?_
                show nb_W 131 15 [(20, 603), (3, l1), (0, l2), (0, l3), (0, l4), (0, pu_tn (M.1 612) (M.1 613) (M.1 l1) l2 l4), (0, pu_tn (M.1 612) (M.1 613) (M.1 l1) l2 l3)] [(0, M.1 613 (7 * l4 + 2))] M _
                refine nb_Wg (q_m_nextFor_15 _ _ _ _ _ _ _ _ _ (by omega)) ?_
                refine nb_Gb ?_
                obtain ⟨p0_, p1_, H⟩ := H
                replace H := nb_Hw H
                have E37 : nb_rd M 603 24 = 613 := W.m24
                have E38 : nb_mul 7 l3 = 7 * l3 := nb_mul_eq (by omega) (by omega)
                have E39 : nb_add (7 * l3) 2 = 7 * l3 + 2 := nb_add_eq (by omega) (by omega)
                have N40 : nb_ln M 613 = 70 := W.lk (by decide) (by decide +kernel)
                have E41 : nb_rd M 613 (7 * l3 + 2) = M.1 613 (7 * l3 + 2) := nb_rd_1 _ _ _
                refine nb_Wg (q_m_man_0 _ _ _ _ (by omega) (by rw [E37]; first | done | omega) (by rw [E38, E39]; first | done | omega) (by rw [E38, E39, E37, N40]; first | done | omega)) ?_
                simp only [E37, E38, E39, E41]
                clear E37 E38 E39 N40 E41
                refine nb_Gs ?_
                show nb_W 131 16 [(20, 603), (3, l1), (0, l2), (0, l3), (0, l4), (0, pu_tn (M.1 612) (M.1 613) (M.1 l1) l2 l4), (0, pu_tn (M.1 612) (M.1 613) (M.1 l1) l2 l3)] [(0, M.1 613 (7 * l3 + 2)), (0, M.1 613 (7 * l4 + 2))] M _
                refine nb_Wg (q_m_nextFor_16 _ _ _ _ _ _ _ _ _ _) ?_
                refine nb_Gi (fun c44 => ?_) (fun c44 => ?_)
                · have H := nb_Hw ((nb_Hu H).1 c44)
                  refine nb_Gr ?_
                  refine nb_Wg (q_m_nextFor_17 _ _ _ _ _ _ _ _) ?_
                  refine nb_Gr ?_
                  have E42 : nb_add l4 1 = l4 + 1 := nb_add_eq (by omega) (by omega)
                  refine nb_Wg (q_m_nextFor_18 _ _ _ _ _ _ _ _) ?_
                  simp only [E42]
                  clear E42
                  refine nb_Gr ?_
                  exact nb_Hu H
                · have H := nb_Hw ((nb_Hu H).2 (by omega))
                  have c44 : M.1 613 (7 * l3 + 2) ≤ M.1 613 (7 * l4 + 2) := by omega
                  refine nb_Gr ?_
                  have E43 : nb_add l4 1 = l4 + 1 := nb_add_eq (by omega) (by omega)
                  refine nb_Wg (q_m_nextFor_18 _ _ _ _ _ _ _ _) ?_
                  simp only [E43]
                  clear E43
                  refine nb_Gr ?_
                  exact nb_Hu H
              · have H := nb_Hw ((nb_Hu H).2 (by omega))
                have c46 : pu_tn (M.1 612) (M.1 613) (M.1 l1) l2 l4 ≠ pu_tn (M.1 612) (M.1 613) (M.1 l1) l2 l3 := by omega
                refine nb_Gr ?_
                have E45 : nb_add l4 1 = l4 + 1 := nb_add_eq (by omega) (by omega)
                refine nb_Wg (q_m_nextFor_18 _ _ _ _ _ _ _ _) ?_
                simp only [E45]
                clear E45
                refine nb_Gr ?_
                exact nb_Hu H
    · have H := nb_Hw ((nb_Hu H).2 (by omega))
      have c53 : M.1 l1 (12 + 8 * l4) ≠ 1 := by omega
      refine nb_Gr ?_
      refine nb_Wg (q_m_isWaiting_3 _ _ _) ?_
      refine nb_Gr ?_
      have E51 : nb_i2z 0 = 0 := by decide
      refine nb_Wg (q_m_isWaiting_4 _ _ _ _) ?_
      simp only [E51]
      clear E51
      refine nb_Gs ?_
      show nb_W 131 3 [(20, 603), (3, l1), (0, l2), (0, l3), (0, l4), v5, v6] [(0, 0)] M _
      refine nb_Wg (q_m_nextFor_3 _ _ _ _ _ _ _ _ _) ?_
      refine nb_Gt (by decide) ?_
      refine nb_Gr ?_
      have E52 : nb_add l4 1 = l4 + 1 := nb_add_eq (by omega) (by omega)
      refine nb_Wg (q_m_nextFor_18 _ _ _ _ _ _ _ _) ?_
      simp only [E52]
      clear E52
      refine nb_Gr ?_
      exact nb_Hu H
  · have H := nb_Hw ((nb_Hu H).2 (by omega))
    have c54 : M.1 606 5 ≤ l4 := by omega
    refine nb_Gr ?_
    refine nb_Wg (q_m_nextFor_19 _ _ _ _ _ _ _ _) ?_
    refine nb_Gs ?_
    exact nb_Hu H
