/-! rules, printed by wip/gen -/
theorem w_m_pushedOf_0 {l1 : Int} {v2 v3 : nb_V} {M : nb_M} {Q : List nb_V → nb_M → Prop} (W : nb_Lay M)  (b0_ : 0 ≤ l1 ∧ l1 ≤ 9) (H : (M.1 609 (12 + 8 * l1 + 4) = (-2) → Q [(0, 0)] M) ∧ (M.1 609 (12 + 8 * l1 + 4) ≠ (-2) → nb_W 139 4 [(20, 603), (0, l1), (0, 0), (0, 0)] [] M Q)) :
    nb_W 139 0 [(20, 603), (0, l1), v2, v3] [] M Q := by
  replace H := nb_Hw H
  have E1 : nb_rd M 603 18 = 609 := W.m18
  refine nb_Wg (q_m_pushedOf_0 _ _ _ _ _ (by omega)) ?_
  simp only [E1]
  clear E1
  refine nb_Gb ?_
  have E2 : nb_mul 8 l1 = 8 * l1 := nb_mul_eq (by omega) (by omega)
  have E3 : nb_add 12 (8 * l1) = 12 + 8 * l1 := (nb_add_eq (x := 12) (y := 8 * l1) (by omega) (by omega)).trans (by omega)
  have E4 : nb_add (12 + 8 * l1) 4 = 12 + 8 * l1 + 4 := nb_add_eq (by omega) (by omega)
  have N5 : nb_ln M 609 = 108 := W.lk (by decide) (by decide +kernel)
  have E6 : nb_rd M 609 (12 + 8 * l1 + 4) = M.1 609 (12 + 8 * l1 + 4) := nb_rd_1 _ _ _
  refine nb_Wg (q_m_its_0 _ _ _ _ (by omega) (by rw [E2, E3, E4]; first | done | omega) (by rw [E2, E3, E4, N5]; first | done | omega)) ?_
  simp only [E2, E3, E4, E6]
  clear E2 E3 E4 N5 E6
  refine nb_Gs ?_
  show nb_W 139 1 [(20, 603), (0, l1), (0, 0), v3] [(0, M.1 609 (12 + 8 * l1 + 4))] M _
  refine nb_Wg (q_m_pushedOf_1 _ _ _ _ _ _) ?_
  refine nb_Gi (fun c7 => ?_) (fun c7 => ?_)
  · have H := nb_Hw ((nb_Hu H).1 c7)
    refine nb_Gr ?_
    refine nb_Wg (q_m_pushedOf_2 _ _ _ _ _) ?_
    refine nb_Gs ?_
    exact nb_Hu H
  · have H := nb_Hw ((nb_Hu H).2 (by omega))
    have c7 : M.1 609 (12 + 8 * l1 + 4) ≠ (-2) := by omega
    refine nb_Gr ?_
    refine nb_Wg (q_m_pushedOf_3 _ _ _ _ _) ?_
    refine nb_Gr ?_
    exact nb_Hu H

theorem w_m_pushedOf_4 {l1 l2 l3 : Int} {M : nb_M} {Q : List nb_V → nb_M → Prop} (W : nb_Lay M)  (b0_ : 0 ≤ l1 ∧ l1 ≤ 9) (b1_ : 0 ≤ l3 ∧ l3 ≤ 10) (H : 0 ≤ M.1 606 5 ∧ M.1 606 5 ≤ 10 ∧ (l3 < M.1 606 5 → (l3 = l1 → nb_W 139 4 [(20, 603), (0, l1), (0, l2), (0, l3 + 1)] [] M Q) ∧ (l3 ≠ l1 → (M.1 613 (7 * l3 + 2) < M.1 613 (7 * l1 + 2) → pu_Rw (M.1 609) ∧ (nb_and (nb_shr (pu_pa (M.1 613) (M.1 609) l3) l1) 1 = 1 → nb_W 139 4 [(20, 603), (0, l1), (0, nb_or l2 (nb_shl 1 l3)), (0, l3 + 1)] [] M Q) ∧ (nb_and (nb_shr (pu_pa (M.1 613) (M.1 609) l3) l1) 1 ≠ 1 → nb_W 139 4 [(20, 603), (0, l1), (0, l2), (0, l3 + 1)] [] M Q)) ∧ (M.1 613 (7 * l1 + 2) ≤ M.1 613 (7 * l3 + 2) → (M.1 613 (7 * l1 + 2) = M.1 613 (7 * l3 + 2) → (l3 < l1 → pu_Rw (M.1 609) ∧ (nb_and (nb_shr (pu_pa (M.1 613) (M.1 609) l3) l1) 1 = 1 → nb_W 139 4 [(20, 603), (0, l1), (0, nb_or l2 (nb_shl 1 l3)), (0, l3 + 1)] [] M Q) ∧ (nb_and (nb_shr (pu_pa (M.1 613) (M.1 609) l3) l1) 1 ≠ 1 → nb_W 139 4 [(20, 603), (0, l1), (0, l2), (0, l3 + 1)] [] M Q)) ∧ (l1 ≤ l3 → nb_W 139 4 [(20, 603), (0, l1), (0, l2), (0, l3 + 1)] [] M Q)) ∧ (M.1 613 (7 * l1 + 2) ≠ M.1 613 (7 * l3 + 2) → nb_W 139 4 [(20, 603), (0, l1), (0, l2), (0, l3 + 1)] [] M Q)))) ∧ (M.1 606 5 ≤ l3 → Q [(0, l2)] M)) :
    nb_W 139 4 [(20, 603), (0, l1), (0, l2), (0, l3)] [] M Q := by
  replace H := nb_Hw H
  obtain ⟨p0_, p1_, H⟩ := H
  replace H := nb_Hw H
  have E1 : nb_rd M 603 15 = 606 := W.m15
  have N2 : nb_ln M 606 = 347 := W.lk (by decide) (by decide +kernel)
  have E3 : nb_rd M 606 5 = M.1 606 5 := nb_rd_1 _ _ _
  refine nb_Wg (q_m_pushedOf_4 _ _ _ _ _ (by omega) (by rw [E1]; first | done | omega) (by omega) (by rw [E1, N2]; first | done | omega)) ?_
  simp only [E1, E3]
  clear E1 N2 E3
  refine nb_Gi (fun c45 => ?_) (fun c45 => ?_)
  · have H := nb_Hw ((nb_Hu H).1 c45)
    refine nb_Gr ?_
    refine nb_Wg (q_m_pushedOf_5 _ _ _ _ _) ?_
    refine nb_Gi (fun c44 => ?_) (fun c44 => ?_)
    · have H := nb_Hw ((nb_Hu H).1 c44)
      refine nb_Gr ?_
      have E4 : nb_add l3 1 = l3 + 1 := nb_add_eq (by omega) (by omega)
      refine nb_Wg (q_m_pushedOf_12 _ _ _ _ _) ?_
      simp only [E4]
      clear E4
      refine nb_Gr ?_
      exact nb_Hu H
    · have H := nb_Hw ((nb_Hu H).2 (by omega))
      have c44 : l3 ≠ l1 := by omega
      refine nb_Gr ?_
      refine nb_Wg (q_m_pushedOf_6 _ _ _ _ _ (by omega)) ?_
      refine nb_Gb ?_
      refine nb_Wg (q_m_isBehind_0 _ _ _ _ (by omega)) ?_
      refine nb_Gb ?_
      have E5 : nb_rd M 603 24 = 613 := W.m24
      have E6 : nb_mul 7 l1 = 7 * l1 := nb_mul_eq (by omega) (by omega)
      have E7 : nb_add (7 * l1) 2 = 7 * l1 + 2 := nb_add_eq (by omega) (by omega)
      have N8 : nb_ln M 613 = 70 := W.lk (by decide) (by decide +kernel)
      have E9 : nb_rd M 613 (7 * l1 + 2) = M.1 613 (7 * l1 + 2) := nb_rd_1 _ _ _
      refine nb_Wg (q_m_man_0 _ _ _ _ (by omega) (by rw [E5]; first | done | omega) (by rw [E6, E7]; first | done | omega) (by rw [E6, E7, E5, N8]; first | done | omega)) ?_
      simp only [E5, E6, E7, E9]
      clear E5 E6 E7 N8 E9
      refine nb_Gs ?_
      show nb_W 137 1 [(20, 603), (0, l1), (0, l3)] [(0, M.1 613 (7 * l1 + 2))] M _
      refine nb_Wg (q_m_isBehind_1 _ _ _ _ _ (by omega)) ?_
      refine nb_Gb ?_
      have E10 : nb_rd M 603 24 = 613 := W.m24
      have E11 : nb_mul 7 l3 = 7 * l3 := nb_mul_eq (by omega) (by omega)
      have E12 : nb_add (7 * l3) 2 = 7 * l3 + 2 := nb_add_eq (by omega) (by omega)
      have N13 : nb_ln M 613 = 70 := W.lk (by decide) (by decide +kernel)
      have E14 : nb_rd M 613 (7 * l3 + 2) = M.1 613 (7 * l3 + 2) := nb_rd_1 _ _ _
      refine nb_Wg (q_m_man_0 _ _ _ _ (by omega) (by rw [E10]; first | done | omega) (by rw [E11, E12]; first | done | omega) (by rw [E11, E12, E10, N13]; first | done | omega)) ?_
      simp only [E10, E11, E12, E14]
      clear E10 E11 E12 N13 E14
      refine nb_Gs ?_
      show nb_W 137 2 [(20, 603), (0, l1), (0, l3)] [(0, M.1 613 (7 * l3 + 2)), (0, M.1 613 (7 * l1 + 2))] M _
      refine nb_Wg (q_m_isBehind_2 _ _ _ _ _ _) ?_
      refine nb_Gi (fun c43 => ?_) (fun c43 => ?_)
      · have H := nb_Hw ((nb_Hu H).1 c43)
        refine nb_Gr ?_
        refine nb_Wg (q_m_isBehind_7 _ _ _ _) ?_
        refine nb_Gr ?_
        have E15 : nb_i2z 1 = 1 := by decide
        refine nb_Wg (q_m_isBehind_9 _ _ _ _ _) ?_
        simp only [E15]
        clear E15
        refine nb_Gs ?_
        show nb_W 139 7 [(20, 603), (0, l1), (0, l2), (0, l3)] [(0, 1)] M _
        refine nb_Wg (q_m_pushedOf_7 _ _ _ _ _ _) ?_
        refine nb_Gf (by decide) ?_
        refine nb_Gr ?_
        obtain ⟨p0_, H⟩ := H
        replace H := nb_Hw H
        refine nb_Wg (q_m_pushedOf_8 _ _ _ _ _ (by omega)) ?_
        rw [show nb_R nb_P 138 0 [(20, 603), (0, l3), (98, 0), (98, 0), (98, 0), (98, 0), (98, 0)] [] M = some ([(0, pu_pa (M.1 613) (M.1 609) l3)], M) from sp_m_passedOf W (by assumption) (by omega)]
        refine nb_Gp ?_
        show nb_W 139 9 [(20, 603), (0, l1), (0, l2), (0, l3)] [(0, pu_pa (M.1 613) (M.1 609) l3)] M _
        refine nb_Wg (q_m_pushedOf_9 _ _ _ _ _ _) ?_
        refine nb_Gb ?_
        refine nb_Wg (q_m_hasBit_0 _ _ _) ?_
        refine nb_Gi (fun c20 => ?_) (fun c20 => ?_)
        · have H := nb_Hw ((nb_Hu H).1 c20)
          refine nb_Gr ?_
          refine nb_Wg (q_m_hasBit_1 _ _ _) ?_
          refine nb_Gr ?_
          have E16 : nb_i2z 1 = 1 := by decide
          refine nb_Wg (q_m_hasBit_3 _ _ _ _) ?_
          simp only [E16]
          clear E16
          refine nb_Gs ?_
          show nb_W 139 10 [(20, 603), (0, l1), (0, l2), (0, l3)] [(0, 1)] M _
          refine nb_Wg (q_m_pushedOf_10 _ _ _ _ _ _) ?_
          refine nb_Gf (by decide) ?_
          refine nb_Gr ?_
          refine nb_Wg (q_m_pushedOf_11 _ _ _ _ _) ?_
          refine nb_Gr ?_
          have E17 : nb_add l3 1 = l3 + 1 := nb_add_eq (by omega) (by omega)
          refine nb_Wg (q_m_pushedOf_12 _ _ _ _ _) ?_
          simp only [E17]
          clear E17
          refine nb_Gr ?_
          exact nb_Hu H
        · have H := nb_Hw ((nb_Hu H).2 (by omega))
          have c20 : nb_and (nb_shr (pu_pa (M.1 613) (M.1 609) l3) l1) 1 ≠ 1 := by omega
          refine nb_Gr ?_
          refine nb_Wg (q_m_hasBit_2 _ _ _) ?_
          refine nb_Gr ?_
          have E18 : nb_i2z 0 = 0 := by decide
          refine nb_Wg (q_m_hasBit_3 _ _ _ _) ?_
          simp only [E18]
          clear E18
          refine nb_Gs ?_
          show nb_W 139 10 [(20, 603), (0, l1), (0, l2), (0, l3)] [(0, 0)] M _
          refine nb_Wg (q_m_pushedOf_10 _ _ _ _ _ _) ?_
          refine nb_Gt (by decide) ?_
          refine nb_Gr ?_
          have E19 : nb_add l3 1 = l3 + 1 := nb_add_eq (by omega) (by omega)
          refine nb_Wg (q_m_pushedOf_12 _ _ _ _ _) ?_
          simp only [E19]
          clear E19
          refine nb_Gr ?_
          exact nb_Hu H
      · have H := nb_Hw ((nb_Hu H).2 (by omega))
        have c43 : M.1 613 (7 * l1 + 2) ≤ M.1 613 (7 * l3 + 2) := by omega
        refine nb_Gr ?_
        refine nb_Wg (q_m_isBehind_3 _ _ _ _ (by omega)) ?_
        refine nb_Gb ?_
        have E21 : nb_rd M 603 24 = 613 := W.m24
        have E22 : nb_mul 7 l1 = 7 * l1 := nb_mul_eq (by omega) (by omega)
        have E23 : nb_add (7 * l1) 2 = 7 * l1 + 2 := nb_add_eq (by omega) (by omega)
        have N24 : nb_ln M 613 = 70 := W.lk (by decide) (by decide +kernel)
        have E25 : nb_rd M 613 (7 * l1 + 2) = M.1 613 (7 * l1 + 2) := nb_rd_1 _ _ _
        refine nb_Wg (q_m_man_0 _ _ _ _ (by omega) (by rw [E21]; first | done | omega) (by rw [E22, E23]; first | done | omega) (by rw [E22, E23, E21, N24]; first | done | omega)) ?_
        simp only [E21, E22, E23, E25]
        clear E21 E22 E23 N24 E25
        refine nb_Gs ?_
        show nb_W 137 4 [(20, 603), (0, l1), (0, l3)] [(0, M.1 613 (7 * l1 + 2))] M _
        refine nb_Wg (q_m_isBehind_4 _ _ _ _ _ (by omega)) ?_
        refine nb_Gb ?_
        have E26 : nb_rd M 603 24 = 613 := W.m24
        have E27 : nb_mul 7 l3 = 7 * l3 := nb_mul_eq (by omega) (by omega)
        have E28 : nb_add (7 * l3) 2 = 7 * l3 + 2 := nb_add_eq (by omega) (by omega)
        have N29 : nb_ln M 613 = 70 := W.lk (by decide) (by decide +kernel)
        have E30 : nb_rd M 613 (7 * l3 + 2) = M.1 613 (7 * l3 + 2) := nb_rd_1 _ _ _
        refine nb_Wg (q_m_man_0 _ _ _ _ (by omega) (by rw [E26]; first | done | omega) (by rw [E27, E28]; first | done | omega) (by rw [E27, E28, E26, N29]; first | done | omega)) ?_
        simp only [E26, E27, E28, E30]
        clear E26 E27 E28 N29 E30
        refine nb_Gs ?_
        show nb_W 137 5 [(20, 603), (0, l1), (0, l3)] [(0, M.1 613 (7 * l3 + 2)), (0, M.1 613 (7 * l1 + 2))] M _
        refine nb_Wg (q_m_isBehind_5 _ _ _ _ _ _) ?_
        refine nb_Gi (fun c42 => ?_) (fun c42 => ?_)
        · have H := nb_Hw ((nb_Hu H).1 c42)
          refine nb_Gr ?_
          refine nb_Wg (q_m_isBehind_6 _ _ _ _) ?_
          refine nb_Gi (fun c39 => ?_) (fun c39 => ?_)
          · have H := nb_Hw ((nb_Hu H).1 c39)
            refine nb_Gr ?_
            refine nb_Wg (q_m_isBehind_7 _ _ _ _) ?_
            refine nb_Gr ?_
            have E31 : nb_i2z 1 = 1 := by decide
            refine nb_Wg (q_m_isBehind_9 _ _ _ _ _) ?_
            simp only [E31]
            clear E31
            refine nb_Gs ?_
            show nb_W 139 7 [(20, 603), (0, l1), (0, l2), (0, l3)] [(0, 1)] M _
            refine nb_Wg (q_m_pushedOf_7 _ _ _ _ _ _) ?_
            refine nb_Gf (by decide) ?_
            refine nb_Gr ?_
            obtain ⟨p0_, H⟩ := H
            replace H := nb_Hw H
            refine nb_Wg (q_m_pushedOf_8 _ _ _ _ _ (by omega)) ?_
            rw [show nb_R nb_P 138 0 [(20, 603), (0, l3), (98, 0), (98, 0), (98, 0), (98, 0), (98, 0)] [] M = some ([(0, pu_pa (M.1 613) (M.1 609) l3)], M) from sp_m_passedOf W (by assumption) (by omega)]
            refine nb_Gp ?_
            show nb_W 139 9 [(20, 603), (0, l1), (0, l2), (0, l3)] [(0, pu_pa (M.1 613) (M.1 609) l3)] M _
            refine nb_Wg (q_m_pushedOf_9 _ _ _ _ _ _) ?_
            refine nb_Gb ?_
            refine nb_Wg (q_m_hasBit_0 _ _ _) ?_
            refine nb_Gi (fun c36 => ?_) (fun c36 => ?_)
            · have H := nb_Hw ((nb_Hu H).1 c36)
              refine nb_Gr ?_
              refine nb_Wg (q_m_hasBit_1 _ _ _) ?_
              refine nb_Gr ?_
              have E32 : nb_i2z 1 = 1 := by decide
              refine nb_Wg (q_m_hasBit_3 _ _ _ _) ?_
              simp only [E32]
              clear E32
              refine nb_Gs ?_
              show nb_W 139 10 [(20, 603), (0, l1), (0, l2), (0, l3)] [(0, 1)] M _
              refine nb_Wg (q_m_pushedOf_10 _ _ _ _ _ _) ?_
              refine nb_Gf (by decide) ?_
              refine nb_Gr ?_
              refine nb_Wg (q_m_pushedOf_11 _ _ _ _ _) ?_
              refine nb_Gr ?_
              have E33 : nb_add l3 1 = l3 + 1 := nb_add_eq (by omega) (by omega)
              refine nb_Wg (q_m_pushedOf_12 _ _ _ _ _) ?_
              simp only [E33]
              clear E33
              refine nb_Gr ?_
              exact nb_Hu H
            · have H := nb_Hw ((nb_Hu H).2 (by omega))
              have c36 : nb_and (nb_shr (pu_pa (M.1 613) (M.1 609) l3) l1) 1 ≠ 1 := by omega
              refine nb_Gr ?_
              refine nb_Wg (q_m_hasBit_2 _ _ _) ?_
              refine nb_Gr ?_
              have E34 : nb_i2z 0 = 0 := by decide
              refine nb_Wg (q_m_hasBit_3 _ _ _ _) ?_
              simp only [E34]
              clear E34
              refine nb_Gs ?_
              show nb_W 139 10 [(20, 603), (0, l1), (0, l2), (0, l3)] [(0, 0)] M _
              refine nb_Wg (q_m_pushedOf_10 _ _ _ _ _ _) ?_
              refine nb_Gt (by decide) ?_
              refine nb_Gr ?_
              have E35 : nb_add l3 1 = l3 + 1 := nb_add_eq (by omega) (by omega)
              refine nb_Wg (q_m_pushedOf_12 _ _ _ _ _) ?_
              simp only [E35]
              clear E35
              refine nb_Gr ?_
              exact nb_Hu H
          · have H := nb_Hw ((nb_Hu H).2 (by omega))
            have c39 : l1 ≤ l3 := by omega
            refine nb_Gr ?_
            refine nb_Wg (q_m_isBehind_8 _ _ _ _) ?_
            refine nb_Gr ?_
            have E37 : nb_i2z 0 = 0 := by decide
            refine nb_Wg (q_m_isBehind_9 _ _ _ _ _) ?_
            simp only [E37]
            clear E37
            refine nb_Gs ?_
            show nb_W 139 7 [(20, 603), (0, l1), (0, l2), (0, l3)] [(0, 0)] M _
            refine nb_Wg (q_m_pushedOf_7 _ _ _ _ _ _) ?_
            refine nb_Gt (by decide) ?_
            refine nb_Gr ?_
            have E38 : nb_add l3 1 = l3 + 1 := nb_add_eq (by omega) (by omega)
            refine nb_Wg (q_m_pushedOf_12 _ _ _ _ _) ?_
            simp only [E38]
            clear E38
            refine nb_Gr ?_
            exact nb_Hu H
        · have H := nb_Hw ((nb_Hu H).2 (by omega))
          have c42 : M.1 613 (7 * l1 + 2) ≠ M.1 613 (7 * l3 + 2) := by omega
          refine nb_Gr ?_
          refine nb_Wg (q_m_isBehind_8 _ _ _ _) ?_
          refine nb_Gr ?_
          have E40 : nb_i2z 0 = 0 := by decide
          refine nb_Wg (q_m_isBehind_9 _ _ _ _ _) ?_
          simp only [E40]
          clear E40
          refine nb_Gs ?_
          show nb_W 139 7 [(20, 603), (0, l1), (0, l2), (0, l3)] [(0, 0)] M _
          refine nb_Wg (q_m_pushedOf_7 _ _ _ _ _ _) ?_
          refine nb_Gt (by decide) ?_
          refine nb_Gr ?_
          have E41 : nb_add l3 1 = l3 + 1 := nb_add_eq (by omega) (by omega)
          refine nb_Wg (q_m_pushedOf_12 _ _ _ _ _) ?_
          simp only [E41]
          clear E41
          refine nb_Gr ?_
          exact nb_Hu H
  · have H := nb_Hw ((nb_Hu H).2 (by omega))
    have c45 : M.1 606 5 ≤ l3 := by omega
    refine nb_Gr ?_
    refine nb_Wg (q_m_pushedOf_13 _ _ _ _ _) ?_
    refine nb_Gs ?_
    exact nb_Hu H

theorem w_m_manyW_0 {l1 : Int} {v2 v3 : nb_V} {M : nb_M} {Q : List nb_V → nb_M → Prop} (W : nb_Lay M) (hr0 : l1 ≠ 0) (hr1 : l1 ≠ 1) (hrl : nb_ln M l1 = 108) (H : nb_W 145 1 [(20, 603), (3, l1), (0, 0), (0, 0)] [] M Q) :
    nb_W 145 0 [(20, 603), (3, l1), v2, v3] [] M Q := by
  replace H := nb_Hw H
  refine nb_Wg (q_m_manyWaiting_0 _ _ _ _ _) ?_
  refine nb_Gr ?_
  exact nb_Hu H

theorem w_m_manyW_1 {l1 l2 l3 : Int} {M : nb_M} {Q : List nb_V → nb_M → Prop} (W : nb_Lay M) (hr0 : l1 ≠ 0) (hr1 : l1 ≠ 1) (hrl : nb_ln M l1 = 108) (b0_ : 0 ≤ l3 ∧ l3 ≤ 10) (b1_ : 0 ≤ l2 ∧ l2 ≤ 10) (H : 0 ≤ M.1 606 5 ∧ M.1 606 5 ≤ 10 ∧ (l3 < M.1 606 5 → (M.1 l1 (12 + 8 * l3) = 1 → nb_W 145 1 [(20, 603), (3, l1), (0, l2 + 1), (0, l3 + 1)] [] M Q) ∧ (M.1 l1 (12 + 8 * l3) ≠ 1 → nb_W 145 1 [(20, 603), (3, l1), (0, l2), (0, l3 + 1)] [] M Q)) ∧ (M.1 606 5 ≤ l3 → Q [(0, l2)] M)) :
    nb_W 145 1 [(20, 603), (3, l1), (0, l2), (0, l3)] [] M Q := by
  replace H := nb_Hw H
  obtain ⟨p0_, p1_, H⟩ := H
  replace H := nb_Hw H
  have E1 : nb_rd M 603 15 = 606 := W.m15
  have N2 : nb_ln M 606 = 347 := W.lk (by decide) (by decide +kernel)
  have E3 : nb_rd M 606 5 = M.1 606 5 := nb_rd_1 _ _ _
  refine nb_Wg (q_m_manyWaiting_1 _ _ _ _ _ (by omega) (by rw [E1]; first | done | omega) (by omega) (by rw [E1, N2]; first | done | omega)) ?_
  simp only [E1, E3]
  clear E1 N2 E3
  refine nb_Gi (fun c16 => ?_) (fun c16 => ?_)
  · have H := nb_Hw ((nb_Hu H).1 c16)
    refine nb_Gr ?_
    refine nb_Wg (q_m_manyWaiting_2 _ _ _ _ _) ?_
    refine nb_Gb ?_
    refine nb_Wg (q_m_isWaiting_0 _ _ _) ?_
    refine nb_Gb ?_
    have E4 : nb_mul 8 l3 = 8 * l3 := nb_mul_eq (by omega) (by omega)
    have E5 : nb_add 12 (8 * l3) = 12 + 8 * l3 := (nb_add_eq (x := 12) (y := 8 * l3) (by omega) (by omega)).trans (by omega)
    have E6 : nb_add (12 + 8 * l3) 0 = 12 + 8 * l3 := (nb_add_eq (x := 12 + 8 * l3) (y := 0) (by omega) (by omega)).trans (by omega)
    have N7 : nb_ln M l1 = 108 := hrl
    have E8 : nb_rd M l1 (12 + 8 * l3) = M.1 l1 (12 + 8 * l3) := nb_rd_1 _ _ _
    refine nb_Wg (q_m_its_0 _ _ _ _ (by omega) (by rw [E4, E5, E6]; first | done | omega) (by rw [E4, E5, E6, N7]; first | done | omega)) ?_
    simp only [E4, E5, E6, E8]
    clear E4 E5 E6 N7 E8
    refine nb_Gs ?_
    show nb_W 126 1 [(3, l1), (0, l3)] [(0, M.1 l1 (12 + 8 * l3))] M _
    refine nb_Wg (q_m_isWaiting_1 _ _ _ _) ?_
    refine nb_Gi (fun c15 => ?_) (fun c15 => ?_)
    · have H := nb_Hw ((nb_Hu H).1 c15)
      refine nb_Gr ?_
      refine nb_Wg (q_m_isWaiting_2 _ _ _) ?_
      refine nb_Gr ?_
      have E9 : nb_i2z 1 = 1 := by decide
      refine nb_Wg (q_m_isWaiting_4 _ _ _ _) ?_
      simp only [E9]
      clear E9
      refine nb_Gs ?_
      show nb_W 145 3 [(20, 603), (3, l1), (0, l2), (0, l3)] [(0, 1), (0, l2)] M _
      refine nb_Wg (q_m_manyWaiting_3 _ _ _ _ _ _ _) ?_
      refine nb_Gf (by decide) ?_
      refine nb_Gr ?_
      refine nb_Wg (q_m_manyWaiting_4 _ _ _ _ _ _) ?_
      refine nb_Gr ?_
      have E10 : nb_add l2 1 = l2 + 1 := nb_add_eq (by omega) (by omega)
      have E11 : nb_add l3 1 = l3 + 1 := nb_add_eq (by omega) (by omega)
      refine nb_Wg (q_m_manyWaiting_6 _ _ _ _ _ _ _) ?_
      simp only [E10, E11]
      clear E10 E11
      refine nb_Gr ?_
      exact nb_Hu H
    · have H := nb_Hw ((nb_Hu H).2 (by omega))
      have c15 : M.1 l1 (12 + 8 * l3) ≠ 1 := by omega
      refine nb_Gr ?_
      refine nb_Wg (q_m_isWaiting_3 _ _ _) ?_
      refine nb_Gr ?_
      have E12 : nb_i2z 0 = 0 := by decide
      refine nb_Wg (q_m_isWaiting_4 _ _ _ _) ?_
      simp only [E12]
      clear E12
      refine nb_Gs ?_
      show nb_W 145 3 [(20, 603), (3, l1), (0, l2), (0, l3)] [(0, 0), (0, l2)] M _
      refine nb_Wg (q_m_manyWaiting_3 _ _ _ _ _ _ _) ?_
      refine nb_Gt (by decide) ?_
      refine nb_Gr ?_
      refine nb_Wg (q_m_manyWaiting_5 _ _ _ _ _ _) ?_
      refine nb_Gr ?_
      have E13 : nb_add l2 0 = l2 := (nb_add_eq (x := l2) (y := 0) (by omega) (by omega)).trans (by omega)
      have E14 : nb_add l3 1 = l3 + 1 := nb_add_eq (by omega) (by omega)
      refine nb_Wg (q_m_manyWaiting_6 _ _ _ _ _ _ _) ?_
      simp only [E13, E14]
      clear E13 E14
      refine nb_Gr ?_
      exact nb_Hu H
  · have H := nb_Hw ((nb_Hu H).2 (by omega))
    have c16 : M.1 606 5 ≤ l3 := by omega
    refine nb_Gr ?_
    refine nb_Wg (q_m_manyWaiting_7 _ _ _ _ _) ?_
    refine nb_Gs ?_
    exact nb_Hu H

theorem w_m_ones_0 {l0 : Int} {v1 v2 : nb_V} {M : nb_M} {Q : List nb_V → nb_M → Prop} (H : nb_W 85 1 [(0, l0), (0, 0), (0, 0)] [] M Q) :
    nb_W 85 0 [(0, l0), v1, v2] [] M Q := by
  replace H := nb_Hw H
  refine nb_Wg (q_m_ones_0 _ _ _ _) ?_
  refine nb_Gr ?_
  exact nb_Hu H

theorem w_m_ones_1 {l0 l1 l2 : Int} {M : nb_M} {Q : List nb_V → nb_M → Prop}  (b0_ : 0 ≤ l1 ∧ l1 ≤ 10) (b1_ : 0 ≤ l2 ∧ l2 ≤ 10) (H : (l2 < 10 → -2147483648 ≤ l1 + nb_and (nb_shr l0 l2) 1 ∧ l1 + nb_and (nb_shr l0 l2) 1 ≤ 2147483647 ∧ nb_W 85 1 [(0, l0), (0, l1 + nb_and (nb_shr l0 l2) 1), (0, l2 + 1)] [] M Q) ∧ (10 ≤ l2 → Q [(0, l1)] M)) :
    nb_W 85 1 [(0, l0), (0, l1), (0, l2)] [] M Q := by
  replace H := nb_Hw H
  refine nb_Wg (q_m_ones_1 _ _ _ _) ?_
  refine nb_Gi (fun c3 => ?_) (fun c3 => ?_)
  · have H := nb_Hw ((nb_Hu H).1 c3)
    refine nb_Gr ?_
    obtain ⟨p0_, p1_, H⟩ := H
    replace H := nb_Hw H
    have E1 : nb_add l1 (nb_and (nb_shr l0 l2) 1) = l1 + nb_and (nb_shr l0 l2) 1 := (nb_add_eq (x := l1) (y := nb_and (nb_shr l0 l2) 1) (by omega) (by omega)).trans (by omega)
    have E2 : nb_add l2 1 = l2 + 1 := nb_add_eq (by omega) (by omega)
    refine nb_Wg (q_m_ones_2 _ _ _ _) ?_
    simp only [E1, E2]
    clear E1 E2
    refine nb_Gr ?_
    exact nb_Hu H
  · have H := nb_Hw ((nb_Hu H).2 (by omega))
    have c3 : 10 ≤ l2 := by omega
    refine nb_Gr ?_
    refine nb_Wg (q_m_ones_3 _ _ _ _) ?_
    refine nb_Gs ?_
    exact nb_Hu H
