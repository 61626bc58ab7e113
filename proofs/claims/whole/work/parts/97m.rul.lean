/-! rules, printed by wip/gen -/
theorem w_m_layRule_0 {l1 l2 : Int} {v3 : nb_V} {M : nb_M} {Q : List nb_V → nb_M → Prop} (W : nb_Lay M) (H : nb_W 121 0 [(20, 603)] [] M (fun r M2 => r = [] ∧ nb_Lay M2 ∧ nb_W 161 3 [(20, 603), (0, l1), (0, l2), (0, 0)] [] (nb_wr M2 603 26 (M2.1 606 2)) Q)) :
    nb_W 161 0 [(20, 603), (0, l1), (0, l2), v3] [] M Q := by
  replace H := nb_Hw H
  refine nb_Wg (q_m_layRule_0 _ _ _ _ _ (by omega)) ?_
  refine nb_Gb ?_
  refine nb_W.imp (nb_Hu H) (fun r M2 H => ?_)
  obtain ⟨rfl, W3, H⟩ := H
  replace H := nb_Hw H
  show nb_W 161 1 [(20, 603), (0, l1), (0, l2), v3] [] M2 _
  have E4 : nb_rd M2 603 15 = 606 := W3.m15
  have N5 : nb_ln M2 606 = 347 := W3.lk (by decide) (by decide +kernel)
  have E6 : nb_rd M2 606 2 = M2.1 606 2 := nb_rd_1 _ _ _
  refine nb_Wg (q_m_layRule_1 _ _ _ _ _ (by omega) (by rw [E4]; first | done | omega) (by omega) (by rw [E4, N5]; first | done | omega)) ?_
  simp only [E4, E6]
  clear E4 N5 E6
  have W7 : nb_Lay (nb_wr M2 603 26 (M2.1 606 2)) := W3.wr (fun w => (nb_nlit (by decide) (by decide)))
  refine nb_Gr ?_
  refine nb_Wg (q_m_layRule_2 _ _ _ _ _) ?_
  refine nb_Gr ?_
  exact nb_Hu H

theorem w_m_layRule_3 {l1 l2 l3 : Int} {M : nb_M} {Q : List nb_V → nb_M → Prop} (W : nb_Lay M)  (b0_ : 0 ≤ l3 ∧ l3 ≤ 3) (H : (l3 < M.1 603 25 → (l2 = 0 → nb_W 161 3 [(20, 603), (0, l1), (0, l2), (0, l3 + 1)] [] (nb_wr M 612 (6 * l3) l1) Q) ∧ (l2 ≠ 0 → 0 ≤ M.1 606 1 ∧ M.1 606 1 ≤ 20 ∧ nb_W 161 3 [(20, 603), (0, l1), (0, l2), (0, l3 + 1)] [] (nb_wr (nb_wr (nb_wr M 612 (6 * l3) l1) 612 (6 * l3 + 2) 0) 612 (6 * l3 + 3) (M.1 606 1 - 1)) Q)) ∧ (M.1 603 25 ≤ l3 → nb_W 134 0 [(20, 603)] [] M (fun r M25 => r = [] ∧ nb_Lay M25 ∧ (nb_Lay M25 → Q [] M25)))) :
    nb_W 161 3 [(20, 603), (0, l1), (0, l2), (0, l3)] [] M Q := by
  replace H := nb_Hw H
  have E1 : nb_rd M 603 25 = M.1 603 25 := nb_rd_1 _ _ _
  refine nb_Wg (q_m_layRule_3 _ _ _ _ _ (by omega)) ?_
  simp only [E1]
  clear E1
  refine nb_Gi (fun c27 => ?_) (fun c27 => ?_)
  · have H := nb_Hw ((nb_Hu H).1 c27)
    refine nb_Gr ?_
    have E2 : nb_rd M 603 23 = 612 := W.m23
    have E3 : nb_mul 6 l3 = 6 * l3 := nb_mul_eq (by omega) (by omega)
    have E4 : nb_add (6 * l3) 0 = 6 * l3 := (nb_add_eq (x := 6 * l3) (y := 0) (by omega) (by omega)).trans (by omega)
    have N5 : nb_ln M 612 = 24 := W.lk (by decide) (by decide +kernel)
    refine nb_Wg (q_m_layRule_4 _ _ _ _ _ (by omega) (by rw [E2]; first | done | omega) (by rw [E2]; first | done | omega) (by rw [E3, E4]; first | done | omega) (by rw [E3, E4, E2, N5]; first | done | omega)) ?_
    simp only [E2, E3, E4]
    clear E2 E3 E4 N5
    have W6 : nb_Lay (nb_wr M 612 (6 * l3) l1) := W.wr (fun w => (nb_nnum (by decide) (by decide)))
    refine nb_Gr ?_
    refine nb_Wg (q_m_layRule_5 _ _ _ _ _) ?_
    refine nb_Gi (fun c23 => ?_) (fun c23 => ?_)
    · have H := nb_Hw ((nb_Hu H).1 c23)
      refine nb_Gr ?_
      refine nb_Wg (q_m_layRule_6 _ _ _ _ _) ?_
      refine nb_Gr ?_
      have E7 : nb_add l3 1 = l3 + 1 := nb_add_eq (by omega) (by omega)
      refine nb_Wg (q_m_layRule_9 _ _ _ _ _) ?_
      simp only [E7]
      clear E7
      refine nb_Gr ?_
      exact nb_Hu H
    · have H := nb_Hw ((nb_Hu H).2 (by omega))
      have c23 : l2 ≠ 0 := by omega
      refine nb_Gr ?_
      have E8 : nb_rd (nb_wr M 612 (6 * l3) l1) 603 23 = 612 := W6.m23
      have E9 : nb_mul 6 l3 = 6 * l3 := nb_mul_eq (by omega) (by omega)
      have E10 : nb_add (6 * l3) 2 = 6 * l3 + 2 := nb_add_eq (by omega) (by omega)
      have N11 : nb_ln (nb_wr M 612 (6 * l3) l1) 612 = 24 := W6.lk (by decide) (by decide +kernel)
      refine nb_Wg (q_m_layRule_7 _ _ _ _ _ (by omega) (by rw [E8]; first | done | omega) (by rw [E8]; first | done | omega) (by rw [E9, E10]; first | done | omega) (by rw [E9, E10, E8, N11]; first | done | omega)) ?_
      simp only [E8, E9, E10]
      clear E8 E9 E10 N11
      have W12 : nb_Lay (nb_wr (nb_wr M 612 (6 * l3) l1) 612 (6 * l3 + 2) 0) := W6.wr (fun w => (nb_nnum (by decide) (by decide)))
      refine nb_Gr ?_
      obtain ⟨p0_, p1_, H⟩ := H
      replace H := nb_Hw H
      have E13 : nb_rd (nb_wr (nb_wr M 612 (6 * l3) l1) 612 (6 * l3 + 2) 0) 603 23 = 612 := W12.m23
      have E14 : nb_mul 6 l3 = 6 * l3 := nb_mul_eq (by omega) (by omega)
      have E15 : nb_add (6 * l3) 3 = 6 * l3 + 3 := nb_add_eq (by omega) (by omega)
      have E16 : nb_rd (nb_wr (nb_wr M 612 (6 * l3) l1) 612 (6 * l3 + 2) 0) 603 15 = 606 := W12.m15
      have N17 : nb_ln (nb_wr (nb_wr M 612 (6 * l3) l1) 612 (6 * l3 + 2) 0) 606 = 347 := W12.lk (by decide) (by decide +kernel)
      have E18 : nb_rd (nb_wr (nb_wr M 612 (6 * l3) l1) 612 (6 * l3 + 2) 0) 606 1 = M.1 606 1 := nb_rdw (Or.inl (by decide)) (nb_rdw (Or.inl (by decide)) (nb_rd_1 _ _ _))
      have E19 : nb_sub (M.1 606 1) 1 = M.1 606 1 - 1 := nb_sub_eq (by omega) (by omega)
      have N20 : nb_ln (nb_wr (nb_wr M 612 (6 * l3) l1) 612 (6 * l3 + 2) 0) 612 = 24 := W12.lk (by decide) (by decide +kernel)
      refine nb_Wg (q_m_layRule_8 _ _ _ _ _ (by omega) (by rw [E16]; first | done | omega) (by omega) (by rw [E16, N17]; first | done | omega) (by rw [E13]; first | done | omega) (by rw [E13]; first | done | omega) (by rw [E14, E15]; first | done | omega) (by rw [E14, E15, E13, N20]; first | done | omega)) ?_
      simp only [E13, E14, E15, E16, E18, E19]
      clear E13 E14 E15 E16 N17 E18 E19 N20
      have W21 : nb_Lay (nb_wr (nb_wr (nb_wr M 612 (6 * l3) l1) 612 (6 * l3 + 2) 0) 612 (6 * l3 + 3) (M.1 606 1 - 1)) := W12.wr (fun w => (nb_nnum (by decide) (by decide)))
      refine nb_Gr ?_
      have E22 : nb_add l3 1 = l3 + 1 := nb_add_eq (by omega) (by omega)
      refine nb_Wg (q_m_layRule_9 _ _ _ _ _) ?_
      simp only [E22]
      clear E22
      refine nb_Gr ?_
      exact nb_Hu H
  · have H := nb_Hw ((nb_Hu H).2 (by omega))
    have c27 : M.1 603 25 ≤ l3 := by omega
    refine nb_Gr ?_
    refine nb_Wg (q_m_layRule_10 _ _ _ _ _ (by omega)) ?_
    refine nb_Gb ?_
    refine nb_W.imp (nb_Hu H) (fun r M25 H => ?_)
    obtain ⟨rfl, W26, H⟩ := H
    replace H := nb_Hw H
    show nb_W 161 11 [(20, 603), (0, l1), (0, l2), (0, l3)] [] M25 _
    refine nb_Wg (q_m_layRule_11 _ _ _ _ _) ?_
    refine nb_Gs ?_
    exact nb_Hu H W26

theorem w_m_by_0 {l1 l2 l3 : Int} {M : nb_M} {Q : List nb_V → nb_M → Prop} (W : nb_Lay M) (H : 0 ≤ M.1 603 14 ∧ M.1 603 14 ≤ 1 ∧ (M.1 603 14 = 0 → (nb_Lay (nb_wr (nb_wr (nb_wr M 603 0 0) 603 11 0) 603 11 1) → Q [(0, (-1))] (nb_wr (nb_wr (nb_wr M 603 0 0) 603 11 0) 603 11 1))) ∧ (M.1 603 14 ≠ 0 → (l1 < 0 → (nb_Lay (nb_wr (nb_wr (nb_wr M 603 0 0) 603 11 0) 603 11 1) → Q [(0, (-1))] (nb_wr (nb_wr (nb_wr M 603 0 0) 603 11 0) 603 11 1))) ∧ (0 ≤ l1 → (4 < l1 → (nb_Lay (nb_wr (nb_wr (nb_wr M 603 0 0) 603 11 0) 603 11 1) → Q [(0, (-1))] (nb_wr (nb_wr (nb_wr M 603 0 0) 603 11 0) 603 11 1))) ∧ (l1 ≤ 4 → (l3 < 0 → (nb_Lay (nb_wr (nb_wr (nb_wr M 603 0 0) 603 11 0) 603 11 1) → Q [(0, (-1))] (nb_wr (nb_wr (nb_wr M 603 0 0) 603 11 0) 603 11 1))) ∧ (0 ≤ l3 → (5 < l3 → (nb_Lay (nb_wr (nb_wr (nb_wr M 603 0 0) 603 11 0) 603 11 1) → Q [(0, (-1))] (nb_wr (nb_wr (nb_wr M 603 0 0) 603 11 0) 603 11 1))) ∧ (l3 ≤ 5 → nb_W 161 0 [(20, 603), (0, l1), (0, l2), (98, 0)] [] (nb_wr (nb_wr M 603 0 0) 603 11 0) (fun r M16 => r = [] ∧ nb_Lay M16 ∧ nb_W 140 0 [(20, 603), (0, l3), (98, 0), (98, 0), (98, 0)] [] M16 (fun r M19 => ∃ x18 : Int, r = [(0, x18)] ∧ nb_Lay M19 ∧ (nb_Lay M19 → Q [(0, x18)] M19))))))))) :
    nb_W 162 0 [(20, 603), (0, l1), (0, l2), (0, l3)] [] M Q := by
  replace H := nb_Hw H
  refine nb_Wg (q_m_by_0 _ _ _ _ _ (by omega)) ?_
  refine nb_Gb ?_
  refine nb_Wg (q_m_good_0 _ _ (by omega)) ?_
  have W1 : nb_Lay (nb_wr M 603 0 0) := W.wr (fun w => (nb_nlit (by decide) (by decide)))
  refine nb_Gr ?_
  refine nb_Wg (q_m_good_1 _ _ (by omega)) ?_
  have W2 : nb_Lay (nb_wr (nb_wr M 603 0 0) 603 11 0) := W1.wr (fun w => (nb_nlit (by decide) (by decide)))
  refine nb_Gr ?_
  refine nb_Wg (q_m_good_2 _ _) ?_
  refine nb_Gs ?_
  show nb_W 162 1 [(20, 603), (0, l1), (0, l2), (0, l3)] [] (nb_wr (nb_wr M 603 0 0) 603 11 0) _
  obtain ⟨p0_, p1_, H⟩ := H
  replace H := nb_Hw H
  have E3 : nb_rd (nb_wr (nb_wr M 603 0 0) 603 11 0) 603 14 = M.1 603 14 := nb_rdw (Or.inr (by decide)) (nb_rdw (Or.inr (by decide)) (nb_rd_1 _ _ _))
  refine nb_Wg (q_m_by_1 _ _ _ _ _ (by omega)) ?_
  simp only [E3]
  clear E3
  refine nb_Gi (fun c25 => ?_) (fun c25 => ?_)
  · have H := nb_Hw ((nb_Hu H).1 c25)
    refine nb_Gr ?_
    refine nb_Wg (q_m_by_6 _ _ _ _ _ (by omega)) ?_
    refine nb_Gb ?_
    refine nb_Wg (q_m_no_0 _ _ _ (by omega)) ?_
    have W4 : nb_Lay (nb_wr (nb_wr (nb_wr M 603 0 0) 603 11 0) 603 11 1) := W2.wr (fun w => (nb_nlit (by decide) (by decide)))
    refine nb_Gr ?_
    refine nb_Wg (q_m_no_1 _ _ _) ?_
    refine nb_Gs ?_
    show nb_W 162 7 [(20, 603), (0, l1), (0, l2), (0, l3)] [(0, (-1))] (nb_wr (nb_wr (nb_wr M 603 0 0) 603 11 0) 603 11 1) _
    refine nb_Wg (q_m_by_7 _ _ _ _ _ _) ?_
    refine nb_Gs ?_
    exact nb_Hu H W4
  · have H := nb_Hw ((nb_Hu H).2 (by omega))
    have c25 : M.1 603 14 ≠ 0 := by omega
    refine nb_Gr ?_
    refine nb_Wg (q_m_by_2 _ _ _ _ _) ?_
    refine nb_Gb ?_
    refine nb_Wg (q_m_within_0 _ _ _ _) ?_
    refine nb_Gi (fun c24 => ?_) (fun c24 => ?_)
    · have H := nb_Hw ((nb_Hu H).1 c24)
      refine nb_Gr ?_
      refine nb_Wg (q_m_within_3 _ _ _ _) ?_
      refine nb_Gr ?_
      have E5 : nb_i2z 0 = 0 := by decide
      refine nb_Wg (q_m_within_4 _ _ _ _ _) ?_
      simp only [E5]
      clear E5
      refine nb_Gs ?_
      show nb_W 162 3 [(20, 603), (0, l1), (0, l2), (0, l3)] [(0, 0)] (nb_wr (nb_wr M 603 0 0) 603 11 0) _
      refine nb_Wg (q_m_by_3 _ _ _ _ _ _) ?_
      refine nb_Gt (by decide) ?_
      refine nb_Gr ?_
      refine nb_Wg (q_m_by_6 _ _ _ _ _ (by omega)) ?_
      refine nb_Gb ?_
      refine nb_Wg (q_m_no_0 _ _ _ (by omega)) ?_
      have W6 : nb_Lay (nb_wr (nb_wr (nb_wr M 603 0 0) 603 11 0) 603 11 1) := W2.wr (fun w => (nb_nlit (by decide) (by decide)))
      refine nb_Gr ?_
      refine nb_Wg (q_m_no_1 _ _ _) ?_
      refine nb_Gs ?_
      show nb_W 162 7 [(20, 603), (0, l1), (0, l2), (0, l3)] [(0, (-1))] (nb_wr (nb_wr (nb_wr M 603 0 0) 603 11 0) 603 11 1) _
      refine nb_Wg (q_m_by_7 _ _ _ _ _ _) ?_
      refine nb_Gs ?_
      exact nb_Hu H W6
    · have H := nb_Hw ((nb_Hu H).2 (by omega))
      have c24 : 0 ≤ l1 := by omega
      refine nb_Gr ?_
      refine nb_Wg (q_m_within_1 _ _ _ _) ?_
      refine nb_Gi (fun c23 => ?_) (fun c23 => ?_)
      · have H := nb_Hw ((nb_Hu H).1 c23)
        refine nb_Gr ?_
        refine nb_Wg (q_m_within_3 _ _ _ _) ?_
        refine nb_Gr ?_
        have E7 : nb_i2z 0 = 0 := by decide
        refine nb_Wg (q_m_within_4 _ _ _ _ _) ?_
        simp only [E7]
        clear E7
        refine nb_Gs ?_
        show nb_W 162 3 [(20, 603), (0, l1), (0, l2), (0, l3)] [(0, 0)] (nb_wr (nb_wr M 603 0 0) 603 11 0) _
        refine nb_Wg (q_m_by_3 _ _ _ _ _ _) ?_
        refine nb_Gt (by decide) ?_
        refine nb_Gr ?_
        refine nb_Wg (q_m_by_6 _ _ _ _ _ (by omega)) ?_
        refine nb_Gb ?_
        refine nb_Wg (q_m_no_0 _ _ _ (by omega)) ?_
        have W8 : nb_Lay (nb_wr (nb_wr (nb_wr M 603 0 0) 603 11 0) 603 11 1) := W2.wr (fun w => (nb_nlit (by decide) (by decide)))
        refine nb_Gr ?_
        refine nb_Wg (q_m_no_1 _ _ _) ?_
        refine nb_Gs ?_
        show nb_W 162 7 [(20, 603), (0, l1), (0, l2), (0, l3)] [(0, (-1))] (nb_wr (nb_wr (nb_wr M 603 0 0) 603 11 0) 603 11 1) _
        refine nb_Wg (q_m_by_7 _ _ _ _ _ _) ?_
        refine nb_Gs ?_
        exact nb_Hu H W8
      · have H := nb_Hw ((nb_Hu H).2 (by omega))
        have c23 : l1 ≤ 4 := by omega
        refine nb_Gr ?_
        refine nb_Wg (q_m_within_2 _ _ _ _) ?_
        refine nb_Gr ?_
        have E9 : nb_i2z 1 = 1 := by decide
        refine nb_Wg (q_m_within_4 _ _ _ _ _) ?_
        simp only [E9]
        clear E9
        refine nb_Gs ?_
        show nb_W 162 3 [(20, 603), (0, l1), (0, l2), (0, l3)] [(0, 1)] (nb_wr (nb_wr M 603 0 0) 603 11 0) _
        refine nb_Wg (q_m_by_3 _ _ _ _ _ _) ?_
        refine nb_Gf (by decide) ?_
        refine nb_Gr ?_
        refine nb_Wg (q_m_by_4 _ _ _ _ _) ?_
        refine nb_Gb ?_
        refine nb_Wg (q_m_within_0 _ _ _ _) ?_
        refine nb_Gi (fun c22 => ?_) (fun c22 => ?_)
        · have H := nb_Hw ((nb_Hu H).1 c22)
          refine nb_Gr ?_
          refine nb_Wg (q_m_within_3 _ _ _ _) ?_
          refine nb_Gr ?_
          have E10 : nb_i2z 0 = 0 := by decide
          refine nb_Wg (q_m_within_4 _ _ _ _ _) ?_
          simp only [E10]
          clear E10
          refine nb_Gs ?_
          show nb_W 162 5 [(20, 603), (0, l1), (0, l2), (0, l3)] [(0, 0)] (nb_wr (nb_wr M 603 0 0) 603 11 0) _
          refine nb_Wg (q_m_by_5 _ _ _ _ _ _) ?_
          refine nb_Gt (by decide) ?_
          refine nb_Gr ?_
          refine nb_Wg (q_m_by_6 _ _ _ _ _ (by omega)) ?_
          refine nb_Gb ?_
          refine nb_Wg (q_m_no_0 _ _ _ (by omega)) ?_
          have W11 : nb_Lay (nb_wr (nb_wr (nb_wr M 603 0 0) 603 11 0) 603 11 1) := W2.wr (fun w => (nb_nlit (by decide) (by decide)))
          refine nb_Gr ?_
          refine nb_Wg (q_m_no_1 _ _ _) ?_
          refine nb_Gs ?_
          show nb_W 162 7 [(20, 603), (0, l1), (0, l2), (0, l3)] [(0, (-1))] (nb_wr (nb_wr (nb_wr M 603 0 0) 603 11 0) 603 11 1) _
          refine nb_Wg (q_m_by_7 _ _ _ _ _ _) ?_
          refine nb_Gs ?_
          exact nb_Hu H W11
        · have H := nb_Hw ((nb_Hu H).2 (by omega))
          have c22 : 0 ≤ l3 := by omega
          refine nb_Gr ?_
          refine nb_Wg (q_m_within_1 _ _ _ _) ?_
          refine nb_Gi (fun c21 => ?_) (fun c21 => ?_)
          · have H := nb_Hw ((nb_Hu H).1 c21)
            refine nb_Gr ?_
            refine nb_Wg (q_m_within_3 _ _ _ _) ?_
            refine nb_Gr ?_
            have E12 : nb_i2z 0 = 0 := by decide
            refine nb_Wg (q_m_within_4 _ _ _ _ _) ?_
            simp only [E12]
            clear E12
            refine nb_Gs ?_
            show nb_W 162 5 [(20, 603), (0, l1), (0, l2), (0, l3)] [(0, 0)] (nb_wr (nb_wr M 603 0 0) 603 11 0) _
            refine nb_Wg (q_m_by_5 _ _ _ _ _ _) ?_
            refine nb_Gt (by decide) ?_
            refine nb_Gr ?_
            refine nb_Wg (q_m_by_6 _ _ _ _ _ (by omega)) ?_
            refine nb_Gb ?_
            refine nb_Wg (q_m_no_0 _ _ _ (by omega)) ?_
            have W13 : nb_Lay (nb_wr (nb_wr (nb_wr M 603 0 0) 603 11 0) 603 11 1) := W2.wr (fun w => (nb_nlit (by decide) (by decide)))
            refine nb_Gr ?_
            refine nb_Wg (q_m_no_1 _ _ _) ?_
            refine nb_Gs ?_
            show nb_W 162 7 [(20, 603), (0, l1), (0, l2), (0, l3)] [(0, (-1))] (nb_wr (nb_wr (nb_wr M 603 0 0) 603 11 0) 603 11 1) _
            refine nb_Wg (q_m_by_7 _ _ _ _ _ _) ?_
            refine nb_Gs ?_
            exact nb_Hu H W13
          · have H := nb_Hw ((nb_Hu H).2 (by omega))
            have c21 : l3 ≤ 5 := by omega
            refine nb_Gr ?_
            refine nb_Wg (q_m_within_2 _ _ _ _) ?_
            refine nb_Gr ?_
            have E14 : nb_i2z 1 = 1 := by decide
            refine nb_Wg (q_m_within_4 _ _ _ _ _) ?_
            simp only [E14]
            clear E14
            refine nb_Gs ?_
            show nb_W 162 5 [(20, 603), (0, l1), (0, l2), (0, l3)] [(0, 1)] (nb_wr (nb_wr M 603 0 0) 603 11 0) _
            refine nb_Wg (q_m_by_5 _ _ _ _ _ _) ?_
            refine nb_Gf (by decide) ?_
            refine nb_Gr ?_
            refine nb_Wg (q_m_by_8 _ _ _ _ _ (by omega)) ?_
            refine nb_Gb ?_
            refine nb_W.imp (nb_Hu H) (fun r M16 H => ?_)
            obtain ⟨rfl, W17, H⟩ := H
            replace H := nb_Hw H
            show nb_W 162 9 [(20, 603), (0, l1), (0, l2), (0, l3)] [] M16 _
            refine nb_Wg (q_m_by_9 _ _ _ _ _ (by omega)) ?_
            refine nb_Gb ?_
            refine nb_W.imp (nb_Hu H) (fun r M19 H => ?_)
            obtain ⟨x18, rfl, W20, H⟩ := H
            replace H := nb_Hw H
            show nb_W 162 10 [(20, 603), (0, l1), (0, l2), (0, l3)] [(0, x18)] M19 _
            refine nb_Wg (q_m_by_10 _ _ _ _ _ _) ?_
            refine nb_Gs ?_
            exact nb_Hu H W20

theorem w_m_bestRule_0 {l1 : Int} {v2 v3 v4 v5 : nb_V} {M : nb_M} {Q : List nb_V → nb_M → Prop} (W : nb_Lay M) (H : 0 ≤ M.1 603 14 ∧ M.1 603 14 ≤ 1 ∧ (M.1 603 14 = 0 → (nb_Lay (nb_wr (nb_wr (nb_wr M 603 0 0) 603 11 0) 603 11 1) → Q [(0, (-1))] (nb_wr (nb_wr (nb_wr M 603 0 0) 603 11 0) 603 11 1))) ∧ (M.1 603 14 ≠ 0 → nb_W 163 5 [(20, 603), (0, l1), (0, 0), (0, 1000000), (0, 0), v5] [] (nb_wr (nb_wr M 603 0 0) 603 11 0) Q)) :
    nb_W 163 0 [(20, 603), (0, l1), v2, v3, v4, v5] [] M Q := by
  replace H := nb_Hw H
  refine nb_Wg (q_m_bestRule_0 _ _ _ _ _ _ _ (by omega)) ?_
  refine nb_Gb ?_
  refine nb_Wg (q_m_good_0 _ _ (by omega)) ?_
  have W1 : nb_Lay (nb_wr M 603 0 0) := W.wr (fun w => (nb_nlit (by decide) (by decide)))
  refine nb_Gr ?_
  refine nb_Wg (q_m_good_1 _ _ (by omega)) ?_
  have W2 : nb_Lay (nb_wr (nb_wr M 603 0 0) 603 11 0) := W1.wr (fun w => (nb_nlit (by decide) (by decide)))
  refine nb_Gr ?_
  refine nb_Wg (q_m_good_2 _ _) ?_
  refine nb_Gs ?_
  show nb_W 163 1 [(20, 603), (0, l1), v2, v3, v4, v5] [] (nb_wr (nb_wr M 603 0 0) 603 11 0) _
  obtain ⟨p0_, p1_, H⟩ := H
  replace H := nb_Hw H
  have E3 : nb_rd (nb_wr (nb_wr M 603 0 0) 603 11 0) 603 14 = M.1 603 14 := nb_rdw (Or.inr (by decide)) (nb_rdw (Or.inr (by decide)) (nb_rd_1 _ _ _))
  refine nb_Wg (q_m_bestRule_1 _ _ _ _ _ _ _ (by omega)) ?_
  simp only [E3]
  clear E3
  refine nb_Gi (fun c5 => ?_) (fun c5 => ?_)
  · have H := nb_Hw ((nb_Hu H).1 c5)
    refine nb_Gr ?_
    refine nb_Wg (q_m_bestRule_2 _ _ _ _ _ _ _ (by omega)) ?_
    refine nb_Gb ?_
    refine nb_Wg (q_m_no_0 _ _ _ (by omega)) ?_
    have W4 : nb_Lay (nb_wr (nb_wr (nb_wr M 603 0 0) 603 11 0) 603 11 1) := W2.wr (fun w => (nb_nlit (by decide) (by decide)))
    refine nb_Gr ?_
    refine nb_Wg (q_m_no_1 _ _ _) ?_
    refine nb_Gs ?_
    show nb_W 163 3 [(20, 603), (0, l1), v2, v3, v4, v5] [(0, (-1))] (nb_wr (nb_wr (nb_wr M 603 0 0) 603 11 0) 603 11 1) _
    refine nb_Wg (q_m_bestRule_3 _ _ _ _ _ _ _ _) ?_
    refine nb_Gs ?_
    exact nb_Hu H W4
  · have H := nb_Hw ((nb_Hu H).2 (by omega))
    have c5 : M.1 603 14 ≠ 0 := by omega
    refine nb_Gr ?_
    refine nb_Wg (q_m_bestRule_4 _ _ _ _ _ _ _) ?_
    refine nb_Gr ?_
    exact nb_Hu H

theorem w_m_bestRule_5 {l1 l2 l3 l4 : Int} {v5 : nb_V} {M : nb_M} {Q : List nb_V → nb_M → Prop} (W : nb_Lay M)  (b0_ : 0 ≤ l4 ∧ l4 ≤ 5) (H : (l4 < 5 → nb_W 161 0 [(20, 603), (0, l4), (0, 0), (98, 0)] [] M (fun r M2 => r = [] ∧ nb_Lay M2 ∧ (l1 = 0 → nb_W 140 0 [(20, 603), (0, 0), (98, 0), (98, 0), (98, 0)] [] M2 (fun r M5 => ∃ x4 : Int, r = [(0, x4)] ∧ nb_Lay M5 ∧ -2147483648 ≤ -x4 ∧ -x4 ≤ 2147483647 ∧ (-x4 < l3 → nb_W 163 5 [(20, 603), (0, l1), (0, l4), (0, -x4), (0, l4 + 1), (0, -x4)] [] M5 Q) ∧ (l3 ≤ -x4 → nb_W 163 5 [(20, 603), (0, l1), (0, l2), (0, l3), (0, l4 + 1), (0, -x4)] [] M5 Q))) ∧ (l1 ≠ 0 → nb_W 140 0 [(20, 603), (0, 4), (98, 0), (98, 0), (98, 0)] [] M2 (fun r M12 => ∃ x11 : Int, r = [(0, x11)] ∧ nb_Lay M12 ∧ (x11 < l3 → nb_W 163 5 [(20, 603), (0, l1), (0, l4), (0, x11), (0, l4 + 1), (0, x11)] [] M12 Q) ∧ (l3 ≤ x11 → nb_W 163 5 [(20, 603), (0, l1), (0, l2), (0, l3), (0, l4 + 1), (0, x11)] [] M12 Q))))) ∧ (5 ≤ l4 → (nb_Lay M → Q [(0, l2)] M))) :
    nb_W 163 5 [(20, 603), (0, l1), (0, l2), (0, l3), (0, l4), v5] [] M Q := by
  replace H := nb_Hw H
  refine nb_Wg (q_m_bestRule_5 _ _ _ _ _ _ _) ?_
  refine nb_Gi (fun c18 => ?_) (fun c18 => ?_)
  · have H := nb_Hw ((nb_Hu H).1 c18)
    refine nb_Gr ?_
    refine nb_Wg (q_m_bestRule_6 _ _ _ _ _ _ _ (by omega)) ?_
    refine nb_Gb ?_
    refine nb_W.imp (nb_Hu H) (fun r M2 H => ?_)
    obtain ⟨rfl, W3, H⟩ := H
    replace H := nb_Hw H
    show nb_W 163 7 [(20, 603), (0, l1), (0, l2), (0, l3), (0, l4), v5] [] M2 _
    refine nb_Wg (q_m_bestRule_7 _ _ _ _ _ _ _) ?_
    refine nb_Gi (fun c17 => ?_) (fun c17 => ?_)
    · have H := nb_Hw ((nb_Hu H).1 c17)
      refine nb_Gr ?_
      refine nb_Wg (q_m_bestRule_10 _ _ _ _ _ _ _ (by omega)) ?_
      refine nb_Gb ?_
      refine nb_W.imp (nb_Hu H) (fun r M5 H => ?_)
      obtain ⟨x4, rfl, W6, H⟩ := H
      replace H := nb_Hw H
      show nb_W 163 11 [(20, 603), (0, l1), (0, l2), (0, l3), (0, l4), v5] [(0, x4)] M5 _
      obtain ⟨p0_, p1_, H⟩ := H
      replace H := nb_Hw H
      have E7 : nb_neg x4 = -x4 := nb_neg_eq (by omega) (by omega)
      refine nb_Wg (q_m_bestRule_11 _ _ _ _ _ _ _ _) ?_
      simp only [E7]
      clear E7
      refine nb_Gr ?_
      refine nb_Wg (q_m_bestRule_12 _ _ _ _ _ _ _ _) ?_
      refine nb_Gi (fun c10 => ?_) (fun c10 => ?_)
      · have H := nb_Hw ((nb_Hu H).1 c10)
        refine nb_Gr ?_
        refine nb_Wg (q_m_bestRule_14 _ _ _ _ _ _ _) ?_
        refine nb_Gr ?_
        have E8 : nb_add l4 1 = l4 + 1 := nb_add_eq (by omega) (by omega)
        refine nb_Wg (q_m_bestRule_15 _ _ _ _ _ _ _) ?_
        simp only [E8]
        clear E8
        refine nb_Gr ?_
        exact nb_Hu H
      · have H := nb_Hw ((nb_Hu H).2 (by omega))
        have c10 : l3 ≤ -x4 := by omega
        refine nb_Gr ?_
        refine nb_Wg (q_m_bestRule_13 _ _ _ _ _ _ _) ?_
        refine nb_Gr ?_
        have E9 : nb_add l4 1 = l4 + 1 := nb_add_eq (by omega) (by omega)
        refine nb_Wg (q_m_bestRule_15 _ _ _ _ _ _ _) ?_
        simp only [E9]
        clear E9
        refine nb_Gr ?_
        exact nb_Hu H
    · have H := nb_Hw ((nb_Hu H).2 (by omega))
      have c17 : l1 ≠ 0 := by omega
      refine nb_Gr ?_
      refine nb_Wg (q_m_bestRule_8 _ _ _ _ _ _ _ (by omega)) ?_
      refine nb_Gb ?_
      refine nb_W.imp (nb_Hu H) (fun r M12 H => ?_)
      obtain ⟨x11, rfl, W13, H⟩ := H
      replace H := nb_Hw H
      show nb_W 163 9 [(20, 603), (0, l1), (0, l2), (0, l3), (0, l4), v5] [(0, x11)] M12 _
      refine nb_Wg (q_m_bestRule_9 _ _ _ _ _ _ _ _) ?_
      refine nb_Gr ?_
      refine nb_Wg (q_m_bestRule_12 _ _ _ _ _ _ _ _) ?_
      refine nb_Gi (fun c16 => ?_) (fun c16 => ?_)
      · have H := nb_Hw ((nb_Hu H).1 c16)
        refine nb_Gr ?_
        refine nb_Wg (q_m_bestRule_14 _ _ _ _ _ _ _) ?_
        refine nb_Gr ?_
        have E14 : nb_add l4 1 = l4 + 1 := nb_add_eq (by omega) (by omega)
        refine nb_Wg (q_m_bestRule_15 _ _ _ _ _ _ _) ?_
        simp only [E14]
        clear E14
        refine nb_Gr ?_
        exact nb_Hu H
      · have H := nb_Hw ((nb_Hu H).2 (by omega))
        have c16 : l3 ≤ x11 := by omega
        refine nb_Gr ?_
        refine nb_Wg (q_m_bestRule_13 _ _ _ _ _ _ _) ?_
        refine nb_Gr ?_
        have E15 : nb_add l4 1 = l4 + 1 := nb_add_eq (by omega) (by omega)
        refine nb_Wg (q_m_bestRule_15 _ _ _ _ _ _ _) ?_
        simp only [E15]
        clear E15
        refine nb_Gr ?_
        exact nb_Hu H
  · have H := nb_Hw ((nb_Hu H).2 (by omega))
    have c18 : 5 ≤ l4 := by omega
    refine nb_Gr ?_
    refine nb_Wg (q_m_bestRule_16 _ _ _ _ _ _ _) ?_
    refine nb_Gs ?_
    exact nb_Hu H W

theorem w_m_hand_0 {v1 v2 v3 v4 : nb_V} {M : nb_M} {Q : List nb_V → nb_M → Prop} (W : nb_Lay M) (H : 0 ≤ M.1 603 14 ∧ M.1 603 14 ≤ 1 ∧ (M.1 603 14 = 0 → (nb_Lay (nb_wr (nb_wr (nb_wr M 603 0 0) 603 11 0) 603 11 1) → Q [(0, (-100))] (nb_wr (nb_wr (nb_wr M 603 0 0) 603 11 0) 603 11 1))) ∧ (M.1 603 14 ≠ 0 → nb_W 121 0 [(20, 603)] [] (nb_wr (nb_wr M 603 0 0) 603 11 0) (fun r M6 => r = [] ∧ nb_Lay M6 ∧ nb_W 134 0 [(20, 603)] [] (nb_wr M6 603 26 (M6.1 606 2)) (fun r M13 => r = [] ∧ nb_Lay M13 ∧ nb_W 140 0 [(20, 603), (0, 0), (98, 0), (98, 0), (98, 0)] [] M13 (fun r M16 => ∃ x15 : Int, r = [(0, x15)] ∧ nb_Lay M16 ∧ -2147483648 ≤ 6 * (M16.1 603 25) ∧ 6 * (M16.1 603 25) ≤ 2147483647 ∧ 0 ≤ 6 * (M16.1 603 25) ∧ 6 * (M16.1 603 25) < 24 ∧ -2147483648 ≤ 6 * (M16.1 603 25) + 1 ∧ 6 * (M16.1 603 25) + 1 ≤ 2147483647 ∧ 0 ≤ 6 * (M16.1 603 25) + 1 ∧ 6 * (M16.1 603 25) + 1 < 24 ∧ -2147483648 ≤ 6 * (M16.1 603 25) + 2 ∧ 6 * (M16.1 603 25) + 2 ≤ 2147483647 ∧ 0 ≤ 6 * (M16.1 603 25) + 2 ∧ 6 * (M16.1 603 25) + 2 < 24 ∧ -2147483648 ≤ 6 * (M16.1 603 25) + 3 ∧ 6 * (M16.1 603 25) + 3 ≤ 2147483647 ∧ -2147483648 ≤ M16.1 606 1 - 1 ∧ M16.1 606 1 - 1 ≤ 2147483647 ∧ 0 ≤ 6 * (M16.1 603 25) + 3 ∧ 6 * (M16.1 603 25) + 3 < 24 ∧ -2147483648 ≤ 6 * (M16.1 603 25) + 4 ∧ 6 * (M16.1 603 25) + 4 ≤ 2147483647 ∧ 0 ≤ 6 * (M16.1 603 25) + 4 ∧ 6 * (M16.1 603 25) + 4 < 24 ∧ -2147483648 ≤ 6 * (M16.1 603 25) + 5 ∧ 6 * (M16.1 603 25) + 5 ≤ 2147483647 ∧ 0 ≤ 6 * (M16.1 603 25) + 5 ∧ 6 * (M16.1 603 25) + 5 < 24 ∧ -2147483648 ≤ 4 * (M16.1 603 25) ∧ 4 * (M16.1 603 25) ≤ 2147483647 ∧ -2147483648 ≤ 92 + 4 * (M16.1 603 25) ∧ 92 + 4 * (M16.1 603 25) ≤ 2147483647 ∧ 0 ≤ 92 + 4 * (M16.1 603 25) ∧ 92 + 4 * (M16.1 603 25) < 108 ∧ nb_W 164 14 [(20, 603), (0, x15), (0, 6 * (M16.1 603 25)), (0, 92 + 4 * (M16.1 603 25)), (0, 1)] [] (nb_wr (nb_wr (nb_wr (nb_wr (nb_wr (nb_wr (nb_wr M16 612 (6 * (M16.1 603 25)) 3) 612 (6 * (M16.1 603 25) + 1) (nb_div (M16.1 606 1) 2)) 612 (6 * (M16.1 603 25) + 2) 0) 612 (6 * (M16.1 603 25) + 3) (M16.1 606 1 - 1)) 612 (6 * (M16.1 603 25) + 4) 1) 612 (6 * (M16.1 603 25) + 5) 1) 608 (92 + 4 * (M16.1 603 25)) ((nb_wr (nb_wr (nb_wr (nb_wr (nb_wr (nb_wr M16 612 (6 * (M16.1 603 25)) 3) 612 (6 * (M16.1 603 25) + 1) (nb_div (M16.1 606 1) 2)) 612 (6 * (M16.1 603 25) + 2) 0) 612 (6 * (M16.1 603 25) + 3) (M16.1 606 1 - 1)) 612 (6 * (M16.1 603 25) + 4) 1) 612 (6 * (M16.1 603 25) + 5) 1).1 612 (6 * (M16.1 603 25) + 1))) Q))))) :
    nb_W 164 0 [(20, 603), v1, v2, v3, v4] [] M Q := by
  replace H := nb_Hw H
  refine nb_Wg (q_m_hand_0 _ _ _ _ _ _ (by omega)) ?_
  refine nb_Gb ?_
  refine nb_Wg (q_m_good_0 _ _ (by omega)) ?_
  have W1 : nb_Lay (nb_wr M 603 0 0) := W.wr (fun w => (nb_nlit (by decide) (by decide)))
  refine nb_Gr ?_
  refine nb_Wg (q_m_good_1 _ _ (by omega)) ?_
  have W2 : nb_Lay (nb_wr (nb_wr M 603 0 0) 603 11 0) := W1.wr (fun w => (nb_nlit (by decide) (by decide)))
  refine nb_Gr ?_
  refine nb_Wg (q_m_good_2 _ _) ?_
  refine nb_Gs ?_
  show nb_W 164 1 [(20, 603), v1, v2, v3, v4] [] (nb_wr (nb_wr M 603 0 0) 603 11 0) _
  obtain ⟨p0_, p1_, H⟩ := H
  replace H := nb_Hw H
  have E3 : nb_rd (nb_wr (nb_wr M 603 0 0) 603 11 0) 603 14 = M.1 603 14 := nb_rdw (Or.inr (by decide)) (nb_rdw (Or.inr (by decide)) (nb_rd_1 _ _ _))
  refine nb_Wg (q_m_hand_1 _ _ _ _ _ _ (by omega)) ?_
  simp only [E3]
  clear E3
  refine nb_Gi (fun c61 => ?_) (fun c61 => ?_)
  · have H := nb_Hw ((nb_Hu H).1 c61)
    refine nb_Gr ?_
    refine nb_Wg (q_m_hand_2 _ _ _ _ _ _ (by omega)) ?_
    refine nb_Gb ?_
    refine nb_Wg (q_m_noLess_0 _ _ _ (by omega)) ?_
    have W4 : nb_Lay (nb_wr (nb_wr (nb_wr M 603 0 0) 603 11 0) 603 11 1) := W2.wr (fun w => (nb_nlit (by decide) (by decide)))
    refine nb_Gr ?_
    refine nb_Wg (q_m_noLess_1 _ _ _) ?_
    refine nb_Gs ?_
    show nb_W 164 3 [(20, 603), v1, v2, v3, v4] [(0, (-100))] (nb_wr (nb_wr (nb_wr M 603 0 0) 603 11 0) 603 11 1) _
    refine nb_Wg (q_m_hand_3 _ _ _ _ _ _ _) ?_
    refine nb_Gs ?_
    exact nb_Hu H W4
  · have H := nb_Hw ((nb_Hu H).2 (by omega))
    have c61 : M.1 603 14 ≠ 0 := by omega
    refine nb_Gr ?_
    refine nb_Wg (q_m_hand_4 _ _ _ _ _ _ (by omega)) ?_
    refine nb_Gb ?_
    refine nb_Wg (q_m_tellEvening_0 _ _ (by omega)) ?_
    refine nb_Gb ?_
    refine nb_W.imp (nb_Hu H) (fun r M6 H => ?_)
    obtain ⟨rfl, W7, H⟩ := H
    replace H := nb_Hw H
    show nb_W 150 1 [(20, 603)] [] M6 _
    have E8 : nb_rd M6 603 15 = 606 := W7.m15
    have N9 : nb_ln M6 606 = 347 := W7.lk (by decide) (by decide +kernel)
    have E10 : nb_rd M6 606 2 = M6.1 606 2 := nb_rd_1 _ _ _
    refine nb_Wg (q_m_tellEvening_1 _ _ (by omega) (by rw [E8]; first | done | omega) (by omega) (by rw [E8, N9]; first | done | omega)) ?_
    simp only [E8, E10]
    clear E8 N9 E10
    have W11 : nb_Lay (nb_wr M6 603 26 (M6.1 606 2)) := W7.wr (fun w => (nb_nlit (by decide) (by decide)))
    refine nb_Gr ?_
    refine nb_Wg (q_m_tellEvening_2 _ _ (by omega)) ?_
    refine nb_Gb ?_
    refine nb_W.imp (nb_Hu H) (fun r M13 H => ?_)
    obtain ⟨rfl, W14, H⟩ := H
    replace H := nb_Hw H
    show nb_W 150 3 [(20, 603)] [] M13 _
    refine nb_Wg (q_m_tellEvening_3 _ _) ?_
    refine nb_Gs ?_
    show nb_W 164 5 [(20, 603), v1, v2, v3, v4] [] M13 _
    refine nb_Wg (q_m_hand_5 _ _ _ _ _ _ (by omega)) ?_
    refine nb_Gb ?_
    refine nb_W.imp (nb_Hu H) (fun r M16 H => ?_)
    obtain ⟨x15, rfl, W17, H⟩ := H
    replace H := nb_Hw H
    show nb_W 164 6 [(20, 603), v1, v2, v3, v4] [(0, x15)] M16 _
    obtain ⟨p0_, p1_, p2_, p3_, H⟩ := H
    replace H := nb_Hw H
    have E18 : nb_rd M16 603 25 = M16.1 603 25 := nb_rd_1 _ _ _
    have E19 : nb_mul 6 (M16.1 603 25) = 6 * (M16.1 603 25) := nb_mul_eq (by omega) (by omega)
    have E20 : nb_rd M16 603 23 = 612 := W17.m23
    have E21 : nb_add (6 * (M16.1 603 25)) 0 = 6 * (M16.1 603 25) := (nb_add_eq (x := 6 * (M16.1 603 25)) (y := 0) (by omega) (by omega)).trans (by omega)
    have N22 : nb_ln M16 612 = 24 := W17.lk (by decide) (by decide +kernel)
    refine nb_Wg (q_m_hand_6 _ _ _ _ _ _ _ (by omega) (by rw [E20]; first | done | omega) (by rw [E20]; first | done | omega) (by rw [E18, E19, E21]; first | done | omega) (by rw [E18, E19, E21, E20, N22]; first | done | omega)) ?_
    simp only [E18, E19, E20, E21]
    clear E18 E19 E20 E21 N22
    have W23 : nb_Lay (nb_wr M16 612 (6 * (M16.1 603 25)) 3) := W17.wr (fun w => (nb_nnum (by decide) (by decide)))
    refine nb_Gr ?_
    obtain ⟨p0_, p1_, p2_, p3_, H⟩ := H
    replace H := nb_Hw H
    have E24 : nb_rd (nb_wr M16 612 (6 * (M16.1 603 25)) 3) 603 23 = 612 := W23.m23
    have E25 : nb_add (6 * (M16.1 603 25)) 1 = 6 * (M16.1 603 25) + 1 := nb_add_eq (by omega) (by omega)
    have E26 : nb_rd (nb_wr M16 612 (6 * (M16.1 603 25)) 3) 603 15 = 606 := W23.m15
    have N27 : nb_ln (nb_wr M16 612 (6 * (M16.1 603 25)) 3) 606 = 347 := W23.lk (by decide) (by decide +kernel)
    have E28 : nb_rd (nb_wr M16 612 (6 * (M16.1 603 25)) 3) 606 1 = M16.1 606 1 := nb_rdw (Or.inl (by decide)) (nb_rd_1 _ _ _)
    have N29 : nb_ln (nb_wr M16 612 (6 * (M16.1 603 25)) 3) 612 = 24 := W23.lk (by decide) (by decide +kernel)
    refine nb_Wg (q_m_hand_7 _ _ _ _ _ _ (by omega) (by rw [E26]; first | done | omega) (by omega) (by rw [E26, N27]; first | done | omega) (by rw [E24]; first | done | omega) (by rw [E24]; first | done | omega) (by rw [E25]; first | done | omega) (by rw [E25, E24, N29]; first | done | omega)) ?_
    simp only [E24, E25, E26, E28]
    clear E24 E25 E26 N27 E28 N29
    have W30 : nb_Lay (nb_wr (nb_wr M16 612 (6 * (M16.1 603 25)) 3) 612 (6 * (M16.1 603 25) + 1) (nb_div (M16.1 606 1) 2)) := W23.wr (fun w => (nb_nnum (by decide) (by decide)))
    refine nb_Gr ?_
    obtain ⟨p0_, p1_, p2_, p3_, H⟩ := H
    replace H := nb_Hw H
    have E31 : nb_rd (nb_wr (nb_wr M16 612 (6 * (M16.1 603 25)) 3) 612 (6 * (M16.1 603 25) + 1) (nb_div (M16.1 606 1) 2)) 603 23 = 612 := W30.m23
    have E32 : nb_add (6 * (M16.1 603 25)) 2 = 6 * (M16.1 603 25) + 2 := nb_add_eq (by omega) (by omega)
    have N33 : nb_ln (nb_wr (nb_wr M16 612 (6 * (M16.1 603 25)) 3) 612 (6 * (M16.1 603 25) + 1) (nb_div (M16.1 606 1) 2)) 612 = 24 := W30.lk (by decide) (by decide +kernel)
    refine nb_Wg (q_m_hand_8 _ _ _ _ _ _ (by omega) (by rw [E31]; first | done | omega) (by rw [E31]; first | done | omega) (by rw [E32]; first | done | omega) (by rw [E32, E31, N33]; first | done | omega)) ?_
    simp only [E31, E32]
    clear E31 E32 N33
    have W34 : nb_Lay (nb_wr (nb_wr (nb_wr M16 612 (6 * (M16.1 603 25)) 3) 612 (6 * (M16.1 603 25) + 1) (nb_div (M16.1 606 1) 2)) 612 (6 * (M16.1 603 25) + 2) 0) := W30.wr (fun w => (nb_nnum (by decide) (by decide)))
    refine nb_Gr ?_
    obtain ⟨p0_, p1_, p2_, p3_, p4_, p5_, H⟩ := H
    replace H := nb_Hw H
    have E35 : nb_rd (nb_wr (nb_wr (nb_wr M16 612 (6 * (M16.1 603 25)) 3) 612 (6 * (M16.1 603 25) + 1) (nb_div (M16.1 606 1) 2)) 612 (6 * (M16.1 603 25) + 2) 0) 603 23 = 612 := W34.m23
    have E36 : nb_add (6 * (M16.1 603 25)) 3 = 6 * (M16.1 603 25) + 3 := nb_add_eq (by omega) (by omega)
    have E37 : nb_rd (nb_wr (nb_wr (nb_wr M16 612 (6 * (M16.1 603 25)) 3) 612 (6 * (M16.1 603 25) + 1) (nb_div (M16.1 606 1) 2)) 612 (6 * (M16.1 603 25) + 2) 0) 603 15 = 606 := W34.m15
    have N38 : nb_ln (nb_wr (nb_wr (nb_wr M16 612 (6 * (M16.1 603 25)) 3) 612 (6 * (M16.1 603 25) + 1) (nb_div (M16.1 606 1) 2)) 612 (6 * (M16.1 603 25) + 2) 0) 606 = 347 := W34.lk (by decide) (by decide +kernel)
    have E39 : nb_rd (nb_wr (nb_wr (nb_wr M16 612 (6 * (M16.1 603 25)) 3) 612 (6 * (M16.1 603 25) + 1) (nb_div (M16.1 606 1) 2)) 612 (6 * (M16.1 603 25) + 2) 0) 606 1 = M16.1 606 1 := nb_rdw (Or.inl (by decide)) (nb_rdw (Or.inl (by decide)) (nb_rdw (Or.inl (by decide)) (nb_rd_1 _ _ _)))
    have E40 : nb_sub (M16.1 606 1) 1 = M16.1 606 1 - 1 := nb_sub_eq (by omega) (by omega)
    have N41 : nb_ln (nb_wr (nb_wr (nb_wr M16 612 (6 * (M16.1 603 25)) 3) 612 (6 * (M16.1 603 25) + 1) (nb_div (M16.1 606 1) 2)) 612 (6 * (M16.1 603 25) + 2) 0) 612 = 24 := W34.lk (by decide) (by decide +kernel)
    refine nb_Wg (q_m_hand_9 _ _ _ _ _ _ (by omega) (by rw [E37]; first | done | omega) (by omega) (by rw [E37, N38]; first | done | omega) (by rw [E35]; first | done | omega) (by rw [E35]; first | done | omega) (by rw [E36]; first | done | omega) (by rw [E36, E35, N41]; first | done | omega)) ?_
    simp only [E35, E36, E37, E39, E40]
    clear E35 E36 E37 N38 E39 E40 N41
    have W42 : nb_Lay (nb_wr (nb_wr (nb_wr (nb_wr M16 612 (6 * (M16.1 603 25)) 3) 612 (6 * (M16.1 603 25) + 1) (nb_div (M16.1 606 1) 2)) 612 (6 * (M16.1 603 25) + 2) 0) 612 (6 * (M16.1 603 25) + 3) (M16.1 606 1 - 1)) := W34.wr (fun w => (nb_nnum (by decide) (by decide)))
    refine nb_Gr ?_
    obtain ⟨p0_, p1_, p2_, p3_, H⟩ := H
    replace H := nb_Hw H
    have E43 : nb_rd (nb_wr (nb_wr (nb_wr (nb_wr M16 612 (6 * (M16.1 603 25)) 3) 612 (6 * (M16.1 603 25) + 1) (nb_div (M16.1 606 1) 2)) 612 (6 * (M16.1 603 25) + 2) 0) 612 (6 * (M16.1 603 25) + 3) (M16.1 606 1 - 1)) 603 23 = 612 := W42.m23
    have E44 : nb_add (6 * (M16.1 603 25)) 4 = 6 * (M16.1 603 25) + 4 := nb_add_eq (by omega) (by omega)
    have N45 : nb_ln (nb_wr (nb_wr (nb_wr (nb_wr M16 612 (6 * (M16.1 603 25)) 3) 612 (6 * (M16.1 603 25) + 1) (nb_div (M16.1 606 1) 2)) 612 (6 * (M16.1 603 25) + 2) 0) 612 (6 * (M16.1 603 25) + 3) (M16.1 606 1 - 1)) 612 = 24 := W42.lk (by decide) (by decide +kernel)
    refine nb_Wg (q_m_hand_10 _ _ _ _ _ _ (by omega) (by rw [E43]; first | done | omega) (by rw [E43]; first | done | omega) (by rw [E44]; first | done | omega) (by rw [E44, E43, N45]; first | done | omega)) ?_
    simp only [E43, E44]
    clear E43 E44 N45
    have W46 : nb_Lay (nb_wr (nb_wr (nb_wr (nb_wr (nb_wr M16 612 (6 * (M16.1 603 25)) 3) 612 (6 * (M16.1 603 25) + 1) (nb_div (M16.1 606 1) 2)) 612 (6 * (M16.1 603 25) + 2) 0) 612 (6 * (M16.1 603 25) + 3) (M16.1 606 1 - 1)) 612 (6 * (M16.1 603 25) + 4) 1) := W42.wr (fun w => (nb_nnum (by decide) (by decide)))
    refine nb_Gr ?_
    obtain ⟨p0_, p1_, p2_, p3_, H⟩ := H
    replace H := nb_Hw H
    have E47 : nb_rd (nb_wr (nb_wr (nb_wr (nb_wr (nb_wr M16 612 (6 * (M16.1 603 25)) 3) 612 (6 * (M16.1 603 25) + 1) (nb_div (M16.1 606 1) 2)) 612 (6 * (M16.1 603 25) + 2) 0) 612 (6 * (M16.1 603 25) + 3) (M16.1 606 1 - 1)) 612 (6 * (M16.1 603 25) + 4) 1) 603 23 = 612 := W46.m23
    have E48 : nb_add (6 * (M16.1 603 25)) 5 = 6 * (M16.1 603 25) + 5 := nb_add_eq (by omega) (by omega)
    have N49 : nb_ln (nb_wr (nb_wr (nb_wr (nb_wr (nb_wr M16 612 (6 * (M16.1 603 25)) 3) 612 (6 * (M16.1 603 25) + 1) (nb_div (M16.1 606 1) 2)) 612 (6 * (M16.1 603 25) + 2) 0) 612 (6 * (M16.1 603 25) + 3) (M16.1 606 1 - 1)) 612 (6 * (M16.1 603 25) + 4) 1) 612 = 24 := W46.lk (by decide) (by decide +kernel)
    refine nb_Wg (q_m_hand_11 _ _ _ _ _ _ (by omega) (by rw [E47]; first | done | omega) (by rw [E47]; first | done | omega) (by rw [E48]; first | done | omega) (by rw [E48, E47, N49]; first | done | omega)) ?_
    simp only [E47, E48]
    clear E47 E48 N49
    have W50 : nb_Lay (nb_wr (nb_wr (nb_wr (nb_wr (nb_wr (nb_wr M16 612 (6 * (M16.1 603 25)) 3) 612 (6 * (M16.1 603 25) + 1) (nb_div (M16.1 606 1) 2)) 612 (6 * (M16.1 603 25) + 2) 0) 612 (6 * (M16.1 603 25) + 3) (M16.1 606 1 - 1)) 612 (6 * (M16.1 603 25) + 4) 1) 612 (6 * (M16.1 603 25) + 5) 1) := W46.wr (fun w => (nb_nnum (by decide) (by decide)))
    refine nb_Gr ?_
    obtain ⟨p0_, p1_, p2_, p3_, p4_, p5_, H⟩ := H
    replace H := nb_Hw H
    have E51 : nb_rd (nb_wr (nb_wr (nb_wr (nb_wr (nb_wr (nb_wr M16 612 (6 * (M16.1 603 25)) 3) 612 (6 * (M16.1 603 25) + 1) (nb_div (M16.1 606 1) 2)) 612 (6 * (M16.1 603 25) + 2) 0) 612 (6 * (M16.1 603 25) + 3) (M16.1 606 1 - 1)) 612 (6 * (M16.1 603 25) + 4) 1) 612 (6 * (M16.1 603 25) + 5) 1) 603 25 = M16.1 603 25 := nb_rdw (Or.inl (by decide)) (nb_rdw (Or.inl (by decide)) (nb_rdw (Or.inl (by decide)) (nb_rdw (Or.inl (by decide)) (nb_rdw (Or.inl (by decide)) (nb_rdw (Or.inl (by decide)) (nb_rd_1 _ _ _))))))
    have E52 : nb_mul 4 (M16.1 603 25) = 4 * (M16.1 603 25) := nb_mul_eq (by omega) (by omega)
    have E53 : nb_add 92 (4 * (M16.1 603 25)) = 92 + 4 * (M16.1 603 25) := (nb_add_eq (x := 92) (y := 4 * (M16.1 603 25)) (by omega) (by omega)).trans (by omega)
    have E54 : nb_rd (nb_wr (nb_wr (nb_wr (nb_wr (nb_wr (nb_wr M16 612 (6 * (M16.1 603 25)) 3) 612 (6 * (M16.1 603 25) + 1) (nb_div (M16.1 606 1) 2)) 612 (6 * (M16.1 603 25) + 2) 0) 612 (6 * (M16.1 603 25) + 3) (M16.1 606 1 - 1)) 612 (6 * (M16.1 603 25) + 4) 1) 612 (6 * (M16.1 603 25) + 5) 1) 603 17 = 608 := W50.m17
    have E55 : nb_rd (nb_wr (nb_wr (nb_wr (nb_wr (nb_wr (nb_wr M16 612 (6 * (M16.1 603 25)) 3) 612 (6 * (M16.1 603 25) + 1) (nb_div (M16.1 606 1) 2)) 612 (6 * (M16.1 603 25) + 2) 0) 612 (6 * (M16.1 603 25) + 3) (M16.1 606 1 - 1)) 612 (6 * (M16.1 603 25) + 4) 1) 612 (6 * (M16.1 603 25) + 5) 1) 603 23 = 612 := W50.m23
    have E56 : nb_add (6 * (M16.1 603 25)) 1 = 6 * (M16.1 603 25) + 1 := nb_add_eq (by omega) (by omega)
    have N57 : nb_ln (nb_wr (nb_wr (nb_wr (nb_wr (nb_wr (nb_wr M16 612 (6 * (M16.1 603 25)) 3) 612 (6 * (M16.1 603 25) + 1) (nb_div (M16.1 606 1) 2)) 612 (6 * (M16.1 603 25) + 2) 0) 612 (6 * (M16.1 603 25) + 3) (M16.1 606 1 - 1)) 612 (6 * (M16.1 603 25) + 4) 1) 612 (6 * (M16.1 603 25) + 5) 1) 612 = 24 := W50.lk (by decide) (by decide +kernel)
    have E58 : nb_rd (nb_wr (nb_wr (nb_wr (nb_wr (nb_wr (nb_wr M16 612 (6 * (M16.1 603 25)) 3) 612 (6 * (M16.1 603 25) + 1) (nb_div (M16.1 606 1) 2)) 612 (6 * (M16.1 603 25) + 2) 0) 612 (6 * (M16.1 603 25) + 3) (M16.1 606 1 - 1)) 612 (6 * (M16.1 603 25) + 4) 1) 612 (6 * (M16.1 603 25) + 5) 1) 612 (6 * (M16.1 603 25) + 1) = (nb_wr (nb_wr (nb_wr (nb_wr (nb_wr (nb_wr M16 612 (6 * (M16.1 603 25)) 3) 612 (6 * (M16.1 603 25) + 1) (nb_div (M16.1 606 1) 2)) 612 (6 * (M16.1 603 25) + 2) 0) 612 (6 * (M16.1 603 25) + 3) (M16.1 606 1 - 1)) 612 (6 * (M16.1 603 25) + 4) 1) 612 (6 * (M16.1 603 25) + 5) 1).1 612 (6 * (M16.1 603 25) + 1) := nb_rd_1 _ _ _
    have N59 : nb_ln (nb_wr (nb_wr (nb_wr (nb_wr (nb_wr (nb_wr M16 612 (6 * (M16.1 603 25)) 3) 612 (6 * (M16.1 603 25) + 1) (nb_div (M16.1 606 1) 2)) 612 (6 * (M16.1 603 25) + 2) 0) 612 (6 * (M16.1 603 25) + 3) (M16.1 606 1 - 1)) 612 (6 * (M16.1 603 25) + 4) 1) 612 (6 * (M16.1 603 25) + 5) 1) 608 = 108 := W50.lk (by decide) (by decide +kernel)
    refine nb_Wg (q_m_hand_12 _ _ _ _ _ _ (by omega) (by rw [E55]; first | done | omega) (by rw [E56]; first | done | omega) (by rw [E56, E55, N57]; first | done | omega) (by rw [E54]; first | done | omega) (by rw [E54]; first | done | omega) (by rw [E51, E52, E53]; first | done | omega) (by rw [E51, E52, E53, E54, N59]; first | done | omega)) ?_
    simp only [E51, E52, E53, E54, E55, E56, E58]
    clear E51 E52 E53 E54 E55 E56 N57 E58 N59
    have W60 : nb_Lay (nb_wr (nb_wr (nb_wr (nb_wr (nb_wr (nb_wr (nb_wr M16 612 (6 * (M16.1 603 25)) 3) 612 (6 * (M16.1 603 25) + 1) (nb_div (M16.1 606 1) 2)) 612 (6 * (M16.1 603 25) + 2) 0) 612 (6 * (M16.1 603 25) + 3) (M16.1 606 1 - 1)) 612 (6 * (M16.1 603 25) + 4) 1) 612 (6 * (M16.1 603 25) + 5) 1) 608 (92 + 4 * (M16.1 603 25)) ((nb_wr (nb_wr (nb_wr (nb_wr (nb_wr (nb_wr M16 612 (6 * (M16.1 603 25)) 3) 612 (6 * (M16.1 603 25) + 1) (nb_div (M16.1 606 1) 2)) 612 (6 * (M16.1 603 25) + 2) 0) 612 (6 * (M16.1 603 25) + 3) (M16.1 606 1 - 1)) 612 (6 * (M16.1 603 25) + 4) 1) 612 (6 * (M16.1 603 25) + 5) 1).1 612 (6 * (M16.1 603 25) + 1))) := W50.wr (fun w => (nb_nnum (by decide) (by decide)))
    refine nb_Gr ?_
    refine nb_Wg (q_m_hand_13 _ _ _ _ _ _) ?_
    refine nb_Gr ?_
    exact nb_Hu H

theorem w_m_hand_14 {l1 l3 l4 : Int} {v2 : nb_V} {M : nb_M} {Q : List nb_V → nb_M → Prop} (W : nb_Lay M)  (b0_ : 92 ≤ l3 ∧ l3 ≤ 104) (b1_ : 1 ≤ l4 ∧ l4 ≤ 4) (H : (l4 < 4 → nb_W 164 14 [(20, 603), (0, l1), v2, (0, l3), (0, l4 + 1)] [] (nb_wr M 608 (l3 + l4) 0) Q) ∧ (4 ≤ l4 → -2147483648 ≤ M.1 603 25 + 1 ∧ M.1 603 25 + 1 ≤ 2147483647 ∧ nb_W 134 0 [(20, 603)] [] (nb_wr M 603 25 (M.1 603 25 + 1)) (fun r M10 => r = [] ∧ nb_Lay M10 ∧ nb_W 164 20 [(20, 603), (0, l1), v2, (0, l3), (0, 0)] [] M10 Q))) :
    nb_W 164 14 [(20, 603), (0, l1), v2, (0, l3), (0, l4)] [] M Q := by
  replace H := nb_Hw H
  refine nb_Wg (q_m_hand_14 _ _ _ _ _ _) ?_
  refine nb_Gi (fun c12 => ?_) (fun c12 => ?_)
  · have H := nb_Hw ((nb_Hu H).1 c12)
    refine nb_Gr ?_
    have E1 : nb_rd M 603 17 = 608 := W.m17
    have E2 : nb_add l3 l4 = l3 + l4 := nb_add_eq (by omega) (by omega)
    have N3 : nb_ln M 608 = 108 := W.lk (by decide) (by decide +kernel)
    refine nb_Wg (q_m_hand_15 _ _ _ _ _ _ (by omega) (by rw [E1]; first | done | omega) (by rw [E1]; first | done | omega) (by rw [E2]; first | done | omega) (by rw [E2, E1, N3]; first | done | omega)) ?_
    simp only [E1, E2]
    clear E1 E2 N3
    have W4 : nb_Lay (nb_wr M 608 (l3 + l4) 0) := W.wr (fun w => (nb_nnum (by decide) (by decide)))
    refine nb_Gr ?_
    have E5 : nb_add l4 1 = l4 + 1 := nb_add_eq (by omega) (by omega)
    refine nb_Wg (q_m_hand_16 _ _ _ _ _ _) ?_
    simp only [E5]
    clear E5
    refine nb_Gr ?_
    exact nb_Hu H
  · have H := nb_Hw ((nb_Hu H).2 (by omega))
    have c12 : 4 ≤ l4 := by omega
    refine nb_Gr ?_
    obtain ⟨p0_, p1_, H⟩ := H
    replace H := nb_Hw H
    have E6 : nb_rd M 603 25 = M.1 603 25 := nb_rd_1 _ _ _
    have E7 : nb_add (M.1 603 25) 1 = M.1 603 25 + 1 := nb_add_eq (by omega) (by omega)
    refine nb_Wg (q_m_hand_17 _ _ _ _ _ _ (by omega)) ?_
    simp only [E6, E7]
    clear E6 E7
    have W8 : nb_Lay (nb_wr M 603 25 (M.1 603 25 + 1)) := W.wr (fun w => (nb_nlit (by decide) (by decide)))
    refine nb_Gr ?_
    refine nb_Wg (q_m_hand_18 _ _ _ _ _ _ (by omega)) ?_
    refine nb_Gb ?_
    refine nb_W.imp (nb_Hu H) (fun r M10 H => ?_)
    obtain ⟨rfl, W11, H⟩ := H
    replace H := nb_Hw H
    show nb_W 164 19 [(20, 603), (0, l1), v2, (0, l3), (0, l4)] [] M10 _
    refine nb_Wg (q_m_hand_19 _ _ _ _ _ _) ?_
    refine nb_Gr ?_
    exact nb_Hu H

theorem w_m_hand_20 {l1 l3 l4 : Int} {v2 : nb_V} {M : nb_M} {Q : List nb_V → nb_M → Prop} (W : nb_Lay M)  (b0_ : 92 ≤ l3 ∧ l3 ≤ 104) (b1_ : 0 ≤ l4 ∧ l4 ≤ 4) (H : (l4 < 4 → nb_W 164 20 [(20, 603), (0, l1), v2, (0, l3), (0, l4 + 1)] [] (nb_wr M 608 (l3 + l4) 0) Q) ∧ (4 ≤ l4 → nb_W 140 0 [(20, 603), (0, 0), (98, 0), (98, 0), (98, 0)] [] M (fun r M7 => ∃ x6 : Int, r = [(0, x6)] ∧ nb_Lay M7 ∧ -2147483648 ≤ x6 - l1 ∧ x6 - l1 ≤ 2147483647 ∧ (nb_Lay M7 → Q [(0, x6 - l1)] M7)))) :
    nb_W 164 20 [(20, 603), (0, l1), v2, (0, l3), (0, l4)] [] M Q := by
  replace H := nb_Hw H
  refine nb_Wg (q_m_hand_20 _ _ _ _ _ _) ?_
  refine nb_Gi (fun c10 => ?_) (fun c10 => ?_)
  · have H := nb_Hw ((nb_Hu H).1 c10)
    refine nb_Gr ?_
    have E1 : nb_rd M 603 17 = 608 := W.m17
    have E2 : nb_add l3 l4 = l3 + l4 := nb_add_eq (by omega) (by omega)
    have N3 : nb_ln M 608 = 108 := W.lk (by decide) (by decide +kernel)
    refine nb_Wg (q_m_hand_21 _ _ _ _ _ _ (by omega) (by rw [E1]; first | done | omega) (by rw [E1]; first | done | omega) (by rw [E2]; first | done | omega) (by rw [E2, E1, N3]; first | done | omega)) ?_
    simp only [E1, E2]
    clear E1 E2 N3
    have W4 : nb_Lay (nb_wr M 608 (l3 + l4) 0) := W.wr (fun w => (nb_nnum (by decide) (by decide)))
    refine nb_Gr ?_
    have E5 : nb_add l4 1 = l4 + 1 := nb_add_eq (by omega) (by omega)
    refine nb_Wg (q_m_hand_22 _ _ _ _ _ _) ?_
    simp only [E5]
    clear E5
    refine nb_Gr ?_
    exact nb_Hu H
  · have H := nb_Hw ((nb_Hu H).2 (by omega))
    have c10 : 4 ≤ l4 := by omega
    refine nb_Gr ?_
    refine nb_Wg (q_m_hand_23 _ _ _ _ _ _ (by omega)) ?_
    refine nb_Gb ?_
    refine nb_W.imp (nb_Hu H) (fun r M7 H => ?_)
    obtain ⟨x6, rfl, W8, H⟩ := H
    replace H := nb_Hw H
    show nb_W 164 24 [(20, 603), (0, l1), v2, (0, l3), (0, l4)] [(0, x6)] M7 _
    obtain ⟨p0_, p1_, H⟩ := H
    replace H := nb_Hw H
    have E9 : nb_sub x6 l1 = x6 - l1 := nb_sub_eq (by omega) (by omega)
    refine nb_Wg (q_m_hand_24 _ _ _ _ _ _ _) ?_
    simp only [E9]
    clear E9
    refine nb_Gs ?_
    exact nb_Hu H W8

theorem w_m_beforehand_0 {l1 : Int} {v2 : nb_V} {M : nb_M} {Q : List nb_V → nb_M → Prop} (W : nb_Lay M) (H : 0 ≤ M.1 603 14 ∧ M.1 603 14 ≤ 1 ∧ (M.1 603 14 = 0 → (nb_Lay (nb_wr (nb_wr (nb_wr M 603 0 0) 603 11 0) 603 11 1) → Q [(0, (-1000))] (nb_wr (nb_wr (nb_wr M 603 0 0) 603 11 0) 603 11 1))) ∧ (M.1 603 14 ≠ 0 → 0 ≤ M.1 606 5 ∧ M.1 606 5 ≤ 10 ∧ (l1 < 0 → (nb_Lay (nb_wr (nb_wr (nb_wr M 603 0 0) 603 11 0) 603 11 1) → Q [(0, (-1000))] (nb_wr (nb_wr (nb_wr M 603 0 0) 603 11 0) 603 11 1))) ∧ (0 ≤ l1 → (M.1 606 5 - 1 < l1 → (nb_Lay (nb_wr (nb_wr (nb_wr M 603 0 0) 603 11 0) 603 11 1) → Q [(0, (-1000))] (nb_wr (nb_wr (nb_wr M 603 0 0) 603 11 0) 603 11 1))) ∧ (l1 ≤ M.1 606 5 - 1 → (M.1 608 (12 + 8 * l1) = 0 → (0 < M.1 606 (41 + 7 * l1 + 6) → (nb_Lay (nb_wr (nb_wr (nb_wr M 603 0 0) 603 11 0) 603 11 5) → Q [(0, (-1000))] (nb_wr (nb_wr (nb_wr M 603 0 0) 603 11 0) 603 11 5))) ∧ (M.1 606 (41 + 7 * l1 + 6) ≤ 0 → nb_W 121 0 [(20, 603)] [] (nb_wr (nb_wr M 603 0 0) 603 11 0) (fun r M33 => r = [] ∧ nb_Lay M33 ∧ nb_W 134 0 [(20, 603)] [] (nb_wr M33 603 26 (M33.1 606 2)) (fun r M40 => r = [] ∧ nb_Lay M40 ∧ nb_W 140 0 [(20, 603), (0, 3), (98, 0), (98, 0), (98, 0)] [] M40 (fun r M43 => ∃ x42 : Int, r = [(0, x42)] ∧ nb_Lay M43 ∧ -2147483648 ≤ 7 * l1 ∧ 7 * l1 ≤ 2147483647 ∧ -2147483648 ≤ 7 * l1 + 6 ∧ 7 * l1 + 6 ≤ 2147483647 ∧ -2147483648 ≤ 7 * l1 + 2 ∧ 7 * l1 + 2 ≤ 2147483647 ∧ 0 ≤ 7 * l1 + 2 ∧ 7 * l1 + 2 < 70 ∧ -2147483648 ≤ M43.1 613 (7 * l1 + 2) + 1 ∧ M43.1 613 (7 * l1 + 2) + 1 ≤ 2147483647 ∧ 0 ≤ 7 * l1 + 6 ∧ 7 * l1 + 6 < 70 ∧ nb_W 134 0 [(20, 603)] [] (nb_wr M43 613 (7 * l1 + 6) (M43.1 613 (7 * l1 + 2) + 1)) (fun r M57 => r = [] ∧ nb_Lay M57 ∧ nb_W 140 0 [(20, 603), (0, 3), (98, 0), (98, 0), (98, 0)] [] M57 (fun r M60 => ∃ x59 : Int, r = [(0, x59)] ∧ nb_Lay M60 ∧ -2147483648 ≤ x42 - x59 ∧ x42 - x59 ≤ 2147483647 ∧ (nb_Lay M60 → Q [(0, x42 - x59)] M60)))))))) ∧ (M.1 608 (12 + 8 * l1) ≠ 0 → (nb_Lay (nb_wr (nb_wr (nb_wr M 603 0 0) 603 11 0) 603 11 5) → Q [(0, (-1000))] (nb_wr (nb_wr (nb_wr M 603 0 0) 603 11 0) 603 11 5))))))) :
    nb_W 166 0 [(20, 603), (0, l1), v2] [] M Q := by
  replace H := nb_Hw H
  refine nb_Wg (q_m_beforehand_0 _ _ _ _ (by omega)) ?_
  refine nb_Gb ?_
  refine nb_Wg (q_m_good_0 _ _ (by omega)) ?_
  have W1 : nb_Lay (nb_wr M 603 0 0) := W.wr (fun w => (nb_nlit (by decide) (by decide)))
  refine nb_Gr ?_
  refine nb_Wg (q_m_good_1 _ _ (by omega)) ?_
  have W2 : nb_Lay (nb_wr (nb_wr M 603 0 0) 603 11 0) := W1.wr (fun w => (nb_nlit (by decide) (by decide)))
  refine nb_Gr ?_
  refine nb_Wg (q_m_good_2 _ _) ?_
  refine nb_Gs ?_
  show nb_W 166 1 [(20, 603), (0, l1), v2] [] (nb_wr (nb_wr M 603 0 0) 603 11 0) _
  refine nb_Wg (q_m_beforehand_1 _ _ _ _ (by omega)) ?_
  refine nb_Gb ?_
  obtain ⟨p0_, p1_, H⟩ := H
  replace H := nb_Hw H
  have E3 : nb_rd (nb_wr (nb_wr M 603 0 0) 603 11 0) 603 14 = M.1 603 14 := nb_rdw (Or.inr (by decide)) (nb_rdw (Or.inr (by decide)) (nb_rd_1 _ _ _))
  refine nb_Wg (q_m_isPerson_0 _ _ _ (by omega)) ?_
  simp only [E3]
  clear E3
  refine nb_Gi (fun c69 => ?_) (fun c69 => ?_)
  · have H := nb_Hw ((nb_Hu H).1 c69)
    refine nb_Gr ?_
    refine nb_Wg (q_m_isPerson_4 _ _ _) ?_
    refine nb_Gr ?_
    have E4 : nb_i2z 0 = 0 := by decide
    refine nb_Wg (q_m_isPerson_5 _ _ _ _) ?_
    simp only [E4]
    clear E4
    refine nb_Gs ?_
    show nb_W 166 2 [(20, 603), (0, l1), v2] [(0, 0)] (nb_wr (nb_wr M 603 0 0) 603 11 0) _
    refine nb_Wg (q_m_beforehand_2 _ _ _ _ _) ?_
    refine nb_Gt (by decide) ?_
    refine nb_Gr ?_
    refine nb_Wg (q_m_beforehand_3 _ _ _ _ (by omega)) ?_
    refine nb_Gb ?_
    refine nb_Wg (q_m_noLess_0 _ _ _ (by omega)) ?_
    have W5 : nb_Lay (nb_wr (nb_wr (nb_wr M 603 0 0) 603 11 0) 603 11 1) := W2.wr (fun w => (nb_nlit (by decide) (by decide)))
    refine nb_Gr ?_
    refine nb_Wg (q_m_noLess_1 _ _ _) ?_
    refine nb_Gs ?_
    show nb_W 166 4 [(20, 603), (0, l1), v2] [(0, (-1000))] (nb_wr (nb_wr (nb_wr M 603 0 0) 603 11 0) 603 11 1) _
    refine nb_Wg (q_m_beforehand_4 _ _ _ _ _) ?_
    refine nb_Gs ?_
    exact nb_Hu H W5
  · have H := nb_Hw ((nb_Hu H).2 (by omega))
    have c69 : M.1 603 14 ≠ 0 := by omega
    refine nb_Gr ?_
    obtain ⟨p0_, p1_, H⟩ := H
    replace H := nb_Hw H
    have E6 : nb_rd (nb_wr (nb_wr M 603 0 0) 603 11 0) 603 15 = 606 := W2.m15
    have N7 : nb_ln (nb_wr (nb_wr M 603 0 0) 603 11 0) 606 = 347 := W2.lk (by decide) (by decide +kernel)
    have E8 : nb_rd (nb_wr (nb_wr M 603 0 0) 603 11 0) 606 5 = M.1 606 5 := nb_rdw (Or.inl (by decide)) (nb_rdw (Or.inl (by decide)) (nb_rd_1 _ _ _))
    have E9 : nb_sub (M.1 606 5) 1 = M.1 606 5 - 1 := nb_sub_eq (by omega) (by omega)
    refine nb_Wg (q_m_isPerson_1 _ _ _ (by omega) (by rw [E6]; first | done | omega) (by omega) (by rw [E6, N7]; first | done | omega)) ?_
    simp only [E6, E8, E9]
    clear E6 N7 E8 E9
    refine nb_Gb ?_
    refine nb_Wg (q_m_within_0 _ _ _ _) ?_
    refine nb_Gi (fun c68 => ?_) (fun c68 => ?_)
    · have H := nb_Hw ((nb_Hu H).1 c68)
      refine nb_Gr ?_
      refine nb_Wg (q_m_within_3 _ _ _ _) ?_
      refine nb_Gr ?_
      have E10 : nb_i2z 0 = 0 := by decide
      refine nb_Wg (q_m_within_4 _ _ _ _ _) ?_
      simp only [E10]
      clear E10
      refine nb_Gs ?_
      show nb_W 116 2 [(20, 603), (0, l1)] [(0, 0)] (nb_wr (nb_wr M 603 0 0) 603 11 0) _
      refine nb_Wg (q_m_isPerson_2 _ _ _ _) ?_
      refine nb_Gt (by decide) ?_
      refine nb_Gr ?_
      refine nb_Wg (q_m_isPerson_4 _ _ _) ?_
      refine nb_Gr ?_
      have E11 : nb_i2z 0 = 0 := by decide
      refine nb_Wg (q_m_isPerson_5 _ _ _ _) ?_
      simp only [E11]
      clear E11
      refine nb_Gs ?_
      show nb_W 166 2 [(20, 603), (0, l1), v2] [(0, 0)] (nb_wr (nb_wr M 603 0 0) 603 11 0) _
      refine nb_Wg (q_m_beforehand_2 _ _ _ _ _) ?_
      refine nb_Gt (by decide) ?_
      refine nb_Gr ?_
      refine nb_Wg (q_m_beforehand_3 _ _ _ _ (by omega)) ?_
      refine nb_Gb ?_
      refine nb_Wg (q_m_noLess_0 _ _ _ (by omega)) ?_
      have W12 : nb_Lay (nb_wr (nb_wr (nb_wr M 603 0 0) 603 11 0) 603 11 1) := W2.wr (fun w => (nb_nlit (by decide) (by decide)))
      refine nb_Gr ?_
      refine nb_Wg (q_m_noLess_1 _ _ _) ?_
      refine nb_Gs ?_
      show nb_W 166 4 [(20, 603), (0, l1), v2] [(0, (-1000))] (nb_wr (nb_wr (nb_wr M 603 0 0) 603 11 0) 603 11 1) _
      refine nb_Wg (q_m_beforehand_4 _ _ _ _ _) ?_
      refine nb_Gs ?_
      exact nb_Hu H W12
    · have H := nb_Hw ((nb_Hu H).2 (by omega))
      have c68 : 0 ≤ l1 := by omega
      refine nb_Gr ?_
      refine nb_Wg (q_m_within_1 _ _ _ _) ?_
      refine nb_Gi (fun c67 => ?_) (fun c67 => ?_)
      · have H := nb_Hw ((nb_Hu H).1 c67)
        refine nb_Gr ?_
        refine nb_Wg (q_m_within_3 _ _ _ _) ?_
        refine nb_Gr ?_
        have E13 : nb_i2z 0 = 0 := by decide
        refine nb_Wg (q_m_within_4 _ _ _ _ _) ?_
        simp only [E13]
        clear E13
        refine nb_Gs ?_
        show nb_W 116 2 [(20, 603), (0, l1)] [(0, 0)] (nb_wr (nb_wr M 603 0 0) 603 11 0) _
        refine nb_Wg (q_m_isPerson_2 _ _ _ _) ?_
        refine nb_Gt (by decide) ?_
        refine nb_Gr ?_
        refine nb_Wg (q_m_isPerson_4 _ _ _) ?_
        refine nb_Gr ?_
        have E14 : nb_i2z 0 = 0 := by decide
        refine nb_Wg (q_m_isPerson_5 _ _ _ _) ?_
        simp only [E14]
        clear E14
        refine nb_Gs ?_
        show nb_W 166 2 [(20, 603), (0, l1), v2] [(0, 0)] (nb_wr (nb_wr M 603 0 0) 603 11 0) _
        refine nb_Wg (q_m_beforehand_2 _ _ _ _ _) ?_
        refine nb_Gt (by decide) ?_
        refine nb_Gr ?_
        refine nb_Wg (q_m_beforehand_3 _ _ _ _ (by omega)) ?_
        refine nb_Gb ?_
        refine nb_Wg (q_m_noLess_0 _ _ _ (by omega)) ?_
        have W15 : nb_Lay (nb_wr (nb_wr (nb_wr M 603 0 0) 603 11 0) 603 11 1) := W2.wr (fun w => (nb_nlit (by decide) (by decide)))
        refine nb_Gr ?_
        refine nb_Wg (q_m_noLess_1 _ _ _) ?_
        refine nb_Gs ?_
        show nb_W 166 4 [(20, 603), (0, l1), v2] [(0, (-1000))] (nb_wr (nb_wr (nb_wr M 603 0 0) 603 11 0) 603 11 1) _
        refine nb_Wg (q_m_beforehand_4 _ _ _ _ _) ?_
        refine nb_Gs ?_
        exact nb_Hu H W15
      · have H := nb_Hw ((nb_Hu H).2 (by omega))
        have c67 : l1 ≤ M.1 606 5 - 1 := by omega
        refine nb_Gr ?_
        refine nb_Wg (q_m_within_2 _ _ _ _) ?_
        refine nb_Gr ?_
        have E16 : nb_i2z 1 = 1 := by decide
        refine nb_Wg (q_m_within_4 _ _ _ _ _) ?_
        simp only [E16]
        clear E16
        refine nb_Gs ?_
        show nb_W 116 2 [(20, 603), (0, l1)] [(0, 1)] (nb_wr (nb_wr M 603 0 0) 603 11 0) _
        refine nb_Wg (q_m_isPerson_2 _ _ _ _) ?_
        refine nb_Gf (by decide) ?_
        refine nb_Gr ?_
        refine nb_Wg (q_m_isPerson_3 _ _ _) ?_
        refine nb_Gr ?_
        have E17 : nb_i2z 1 = 1 := by decide
        refine nb_Wg (q_m_isPerson_5 _ _ _ _) ?_
        simp only [E17]
        clear E17
        refine nb_Gs ?_
        show nb_W 166 2 [(20, 603), (0, l1), v2] [(0, 1)] (nb_wr (nb_wr M 603 0 0) 603 11 0) _
        refine nb_Wg (q_m_beforehand_2 _ _ _ _ _) ?_
        refine nb_Gf (by decide) ?_
        refine nb_Gr ?_
        refine nb_Wg (q_m_beforehand_5 _ _ _ _ (by omega)) ?_
        refine nb_Gb ?_
        have E18 : nb_rd (nb_wr (nb_wr M 603 0 0) 603 11 0) 603 17 = 608 := W2.m17
        refine nb_Wg (q_m_hasCome_0 _ _ _ (by omega)) ?_
        simp only [E18]
        clear E18
        refine nb_Gb ?_
        have E19 : nb_mul 8 l1 = 8 * l1 := nb_mul_eq (by omega) (by omega)
        have E20 : nb_add 12 (8 * l1) = 12 + 8 * l1 := (nb_add_eq (x := 12) (y := 8 * l1) (by omega) (by omega)).trans (by omega)
        have E21 : nb_add (12 + 8 * l1) 0 = 12 + 8 * l1 := (nb_add_eq (x := 12 + 8 * l1) (y := 0) (by omega) (by omega)).trans (by omega)
        have N22 : nb_ln (nb_wr (nb_wr M 603 0 0) 603 11 0) 608 = 108 := W2.lk (by decide) (by decide +kernel)
        have E23 : nb_rd (nb_wr (nb_wr M 603 0 0) 603 11 0) 608 (12 + 8 * l1) = M.1 608 (12 + 8 * l1) := nb_rdw (Or.inl (by decide)) (nb_rdw (Or.inl (by decide)) (nb_rd_1 _ _ _))
        refine nb_Wg (q_m_its_0 _ _ _ _ (by omega) (by rw [E19, E20, E21]; first | done | omega) (by rw [E19, E20, E21, N22]; first | done | omega)) ?_
        simp only [E19, E20, E21, E23]
        clear E19 E20 E21 N22 E23
        refine nb_Gs ?_
        show nb_W 165 1 [(20, 603), (0, l1)] [(0, M.1 608 (12 + 8 * l1))] (nb_wr (nb_wr M 603 0 0) 603 11 0) _
        refine nb_Wg (q_m_hasCome_1 _ _ _ _) ?_
        refine nb_Gi (fun c66 => ?_) (fun c66 => ?_)
        · have H := nb_Hw ((nb_Hu H).1 c66)
          refine nb_Gr ?_
          refine nb_Wg (q_m_hasCome_3 _ _ _) ?_
          refine nb_Gr ?_
          have E24 : nb_i2z 0 = 0 := by decide
          refine nb_Wg (q_m_hasCome_4 _ _ _ _) ?_
          simp only [E24]
          clear E24
          refine nb_Gs ?_
          show nb_W 166 6 [(20, 603), (0, l1), v2] [(0, 0)] (nb_wr (nb_wr M 603 0 0) 603 11 0) _
          refine nb_Wg (q_m_beforehand_6 _ _ _ _ _) ?_
          refine nb_Gt (by decide) ?_
          refine nb_Gr ?_
          have E25 : nb_rd (nb_wr (nb_wr M 603 0 0) 603 11 0) 603 15 = 606 := W2.m15
          have E26 : nb_mul 7 l1 = 7 * l1 := nb_mul_eq (by omega) (by omega)
          have E27 : nb_add 41 (7 * l1) = 41 + 7 * l1 := (nb_add_eq (x := 41) (y := 7 * l1) (by omega) (by omega)).trans (by omega)
          have E28 : nb_add (41 + 7 * l1) 6 = 41 + 7 * l1 + 6 := nb_add_eq (by omega) (by omega)
          have N29 : nb_ln (nb_wr (nb_wr M 603 0 0) 603 11 0) 606 = 347 := W2.lk (by decide) (by decide +kernel)
          have E30 : nb_rd (nb_wr (nb_wr M 603 0 0) 603 11 0) 606 (41 + 7 * l1 + 6) = M.1 606 (41 + 7 * l1 + 6) := nb_rdw (Or.inl (by decide)) (nb_rdw (Or.inl (by decide)) (nb_rd_1 _ _ _))
          refine nb_Wg (q_m_beforehand_7 _ _ _ _ (by omega) (by rw [E25]; first | done | omega) (by rw [E26, E27, E28]; first | done | omega) (by rw [E26, E27, E28, E25, N29]; first | done | omega)) ?_
          simp only [E25, E26, E27, E28, E30]
          clear E25 E26 E27 E28 N29 E30
          refine nb_Gi (fun c63 => ?_) (fun c63 => ?_)
          · have H := nb_Hw ((nb_Hu H).1 c63)
            refine nb_Gr ?_
            refine nb_Wg (q_m_beforehand_8 _ _ _ _ (by omega)) ?_
            have W31 : nb_Lay (nb_wr (nb_wr (nb_wr M 603 0 0) 603 11 0) 603 11 5) := W2.wr (fun w => (nb_nlit (by decide) (by decide)))
            refine nb_Gr ?_
            refine nb_Wg (q_m_beforehand_9 _ _ _ _) ?_
            refine nb_Gs ?_
            exact nb_Hu H W31
          · have H := nb_Hw ((nb_Hu H).2 (by omega))
            have c63 : M.1 606 (41 + 7 * l1 + 6) ≤ 0 := by omega
            refine nb_Gr ?_
            refine nb_Wg (q_m_beforehand_10 _ _ _ _ (by omega)) ?_
            refine nb_Gb ?_
            refine nb_Wg (q_m_tellEvening_0 _ _ (by omega)) ?_
            refine nb_Gb ?_
            refine nb_W.imp (nb_Hu H) (fun r M33 H => ?_)
            obtain ⟨rfl, W34, H⟩ := H
            replace H := nb_Hw H
            show nb_W 150 1 [(20, 603)] [] M33 _
            have E35 : nb_rd M33 603 15 = 606 := W34.m15
            have N36 : nb_ln M33 606 = 347 := W34.lk (by decide) (by decide +kernel)
            have E37 : nb_rd M33 606 2 = M33.1 606 2 := nb_rd_1 _ _ _
            refine nb_Wg (q_m_tellEvening_1 _ _ (by omega) (by rw [E35]; first | done | omega) (by omega) (by rw [E35, N36]; first | done | omega)) ?_
            simp only [E35, E37]
            clear E35 N36 E37
            have W38 : nb_Lay (nb_wr M33 603 26 (M33.1 606 2)) := W34.wr (fun w => (nb_nlit (by decide) (by decide)))
            refine nb_Gr ?_
            refine nb_Wg (q_m_tellEvening_2 _ _ (by omega)) ?_
            refine nb_Gb ?_
            refine nb_W.imp (nb_Hu H) (fun r M40 H => ?_)
            obtain ⟨rfl, W41, H⟩ := H
            replace H := nb_Hw H
            show nb_W 150 3 [(20, 603)] [] M40 _
            refine nb_Wg (q_m_tellEvening_3 _ _) ?_
            refine nb_Gs ?_
            show nb_W 166 11 [(20, 603), (0, l1), v2] [] M40 _
            refine nb_Wg (q_m_beforehand_11 _ _ _ _ (by omega)) ?_
            refine nb_Gb ?_
            refine nb_W.imp (nb_Hu H) (fun r M43 H => ?_)
            obtain ⟨x42, rfl, W44, H⟩ := H
            replace H := nb_Hw H
            show nb_W 166 12 [(20, 603), (0, l1), v2] [(0, x42)] M43 _
            obtain ⟨p0_, p1_, p2_, p3_, H⟩ := H
            replace H := nb_Hw H
            have E45 : nb_rd M43 603 24 = 613 := W44.m24
            have E46 : nb_mul 7 l1 = 7 * l1 := nb_mul_eq (by omega) (by omega)
            have E47 : nb_add (7 * l1) 6 = 7 * l1 + 6 := nb_add_eq (by omega) (by omega)
            refine nb_Wg (q_m_beforehand_12 _ _ _ _ _ (by omega)) ?_
            simp only [E45, E46, E47]
            clear E45 E46 E47
            refine nb_Gb ?_
            obtain ⟨p0_, p1_, p2_, p3_, H⟩ := H
            replace H := nb_Hw H
            have E48 : nb_rd M43 603 24 = 613 := W44.m24
            have E49 : nb_mul 7 l1 = 7 * l1 := nb_mul_eq (by omega) (by omega)
            have E50 : nb_add (7 * l1) 2 = 7 * l1 + 2 := nb_add_eq (by omega) (by omega)
            have N51 : nb_ln M43 613 = 70 := W44.lk (by decide) (by decide +kernel)
            have E52 : nb_rd M43 613 (7 * l1 + 2) = M43.1 613 (7 * l1 + 2) := nb_rd_1 _ _ _
            refine nb_Wg (q_m_man_0 _ _ _ _ (by omega) (by rw [E48]; first | done | omega) (by rw [E49, E50]; first | done | omega) (by rw [E49, E50, E48, N51]; first | done | omega)) ?_
            simp only [E48, E49, E50, E52]
            clear E48 E49 E50 N51 E52
            refine nb_Gs ?_
            show nb_W 166 13 [(20, 603), (0, l1), (0, x42)] [(0, M43.1 613 (7 * l1 + 2)), (0, 7 * l1 + 6), (3, 613)] M43 _
            obtain ⟨p0_, p1_, p2_, p3_, H⟩ := H
            replace H := nb_Hw H
            have E53 : nb_add (M43.1 613 (7 * l1 + 2)) 1 = M43.1 613 (7 * l1 + 2) + 1 := nb_add_eq (by omega) (by omega)
            have N54 : nb_ln M43 613 = 70 := W44.lk (by decide) (by decide +kernel)
            refine nb_Wg (q_m_beforehand_13 _ _ _ _ _ _ _ (by omega) (by omega) (by omega) (by rw [N54]; first | done | omega)) ?_
            simp only [E53]
            clear E53 N54
            have W55 : nb_Lay (nb_wr M43 613 (7 * l1 + 6) (M43.1 613 (7 * l1 + 2) + 1)) := W44.wr (fun w => (nb_nnum (by decide) (by decide)))
            refine nb_Gr ?_
            refine nb_Wg (q_m_beforehand_14 _ _ _ _ (by omega)) ?_
            refine nb_Gb ?_
            refine nb_W.imp (nb_Hu H) (fun r M57 H => ?_)
            obtain ⟨rfl, W58, H⟩ := H
            replace H := nb_Hw H
            show nb_W 166 15 [(20, 603), (0, l1), (0, x42)] [] M57 _
            refine nb_Wg (q_m_beforehand_15 _ _ _ _ (by omega)) ?_
            refine nb_Gb ?_
            refine nb_W.imp (nb_Hu H) (fun r M60 H => ?_)
            obtain ⟨x59, rfl, W61, H⟩ := H
            replace H := nb_Hw H
            show nb_W 166 16 [(20, 603), (0, l1), (0, x42)] [(0, x59), (0, x42)] M60 _
            obtain ⟨p0_, p1_, H⟩ := H
            replace H := nb_Hw H
            have E62 : nb_sub x42 x59 = x42 - x59 := nb_sub_eq (by omega) (by omega)
            refine nb_Wg (q_m_beforehand_16 _ _ _ _ _ _) ?_
            simp only [E62]
            clear E62
            refine nb_Gs ?_
            exact nb_Hu H W61
        · have H := nb_Hw ((nb_Hu H).2 (by omega))
          have c66 : M.1 608 (12 + 8 * l1) ≠ 0 := by omega
          refine nb_Gr ?_
          refine nb_Wg (q_m_hasCome_2 _ _ _) ?_
          refine nb_Gr ?_
          have E64 : nb_i2z 1 = 1 := by decide
          refine nb_Wg (q_m_hasCome_4 _ _ _ _) ?_
          simp only [E64]
          clear E64
          refine nb_Gs ?_
          show nb_W 166 6 [(20, 603), (0, l1), v2] [(0, 1)] (nb_wr (nb_wr M 603 0 0) 603 11 0) _
          refine nb_Wg (q_m_beforehand_6 _ _ _ _ _) ?_
          refine nb_Gf (by decide) ?_
          refine nb_Gr ?_
          refine nb_Wg (q_m_beforehand_8 _ _ _ _ (by omega)) ?_
          have W65 : nb_Lay (nb_wr (nb_wr (nb_wr M 603 0 0) 603 11 0) 603 11 5) := W2.wr (fun w => (nb_nlit (by decide) (by decide)))
          refine nb_Gr ?_
          refine nb_Wg (q_m_beforehand_9 _ _ _ _) ?_
          refine nb_Gs ?_
          exact nb_Hu H W65

theorem w_m_waitIfHas_0 {l1 : Int} {M : nb_M} {Q : List nb_V → nb_M → Prop} (W : nb_Lay M)  (b0_ : 0 ≤ l1 ∧ l1 ≤ 9) (H : nb_W 134 0 [(20, 603)] [] M (fun r M2 => r = [] ∧ nb_Lay M2 ∧ nb_W 135 0 [(20, 603), (0, l1)] [] M2 (fun r M5 => ∃ x4 : Int, r = [(0, x4)] ∧ nb_Lay M5 ∧ (x4 < 2 → nb_W 136 0 [(20, 603), (0, l1), (98, 0)] [] M5 (fun r M8 => ∃ x7 : Int, r = [(0, x7)] ∧ nb_Lay M8 ∧ (nb_Lay M8 → Q [(0, x7)] M8))) ∧ (2 ≤ x4 → (nb_Lay M5 → Q [(0, 1000000)] M5))))) :
    nb_W 167 0 [(20, 603), (0, l1)] [] M Q := by
  replace H := nb_Hw H
  refine nb_Wg (q_m_waitIfHas_0 _ _ _ (by omega)) ?_
  refine nb_Gb ?_
  refine nb_W.imp (nb_Hu H) (fun r M2 H => ?_)
  obtain ⟨rfl, W3, H⟩ := H
  replace H := nb_Hw H
  show nb_W 167 1 [(20, 603), (0, l1)] [] M2 _
  refine nb_Wg (q_m_waitIfHas_1 _ _ _ (by omega)) ?_
  refine nb_Gb ?_
  refine nb_W.imp (nb_Hu H) (fun r M5 H => ?_)
  obtain ⟨x4, rfl, W6, H⟩ := H
  replace H := nb_Hw H
  show nb_W 167 2 [(20, 603), (0, l1)] [(0, x4)] M5 _
  refine nb_Wg (q_m_waitIfHas_2 _ _ _ _) ?_
  refine nb_Gi (fun c10 => ?_) (fun c10 => ?_)
  · have H := nb_Hw ((nb_Hu H).1 c10)
    refine nb_Gr ?_
    refine nb_Wg (q_m_waitIfHas_3 _ _ _ (by omega)) ?_
    refine nb_Gb ?_
    refine nb_W.imp (nb_Hu H) (fun r M8 H => ?_)
    obtain ⟨x7, rfl, W9, H⟩ := H
    replace H := nb_Hw H
    show nb_W 167 4 [(20, 603), (0, l1)] [(0, x7)] M8 _
    refine nb_Wg (q_m_waitIfHas_4 _ _ _ _) ?_
    refine nb_Gr ?_
    refine nb_Wg (q_m_waitIfHas_6 _ _ _ _) ?_
    refine nb_Gs ?_
    exact nb_Hu H W9
  · have H := nb_Hw ((nb_Hu H).2 (by omega))
    have c10 : 2 ≤ x4 := by omega
    refine nb_Gr ?_
    refine nb_Wg (q_m_waitIfHas_5 _ _ _) ?_
    refine nb_Gr ?_
    refine nb_Wg (q_m_waitIfHas_6 _ _ _ _) ?_
    refine nb_Gs ?_
    exact nb_Hu H W6

theorem w_m_bestPlace_0 {l1 : Int} {v2 v3 v4 v5 v6 v7 : nb_V} {M : nb_M} {Q : List nb_V → nb_M → Prop} (W : nb_Lay M) (H : 0 ≤ M.1 603 14 ∧ M.1 603 14 ≤ 1 ∧ (M.1 603 14 = 0 → (nb_Lay (nb_wr (nb_wr (nb_wr M 603 0 0) 603 11 0) 603 11 1) → Q [(0, (-1))] (nb_wr (nb_wr (nb_wr M 603 0 0) 603 11 0) 603 11 1))) ∧ (M.1 603 14 ≠ 0 → 0 ≤ M.1 606 5 ∧ M.1 606 5 ≤ 10 ∧ (l1 < 0 → (nb_Lay (nb_wr (nb_wr (nb_wr M 603 0 0) 603 11 0) 603 11 1) → Q [(0, (-1))] (nb_wr (nb_wr (nb_wr M 603 0 0) 603 11 0) 603 11 1))) ∧ (0 ≤ l1 → (M.1 606 5 - 1 < l1 → (nb_Lay (nb_wr (nb_wr (nb_wr M 603 0 0) 603 11 0) 603 11 1) → Q [(0, (-1))] (nb_wr (nb_wr (nb_wr M 603 0 0) 603 11 0) 603 11 1))) ∧ (l1 ≤ M.1 606 5 - 1 → (M.1 608 (12 + 8 * l1) = 0 → nb_W 121 0 [(20, 603)] [] (nb_wr (nb_wr M 603 0 0) 603 11 0) (fun r M26 => r = [] ∧ nb_Lay M26 ∧ -2147483648 ≤ 8 * l1 ∧ 8 * l1 ≤ 2147483647 ∧ -2147483648 ≤ 12 + 8 * l1 ∧ 12 + 8 * l1 ≤ 2147483647 ∧ -2147483648 ≤ 12 + 8 * l1 + 1 ∧ 12 + 8 * l1 + 1 ≤ 2147483647 ∧ 0 ≤ 12 + 8 * l1 + 1 ∧ 12 + 8 * l1 + 1 < 108 ∧ nb_W 168 12 [(20, 603), (0, l1), (0, 12 + 8 * l1 + 1), (0, M26.1 608 (12 + 8 * l1 + 1)), (0, (-2)), (0, 1000000), (0, 0), v7] [] (nb_wr M26 603 26 (M26.1 606 2)) Q)) ∧ (M.1 608 (12 + 8 * l1) ≠ 0 → (nb_Lay (nb_wr (nb_wr (nb_wr M 603 0 0) 603 11 0) 603 11 5) → Q [(0, (-1))] (nb_wr (nb_wr (nb_wr M 603 0 0) 603 11 0) 603 11 5))))))) :
    nb_W 168 0 [(20, 603), (0, l1), v2, v3, v4, v5, v6, v7] [] M Q := by
  replace H := nb_Hw H
  refine nb_Wg (q_m_bestPlace_0 _ _ _ _ _ _ _ _ _ (by omega)) ?_
  refine nb_Gb ?_
  refine nb_Wg (q_m_good_0 _ _ (by omega)) ?_
  have W1 : nb_Lay (nb_wr M 603 0 0) := W.wr (fun w => (nb_nlit (by decide) (by decide)))
  refine nb_Gr ?_
  refine nb_Wg (q_m_good_1 _ _ (by omega)) ?_
  have W2 : nb_Lay (nb_wr (nb_wr M 603 0 0) 603 11 0) := W1.wr (fun w => (nb_nlit (by decide) (by decide)))
  refine nb_Gr ?_
  refine nb_Wg (q_m_good_2 _ _) ?_
  refine nb_Gs ?_
  show nb_W 168 1 [(20, 603), (0, l1), v2, v3, v4, v5, v6, v7] [] (nb_wr (nb_wr M 603 0 0) 603 11 0) _
  refine nb_Wg (q_m_bestPlace_1 _ _ _ _ _ _ _ _ _ (by omega)) ?_
  refine nb_Gb ?_
  obtain ⟨p0_, p1_, H⟩ := H
  replace H := nb_Hw H
  have E3 : nb_rd (nb_wr (nb_wr M 603 0 0) 603 11 0) 603 14 = M.1 603 14 := nb_rdw (Or.inr (by decide)) (nb_rdw (Or.inr (by decide)) (nb_rd_1 _ _ _))
  refine nb_Wg (q_m_isPerson_0 _ _ _ (by omega)) ?_
  simp only [E3]
  clear E3
  refine nb_Gi (fun c43 => ?_) (fun c43 => ?_)
  · have H := nb_Hw ((nb_Hu H).1 c43)
    refine nb_Gr ?_
    refine nb_Wg (q_m_isPerson_4 _ _ _) ?_
    refine nb_Gr ?_
    have E4 : nb_i2z 0 = 0 := by decide
    refine nb_Wg (q_m_isPerson_5 _ _ _ _) ?_
    simp only [E4]
    clear E4
    refine nb_Gs ?_
    show nb_W 168 2 [(20, 603), (0, l1), v2, v3, v4, v5, v6, v7] [(0, 0)] (nb_wr (nb_wr M 603 0 0) 603 11 0) _
    refine nb_Wg (q_m_bestPlace_2 _ _ _ _ _ _ _ _ _ _) ?_
    refine nb_Gt (by decide) ?_
    refine nb_Gr ?_
    refine nb_Wg (q_m_bestPlace_3 _ _ _ _ _ _ _ _ _ (by omega)) ?_
    refine nb_Gb ?_
    refine nb_Wg (q_m_no_0 _ _ _ (by omega)) ?_
    have W5 : nb_Lay (nb_wr (nb_wr (nb_wr M 603 0 0) 603 11 0) 603 11 1) := W2.wr (fun w => (nb_nlit (by decide) (by decide)))
    refine nb_Gr ?_
    refine nb_Wg (q_m_no_1 _ _ _) ?_
    refine nb_Gs ?_
    show nb_W 168 4 [(20, 603), (0, l1), v2, v3, v4, v5, v6, v7] [(0, (-1))] (nb_wr (nb_wr (nb_wr M 603 0 0) 603 11 0) 603 11 1) _
    refine nb_Wg (q_m_bestPlace_4 _ _ _ _ _ _ _ _ _ _) ?_
    refine nb_Gs ?_
    exact nb_Hu H W5
  · have H := nb_Hw ((nb_Hu H).2 (by omega))
    have c43 : M.1 603 14 ≠ 0 := by omega
    refine nb_Gr ?_
    obtain ⟨p0_, p1_, H⟩ := H
    replace H := nb_Hw H
    have E6 : nb_rd (nb_wr (nb_wr M 603 0 0) 603 11 0) 603 15 = 606 := W2.m15
    have N7 : nb_ln (nb_wr (nb_wr M 603 0 0) 603 11 0) 606 = 347 := W2.lk (by decide) (by decide +kernel)
    have E8 : nb_rd (nb_wr (nb_wr M 603 0 0) 603 11 0) 606 5 = M.1 606 5 := nb_rdw (Or.inl (by decide)) (nb_rdw (Or.inl (by decide)) (nb_rd_1 _ _ _))
    have E9 : nb_sub (M.1 606 5) 1 = M.1 606 5 - 1 := nb_sub_eq (by omega) (by omega)
    refine nb_Wg (q_m_isPerson_1 _ _ _ (by omega) (by rw [E6]; first | done | omega) (by omega) (by rw [E6, N7]; first | done | omega)) ?_
    simp only [E6, E8, E9]
    clear E6 N7 E8 E9
    refine nb_Gb ?_
    refine nb_Wg (q_m_within_0 _ _ _ _) ?_
    refine nb_Gi (fun c42 => ?_) (fun c42 => ?_)
    · have H := nb_Hw ((nb_Hu H).1 c42)
      refine nb_Gr ?_
      refine nb_Wg (q_m_within_3 _ _ _ _) ?_
      refine nb_Gr ?_
      have E10 : nb_i2z 0 = 0 := by decide
      refine nb_Wg (q_m_within_4 _ _ _ _ _) ?_
      simp only [E10]
      clear E10
      refine nb_Gs ?_
      show nb_W 116 2 [(20, 603), (0, l1)] [(0, 0)] (nb_wr (nb_wr M 603 0 0) 603 11 0) _
      refine nb_Wg (q_m_isPerson_2 _ _ _ _) ?_
      refine nb_Gt (by decide) ?_
      refine nb_Gr ?_
      refine nb_Wg (q_m_isPerson_4 _ _ _) ?_
      refine nb_Gr ?_
      have E11 : nb_i2z 0 = 0 := by decide
      refine nb_Wg (q_m_isPerson_5 _ _ _ _) ?_
      simp only [E11]
      clear E11
      refine nb_Gs ?_
      show nb_W 168 2 [(20, 603), (0, l1), v2, v3, v4, v5, v6, v7] [(0, 0)] (nb_wr (nb_wr M 603 0 0) 603 11 0) _
      refine nb_Wg (q_m_bestPlace_2 _ _ _ _ _ _ _ _ _ _) ?_
      refine nb_Gt (by decide) ?_
      refine nb_Gr ?_
      refine nb_Wg (q_m_bestPlace_3 _ _ _ _ _ _ _ _ _ (by omega)) ?_
      refine nb_Gb ?_
      refine nb_Wg (q_m_no_0 _ _ _ (by omega)) ?_
      have W12 : nb_Lay (nb_wr (nb_wr (nb_wr M 603 0 0) 603 11 0) 603 11 1) := W2.wr (fun w => (nb_nlit (by decide) (by decide)))
      refine nb_Gr ?_
      refine nb_Wg (q_m_no_1 _ _ _) ?_
      refine nb_Gs ?_
      show nb_W 168 4 [(20, 603), (0, l1), v2, v3, v4, v5, v6, v7] [(0, (-1))] (nb_wr (nb_wr (nb_wr M 603 0 0) 603 11 0) 603 11 1) _
      refine nb_Wg (q_m_bestPlace_4 _ _ _ _ _ _ _ _ _ _) ?_
      refine nb_Gs ?_
      exact nb_Hu H W12
    · have H := nb_Hw ((nb_Hu H).2 (by omega))
      have c42 : 0 ≤ l1 := by omega
      refine nb_Gr ?_
      refine nb_Wg (q_m_within_1 _ _ _ _) ?_
      refine nb_Gi (fun c41 => ?_) (fun c41 => ?_)
      · have H := nb_Hw ((nb_Hu H).1 c41)
        refine nb_Gr ?_
        refine nb_Wg (q_m_within_3 _ _ _ _) ?_
        refine nb_Gr ?_
        have E13 : nb_i2z 0 = 0 := by decide
        refine nb_Wg (q_m_within_4 _ _ _ _ _) ?_
        simp only [E13]
        clear E13
        refine nb_Gs ?_
        show nb_W 116 2 [(20, 603), (0, l1)] [(0, 0)] (nb_wr (nb_wr M 603 0 0) 603 11 0) _
        refine nb_Wg (q_m_isPerson_2 _ _ _ _) ?_
        refine nb_Gt (by decide) ?_
        refine nb_Gr ?_
        refine nb_Wg (q_m_isPerson_4 _ _ _) ?_
        refine nb_Gr ?_
        have E14 : nb_i2z 0 = 0 := by decide
        refine nb_Wg (q_m_isPerson_5 _ _ _ _) ?_
        simp only [E14]
        clear E14
        refine nb_Gs ?_
        show nb_W 168 2 [(20, 603), (0, l1), v2, v3, v4, v5, v6, v7] [(0, 0)] (nb_wr (nb_wr M 603 0 0) 603 11 0) _
        refine nb_Wg (q_m_bestPlace_2 _ _ _ _ _ _ _ _ _ _) ?_
        refine nb_Gt (by decide) ?_
        refine nb_Gr ?_
        refine nb_Wg (q_m_bestPlace_3 _ _ _ _ _ _ _ _ _ (by omega)) ?_
        refine nb_Gb ?_
        refine nb_Wg (q_m_no_0 _ _ _ (by omega)) ?_
        have W15 : nb_Lay (nb_wr (nb_wr (nb_wr M 603 0 0) 603 11 0) 603 11 1) := W2.wr (fun w => (nb_nlit (by decide) (by decide)))
        refine nb_Gr ?_
        refine nb_Wg (q_m_no_1 _ _ _) ?_
        refine nb_Gs ?_
        show nb_W 168 4 [(20, 603), (0, l1), v2, v3, v4, v5, v6, v7] [(0, (-1))] (nb_wr (nb_wr (nb_wr M 603 0 0) 603 11 0) 603 11 1) _
        refine nb_Wg (q_m_bestPlace_4 _ _ _ _ _ _ _ _ _ _) ?_
        refine nb_Gs ?_
        exact nb_Hu H W15
      · have H := nb_Hw ((nb_Hu H).2 (by omega))
        have c41 : l1 ≤ M.1 606 5 - 1 := by omega
        refine nb_Gr ?_
        refine nb_Wg (q_m_within_2 _ _ _ _) ?_
        refine nb_Gr ?_
        have E16 : nb_i2z 1 = 1 := by decide
        refine nb_Wg (q_m_within_4 _ _ _ _ _) ?_
        simp only [E16]
        clear E16
        refine nb_Gs ?_
        show nb_W 116 2 [(20, 603), (0, l1)] [(0, 1)] (nb_wr (nb_wr M 603 0 0) 603 11 0) _
        refine nb_Wg (q_m_isPerson_2 _ _ _ _) ?_
        refine nb_Gf (by decide) ?_
        refine nb_Gr ?_
        refine nb_Wg (q_m_isPerson_3 _ _ _) ?_
        refine nb_Gr ?_
        have E17 : nb_i2z 1 = 1 := by decide
        refine nb_Wg (q_m_isPerson_5 _ _ _ _) ?_
        simp only [E17]
        clear E17
        refine nb_Gs ?_
        show nb_W 168 2 [(20, 603), (0, l1), v2, v3, v4, v5, v6, v7] [(0, 1)] (nb_wr (nb_wr M 603 0 0) 603 11 0) _
        refine nb_Wg (q_m_bestPlace_2 _ _ _ _ _ _ _ _ _ _) ?_
        refine nb_Gf (by decide) ?_
        refine nb_Gr ?_
        refine nb_Wg (q_m_bestPlace_5 _ _ _ _ _ _ _ _ _ (by omega)) ?_
        refine nb_Gb ?_
        have E18 : nb_rd (nb_wr (nb_wr M 603 0 0) 603 11 0) 603 17 = 608 := W2.m17
        refine nb_Wg (q_m_hasCome_0 _ _ _ (by omega)) ?_
        simp only [E18]
        clear E18
        refine nb_Gb ?_
        have E19 : nb_mul 8 l1 = 8 * l1 := nb_mul_eq (by omega) (by omega)
        have E20 : nb_add 12 (8 * l1) = 12 + 8 * l1 := (nb_add_eq (x := 12) (y := 8 * l1) (by omega) (by omega)).trans (by omega)
        have E21 : nb_add (12 + 8 * l1) 0 = 12 + 8 * l1 := (nb_add_eq (x := 12 + 8 * l1) (y := 0) (by omega) (by omega)).trans (by omega)
        have N22 : nb_ln (nb_wr (nb_wr M 603 0 0) 603 11 0) 608 = 108 := W2.lk (by decide) (by decide +kernel)
        have E23 : nb_rd (nb_wr (nb_wr M 603 0 0) 603 11 0) 608 (12 + 8 * l1) = M.1 608 (12 + 8 * l1) := nb_rdw (Or.inl (by decide)) (nb_rdw (Or.inl (by decide)) (nb_rd_1 _ _ _))
        refine nb_Wg (q_m_its_0 _ _ _ _ (by omega) (by rw [E19, E20, E21]; first | done | omega) (by rw [E19, E20, E21, N22]; first | done | omega)) ?_
        simp only [E19, E20, E21, E23]
        clear E19 E20 E21 N22 E23
        refine nb_Gs ?_
        show nb_W 165 1 [(20, 603), (0, l1)] [(0, M.1 608 (12 + 8 * l1))] (nb_wr (nb_wr M 603 0 0) 603 11 0) _
        refine nb_Wg (q_m_hasCome_1 _ _ _ _) ?_
        refine nb_Gi (fun c40 => ?_) (fun c40 => ?_)
        · have H := nb_Hw ((nb_Hu H).1 c40)
          refine nb_Gr ?_
          refine nb_Wg (q_m_hasCome_3 _ _ _) ?_
          refine nb_Gr ?_
          have E24 : nb_i2z 0 = 0 := by decide
          refine nb_Wg (q_m_hasCome_4 _ _ _ _) ?_
          simp only [E24]
          clear E24
          refine nb_Gs ?_
          show nb_W 168 6 [(20, 603), (0, l1), v2, v3, v4, v5, v6, v7] [(0, 0)] (nb_wr (nb_wr M 603 0 0) 603 11 0) _
          refine nb_Wg (q_m_bestPlace_6 _ _ _ _ _ _ _ _ _ _) ?_
          refine nb_Gt (by decide) ?_
          refine nb_Gr ?_
          refine nb_Wg (q_m_bestPlace_9 _ _ _ _ _ _ _ _ _ (by omega)) ?_
          refine nb_Gb ?_
          refine nb_W.imp (nb_Hu H) (fun r M26 H => ?_)
          obtain ⟨rfl, W27, H⟩ := H
          replace H := nb_Hw H
          show nb_W 168 10 [(20, 603), (0, l1), v2, v3, v4, v5, v6, v7] [] M26 _
          have E28 : nb_rd M26 603 15 = 606 := W27.m15
          have N29 : nb_ln M26 606 = 347 := W27.lk (by decide) (by decide +kernel)
          have E30 : nb_rd M26 606 2 = M26.1 606 2 := nb_rd_1 _ _ _
          refine nb_Wg (q_m_bestPlace_10 _ _ _ _ _ _ _ _ _ (by omega) (by rw [E28]; first | done | omega) (by omega) (by rw [E28, N29]; first | done | omega)) ?_
          simp only [E28, E30]
          clear E28 N29 E30
          have W31 : nb_Lay (nb_wr M26 603 26 (M26.1 606 2)) := W27.wr (fun w => (nb_nlit (by decide) (by decide)))
          refine nb_Gr ?_
          obtain ⟨p0_, p1_, p2_, p3_, p4_, p5_, p6_, p7_, H⟩ := H
          replace H := nb_Hw H
          have E32 : nb_mul 8 l1 = 8 * l1 := nb_mul_eq (by omega) (by omega)
          have E33 : nb_add 12 (8 * l1) = 12 + 8 * l1 := (nb_add_eq (x := 12) (y := 8 * l1) (by omega) (by omega)).trans (by omega)
          have E34 : nb_add (12 + 8 * l1) 1 = 12 + 8 * l1 + 1 := nb_add_eq (by omega) (by omega)
          have E35 : nb_rd (nb_wr M26 603 26 (M26.1 606 2)) 603 17 = 608 := W31.m17
          have N36 : nb_ln (nb_wr M26 603 26 (M26.1 606 2)) 608 = 108 := W31.lk (by decide) (by decide +kernel)
          have E37 : nb_rd (nb_wr M26 603 26 (M26.1 606 2)) 608 (12 + 8 * l1 + 1) = M26.1 608 (12 + 8 * l1 + 1) := nb_rdw (Or.inl (by decide)) (nb_rd_1 _ _ _)
          refine nb_Wg (q_m_bestPlace_11 _ _ _ _ _ _ _ _ _ (by omega) (by rw [E35]; first | done | omega) (by rw [E32, E33, E34]; first | done | omega) (by rw [E32, E33, E34, E35, N36]; first | done | omega)) ?_
          simp only [E32, E33, E34, E35, E37]
          clear E32 E33 E34 E35 N36 E37
          refine nb_Gr ?_
          exact nb_Hu H
        · have H := nb_Hw ((nb_Hu H).2 (by omega))
          have c40 : M.1 608 (12 + 8 * l1) ≠ 0 := by omega
          refine nb_Gr ?_
          refine nb_Wg (q_m_hasCome_2 _ _ _) ?_
          refine nb_Gr ?_
          have E38 : nb_i2z 1 = 1 := by decide
          refine nb_Wg (q_m_hasCome_4 _ _ _ _) ?_
          simp only [E38]
          clear E38
          refine nb_Gs ?_
          show nb_W 168 6 [(20, 603), (0, l1), v2, v3, v4, v5, v6, v7] [(0, 1)] (nb_wr (nb_wr M 603 0 0) 603 11 0) _
          refine nb_Wg (q_m_bestPlace_6 _ _ _ _ _ _ _ _ _ _) ?_
          refine nb_Gf (by decide) ?_
          refine nb_Gr ?_
          refine nb_Wg (q_m_bestPlace_7 _ _ _ _ _ _ _ _ _ (by omega)) ?_
          refine nb_Gb ?_
          refine nb_Wg (q_m_no_0 _ _ _ (by omega)) ?_
          have W39 : nb_Lay (nb_wr (nb_wr (nb_wr M 603 0 0) 603 11 0) 603 11 5) := W2.wr (fun w => (nb_nlit (by decide) (by decide)))
          refine nb_Gr ?_
          refine nb_Wg (q_m_no_1 _ _ _) ?_
          refine nb_Gs ?_
          show nb_W 168 8 [(20, 603), (0, l1), v2, v3, v4, v5, v6, v7] [(0, (-1))] (nb_wr (nb_wr (nb_wr M 603 0 0) 603 11 0) 603 11 5) _
          refine nb_Wg (q_m_bestPlace_8 _ _ _ _ _ _ _ _ _ _) ?_
          refine nb_Gs ?_
          exact nb_Hu H W39

theorem w_m_bestPlace_12 {l1 l2 l3 l4 l5 l6 : Int} {v7 : nb_V} {M : nb_M} {Q : List nb_V → nb_M → Prop} (W : nb_Lay M)  (b0_ : 0 ≤ l1 ∧ l1 ≤ 9) (b1_ : 13 ≤ l2 ∧ l2 ≤ 85) (b2_ : 0 ≤ l6 ∧ l6 ≤ 20) (H : 0 ≤ M.1 606 1 ∧ M.1 606 1 ≤ 20 ∧ (l6 < M.1 606 1 → nb_W 167 0 [(20, 603), (0, l1)] [] (nb_wr M 608 l2 l6) (fun r M8 => ∃ x7 : Int, r = [(0, x7)] ∧ nb_Lay M8 ∧ (x7 < l5 → nb_W 168 12 [(20, 603), (0, l1), (0, l2), (0, l3), (0, l6), (0, x7), (0, l6 + 1), (0, x7)] [] M8 Q) ∧ (l5 ≤ x7 → nb_W 168 12 [(20, 603), (0, l1), (0, l2), (0, l3), (0, l4), (0, l5), (0, l6 + 1), (0, x7)] [] M8 Q))) ∧ (M.1 606 1 ≤ l6 → (nb_Lay (nb_wr M 608 l2 l3) → Q [(0, l4)] (nb_wr M 608 l2 l3)))) :
    nb_W 168 12 [(20, 603), (0, l1), (0, l2), (0, l3), (0, l4), (0, l5), (0, l6), v7] [] M Q := by
  replace H := nb_Hw H
  obtain ⟨p0_, p1_, H⟩ := H
  replace H := nb_Hw H
  have E1 : nb_rd M 603 15 = 606 := W.m15
  have N2 : nb_ln M 606 = 347 := W.lk (by decide) (by decide +kernel)
  have E3 : nb_rd M 606 1 = M.1 606 1 := nb_rd_1 _ _ _
  refine nb_Wg (q_m_bestPlace_12 _ _ _ _ _ _ _ _ _ (by omega) (by rw [E1]; first | done | omega) (by omega) (by rw [E1, N2]; first | done | omega)) ?_
  simp only [E1, E3]
  clear E1 N2 E3
  refine nb_Gi (fun c16 => ?_) (fun c16 => ?_)
  · have H := nb_Hw ((nb_Hu H).1 c16)
    refine nb_Gr ?_
    have E4 : nb_rd M 603 17 = 608 := W.m17
    have N5 : nb_ln M 608 = 108 := W.lk (by decide) (by decide +kernel)
    refine nb_Wg (q_m_bestPlace_13 _ _ _ _ _ _ _ _ _ (by omega) (by rw [E4]; first | done | omega) (by rw [E4]; first | done | omega) (by omega) (by rw [E4, N5]; first | done | omega)) ?_
    simp only [E4]
    clear E4 N5
    have W6 : nb_Lay (nb_wr M 608 l2 l6) := W.wr (fun w => (nb_nnum (by decide) (by decide)))
    refine nb_Gr ?_
    refine nb_Wg (q_m_bestPlace_14 _ _ _ _ _ _ _ _ _ (by omega)) ?_
    refine nb_Gb ?_
    refine nb_W.imp (nb_Hu H) (fun r M8 H => ?_)
    obtain ⟨x7, rfl, W9, H⟩ := H
    replace H := nb_Hw H
    show nb_W 168 15 [(20, 603), (0, l1), (0, l2), (0, l3), (0, l4), (0, l5), (0, l6), v7] [(0, x7)] M8 _
    refine nb_Wg (q_m_bestPlace_15 _ _ _ _ _ _ _ _ _ _) ?_
    refine nb_Gi (fun c12 => ?_) (fun c12 => ?_)
    · have H := nb_Hw ((nb_Hu H).1 c12)
      refine nb_Gr ?_
      refine nb_Wg (q_m_bestPlace_17 _ _ _ _ _ _ _ _ _) ?_
      refine nb_Gr ?_
      have E10 : nb_add l6 1 = l6 + 1 := nb_add_eq (by omega) (by omega)
      refine nb_Wg (q_m_bestPlace_18 _ _ _ _ _ _ _ _ _) ?_
      simp only [E10]
      clear E10
      refine nb_Gr ?_
      exact nb_Hu H
    · have H := nb_Hw ((nb_Hu H).2 (by omega))
      have c12 : l5 ≤ x7 := by omega
      refine nb_Gr ?_
      refine nb_Wg (q_m_bestPlace_16 _ _ _ _ _ _ _ _ _) ?_
      refine nb_Gr ?_
      have E11 : nb_add l6 1 = l6 + 1 := nb_add_eq (by omega) (by omega)
      refine nb_Wg (q_m_bestPlace_18 _ _ _ _ _ _ _ _ _) ?_
      simp only [E11]
      clear E11
      refine nb_Gr ?_
      exact nb_Hu H
  · have H := nb_Hw ((nb_Hu H).2 (by omega))
    have c16 : M.1 606 1 ≤ l6 := by omega
    refine nb_Gr ?_
    have E13 : nb_rd M 603 17 = 608 := W.m17
    have N14 : nb_ln M 608 = 108 := W.lk (by decide) (by decide +kernel)
    refine nb_Wg (q_m_bestPlace_19 _ _ _ _ _ _ _ _ _ (by omega) (by rw [E13]; first | done | omega) (by rw [E13]; first | done | omega) (by omega) (by rw [E13, N14]; first | done | omega)) ?_
    simp only [E13]
    clear E13 N14
    have W15 : nb_Lay (nb_wr M 608 l2 l3) := W.wr (fun w => (nb_nnum (by decide) (by decide)))
    refine nb_Gr ?_
    refine nb_Wg (q_m_bestPlace_20 _ _ _ _ _ _ _ _ _) ?_
    refine nb_Gs ?_
    exact nb_Hu H W15

theorem w_m_beOf_0 {l1 l2 : Int} {M : nb_M} {Q : List nb_V → nb_M → Prop} (W : nb_Lay M)  (b0_ : 0 ≤ l1 ∧ l1 ≤ 9) (H : (l2 = 1 → (nb_Lay (nb_wr (nb_wr M 613 (7 * l1) l2) 613 (7 * l1 + 1) 30) → Q [] (nb_wr (nb_wr M 613 (7 * l1) l2) 613 (7 * l1 + 1) 30))) ∧ (l2 ≠ 1 → (l2 = 2 → (nb_Lay (nb_wr (nb_wr M 613 (7 * l1) l2) 613 (7 * l1 + 1) 30) → Q [] (nb_wr (nb_wr M 613 (7 * l1) l2) 613 (7 * l1 + 1) 30))) ∧ (l2 ≠ 2 → (nb_Lay (nb_wr (nb_wr M 613 (7 * l1) l2) 613 (7 * l1 + 1) 0) → Q [] (nb_wr (nb_wr M 613 (7 * l1) l2) 613 (7 * l1 + 1) 0))))) :
    nb_W 169 0 [(20, 603), (0, l1), (0, l2)] [] M Q := by
  replace H := nb_Hw H
  have E1 : nb_rd M 603 24 = 613 := W.m24
  have E2 : nb_mul 7 l1 = 7 * l1 := nb_mul_eq (by omega) (by omega)
  have E3 : nb_add (7 * l1) 0 = 7 * l1 := (nb_add_eq (x := 7 * l1) (y := 0) (by omega) (by omega)).trans (by omega)
  have N4 : nb_ln M 613 = 70 := W.lk (by decide) (by decide +kernel)
  refine nb_Wg (q_m_beOf_0 _ _ _ _ (by omega) (by rw [E1]; first | done | omega) (by rw [E1]; first | done | omega) (by rw [E2, E3]; first | done | omega) (by rw [E2, E3, E1, N4]; first | done | omega)) ?_
  simp only [E1, E2, E3]
  clear E1 E2 E3 N4
  have W5 : nb_Lay (nb_wr M 613 (7 * l1) l2) := W.wr (fun w => (nb_nnum (by decide) (by decide)))
  refine nb_Gr ?_
  have E6 : nb_rd (nb_wr M 613 (7 * l1) l2) 603 24 = 613 := W5.m24
  have E7 : nb_mul 7 l1 = 7 * l1 := nb_mul_eq (by omega) (by omega)
  have E8 : nb_add (7 * l1) 1 = 7 * l1 + 1 := nb_add_eq (by omega) (by omega)
  refine nb_Wg (q_m_beOf_1 _ _ _ _ (by omega)) ?_
  simp only [E6, E7, E8]
  clear E6 E7 E8
  refine nb_Gi (fun c16 => ?_) (fun c16 => ?_)
  · have H := nb_Hw ((nb_Hu H).1 c16)
    refine nb_Gr ?_
    refine nb_Wg (q_m_beOf_3 _ _ _ _ _ _) ?_
    refine nb_Gr ?_
    have N9 : nb_ln (nb_wr M 613 (7 * l1) l2) 613 = 70 := W5.lk (by decide) (by decide +kernel)
    refine nb_Wg (q_m_beOf_5 _ _ _ _ _ _ _ (by omega) (by omega) (by omega) (by rw [N9]; first | done | omega)) ?_
    clear N9
    have W10 : nb_Lay (nb_wr (nb_wr M 613 (7 * l1) l2) 613 (7 * l1 + 1) 30) := W5.wr (fun w => (nb_nnum (by decide) (by decide)))
    refine nb_Gr ?_
    refine nb_Wg (q_m_beOf_6 _ _ _ _) ?_
    refine nb_Gs ?_
    exact nb_Hu H W10
  · have H := nb_Hw ((nb_Hu H).2 (by omega))
    have c16 : l2 ≠ 1 := by omega
    refine nb_Gr ?_
    refine nb_Wg (q_m_beOf_2 _ _ _ _ _ _) ?_
    refine nb_Gi (fun c15 => ?_) (fun c15 => ?_)
    · have H := nb_Hw ((nb_Hu H).1 c15)
      refine nb_Gr ?_
      refine nb_Wg (q_m_beOf_3 _ _ _ _ _ _) ?_
      refine nb_Gr ?_
      have N11 : nb_ln (nb_wr M 613 (7 * l1) l2) 613 = 70 := W5.lk (by decide) (by decide +kernel)
      refine nb_Wg (q_m_beOf_5 _ _ _ _ _ _ _ (by omega) (by omega) (by omega) (by rw [N11]; first | done | omega)) ?_
      clear N11
      have W12 : nb_Lay (nb_wr (nb_wr M 613 (7 * l1) l2) 613 (7 * l1 + 1) 30) := W5.wr (fun w => (nb_nnum (by decide) (by decide)))
      refine nb_Gr ?_
      refine nb_Wg (q_m_beOf_6 _ _ _ _) ?_
      refine nb_Gs ?_
      exact nb_Hu H W12
    · have H := nb_Hw ((nb_Hu H).2 (by omega))
      have c15 : l2 ≠ 2 := by omega
      refine nb_Gr ?_
      refine nb_Wg (q_m_beOf_4 _ _ _ _ _ _) ?_
      refine nb_Gr ?_
      have N13 : nb_ln (nb_wr M 613 (7 * l1) l2) 613 = 70 := W5.lk (by decide) (by decide +kernel)
      refine nb_Wg (q_m_beOf_5 _ _ _ _ _ _ _ (by omega) (by omega) (by omega) (by rw [N13]; first | done | omega)) ?_
      clear N13
      have W14 : nb_Lay (nb_wr (nb_wr M 613 (7 * l1) l2) 613 (7 * l1 + 1) 0) := W5.wr (fun w => (nb_nnum (by decide) (by decide)))
      refine nb_Gr ?_
      refine nb_Wg (q_m_beOf_6 _ _ _ _) ?_
      refine nb_Gs ?_
      exact nb_Hu H W14

theorem w_m_bestManner_0 {l1 : Int} {v2 v3 v4 v5 v6 v7 : nb_V} {M : nb_M} {Q : List nb_V → nb_M → Prop} (W : nb_Lay M) (H : 0 ≤ M.1 603 14 ∧ M.1 603 14 ≤ 1 ∧ (M.1 603 14 = 0 → (nb_Lay (nb_wr (nb_wr (nb_wr M 603 0 0) 603 11 0) 603 11 1) → Q [(0, (-1))] (nb_wr (nb_wr (nb_wr M 603 0 0) 603 11 0) 603 11 1))) ∧ (M.1 603 14 ≠ 0 → 0 ≤ M.1 606 5 ∧ M.1 606 5 ≤ 10 ∧ (l1 < 0 → (nb_Lay (nb_wr (nb_wr (nb_wr M 603 0 0) 603 11 0) 603 11 1) → Q [(0, (-1))] (nb_wr (nb_wr (nb_wr M 603 0 0) 603 11 0) 603 11 1))) ∧ (0 ≤ l1 → (M.1 606 5 - 1 < l1 → (nb_Lay (nb_wr (nb_wr (nb_wr M 603 0 0) 603 11 0) 603 11 1) → Q [(0, (-1))] (nb_wr (nb_wr (nb_wr M 603 0 0) 603 11 0) 603 11 1))) ∧ (l1 ≤ M.1 606 5 - 1 → (M.1 608 (12 + 8 * l1) = 0 → nb_W 121 0 [(20, 603)] [] (nb_wr (nb_wr M 603 0 0) 603 11 0) (fun r M26 => r = [] ∧ nb_Lay M26 ∧ -2147483648 ≤ 8 * l1 ∧ 8 * l1 ≤ 2147483647 ∧ -2147483648 ≤ 12 + 8 * l1 ∧ 12 + 8 * l1 ≤ 2147483647 ∧ -2147483648 ≤ 12 + 8 * l1 + 3 ∧ 12 + 8 * l1 + 3 ≤ 2147483647 ∧ 0 ≤ 12 + 8 * l1 + 3 ∧ 12 + 8 * l1 + 3 < 108 ∧ nb_W 170 12 [(20, 603), (0, l1), (0, 12 + 8 * l1 + 3), (0, M26.1 608 (12 + 8 * l1 + 3)), (0, (-2)), (0, 1000000), (0, 0), v7] [] (nb_wr M26 603 26 (M26.1 606 2)) Q)) ∧ (M.1 608 (12 + 8 * l1) ≠ 0 → (nb_Lay (nb_wr (nb_wr (nb_wr M 603 0 0) 603 11 0) 603 11 5) → Q [(0, (-1))] (nb_wr (nb_wr (nb_wr M 603 0 0) 603 11 0) 603 11 5))))))) :
    nb_W 170 0 [(20, 603), (0, l1), v2, v3, v4, v5, v6, v7] [] M Q := by
  replace H := nb_Hw H
  refine nb_Wg (q_m_bestManner_0 _ _ _ _ _ _ _ _ _ (by omega)) ?_
  refine nb_Gb ?_
  refine nb_Wg (q_m_good_0 _ _ (by omega)) ?_
  have W1 : nb_Lay (nb_wr M 603 0 0) := W.wr (fun w => (nb_nlit (by decide) (by decide)))
  refine nb_Gr ?_
  refine nb_Wg (q_m_good_1 _ _ (by omega)) ?_
  have W2 : nb_Lay (nb_wr (nb_wr M 603 0 0) 603 11 0) := W1.wr (fun w => (nb_nlit (by decide) (by decide)))
  refine nb_Gr ?_
  refine nb_Wg (q_m_good_2 _ _) ?_
  refine nb_Gs ?_
  show nb_W 170 1 [(20, 603), (0, l1), v2, v3, v4, v5, v6, v7] [] (nb_wr (nb_wr M 603 0 0) 603 11 0) _
  refine nb_Wg (q_m_bestManner_1 _ _ _ _ _ _ _ _ _ (by omega)) ?_
  refine nb_Gb ?_
  obtain ⟨p0_, p1_, H⟩ := H
  replace H := nb_Hw H
  have E3 : nb_rd (nb_wr (nb_wr M 603 0 0) 603 11 0) 603 14 = M.1 603 14 := nb_rdw (Or.inr (by decide)) (nb_rdw (Or.inr (by decide)) (nb_rd_1 _ _ _))
  refine nb_Wg (q_m_isPerson_0 _ _ _ (by omega)) ?_
  simp only [E3]
  clear E3
  refine nb_Gi (fun c43 => ?_) (fun c43 => ?_)
  · have H := nb_Hw ((nb_Hu H).1 c43)
    refine nb_Gr ?_
    refine nb_Wg (q_m_isPerson_4 _ _ _) ?_
    refine nb_Gr ?_
    have E4 : nb_i2z 0 = 0 := by decide
    refine nb_Wg (q_m_isPerson_5 _ _ _ _) ?_
    simp only [E4]
    clear E4
    refine nb_Gs ?_
    show nb_W 170 2 [(20, 603), (0, l1), v2, v3, v4, v5, v6, v7] [(0, 0)] (nb_wr (nb_wr M 603 0 0) 603 11 0) _
    refine nb_Wg (q_m_bestManner_2 _ _ _ _ _ _ _ _ _ _) ?_
    refine nb_Gt (by decide) ?_
    refine nb_Gr ?_
    refine nb_Wg (q_m_bestManner_3 _ _ _ _ _ _ _ _ _ (by omega)) ?_
    refine nb_Gb ?_
    refine nb_Wg (q_m_no_0 _ _ _ (by omega)) ?_
    have W5 : nb_Lay (nb_wr (nb_wr (nb_wr M 603 0 0) 603 11 0) 603 11 1) := W2.wr (fun w => (nb_nlit (by decide) (by decide)))
    refine nb_Gr ?_
    refine nb_Wg (q_m_no_1 _ _ _) ?_
    refine nb_Gs ?_
    show nb_W 170 4 [(20, 603), (0, l1), v2, v3, v4, v5, v6, v7] [(0, (-1))] (nb_wr (nb_wr (nb_wr M 603 0 0) 603 11 0) 603 11 1) _
    refine nb_Wg (q_m_bestManner_4 _ _ _ _ _ _ _ _ _ _) ?_
    refine nb_Gs ?_
    exact nb_Hu H W5
  · have H := nb_Hw ((nb_Hu H).2 (by omega))
    have c43 : M.1 603 14 ≠ 0 := by omega
    refine nb_Gr ?_
    obtain ⟨p0_, p1_, H⟩ := H
    replace H := nb_Hw H
    have E6 : nb_rd (nb_wr (nb_wr M 603 0 0) 603 11 0) 603 15 = 606 := W2.m15
    have N7 : nb_ln (nb_wr (nb_wr M 603 0 0) 603 11 0) 606 = 347 := W2.lk (by decide) (by decide +kernel)
    have E8 : nb_rd (nb_wr (nb_wr M 603 0 0) 603 11 0) 606 5 = M.1 606 5 := nb_rdw (Or.inl (by decide)) (nb_rdw (Or.inl (by decide)) (nb_rd_1 _ _ _))
    have E9 : nb_sub (M.1 606 5) 1 = M.1 606 5 - 1 := nb_sub_eq (by omega) (by omega)
    refine nb_Wg (q_m_isPerson_1 _ _ _ (by omega) (by rw [E6]; first | done | omega) (by omega) (by rw [E6, N7]; first | done | omega)) ?_
    simp only [E6, E8, E9]
    clear E6 N7 E8 E9
    refine nb_Gb ?_
    refine nb_Wg (q_m_within_0 _ _ _ _) ?_
    refine nb_Gi (fun c42 => ?_) (fun c42 => ?_)
    · have H := nb_Hw ((nb_Hu H).1 c42)
      refine nb_Gr ?_
      refine nb_Wg (q_m_within_3 _ _ _ _) ?_
      refine nb_Gr ?_
      have E10 : nb_i2z 0 = 0 := by decide
      refine nb_Wg (q_m_within_4 _ _ _ _ _) ?_
      simp only [E10]
      clear E10
      refine nb_Gs ?_
      show nb_W 116 2 [(20, 603), (0, l1)] [(0, 0)] (nb_wr (nb_wr M 603 0 0) 603 11 0) _
      refine nb_Wg (q_m_isPerson_2 _ _ _ _) ?_
      refine nb_Gt (by decide) ?_
      refine nb_Gr ?_
      refine nb_Wg (q_m_isPerson_4 _ _ _) ?_
      refine nb_Gr ?_
      have E11 : nb_i2z 0 = 0 := by decide
      refine nb_Wg (q_m_isPerson_5 _ _ _ _) ?_
      simp only [E11]
      clear E11
      refine nb_Gs ?_
      show nb_W 170 2 [(20, 603), (0, l1), v2, v3, v4, v5, v6, v7] [(0, 0)] (nb_wr (nb_wr M 603 0 0) 603 11 0) _
      refine nb_Wg (q_m_bestManner_2 _ _ _ _ _ _ _ _ _ _) ?_
      refine nb_Gt (by decide) ?_
      refine nb_Gr ?_
      refine nb_Wg (q_m_bestManner_3 _ _ _ _ _ _ _ _ _ (by omega)) ?_
      refine nb_Gb ?_
      refine nb_Wg (q_m_no_0 _ _ _ (by omega)) ?_
      have W12 : nb_Lay (nb_wr (nb_wr (nb_wr M 603 0 0) 603 11 0) 603 11 1) := W2.wr (fun w => (nb_nlit (by decide) (by decide)))
      refine nb_Gr ?_
      refine nb_Wg (q_m_no_1 _ _ _) ?_
      refine nb_Gs ?_
      show nb_W 170 4 [(20, 603), (0, l1), v2, v3, v4, v5, v6, v7] [(0, (-1))] (nb_wr (nb_wr (nb_wr M 603 0 0) 603 11 0) 603 11 1) _
      refine nb_Wg (q_m_bestManner_4 _ _ _ _ _ _ _ _ _ _) ?_
      refine nb_Gs ?_
      exact nb_Hu H W12
    · have H := nb_Hw ((nb_Hu H).2 (by omega))
      have c42 : 0 ≤ l1 := by omega
      refine nb_Gr ?_
      refine nb_Wg (q_m_within_1 _ _ _ _) ?_
      refine nb_Gi (fun c41 => ?_) (fun c41 => ?_)
      · have H := nb_Hw ((nb_Hu H).1 c41)
        refine nb_Gr ?_
        refine nb_Wg (q_m_within_3 _ _ _ _) ?_
        refine nb_Gr ?_
        have E13 : nb_i2z 0 = 0 := by decide
        refine nb_Wg (q_m_within_4 _ _ _ _ _) ?_
        simp only [E13]
        clear E13
        refine nb_Gs ?_
        show nb_W 116 2 [(20, 603), (0, l1)] [(0, 0)] (nb_wr (nb_wr M 603 0 0) 603 11 0) _
        refine nb_Wg (q_m_isPerson_2 _ _ _ _) ?_
        refine nb_Gt (by decide) ?_
        refine nb_Gr ?_
        refine nb_Wg (q_m_isPerson_4 _ _ _) ?_
        refine nb_Gr ?_
        have E14 : nb_i2z 0 = 0 := by decide
        refine nb_Wg (q_m_isPerson_5 _ _ _ _) ?_
        simp only [E14]
        clear E14
        refine nb_Gs ?_
        show nb_W 170 2 [(20, 603), (0, l1), v2, v3, v4, v5, v6, v7] [(0, 0)] (nb_wr (nb_wr M 603 0 0) 603 11 0) _
        refine nb_Wg (q_m_bestManner_2 _ _ _ _ _ _ _ _ _ _) ?_
        refine nb_Gt (by decide) ?_
        refine nb_Gr ?_
        refine nb_Wg (q_m_bestManner_3 _ _ _ _ _ _ _ _ _ (by omega)) ?_
        refine nb_Gb ?_
        refine nb_Wg (q_m_no_0 _ _ _ (by omega)) ?_
        have W15 : nb_Lay (nb_wr (nb_wr (nb_wr M 603 0 0) 603 11 0) 603 11 1) := W2.wr (fun w => (nb_nlit (by decide) (by decide)))
        refine nb_Gr ?_
        refine nb_Wg (q_m_no_1 _ _ _) ?_
        refine nb_Gs ?_
        show nb_W 170 4 [(20, 603), (0, l1), v2, v3, v4, v5, v6, v7] [(0, (-1))] (nb_wr (nb_wr (nb_wr M 603 0 0) 603 11 0) 603 11 1) _
        refine nb_Wg (q_m_bestManner_4 _ _ _ _ _ _ _ _ _ _) ?_
        refine nb_Gs ?_
        exact nb_Hu H W15
      · have H := nb_Hw ((nb_Hu H).2 (by omega))
        have c41 : l1 ≤ M.1 606 5 - 1 := by omega
        refine nb_Gr ?_
        refine nb_Wg (q_m_within_2 _ _ _ _) ?_
        refine nb_Gr ?_
        have E16 : nb_i2z 1 = 1 := by decide
        refine nb_Wg (q_m_within_4 _ _ _ _ _) ?_
        simp only [E16]
        clear E16
        refine nb_Gs ?_
        show nb_W 116 2 [(20, 603), (0, l1)] [(0, 1)] (nb_wr (nb_wr M 603 0 0) 603 11 0) _
        refine nb_Wg (q_m_isPerson_2 _ _ _ _) ?_
        refine nb_Gf (by decide) ?_
        refine nb_Gr ?_
        refine nb_Wg (q_m_isPerson_3 _ _ _) ?_
        refine nb_Gr ?_
        have E17 : nb_i2z 1 = 1 := by decide
        refine nb_Wg (q_m_isPerson_5 _ _ _ _) ?_
        simp only [E17]
        clear E17
        refine nb_Gs ?_
        show nb_W 170 2 [(20, 603), (0, l1), v2, v3, v4, v5, v6, v7] [(0, 1)] (nb_wr (nb_wr M 603 0 0) 603 11 0) _
        refine nb_Wg (q_m_bestManner_2 _ _ _ _ _ _ _ _ _ _) ?_
        refine nb_Gf (by decide) ?_
        refine nb_Gr ?_
        refine nb_Wg (q_m_bestManner_5 _ _ _ _ _ _ _ _ _ (by omega)) ?_
        refine nb_Gb ?_
        have E18 : nb_rd (nb_wr (nb_wr M 603 0 0) 603 11 0) 603 17 = 608 := W2.m17
        refine nb_Wg (q_m_hasCome_0 _ _ _ (by omega)) ?_
        simp only [E18]
        clear E18
        refine nb_Gb ?_
        have E19 : nb_mul 8 l1 = 8 * l1 := nb_mul_eq (by omega) (by omega)
        have E20 : nb_add 12 (8 * l1) = 12 + 8 * l1 := (nb_add_eq (x := 12) (y := 8 * l1) (by omega) (by omega)).trans (by omega)
        have E21 : nb_add (12 + 8 * l1) 0 = 12 + 8 * l1 := (nb_add_eq (x := 12 + 8 * l1) (y := 0) (by omega) (by omega)).trans (by omega)
        have N22 : nb_ln (nb_wr (nb_wr M 603 0 0) 603 11 0) 608 = 108 := W2.lk (by decide) (by decide +kernel)
        have E23 : nb_rd (nb_wr (nb_wr M 603 0 0) 603 11 0) 608 (12 + 8 * l1) = M.1 608 (12 + 8 * l1) := nb_rdw (Or.inl (by decide)) (nb_rdw (Or.inl (by decide)) (nb_rd_1 _ _ _))
        refine nb_Wg (q_m_its_0 _ _ _ _ (by omega) (by rw [E19, E20, E21]; first | done | omega) (by rw [E19, E20, E21, N22]; first | done | omega)) ?_
        simp only [E19, E20, E21, E23]
        clear E19 E20 E21 N22 E23
        refine nb_Gs ?_
        show nb_W 165 1 [(20, 603), (0, l1)] [(0, M.1 608 (12 + 8 * l1))] (nb_wr (nb_wr M 603 0 0) 603 11 0) _
        refine nb_Wg (q_m_hasCome_1 _ _ _ _) ?_
        refine nb_Gi (fun c40 => ?_) (fun c40 => ?_)
        · have H := nb_Hw ((nb_Hu H).1 c40)
          refine nb_Gr ?_
          refine nb_Wg (q_m_hasCome_3 _ _ _) ?_
          refine nb_Gr ?_
          have E24 : nb_i2z 0 = 0 := by decide
          refine nb_Wg (q_m_hasCome_4 _ _ _ _) ?_
          simp only [E24]
          clear E24
          refine nb_Gs ?_
          show nb_W 170 6 [(20, 603), (0, l1), v2, v3, v4, v5, v6, v7] [(0, 0)] (nb_wr (nb_wr M 603 0 0) 603 11 0) _
          refine nb_Wg (q_m_bestManner_6 _ _ _ _ _ _ _ _ _ _) ?_
          refine nb_Gt (by decide) ?_
          refine nb_Gr ?_
          refine nb_Wg (q_m_bestManner_9 _ _ _ _ _ _ _ _ _ (by omega)) ?_
          refine nb_Gb ?_
          refine nb_W.imp (nb_Hu H) (fun r M26 H => ?_)
          obtain ⟨rfl, W27, H⟩ := H
          replace H := nb_Hw H
          show nb_W 170 10 [(20, 603), (0, l1), v2, v3, v4, v5, v6, v7] [] M26 _
          have E28 : nb_rd M26 603 15 = 606 := W27.m15
          have N29 : nb_ln M26 606 = 347 := W27.lk (by decide) (by decide +kernel)
          have E30 : nb_rd M26 606 2 = M26.1 606 2 := nb_rd_1 _ _ _
          refine nb_Wg (q_m_bestManner_10 _ _ _ _ _ _ _ _ _ (by omega) (by rw [E28]; first | done | omega) (by omega) (by rw [E28, N29]; first | done | omega)) ?_
          simp only [E28, E30]
          clear E28 N29 E30
          have W31 : nb_Lay (nb_wr M26 603 26 (M26.1 606 2)) := W27.wr (fun w => (nb_nlit (by decide) (by decide)))
          refine nb_Gr ?_
          obtain ⟨p0_, p1_, p2_, p3_, p4_, p5_, p6_, p7_, H⟩ := H
          replace H := nb_Hw H
          have E32 : nb_mul 8 l1 = 8 * l1 := nb_mul_eq (by omega) (by omega)
          have E33 : nb_add 12 (8 * l1) = 12 + 8 * l1 := (nb_add_eq (x := 12) (y := 8 * l1) (by omega) (by omega)).trans (by omega)
          have E34 : nb_add (12 + 8 * l1) 3 = 12 + 8 * l1 + 3 := nb_add_eq (by omega) (by omega)
          have E35 : nb_rd (nb_wr M26 603 26 (M26.1 606 2)) 603 17 = 608 := W31.m17
          have N36 : nb_ln (nb_wr M26 603 26 (M26.1 606 2)) 608 = 108 := W31.lk (by decide) (by decide +kernel)
          have E37 : nb_rd (nb_wr M26 603 26 (M26.1 606 2)) 608 (12 + 8 * l1 + 3) = M26.1 608 (12 + 8 * l1 + 3) := nb_rdw (Or.inl (by decide)) (nb_rd_1 _ _ _)
          refine nb_Wg (q_m_bestManner_11 _ _ _ _ _ _ _ _ _ (by omega) (by rw [E35]; first | done | omega) (by rw [E32, E33, E34]; first | done | omega) (by rw [E32, E33, E34, E35, N36]; first | done | omega)) ?_
          simp only [E32, E33, E34, E35, E37]
          clear E32 E33 E34 E35 N36 E37
          refine nb_Gr ?_
          exact nb_Hu H
        · have H := nb_Hw ((nb_Hu H).2 (by omega))
          have c40 : M.1 608 (12 + 8 * l1) ≠ 0 := by omega
          refine nb_Gr ?_
          refine nb_Wg (q_m_hasCome_2 _ _ _) ?_
          refine nb_Gr ?_
          have E38 : nb_i2z 1 = 1 := by decide
          refine nb_Wg (q_m_hasCome_4 _ _ _ _) ?_
          simp only [E38]
          clear E38
          refine nb_Gs ?_
          show nb_W 170 6 [(20, 603), (0, l1), v2, v3, v4, v5, v6, v7] [(0, 1)] (nb_wr (nb_wr M 603 0 0) 603 11 0) _
          refine nb_Wg (q_m_bestManner_6 _ _ _ _ _ _ _ _ _ _) ?_
          refine nb_Gf (by decide) ?_
          refine nb_Gr ?_
          refine nb_Wg (q_m_bestManner_7 _ _ _ _ _ _ _ _ _ (by omega)) ?_
          refine nb_Gb ?_
          refine nb_Wg (q_m_no_0 _ _ _ (by omega)) ?_
          have W39 : nb_Lay (nb_wr (nb_wr (nb_wr M 603 0 0) 603 11 0) 603 11 5) := W2.wr (fun w => (nb_nlit (by decide) (by decide)))
          refine nb_Gr ?_
          refine nb_Wg (q_m_no_1 _ _ _) ?_
          refine nb_Gs ?_
          show nb_W 170 8 [(20, 603), (0, l1), v2, v3, v4, v5, v6, v7] [(0, (-1))] (nb_wr (nb_wr (nb_wr M 603 0 0) 603 11 0) 603 11 5) _
          refine nb_Wg (q_m_bestManner_8 _ _ _ _ _ _ _ _ _ _) ?_
          refine nb_Gs ?_
          exact nb_Hu H W39

theorem w_m_bestManner_12 {l1 l2 l3 l4 l5 l6 : Int} {v7 : nb_V} {M : nb_M} {Q : List nb_V → nb_M → Prop} (W : nb_Lay M)  (b0_ : 0 ≤ l1 ∧ l1 ≤ 9) (b1_ : 15 ≤ l2 ∧ l2 ≤ 87) (b2_ : 0 ≤ l6 ∧ l6 ≤ 4) (H : (l6 < 4 → nb_W 169 0 [(20, 603), (0, l1), (0, l6)] [] M (fun r M2 => r = [] ∧ nb_Lay M2 ∧ (M2.1 613 (7 * l1) = 1 → -2147483648 ≤ -(M2.1 613 (7 * l1 + 1)) ∧ -(M2.1 613 (7 * l1 + 1)) ≤ 2147483647 ∧ -2147483648 ≤ M2.1 613 (7 * l1 + 2) + (-(M2.1 613 (7 * l1 + 1))) ∧ M2.1 613 (7 * l1 + 2) + (-(M2.1 613 (7 * l1 + 1))) ≤ 2147483647 ∧ nb_W 167 0 [(20, 603), (0, l1)] [] (nb_wr M2 608 l2 (M2.1 613 (7 * l1 + 2) + (-(M2.1 613 (7 * l1 + 1))))) (fun r M25 => ∃ x24 : Int, r = [(0, x24)] ∧ nb_Lay M25 ∧ (x24 < l5 → nb_W 170 12 [(20, 603), (0, l1), (0, l2), (0, l3), (0, l6), (0, x24), (0, l6 + 1), (0, x24)] [] M25 Q) ∧ (l5 ≤ x24 → nb_W 170 12 [(20, 603), (0, l1), (0, l2), (0, l3), (0, l4), (0, l5), (0, l6 + 1), (0, x24)] [] M25 Q))) ∧ (M2.1 613 (7 * l1) ≠ 1 → (M2.1 613 (7 * l1) = 2 → -2147483648 ≤ M2.1 613 (7 * l1 + 2) + (M2.1 613 (7 * l1 + 1)) ∧ M2.1 613 (7 * l1 + 2) + (M2.1 613 (7 * l1 + 1)) ≤ 2147483647 ∧ nb_W 167 0 [(20, 603), (0, l1)] [] (nb_wr M2 608 l2 (M2.1 613 (7 * l1 + 2) + (M2.1 613 (7 * l1 + 1)))) (fun r M39 => ∃ x38 : Int, r = [(0, x38)] ∧ nb_Lay M39 ∧ (x38 < l5 → nb_W 170 12 [(20, 603), (0, l1), (0, l2), (0, l3), (0, l6), (0, x38), (0, l6 + 1), (0, x38)] [] M39 Q) ∧ (l5 ≤ x38 → nb_W 170 12 [(20, 603), (0, l1), (0, l2), (0, l3), (0, l4), (0, l5), (0, l6 + 1), (0, x38)] [] M39 Q))) ∧ (M2.1 613 (7 * l1) ≠ 2 → -2147483648 ≤ M2.1 613 (7 * l1 + 2) ∧ M2.1 613 (7 * l1 + 2) ≤ 2147483647 ∧ nb_W 167 0 [(20, 603), (0, l1)] [] (nb_wr M2 608 l2 (M2.1 613 (7 * l1 + 2))) (fun r M48 => ∃ x47 : Int, r = [(0, x47)] ∧ nb_Lay M48 ∧ (x47 < l5 → nb_W 170 12 [(20, 603), (0, l1), (0, l2), (0, l3), (0, l6), (0, x47), (0, l6 + 1), (0, x47)] [] M48 Q) ∧ (l5 ≤ x47 → nb_W 170 12 [(20, 603), (0, l1), (0, l2), (0, l3), (0, l4), (0, l5), (0, l6 + 1), (0, x47)] [] M48 Q)))))) ∧ (4 ≤ l6 → (nb_Lay (nb_wr M 608 l2 l3) → Q [(0, l4)] (nb_wr M 608 l2 l3)))) :
    nb_W 170 12 [(20, 603), (0, l1), (0, l2), (0, l3), (0, l4), (0, l5), (0, l6), v7] [] M Q := by
  replace H := nb_Hw H
  refine nb_Wg (q_m_bestManner_12 _ _ _ _ _ _ _ _ _) ?_
  refine nb_Gi (fun c58 => ?_) (fun c58 => ?_)
  · have H := nb_Hw ((nb_Hu H).1 c58)
    refine nb_Gr ?_
    refine nb_Wg (q_m_bestManner_13 _ _ _ _ _ _ _ _ _ (by omega)) ?_
    refine nb_Gb ?_
    refine nb_W.imp (nb_Hu H) (fun r M2 H => ?_)
    obtain ⟨rfl, W3, H⟩ := H
    replace H := nb_Hw H
    show nb_W 170 14 [(20, 603), (0, l1), (0, l2), (0, l3), (0, l4), (0, l5), (0, l6), v7] [] M2 _
    have E4 : nb_rd M2 603 17 = 608 := W3.m17
    refine nb_Wg (q_m_bestManner_14 _ _ _ _ _ _ _ _ _ (by omega)) ?_
    simp only [E4]
    clear E4
    refine nb_Gb ?_
    refine nb_Wg (q_m_saysFirst_0 _ _ _ _ (by omega)) ?_
    refine nb_Gb ?_
    have E5 : nb_rd M2 603 24 = 613 := W3.m24
    have E6 : nb_mul 7 l1 = 7 * l1 := nb_mul_eq (by omega) (by omega)
    have E7 : nb_add (7 * l1) 0 = 7 * l1 := (nb_add_eq (x := 7 * l1) (y := 0) (by omega) (by omega)).trans (by omega)
    have N8 : nb_ln M2 613 = 70 := W3.lk (by decide) (by decide +kernel)
    have E9 : nb_rd M2 613 (7 * l1) = M2.1 613 (7 * l1) := nb_rd_1 _ _ _
    refine nb_Wg (q_m_man_0 _ _ _ _ (by omega) (by rw [E5]; first | done | omega) (by rw [E6, E7]; first | done | omega) (by rw [E6, E7, E5, N8]; first | done | omega)) ?_
    simp only [E5, E6, E7, E9]
    clear E5 E6 E7 N8 E9
    refine nb_Gs ?_
    show nb_W 123 1 [(20, 603), (0, l1), (98, 0)] [(0, M2.1 613 (7 * l1))] M2 _
    refine nb_Wg (q_m_saysFirst_1 _ _ _ _ _ (by omega)) ?_
    refine nb_Gb ?_
    have E10 : nb_rd M2 603 24 = 613 := W3.m24
    have E11 : nb_mul 7 l1 = 7 * l1 := nb_mul_eq (by omega) (by omega)
    have E12 : nb_add (7 * l1) 2 = 7 * l1 + 2 := nb_add_eq (by omega) (by omega)
    have N13 : nb_ln M2 613 = 70 := W3.lk (by decide) (by decide +kernel)
    have E14 : nb_rd M2 613 (7 * l1 + 2) = M2.1 613 (7 * l1 + 2) := nb_rd_1 _ _ _
    refine nb_Wg (q_m_man_0 _ _ _ _ (by omega) (by rw [E10]; first | done | omega) (by rw [E11, E12]; first | done | omega) (by rw [E11, E12, E10, N13]; first | done | omega)) ?_
    simp only [E10, E11, E12, E14]
    clear E10 E11 E12 N13 E14
    refine nb_Gs ?_
    show nb_W 123 2 [(20, 603), (0, l1), (0, M2.1 613 (7 * l1))] [(0, M2.1 613 (7 * l1 + 2))] M2 _
    refine nb_Wg (q_m_saysFirst_2 _ _ _ _ _) ?_
    refine nb_Gi (fun c54 => ?_) (fun c54 => ?_)
    · have H := nb_Hw ((nb_Hu H).1 c54)
      refine nb_Gr ?_
      refine nb_Wg (q_m_saysFirst_3 _ _ _ _ _ (by omega)) ?_
      refine nb_Gb ?_
      have E15 : nb_rd M2 603 24 = 613 := W3.m24
      have E16 : nb_mul 7 l1 = 7 * l1 := nb_mul_eq (by omega) (by omega)
      have E17 : nb_add (7 * l1) 1 = 7 * l1 + 1 := nb_add_eq (by omega) (by omega)
      have N18 : nb_ln M2 613 = 70 := W3.lk (by decide) (by decide +kernel)
      have E19 : nb_rd M2 613 (7 * l1 + 1) = M2.1 613 (7 * l1 + 1) := nb_rd_1 _ _ _
      refine nb_Wg (q_m_man_0 _ _ _ _ (by omega) (by rw [E15]; first | done | omega) (by rw [E16, E17]; first | done | omega) (by rw [E16, E17, E15, N18]; first | done | omega)) ?_
      simp only [E15, E16, E17, E19]
      clear E15 E16 E17 N18 E19
      refine nb_Gs ?_
      show nb_W 123 4 [(20, 603), (0, l1), (0, M2.1 613 (7 * l1))] [(0, M2.1 613 (7 * l1 + 1)), (0, M2.1 613 (7 * l1 + 2))] M2 _
      obtain ⟨p0_, p1_, H⟩ := H
      replace H := nb_Hw H
      have E20 : nb_neg (M2.1 613 (7 * l1 + 1)) = -(M2.1 613 (7 * l1 + 1)) := nb_neg_eq (by omega) (by omega)
      refine nb_Wg (q_m_saysFirst_4 _ _ _ _ _ _) ?_
      simp only [E20]
      clear E20
      refine nb_Gr ?_
      obtain ⟨p0_, p1_, H⟩ := H
      replace H := nb_Hw H
      have E21 : nb_add (M2.1 613 (7 * l1 + 2)) (-(M2.1 613 (7 * l1 + 1))) = M2.1 613 (7 * l1 + 2) + (-(M2.1 613 (7 * l1 + 1))) := nb_add_eq (by omega) (by omega)
      refine nb_Wg (q_m_saysFirst_9 _ _ _ _ _ _) ?_
      simp only [E21]
      clear E21
      refine nb_Gs ?_
      show nb_W 170 15 [(20, 603), (0, l1), (0, l2), (0, l3), (0, l4), (0, l5), (0, l6), v7] [(0, M2.1 613 (7 * l1 + 2) + (-(M2.1 613 (7 * l1 + 1)))), (0, l2), (3, 608)] M2 _
      have N22 : nb_ln M2 608 = 108 := W3.lk (by decide) (by decide +kernel)
      refine nb_Wg (q_m_bestManner_15 _ _ _ _ _ _ _ _ _ _ _ _ (by omega) (by omega) (by omega) (by rw [N22]; first | done | omega)) ?_
      clear N22
      have W23 : nb_Lay (nb_wr M2 608 l2 (M2.1 613 (7 * l1 + 2) + (-(M2.1 613 (7 * l1 + 1))))) := W3.wr (fun w => (nb_nnum (by decide) (by decide)))
      refine nb_Gr ?_
      refine nb_Wg (q_m_bestManner_16 _ _ _ _ _ _ _ _ _ (by omega)) ?_
      refine nb_Gb ?_
      refine nb_W.imp (nb_Hu H) (fun r M25 H => ?_)
      obtain ⟨x24, rfl, W26, H⟩ := H
      replace H := nb_Hw H
      show nb_W 170 17 [(20, 603), (0, l1), (0, l2), (0, l3), (0, l4), (0, l5), (0, l6), v7] [(0, x24)] M25 _
      refine nb_Wg (q_m_bestManner_17 _ _ _ _ _ _ _ _ _ _) ?_
      refine nb_Gi (fun c29 => ?_) (fun c29 => ?_)
      · have H := nb_Hw ((nb_Hu H).1 c29)
        refine nb_Gr ?_
        refine nb_Wg (q_m_bestManner_19 _ _ _ _ _ _ _ _ _) ?_
        refine nb_Gr ?_
        have E27 : nb_add l6 1 = l6 + 1 := nb_add_eq (by omega) (by omega)
        refine nb_Wg (q_m_bestManner_20 _ _ _ _ _ _ _ _ _) ?_
        simp only [E27]
        clear E27
        refine nb_Gr ?_
        exact nb_Hu H
      · have H := nb_Hw ((nb_Hu H).2 (by omega))
        have c29 : l5 ≤ x24 := by omega
        refine nb_Gr ?_
        refine nb_Wg (q_m_bestManner_18 _ _ _ _ _ _ _ _ _) ?_
        refine nb_Gr ?_
        have E28 : nb_add l6 1 = l6 + 1 := nb_add_eq (by omega) (by omega)
        refine nb_Wg (q_m_bestManner_20 _ _ _ _ _ _ _ _ _) ?_
        simp only [E28]
        clear E28
        refine nb_Gr ?_
        exact nb_Hu H
    · have H := nb_Hw ((nb_Hu H).2 (by omega))
      have c54 : M2.1 613 (7 * l1) ≠ 1 := by omega
      refine nb_Gr ?_
      refine nb_Wg (q_m_saysFirst_5 _ _ _ _ _) ?_
      refine nb_Gi (fun c53 => ?_) (fun c53 => ?_)
      · have H := nb_Hw ((nb_Hu H).1 c53)
        refine nb_Gr ?_
        refine nb_Wg (q_m_saysFirst_6 _ _ _ _ _ (by omega)) ?_
        refine nb_Gb ?_
        have E30 : nb_rd M2 603 24 = 613 := W3.m24
        have E31 : nb_mul 7 l1 = 7 * l1 := nb_mul_eq (by omega) (by omega)
        have E32 : nb_add (7 * l1) 1 = 7 * l1 + 1 := nb_add_eq (by omega) (by omega)
        have N33 : nb_ln M2 613 = 70 := W3.lk (by decide) (by decide +kernel)
        have E34 : nb_rd M2 613 (7 * l1 + 1) = M2.1 613 (7 * l1 + 1) := nb_rd_1 _ _ _
        refine nb_Wg (q_m_man_0 _ _ _ _ (by omega) (by rw [E30]; first | done | omega) (by rw [E31, E32]; first | done | omega) (by rw [E31, E32, E30, N33]; first | done | omega)) ?_
        simp only [E30, E31, E32, E34]
        clear E30 E31 E32 N33 E34
        refine nb_Gs ?_
        show nb_W 123 7 [(20, 603), (0, l1), (0, M2.1 613 (7 * l1))] [(0, M2.1 613 (7 * l1 + 1)), (0, M2.1 613 (7 * l1 + 2))] M2 _
        refine nb_Wg (q_m_saysFirst_7 _ _ _ _ _ _) ?_
        refine nb_Gr ?_
        obtain ⟨p0_, p1_, H⟩ := H
        replace H := nb_Hw H
        have E35 : nb_add (M2.1 613 (7 * l1 + 2)) (M2.1 613 (7 * l1 + 1)) = M2.1 613 (7 * l1 + 2) + (M2.1 613 (7 * l1 + 1)) := nb_add_eq (by omega) (by omega)
        refine nb_Wg (q_m_saysFirst_9 _ _ _ _ _ _) ?_
        simp only [E35]
        clear E35
        refine nb_Gs ?_
        show nb_W 170 15 [(20, 603), (0, l1), (0, l2), (0, l3), (0, l4), (0, l5), (0, l6), v7] [(0, M2.1 613 (7 * l1 + 2) + (M2.1 613 (7 * l1 + 1))), (0, l2), (3, 608)] M2 _
        have N36 : nb_ln M2 608 = 108 := W3.lk (by decide) (by decide +kernel)
        refine nb_Wg (q_m_bestManner_15 _ _ _ _ _ _ _ _ _ _ _ _ (by omega) (by omega) (by omega) (by rw [N36]; first | done | omega)) ?_
        clear N36
        have W37 : nb_Lay (nb_wr M2 608 l2 (M2.1 613 (7 * l1 + 2) + (M2.1 613 (7 * l1 + 1)))) := W3.wr (fun w => (nb_nnum (by decide) (by decide)))
        refine nb_Gr ?_
        refine nb_Wg (q_m_bestManner_16 _ _ _ _ _ _ _ _ _ (by omega)) ?_
        refine nb_Gb ?_
        refine nb_W.imp (nb_Hu H) (fun r M39 H => ?_)
        obtain ⟨x38, rfl, W40, H⟩ := H
        replace H := nb_Hw H
        show nb_W 170 17 [(20, 603), (0, l1), (0, l2), (0, l3), (0, l4), (0, l5), (0, l6), v7] [(0, x38)] M39 _
        refine nb_Wg (q_m_bestManner_17 _ _ _ _ _ _ _ _ _ _) ?_
        refine nb_Gi (fun c43 => ?_) (fun c43 => ?_)
        · have H := nb_Hw ((nb_Hu H).1 c43)
          refine nb_Gr ?_
          refine nb_Wg (q_m_bestManner_19 _ _ _ _ _ _ _ _ _) ?_
          refine nb_Gr ?_
          have E41 : nb_add l6 1 = l6 + 1 := nb_add_eq (by omega) (by omega)
          refine nb_Wg (q_m_bestManner_20 _ _ _ _ _ _ _ _ _) ?_
          simp only [E41]
          clear E41
          refine nb_Gr ?_
          exact nb_Hu H
        · have H := nb_Hw ((nb_Hu H).2 (by omega))
          have c43 : l5 ≤ x38 := by omega
          refine nb_Gr ?_
          refine nb_Wg (q_m_bestManner_18 _ _ _ _ _ _ _ _ _) ?_
          refine nb_Gr ?_
          have E42 : nb_add l6 1 = l6 + 1 := nb_add_eq (by omega) (by omega)
          refine nb_Wg (q_m_bestManner_20 _ _ _ _ _ _ _ _ _) ?_
          simp only [E42]
          clear E42
          refine nb_Gr ?_
          exact nb_Hu H
      · have H := nb_Hw ((nb_Hu H).2 (by omega))
        have c53 : M2.1 613 (7 * l1) ≠ 2 := by omega
        refine nb_Gr ?_
        refine nb_Wg (q_m_saysFirst_8 _ _ _ _ _) ?_
        refine nb_Gr ?_
        obtain ⟨p0_, p1_, H⟩ := H
        replace H := nb_Hw H
        have E44 : nb_add (M2.1 613 (7 * l1 + 2)) 0 = M2.1 613 (7 * l1 + 2) := (nb_add_eq (x := M2.1 613 (7 * l1 + 2)) (y := 0) (by omega) (by omega)).trans (by omega)
        refine nb_Wg (q_m_saysFirst_9 _ _ _ _ _ _) ?_
        simp only [E44]
        clear E44
        refine nb_Gs ?_
        show nb_W 170 15 [(20, 603), (0, l1), (0, l2), (0, l3), (0, l4), (0, l5), (0, l6), v7] [(0, M2.1 613 (7 * l1 + 2)), (0, l2), (3, 608)] M2 _
        have N45 : nb_ln M2 608 = 108 := W3.lk (by decide) (by decide +kernel)
        refine nb_Wg (q_m_bestManner_15 _ _ _ _ _ _ _ _ _ _ _ _ (by omega) (by omega) (by omega) (by rw [N45]; first | done | omega)) ?_
        clear N45
        have W46 : nb_Lay (nb_wr M2 608 l2 (M2.1 613 (7 * l1 + 2))) := W3.wr (fun w => (nb_nnum (by decide) (by decide)))
        refine nb_Gr ?_
        refine nb_Wg (q_m_bestManner_16 _ _ _ _ _ _ _ _ _ (by omega)) ?_
        refine nb_Gb ?_
        refine nb_W.imp (nb_Hu H) (fun r M48 H => ?_)
        obtain ⟨x47, rfl, W49, H⟩ := H
        replace H := nb_Hw H
        show nb_W 170 17 [(20, 603), (0, l1), (0, l2), (0, l3), (0, l4), (0, l5), (0, l6), v7] [(0, x47)] M48 _
        refine nb_Wg (q_m_bestManner_17 _ _ _ _ _ _ _ _ _ _) ?_
        refine nb_Gi (fun c52 => ?_) (fun c52 => ?_)
        · have H := nb_Hw ((nb_Hu H).1 c52)
          refine nb_Gr ?_
          refine nb_Wg (q_m_bestManner_19 _ _ _ _ _ _ _ _ _) ?_
          refine nb_Gr ?_
          have E50 : nb_add l6 1 = l6 + 1 := nb_add_eq (by omega) (by omega)
          refine nb_Wg (q_m_bestManner_20 _ _ _ _ _ _ _ _ _) ?_
          simp only [E50]
          clear E50
          refine nb_Gr ?_
          exact nb_Hu H
        · have H := nb_Hw ((nb_Hu H).2 (by omega))
          have c52 : l5 ≤ x47 := by omega
          refine nb_Gr ?_
          refine nb_Wg (q_m_bestManner_18 _ _ _ _ _ _ _ _ _) ?_
          refine nb_Gr ?_
          have E51 : nb_add l6 1 = l6 + 1 := nb_add_eq (by omega) (by omega)
          refine nb_Wg (q_m_bestManner_20 _ _ _ _ _ _ _ _ _) ?_
          simp only [E51]
          clear E51
          refine nb_Gr ?_
          exact nb_Hu H
  · have H := nb_Hw ((nb_Hu H).2 (by omega))
    have c58 : 4 ≤ l6 := by omega
    refine nb_Gr ?_
    have E55 : nb_rd M 603 17 = 608 := W.m17
    have N56 : nb_ln M 608 = 108 := W.lk (by decide) (by decide +kernel)
    refine nb_Wg (q_m_bestManner_21 _ _ _ _ _ _ _ _ _ (by omega) (by rw [E55]; first | done | omega) (by rw [E55]; first | done | omega) (by omega) (by rw [E55, N56]; first | done | omega)) ?_
    simp only [E55]
    clear E55 N56
    have W57 : nb_Lay (nb_wr M 608 l2 l3) := W.wr (fun w => (nb_nnum (by decide) (by decide)))
    refine nb_Gr ?_
    refine nb_Wg (q_m_bestManner_22 _ _ _ _ _ _ _ _ _) ?_
    refine nb_Gs ?_
    exact nb_Hu H W57

theorem w_m_leastLook_0 {l1 : Int} {v2 v3 v4 v5 v6 v7 : nb_V} {M : nb_M} {Q : List nb_V → nb_M → Prop} (W : nb_Lay M) (H : 0 ≤ M.1 603 14 ∧ M.1 603 14 ≤ 1 ∧ (M.1 603 14 = 0 → (nb_Lay (nb_wr (nb_wr (nb_wr M 603 0 0) 603 11 0) 603 11 1) → Q [(0, (-1))] (nb_wr (nb_wr (nb_wr M 603 0 0) 603 11 0) 603 11 1))) ∧ (M.1 603 14 ≠ 0 → 0 ≤ M.1 606 5 ∧ M.1 606 5 ≤ 10 ∧ (l1 < 0 → (nb_Lay (nb_wr (nb_wr (nb_wr M 603 0 0) 603 11 0) 603 11 1) → Q [(0, (-1))] (nb_wr (nb_wr (nb_wr M 603 0 0) 603 11 0) 603 11 1))) ∧ (0 ≤ l1 → (M.1 606 5 - 1 < l1 → (nb_Lay (nb_wr (nb_wr (nb_wr M 603 0 0) 603 11 0) 603 11 1) → Q [(0, (-1))] (nb_wr (nb_wr (nb_wr M 603 0 0) 603 11 0) 603 11 1))) ∧ (l1 ≤ M.1 606 5 - 1 → (M.1 608 (12 + 8 * l1) = 0 → nb_W 121 0 [(20, 603)] [] (nb_wr (nb_wr M 603 0 0) 603 11 0) (fun r M26 => r = [] ∧ nb_Lay M26 ∧ -2147483648 ≤ 8 * l1 ∧ 8 * l1 ≤ 2147483647 ∧ -2147483648 ≤ 12 + 8 * l1 ∧ 12 + 8 * l1 ≤ 2147483647 ∧ -2147483648 ≤ 12 + 8 * l1 + 2 ∧ 12 + 8 * l1 + 2 ≤ 2147483647 ∧ 0 ≤ 12 + 8 * l1 + 2 ∧ 12 + 8 * l1 + 2 < 108 ∧ nb_W 171 12 [(20, 603), (0, l1), (0, 12 + 8 * l1 + 2), (0, M26.1 608 (12 + 8 * l1 + 2)), (0, (-2)), (0, 1000000), (0, 0), v7] [] (nb_wr M26 603 26 (M26.1 606 2)) Q)) ∧ (M.1 608 (12 + 8 * l1) ≠ 0 → (nb_Lay (nb_wr (nb_wr (nb_wr M 603 0 0) 603 11 0) 603 11 5) → Q [(0, (-1))] (nb_wr (nb_wr (nb_wr M 603 0 0) 603 11 0) 603 11 5))))))) :
    nb_W 171 0 [(20, 603), (0, l1), v2, v3, v4, v5, v6, v7] [] M Q := by
  replace H := nb_Hw H
  refine nb_Wg (q_m_leastLook_0 _ _ _ _ _ _ _ _ _ (by omega)) ?_
  refine nb_Gb ?_
  refine nb_Wg (q_m_good_0 _ _ (by omega)) ?_
  have W1 : nb_Lay (nb_wr M 603 0 0) := W.wr (fun w => (nb_nlit (by decide) (by decide)))
  refine nb_Gr ?_
  refine nb_Wg (q_m_good_1 _ _ (by omega)) ?_
  have W2 : nb_Lay (nb_wr (nb_wr M 603 0 0) 603 11 0) := W1.wr (fun w => (nb_nlit (by decide) (by decide)))
  refine nb_Gr ?_
  refine nb_Wg (q_m_good_2 _ _) ?_
  refine nb_Gs ?_
  show nb_W 171 1 [(20, 603), (0, l1), v2, v3, v4, v5, v6, v7] [] (nb_wr (nb_wr M 603 0 0) 603 11 0) _
  refine nb_Wg (q_m_leastLook_1 _ _ _ _ _ _ _ _ _ (by omega)) ?_
  refine nb_Gb ?_
  obtain ⟨p0_, p1_, H⟩ := H
  replace H := nb_Hw H
  have E3 : nb_rd (nb_wr (nb_wr M 603 0 0) 603 11 0) 603 14 = M.1 603 14 := nb_rdw (Or.inr (by decide)) (nb_rdw (Or.inr (by decide)) (nb_rd_1 _ _ _))
  refine nb_Wg (q_m_isPerson_0 _ _ _ (by omega)) ?_
  simp only [E3]
  clear E3
  refine nb_Gi (fun c43 => ?_) (fun c43 => ?_)
  · have H := nb_Hw ((nb_Hu H).1 c43)
    refine nb_Gr ?_
    refine nb_Wg (q_m_isPerson_4 _ _ _) ?_
    refine nb_Gr ?_
    have E4 : nb_i2z 0 = 0 := by decide
    refine nb_Wg (q_m_isPerson_5 _ _ _ _) ?_
    simp only [E4]
    clear E4
    refine nb_Gs ?_
    show nb_W 171 2 [(20, 603), (0, l1), v2, v3, v4, v5, v6, v7] [(0, 0)] (nb_wr (nb_wr M 603 0 0) 603 11 0) _
    refine nb_Wg (q_m_leastLook_2 _ _ _ _ _ _ _ _ _ _) ?_
    refine nb_Gt (by decide) ?_
    refine nb_Gr ?_
    refine nb_Wg (q_m_leastLook_3 _ _ _ _ _ _ _ _ _ (by omega)) ?_
    refine nb_Gb ?_
    refine nb_Wg (q_m_no_0 _ _ _ (by omega)) ?_
    have W5 : nb_Lay (nb_wr (nb_wr (nb_wr M 603 0 0) 603 11 0) 603 11 1) := W2.wr (fun w => (nb_nlit (by decide) (by decide)))
    refine nb_Gr ?_
    refine nb_Wg (q_m_no_1 _ _ _) ?_
    refine nb_Gs ?_
    show nb_W 171 4 [(20, 603), (0, l1), v2, v3, v4, v5, v6, v7] [(0, (-1))] (nb_wr (nb_wr (nb_wr M 603 0 0) 603 11 0) 603 11 1) _
    refine nb_Wg (q_m_leastLook_4 _ _ _ _ _ _ _ _ _ _) ?_
    refine nb_Gs ?_
    exact nb_Hu H W5
  · have H := nb_Hw ((nb_Hu H).2 (by omega))
    have c43 : M.1 603 14 ≠ 0 := by omega
    refine nb_Gr ?_
    obtain ⟨p0_, p1_, H⟩ := H
    replace H := nb_Hw H
    have E6 : nb_rd (nb_wr (nb_wr M 603 0 0) 603 11 0) 603 15 = 606 := W2.m15
    have N7 : nb_ln (nb_wr (nb_wr M 603 0 0) 603 11 0) 606 = 347 := W2.lk (by decide) (by decide +kernel)
    have E8 : nb_rd (nb_wr (nb_wr M 603 0 0) 603 11 0) 606 5 = M.1 606 5 := nb_rdw (Or.inl (by decide)) (nb_rdw (Or.inl (by decide)) (nb_rd_1 _ _ _))
    have E9 : nb_sub (M.1 606 5) 1 = M.1 606 5 - 1 := nb_sub_eq (by omega) (by omega)
    refine nb_Wg (q_m_isPerson_1 _ _ _ (by omega) (by rw [E6]; first | done | omega) (by omega) (by rw [E6, N7]; first | done | omega)) ?_
    simp only [E6, E8, E9]
    clear E6 N7 E8 E9
    refine nb_Gb ?_
    refine nb_Wg (q_m_within_0 _ _ _ _) ?_
    refine nb_Gi (fun c42 => ?_) (fun c42 => ?_)
    · have H := nb_Hw ((nb_Hu H).1 c42)
      refine nb_Gr ?_
      refine nb_Wg (q_m_within_3 _ _ _ _) ?_
      refine nb_Gr ?_
      have E10 : nb_i2z 0 = 0 := by decide
      refine nb_Wg (q_m_within_4 _ _ _ _ _) ?_
      simp only [E10]
      clear E10
      refine nb_Gs ?_
      show nb_W 116 2 [(20, 603), (0, l1)] [(0, 0)] (nb_wr (nb_wr M 603 0 0) 603 11 0) _
      refine nb_Wg (q_m_isPerson_2 _ _ _ _) ?_
      refine nb_Gt (by decide) ?_
      refine nb_Gr ?_
      refine nb_Wg (q_m_isPerson_4 _ _ _) ?_
      refine nb_Gr ?_
      have E11 : nb_i2z 0 = 0 := by decide
      refine nb_Wg (q_m_isPerson_5 _ _ _ _) ?_
      simp only [E11]
      clear E11
      refine nb_Gs ?_
      show nb_W 171 2 [(20, 603), (0, l1), v2, v3, v4, v5, v6, v7] [(0, 0)] (nb_wr (nb_wr M 603 0 0) 603 11 0) _
      refine nb_Wg (q_m_leastLook_2 _ _ _ _ _ _ _ _ _ _) ?_
      refine nb_Gt (by decide) ?_
      refine nb_Gr ?_
      refine nb_Wg (q_m_leastLook_3 _ _ _ _ _ _ _ _ _ (by omega)) ?_
      refine nb_Gb ?_
      refine nb_Wg (q_m_no_0 _ _ _ (by omega)) ?_
      have W12 : nb_Lay (nb_wr (nb_wr (nb_wr M 603 0 0) 603 11 0) 603 11 1) := W2.wr (fun w => (nb_nlit (by decide) (by decide)))
      refine nb_Gr ?_
      refine nb_Wg (q_m_no_1 _ _ _) ?_
      refine nb_Gs ?_
      show nb_W 171 4 [(20, 603), (0, l1), v2, v3, v4, v5, v6, v7] [(0, (-1))] (nb_wr (nb_wr (nb_wr M 603 0 0) 603 11 0) 603 11 1) _
      refine nb_Wg (q_m_leastLook_4 _ _ _ _ _ _ _ _ _ _) ?_
      refine nb_Gs ?_
      exact nb_Hu H W12
    · have H := nb_Hw ((nb_Hu H).2 (by omega))
      have c42 : 0 ≤ l1 := by omega
      refine nb_Gr ?_
      refine nb_Wg (q_m_within_1 _ _ _ _) ?_
      refine nb_Gi (fun c41 => ?_) (fun c41 => ?_)
      · have H := nb_Hw ((nb_Hu H).1 c41)
        refine nb_Gr ?_
        refine nb_Wg (q_m_within_3 _ _ _ _) ?_
        refine nb_Gr ?_
        have E13 : nb_i2z 0 = 0 := by decide
        refine nb_Wg (q_m_within_4 _ _ _ _ _) ?_
        simp only [E13]
        clear E13
        refine nb_Gs ?_
        show nb_W 116 2 [(20, 603), (0, l1)] [(0, 0)] (nb_wr (nb_wr M 603 0 0) 603 11 0) _
        refine nb_Wg (q_m_isPerson_2 _ _ _ _) ?_
        refine nb_Gt (by decide) ?_
        refine nb_Gr ?_
        refine nb_Wg (q_m_isPerson_4 _ _ _) ?_
        refine nb_Gr ?_
        have E14 : nb_i2z 0 = 0 := by decide
        refine nb_Wg (q_m_isPerson_5 _ _ _ _) ?_
        simp only [E14]
        clear E14
        refine nb_Gs ?_
        show nb_W 171 2 [(20, 603), (0, l1), v2, v3, v4, v5, v6, v7] [(0, 0)] (nb_wr (nb_wr M 603 0 0) 603 11 0) _
        refine nb_Wg (q_m_leastLook_2 _ _ _ _ _ _ _ _ _ _) ?_
        refine nb_Gt (by decide) ?_
        refine nb_Gr ?_
        refine nb_Wg (q_m_leastLook_3 _ _ _ _ _ _ _ _ _ (by omega)) ?_
        refine nb_Gb ?_
        refine nb_Wg (q_m_no_0 _ _ _ (by omega)) ?_
        have W15 : nb_Lay (nb_wr (nb_wr (nb_wr M 603 0 0) 603 11 0) 603 11 1) := W2.wr (fun w => (nb_nlit (by decide) (by decide)))
        refine nb_Gr ?_
        refine nb_Wg (q_m_no_1 _ _ _) ?_
        refine nb_Gs ?_
        show nb_W 171 4 [(20, 603), (0, l1), v2, v3, v4, v5, v6, v7] [(0, (-1))] (nb_wr (nb_wr (nb_wr M 603 0 0) 603 11 0) 603 11 1) _
        refine nb_Wg (q_m_leastLook_4 _ _ _ _ _ _ _ _ _ _) ?_
        refine nb_Gs ?_
        exact nb_Hu H W15
      · have H := nb_Hw ((nb_Hu H).2 (by omega))
        have c41 : l1 ≤ M.1 606 5 - 1 := by omega
        refine nb_Gr ?_
        refine nb_Wg (q_m_within_2 _ _ _ _) ?_
        refine nb_Gr ?_
        have E16 : nb_i2z 1 = 1 := by decide
        refine nb_Wg (q_m_within_4 _ _ _ _ _) ?_
        simp only [E16]
        clear E16
        refine nb_Gs ?_
        show nb_W 116 2 [(20, 603), (0, l1)] [(0, 1)] (nb_wr (nb_wr M 603 0 0) 603 11 0) _
        refine nb_Wg (q_m_isPerson_2 _ _ _ _) ?_
        refine nb_Gf (by decide) ?_
        refine nb_Gr ?_
        refine nb_Wg (q_m_isPerson_3 _ _ _) ?_
        refine nb_Gr ?_
        have E17 : nb_i2z 1 = 1 := by decide
        refine nb_Wg (q_m_isPerson_5 _ _ _ _) ?_
        simp only [E17]
        clear E17
        refine nb_Gs ?_
        show nb_W 171 2 [(20, 603), (0, l1), v2, v3, v4, v5, v6, v7] [(0, 1)] (nb_wr (nb_wr M 603 0 0) 603 11 0) _
        refine nb_Wg (q_m_leastLook_2 _ _ _ _ _ _ _ _ _ _) ?_
        refine nb_Gf (by decide) ?_
        refine nb_Gr ?_
        refine nb_Wg (q_m_leastLook_5 _ _ _ _ _ _ _ _ _ (by omega)) ?_
        refine nb_Gb ?_
        have E18 : nb_rd (nb_wr (nb_wr M 603 0 0) 603 11 0) 603 17 = 608 := W2.m17
        refine nb_Wg (q_m_hasCome_0 _ _ _ (by omega)) ?_
        simp only [E18]
        clear E18
        refine nb_Gb ?_
        have E19 : nb_mul 8 l1 = 8 * l1 := nb_mul_eq (by omega) (by omega)
        have E20 : nb_add 12 (8 * l1) = 12 + 8 * l1 := (nb_add_eq (x := 12) (y := 8 * l1) (by omega) (by omega)).trans (by omega)
        have E21 : nb_add (12 + 8 * l1) 0 = 12 + 8 * l1 := (nb_add_eq (x := 12 + 8 * l1) (y := 0) (by omega) (by omega)).trans (by omega)
        have N22 : nb_ln (nb_wr (nb_wr M 603 0 0) 603 11 0) 608 = 108 := W2.lk (by decide) (by decide +kernel)
        have E23 : nb_rd (nb_wr (nb_wr M 603 0 0) 603 11 0) 608 (12 + 8 * l1) = M.1 608 (12 + 8 * l1) := nb_rdw (Or.inl (by decide)) (nb_rdw (Or.inl (by decide)) (nb_rd_1 _ _ _))
        refine nb_Wg (q_m_its_0 _ _ _ _ (by omega) (by rw [E19, E20, E21]; first | done | omega) (by rw [E19, E20, E21, N22]; first | done | omega)) ?_
        simp only [E19, E20, E21, E23]
        clear E19 E20 E21 N22 E23
        refine nb_Gs ?_
        show nb_W 165 1 [(20, 603), (0, l1)] [(0, M.1 608 (12 + 8 * l1))] (nb_wr (nb_wr M 603 0 0) 603 11 0) _
        refine nb_Wg (q_m_hasCome_1 _ _ _ _) ?_
        refine nb_Gi (fun c40 => ?_) (fun c40 => ?_)
        · have H := nb_Hw ((nb_Hu H).1 c40)
          refine nb_Gr ?_
          refine nb_Wg (q_m_hasCome_3 _ _ _) ?_
          refine nb_Gr ?_
          have E24 : nb_i2z 0 = 0 := by decide
          refine nb_Wg (q_m_hasCome_4 _ _ _ _) ?_
          simp only [E24]
          clear E24
          refine nb_Gs ?_
          show nb_W 171 6 [(20, 603), (0, l1), v2, v3, v4, v5, v6, v7] [(0, 0)] (nb_wr (nb_wr M 603 0 0) 603 11 0) _
          refine nb_Wg (q_m_leastLook_6 _ _ _ _ _ _ _ _ _ _) ?_
          refine nb_Gt (by decide) ?_
          refine nb_Gr ?_
          refine nb_Wg (q_m_leastLook_9 _ _ _ _ _ _ _ _ _ (by omega)) ?_
          refine nb_Gb ?_
          refine nb_W.imp (nb_Hu H) (fun r M26 H => ?_)
          obtain ⟨rfl, W27, H⟩ := H
          replace H := nb_Hw H
          show nb_W 171 10 [(20, 603), (0, l1), v2, v3, v4, v5, v6, v7] [] M26 _
          have E28 : nb_rd M26 603 15 = 606 := W27.m15
          have N29 : nb_ln M26 606 = 347 := W27.lk (by decide) (by decide +kernel)
          have E30 : nb_rd M26 606 2 = M26.1 606 2 := nb_rd_1 _ _ _
          refine nb_Wg (q_m_leastLook_10 _ _ _ _ _ _ _ _ _ (by omega) (by rw [E28]; first | done | omega) (by omega) (by rw [E28, N29]; first | done | omega)) ?_
          simp only [E28, E30]
          clear E28 N29 E30
          have W31 : nb_Lay (nb_wr M26 603 26 (M26.1 606 2)) := W27.wr (fun w => (nb_nlit (by decide) (by decide)))
          refine nb_Gr ?_
          obtain ⟨p0_, p1_, p2_, p3_, p4_, p5_, p6_, p7_, H⟩ := H
          replace H := nb_Hw H
          have E32 : nb_mul 8 l1 = 8 * l1 := nb_mul_eq (by omega) (by omega)
          have E33 : nb_add 12 (8 * l1) = 12 + 8 * l1 := (nb_add_eq (x := 12) (y := 8 * l1) (by omega) (by omega)).trans (by omega)
          have E34 : nb_add (12 + 8 * l1) 2 = 12 + 8 * l1 + 2 := nb_add_eq (by omega) (by omega)
          have E35 : nb_rd (nb_wr M26 603 26 (M26.1 606 2)) 603 17 = 608 := W31.m17
          have N36 : nb_ln (nb_wr M26 603 26 (M26.1 606 2)) 608 = 108 := W31.lk (by decide) (by decide +kernel)
          have E37 : nb_rd (nb_wr M26 603 26 (M26.1 606 2)) 608 (12 + 8 * l1 + 2) = M26.1 608 (12 + 8 * l1 + 2) := nb_rdw (Or.inl (by decide)) (nb_rd_1 _ _ _)
          refine nb_Wg (q_m_leastLook_11 _ _ _ _ _ _ _ _ _ (by omega) (by rw [E35]; first | done | omega) (by rw [E32, E33, E34]; first | done | omega) (by rw [E32, E33, E34, E35, N36]; first | done | omega)) ?_
          simp only [E32, E33, E34, E35, E37]
          clear E32 E33 E34 E35 N36 E37
          refine nb_Gr ?_
          exact nb_Hu H
        · have H := nb_Hw ((nb_Hu H).2 (by omega))
          have c40 : M.1 608 (12 + 8 * l1) ≠ 0 := by omega
          refine nb_Gr ?_
          refine nb_Wg (q_m_hasCome_2 _ _ _) ?_
          refine nb_Gr ?_
          have E38 : nb_i2z 1 = 1 := by decide
          refine nb_Wg (q_m_hasCome_4 _ _ _ _) ?_
          simp only [E38]
          clear E38
          refine nb_Gs ?_
          show nb_W 171 6 [(20, 603), (0, l1), v2, v3, v4, v5, v6, v7] [(0, 1)] (nb_wr (nb_wr M 603 0 0) 603 11 0) _
          refine nb_Wg (q_m_leastLook_6 _ _ _ _ _ _ _ _ _ _) ?_
          refine nb_Gf (by decide) ?_
          refine nb_Gr ?_
          refine nb_Wg (q_m_leastLook_7 _ _ _ _ _ _ _ _ _ (by omega)) ?_
          refine nb_Gb ?_
          refine nb_Wg (q_m_no_0 _ _ _ (by omega)) ?_
          have W39 : nb_Lay (nb_wr (nb_wr (nb_wr M 603 0 0) 603 11 0) 603 11 5) := W2.wr (fun w => (nb_nlit (by decide) (by decide)))
          refine nb_Gr ?_
          refine nb_Wg (q_m_no_1 _ _ _) ?_
          refine nb_Gs ?_
          show nb_W 171 8 [(20, 603), (0, l1), v2, v3, v4, v5, v6, v7] [(0, (-1))] (nb_wr (nb_wr (nb_wr M 603 0 0) 603 11 0) 603 11 5) _
          refine nb_Wg (q_m_leastLook_8 _ _ _ _ _ _ _ _ _ _) ?_
          refine nb_Gs ?_
          exact nb_Hu H W39

theorem w_m_leastLook_12 {l1 l2 l3 l4 l5 l6 : Int} {v7 : nb_V} {M : nb_M} {Q : List nb_V → nb_M → Prop} (W : nb_Lay M)  (b0_ : 0 ≤ l1 ∧ l1 ≤ 9) (b1_ : 14 ≤ l2 ∧ l2 ≤ 86) (b2_ : 0 ≤ l6 ∧ l6 ≤ 100) (H : (l6 < 100 → nb_W 167 0 [(20, 603), (0, l1)] [] (nb_wr M 608 l2 l6) (fun r M5 => ∃ x4 : Int, r = [(0, x4)] ∧ nb_Lay M5 ∧ (x4 < l5 → nb_W 171 12 [(20, 603), (0, l1), (0, l2), (0, l3), (0, l6), (0, x4), (0, l6 + 1), (0, x4)] [] M5 Q) ∧ (l5 ≤ x4 → nb_W 171 12 [(20, 603), (0, l1), (0, l2), (0, l3), (0, l4), (0, l5), (0, l6 + 1), (0, x4)] [] M5 Q))) ∧ (100 ≤ l6 → (nb_Lay (nb_wr M 608 l2 l3) → Q [(0, l4)] (nb_wr M 608 l2 l3)))) :
    nb_W 171 12 [(20, 603), (0, l1), (0, l2), (0, l3), (0, l4), (0, l5), (0, l6), v7] [] M Q := by
  replace H := nb_Hw H
  refine nb_Wg (q_m_leastLook_12 _ _ _ _ _ _ _ _ _) ?_
  refine nb_Gi (fun c13 => ?_) (fun c13 => ?_)
  · have H := nb_Hw ((nb_Hu H).1 c13)
    refine nb_Gr ?_
    have E1 : nb_rd M 603 17 = 608 := W.m17
    have N2 : nb_ln M 608 = 108 := W.lk (by decide) (by decide +kernel)
    refine nb_Wg (q_m_leastLook_13 _ _ _ _ _ _ _ _ _ (by omega) (by rw [E1]; first | done | omega) (by rw [E1]; first | done | omega) (by omega) (by rw [E1, N2]; first | done | omega)) ?_
    simp only [E1]
    clear E1 N2
    have W3 : nb_Lay (nb_wr M 608 l2 l6) := W.wr (fun w => (nb_nnum (by decide) (by decide)))
    refine nb_Gr ?_
    refine nb_Wg (q_m_leastLook_14 _ _ _ _ _ _ _ _ _ (by omega)) ?_
    refine nb_Gb ?_
    refine nb_W.imp (nb_Hu H) (fun r M5 H => ?_)
    obtain ⟨x4, rfl, W6, H⟩ := H
    replace H := nb_Hw H
    show nb_W 171 15 [(20, 603), (0, l1), (0, l2), (0, l3), (0, l4), (0, l5), (0, l6), v7] [(0, x4)] M5 _
    refine nb_Wg (q_m_leastLook_15 _ _ _ _ _ _ _ _ _ _) ?_
    refine nb_Gi (fun c9 => ?_) (fun c9 => ?_)
    · have H := nb_Hw ((nb_Hu H).1 c9)
      refine nb_Gr ?_
      refine nb_Wg (q_m_leastLook_17 _ _ _ _ _ _ _ _ _) ?_
      refine nb_Gr ?_
      have E7 : nb_add l6 1 = l6 + 1 := nb_add_eq (by omega) (by omega)
      refine nb_Wg (q_m_leastLook_18 _ _ _ _ _ _ _ _ _) ?_
      simp only [E7]
      clear E7
      refine nb_Gr ?_
      exact nb_Hu H
    · have H := nb_Hw ((nb_Hu H).2 (by omega))
      have c9 : l5 ≤ x4 := by omega
      refine nb_Gr ?_
      refine nb_Wg (q_m_leastLook_16 _ _ _ _ _ _ _ _ _) ?_
      refine nb_Gr ?_
      have E8 : nb_add l6 1 = l6 + 1 := nb_add_eq (by omega) (by omega)
      refine nb_Wg (q_m_leastLook_18 _ _ _ _ _ _ _ _ _) ?_
      simp only [E8]
      clear E8
      refine nb_Gr ?_
      exact nb_Hu H
  · have H := nb_Hw ((nb_Hu H).2 (by omega))
    have c13 : 100 ≤ l6 := by omega
    refine nb_Gr ?_
    have E10 : nb_rd M 603 17 = 608 := W.m17
    have N11 : nb_ln M 608 = 108 := W.lk (by decide) (by decide +kernel)
    refine nb_Wg (q_m_leastLook_19 _ _ _ _ _ _ _ _ _ (by omega) (by rw [E10]; first | done | omega) (by rw [E10]; first | done | omega) (by omega) (by rw [E10, N11]; first | done | omega)) ?_
    simp only [E10]
    clear E10 N11
    have W12 : nb_Lay (nb_wr M 608 l2 l3) := W.wr (fun w => (nb_nnum (by decide) (by decide)))
    refine nb_Gr ?_
    refine nb_Wg (q_m_leastLook_20 _ _ _ _ _ _ _ _ _) ?_
    refine nb_Gs ?_
    exact nb_Hu H W12

theorem w_m_cutWhy_0 {v1 v2 : nb_V} {M : nb_M} {Q : List nb_V → nb_M → Prop} (W : nb_Lay M) (H : 0 ≤ M.1 603 14 ∧ M.1 603 14 ≤ 1 ∧ (M.1 603 14 = 0 → (nb_Lay M → Q [(0, 1)] M)) ∧ (M.1 603 14 ≠ 0 → 0 ≤ M.1 606 4 ∧ M.1 606 4 ≤ 3 ∧ (M.1 606 4 < 2 → (nb_Lay M → Q [(0, 5)] M)) ∧ (2 ≤ M.1 606 4 → 0 ≤ M.1 606 1 ∧ M.1 606 1 ≤ 20 ∧ (M.1 606 1 < 2 → (nb_Lay M → Q [(0, 5)] M)) ∧ (2 ≤ M.1 606 1 → nb_W 172 7 [(20, 603), (0, 0), v2] [] (nb_wr M 603 28 1000000) Q)))) :
    nb_W 172 0 [(20, 603), v1, v2] [] M Q := by
  replace H := nb_Hw H
  obtain ⟨p0_, p1_, H⟩ := H
  replace H := nb_Hw H
  have E1 : nb_rd M 603 14 = M.1 603 14 := nb_rd_1 _ _ _
  refine nb_Wg (q_m_cutWhy_0 _ _ _ _ (by omega)) ?_
  simp only [E1]
  clear E1
  refine nb_Gi (fun c11 => ?_) (fun c11 => ?_)
  · have H := nb_Hw ((nb_Hu H).1 c11)
    refine nb_Gr ?_
    refine nb_Wg (q_m_cutWhy_1 _ _ _ _) ?_
    refine nb_Gs ?_
    exact nb_Hu H W
  · have H := nb_Hw ((nb_Hu H).2 (by omega))
    have c11 : M.1 603 14 ≠ 0 := by omega
    refine nb_Gr ?_
    obtain ⟨p0_, p1_, H⟩ := H
    replace H := nb_Hw H
    have E2 : nb_rd M 603 15 = 606 := W.m15
    have N3 : nb_ln M 606 = 347 := W.lk (by decide) (by decide +kernel)
    have E4 : nb_rd M 606 4 = M.1 606 4 := nb_rd_1 _ _ _
    refine nb_Wg (q_m_cutWhy_2 _ _ _ _ (by omega) (by rw [E2]; first | done | omega) (by omega) (by rw [E2, N3]; first | done | omega)) ?_
    simp only [E2, E4]
    clear E2 N3 E4
    refine nb_Gi (fun c10 => ?_) (fun c10 => ?_)
    · have H := nb_Hw ((nb_Hu H).1 c10)
      refine nb_Gr ?_
      refine nb_Wg (q_m_cutWhy_4 _ _ _ _) ?_
      refine nb_Gs ?_
      exact nb_Hu H W
    · have H := nb_Hw ((nb_Hu H).2 (by omega))
      have c10 : 2 ≤ M.1 606 4 := by omega
      refine nb_Gr ?_
      obtain ⟨p0_, p1_, H⟩ := H
      replace H := nb_Hw H
      have E5 : nb_rd M 603 15 = 606 := W.m15
      have N6 : nb_ln M 606 = 347 := W.lk (by decide) (by decide +kernel)
      have E7 : nb_rd M 606 1 = M.1 606 1 := nb_rd_1 _ _ _
      refine nb_Wg (q_m_cutWhy_3 _ _ _ _ (by omega) (by rw [E5]; first | done | omega) (by omega) (by rw [E5, N6]; first | done | omega)) ?_
      simp only [E5, E7]
      clear E5 N6 E7
      refine nb_Gi (fun c9 => ?_) (fun c9 => ?_)
      · have H := nb_Hw ((nb_Hu H).1 c9)
        refine nb_Gr ?_
        refine nb_Wg (q_m_cutWhy_4 _ _ _ _) ?_
        refine nb_Gs ?_
        exact nb_Hu H W
      · have H := nb_Hw ((nb_Hu H).2 (by omega))
        have c9 : 2 ≤ M.1 606 1 := by omega
        refine nb_Gr ?_
        refine nb_Wg (q_m_cutWhy_5 _ _ _ _ (by omega)) ?_
        have W8 : nb_Lay (nb_wr M 603 28 1000000) := W.wr (fun w => (nb_nlit (by decide) (by decide)))
        refine nb_Gr ?_
        refine nb_Wg (q_m_cutWhy_6 _ _ _ _) ?_
        refine nb_Gr ?_
        exact nb_Hu H

theorem w_m_cutWhy_7 {l1 : Int} {v2 : nb_V} {M : nb_M} {Q : List nb_V → nb_M → Prop} (W : nb_Lay M)  (b0_ : 0 ≤ l1 ∧ l1 ≤ 20) (H : 0 ≤ M.1 606 1 ∧ M.1 606 1 ≤ 20 ∧ (l1 < M.1 606 1 - 1 → nb_W 121 0 [(20, 603)] [] M (fun r M6 => r = [] ∧ nb_Lay M6 ∧ -2147483648 ≤ M6.1 606 1 - 1 ∧ M6.1 606 1 - 1 ≤ 2147483647 ∧ nb_W 134 0 [(20, 603)] [] (nb_wr (nb_wr (nb_wr (nb_wr (nb_wr M6 603 26 (M6.1 606 2)) 612 2 0) 612 3 l1) 612 8 (l1 + 1)) 612 9 (M6.1 606 1 - 1)) (fun r M30 => r = [] ∧ nb_Lay M30 ∧ nb_W 140 0 [(20, 603), (0, 3), (98, 0), (98, 0), (98, 0)] [] M30 (fun r M33 => ∃ x32 : Int, r = [(0, x32)] ∧ nb_Lay M33 ∧ (x32 < M33.1 603 28 → nb_W 172 7 [(20, 603), (0, l1 + 1), (0, x32)] [] (nb_wr (nb_wr M33 603 28 x32) 603 27 l1) Q) ∧ (M33.1 603 28 ≤ x32 → nb_W 172 7 [(20, 603), (0, l1 + 1), (0, x32)] [] M33 Q))))) ∧ (M.1 606 1 - 1 ≤ l1 → (nb_Lay M → Q [(0, 0)] M))) :
    nb_W 172 7 [(20, 603), (0, l1), v2] [] M Q := by
  replace H := nb_Hw H
  obtain ⟨p0_, p1_, H⟩ := H
  replace H := nb_Hw H
  have E1 : nb_rd M 603 15 = 606 := W.m15
  have N2 : nb_ln M 606 = 347 := W.lk (by decide) (by decide +kernel)
  have E3 : nb_rd M 606 1 = M.1 606 1 := nb_rd_1 _ _ _
  have E4 : nb_sub (M.1 606 1) 1 = M.1 606 1 - 1 := nb_sub_eq (by omega) (by omega)
  refine nb_Wg (q_m_cutWhy_7 _ _ _ _ (by omega) (by rw [E1]; first | done | omega) (by omega) (by rw [E1, N2]; first | done | omega)) ?_
  simp only [E1, E3, E4]
  clear E1 N2 E3 E4
  refine nb_Gi (fun c41 => ?_) (fun c41 => ?_)
  · have H := nb_Hw ((nb_Hu H).1 c41)
    refine nb_Gr ?_
    refine nb_Wg (q_m_cutWhy_8 _ _ _ _ (by omega)) ?_
    refine nb_Gb ?_
    refine nb_W.imp (nb_Hu H) (fun r M6 H => ?_)
    obtain ⟨rfl, W7, H⟩ := H
    replace H := nb_Hw H
    show nb_W 172 9 [(20, 603), (0, l1), v2] [] M6 _
    have E8 : nb_rd M6 603 15 = 606 := W7.m15
    have N9 : nb_ln M6 606 = 347 := W7.lk (by decide) (by decide +kernel)
    have E10 : nb_rd M6 606 2 = M6.1 606 2 := nb_rd_1 _ _ _
    refine nb_Wg (q_m_cutWhy_9 _ _ _ _ (by omega) (by rw [E8]; first | done | omega) (by omega) (by rw [E8, N9]; first | done | omega)) ?_
    simp only [E8, E10]
    clear E8 N9 E10
    have W11 : nb_Lay (nb_wr M6 603 26 (M6.1 606 2)) := W7.wr (fun w => (nb_nlit (by decide) (by decide)))
    refine nb_Gr ?_
    have E12 : nb_rd (nb_wr M6 603 26 (M6.1 606 2)) 603 23 = 612 := W11.m23
    have N13 : nb_ln (nb_wr M6 603 26 (M6.1 606 2)) 612 = 24 := W11.lk (by decide) (by decide +kernel)
    refine nb_Wg (q_m_cutWhy_10 _ _ _ _ (by omega) (by rw [E12]; first | done | omega) (by rw [E12]; first | done | omega) (by omega) (by rw [E12, N13]; first | done | omega)) ?_
    simp only [E12]
    clear E12 N13
    have W14 : nb_Lay (nb_wr (nb_wr M6 603 26 (M6.1 606 2)) 612 2 0) := W11.wr (fun w => (nb_nnum (by decide) (by decide)))
    refine nb_Gr ?_
    have E15 : nb_rd (nb_wr (nb_wr M6 603 26 (M6.1 606 2)) 612 2 0) 603 23 = 612 := W14.m23
    have N16 : nb_ln (nb_wr (nb_wr M6 603 26 (M6.1 606 2)) 612 2 0) 612 = 24 := W14.lk (by decide) (by decide +kernel)
    refine nb_Wg (q_m_cutWhy_11 _ _ _ _ (by omega) (by rw [E15]; first | done | omega) (by rw [E15]; first | done | omega) (by omega) (by rw [E15, N16]; first | done | omega)) ?_
    simp only [E15]
    clear E15 N16
    have W17 : nb_Lay (nb_wr (nb_wr (nb_wr M6 603 26 (M6.1 606 2)) 612 2 0) 612 3 l1) := W14.wr (fun w => (nb_nnum (by decide) (by decide)))
    refine nb_Gr ?_
    have E18 : nb_rd (nb_wr (nb_wr (nb_wr M6 603 26 (M6.1 606 2)) 612 2 0) 612 3 l1) 603 23 = 612 := W17.m23
    have E19 : nb_add l1 1 = l1 + 1 := nb_add_eq (by omega) (by omega)
    have N20 : nb_ln (nb_wr (nb_wr (nb_wr M6 603 26 (M6.1 606 2)) 612 2 0) 612 3 l1) 612 = 24 := W17.lk (by decide) (by decide +kernel)
    refine nb_Wg (q_m_cutWhy_12 _ _ _ _ (by omega) (by rw [E18]; first | done | omega) (by rw [E18]; first | done | omega) (by omega) (by rw [E18, N20]; first | done | omega)) ?_
    simp only [E18, E19]
    clear E18 E19 N20
    have W21 : nb_Lay (nb_wr (nb_wr (nb_wr (nb_wr M6 603 26 (M6.1 606 2)) 612 2 0) 612 3 l1) 612 8 (l1 + 1)) := W17.wr (fun w => (nb_nnum (by decide) (by decide)))
    refine nb_Gr ?_
    obtain ⟨p0_, p1_, H⟩ := H
    replace H := nb_Hw H
    have E22 : nb_rd (nb_wr (nb_wr (nb_wr (nb_wr M6 603 26 (M6.1 606 2)) 612 2 0) 612 3 l1) 612 8 (l1 + 1)) 603 23 = 612 := W21.m23
    have E23 : nb_rd (nb_wr (nb_wr (nb_wr (nb_wr M6 603 26 (M6.1 606 2)) 612 2 0) 612 3 l1) 612 8 (l1 + 1)) 603 15 = 606 := W21.m15
    have N24 : nb_ln (nb_wr (nb_wr (nb_wr (nb_wr M6 603 26 (M6.1 606 2)) 612 2 0) 612 3 l1) 612 8 (l1 + 1)) 606 = 347 := W21.lk (by decide) (by decide +kernel)
    have E25 : nb_rd (nb_wr (nb_wr (nb_wr (nb_wr M6 603 26 (M6.1 606 2)) 612 2 0) 612 3 l1) 612 8 (l1 + 1)) 606 1 = M6.1 606 1 := nb_rdw (Or.inl (by decide)) (nb_rdw (Or.inl (by decide)) (nb_rdw (Or.inl (by decide)) (nb_rdw (Or.inl (by decide)) (nb_rd_1 _ _ _))))
    have E26 : nb_sub (M6.1 606 1) 1 = M6.1 606 1 - 1 := nb_sub_eq (by omega) (by omega)
    have N27 : nb_ln (nb_wr (nb_wr (nb_wr (nb_wr M6 603 26 (M6.1 606 2)) 612 2 0) 612 3 l1) 612 8 (l1 + 1)) 612 = 24 := W21.lk (by decide) (by decide +kernel)
    refine nb_Wg (q_m_cutWhy_13 _ _ _ _ (by omega) (by rw [E23]; first | done | omega) (by omega) (by rw [E23, N24]; first | done | omega) (by rw [E22]; first | done | omega) (by rw [E22]; first | done | omega) (by omega) (by rw [E22, N27]; first | done | omega)) ?_
    simp only [E22, E23, E25, E26]
    clear E22 E23 N24 E25 E26 N27
    have W28 : nb_Lay (nb_wr (nb_wr (nb_wr (nb_wr (nb_wr M6 603 26 (M6.1 606 2)) 612 2 0) 612 3 l1) 612 8 (l1 + 1)) 612 9 (M6.1 606 1 - 1)) := W21.wr (fun w => (nb_nnum (by decide) (by decide)))
    refine nb_Gr ?_
    refine nb_Wg (q_m_cutWhy_14 _ _ _ _ (by omega)) ?_
    refine nb_Gb ?_
    refine nb_W.imp (nb_Hu H) (fun r M30 H => ?_)
    obtain ⟨rfl, W31, H⟩ := H
    replace H := nb_Hw H
    show nb_W 172 15 [(20, 603), (0, l1), v2] [] M30 _
    refine nb_Wg (q_m_cutWhy_15 _ _ _ _ (by omega)) ?_
    refine nb_Gb ?_
    refine nb_W.imp (nb_Hu H) (fun r M33 H => ?_)
    obtain ⟨x32, rfl, W34, H⟩ := H
    replace H := nb_Hw H
    show nb_W 172 16 [(20, 603), (0, l1), v2] [(0, x32)] M33 _
    have E35 : nb_rd M33 603 28 = M33.1 603 28 := nb_rd_1 _ _ _
    refine nb_Wg (q_m_cutWhy_16 _ _ _ _ _ (by omega)) ?_
    simp only [E35]
    clear E35
    refine nb_Gi (fun c40 => ?_) (fun c40 => ?_)
    · have H := nb_Hw ((nb_Hu H).1 c40)
      refine nb_Gr ?_
      refine nb_Wg (q_m_cutWhy_18 _ _ _ _ (by omega)) ?_
      have W36 : nb_Lay (nb_wr M33 603 28 x32) := W34.wr (fun w => (nb_nlit (by decide) (by decide)))
      refine nb_Gr ?_
      refine nb_Wg (q_m_cutWhy_19 _ _ _ _ (by omega)) ?_
      have W37 : nb_Lay (nb_wr (nb_wr M33 603 28 x32) 603 27 l1) := W36.wr (fun w => (nb_nlit (by decide) (by decide)))
      refine nb_Gr ?_
      have E38 : nb_add l1 1 = l1 + 1 := nb_add_eq (by omega) (by omega)
      refine nb_Wg (q_m_cutWhy_20 _ _ _ _) ?_
      simp only [E38]
      clear E38
      refine nb_Gr ?_
      exact nb_Hu H
    · have H := nb_Hw ((nb_Hu H).2 (by omega))
      have c40 : M33.1 603 28 ≤ x32 := by omega
      refine nb_Gr ?_
      refine nb_Wg (q_m_cutWhy_17 _ _ _ _) ?_
      refine nb_Gr ?_
      have E39 : nb_add l1 1 = l1 + 1 := nb_add_eq (by omega) (by omega)
      refine nb_Wg (q_m_cutWhy_20 _ _ _ _) ?_
      simp only [E39]
      clear E39
      refine nb_Gr ?_
      exact nb_Hu H
  · have H := nb_Hw ((nb_Hu H).2 (by omega))
    have c41 : M.1 606 1 - 1 ≤ l1 := by omega
    refine nb_Gr ?_
    refine nb_Wg (q_m_cutWhy_21 _ _ _ _) ?_
    refine nb_Gs ?_
    exact nb_Hu H W

theorem w_m_cut_0 {v1 : nb_V} {M : nb_M} {Q : List nb_V → nb_M → Prop} (W : nb_Lay M) (H : nb_W 172 0 [(20, 603), (98, 0), (98, 0)] [] (nb_wr (nb_wr M 603 0 0) 603 11 0) (fun r M4 => ∃ x3 : Int, r = [(0, x3)] ∧ nb_Lay M4 ∧ (x3 = 0 → (nb_Lay M4 → Q [(0, M4.1 603 27)] M4)) ∧ (x3 ≠ 0 → (nb_Lay (nb_wr M4 603 11 x3) → Q [(0, (-1))] (nb_wr M4 603 11 x3))))) :
    nb_W 173 0 [(20, 603), v1] [] M Q := by
  replace H := nb_Hw H
  refine nb_Wg (q_m_cut_0 _ _ _ (by omega)) ?_
  refine nb_Gb ?_
  refine nb_Wg (q_m_good_0 _ _ (by omega)) ?_
  have W1 : nb_Lay (nb_wr M 603 0 0) := W.wr (fun w => (nb_nlit (by decide) (by decide)))
  refine nb_Gr ?_
  refine nb_Wg (q_m_good_1 _ _ (by omega)) ?_
  have W2 : nb_Lay (nb_wr (nb_wr M 603 0 0) 603 11 0) := W1.wr (fun w => (nb_nlit (by decide) (by decide)))
  refine nb_Gr ?_
  refine nb_Wg (q_m_good_2 _ _) ?_
  refine nb_Gs ?_
  show nb_W 173 1 [(20, 603), v1] [] (nb_wr (nb_wr M 603 0 0) 603 11 0) _
  refine nb_Wg (q_m_cut_1 _ _ _ (by omega)) ?_
  refine nb_Gb ?_
  refine nb_W.imp (nb_Hu H) (fun r M4 H => ?_)
  obtain ⟨x3, rfl, W5, H⟩ := H
  replace H := nb_Hw H
  show nb_W 173 2 [(20, 603), v1] [(0, x3)] M4 _
  refine nb_Wg (q_m_cut_2 _ _ _ _) ?_
  refine nb_Gi (fun c8 => ?_) (fun c8 => ?_)
  · have H := nb_Hw ((nb_Hu H).1 c8)
    refine nb_Gr ?_
    have E6 : nb_rd M4 603 27 = M4.1 603 27 := nb_rd_1 _ _ _
    refine nb_Wg (q_m_cut_5 _ _ _ (by omega)) ?_
    simp only [E6]
    clear E6
    refine nb_Gr ?_
    refine nb_Wg (q_m_cut_6 _ _ _ _) ?_
    refine nb_Gs ?_
    exact nb_Hu H W5
  · have H := nb_Hw ((nb_Hu H).2 (by omega))
    have c8 : x3 ≠ 0 := by omega
    refine nb_Gr ?_
    refine nb_Wg (q_m_cut_3 _ _ _ (by omega)) ?_
    refine nb_Gb ?_
    refine nb_Wg (q_m_no_0 _ _ _ (by omega)) ?_
    have W7 : nb_Lay (nb_wr M4 603 11 x3) := W5.wr (fun w => (nb_nlit (by decide) (by decide)))
    refine nb_Gr ?_
    refine nb_Wg (q_m_no_1 _ _ _) ?_
    refine nb_Gs ?_
    show nb_W 173 4 [(20, 603), (0, x3)] [(0, (-1))] (nb_wr M4 603 11 x3) _
    refine nb_Wg (q_m_cut_4 _ _ _ _) ?_
    refine nb_Gr ?_
    refine nb_Wg (q_m_cut_6 _ _ _ _) ?_
    refine nb_Gs ?_
    exact nb_Hu H W7

theorem w_m_cutWaits_0 {v1 : nb_V} {M : nb_M} {Q : List nb_V → nb_M → Prop} (W : nb_Lay M) (H : nb_W 172 0 [(20, 603), (98, 0), (98, 0)] [] (nb_wr (nb_wr M 603 0 0) 603 11 0) (fun r M4 => ∃ x3 : Int, r = [(0, x3)] ∧ nb_Lay M4 ∧ (x3 = 0 → (nb_Lay M4 → Q [(0, M4.1 603 28)] M4)) ∧ (x3 ≠ 0 → (nb_Lay (nb_wr M4 603 11 x3) → Q [(0, (-1))] (nb_wr M4 603 11 x3))))) :
    nb_W 174 0 [(20, 603), v1] [] M Q := by
  replace H := nb_Hw H
  refine nb_Wg (q_m_cutWaits_0 _ _ _ (by omega)) ?_
  refine nb_Gb ?_
  refine nb_Wg (q_m_good_0 _ _ (by omega)) ?_
  have W1 : nb_Lay (nb_wr M 603 0 0) := W.wr (fun w => (nb_nlit (by decide) (by decide)))
  refine nb_Gr ?_
  refine nb_Wg (q_m_good_1 _ _ (by omega)) ?_
  have W2 : nb_Lay (nb_wr (nb_wr M 603 0 0) 603 11 0) := W1.wr (fun w => (nb_nlit (by decide) (by decide)))
  refine nb_Gr ?_
  refine nb_Wg (q_m_good_2 _ _) ?_
  refine nb_Gs ?_
  show nb_W 174 1 [(20, 603), v1] [] (nb_wr (nb_wr M 603 0 0) 603 11 0) _
  refine nb_Wg (q_m_cutWaits_1 _ _ _ (by omega)) ?_
  refine nb_Gb ?_
  refine nb_W.imp (nb_Hu H) (fun r M4 H => ?_)
  obtain ⟨x3, rfl, W5, H⟩ := H
  replace H := nb_Hw H
  show nb_W 174 2 [(20, 603), v1] [(0, x3)] M4 _
  refine nb_Wg (q_m_cutWaits_2 _ _ _ _) ?_
  refine nb_Gi (fun c8 => ?_) (fun c8 => ?_)
  · have H := nb_Hw ((nb_Hu H).1 c8)
    refine nb_Gr ?_
    have E6 : nb_rd M4 603 28 = M4.1 603 28 := nb_rd_1 _ _ _
    refine nb_Wg (q_m_cutWaits_5 _ _ _ (by omega)) ?_
    simp only [E6]
    clear E6
    refine nb_Gr ?_
    refine nb_Wg (q_m_cutWaits_6 _ _ _ _) ?_
    refine nb_Gs ?_
    exact nb_Hu H W5
  · have H := nb_Hw ((nb_Hu H).2 (by omega))
    have c8 : x3 ≠ 0 := by omega
    refine nb_Gr ?_
    refine nb_Wg (q_m_cutWaits_3 _ _ _ (by omega)) ?_
    refine nb_Gb ?_
    refine nb_Wg (q_m_no_0 _ _ _ (by omega)) ?_
    have W7 : nb_Lay (nb_wr M4 603 11 x3) := W5.wr (fun w => (nb_nlit (by decide) (by decide)))
    refine nb_Gr ?_
    refine nb_Wg (q_m_no_1 _ _ _) ?_
    refine nb_Gs ?_
    show nb_W 174 4 [(20, 603), (0, x3)] [(0, (-1))] (nb_wr M4 603 11 x3) _
    refine nb_Wg (q_m_cutWaits_4 _ _ _ _) ?_
    refine nb_Gr ?_
    refine nb_Wg (q_m_cutWaits_6 _ _ _ _) ?_
    refine nb_Gs ?_
    exact nb_Hu H W7

theorem w_m_layHonest_0 {l1 : Int} {v2 : nb_V} {M : nb_M} {Q : List nb_V → nb_M → Prop} (W : nb_Lay M) (H : nb_W 121 0 [(20, 603)] [] M (fun r M2 => r = [] ∧ nb_Lay M2 ∧ nb_W 177 3 [(20, 603), (0, l1), (0, 0)] [] (nb_wr M2 603 26 (M2.1 606 2)) Q)) :
    nb_W 177 0 [(20, 603), (0, l1), v2] [] M Q := by
  replace H := nb_Hw H
  refine nb_Wg (q_m_layHonest_0 _ _ _ _ (by omega)) ?_
  refine nb_Gb ?_
  refine nb_W.imp (nb_Hu H) (fun r M2 H => ?_)
  obtain ⟨rfl, W3, H⟩ := H
  replace H := nb_Hw H
  show nb_W 177 1 [(20, 603), (0, l1), v2] [] M2 _
  have E4 : nb_rd M2 603 15 = 606 := W3.m15
  have N5 : nb_ln M2 606 = 347 := W3.lk (by decide) (by decide +kernel)
  have E6 : nb_rd M2 606 2 = M2.1 606 2 := nb_rd_1 _ _ _
  refine nb_Wg (q_m_layHonest_1 _ _ _ _ (by omega) (by rw [E4]; first | done | omega) (by omega) (by rw [E4, N5]; first | done | omega)) ?_
  simp only [E4, E6]
  clear E4 N5 E6
  have W7 : nb_Lay (nb_wr M2 603 26 (M2.1 606 2)) := W3.wr (fun w => (nb_nlit (by decide) (by decide)))
  refine nb_Gr ?_
  refine nb_Wg (q_m_layHonest_2 _ _ _ _) ?_
  refine nb_Gr ?_
  exact nb_Hu H

theorem w_m_layHonest_3 {l1 l2 : Int} {M : nb_M} {Q : List nb_V → nb_M → Prop} (W : nb_Lay M)  (b0_ : 0 ≤ l2 ∧ l2 ≤ 10) (H : 0 ≤ M.1 606 5 ∧ M.1 606 5 ≤ 10 ∧ (l2 < M.1 606 5 → (nb_and (nb_shr l1 l2) 1 = 1 → nb_W 169 0 [(20, 603), (0, l2), (0, 1)] [] M (fun r M6 => r = [] ∧ nb_Lay M6 ∧ nb_W 177 3 [(20, 603), (0, l1), (0, l2 + 1)] [] M6 Q)) ∧ (nb_and (nb_shr l1 l2) 1 ≠ 1 → nb_W 169 0 [(20, 603), (0, l2), (0, 0)] [] M (fun r M11 => r = [] ∧ nb_Lay M11 ∧ nb_W 177 3 [(20, 603), (0, l1), (0, l2 + 1)] [] M11 Q))) ∧ (M.1 606 5 ≤ l2 → nb_W 86 0 [(3, 608), (0, 0), (3, 614), (0, 0), (0, 108), (98, 0)] [] M (fun r M18 => r = [] ∧ nb_Lay M18 ∧ nb_W 124 0 [(20, 603), (3, 608), (98, 0), (98, 0)] [] M18 (fun r M22 => r = [] ∧ nb_Lay M22 ∧ nb_W 134 0 [(20, 603)] [] M22 (fun r M25 => r = [] ∧ nb_Lay M25 ∧ nb_W 86 0 [(3, 614), (0, 0), (3, 608), (0, 0), (0, 108), (98, 0)] [] M25 (fun r M30 => r = [] ∧ nb_Lay M30 ∧ (nb_Lay M30 → Q [] M30))))))) :
    nb_W 177 3 [(20, 603), (0, l1), (0, l2)] [] M Q := by
  replace H := nb_Hw H
  obtain ⟨p0_, p1_, H⟩ := H
  replace H := nb_Hw H
  have E1 : nb_rd M 603 15 = 606 := W.m15
  have N2 : nb_ln M 606 = 347 := W.lk (by decide) (by decide +kernel)
  have E3 : nb_rd M 606 5 = M.1 606 5 := nb_rd_1 _ _ _
  refine nb_Wg (q_m_layHonest_3 _ _ _ _ (by omega) (by rw [E1]; first | done | omega) (by omega) (by rw [E1, N2]; first | done | omega)) ?_
  simp only [E1, E3]
  clear E1 N2 E3
  refine nb_Gi (fun c32 => ?_) (fun c32 => ?_)
  · have H := nb_Hw ((nb_Hu H).1 c32)
    refine nb_Gr ?_
    refine nb_Wg (q_m_layHonest_4 _ _ _ _) ?_
    refine nb_Gb ?_
    refine nb_Wg (q_m_hasBit_0 _ _ _) ?_
    refine nb_Gi (fun c14 => ?_) (fun c14 => ?_)
    · have H := nb_Hw ((nb_Hu H).1 c14)
      refine nb_Gr ?_
      refine nb_Wg (q_m_hasBit_1 _ _ _) ?_
      refine nb_Gr ?_
      have E4 : nb_i2z 1 = 1 := by decide
      refine nb_Wg (q_m_hasBit_3 _ _ _ _) ?_
      simp only [E4]
      clear E4
      refine nb_Gs ?_
      show nb_W 177 5 [(20, 603), (0, l1), (0, l2)] [(0, 1), (0, l2), (20, 603)] M _
      refine nb_Wg (q_m_layHonest_5 _ _ _ _ _ _ _) ?_
      refine nb_Gf (by decide) ?_
      refine nb_Gr ?_
      refine nb_Wg (q_m_layHonest_6 _ _ _ _ _ _) ?_
      refine nb_Gr ?_
      refine nb_Wg (q_m_layHonest_8 _ _ _ _ _ _ _ (by omega)) ?_
      refine nb_Gb ?_
      refine nb_W.imp (nb_Hu H) (fun r M6 H => ?_)
      obtain ⟨rfl, W7, H⟩ := H
      replace H := nb_Hw H
      show nb_W 177 9 [(20, 603), (0, l1), (0, l2)] [] M6 _
      have E8 : nb_add l2 1 = l2 + 1 := nb_add_eq (by omega) (by omega)
      refine nb_Wg (q_m_layHonest_9 _ _ _ _) ?_
      simp only [E8]
      clear E8
      refine nb_Gr ?_
      exact nb_Hu H
    · have H := nb_Hw ((nb_Hu H).2 (by omega))
      have c14 : nb_and (nb_shr l1 l2) 1 ≠ 1 := by omega
      refine nb_Gr ?_
      refine nb_Wg (q_m_hasBit_2 _ _ _) ?_
      refine nb_Gr ?_
      have E9 : nb_i2z 0 = 0 := by decide
      refine nb_Wg (q_m_hasBit_3 _ _ _ _) ?_
      simp only [E9]
      clear E9
      refine nb_Gs ?_
      show nb_W 177 5 [(20, 603), (0, l1), (0, l2)] [(0, 0), (0, l2), (20, 603)] M _
      refine nb_Wg (q_m_layHonest_5 _ _ _ _ _ _ _) ?_
      refine nb_Gt (by decide) ?_
      refine nb_Gr ?_
      refine nb_Wg (q_m_layHonest_7 _ _ _ _ _ _) ?_
      refine nb_Gr ?_
      refine nb_Wg (q_m_layHonest_8 _ _ _ _ _ _ _ (by omega)) ?_
      refine nb_Gb ?_
      refine nb_W.imp (nb_Hu H) (fun r M11 H => ?_)
      obtain ⟨rfl, W12, H⟩ := H
      replace H := nb_Hw H
      show nb_W 177 9 [(20, 603), (0, l1), (0, l2)] [] M11 _
      have E13 : nb_add l2 1 = l2 + 1 := nb_add_eq (by omega) (by omega)
      refine nb_Wg (q_m_layHonest_9 _ _ _ _) ?_
      simp only [E13]
      clear E13
      refine nb_Gr ?_
      exact nb_Hu H
  · have H := nb_Hw ((nb_Hu H).2 (by omega))
    have c32 : M.1 606 5 ≤ l2 := by omega
    refine nb_Gr ?_
    have E15 : nb_rd M 603 17 = 608 := W.m17
    have E16 : nb_rd M 603 29 = 614 := W.m29
    refine nb_Wg (q_m_layHonest_10 _ _ _ _ (by omega)) ?_
    simp only [E15, E16]
    clear E15 E16
    refine nb_Gb ?_
    refine nb_W.imp (nb_Hu H) (fun r M18 H => ?_)
    obtain ⟨rfl, W19, H⟩ := H
    replace H := nb_Hw H
    show nb_W 177 11 [(20, 603), (0, l1), (0, l2)] [] M18 _
    have E20 : nb_rd M18 603 17 = 608 := W19.m17
    refine nb_Wg (q_m_layHonest_11 _ _ _ _ (by omega)) ?_
    simp only [E20]
    clear E20
    refine nb_Gb ?_
    refine nb_W.imp (nb_Hu H) (fun r M22 H => ?_)
    obtain ⟨rfl, W23, H⟩ := H
    replace H := nb_Hw H
    show nb_W 177 12 [(20, 603), (0, l1), (0, l2)] [] M22 _
    refine nb_Wg (q_m_layHonest_12 _ _ _ _ (by omega)) ?_
    refine nb_Gb ?_
    refine nb_W.imp (nb_Hu H) (fun r M25 H => ?_)
    obtain ⟨rfl, W26, H⟩ := H
    replace H := nb_Hw H
    show nb_W 177 13 [(20, 603), (0, l1), (0, l2)] [] M25 _
    have E27 : nb_rd M25 603 29 = 614 := W26.m29
    have E28 : nb_rd M25 603 17 = 608 := W26.m17
    refine nb_Wg (q_m_layHonest_13 _ _ _ _ (by omega)) ?_
    simp only [E27, E28]
    clear E27 E28
    refine nb_Gb ?_
    refine nb_W.imp (nb_Hu H) (fun r M30 H => ?_)
    obtain ⟨rfl, W31, H⟩ := H
    replace H := nb_Hw H
    show nb_W 177 14 [(20, 603), (0, l1), (0, l2)] [] M30 _
    refine nb_Wg (q_m_layHonest_14 _ _ _ _) ?_
    refine nb_Gs ?_
    exact nb_Hu H W31

theorem w_m_layFirst_0 {l1 : Int} {v2 v3 : nb_V} {M : nb_M} {Q : List nb_V → nb_M → Prop} (W : nb_Lay M) (hr0 : l1 ≠ 0) (hr1 : l1 ≠ 1) (hrl : nb_ln M l1 = 108) (hA : l1 = 608 ∨ l1 = 609) (H : nb_W 124 1 [(20, 603), (3, l1), (0, 0), v3] [] M Q) :
    nb_W 124 0 [(20, 603), (3, l1), v2, v3] [] M Q := by
  replace H := nb_Hw H
  refine nb_Wg (q_m_layFirst_0 _ _ _ _ _) ?_
  refine nb_Gr ?_
  exact nb_Hu H

theorem w_m_layFirst_1 {l1 l2 : Int} {v3 : nb_V} {M : nb_M} {Q : List nb_V → nb_M → Prop} (W : nb_Lay M) (hr0 : l1 ≠ 0) (hr1 : l1 ≠ 1) (hrl : nb_ln M l1 = 108) (hA : l1 = 608 ∨ l1 = 609) (b0_ : 0 ≤ l2 ∧ l2 ≤ 108) (H : (l2 < 108 → nb_W 124 1 [(20, 603), (3, l1), (0, l2 + 1), v3] [] (nb_wr M l1 l2 0) Q) ∧ (108 ≤ l2 → nb_W 124 5 [(20, 603), (3, l1), (0, 0), v3] [] M Q)) :
    nb_W 124 1 [(20, 603), (3, l1), (0, l2), v3] [] M Q := by
  replace H := nb_Hw H
  refine nb_Wg (q_m_layFirst_1 _ _ _ _ _) ?_
  refine nb_Gi (fun c4 => ?_) (fun c4 => ?_)
  · have H := nb_Hw ((nb_Hu H).1 c4)
    refine nb_Gr ?_
    have N1 : nb_ln M l1 = 108 := hrl
    refine nb_Wg (q_m_layFirst_2 _ _ _ _ _ (by omega) (by omega) (by omega) (by rw [N1]; first | done | omega)) ?_
    clear N1
    have W2 : nb_Lay (nb_wr M l1 l2 0) := W.wr (fun w => (nb_nrow hA))
    refine nb_Gr ?_
    have E3 : nb_add l2 1 = l2 + 1 := nb_add_eq (by omega) (by omega)
    refine nb_Wg (q_m_layFirst_3 _ _ _ _ _) ?_
    simp only [E3]
    clear E3
    refine nb_Gr ?_
    exact nb_Hu H
  · have H := nb_Hw ((nb_Hu H).2 (by omega))
    have c4 : 108 ≤ l2 := by omega
    refine nb_Gr ?_
    refine nb_Wg (q_m_layFirst_4 _ _ _ _ _) ?_
    refine nb_Gr ?_
    exact nb_Hu H

theorem w_m_layFirst_5 {l1 l2 : Int} {v3 : nb_V} {M : nb_M} {Q : List nb_V → nb_M → Prop} (W : nb_Lay M) (hr0 : l1 ≠ 0) (hr1 : l1 ≠ 1) (hrl : nb_ln M l1 = 108) (hA : l1 = 608 ∨ l1 = 609) (b0_ : 0 ≤ l2 ∧ l2 ≤ 10) (H : 0 ≤ M.1 606 5 ∧ M.1 606 5 ≤ 10 ∧ (l2 < M.1 606 5 → (M.1 613 (7 * l2) = 1 → -2147483648 ≤ -(M.1 613 (7 * l2 + 1)) ∧ -(M.1 613 (7 * l2 + 1)) ≤ 2147483647 ∧ -2147483648 ≤ M.1 613 (7 * l2 + 2) + (-(M.1 613 (7 * l2 + 1))) ∧ M.1 613 (7 * l2 + 2) + (-(M.1 613 (7 * l2 + 1))) ≤ 2147483647 ∧ nb_W 124 5 [(20, 603), (3, l1), (0, l2 + 1), (0, 12 + 8 * l2)] [] (nb_wr (nb_wr (nb_wr (nb_wr (nb_wr (nb_wr (nb_wr M l1 (12 + 8 * l2 + 1) (M.1 613 (7 * l2 + 3))) l1 (12 + 8 * l2 + 2) (M.1 613 (7 * l2 + 5))) l1 (12 + 8 * l2 + 3) (M.1 613 (7 * l2 + 2) + (-(M.1 613 (7 * l2 + 1))))) l1 (12 + 8 * l2 + 4) (-2)) l1 (12 + 8 * l2 + 5) (-2)) l1 (12 + 8 * l2 + 6) (-2)) l1 (12 + 8 * l2 + 7) (-2)) Q) ∧ (M.1 613 (7 * l2) ≠ 1 → (M.1 613 (7 * l2) = 2 → -2147483648 ≤ M.1 613 (7 * l2 + 2) + (M.1 613 (7 * l2 + 1)) ∧ M.1 613 (7 * l2 + 2) + (M.1 613 (7 * l2 + 1)) ≤ 2147483647 ∧ nb_W 124 5 [(20, 603), (3, l1), (0, l2 + 1), (0, 12 + 8 * l2)] [] (nb_wr (nb_wr (nb_wr (nb_wr (nb_wr (nb_wr (nb_wr M l1 (12 + 8 * l2 + 1) (M.1 613 (7 * l2 + 3))) l1 (12 + 8 * l2 + 2) (M.1 613 (7 * l2 + 5))) l1 (12 + 8 * l2 + 3) (M.1 613 (7 * l2 + 2) + (M.1 613 (7 * l2 + 1)))) l1 (12 + 8 * l2 + 4) (-2)) l1 (12 + 8 * l2 + 5) (-2)) l1 (12 + 8 * l2 + 6) (-2)) l1 (12 + 8 * l2 + 7) (-2)) Q) ∧ (M.1 613 (7 * l2) ≠ 2 → -2147483648 ≤ M.1 613 (7 * l2 + 2) ∧ M.1 613 (7 * l2 + 2) ≤ 2147483647 ∧ nb_W 124 5 [(20, 603), (3, l1), (0, l2 + 1), (0, 12 + 8 * l2)] [] (nb_wr (nb_wr (nb_wr (nb_wr (nb_wr (nb_wr (nb_wr M l1 (12 + 8 * l2 + 1) (M.1 613 (7 * l2 + 3))) l1 (12 + 8 * l2 + 2) (M.1 613 (7 * l2 + 5))) l1 (12 + 8 * l2 + 3) (M.1 613 (7 * l2 + 2))) l1 (12 + 8 * l2 + 4) (-2)) l1 (12 + 8 * l2 + 5) (-2)) l1 (12 + 8 * l2 + 6) (-2)) l1 (12 + 8 * l2 + 7) (-2)) Q))) ∧ (M.1 606 5 ≤ l2 → nb_W 124 18 [(20, 603), (3, l1), (0, 0), v3] [] M Q)) :
    nb_W 124 5 [(20, 603), (3, l1), (0, l2), v3] [] M Q := by
  replace H := nb_Hw H
  obtain ⟨p0_, p1_, H⟩ := H
  replace H := nb_Hw H
  have E1 : nb_rd M 603 15 = 606 := W.m15
  have N2 : nb_ln M 606 = 347 := W.lk (by decide) (by decide +kernel)
  have E3 : nb_rd M 606 5 = M.1 606 5 := nb_rd_1 _ _ _
  refine nb_Wg (q_m_layFirst_5 _ _ _ _ _ (by omega) (by rw [E1]; first | done | omega) (by omega) (by rw [E1, N2]; first | done | omega)) ?_
  simp only [E1, E3]
  clear E1 N2 E3
  refine nb_Gi (fun c94 => ?_) (fun c94 => ?_)
  · have H := nb_Hw ((nb_Hu H).1 c94)
    refine nb_Gr ?_
    have E4 : nb_mul 8 l2 = 8 * l2 := nb_mul_eq (by omega) (by omega)
    have E5 : nb_add 12 (8 * l2) = 12 + 8 * l2 := (nb_add_eq (x := 12) (y := 8 * l2) (by omega) (by omega)).trans (by omega)
    have E6 : nb_add (12 + 8 * l2) 1 = 12 + 8 * l2 + 1 := nb_add_eq (by omega) (by omega)
    refine nb_Wg (q_m_layFirst_6 _ _ _ _ _ (by omega)) ?_
    simp only [E4, E5, E6]
    clear E4 E5 E6
    refine nb_Gb ?_
    have E7 : nb_rd M 603 24 = 613 := W.m24
    have E8 : nb_mul 7 l2 = 7 * l2 := nb_mul_eq (by omega) (by omega)
    have E9 : nb_add (7 * l2) 3 = 7 * l2 + 3 := nb_add_eq (by omega) (by omega)
    have N10 : nb_ln M 613 = 70 := W.lk (by decide) (by decide +kernel)
    have E11 : nb_rd M 613 (7 * l2 + 3) = M.1 613 (7 * l2 + 3) := nb_rd_1 _ _ _
    refine nb_Wg (q_m_man_0 _ _ _ _ (by omega) (by rw [E7]; first | done | omega) (by rw [E8, E9]; first | done | omega) (by rw [E8, E9, E7, N10]; first | done | omega)) ?_
    simp only [E7, E8, E9, E11]
    clear E7 E8 E9 N10 E11
    refine nb_Gs ?_
    show nb_W 124 7 [(20, 603), (3, l1), (0, l2), (0, 12 + 8 * l2)] [(0, M.1 613 (7 * l2 + 3)), (0, 12 + 8 * l2 + 1), (3, l1)] M _
    have N12 : nb_ln M l1 = 108 := hrl
    refine nb_Wg (q_m_layFirst_7 _ _ _ _ _ _ _ _ (by omega) (by omega) (by omega) (by rw [N12]; first | done | omega)) ?_
    clear N12
    have W13 : nb_Lay (nb_wr M l1 (12 + 8 * l2 + 1) (M.1 613 (7 * l2 + 3))) := W.wr (fun w => (nb_nrow hA))
    refine nb_Gr ?_
    have E14 : nb_add (12 + 8 * l2) 2 = 12 + 8 * l2 + 2 := nb_add_eq (by omega) (by omega)
    refine nb_Wg (q_m_layFirst_8 _ _ _ _ _ (by omega)) ?_
    simp only [E14]
    clear E14
    refine nb_Gb ?_
    have E15 : nb_rd (nb_wr M l1 (12 + 8 * l2 + 1) (M.1 613 (7 * l2 + 3))) 603 24 = 613 := W13.m24
    have E16 : nb_mul 7 l2 = 7 * l2 := nb_mul_eq (by omega) (by omega)
    have E17 : nb_add (7 * l2) 5 = 7 * l2 + 5 := nb_add_eq (by omega) (by omega)
    have N18 : nb_ln (nb_wr M l1 (12 + 8 * l2 + 1) (M.1 613 (7 * l2 + 3))) 613 = 70 := W13.lk (by decide) (by decide +kernel)
    have E19 : nb_rd (nb_wr M l1 (12 + 8 * l2 + 1) (M.1 613 (7 * l2 + 3))) 613 (7 * l2 + 5) = M.1 613 (7 * l2 + 5) := nb_rdw (Or.inl (by omega)) (nb_rd_1 _ _ _)
    refine nb_Wg (q_m_man_0 _ _ _ _ (by omega) (by rw [E15]; first | done | omega) (by rw [E16, E17]; first | done | omega) (by rw [E16, E17, E15, N18]; first | done | omega)) ?_
    simp only [E15, E16, E17, E19]
    clear E15 E16 E17 N18 E19
    refine nb_Gs ?_
    show nb_W 124 9 [(20, 603), (3, l1), (0, l2), (0, 12 + 8 * l2)] [(0, M.1 613 (7 * l2 + 5)), (0, 12 + 8 * l2 + 2), (3, l1)] (nb_wr M l1 (12 + 8 * l2 + 1) (M.1 613 (7 * l2 + 3))) _
    have N20 : nb_ln (nb_wr M l1 (12 + 8 * l2 + 1) (M.1 613 (7 * l2 + 3))) l1 = 108 := hrl
    refine nb_Wg (q_m_layFirst_9 _ _ _ _ _ _ _ _ (by omega) (by omega) (by omega) (by rw [N20]; first | done | omega)) ?_
    clear N20
    have W21 : nb_Lay (nb_wr (nb_wr M l1 (12 + 8 * l2 + 1) (M.1 613 (7 * l2 + 3))) l1 (12 + 8 * l2 + 2) (M.1 613 (7 * l2 + 5))) := W13.wr (fun w => (nb_nrow hA))
    refine nb_Gr ?_
    have E22 : nb_add (12 + 8 * l2) 3 = 12 + 8 * l2 + 3 := nb_add_eq (by omega) (by omega)
    refine nb_Wg (q_m_layFirst_10 _ _ _ _ _ (by omega)) ?_
    simp only [E22]
    clear E22
    refine nb_Gb ?_
    refine nb_Wg (q_m_saysFirst_0 _ _ _ _ (by omega)) ?_
    refine nb_Gb ?_
    have E23 : nb_rd (nb_wr (nb_wr M l1 (12 + 8 * l2 + 1) (M.1 613 (7 * l2 + 3))) l1 (12 + 8 * l2 + 2) (M.1 613 (7 * l2 + 5))) 603 24 = 613 := W21.m24
    have E24 : nb_mul 7 l2 = 7 * l2 := nb_mul_eq (by omega) (by omega)
    have E25 : nb_add (7 * l2) 0 = 7 * l2 := (nb_add_eq (x := 7 * l2) (y := 0) (by omega) (by omega)).trans (by omega)
    have N26 : nb_ln (nb_wr (nb_wr M l1 (12 + 8 * l2 + 1) (M.1 613 (7 * l2 + 3))) l1 (12 + 8 * l2 + 2) (M.1 613 (7 * l2 + 5))) 613 = 70 := W21.lk (by decide) (by decide +kernel)
    have E27 : nb_rd (nb_wr (nb_wr M l1 (12 + 8 * l2 + 1) (M.1 613 (7 * l2 + 3))) l1 (12 + 8 * l2 + 2) (M.1 613 (7 * l2 + 5))) 613 (7 * l2) = M.1 613 (7 * l2) := nb_rdw (Or.inl (by omega)) (nb_rdw (Or.inl (by omega)) (nb_rd_1 _ _ _))
    refine nb_Wg (q_m_man_0 _ _ _ _ (by omega) (by rw [E23]; first | done | omega) (by rw [E24, E25]; first | done | omega) (by rw [E24, E25, E23, N26]; first | done | omega)) ?_
    simp only [E23, E24, E25, E27]
    clear E23 E24 E25 N26 E27
    refine nb_Gs ?_
    show nb_W 123 1 [(20, 603), (0, l2), (98, 0)] [(0, M.1 613 (7 * l2))] (nb_wr (nb_wr M l1 (12 + 8 * l2 + 1) (M.1 613 (7 * l2 + 3))) l1 (12 + 8 * l2 + 2) (M.1 613 (7 * l2 + 5))) _
    refine nb_Wg (q_m_saysFirst_1 _ _ _ _ _ (by omega)) ?_
    refine nb_Gb ?_
    have E28 : nb_rd (nb_wr (nb_wr M l1 (12 + 8 * l2 + 1) (M.1 613 (7 * l2 + 3))) l1 (12 + 8 * l2 + 2) (M.1 613 (7 * l2 + 5))) 603 24 = 613 := W21.m24
    have E29 : nb_mul 7 l2 = 7 * l2 := nb_mul_eq (by omega) (by omega)
    have E30 : nb_add (7 * l2) 2 = 7 * l2 + 2 := nb_add_eq (by omega) (by omega)
    have N31 : nb_ln (nb_wr (nb_wr M l1 (12 + 8 * l2 + 1) (M.1 613 (7 * l2 + 3))) l1 (12 + 8 * l2 + 2) (M.1 613 (7 * l2 + 5))) 613 = 70 := W21.lk (by decide) (by decide +kernel)
    have E32 : nb_rd (nb_wr (nb_wr M l1 (12 + 8 * l2 + 1) (M.1 613 (7 * l2 + 3))) l1 (12 + 8 * l2 + 2) (M.1 613 (7 * l2 + 5))) 613 (7 * l2 + 2) = M.1 613 (7 * l2 + 2) := nb_rdw (Or.inl (by omega)) (nb_rdw (Or.inl (by omega)) (nb_rd_1 _ _ _))
    refine nb_Wg (q_m_man_0 _ _ _ _ (by omega) (by rw [E28]; first | done | omega) (by rw [E29, E30]; first | done | omega) (by rw [E29, E30, E28, N31]; first | done | omega)) ?_
    simp only [E28, E29, E30, E32]
    clear E28 E29 E30 N31 E32
    refine nb_Gs ?_
    show nb_W 123 2 [(20, 603), (0, l2), (0, M.1 613 (7 * l2))] [(0, M.1 613 (7 * l2 + 2))] (nb_wr (nb_wr M l1 (12 + 8 * l2 + 1) (M.1 613 (7 * l2 + 3))) l1 (12 + 8 * l2 + 2) (M.1 613 (7 * l2 + 5))) _
    refine nb_Wg (q_m_saysFirst_2 _ _ _ _ _) ?_
    refine nb_Gi (fun c93 => ?_) (fun c93 => ?_)
    · have H := nb_Hw ((nb_Hu H).1 c93)
      refine nb_Gr ?_
      refine nb_Wg (q_m_saysFirst_3 _ _ _ _ _ (by omega)) ?_
      refine nb_Gb ?_
      have E33 : nb_rd (nb_wr (nb_wr M l1 (12 + 8 * l2 + 1) (M.1 613 (7 * l2 + 3))) l1 (12 + 8 * l2 + 2) (M.1 613 (7 * l2 + 5))) 603 24 = 613 := W21.m24
      have E34 : nb_mul 7 l2 = 7 * l2 := nb_mul_eq (by omega) (by omega)
      have E35 : nb_add (7 * l2) 1 = 7 * l2 + 1 := nb_add_eq (by omega) (by omega)
      have N36 : nb_ln (nb_wr (nb_wr M l1 (12 + 8 * l2 + 1) (M.1 613 (7 * l2 + 3))) l1 (12 + 8 * l2 + 2) (M.1 613 (7 * l2 + 5))) 613 = 70 := W21.lk (by decide) (by decide +kernel)
      have E37 : nb_rd (nb_wr (nb_wr M l1 (12 + 8 * l2 + 1) (M.1 613 (7 * l2 + 3))) l1 (12 + 8 * l2 + 2) (M.1 613 (7 * l2 + 5))) 613 (7 * l2 + 1) = M.1 613 (7 * l2 + 1) := nb_rdw (Or.inl (by omega)) (nb_rdw (Or.inl (by omega)) (nb_rd_1 _ _ _))
      refine nb_Wg (q_m_man_0 _ _ _ _ (by omega) (by rw [E33]; first | done | omega) (by rw [E34, E35]; first | done | omega) (by rw [E34, E35, E33, N36]; first | done | omega)) ?_
      simp only [E33, E34, E35, E37]
      clear E33 E34 E35 N36 E37
      refine nb_Gs ?_
      show nb_W 123 4 [(20, 603), (0, l2), (0, M.1 613 (7 * l2))] [(0, M.1 613 (7 * l2 + 1)), (0, M.1 613 (7 * l2 + 2))] (nb_wr (nb_wr M l1 (12 + 8 * l2 + 1) (M.1 613 (7 * l2 + 3))) l1 (12 + 8 * l2 + 2) (M.1 613 (7 * l2 + 5))) _
      obtain ⟨p0_, p1_, H⟩ := H
      replace H := nb_Hw H
      have E38 : nb_neg (M.1 613 (7 * l2 + 1)) = -(M.1 613 (7 * l2 + 1)) := nb_neg_eq (by omega) (by omega)
      refine nb_Wg (q_m_saysFirst_4 _ _ _ _ _ _) ?_
      simp only [E38]
      clear E38
      refine nb_Gr ?_
      obtain ⟨p0_, p1_, H⟩ := H
      replace H := nb_Hw H
      have E39 : nb_add (M.1 613 (7 * l2 + 2)) (-(M.1 613 (7 * l2 + 1))) = M.1 613 (7 * l2 + 2) + (-(M.1 613 (7 * l2 + 1))) := nb_add_eq (by omega) (by omega)
      refine nb_Wg (q_m_saysFirst_9 _ _ _ _ _ _) ?_
      simp only [E39]
      clear E39
      refine nb_Gs ?_
      show nb_W 124 11 [(20, 603), (3, l1), (0, l2), (0, 12 + 8 * l2)] [(0, M.1 613 (7 * l2 + 2) + (-(M.1 613 (7 * l2 + 1)))), (0, 12 + 8 * l2 + 3), (3, l1)] (nb_wr (nb_wr M l1 (12 + 8 * l2 + 1) (M.1 613 (7 * l2 + 3))) l1 (12 + 8 * l2 + 2) (M.1 613 (7 * l2 + 5))) _
      have N40 : nb_ln (nb_wr (nb_wr M l1 (12 + 8 * l2 + 1) (M.1 613 (7 * l2 + 3))) l1 (12 + 8 * l2 + 2) (M.1 613 (7 * l2 + 5))) l1 = 108 := hrl
      refine nb_Wg (q_m_layFirst_11 _ _ _ _ _ _ _ _ (by omega) (by omega) (by omega) (by rw [N40]; first | done | omega)) ?_
      clear N40
      have W41 : nb_Lay (nb_wr (nb_wr (nb_wr M l1 (12 + 8 * l2 + 1) (M.1 613 (7 * l2 + 3))) l1 (12 + 8 * l2 + 2) (M.1 613 (7 * l2 + 5))) l1 (12 + 8 * l2 + 3) (M.1 613 (7 * l2 + 2) + (-(M.1 613 (7 * l2 + 1))))) := W21.wr (fun w => (nb_nrow hA))
      refine nb_Gr ?_
      have E42 : nb_add (12 + 8 * l2) 4 = 12 + 8 * l2 + 4 := nb_add_eq (by omega) (by omega)
      have N43 : nb_ln (nb_wr (nb_wr (nb_wr M l1 (12 + 8 * l2 + 1) (M.1 613 (7 * l2 + 3))) l1 (12 + 8 * l2 + 2) (M.1 613 (7 * l2 + 5))) l1 (12 + 8 * l2 + 3) (M.1 613 (7 * l2 + 2) + (-(M.1 613 (7 * l2 + 1))))) l1 = 108 := hrl
      refine nb_Wg (q_m_layFirst_12 _ _ _ _ _ (by omega) (by omega) (by rw [E42]; first | done | omega) (by rw [E42, N43]; first | done | omega)) ?_
      simp only [E42]
      clear E42 N43
      have W44 : nb_Lay (nb_wr (nb_wr (nb_wr (nb_wr M l1 (12 + 8 * l2 + 1) (M.1 613 (7 * l2 + 3))) l1 (12 + 8 * l2 + 2) (M.1 613 (7 * l2 + 5))) l1 (12 + 8 * l2 + 3) (M.1 613 (7 * l2 + 2) + (-(M.1 613 (7 * l2 + 1))))) l1 (12 + 8 * l2 + 4) (-2)) := W41.wr (fun w => (nb_nrow hA))
      refine nb_Gr ?_
      have E45 : nb_add (12 + 8 * l2) 5 = 12 + 8 * l2 + 5 := nb_add_eq (by omega) (by omega)
      have N46 : nb_ln (nb_wr (nb_wr (nb_wr (nb_wr M l1 (12 + 8 * l2 + 1) (M.1 613 (7 * l2 + 3))) l1 (12 + 8 * l2 + 2) (M.1 613 (7 * l2 + 5))) l1 (12 + 8 * l2 + 3) (M.1 613 (7 * l2 + 2) + (-(M.1 613 (7 * l2 + 1))))) l1 (12 + 8 * l2 + 4) (-2)) l1 = 108 := hrl
      refine nb_Wg (q_m_layFirst_13 _ _ _ _ _ (by omega) (by omega) (by rw [E45]; first | done | omega) (by rw [E45, N46]; first | done | omega)) ?_
      simp only [E45]
      clear E45 N46
      have W47 : nb_Lay (nb_wr (nb_wr (nb_wr (nb_wr (nb_wr M l1 (12 + 8 * l2 + 1) (M.1 613 (7 * l2 + 3))) l1 (12 + 8 * l2 + 2) (M.1 613 (7 * l2 + 5))) l1 (12 + 8 * l2 + 3) (M.1 613 (7 * l2 + 2) + (-(M.1 613 (7 * l2 + 1))))) l1 (12 + 8 * l2 + 4) (-2)) l1 (12 + 8 * l2 + 5) (-2)) := W44.wr (fun w => (nb_nrow hA))
      refine nb_Gr ?_
      have E48 : nb_add (12 + 8 * l2) 6 = 12 + 8 * l2 + 6 := nb_add_eq (by omega) (by omega)
      have N49 : nb_ln (nb_wr (nb_wr (nb_wr (nb_wr (nb_wr M l1 (12 + 8 * l2 + 1) (M.1 613 (7 * l2 + 3))) l1 (12 + 8 * l2 + 2) (M.1 613 (7 * l2 + 5))) l1 (12 + 8 * l2 + 3) (M.1 613 (7 * l2 + 2) + (-(M.1 613 (7 * l2 + 1))))) l1 (12 + 8 * l2 + 4) (-2)) l1 (12 + 8 * l2 + 5) (-2)) l1 = 108 := hrl
      refine nb_Wg (q_m_layFirst_14 _ _ _ _ _ (by omega) (by omega) (by rw [E48]; first | done | omega) (by rw [E48, N49]; first | done | omega)) ?_
      simp only [E48]
      clear E48 N49
      have W50 : nb_Lay (nb_wr (nb_wr (nb_wr (nb_wr (nb_wr (nb_wr M l1 (12 + 8 * l2 + 1) (M.1 613 (7 * l2 + 3))) l1 (12 + 8 * l2 + 2) (M.1 613 (7 * l2 + 5))) l1 (12 + 8 * l2 + 3) (M.1 613 (7 * l2 + 2) + (-(M.1 613 (7 * l2 + 1))))) l1 (12 + 8 * l2 + 4) (-2)) l1 (12 + 8 * l2 + 5) (-2)) l1 (12 + 8 * l2 + 6) (-2)) := W47.wr (fun w => (nb_nrow hA))
      refine nb_Gr ?_
      have E51 : nb_add (12 + 8 * l2) 7 = 12 + 8 * l2 + 7 := nb_add_eq (by omega) (by omega)
      have N52 : nb_ln (nb_wr (nb_wr (nb_wr (nb_wr (nb_wr (nb_wr M l1 (12 + 8 * l2 + 1) (M.1 613 (7 * l2 + 3))) l1 (12 + 8 * l2 + 2) (M.1 613 (7 * l2 + 5))) l1 (12 + 8 * l2 + 3) (M.1 613 (7 * l2 + 2) + (-(M.1 613 (7 * l2 + 1))))) l1 (12 + 8 * l2 + 4) (-2)) l1 (12 + 8 * l2 + 5) (-2)) l1 (12 + 8 * l2 + 6) (-2)) l1 = 108 := hrl
      refine nb_Wg (q_m_layFirst_15 _ _ _ _ _ (by omega) (by omega) (by rw [E51]; first | done | omega) (by rw [E51, N52]; first | done | omega)) ?_
      simp only [E51]
      clear E51 N52
      have W53 : nb_Lay (nb_wr (nb_wr (nb_wr (nb_wr (nb_wr (nb_wr (nb_wr M l1 (12 + 8 * l2 + 1) (M.1 613 (7 * l2 + 3))) l1 (12 + 8 * l2 + 2) (M.1 613 (7 * l2 + 5))) l1 (12 + 8 * l2 + 3) (M.1 613 (7 * l2 + 2) + (-(M.1 613 (7 * l2 + 1))))) l1 (12 + 8 * l2 + 4) (-2)) l1 (12 + 8 * l2 + 5) (-2)) l1 (12 + 8 * l2 + 6) (-2)) l1 (12 + 8 * l2 + 7) (-2)) := W50.wr (fun w => (nb_nrow hA))
      refine nb_Gr ?_
      have E54 : nb_add l2 1 = l2 + 1 := nb_add_eq (by omega) (by omega)
      refine nb_Wg (q_m_layFirst_16 _ _ _ _ _) ?_
      simp only [E54]
      clear E54
      refine nb_Gr ?_
      exact nb_Hu H
    · have H := nb_Hw ((nb_Hu H).2 (by omega))
      have c93 : M.1 613 (7 * l2) ≠ 1 := by omega
      refine nb_Gr ?_
      refine nb_Wg (q_m_saysFirst_5 _ _ _ _ _) ?_
      refine nb_Gi (fun c92 => ?_) (fun c92 => ?_)
      · have H := nb_Hw ((nb_Hu H).1 c92)
        refine nb_Gr ?_
        refine nb_Wg (q_m_saysFirst_6 _ _ _ _ _ (by omega)) ?_
        refine nb_Gb ?_
        have E55 : nb_rd (nb_wr (nb_wr M l1 (12 + 8 * l2 + 1) (M.1 613 (7 * l2 + 3))) l1 (12 + 8 * l2 + 2) (M.1 613 (7 * l2 + 5))) 603 24 = 613 := W21.m24
        have E56 : nb_mul 7 l2 = 7 * l2 := nb_mul_eq (by omega) (by omega)
        have E57 : nb_add (7 * l2) 1 = 7 * l2 + 1 := nb_add_eq (by omega) (by omega)
        have N58 : nb_ln (nb_wr (nb_wr M l1 (12 + 8 * l2 + 1) (M.1 613 (7 * l2 + 3))) l1 (12 + 8 * l2 + 2) (M.1 613 (7 * l2 + 5))) 613 = 70 := W21.lk (by decide) (by decide +kernel)
        have E59 : nb_rd (nb_wr (nb_wr M l1 (12 + 8 * l2 + 1) (M.1 613 (7 * l2 + 3))) l1 (12 + 8 * l2 + 2) (M.1 613 (7 * l2 + 5))) 613 (7 * l2 + 1) = M.1 613 (7 * l2 + 1) := nb_rdw (Or.inl (by omega)) (nb_rdw (Or.inl (by omega)) (nb_rd_1 _ _ _))
        refine nb_Wg (q_m_man_0 _ _ _ _ (by omega) (by rw [E55]; first | done | omega) (by rw [E56, E57]; first | done | omega) (by rw [E56, E57, E55, N58]; first | done | omega)) ?_
        simp only [E55, E56, E57, E59]
        clear E55 E56 E57 N58 E59
        refine nb_Gs ?_
        show nb_W 123 7 [(20, 603), (0, l2), (0, M.1 613 (7 * l2))] [(0, M.1 613 (7 * l2 + 1)), (0, M.1 613 (7 * l2 + 2))] (nb_wr (nb_wr M l1 (12 + 8 * l2 + 1) (M.1 613 (7 * l2 + 3))) l1 (12 + 8 * l2 + 2) (M.1 613 (7 * l2 + 5))) _
        refine nb_Wg (q_m_saysFirst_7 _ _ _ _ _ _) ?_
        refine nb_Gr ?_
        obtain ⟨p0_, p1_, H⟩ := H
        replace H := nb_Hw H
        have E60 : nb_add (M.1 613 (7 * l2 + 2)) (M.1 613 (7 * l2 + 1)) = M.1 613 (7 * l2 + 2) + (M.1 613 (7 * l2 + 1)) := nb_add_eq (by omega) (by omega)
        refine nb_Wg (q_m_saysFirst_9 _ _ _ _ _ _) ?_
        simp only [E60]
        clear E60
        refine nb_Gs ?_
        show nb_W 124 11 [(20, 603), (3, l1), (0, l2), (0, 12 + 8 * l2)] [(0, M.1 613 (7 * l2 + 2) + (M.1 613 (7 * l2 + 1))), (0, 12 + 8 * l2 + 3), (3, l1)] (nb_wr (nb_wr M l1 (12 + 8 * l2 + 1) (M.1 613 (7 * l2 + 3))) l1 (12 + 8 * l2 + 2) (M.1 613 (7 * l2 + 5))) _
        have N61 : nb_ln (nb_wr (nb_wr M l1 (12 + 8 * l2 + 1) (M.1 613 (7 * l2 + 3))) l1 (12 + 8 * l2 + 2) (M.1 613 (7 * l2 + 5))) l1 = 108 := hrl
        refine nb_Wg (q_m_layFirst_11 _ _ _ _ _ _ _ _ (by omega) (by omega) (by omega) (by rw [N61]; first | done | omega)) ?_
        clear N61
        have W62 : nb_Lay (nb_wr (nb_wr (nb_wr M l1 (12 + 8 * l2 + 1) (M.1 613 (7 * l2 + 3))) l1 (12 + 8 * l2 + 2) (M.1 613 (7 * l2 + 5))) l1 (12 + 8 * l2 + 3) (M.1 613 (7 * l2 + 2) + (M.1 613 (7 * l2 + 1)))) := W21.wr (fun w => (nb_nrow hA))
        refine nb_Gr ?_
        have E63 : nb_add (12 + 8 * l2) 4 = 12 + 8 * l2 + 4 := nb_add_eq (by omega) (by omega)
        have N64 : nb_ln (nb_wr (nb_wr (nb_wr M l1 (12 + 8 * l2 + 1) (M.1 613 (7 * l2 + 3))) l1 (12 + 8 * l2 + 2) (M.1 613 (7 * l2 + 5))) l1 (12 + 8 * l2 + 3) (M.1 613 (7 * l2 + 2) + (M.1 613 (7 * l2 + 1)))) l1 = 108 := hrl
        refine nb_Wg (q_m_layFirst_12 _ _ _ _ _ (by omega) (by omega) (by rw [E63]; first | done | omega) (by rw [E63, N64]; first | done | omega)) ?_
        simp only [E63]
        clear E63 N64
        have W65 : nb_Lay (nb_wr (nb_wr (nb_wr (nb_wr M l1 (12 + 8 * l2 + 1) (M.1 613 (7 * l2 + 3))) l1 (12 + 8 * l2 + 2) (M.1 613 (7 * l2 + 5))) l1 (12 + 8 * l2 + 3) (M.1 613 (7 * l2 + 2) + (M.1 613 (7 * l2 + 1)))) l1 (12 + 8 * l2 + 4) (-2)) := W62.wr (fun w => (nb_nrow hA))
        refine nb_Gr ?_
        have E66 : nb_add (12 + 8 * l2) 5 = 12 + 8 * l2 + 5 := nb_add_eq (by omega) (by omega)
        have N67 : nb_ln (nb_wr (nb_wr (nb_wr (nb_wr M l1 (12 + 8 * l2 + 1) (M.1 613 (7 * l2 + 3))) l1 (12 + 8 * l2 + 2) (M.1 613 (7 * l2 + 5))) l1 (12 + 8 * l2 + 3) (M.1 613 (7 * l2 + 2) + (M.1 613 (7 * l2 + 1)))) l1 (12 + 8 * l2 + 4) (-2)) l1 = 108 := hrl
        refine nb_Wg (q_m_layFirst_13 _ _ _ _ _ (by omega) (by omega) (by rw [E66]; first | done | omega) (by rw [E66, N67]; first | done | omega)) ?_
        simp only [E66]
        clear E66 N67
        have W68 : nb_Lay (nb_wr (nb_wr (nb_wr (nb_wr (nb_wr M l1 (12 + 8 * l2 + 1) (M.1 613 (7 * l2 + 3))) l1 (12 + 8 * l2 + 2) (M.1 613 (7 * l2 + 5))) l1 (12 + 8 * l2 + 3) (M.1 613 (7 * l2 + 2) + (M.1 613 (7 * l2 + 1)))) l1 (12 + 8 * l2 + 4) (-2)) l1 (12 + 8 * l2 + 5) (-2)) := W65.wr (fun w => (nb_nrow hA))
        refine nb_Gr ?_
        have E69 : nb_add (12 + 8 * l2) 6 = 12 + 8 * l2 + 6 := nb_add_eq (by omega) (by omega)
        have N70 : nb_ln (nb_wr (nb_wr (nb_wr (nb_wr (nb_wr M l1 (12 + 8 * l2 + 1) (M.1 613 (7 * l2 + 3))) l1 (12 + 8 * l2 + 2) (M.1 613 (7 * l2 + 5))) l1 (12 + 8 * l2 + 3) (M.1 613 (7 * l2 + 2) + (M.1 613 (7 * l2 + 1)))) l1 (12 + 8 * l2 + 4) (-2)) l1 (12 + 8 * l2 + 5) (-2)) l1 = 108 := hrl
        refine nb_Wg (q_m_layFirst_14 _ _ _ _ _ (by omega) (by omega) (by rw [E69]; first | done | omega) (by rw [E69, N70]; first | done | omega)) ?_
        simp only [E69]
        clear E69 N70
        have W71 : nb_Lay (nb_wr (nb_wr (nb_wr (nb_wr (nb_wr (nb_wr M l1 (12 + 8 * l2 + 1) (M.1 613 (7 * l2 + 3))) l1 (12 + 8 * l2 + 2) (M.1 613 (7 * l2 + 5))) l1 (12 + 8 * l2 + 3) (M.1 613 (7 * l2 + 2) + (M.1 613 (7 * l2 + 1)))) l1 (12 + 8 * l2 + 4) (-2)) l1 (12 + 8 * l2 + 5) (-2)) l1 (12 + 8 * l2 + 6) (-2)) := W68.wr (fun w => (nb_nrow hA))
        refine nb_Gr ?_
        have E72 : nb_add (12 + 8 * l2) 7 = 12 + 8 * l2 + 7 := nb_add_eq (by omega) (by omega)
        have N73 : nb_ln (nb_wr (nb_wr (nb_wr (nb_wr (nb_wr (nb_wr M l1 (12 + 8 * l2 + 1) (M.1 613 (7 * l2 + 3))) l1 (12 + 8 * l2 + 2) (M.1 613 (7 * l2 + 5))) l1 (12 + 8 * l2 + 3) (M.1 613 (7 * l2 + 2) + (M.1 613 (7 * l2 + 1)))) l1 (12 + 8 * l2 + 4) (-2)) l1 (12 + 8 * l2 + 5) (-2)) l1 (12 + 8 * l2 + 6) (-2)) l1 = 108 := hrl
        refine nb_Wg (q_m_layFirst_15 _ _ _ _ _ (by omega) (by omega) (by rw [E72]; first | done | omega) (by rw [E72, N73]; first | done | omega)) ?_
        simp only [E72]
        clear E72 N73
        have W74 : nb_Lay (nb_wr (nb_wr (nb_wr (nb_wr (nb_wr (nb_wr (nb_wr M l1 (12 + 8 * l2 + 1) (M.1 613 (7 * l2 + 3))) l1 (12 + 8 * l2 + 2) (M.1 613 (7 * l2 + 5))) l1 (12 + 8 * l2 + 3) (M.1 613 (7 * l2 + 2) + (M.1 613 (7 * l2 + 1)))) l1 (12 + 8 * l2 + 4) (-2)) l1 (12 + 8 * l2 + 5) (-2)) l1 (12 + 8 * l2 + 6) (-2)) l1 (12 + 8 * l2 + 7) (-2)) := W71.wr (fun w => (nb_nrow hA))
        refine nb_Gr ?_
        have E75 : nb_add l2 1 = l2 + 1 := nb_add_eq (by omega) (by omega)
        refine nb_Wg (q_m_layFirst_16 _ _ _ _ _) ?_
        simp only [E75]
        clear E75
        refine nb_Gr ?_
        exact nb_Hu H
      · have H := nb_Hw ((nb_Hu H).2 (by omega))
        have c92 : M.1 613 (7 * l2) ≠ 2 := by omega
        refine nb_Gr ?_
        refine nb_Wg (q_m_saysFirst_8 _ _ _ _ _) ?_
        refine nb_Gr ?_
        obtain ⟨p0_, p1_, H⟩ := H
        replace H := nb_Hw H
        have E76 : nb_add (M.1 613 (7 * l2 + 2)) 0 = M.1 613 (7 * l2 + 2) := (nb_add_eq (x := M.1 613 (7 * l2 + 2)) (y := 0) (by omega) (by omega)).trans (by omega)
        refine nb_Wg (q_m_saysFirst_9 _ _ _ _ _ _) ?_
        simp only [E76]
        clear E76
        refine nb_Gs ?_
        show nb_W 124 11 [(20, 603), (3, l1), (0, l2), (0, 12 + 8 * l2)] [(0, M.1 613 (7 * l2 + 2)), (0, 12 + 8 * l2 + 3), (3, l1)] (nb_wr (nb_wr M l1 (12 + 8 * l2 + 1) (M.1 613 (7 * l2 + 3))) l1 (12 + 8 * l2 + 2) (M.1 613 (7 * l2 + 5))) _
        have N77 : nb_ln (nb_wr (nb_wr M l1 (12 + 8 * l2 + 1) (M.1 613 (7 * l2 + 3))) l1 (12 + 8 * l2 + 2) (M.1 613 (7 * l2 + 5))) l1 = 108 := hrl
        refine nb_Wg (q_m_layFirst_11 _ _ _ _ _ _ _ _ (by omega) (by omega) (by omega) (by rw [N77]; first | done | omega)) ?_
        clear N77
        have W78 : nb_Lay (nb_wr (nb_wr (nb_wr M l1 (12 + 8 * l2 + 1) (M.1 613 (7 * l2 + 3))) l1 (12 + 8 * l2 + 2) (M.1 613 (7 * l2 + 5))) l1 (12 + 8 * l2 + 3) (M.1 613 (7 * l2 + 2))) := W21.wr (fun w => (nb_nrow hA))
        refine nb_Gr ?_
        have E79 : nb_add (12 + 8 * l2) 4 = 12 + 8 * l2 + 4 := nb_add_eq (by omega) (by omega)
        have N80 : nb_ln (nb_wr (nb_wr (nb_wr M l1 (12 + 8 * l2 + 1) (M.1 613 (7 * l2 + 3))) l1 (12 + 8 * l2 + 2) (M.1 613 (7 * l2 + 5))) l1 (12 + 8 * l2 + 3) (M.1 613 (7 * l2 + 2))) l1 = 108 := hrl
        refine nb_Wg (q_m_layFirst_12 _ _ _ _ _ (by omega) (by omega) (by rw [E79]; first | done | omega) (by rw [E79, N80]; first | done | omega)) ?_
        simp only [E79]
        clear E79 N80
        have W81 : nb_Lay (nb_wr (nb_wr (nb_wr (nb_wr M l1 (12 + 8 * l2 + 1) (M.1 613 (7 * l2 + 3))) l1 (12 + 8 * l2 + 2) (M.1 613 (7 * l2 + 5))) l1 (12 + 8 * l2 + 3) (M.1 613 (7 * l2 + 2))) l1 (12 + 8 * l2 + 4) (-2)) := W78.wr (fun w => (nb_nrow hA))
        refine nb_Gr ?_
        have E82 : nb_add (12 + 8 * l2) 5 = 12 + 8 * l2 + 5 := nb_add_eq (by omega) (by omega)
        have N83 : nb_ln (nb_wr (nb_wr (nb_wr (nb_wr M l1 (12 + 8 * l2 + 1) (M.1 613 (7 * l2 + 3))) l1 (12 + 8 * l2 + 2) (M.1 613 (7 * l2 + 5))) l1 (12 + 8 * l2 + 3) (M.1 613 (7 * l2 + 2))) l1 (12 + 8 * l2 + 4) (-2)) l1 = 108 := hrl
        refine nb_Wg (q_m_layFirst_13 _ _ _ _ _ (by omega) (by omega) (by rw [E82]; first | done | omega) (by rw [E82, N83]; first | done | omega)) ?_
        simp only [E82]
        clear E82 N83
        have W84 : nb_Lay (nb_wr (nb_wr (nb_wr (nb_wr (nb_wr M l1 (12 + 8 * l2 + 1) (M.1 613 (7 * l2 + 3))) l1 (12 + 8 * l2 + 2) (M.1 613 (7 * l2 + 5))) l1 (12 + 8 * l2 + 3) (M.1 613 (7 * l2 + 2))) l1 (12 + 8 * l2 + 4) (-2)) l1 (12 + 8 * l2 + 5) (-2)) := W81.wr (fun w => (nb_nrow hA))
        refine nb_Gr ?_
        have E85 : nb_add (12 + 8 * l2) 6 = 12 + 8 * l2 + 6 := nb_add_eq (by omega) (by omega)
        have N86 : nb_ln (nb_wr (nb_wr (nb_wr (nb_wr (nb_wr M l1 (12 + 8 * l2 + 1) (M.1 613 (7 * l2 + 3))) l1 (12 + 8 * l2 + 2) (M.1 613 (7 * l2 + 5))) l1 (12 + 8 * l2 + 3) (M.1 613 (7 * l2 + 2))) l1 (12 + 8 * l2 + 4) (-2)) l1 (12 + 8 * l2 + 5) (-2)) l1 = 108 := hrl
        refine nb_Wg (q_m_layFirst_14 _ _ _ _ _ (by omega) (by omega) (by rw [E85]; first | done | omega) (by rw [E85, N86]; first | done | omega)) ?_
        simp only [E85]
        clear E85 N86
        have W87 : nb_Lay (nb_wr (nb_wr (nb_wr (nb_wr (nb_wr (nb_wr M l1 (12 + 8 * l2 + 1) (M.1 613 (7 * l2 + 3))) l1 (12 + 8 * l2 + 2) (M.1 613 (7 * l2 + 5))) l1 (12 + 8 * l2 + 3) (M.1 613 (7 * l2 + 2))) l1 (12 + 8 * l2 + 4) (-2)) l1 (12 + 8 * l2 + 5) (-2)) l1 (12 + 8 * l2 + 6) (-2)) := W84.wr (fun w => (nb_nrow hA))
        refine nb_Gr ?_
        have E88 : nb_add (12 + 8 * l2) 7 = 12 + 8 * l2 + 7 := nb_add_eq (by omega) (by omega)
        have N89 : nb_ln (nb_wr (nb_wr (nb_wr (nb_wr (nb_wr (nb_wr M l1 (12 + 8 * l2 + 1) (M.1 613 (7 * l2 + 3))) l1 (12 + 8 * l2 + 2) (M.1 613 (7 * l2 + 5))) l1 (12 + 8 * l2 + 3) (M.1 613 (7 * l2 + 2))) l1 (12 + 8 * l2 + 4) (-2)) l1 (12 + 8 * l2 + 5) (-2)) l1 (12 + 8 * l2 + 6) (-2)) l1 = 108 := hrl
        refine nb_Wg (q_m_layFirst_15 _ _ _ _ _ (by omega) (by omega) (by rw [E88]; first | done | omega) (by rw [E88, N89]; first | done | omega)) ?_
        simp only [E88]
        clear E88 N89
        have W90 : nb_Lay (nb_wr (nb_wr (nb_wr (nb_wr (nb_wr (nb_wr (nb_wr M l1 (12 + 8 * l2 + 1) (M.1 613 (7 * l2 + 3))) l1 (12 + 8 * l2 + 2) (M.1 613 (7 * l2 + 5))) l1 (12 + 8 * l2 + 3) (M.1 613 (7 * l2 + 2))) l1 (12 + 8 * l2 + 4) (-2)) l1 (12 + 8 * l2 + 5) (-2)) l1 (12 + 8 * l2 + 6) (-2)) l1 (12 + 8 * l2 + 7) (-2)) := W87.wr (fun w => (nb_nrow hA))
        refine nb_Gr ?_
        have E91 : nb_add l2 1 = l2 + 1 := nb_add_eq (by omega) (by omega)
        refine nb_Wg (q_m_layFirst_16 _ _ _ _ _) ?_
        simp only [E91]
        clear E91
        refine nb_Gr ?_
        exact nb_Hu H
  · have H := nb_Hw ((nb_Hu H).2 (by omega))
    have c94 : M.1 606 5 ≤ l2 := by omega
    refine nb_Gr ?_
    refine nb_Wg (q_m_layFirst_17 _ _ _ _ _) ?_
    refine nb_Gr ?_
    exact nb_Hu H

theorem w_m_layFirst_18 {l1 l2 : Int} {v3 : nb_V} {M : nb_M} {Q : List nb_V → nb_M → Prop} (W : nb_Lay M) (hr0 : l1 ≠ 0) (hr1 : l1 ≠ 1) (hrl : nb_ln M l1 = 108) (hA : l1 = 608 ∨ l1 = 609) (b0_ : 0 ≤ l2 ∧ l2 ≤ 3) (H : (l2 < M.1 603 25 → nb_W 124 18 [(20, 603), (3, l1), (0, l2 + 1), v3] [] (nb_wr M l1 (92 + 4 * l2) (M.1 612 (6 * l2 + 1))) Q) ∧ (M.1 603 25 ≤ l2 → (nb_Lay M → Q [] M))) :
    nb_W 124 18 [(20, 603), (3, l1), (0, l2), v3] [] M Q := by
  replace H := nb_Hw H
  have E1 : nb_rd M 603 25 = M.1 603 25 := nb_rd_1 _ _ _
  refine nb_Wg (q_m_layFirst_18 _ _ _ _ _ (by omega)) ?_
  simp only [E1]
  clear E1
  refine nb_Gi (fun c12 => ?_) (fun c12 => ?_)
  · have H := nb_Hw ((nb_Hu H).1 c12)
    refine nb_Gr ?_
    have E2 : nb_mul 4 l2 = 4 * l2 := nb_mul_eq (by omega) (by omega)
    have E3 : nb_add 92 (4 * l2) = 92 + 4 * l2 := (nb_add_eq (x := 92) (y := 4 * l2) (by omega) (by omega)).trans (by omega)
    have E4 : nb_rd M 603 23 = 612 := W.m23
    have E5 : nb_mul 6 l2 = 6 * l2 := nb_mul_eq (by omega) (by omega)
    have E6 : nb_add (6 * l2) 1 = 6 * l2 + 1 := nb_add_eq (by omega) (by omega)
    have N7 : nb_ln M 612 = 24 := W.lk (by decide) (by decide +kernel)
    have E8 : nb_rd M 612 (6 * l2 + 1) = M.1 612 (6 * l2 + 1) := nb_rd_1 _ _ _
    have N9 : nb_ln M l1 = 108 := hrl
    refine nb_Wg (q_m_layFirst_19 _ _ _ _ _ (by omega) (by rw [E4]; first | done | omega) (by rw [E5, E6]; first | done | omega) (by rw [E5, E6, E4, N7]; first | done | omega) (by omega) (by omega) (by rw [E2, E3]; first | done | omega) (by rw [E2, E3, N9]; first | done | omega)) ?_
    simp only [E2, E3, E4, E5, E6, E8]
    clear E2 E3 E4 E5 E6 N7 E8 N9
    have W10 : nb_Lay (nb_wr M l1 (92 + 4 * l2) (M.1 612 (6 * l2 + 1))) := W.wr (fun w => (nb_nrow hA))
    refine nb_Gr ?_
    have E11 : nb_add l2 1 = l2 + 1 := nb_add_eq (by omega) (by omega)
    refine nb_Wg (q_m_layFirst_20 _ _ _ _ _) ?_
    simp only [E11]
    clear E11
    refine nb_Gr ?_
    exact nb_Hu H
  · have H := nb_Hw ((nb_Hu H).2 (by omega))
    have c12 : M.1 603 25 ≤ l2 := by omega
    refine nb_Gr ?_
    refine nb_Wg (q_m_layFirst_21 _ _ _ _ _) ?_
    refine nb_Gs ?_
    exact nb_Hu H W

theorem w_m_honesty_0 {l1 l2 : Int} {v3 v4 v5 : nb_V} {M : nb_M} {Q : List nb_V → nb_M → Prop} (W : nb_Lay M) (H : 0 ≤ M.1 603 14 ∧ M.1 603 14 ≤ 1 ∧ (M.1 603 14 = 0 → (nb_Lay (nb_wr (nb_wr (nb_wr M 603 0 0) 603 11 0) 603 11 1) → Q [(0, (-1))] (nb_wr (nb_wr (nb_wr M 603 0 0) 603 11 0) 603 11 1))) ∧ (M.1 603 14 ≠ 0 → 0 ≤ M.1 606 5 ∧ M.1 606 5 ≤ 10 ∧ -2147483648 ≤ nb_shl 1 (M.1 606 5) - 1 ∧ nb_shl 1 (M.1 606 5) - 1 ≤ 2147483647 ∧ (l1 < 0 → (nb_Lay (nb_wr (nb_wr (nb_wr M 603 0 0) 603 11 0) 603 11 2) → Q [(0, (-1))] (nb_wr (nb_wr (nb_wr M 603 0 0) 603 11 0) 603 11 2))) ∧ (0 ≤ l1 → (nb_shl 1 (M.1 606 5) - 1 < l1 → (nb_Lay (nb_wr (nb_wr (nb_wr M 603 0 0) 603 11 0) 603 11 2) → Q [(0, (-1))] (nb_wr (nb_wr (nb_wr M 603 0 0) 603 11 0) 603 11 2))) ∧ (l1 ≤ nb_shl 1 (M.1 606 5) - 1 → nb_W 177 0 [(20, 603), (0, l1), (98, 0)] [] (nb_wr (nb_wr M 603 0 0) 603 11 0) (fun r M15 => r = [] ∧ nb_Lay M15 ∧ nb_W 180 7 [(20, 603), (0, l1), (0, l2), nb_clr ((0, 0)), (0, 0), (0, 0)] [] M15 Q))))) :
    nb_W 180 0 [(20, 603), (0, l1), (0, l2), v3, v4, v5] [] M Q := by
  replace H := nb_Hw H
  refine nb_Wg (q_m_honesty_0 _ _ _ _ _ _ _ (by omega)) ?_
  refine nb_Gb ?_
  refine nb_Wg (q_m_good_0 _ _ (by omega)) ?_
  have W1 : nb_Lay (nb_wr M 603 0 0) := W.wr (fun w => (nb_nlit (by decide) (by decide)))
  refine nb_Gr ?_
  refine nb_Wg (q_m_good_1 _ _ (by omega)) ?_
  have W2 : nb_Lay (nb_wr (nb_wr M 603 0 0) 603 11 0) := W1.wr (fun w => (nb_nlit (by decide) (by decide)))
  refine nb_Gr ?_
  refine nb_Wg (q_m_good_2 _ _) ?_
  refine nb_Gs ?_
  show nb_W 180 1 [(20, 603), (0, l1), (0, l2), v3, v4, v5] [] (nb_wr (nb_wr M 603 0 0) 603 11 0) _
  refine nb_Wg (q_m_honesty_1 _ _ _ _ _ _ _ (by omega)) ?_
  refine nb_Gb ?_
  obtain ⟨p0_, p1_, H⟩ := H
  replace H := nb_Hw H
  have E3 : nb_rd (nb_wr (nb_wr M 603 0 0) 603 11 0) 603 14 = M.1 603 14 := nb_rdw (Or.inr (by decide)) (nb_rdw (Or.inr (by decide)) (nb_rd_1 _ _ _))
  refine nb_Wg (q_m_setWhy_0 _ _ _ (by omega)) ?_
  simp only [E3]
  clear E3
  refine nb_Gi (fun c19 => ?_) (fun c19 => ?_)
  · have H := nb_Hw ((nb_Hu H).1 c19)
    refine nb_Gr ?_
    refine nb_Wg (q_m_setWhy_1 _ _ _) ?_
    refine nb_Gr ?_
    refine nb_Wg (q_m_setWhy_7 _ _ _ _) ?_
    refine nb_Gs ?_
    show nb_W 180 2 [(20, 603), (0, l1), (0, l2), v3, v4, v5] [(0, 1)] (nb_wr (nb_wr M 603 0 0) 603 11 0) _
    refine nb_Wg (q_m_honesty_2 _ _ _ _ _ _ _ _) ?_
    refine nb_Gf (by decide) ?_
    refine nb_Gr ?_
    refine nb_Wg (q_m_honesty_3 _ _ _ _ _ _ _ (by omega)) ?_
    refine nb_Gb ?_
    refine nb_Wg (q_m_no_0 _ _ _ (by omega)) ?_
    have W4 : nb_Lay (nb_wr (nb_wr (nb_wr M 603 0 0) 603 11 0) 603 11 1) := W2.wr (fun w => (nb_nlit (by decide) (by decide)))
    refine nb_Gr ?_
    refine nb_Wg (q_m_no_1 _ _ _) ?_
    refine nb_Gs ?_
    show nb_W 180 4 [(20, 603), (0, l1), (0, l2), (0, 1), v4, v5] [(0, (-1))] (nb_wr (nb_wr (nb_wr M 603 0 0) 603 11 0) 603 11 1) _
    refine nb_Wg (q_m_honesty_4 _ _ _ _ _ _ _ _) ?_
    refine nb_Gs ?_
    exact nb_Hu H W4
  · have H := nb_Hw ((nb_Hu H).2 (by omega))
    have c19 : M.1 603 14 ≠ 0 := by omega
    refine nb_Gr ?_
    refine nb_Wg (q_m_setWhy_2 _ _ _ (by omega)) ?_
    refine nb_Gb ?_
    obtain ⟨p0_, p1_, p2_, p3_, H⟩ := H
    replace H := nb_Hw H
    have E5 : nb_rd (nb_wr (nb_wr M 603 0 0) 603 11 0) 603 15 = 606 := W2.m15
    have N6 : nb_ln (nb_wr (nb_wr M 603 0 0) 603 11 0) 606 = 347 := W2.lk (by decide) (by decide +kernel)
    have E7 : nb_rd (nb_wr (nb_wr M 603 0 0) 603 11 0) 606 5 = M.1 606 5 := nb_rdw (Or.inl (by decide)) (nb_rdw (Or.inl (by decide)) (nb_rd_1 _ _ _))
    have E8 : nb_sub (nb_shl 1 (M.1 606 5)) 1 = nb_shl 1 (M.1 606 5) - 1 := nb_sub_eq (by omega) (by omega)
    refine nb_Wg (q_m_allPeople_0 _ _ (by omega) (by rw [E5]; first | done | omega) (by omega) (by rw [E5, N6]; first | done | omega)) ?_
    simp only [E5, E7, E8]
    clear E5 N6 E7 E8
    refine nb_Gs ?_
    show nb_W 179 3 [(20, 603), (0, l1)] [(0, nb_shl 1 (M.1 606 5) - 1), (0, 0), (0, l1)] (nb_wr (nb_wr M 603 0 0) 603 11 0) _
    refine nb_Wg (q_m_setWhy_3 _ _ _ _ _ _) ?_
    refine nb_Gb ?_
    refine nb_Wg (q_m_within_0 _ _ _ _) ?_
    refine nb_Gi (fun c18 => ?_) (fun c18 => ?_)
    · have H := nb_Hw ((nb_Hu H).1 c18)
      refine nb_Gr ?_
      refine nb_Wg (q_m_within_3 _ _ _ _) ?_
      refine nb_Gr ?_
      have E9 : nb_i2z 0 = 0 := by decide
      refine nb_Wg (q_m_within_4 _ _ _ _ _) ?_
      simp only [E9]
      clear E9
      refine nb_Gs ?_
      show nb_W 179 4 [(20, 603), (0, l1)] [(0, 0)] (nb_wr (nb_wr M 603 0 0) 603 11 0) _
      refine nb_Wg (q_m_setWhy_4 _ _ _ _) ?_
      refine nb_Gt (by decide) ?_
      refine nb_Gr ?_
      refine nb_Wg (q_m_setWhy_6 _ _ _) ?_
      refine nb_Gr ?_
      refine nb_Wg (q_m_setWhy_7 _ _ _ _) ?_
      refine nb_Gs ?_
      show nb_W 180 2 [(20, 603), (0, l1), (0, l2), v3, v4, v5] [(0, 2)] (nb_wr (nb_wr M 603 0 0) 603 11 0) _
      refine nb_Wg (q_m_honesty_2 _ _ _ _ _ _ _ _) ?_
      refine nb_Gf (by decide) ?_
      refine nb_Gr ?_
      refine nb_Wg (q_m_honesty_3 _ _ _ _ _ _ _ (by omega)) ?_
      refine nb_Gb ?_
      refine nb_Wg (q_m_no_0 _ _ _ (by omega)) ?_
      have W10 : nb_Lay (nb_wr (nb_wr (nb_wr M 603 0 0) 603 11 0) 603 11 2) := W2.wr (fun w => (nb_nlit (by decide) (by decide)))
      refine nb_Gr ?_
      refine nb_Wg (q_m_no_1 _ _ _) ?_
      refine nb_Gs ?_
      show nb_W 180 4 [(20, 603), (0, l1), (0, l2), (0, 2), v4, v5] [(0, (-1))] (nb_wr (nb_wr (nb_wr M 603 0 0) 603 11 0) 603 11 2) _
      refine nb_Wg (q_m_honesty_4 _ _ _ _ _ _ _ _) ?_
      refine nb_Gs ?_
      exact nb_Hu H W10
    · have H := nb_Hw ((nb_Hu H).2 (by omega))
      have c18 : 0 ≤ l1 := by omega
      refine nb_Gr ?_
      refine nb_Wg (q_m_within_1 _ _ _ _) ?_
      refine nb_Gi (fun c17 => ?_) (fun c17 => ?_)
      · have H := nb_Hw ((nb_Hu H).1 c17)
        refine nb_Gr ?_
        refine nb_Wg (q_m_within_3 _ _ _ _) ?_
        refine nb_Gr ?_
        have E11 : nb_i2z 0 = 0 := by decide
        refine nb_Wg (q_m_within_4 _ _ _ _ _) ?_
        simp only [E11]
        clear E11
        refine nb_Gs ?_
        show nb_W 179 4 [(20, 603), (0, l1)] [(0, 0)] (nb_wr (nb_wr M 603 0 0) 603 11 0) _
        refine nb_Wg (q_m_setWhy_4 _ _ _ _) ?_
        refine nb_Gt (by decide) ?_
        refine nb_Gr ?_
        refine nb_Wg (q_m_setWhy_6 _ _ _) ?_
        refine nb_Gr ?_
        refine nb_Wg (q_m_setWhy_7 _ _ _ _) ?_
        refine nb_Gs ?_
        show nb_W 180 2 [(20, 603), (0, l1), (0, l2), v3, v4, v5] [(0, 2)] (nb_wr (nb_wr M 603 0 0) 603 11 0) _
        refine nb_Wg (q_m_honesty_2 _ _ _ _ _ _ _ _) ?_
        refine nb_Gf (by decide) ?_
        refine nb_Gr ?_
        refine nb_Wg (q_m_honesty_3 _ _ _ _ _ _ _ (by omega)) ?_
        refine nb_Gb ?_
        refine nb_Wg (q_m_no_0 _ _ _ (by omega)) ?_
        have W12 : nb_Lay (nb_wr (nb_wr (nb_wr M 603 0 0) 603 11 0) 603 11 2) := W2.wr (fun w => (nb_nlit (by decide) (by decide)))
        refine nb_Gr ?_
        refine nb_Wg (q_m_no_1 _ _ _) ?_
        refine nb_Gs ?_
        show nb_W 180 4 [(20, 603), (0, l1), (0, l2), (0, 2), v4, v5] [(0, (-1))] (nb_wr (nb_wr (nb_wr M 603 0 0) 603 11 0) 603 11 2) _
        refine nb_Wg (q_m_honesty_4 _ _ _ _ _ _ _ _) ?_
        refine nb_Gs ?_
        exact nb_Hu H W12
      · have H := nb_Hw ((nb_Hu H).2 (by omega))
        have c17 : l1 ≤ nb_shl 1 (M.1 606 5) - 1 := by omega
        refine nb_Gr ?_
        refine nb_Wg (q_m_within_2 _ _ _ _) ?_
        refine nb_Gr ?_
        have E13 : nb_i2z 1 = 1 := by decide
        refine nb_Wg (q_m_within_4 _ _ _ _ _) ?_
        simp only [E13]
        clear E13
        refine nb_Gs ?_
        show nb_W 179 4 [(20, 603), (0, l1)] [(0, 1)] (nb_wr (nb_wr M 603 0 0) 603 11 0) _
        refine nb_Wg (q_m_setWhy_4 _ _ _ _) ?_
        refine nb_Gf (by decide) ?_
        refine nb_Gr ?_
        refine nb_Wg (q_m_setWhy_5 _ _ _) ?_
        refine nb_Gr ?_
        refine nb_Wg (q_m_setWhy_7 _ _ _ _) ?_
        refine nb_Gs ?_
        show nb_W 180 2 [(20, 603), (0, l1), (0, l2), v3, v4, v5] [(0, 0)] (nb_wr (nb_wr M 603 0 0) 603 11 0) _
        refine nb_Wg (q_m_honesty_2 _ _ _ _ _ _ _ _) ?_
        refine nb_Gt (by decide) ?_
        refine nb_Gr ?_
        refine nb_Wg (q_m_honesty_5 _ _ _ _ _ _ _ (by omega)) ?_
        refine nb_Gb ?_
        refine nb_W.imp (nb_Hu H) (fun r M15 H => ?_)
        obtain ⟨rfl, W16, H⟩ := H
        replace H := nb_Hw H
        show nb_W 180 6 [(20, 603), (0, l1), (0, l2), (0, 0), v4, v5] [] M15 _
        refine nb_Wg (q_m_honesty_6 _ _ _ _ _ _ _) ?_
        refine nb_Gr ?_
        exact nb_Hu H

theorem w_m_honesty_7 {l1 l2 l4 l5 : Int} {v3 : nb_V} {M : nb_M} {Q : List nb_V → nb_M → Prop} (W : nb_Lay M)  (b0_ : 0 ≤ l5 ∧ l5 ≤ 10) (b1_ : (-20000) ≤ l4 ∧ l4 ≤ 200000) (H : 0 ≤ M.1 606 5 ∧ M.1 606 5 ≤ 10 ∧ (l5 < M.1 606 5 → (nb_and (nb_shr l1 l5) 1 = 1 → (1 = l2 → nb_W 180 7 [(20, 603), (0, l1), (0, l2), nb_clr v3, (0, l4), (0, l5 + 1)] [] M Q) ∧ (1 ≠ l2 → nb_W 136 0 [(20, 603), (0, l5), (98, 0)] [] M (fun r M8 => ∃ x7 : Int, r = [(0, x7)] ∧ nb_Lay M8 ∧ -2147483648 ≤ l4 + x7 ∧ l4 + x7 ≤ 2147483647 ∧ nb_W 180 7 [(20, 603), (0, l1), (0, l2), nb_clr v3, (0, l4 + x7), (0, l5 + 1)] [] M8 Q))) ∧ (nb_and (nb_shr l1 l5) 1 ≠ 1 → (0 = l2 → nb_W 180 7 [(20, 603), (0, l1), (0, l2), nb_clr v3, (0, l4), (0, l5 + 1)] [] M Q) ∧ (0 ≠ l2 → nb_W 136 0 [(20, 603), (0, l5), (98, 0)] [] M (fun r M17 => ∃ x16 : Int, r = [(0, x16)] ∧ nb_Lay M17 ∧ -2147483648 ≤ l4 + x16 ∧ l4 + x16 ≤ 2147483647 ∧ nb_W 180 7 [(20, 603), (0, l1), (0, l2), nb_clr v3, (0, l4 + x16), (0, l5 + 1)] [] M17 Q)))) ∧ (M.1 606 5 ≤ l5 → (nb_Lay M → Q [(0, l4)] M))) :
    nb_W 180 7 [(20, 603), (0, l1), (0, l2), v3, (0, l4), (0, l5)] [] M Q := by
  replace H := nb_Hw H
  obtain ⟨p0_, p1_, H⟩ := H
  replace H := nb_Hw H
  have E1 : nb_rd M 603 15 = 606 := W.m15
  have N2 : nb_ln M 606 = 347 := W.lk (by decide) (by decide +kernel)
  have E3 : nb_rd M 606 5 = M.1 606 5 := nb_rd_1 _ _ _
  refine nb_Wg (q_m_honesty_7 _ _ _ _ _ _ _ (by omega) (by rw [E1]; first | done | omega) (by omega) (by rw [E1, N2]; first | done | omega)) ?_
  simp only [E1, E3]
  clear E1 N2 E3
  refine nb_Gi (fun c23 => ?_) (fun c23 => ?_)
  · have H := nb_Hw ((nb_Hu H).1 c23)
    refine nb_Gr ?_
    refine nb_Wg (q_m_honesty_8 _ _ _ _ _ _ _) ?_
    refine nb_Gb ?_
    refine nb_Wg (q_m_hasBit_0 _ _ _) ?_
    refine nb_Gi (fun c22 => ?_) (fun c22 => ?_)
    · have H := nb_Hw ((nb_Hu H).1 c22)
      refine nb_Gr ?_
      refine nb_Wg (q_m_hasBit_1 _ _ _) ?_
      refine nb_Gr ?_
      have E4 : nb_i2z 1 = 1 := by decide
      refine nb_Wg (q_m_hasBit_3 _ _ _ _) ?_
      simp only [E4]
      clear E4
      refine nb_Gs ?_
      show nb_W 180 9 [(20, 603), (0, l1), (0, l2), v3, (0, l4), (0, l5)] [(0, 1), (0, l4)] M _
      refine nb_Wg (q_m_honesty_9 _ _ _ _ _ _ _ _ _) ?_
      refine nb_Gi (fun c12 => ?_) (fun c12 => ?_)
      · have H := nb_Hw ((nb_Hu H).1 c12)
        refine nb_Gr ?_
        refine nb_Wg (q_m_honesty_12 _ _ _ _ _ _ _ _) ?_
        refine nb_Gr ?_
        have E5 : nb_add l4 0 = l4 := (nb_add_eq (x := l4) (y := 0) (by omega) (by omega)).trans (by omega)
        have E6 : nb_add l5 1 = l5 + 1 := nb_add_eq (by omega) (by omega)
        refine nb_Wg (q_m_honesty_13 _ _ _ _ _ _ _ _ _) ?_
        simp only [E5, E6]
        clear E5 E6
        refine nb_Gr ?_
        exact nb_Hu H
      · have H := nb_Hw ((nb_Hu H).2 (by omega))
        have c12 : 1 ≠ l2 := by omega
        refine nb_Gr ?_
        refine nb_Wg (q_m_honesty_10 _ _ _ _ _ _ _ _ (by omega)) ?_
        refine nb_Gb ?_
        refine nb_W.imp (nb_Hu H) (fun r M8 H => ?_)
        obtain ⟨x7, rfl, W9, H⟩ := H
        replace H := nb_Hw H
        show nb_W 180 11 [(20, 603), (0, l1), (0, l2), v3, (0, l4), (0, l5)] [(0, x7), (0, l4)] M8 _
        refine nb_Wg (q_m_honesty_11 _ _ _ _ _ _ _ _ _) ?_
        refine nb_Gr ?_
        obtain ⟨p0_, p1_, H⟩ := H
        replace H := nb_Hw H
        have E10 : nb_add l4 x7 = l4 + x7 := nb_add_eq (by omega) (by omega)
        have E11 : nb_add l5 1 = l5 + 1 := nb_add_eq (by omega) (by omega)
        refine nb_Wg (q_m_honesty_13 _ _ _ _ _ _ _ _ _) ?_
        simp only [E10, E11]
        clear E10 E11
        refine nb_Gr ?_
        exact nb_Hu H
    · have H := nb_Hw ((nb_Hu H).2 (by omega))
      have c22 : nb_and (nb_shr l1 l5) 1 ≠ 1 := by omega
      refine nb_Gr ?_
      refine nb_Wg (q_m_hasBit_2 _ _ _) ?_
      refine nb_Gr ?_
      have E13 : nb_i2z 0 = 0 := by decide
      refine nb_Wg (q_m_hasBit_3 _ _ _ _) ?_
      simp only [E13]
      clear E13
      refine nb_Gs ?_
      show nb_W 180 9 [(20, 603), (0, l1), (0, l2), v3, (0, l4), (0, l5)] [(0, 0), (0, l4)] M _
      refine nb_Wg (q_m_honesty_9 _ _ _ _ _ _ _ _ _) ?_
      refine nb_Gi (fun c21 => ?_) (fun c21 => ?_)
      · have H := nb_Hw ((nb_Hu H).1 c21)
        refine nb_Gr ?_
        refine nb_Wg (q_m_honesty_12 _ _ _ _ _ _ _ _) ?_
        refine nb_Gr ?_
        have E14 : nb_add l4 0 = l4 := (nb_add_eq (x := l4) (y := 0) (by omega) (by omega)).trans (by omega)
        have E15 : nb_add l5 1 = l5 + 1 := nb_add_eq (by omega) (by omega)
        refine nb_Wg (q_m_honesty_13 _ _ _ _ _ _ _ _ _) ?_
        simp only [E14, E15]
        clear E14 E15
        refine nb_Gr ?_
        exact nb_Hu H
      · have H := nb_Hw ((nb_Hu H).2 (by omega))
        have c21 : 0 ≠ l2 := by omega
        refine nb_Gr ?_
        refine nb_Wg (q_m_honesty_10 _ _ _ _ _ _ _ _ (by omega)) ?_
        refine nb_Gb ?_
        refine nb_W.imp (nb_Hu H) (fun r M17 H => ?_)
        obtain ⟨x16, rfl, W18, H⟩ := H
        replace H := nb_Hw H
        show nb_W 180 11 [(20, 603), (0, l1), (0, l2), v3, (0, l4), (0, l5)] [(0, x16), (0, l4)] M17 _
        refine nb_Wg (q_m_honesty_11 _ _ _ _ _ _ _ _ _) ?_
        refine nb_Gr ?_
        obtain ⟨p0_, p1_, H⟩ := H
        replace H := nb_Hw H
        have E19 : nb_add l4 x16 = l4 + x16 := nb_add_eq (by omega) (by omega)
        have E20 : nb_add l5 1 = l5 + 1 := nb_add_eq (by omega) (by omega)
        refine nb_Wg (q_m_honesty_13 _ _ _ _ _ _ _ _ _) ?_
        simp only [E19, E20]
        clear E19 E20
        refine nb_Gr ?_
        exact nb_Hu H
  · have H := nb_Hw ((nb_Hu H).2 (by omega))
    have c23 : M.1 606 5 ≤ l5 := by omega
    refine nb_Gr ?_
    refine nb_Wg (q_m_honesty_14 _ _ _ _ _ _ _) ?_
    refine nb_Gs ?_
    exact nb_Hu H W

theorem w_m_isAtRest_0 {l1 : Int} {v2 : nb_V} {M : nb_M} {Q : List nb_V → nb_M → Prop} (W : nb_Lay M) (H : nb_W 177 0 [(20, 603), (0, l1), (98, 0)] [] M (fun r M2 => r = [] ∧ nb_Lay M2 ∧ nb_W 181 2 [(20, 603), (0, l1), (0, 0)] [] M2 Q)) :
    nb_W 181 0 [(20, 603), (0, l1), v2] [] M Q := by
  replace H := nb_Hw H
  refine nb_Wg (q_m_isAtRest_0 _ _ _ _ (by omega)) ?_
  refine nb_Gb ?_
  refine nb_W.imp (nb_Hu H) (fun r M2 H => ?_)
  obtain ⟨rfl, W3, H⟩ := H
  replace H := nb_Hw H
  show nb_W 181 1 [(20, 603), (0, l1), v2] [] M2 _
  refine nb_Wg (q_m_isAtRest_1 _ _ _ _) ?_
  refine nb_Gr ?_
  exact nb_Hu H

theorem w_m_isAtRest_2 {l1 l2 : Int} {M : nb_M} {Q : List nb_V → nb_M → Prop} (W : nb_Lay M)  (b0_ : 0 ≤ l2 ∧ l2 ≤ 10) (H : 0 ≤ M.1 606 5 ∧ M.1 606 5 ≤ 10 ∧ (l2 < M.1 606 5 → nb_W 136 0 [(20, 603), (0, l2), (98, 0)] [] M (fun r M6 => ∃ x5 : Int, r = [(0, x5)] ∧ nb_Lay M6 ∧ 0 ≤ l2 ∧ l2 < 10 ∧ nb_W 181 2 [(20, 603), (0, l1), (0, l2 + 1)] [] (nb_wr M6 615 l2 x5) Q)) ∧ (M.1 606 5 ≤ l2 → nb_W 181 7 [(20, 603), (0, l1), (0, 0)] [] M Q)) :
    nb_W 181 2 [(20, 603), (0, l1), (0, l2)] [] M Q := by
  replace H := nb_Hw H
  obtain ⟨p0_, p1_, H⟩ := H
  replace H := nb_Hw H
  have E1 : nb_rd M 603 15 = 606 := W.m15
  have N2 : nb_ln M 606 = 347 := W.lk (by decide) (by decide +kernel)
  have E3 : nb_rd M 606 5 = M.1 606 5 := nb_rd_1 _ _ _
  refine nb_Wg (q_m_isAtRest_2 _ _ _ _ (by omega) (by rw [E1]; first | done | omega) (by omega) (by rw [E1, N2]; first | done | omega)) ?_
  simp only [E1, E3]
  clear E1 N2 E3
  refine nb_Gi (fun c11 => ?_) (fun c11 => ?_)
  · have H := nb_Hw ((nb_Hu H).1 c11)
    refine nb_Gr ?_
    have E4 : nb_rd M 603 30 = 615 := W.m30
    refine nb_Wg (q_m_isAtRest_3 _ _ _ _ (by omega)) ?_
    simp only [E4]
    clear E4
    refine nb_Gb ?_
    refine nb_W.imp (nb_Hu H) (fun r M6 H => ?_)
    obtain ⟨x5, rfl, W7, H⟩ := H
    replace H := nb_Hw H
    show nb_W 181 4 [(20, 603), (0, l1), (0, l2)] [(0, x5), (0, l2), (3, 615)] M6 _
    obtain ⟨p0_, p1_, H⟩ := H
    replace H := nb_Hw H
    have N8 : nb_ln M6 615 = 10 := W7.lk (by decide) (by decide +kernel)
    refine nb_Wg (q_m_isAtRest_4 _ _ _ _ _ _ _ (by omega) (by omega) (by omega) (by rw [N8]; first | done | omega)) ?_
    clear N8
    have W9 : nb_Lay (nb_wr M6 615 l2 x5) := W7.wr (fun w => (nb_nnum (by decide) (by decide)))
    refine nb_Gr ?_
    have E10 : nb_add l2 1 = l2 + 1 := nb_add_eq (by omega) (by omega)
    refine nb_Wg (q_m_isAtRest_5 _ _ _ _) ?_
    simp only [E10]
    clear E10
    refine nb_Gr ?_
    exact nb_Hu H
  · have H := nb_Hw ((nb_Hu H).2 (by omega))
    have c11 : M.1 606 5 ≤ l2 := by omega
    refine nb_Gr ?_
    refine nb_Wg (q_m_isAtRest_6 _ _ _ _) ?_
    refine nb_Gr ?_
    exact nb_Hu H

theorem w_m_isAtRest_7 {l1 l2 : Int} {M : nb_M} {Q : List nb_V → nb_M → Prop} (W : nb_Lay M)  (b0_ : 0 ≤ l2 ∧ l2 ≤ 10) (H : 0 ≤ M.1 606 5 ∧ M.1 606 5 ≤ 10 ∧ (l2 < M.1 606 5 → nb_W 177 0 [(20, 603), (0, nb_xor l1 (nb_shl 1 l2)), (98, 0)] [] M (fun r M5 => r = [] ∧ nb_Lay M5 ∧ nb_W 136 0 [(20, 603), (0, l2), (98, 0)] [] M5 (fun r M8 => ∃ x7 : Int, r = [(0, x7)] ∧ nb_Lay M8 ∧ 0 ≤ l2 ∧ l2 < 10 ∧ (x7 < M8.1 615 l2 → (nb_Lay M8 → Q [(0, 0)] M8)) ∧ (M8.1 615 l2 ≤ x7 → nb_W 181 7 [(20, 603), (0, l1), (0, l2 + 1)] [] M8 Q)))) ∧ (M.1 606 5 ≤ l2 → (nb_Lay M → Q [(0, 1)] M))) :
    nb_W 181 7 [(20, 603), (0, l1), (0, l2)] [] M Q := by
  replace H := nb_Hw H
  obtain ⟨p0_, p1_, H⟩ := H
  replace H := nb_Hw H
  have E1 : nb_rd M 603 15 = 606 := W.m15
  have N2 : nb_ln M 606 = 347 := W.lk (by decide) (by decide +kernel)
  have E3 : nb_rd M 606 5 = M.1 606 5 := nb_rd_1 _ _ _
  refine nb_Wg (q_m_isAtRest_7 _ _ _ _ (by omega) (by rw [E1]; first | done | omega) (by omega) (by rw [E1, N2]; first | done | omega)) ?_
  simp only [E1, E3]
  clear E1 N2 E3
  refine nb_Gi (fun c15 => ?_) (fun c15 => ?_)
  · have H := nb_Hw ((nb_Hu H).1 c15)
    refine nb_Gr ?_
    refine nb_Wg (q_m_isAtRest_8 _ _ _ _ (by omega)) ?_
    refine nb_Gb ?_
    refine nb_W.imp (nb_Hu H) (fun r M5 H => ?_)
    obtain ⟨rfl, W6, H⟩ := H
    replace H := nb_Hw H
    show nb_W 181 9 [(20, 603), (0, l1), (0, l2)] [] M5 _
    refine nb_Wg (q_m_isAtRest_9 _ _ _ _ (by omega)) ?_
    refine nb_Gb ?_
    refine nb_W.imp (nb_Hu H) (fun r M8 H => ?_)
    obtain ⟨x7, rfl, W9, H⟩ := H
    replace H := nb_Hw H
    show nb_W 181 10 [(20, 603), (0, l1), (0, l2)] [(0, x7)] M8 _
    obtain ⟨p0_, p1_, H⟩ := H
    replace H := nb_Hw H
    have E10 : nb_rd M8 603 30 = 615 := W9.m30
    have N11 : nb_ln M8 615 = 10 := W9.lk (by decide) (by decide +kernel)
    have E12 : nb_rd M8 615 l2 = M8.1 615 l2 := nb_rd_1 _ _ _
    refine nb_Wg (q_m_isAtRest_10 _ _ _ _ _ (by omega) (by rw [E10]; first | done | omega) (by omega) (by rw [E10, N11]; first | done | omega)) ?_
    simp only [E10, E12]
    clear E10 N11 E12
    refine nb_Gi (fun c14 => ?_) (fun c14 => ?_)
    · have H := nb_Hw ((nb_Hu H).1 c14)
      refine nb_Gr ?_
      refine nb_Wg (q_m_isAtRest_11 _ _ _ _) ?_
      refine nb_Gs ?_
      exact nb_Hu H W9
    · have H := nb_Hw ((nb_Hu H).2 (by omega))
      have c14 : M8.1 615 l2 ≤ x7 := by omega
      refine nb_Gr ?_
      have E13 : nb_add l2 1 = l2 + 1 := nb_add_eq (by omega) (by omega)
      refine nb_Wg (q_m_isAtRest_12 _ _ _ _) ?_
      simp only [E13]
      clear E13
      refine nb_Gr ?_
      exact nb_Hu H
  · have H := nb_Hw ((nb_Hu H).2 (by omega))
    have c15 : M.1 606 5 ≤ l2 := by omega
    refine nb_Gr ?_
    refine nb_Wg (q_m_isAtRest_13 _ _ _ _) ?_
    refine nb_Gs ?_
    exact nb_Hu H W

theorem w_m_rest_0 {l1 : Int} {v2 : nb_V} {M : nb_M} {Q : List nb_V → nb_M → Prop} (W : nb_Lay M) (H : 0 ≤ M.1 603 14 ∧ M.1 603 14 ≤ 1 ∧ (M.1 603 14 = 0 → (nb_Lay (nb_wr (nb_wr (nb_wr M 603 0 0) 603 11 0) 603 11 1) → Q [(0, (-1))] (nb_wr (nb_wr (nb_wr M 603 0 0) 603 11 0) 603 11 1))) ∧ (M.1 603 14 ≠ 0 → 0 ≤ M.1 606 5 ∧ M.1 606 5 ≤ 10 ∧ -2147483648 ≤ nb_shl 1 (M.1 606 5) - 1 ∧ nb_shl 1 (M.1 606 5) - 1 ≤ 2147483647 ∧ (l1 < 0 → (nb_Lay (nb_wr (nb_wr (nb_wr M 603 0 0) 603 11 0) 603 11 2) → Q [(0, (-1))] (nb_wr (nb_wr (nb_wr M 603 0 0) 603 11 0) 603 11 2))) ∧ (0 ≤ l1 → (nb_shl 1 (M.1 606 5) - 1 < l1 → (nb_Lay (nb_wr (nb_wr (nb_wr M 603 0 0) 603 11 0) 603 11 2) → Q [(0, (-1))] (nb_wr (nb_wr (nb_wr M 603 0 0) 603 11 0) 603 11 2))) ∧ (l1 ≤ nb_shl 1 (M.1 606 5) - 1 → nb_W 181 0 [(20, 603), (0, l1), (98, 0)] [] (nb_wr (nb_wr M 603 0 0) 603 11 0) (fun r M15 => ∃ x14 : Int, r = [(0, x14)] ∧ nb_Lay M15 ∧ (x14 = 0 → (nb_Lay M15 → Q [(0, 0)] M15)) ∧ (x14 ≠ 0 → (nb_Lay M15 → Q [(0, 1)] M15))))))) :
    nb_W 182 0 [(20, 603), (0, l1), v2] [] M Q := by
  replace H := nb_Hw H
  refine nb_Wg (q_m_rest_0 _ _ _ _ (by omega)) ?_
  refine nb_Gb ?_
  refine nb_Wg (q_m_good_0 _ _ (by omega)) ?_
  have W1 : nb_Lay (nb_wr M 603 0 0) := W.wr (fun w => (nb_nlit (by decide) (by decide)))
  refine nb_Gr ?_
  refine nb_Wg (q_m_good_1 _ _ (by omega)) ?_
  have W2 : nb_Lay (nb_wr (nb_wr M 603 0 0) 603 11 0) := W1.wr (fun w => (nb_nlit (by decide) (by decide)))
  refine nb_Gr ?_
  refine nb_Wg (q_m_good_2 _ _) ?_
  refine nb_Gs ?_
  show nb_W 182 1 [(20, 603), (0, l1), v2] [] (nb_wr (nb_wr M 603 0 0) 603 11 0) _
  refine nb_Wg (q_m_rest_1 _ _ _ _ (by omega)) ?_
  refine nb_Gb ?_
  obtain ⟨p0_, p1_, H⟩ := H
  replace H := nb_Hw H
  have E3 : nb_rd (nb_wr (nb_wr M 603 0 0) 603 11 0) 603 14 = M.1 603 14 := nb_rdw (Or.inr (by decide)) (nb_rdw (Or.inr (by decide)) (nb_rd_1 _ _ _))
  refine nb_Wg (q_m_setWhy_0 _ _ _ (by omega)) ?_
  simp only [E3]
  clear E3
  refine nb_Gi (fun c20 => ?_) (fun c20 => ?_)
  · have H := nb_Hw ((nb_Hu H).1 c20)
    refine nb_Gr ?_
    refine nb_Wg (q_m_setWhy_1 _ _ _) ?_
    refine nb_Gr ?_
    refine nb_Wg (q_m_setWhy_7 _ _ _ _) ?_
    refine nb_Gs ?_
    show nb_W 182 2 [(20, 603), (0, l1), v2] [(0, 1)] (nb_wr (nb_wr M 603 0 0) 603 11 0) _
    refine nb_Wg (q_m_rest_2 _ _ _ _ _) ?_
    refine nb_Gf (by decide) ?_
    refine nb_Gr ?_
    refine nb_Wg (q_m_rest_3 _ _ _ _ (by omega)) ?_
    refine nb_Gb ?_
    refine nb_Wg (q_m_no_0 _ _ _ (by omega)) ?_
    have W4 : nb_Lay (nb_wr (nb_wr (nb_wr M 603 0 0) 603 11 0) 603 11 1) := W2.wr (fun w => (nb_nlit (by decide) (by decide)))
    refine nb_Gr ?_
    refine nb_Wg (q_m_no_1 _ _ _) ?_
    refine nb_Gs ?_
    show nb_W 182 4 [(20, 603), (0, l1), (0, 1)] [(0, (-1))] (nb_wr (nb_wr (nb_wr M 603 0 0) 603 11 0) 603 11 1) _
    refine nb_Wg (q_m_rest_4 _ _ _ _ _) ?_
    refine nb_Gr ?_
    refine nb_Wg (q_m_rest_9 _ _ _ _ _) ?_
    refine nb_Gs ?_
    exact nb_Hu H W4
  · have H := nb_Hw ((nb_Hu H).2 (by omega))
    have c20 : M.1 603 14 ≠ 0 := by omega
    refine nb_Gr ?_
    refine nb_Wg (q_m_setWhy_2 _ _ _ (by omega)) ?_
    refine nb_Gb ?_
    obtain ⟨p0_, p1_, p2_, p3_, H⟩ := H
    replace H := nb_Hw H
    have E5 : nb_rd (nb_wr (nb_wr M 603 0 0) 603 11 0) 603 15 = 606 := W2.m15
    have N6 : nb_ln (nb_wr (nb_wr M 603 0 0) 603 11 0) 606 = 347 := W2.lk (by decide) (by decide +kernel)
    have E7 : nb_rd (nb_wr (nb_wr M 603 0 0) 603 11 0) 606 5 = M.1 606 5 := nb_rdw (Or.inl (by decide)) (nb_rdw (Or.inl (by decide)) (nb_rd_1 _ _ _))
    have E8 : nb_sub (nb_shl 1 (M.1 606 5)) 1 = nb_shl 1 (M.1 606 5) - 1 := nb_sub_eq (by omega) (by omega)
    refine nb_Wg (q_m_allPeople_0 _ _ (by omega) (by rw [E5]; first | done | omega) (by omega) (by rw [E5, N6]; first | done | omega)) ?_
    simp only [E5, E7, E8]
    clear E5 N6 E7 E8
    refine nb_Gs ?_
    show nb_W 179 3 [(20, 603), (0, l1)] [(0, nb_shl 1 (M.1 606 5) - 1), (0, 0), (0, l1)] (nb_wr (nb_wr M 603 0 0) 603 11 0) _
    refine nb_Wg (q_m_setWhy_3 _ _ _ _ _ _) ?_
    refine nb_Gb ?_
    refine nb_Wg (q_m_within_0 _ _ _ _) ?_
    refine nb_Gi (fun c19 => ?_) (fun c19 => ?_)
    · have H := nb_Hw ((nb_Hu H).1 c19)
      refine nb_Gr ?_
      refine nb_Wg (q_m_within_3 _ _ _ _) ?_
      refine nb_Gr ?_
      have E9 : nb_i2z 0 = 0 := by decide
      refine nb_Wg (q_m_within_4 _ _ _ _ _) ?_
      simp only [E9]
      clear E9
      refine nb_Gs ?_
      show nb_W 179 4 [(20, 603), (0, l1)] [(0, 0)] (nb_wr (nb_wr M 603 0 0) 603 11 0) _
      refine nb_Wg (q_m_setWhy_4 _ _ _ _) ?_
      refine nb_Gt (by decide) ?_
      refine nb_Gr ?_
      refine nb_Wg (q_m_setWhy_6 _ _ _) ?_
      refine nb_Gr ?_
      refine nb_Wg (q_m_setWhy_7 _ _ _ _) ?_
      refine nb_Gs ?_
      show nb_W 182 2 [(20, 603), (0, l1), v2] [(0, 2)] (nb_wr (nb_wr M 603 0 0) 603 11 0) _
      refine nb_Wg (q_m_rest_2 _ _ _ _ _) ?_
      refine nb_Gf (by decide) ?_
      refine nb_Gr ?_
      refine nb_Wg (q_m_rest_3 _ _ _ _ (by omega)) ?_
      refine nb_Gb ?_
      refine nb_Wg (q_m_no_0 _ _ _ (by omega)) ?_
      have W10 : nb_Lay (nb_wr (nb_wr (nb_wr M 603 0 0) 603 11 0) 603 11 2) := W2.wr (fun w => (nb_nlit (by decide) (by decide)))
      refine nb_Gr ?_
      refine nb_Wg (q_m_no_1 _ _ _) ?_
      refine nb_Gs ?_
      show nb_W 182 4 [(20, 603), (0, l1), (0, 2)] [(0, (-1))] (nb_wr (nb_wr (nb_wr M 603 0 0) 603 11 0) 603 11 2) _
      refine nb_Wg (q_m_rest_4 _ _ _ _ _) ?_
      refine nb_Gr ?_
      refine nb_Wg (q_m_rest_9 _ _ _ _ _) ?_
      refine nb_Gs ?_
      exact nb_Hu H W10
    · have H := nb_Hw ((nb_Hu H).2 (by omega))
      have c19 : 0 ≤ l1 := by omega
      refine nb_Gr ?_
      refine nb_Wg (q_m_within_1 _ _ _ _) ?_
      refine nb_Gi (fun c18 => ?_) (fun c18 => ?_)
      · have H := nb_Hw ((nb_Hu H).1 c18)
        refine nb_Gr ?_
        refine nb_Wg (q_m_within_3 _ _ _ _) ?_
        refine nb_Gr ?_
        have E11 : nb_i2z 0 = 0 := by decide
        refine nb_Wg (q_m_within_4 _ _ _ _ _) ?_
        simp only [E11]
        clear E11
        refine nb_Gs ?_
        show nb_W 179 4 [(20, 603), (0, l1)] [(0, 0)] (nb_wr (nb_wr M 603 0 0) 603 11 0) _
        refine nb_Wg (q_m_setWhy_4 _ _ _ _) ?_
        refine nb_Gt (by decide) ?_
        refine nb_Gr ?_
        refine nb_Wg (q_m_setWhy_6 _ _ _) ?_
        refine nb_Gr ?_
        refine nb_Wg (q_m_setWhy_7 _ _ _ _) ?_
        refine nb_Gs ?_
        show nb_W 182 2 [(20, 603), (0, l1), v2] [(0, 2)] (nb_wr (nb_wr M 603 0 0) 603 11 0) _
        refine nb_Wg (q_m_rest_2 _ _ _ _ _) ?_
        refine nb_Gf (by decide) ?_
        refine nb_Gr ?_
        refine nb_Wg (q_m_rest_3 _ _ _ _ (by omega)) ?_
        refine nb_Gb ?_
        refine nb_Wg (q_m_no_0 _ _ _ (by omega)) ?_
        have W12 : nb_Lay (nb_wr (nb_wr (nb_wr M 603 0 0) 603 11 0) 603 11 2) := W2.wr (fun w => (nb_nlit (by decide) (by decide)))
        refine nb_Gr ?_
        refine nb_Wg (q_m_no_1 _ _ _) ?_
        refine nb_Gs ?_
        show nb_W 182 4 [(20, 603), (0, l1), (0, 2)] [(0, (-1))] (nb_wr (nb_wr (nb_wr M 603 0 0) 603 11 0) 603 11 2) _
        refine nb_Wg (q_m_rest_4 _ _ _ _ _) ?_
        refine nb_Gr ?_
        refine nb_Wg (q_m_rest_9 _ _ _ _ _) ?_
        refine nb_Gs ?_
        exact nb_Hu H W12
      · have H := nb_Hw ((nb_Hu H).2 (by omega))
        have c18 : l1 ≤ nb_shl 1 (M.1 606 5) - 1 := by omega
        refine nb_Gr ?_
        refine nb_Wg (q_m_within_2 _ _ _ _) ?_
        refine nb_Gr ?_
        have E13 : nb_i2z 1 = 1 := by decide
        refine nb_Wg (q_m_within_4 _ _ _ _ _) ?_
        simp only [E13]
        clear E13
        refine nb_Gs ?_
        show nb_W 179 4 [(20, 603), (0, l1)] [(0, 1)] (nb_wr (nb_wr M 603 0 0) 603 11 0) _
        refine nb_Wg (q_m_setWhy_4 _ _ _ _) ?_
        refine nb_Gf (by decide) ?_
        refine nb_Gr ?_
        refine nb_Wg (q_m_setWhy_5 _ _ _) ?_
        refine nb_Gr ?_
        refine nb_Wg (q_m_setWhy_7 _ _ _ _) ?_
        refine nb_Gs ?_
        show nb_W 182 2 [(20, 603), (0, l1), v2] [(0, 0)] (nb_wr (nb_wr M 603 0 0) 603 11 0) _
        refine nb_Wg (q_m_rest_2 _ _ _ _ _) ?_
        refine nb_Gt (by decide) ?_
        refine nb_Gr ?_
        refine nb_Wg (q_m_rest_5 _ _ _ _ (by omega)) ?_
        refine nb_Gb ?_
        refine nb_W.imp (nb_Hu H) (fun r M15 H => ?_)
        obtain ⟨x14, rfl, W16, H⟩ := H
        replace H := nb_Hw H
        show nb_W 182 6 [(20, 603), (0, l1), (0, 0)] [(0, x14)] M15 _
        refine nb_Wg (q_m_rest_6 _ _ _ _ _) ?_
        refine nb_Gi (fun c17 => ?_) (fun c17 => ?_)
        · have H := nb_Hw ((nb_Hu H).1 c17)
          refine nb_Gr ?_
          refine nb_Wg (q_m_rest_8 _ _ _ _) ?_
          refine nb_Gr ?_
          refine nb_Wg (q_m_rest_9 _ _ _ _ _) ?_
          refine nb_Gs ?_
          exact nb_Hu H W16
        · have H := nb_Hw ((nb_Hu H).2 (by omega))
          have c17 : x14 ≠ 0 := by omega
          refine nb_Gr ?_
          refine nb_Wg (q_m_rest_7 _ _ _ _) ?_
          refine nb_Gr ?_
          refine nb_Wg (q_m_rest_9 _ _ _ _ _) ?_
          refine nb_Gs ?_
          exact nb_Hu H W16

theorem w_m_rests_0 {v1 v2 : nb_V} {M : nb_M} {Q : List nb_V → nb_M → Prop} (W : nb_Lay M) (H : 0 ≤ M.1 603 14 ∧ M.1 603 14 ≤ 1 ∧ (M.1 603 14 = 0 → (nb_Lay (nb_wr (nb_wr (nb_wr M 603 0 0) 603 11 0) 603 11 1) → Q [(0, (-1))] (nb_wr (nb_wr (nb_wr M 603 0 0) 603 11 0) 603 11 1))) ∧ (M.1 603 14 ≠ 0 → 0 ≤ M.1 606 5 ∧ M.1 606 5 ≤ 10 ∧ (7 < M.1 606 5 → (nb_Lay (nb_wr (nb_wr (nb_wr M 603 0 0) 603 11 0) 603 11 3) → Q [(0, (-1))] (nb_wr (nb_wr (nb_wr M 603 0 0) 603 11 0) 603 11 3))) ∧ (M.1 606 5 ≤ 7 → nb_W 183 8 [(20, 603), (0, 0), (0, 0)] [] (nb_wr (nb_wr M 603 0 0) 603 11 0) Q))) :
    nb_W 183 0 [(20, 603), v1, v2] [] M Q := by
  replace H := nb_Hw H
  refine nb_Wg (q_m_rests_0 _ _ _ _ (by omega)) ?_
  refine nb_Gb ?_
  refine nb_Wg (q_m_good_0 _ _ (by omega)) ?_
  have W1 : nb_Lay (nb_wr M 603 0 0) := W.wr (fun w => (nb_nlit (by decide) (by decide)))
  refine nb_Gr ?_
  refine nb_Wg (q_m_good_1 _ _ (by omega)) ?_
  have W2 : nb_Lay (nb_wr (nb_wr M 603 0 0) 603 11 0) := W1.wr (fun w => (nb_nlit (by decide) (by decide)))
  refine nb_Gr ?_
  refine nb_Wg (q_m_good_2 _ _) ?_
  refine nb_Gs ?_
  show nb_W 183 1 [(20, 603), v1, v2] [] (nb_wr (nb_wr M 603 0 0) 603 11 0) _
  obtain ⟨p0_, p1_, H⟩ := H
  replace H := nb_Hw H
  have E3 : nb_rd (nb_wr (nb_wr M 603 0 0) 603 11 0) 603 14 = M.1 603 14 := nb_rdw (Or.inr (by decide)) (nb_rdw (Or.inr (by decide)) (nb_rd_1 _ _ _))
  refine nb_Wg (q_m_rests_1 _ _ _ _ (by omega)) ?_
  simp only [E3]
  clear E3
  refine nb_Gi (fun c10 => ?_) (fun c10 => ?_)
  · have H := nb_Hw ((nb_Hu H).1 c10)
    refine nb_Gr ?_
    refine nb_Wg (q_m_rests_2 _ _ _ _ (by omega)) ?_
    refine nb_Gb ?_
    refine nb_Wg (q_m_no_0 _ _ _ (by omega)) ?_
    have W4 : nb_Lay (nb_wr (nb_wr (nb_wr M 603 0 0) 603 11 0) 603 11 1) := W2.wr (fun w => (nb_nlit (by decide) (by decide)))
    refine nb_Gr ?_
    refine nb_Wg (q_m_no_1 _ _ _) ?_
    refine nb_Gs ?_
    show nb_W 183 3 [(20, 603), v1, v2] [(0, (-1))] (nb_wr (nb_wr (nb_wr M 603 0 0) 603 11 0) 603 11 1) _
    refine nb_Wg (q_m_rests_3 _ _ _ _ _) ?_
    refine nb_Gs ?_
    exact nb_Hu H W4
  · have H := nb_Hw ((nb_Hu H).2 (by omega))
    have c10 : M.1 603 14 ≠ 0 := by omega
    refine nb_Gr ?_
    obtain ⟨p0_, p1_, H⟩ := H
    replace H := nb_Hw H
    have E5 : nb_rd (nb_wr (nb_wr M 603 0 0) 603 11 0) 603 15 = 606 := W2.m15
    have N6 : nb_ln (nb_wr (nb_wr M 603 0 0) 603 11 0) 606 = 347 := W2.lk (by decide) (by decide +kernel)
    have E7 : nb_rd (nb_wr (nb_wr M 603 0 0) 603 11 0) 606 5 = M.1 606 5 := nb_rdw (Or.inl (by decide)) (nb_rdw (Or.inl (by decide)) (nb_rd_1 _ _ _))
    refine nb_Wg (q_m_rests_4 _ _ _ _ (by omega) (by rw [E5]; first | done | omega) (by omega) (by rw [E5, N6]; first | done | omega)) ?_
    simp only [E5, E7]
    clear E5 N6 E7
    refine nb_Gi (fun c9 => ?_) (fun c9 => ?_)
    · have H := nb_Hw ((nb_Hu H).1 c9)
      refine nb_Gr ?_
      refine nb_Wg (q_m_rests_5 _ _ _ _ (by omega)) ?_
      refine nb_Gb ?_
      refine nb_Wg (q_m_no_0 _ _ _ (by omega)) ?_
      have W8 : nb_Lay (nb_wr (nb_wr (nb_wr M 603 0 0) 603 11 0) 603 11 3) := W2.wr (fun w => (nb_nlit (by decide) (by decide)))
      refine nb_Gr ?_
      refine nb_Wg (q_m_no_1 _ _ _) ?_
      refine nb_Gs ?_
      show nb_W 183 6 [(20, 603), v1, v2] [(0, (-1))] (nb_wr (nb_wr (nb_wr M 603 0 0) 603 11 0) 603 11 3) _
      refine nb_Wg (q_m_rests_6 _ _ _ _ _) ?_
      refine nb_Gs ?_
      exact nb_Hu H W8
    · have H := nb_Hw ((nb_Hu H).2 (by omega))
      have c9 : M.1 606 5 ≤ 7 := by omega
      refine nb_Gr ?_
      refine nb_Wg (q_m_rests_7 _ _ _ _) ?_
      refine nb_Gr ?_
      exact nb_Hu H

theorem w_m_rests_8 {l1 l2 : Int} {M : nb_M} {Q : List nb_V → nb_M → Prop} (W : nb_Lay M)  (b0_ : 0 ≤ l1 ∧ l1 ≤ 128) (b1_ : 0 ≤ l2 ∧ l2 ≤ 128) (H : 0 ≤ M.1 606 5 ∧ M.1 606 5 ≤ 10 ∧ -2147483648 ≤ nb_shl 1 (M.1 606 5) - 1 ∧ nb_shl 1 (M.1 606 5) - 1 ≤ 2147483647 ∧ (nb_shl 1 (M.1 606 5) - 1 < l2 → (nb_Lay M → Q [(0, l1)] M)) ∧ (l2 ≤ nb_shl 1 (M.1 606 5) - 1 → nb_W 181 0 [(20, 603), (0, l2), (98, 0)] [] M (fun r M6 => ∃ x5 : Int, r = [(0, x5)] ∧ nb_Lay M6 ∧ (x5 = 0 → nb_W 183 8 [(20, 603), (0, l1), (0, l2 + 1)] [] M6 Q) ∧ (x5 ≠ 0 → nb_W 183 8 [(20, 603), (0, l1 + 1), (0, l2 + 1)] [] M6 Q)))) :
    nb_W 183 8 [(20, 603), (0, l1), (0, l2)] [] M Q := by
  replace H := nb_Hw H
  refine nb_Wg (q_m_rests_8 _ _ _ _ (by omega)) ?_
  refine nb_Gb ?_
  obtain ⟨p0_, p1_, p2_, p3_, H⟩ := H
  replace H := nb_Hw H
  have E1 : nb_rd M 603 15 = 606 := W.m15
  have N2 : nb_ln M 606 = 347 := W.lk (by decide) (by decide +kernel)
  have E3 : nb_rd M 606 5 = M.1 606 5 := nb_rd_1 _ _ _
  have E4 : nb_sub (nb_shl 1 (M.1 606 5)) 1 = nb_shl 1 (M.1 606 5) - 1 := nb_sub_eq (by omega) (by omega)
  refine nb_Wg (q_m_allPeople_0 _ _ (by omega) (by rw [E1]; first | done | omega) (by omega) (by rw [E1, N2]; first | done | omega)) ?_
  simp only [E1, E3, E4]
  clear E1 N2 E3 E4
  refine nb_Gs ?_
  show nb_W 183 9 [(20, 603), (0, l1), (0, l2)] [(0, nb_shl 1 (M.1 606 5) - 1), (0, l2)] M _
  refine nb_Wg (q_m_rests_9 _ _ _ _ _ _) ?_
  refine nb_Gi (fun c13 => ?_) (fun c13 => ?_)
  · have H := nb_Hw ((nb_Hu H).1 c13)
    refine nb_Gr ?_
    refine nb_Wg (q_m_rests_15 _ _ _ _) ?_
    refine nb_Gs ?_
    exact nb_Hu H W
  · have H := nb_Hw ((nb_Hu H).2 (by omega))
    have c13 : l2 ≤ nb_shl 1 (M.1 606 5) - 1 := by omega
    refine nb_Gr ?_
    refine nb_Wg (q_m_rests_10 _ _ _ _ (by omega)) ?_
    refine nb_Gb ?_
    refine nb_W.imp (nb_Hu H) (fun r M6 H => ?_)
    obtain ⟨x5, rfl, W7, H⟩ := H
    replace H := nb_Hw H
    show nb_W 183 11 [(20, 603), (0, l1), (0, l2)] [(0, x5), (0, l1)] M6 _
    refine nb_Wg (q_m_rests_11 _ _ _ _ _ _) ?_
    refine nb_Gi (fun c12 => ?_) (fun c12 => ?_)
    · have H := nb_Hw ((nb_Hu H).1 c12)
      refine nb_Gr ?_
      refine nb_Wg (q_m_rests_13 _ _ _ _ _) ?_
      refine nb_Gr ?_
      have E8 : nb_add l1 0 = l1 := (nb_add_eq (x := l1) (y := 0) (by omega) (by omega)).trans (by omega)
      have E9 : nb_add l2 1 = l2 + 1 := nb_add_eq (by omega) (by omega)
      refine nb_Wg (q_m_rests_14 _ _ _ _ _ _) ?_
      simp only [E8, E9]
      clear E8 E9
      refine nb_Gr ?_
      exact nb_Hu H
    · have H := nb_Hw ((nb_Hu H).2 (by omega))
      have c12 : x5 ≠ 0 := by omega
      refine nb_Gr ?_
      refine nb_Wg (q_m_rests_12 _ _ _ _ _) ?_
      refine nb_Gr ?_
      have E10 : nb_add l1 1 = l1 + 1 := nb_add_eq (by omega) (by omega)
      have E11 : nb_add l2 1 = l2 + 1 := nb_add_eq (by omega) (by omega)
      refine nb_Wg (q_m_rests_14 _ _ _ _ _ _) ?_
      simp only [E10, E11]
      clear E10 E11
      refine nb_Gr ?_
      exact nb_Hu H

