/-! rules, printed by wip/gen -/
theorem w_m_fate_0 {l1 : Int} {M : nb_M} {Q : List nb_V → nb_M → Prop} (W : nb_Lay M) (H : 0 ≤ M.1 603 14 ∧ M.1 603 14 ≤ 1 ∧ (M.1 603 14 = 0 → (nb_Lay (nb_wr (nb_wr (nb_wr M 603 0 0) 603 11 0) 603 11 1) → Q [(0, (-1))] (nb_wr (nb_wr (nb_wr M 603 0 0) 603 11 0) 603 11 1))) ∧ (M.1 603 14 ≠ 0 → 0 ≤ M.1 606 5 ∧ M.1 606 5 ≤ 10 ∧ (l1 < 0 → (nb_Lay (nb_wr (nb_wr (nb_wr M 603 0 0) 603 11 0) 603 11 1) → Q [(0, (-1))] (nb_wr (nb_wr (nb_wr M 603 0 0) 603 11 0) 603 11 1))) ∧ (0 ≤ l1 → (M.1 606 5 - 1 < l1 → (nb_Lay (nb_wr (nb_wr (nb_wr M 603 0 0) 603 11 0) 603 11 1) → Q [(0, (-1))] (nb_wr (nb_wr (nb_wr M 603 0 0) 603 11 0) 603 11 1))) ∧ (l1 ≤ M.1 606 5 - 1 → pu_Rr (M.1 606) ∧ pu_Rc (pu_cpy (M.1 606) (M.1 612) 23 0 18) ∧ pu_Rp (pu_cpy (M.1 606) (M.1 613) 41 0 70) ∧ pu_Rw (M.1 608) ∧ pu_Rk (M.1 608) ∧ 0 ≤ (M.1 606) 4 ∧ (M.1 606) 4 ≤ 4 ∧ 0 ≤ M.1 606 2 ∧ M.1 606 2 ≤ 9000 ∧ l1 ≤ 9 ∧ (nb_Lay (nb_up (nb_wr (nb_up (nb_up (nb_wr (nb_wr (nb_wr M 603 0 0) 603 11 0) 603 25 ((M.1 606) 4)) 612 (pu_cpy (M.1 606) (M.1 612) 23 0 18)) 613 (pu_cpy (M.1 606) (M.1 613) 41 0 70)) 603 26 (M.1 606 2)) 609 (pu_eve (M.1 606) (pu_cpy (M.1 606) (M.1 612) 23 0 18) (pu_cpy (M.1 606) (M.1 613) 41 0 70) ((M.1 606) 4) (M.1 606 2) (pu_cpy (M.1 608) (M.1 609) 0 0 108))) → Q [(0, pu_fo (pu_eve (M.1 606) (pu_cpy (M.1 606) (M.1 612) 23 0 18) (pu_cpy (M.1 606) (M.1 613) 41 0 70) ((M.1 606) 4) (M.1 606 2) (pu_cpy (M.1 608) (M.1 609) 0 0 108)) l1)] (nb_up (nb_wr (nb_up (nb_up (nb_wr (nb_wr (nb_wr M 603 0 0) 603 11 0) 603 25 ((M.1 606) 4)) 612 (pu_cpy (M.1 606) (M.1 612) 23 0 18)) 613 (pu_cpy (M.1 606) (M.1 613) 41 0 70)) 603 26 (M.1 606 2)) 609 (pu_eve (M.1 606) (pu_cpy (M.1 606) (M.1 612) 23 0 18) (pu_cpy (M.1 606) (M.1 613) 41 0 70) ((M.1 606) 4) (M.1 606 2) (pu_cpy (M.1 608) (M.1 609) 0 0 108)))))))) :
    nb_W 151 0 [(20, 603), (0, l1)] [] M Q := by
  replace H := nb_Hw H
  refine nb_Wg (q_m_fate_0 _ _ _ (by omega)) ?_
  refine nb_Gb ?_
  refine nb_Wg (q_m_good_0 _ _ (by omega)) ?_
  have W1 : nb_Lay (nb_wr M 603 0 0) := W.wr (fun w => (nb_nlit (by decide) (by decide)))
  refine nb_Gr ?_
  refine nb_Wg (q_m_good_1 _ _ (by omega)) ?_
  have W2 : nb_Lay (nb_wr (nb_wr M 603 0 0) 603 11 0) := W1.wr (fun w => (nb_nlit (by decide) (by decide)))
  refine nb_Gr ?_
  refine nb_Wg (q_m_good_2 _ _) ?_
  refine nb_Gs ?_
  show nb_W 151 1 [(20, 603), (0, l1)] [] (nb_wr (nb_wr M 603 0 0) 603 11 0) _
  refine nb_Wg (q_m_fate_1 _ _ _ (by omega)) ?_
  refine nb_Gb ?_
  obtain ⟨p0_, p1_, H⟩ := H
  replace H := nb_Hw H
  have E3 : nb_rd (nb_wr (nb_wr M 603 0 0) 603 11 0) 603 14 = M.1 603 14 := nb_rdw (Or.inr (by decide)) (nb_rdw (Or.inr (by decide)) (nb_rd_1 _ _ _))
  refine nb_Wg (q_m_isPerson_0 _ _ _ (by omega)) ?_
  simp only [E3]
  clear E3
  refine nb_Gi (fun c28 => ?_) (fun c28 => ?_)
  · have H := nb_Hw ((nb_Hu H).1 c28)
    refine nb_Gr ?_
    refine nb_Wg (q_m_isPerson_4 _ _ _) ?_
    refine nb_Gr ?_
    have E4 : nb_i2z 0 = 0 := by decide
    refine nb_Wg (q_m_isPerson_5 _ _ _ _) ?_
    simp only [E4]
    clear E4
    refine nb_Gs ?_
    show nb_W 151 2 [(20, 603), (0, l1)] [(0, 0)] (nb_wr (nb_wr M 603 0 0) 603 11 0) _
    refine nb_Wg (q_m_fate_2 _ _ _ _) ?_
    refine nb_Gt (by decide) ?_
    refine nb_Gr ?_
    refine nb_Wg (q_m_fate_3 _ _ _ (by omega)) ?_
    refine nb_Gb ?_
    refine nb_Wg (q_m_no_0 _ _ _ (by omega)) ?_
    have W5 : nb_Lay (nb_wr (nb_wr (nb_wr M 603 0 0) 603 11 0) 603 11 1) := W2.wr (fun w => (nb_nlit (by decide) (by decide)))
    refine nb_Gr ?_
    refine nb_Wg (q_m_no_1 _ _ _) ?_
    refine nb_Gs ?_
    show nb_W 151 4 [(20, 603), (0, l1)] [(0, (-1))] (nb_wr (nb_wr (nb_wr M 603 0 0) 603 11 0) 603 11 1) _
    refine nb_Wg (q_m_fate_4 _ _ _ _) ?_
    refine nb_Gs ?_
    exact nb_Hu H W5
  · have H := nb_Hw ((nb_Hu H).2 (by omega))
    have c28 : M.1 603 14 ≠ 0 := by omega
    refine nb_Gr ?_
    obtain ⟨p0_, p1_, H⟩ := H
    replace H := nb_Hw H
    have E6 : nb_rd (nb_wr (nb_wr M 603 0 0) 603 11 0) 603 15 = 606 := W2.m15
    have N7 : nb_ln (nb_wr (nb_wr M 603 0 0) 603 11 0) 606 = 347 := W2.lk (by decide) (by decide +kernel)
    have E8 : nb_rd (nb_wr (nb_wr M 603 0 0) 603 11 0) 606 5 = M.1 606 5 := nb_rdw (Or.inl (by decide)) (nb_rdw (Or.inl (by decide)) (nb_rd_1 _ _ _))
    have E9 : nb_sub (M.1 606 5) 1 = M.1 606 5 - 1 := nb_sub_eq (by omega) (by omega)
    refine nb_Wg (q_m_isPerson_1 _ _ _ (by omega) (by rw [E6]; first | done | omega) (by omega) (by rw [E6, N7]; first | done | omega)) ?_
    simp only [E6, E8, E9]
    clear E6 N7 E8 E9
    refine nb_Gb ?_
    refine nb_Wg (q_m_within_0 _ _ _ _) ?_
    refine nb_Gi (fun c27 => ?_) (fun c27 => ?_)
    · have H := nb_Hw ((nb_Hu H).1 c27)
      refine nb_Gr ?_
      refine nb_Wg (q_m_within_3 _ _ _ _) ?_
      refine nb_Gr ?_
      have E10 : nb_i2z 0 = 0 := by decide
      refine nb_Wg (q_m_within_4 _ _ _ _ _) ?_
      simp only [E10]
      clear E10
      refine nb_Gs ?_
      show nb_W 116 2 [(20, 603), (0, l1)] [(0, 0)] (nb_wr (nb_wr M 603 0 0) 603 11 0) _
      refine nb_Wg (q_m_isPerson_2 _ _ _ _) ?_
      refine nb_Gt (by decide) ?_
      refine nb_Gr ?_
      refine nb_Wg (q_m_isPerson_4 _ _ _) ?_
      refine nb_Gr ?_
      have E11 : nb_i2z 0 = 0 := by decide
      refine nb_Wg (q_m_isPerson_5 _ _ _ _) ?_
      simp only [E11]
      clear E11
      refine nb_Gs ?_
      show nb_W 151 2 [(20, 603), (0, l1)] [(0, 0)] (nb_wr (nb_wr M 603 0 0) 603 11 0) _
      refine nb_Wg (q_m_fate_2 _ _ _ _) ?_
      refine nb_Gt (by decide) ?_
      refine nb_Gr ?_
      refine nb_Wg (q_m_fate_3 _ _ _ (by omega)) ?_
      refine nb_Gb ?_
      refine nb_Wg (q_m_no_0 _ _ _ (by omega)) ?_
      have W12 : nb_Lay (nb_wr (nb_wr (nb_wr M 603 0 0) 603 11 0) 603 11 1) := W2.wr (fun w => (nb_nlit (by decide) (by decide)))
      refine nb_Gr ?_
      refine nb_Wg (q_m_no_1 _ _ _) ?_
      refine nb_Gs ?_
      show nb_W 151 4 [(20, 603), (0, l1)] [(0, (-1))] (nb_wr (nb_wr (nb_wr M 603 0 0) 603 11 0) 603 11 1) _
      refine nb_Wg (q_m_fate_4 _ _ _ _) ?_
      refine nb_Gs ?_
      exact nb_Hu H W12
    · have H := nb_Hw ((nb_Hu H).2 (by omega))
      have c27 : 0 ≤ l1 := by omega
      refine nb_Gr ?_
      refine nb_Wg (q_m_within_1 _ _ _ _) ?_
      refine nb_Gi (fun c26 => ?_) (fun c26 => ?_)
      · have H := nb_Hw ((nb_Hu H).1 c26)
        refine nb_Gr ?_
        refine nb_Wg (q_m_within_3 _ _ _ _) ?_
        refine nb_Gr ?_
        have E13 : nb_i2z 0 = 0 := by decide
        refine nb_Wg (q_m_within_4 _ _ _ _ _) ?_
        simp only [E13]
        clear E13
        refine nb_Gs ?_
        show nb_W 116 2 [(20, 603), (0, l1)] [(0, 0)] (nb_wr (nb_wr M 603 0 0) 603 11 0) _
        refine nb_Wg (q_m_isPerson_2 _ _ _ _) ?_
        refine nb_Gt (by decide) ?_
        refine nb_Gr ?_
        refine nb_Wg (q_m_isPerson_4 _ _ _) ?_
        refine nb_Gr ?_
        have E14 : nb_i2z 0 = 0 := by decide
        refine nb_Wg (q_m_isPerson_5 _ _ _ _) ?_
        simp only [E14]
        clear E14
        refine nb_Gs ?_
        show nb_W 151 2 [(20, 603), (0, l1)] [(0, 0)] (nb_wr (nb_wr M 603 0 0) 603 11 0) _
        refine nb_Wg (q_m_fate_2 _ _ _ _) ?_
        refine nb_Gt (by decide) ?_
        refine nb_Gr ?_
        refine nb_Wg (q_m_fate_3 _ _ _ (by omega)) ?_
        refine nb_Gb ?_
        refine nb_Wg (q_m_no_0 _ _ _ (by omega)) ?_
        have W15 : nb_Lay (nb_wr (nb_wr (nb_wr M 603 0 0) 603 11 0) 603 11 1) := W2.wr (fun w => (nb_nlit (by decide) (by decide)))
        refine nb_Gr ?_
        refine nb_Wg (q_m_no_1 _ _ _) ?_
        refine nb_Gs ?_
        show nb_W 151 4 [(20, 603), (0, l1)] [(0, (-1))] (nb_wr (nb_wr (nb_wr M 603 0 0) 603 11 0) 603 11 1) _
        refine nb_Wg (q_m_fate_4 _ _ _ _) ?_
        refine nb_Gs ?_
        exact nb_Hu H W15
      · have H := nb_Hw ((nb_Hu H).2 (by omega))
        have c26 : l1 ≤ M.1 606 5 - 1 := by omega
        refine nb_Gr ?_
        refine nb_Wg (q_m_within_2 _ _ _ _) ?_
        refine nb_Gr ?_
        have E16 : nb_i2z 1 = 1 := by decide
        refine nb_Wg (q_m_within_4 _ _ _ _ _) ?_
        simp only [E16]
        clear E16
        refine nb_Gs ?_
        show nb_W 116 2 [(20, 603), (0, l1)] [(0, 1)] (nb_wr (nb_wr M 603 0 0) 603 11 0) _
        refine nb_Wg (q_m_isPerson_2 _ _ _ _) ?_
        refine nb_Gf (by decide) ?_
        refine nb_Gr ?_
        refine nb_Wg (q_m_isPerson_3 _ _ _) ?_
        refine nb_Gr ?_
        have E17 : nb_i2z 1 = 1 := by decide
        refine nb_Wg (q_m_isPerson_5 _ _ _ _) ?_
        simp only [E17]
        clear E17
        refine nb_Gs ?_
        show nb_W 151 2 [(20, 603), (0, l1)] [(0, 1)] (nb_wr (nb_wr M 603 0 0) 603 11 0) _
        refine nb_Wg (q_m_fate_2 _ _ _ _) ?_
        refine nb_Gf (by decide) ?_
        refine nb_Gr ?_
        refine nb_Wg (q_m_fate_5 _ _ _ (by omega)) ?_
        refine nb_Gb ?_
        refine nb_Wg (q_m_tellEvening_0 _ _ (by omega)) ?_
        have W18 : nb_Lay (nb_wr (nb_wr (nb_wr M 603 0 0) 603 11 0) 603 25 ((M.1 606) 4)) := W2.wr (fun w => (nb_nlit (by decide) (by decide)))
        have W19 : nb_Lay (nb_up (nb_wr (nb_wr (nb_wr M 603 0 0) 603 11 0) 603 25 ((M.1 606) 4)) 612 (pu_cpy (M.1 606) (M.1 612) 23 0 18)) := W18.up (fun i w => (nb_nnum (by decide) (by decide)))
        have W20 : nb_Lay (nb_up (nb_up (nb_wr (nb_wr (nb_wr M 603 0 0) 603 11 0) 603 25 ((M.1 606) 4)) 612 (pu_cpy (M.1 606) (M.1 612) 23 0 18)) 613 (pu_cpy (M.1 606) (M.1 613) 41 0 70)) := W19.up (fun i w => (nb_nnum (by decide) (by decide)))
        rw [show nb_R nb_P 121 0 [(20, 603)] [] (nb_wr (nb_wr M 603 0 0) 603 11 0) = some ([], nb_up (nb_up (nb_wr (nb_wr (nb_wr M 603 0 0) 603 11 0) 603 25 ((M.1 606) 4)) 612 (pu_cpy (M.1 606) (M.1 612) 23 0 18)) 613 (pu_cpy (M.1 606) (M.1 613) 41 0 70)) from (sp_m_asTold W2).trans (by first | rfl | simp [nb_wr_up, nb_up_1, nb_up_up, nb_ud])]
        refine nb_Gp ?_
        show nb_W 150 1 [(20, 603)] [] (nb_up (nb_up (nb_wr (nb_wr (nb_wr M 603 0 0) 603 11 0) 603 25 ((M.1 606) 4)) 612 (pu_cpy (M.1 606) (M.1 612) 23 0 18)) 613 (pu_cpy (M.1 606) (M.1 613) 41 0 70)) _
        have E21 : nb_rd (nb_up (nb_up (nb_wr (nb_wr (nb_wr M 603 0 0) 603 11 0) 603 25 ((M.1 606) 4)) 612 (pu_cpy (M.1 606) (M.1 612) 23 0 18)) 613 (pu_cpy (M.1 606) (M.1 613) 41 0 70)) 603 15 = 606 := W20.m15
        have N22 : nb_ln (nb_up (nb_up (nb_wr (nb_wr (nb_wr M 603 0 0) 603 11 0) 603 25 ((M.1 606) 4)) 612 (pu_cpy (M.1 606) (M.1 612) 23 0 18)) 613 (pu_cpy (M.1 606) (M.1 613) 41 0 70)) 606 = 347 := W20.lk (by decide) (by decide +kernel)
        have E23 : nb_rd (nb_up (nb_up (nb_wr (nb_wr (nb_wr M 603 0 0) 603 11 0) 603 25 ((M.1 606) 4)) 612 (pu_cpy (M.1 606) (M.1 612) 23 0 18)) 613 (pu_cpy (M.1 606) (M.1 613) 41 0 70)) 606 2 = M.1 606 2 := nb_rdu (by decide) (nb_rdu (by decide) (nb_rdw (Or.inl (by decide)) (nb_rdw (Or.inl (by decide)) (nb_rdw (Or.inl (by decide)) (nb_rd_1 _ _ _)))))
        refine nb_Wg (q_m_tellEvening_1 _ _ (by omega) (by rw [E21]; first | done | omega) (by omega) (by rw [E21, N22]; first | done | omega)) ?_
        simp only [E21, E23]
        clear E21 N22 E23
        have W24 : nb_Lay (nb_wr (nb_up (nb_up (nb_wr (nb_wr (nb_wr M 603 0 0) 603 11 0) 603 25 ((M.1 606) 4)) 612 (pu_cpy (M.1 606) (M.1 612) 23 0 18)) 613 (pu_cpy (M.1 606) (M.1 613) 41 0 70)) 603 26 (M.1 606 2)) := W20.wr (fun w => (nb_nlit (by decide) (by decide)))
        refine nb_Gr ?_
        obtain ⟨p0_, p1_, p2_, p3_, p4_, p5_, p6_, p7_, p8_, H⟩ := H
        replace H := nb_Hw H
        refine nb_Wg (q_m_tellEvening_2 _ _ (by omega)) ?_
        have W25 : nb_Lay (nb_up (nb_wr (nb_up (nb_up (nb_wr (nb_wr (nb_wr M 603 0 0) 603 11 0) 603 25 ((M.1 606) 4)) 612 (pu_cpy (M.1 606) (M.1 612) 23 0 18)) 613 (pu_cpy (M.1 606) (M.1 613) 41 0 70)) 603 26 (M.1 606 2)) 609 (pu_eve (M.1 606) (pu_cpy (M.1 606) (M.1 612) 23 0 18) (pu_cpy (M.1 606) (M.1 613) 41 0 70) ((M.1 606) 4) (M.1 606 2) (pu_cpy (M.1 608) (M.1 609) 0 0 108))) := W24.up (fun i w => (nb_nnum (by decide) (by decide)))
        rw [show nb_R nb_P 134 0 [(20, 603)] [] (nb_wr (nb_up (nb_up (nb_wr (nb_wr (nb_wr M 603 0 0) 603 11 0) 603 25 ((M.1 606) 4)) 612 (pu_cpy (M.1 606) (M.1 612) 23 0 18)) 613 (pu_cpy (M.1 606) (M.1 613) 41 0 70)) 603 26 (M.1 606 2)) = some ([], nb_up (nb_wr (nb_up (nb_up (nb_wr (nb_wr (nb_wr M 603 0 0) 603 11 0) 603 25 ((M.1 606) 4)) 612 (pu_cpy (M.1 606) (M.1 612) 23 0 18)) 613 (pu_cpy (M.1 606) (M.1 613) 41 0 70)) 603 26 (M.1 606 2)) 609 (pu_eve (M.1 606) (pu_cpy (M.1 606) (M.1 612) 23 0 18) (pu_cpy (M.1 606) (M.1 613) 41 0 70) ((M.1 606) 4) (M.1 606 2) (pu_cpy (M.1 608) (M.1 609) 0 0 108))) from (sp_m_evening W24 (by first | assumption | omega | (simp [nb_wr_up, nb_up_1, nb_ud]; first | assumption | omega)) (by first | assumption | omega | (simp [nb_wr_up, nb_up_1, nb_ud]; first | assumption | omega)) (by first | assumption | omega | (simp [nb_wr_up, nb_up_1, nb_ud]; first | assumption | omega)) (by first | assumption | omega | (simp [nb_wr_up, nb_up_1, nb_ud]; first | assumption | omega)) (by first | assumption | omega | (simp [nb_wr_up, nb_up_1, nb_ud]; first | assumption | omega)) (by first | assumption | omega | (simp [nb_wr_up, nb_up_1, nb_ud]; first | assumption | omega)) (by first | assumption | omega | (simp [nb_wr_up, nb_up_1, nb_ud]; first | assumption | omega))).trans (by first | rfl | simp [nb_wr_up, nb_up_1, nb_up_up, nb_ud])]
        refine nb_Gp ?_
        show nb_W 150 3 [(20, 603)] [] (nb_up (nb_wr (nb_up (nb_up (nb_wr (nb_wr (nb_wr M 603 0 0) 603 11 0) 603 25 ((M.1 606) 4)) 612 (pu_cpy (M.1 606) (M.1 612) 23 0 18)) 613 (pu_cpy (M.1 606) (M.1 613) 41 0 70)) 603 26 (M.1 606 2)) 609 (pu_eve (M.1 606) (pu_cpy (M.1 606) (M.1 612) 23 0 18) (pu_cpy (M.1 606) (M.1 613) 41 0 70) ((M.1 606) 4) (M.1 606 2) (pu_cpy (M.1 608) (M.1 609) 0 0 108))) _
        refine nb_Wg (q_m_tellEvening_3 _ _) ?_
        refine nb_Gs ?_
        show nb_W 151 6 [(20, 603), (0, l1)] [] (nb_up (nb_wr (nb_up (nb_up (nb_wr (nb_wr (nb_wr M 603 0 0) 603 11 0) 603 25 ((M.1 606) 4)) 612 (pu_cpy (M.1 606) (M.1 612) 23 0 18)) 613 (pu_cpy (M.1 606) (M.1 613) 41 0 70)) 603 26 (M.1 606 2)) 609 (pu_eve (M.1 606) (pu_cpy (M.1 606) (M.1 612) 23 0 18) (pu_cpy (M.1 606) (M.1 613) 41 0 70) ((M.1 606) 4) (M.1 606 2) (pu_cpy (M.1 608) (M.1 609) 0 0 108))) _
        obtain ⟨p0_, H⟩ := H
        replace H := nb_Hw H
        refine nb_Wg (q_m_fate_6 _ _ _ (by omega)) ?_
        rw [show nb_R nb_P 135 0 [(20, 603), (0, l1)] [] (nb_up (nb_wr (nb_up (nb_up (nb_wr (nb_wr (nb_wr M 603 0 0) 603 11 0) 603 25 ((M.1 606) 4)) 612 (pu_cpy (M.1 606) (M.1 612) 23 0 18)) 613 (pu_cpy (M.1 606) (M.1 613) 41 0 70)) 603 26 (M.1 606 2)) 609 (pu_eve (M.1 606) (pu_cpy (M.1 606) (M.1 612) 23 0 18) (pu_cpy (M.1 606) (M.1 613) 41 0 70) ((M.1 606) 4) (M.1 606 2) (pu_cpy (M.1 608) (M.1 609) 0 0 108))) = some ([(0, pu_fo (pu_eve (M.1 606) (pu_cpy (M.1 606) (M.1 612) 23 0 18) (pu_cpy (M.1 606) (M.1 613) 41 0 70) ((M.1 606) 4) (M.1 606 2) (pu_cpy (M.1 608) (M.1 609) 0 0 108)) l1)], nb_up (nb_wr (nb_up (nb_up (nb_wr (nb_wr (nb_wr M 603 0 0) 603 11 0) 603 25 ((M.1 606) 4)) 612 (pu_cpy (M.1 606) (M.1 612) 23 0 18)) 613 (pu_cpy (M.1 606) (M.1 613) 41 0 70)) 603 26 (M.1 606 2)) 609 (pu_eve (M.1 606) (pu_cpy (M.1 606) (M.1 612) 23 0 18) (pu_cpy (M.1 606) (M.1 613) 41 0 70) ((M.1 606) 4) (M.1 606 2) (pu_cpy (M.1 608) (M.1 609) 0 0 108))) from (sp_m_fateOf W25 (by omega)).trans (by first | rfl | simp [nb_wr_up, nb_up_1, nb_up_up, nb_ud])]
        refine nb_Gp ?_
        show nb_W 151 7 [(20, 603), (0, l1)] [(0, pu_fo (pu_eve (M.1 606) (pu_cpy (M.1 606) (M.1 612) 23 0 18) (pu_cpy (M.1 606) (M.1 613) 41 0 70) ((M.1 606) 4) (M.1 606 2) (pu_cpy (M.1 608) (M.1 609) 0 0 108)) l1)] (nb_up (nb_wr (nb_up (nb_up (nb_wr (nb_wr (nb_wr M 603 0 0) 603 11 0) 603 25 ((M.1 606) 4)) 612 (pu_cpy (M.1 606) (M.1 612) 23 0 18)) 613 (pu_cpy (M.1 606) (M.1 613) 41 0 70)) 603 26 (M.1 606 2)) 609 (pu_eve (M.1 606) (pu_cpy (M.1 606) (M.1 612) 23 0 18) (pu_cpy (M.1 606) (M.1 613) 41 0 70) ((M.1 606) 4) (M.1 606 2) (pu_cpy (M.1 608) (M.1 609) 0 0 108))) _
        refine nb_Wg (q_m_fate_7 _ _ _ _) ?_
        refine nb_Gs ?_
        exact nb_Hu H W25

theorem w_m_waits_0 {l1 : Int} {M : nb_M} {Q : List nb_V → nb_M → Prop} (W : nb_Lay M) (H : 0 ≤ M.1 603 14 ∧ M.1 603 14 ≤ 1 ∧ (M.1 603 14 = 0 → (nb_Lay (nb_wr (nb_wr (nb_wr M 603 0 0) 603 11 0) 603 11 1) → Q [(0, (-1))] (nb_wr (nb_wr (nb_wr M 603 0 0) 603 11 0) 603 11 1))) ∧ (M.1 603 14 ≠ 0 → 0 ≤ M.1 606 5 ∧ M.1 606 5 ≤ 10 ∧ (l1 < 0 → (nb_Lay (nb_wr (nb_wr (nb_wr M 603 0 0) 603 11 0) 603 11 1) → Q [(0, (-1))] (nb_wr (nb_wr (nb_wr M 603 0 0) 603 11 0) 603 11 1))) ∧ (0 ≤ l1 → (M.1 606 5 - 1 < l1 → (nb_Lay (nb_wr (nb_wr (nb_wr M 603 0 0) 603 11 0) 603 11 1) → Q [(0, (-1))] (nb_wr (nb_wr (nb_wr M 603 0 0) 603 11 0) 603 11 1))) ∧ (l1 ≤ M.1 606 5 - 1 → pu_Rr (M.1 606) ∧ pu_Rc (pu_cpy (M.1 606) (M.1 612) 23 0 18) ∧ pu_Rp (pu_cpy (M.1 606) (M.1 613) 41 0 70) ∧ pu_Rw (M.1 608) ∧ pu_Rk (M.1 608) ∧ 0 ≤ (M.1 606) 4 ∧ (M.1 606) 4 ≤ 4 ∧ 0 ≤ M.1 606 2 ∧ M.1 606 2 ≤ 9000 ∧ l1 ≤ 9 ∧ pu_Rw (pu_eve (M.1 606) (pu_cpy (M.1 606) (M.1 612) 23 0 18) (pu_cpy (M.1 606) (M.1 613) 41 0 70) ((M.1 606) 4) (M.1 606 2) (pu_cpy (M.1 608) (M.1 609) 0 0 108)) ∧ 0 ≤ (M.1 606 2) ∧ (M.1 606 2) ≤ 9000 ∧ (nb_Lay (nb_up (nb_wr (nb_up (nb_up (nb_wr (nb_wr (nb_wr M 603 0 0) 603 11 0) 603 25 ((M.1 606) 4)) 612 (pu_cpy (M.1 606) (M.1 612) 23 0 18)) 613 (pu_cpy (M.1 606) (M.1 613) 41 0 70)) 603 26 (M.1 606 2)) 609 (pu_eve (M.1 606) (pu_cpy (M.1 606) (M.1 612) 23 0 18) (pu_cpy (M.1 606) (M.1 613) 41 0 70) ((M.1 606) 4) (M.1 606 2) (pu_cpy (M.1 608) (M.1 609) 0 0 108))) → Q [(0, pu_wo (pu_cpy (M.1 606) (M.1 613) 41 0 70) (pu_eve (M.1 606) (pu_cpy (M.1 606) (M.1 612) 23 0 18) (pu_cpy (M.1 606) (M.1 613) 41 0 70) ((M.1 606) 4) (M.1 606 2) (pu_cpy (M.1 608) (M.1 609) 0 0 108)) (M.1 606 2) l1)] (nb_up (nb_wr (nb_up (nb_up (nb_wr (nb_wr (nb_wr M 603 0 0) 603 11 0) 603 25 ((M.1 606) 4)) 612 (pu_cpy (M.1 606) (M.1 612) 23 0 18)) 613 (pu_cpy (M.1 606) (M.1 613) 41 0 70)) 603 26 (M.1 606 2)) 609 (pu_eve (M.1 606) (pu_cpy (M.1 606) (M.1 612) 23 0 18) (pu_cpy (M.1 606) (M.1 613) 41 0 70) ((M.1 606) 4) (M.1 606 2) (pu_cpy (M.1 608) (M.1 609) 0 0 108)))))))) :
    nb_W 152 0 [(20, 603), (0, l1)] [] M Q := by
  replace H := nb_Hw H
  refine nb_Wg (q_m_waits_0 _ _ _ (by omega)) ?_
  refine nb_Gb ?_
  refine nb_Wg (q_m_good_0 _ _ (by omega)) ?_
  have W1 : nb_Lay (nb_wr M 603 0 0) := W.wr (fun w => (nb_nlit (by decide) (by decide)))
  refine nb_Gr ?_
  refine nb_Wg (q_m_good_1 _ _ (by omega)) ?_
  have W2 : nb_Lay (nb_wr (nb_wr M 603 0 0) 603 11 0) := W1.wr (fun w => (nb_nlit (by decide) (by decide)))
  refine nb_Gr ?_
  refine nb_Wg (q_m_good_2 _ _) ?_
  refine nb_Gs ?_
  show nb_W 152 1 [(20, 603), (0, l1)] [] (nb_wr (nb_wr M 603 0 0) 603 11 0) _
  refine nb_Wg (q_m_waits_1 _ _ _ (by omega)) ?_
  refine nb_Gb ?_
  obtain ⟨p0_, p1_, H⟩ := H
  replace H := nb_Hw H
  have E3 : nb_rd (nb_wr (nb_wr M 603 0 0) 603 11 0) 603 14 = M.1 603 14 := nb_rdw (Or.inr (by decide)) (nb_rdw (Or.inr (by decide)) (nb_rd_1 _ _ _))
  refine nb_Wg (q_m_isPerson_0 _ _ _ (by omega)) ?_
  simp only [E3]
  clear E3
  refine nb_Gi (fun c28 => ?_) (fun c28 => ?_)
  · have H := nb_Hw ((nb_Hu H).1 c28)
    refine nb_Gr ?_
    refine nb_Wg (q_m_isPerson_4 _ _ _) ?_
    refine nb_Gr ?_
    have E4 : nb_i2z 0 = 0 := by decide
    refine nb_Wg (q_m_isPerson_5 _ _ _ _) ?_
    simp only [E4]
    clear E4
    refine nb_Gs ?_
    show nb_W 152 2 [(20, 603), (0, l1)] [(0, 0)] (nb_wr (nb_wr M 603 0 0) 603 11 0) _
    refine nb_Wg (q_m_waits_2 _ _ _ _) ?_
    refine nb_Gt (by decide) ?_
    refine nb_Gr ?_
    refine nb_Wg (q_m_waits_3 _ _ _ (by omega)) ?_
    refine nb_Gb ?_
    refine nb_Wg (q_m_no_0 _ _ _ (by omega)) ?_
    have W5 : nb_Lay (nb_wr (nb_wr (nb_wr M 603 0 0) 603 11 0) 603 11 1) := W2.wr (fun w => (nb_nlit (by decide) (by decide)))
    refine nb_Gr ?_
    refine nb_Wg (q_m_no_1 _ _ _) ?_
    refine nb_Gs ?_
    show nb_W 152 4 [(20, 603), (0, l1)] [(0, (-1))] (nb_wr (nb_wr (nb_wr M 603 0 0) 603 11 0) 603 11 1) _
    refine nb_Wg (q_m_waits_4 _ _ _ _) ?_
    refine nb_Gs ?_
    exact nb_Hu H W5
  · have H := nb_Hw ((nb_Hu H).2 (by omega))
    have c28 : M.1 603 14 ≠ 0 := by omega
    refine nb_Gr ?_
    obtain ⟨p0_, p1_, H⟩ := H
    replace H := nb_Hw H
    have E6 : nb_rd (nb_wr (nb_wr M 603 0 0) 603 11 0) 603 15 = 606 := W2.m15
    have N7 : nb_ln (nb_wr (nb_wr M 603 0 0) 603 11 0) 606 = 347 := W2.lk (by decide) (by decide +kernel)
    have E8 : nb_rd (nb_wr (nb_wr M 603 0 0) 603 11 0) 606 5 = M.1 606 5 := nb_rdw (Or.inl (by decide)) (nb_rdw (Or.inl (by decide)) (nb_rd_1 _ _ _))
    have E9 : nb_sub (M.1 606 5) 1 = M.1 606 5 - 1 := nb_sub_eq (by omega) (by omega)
    refine nb_Wg (q_m_isPerson_1 _ _ _ (by omega) (by rw [E6]; first | done | omega) (by omega) (by rw [E6, N7]; first | done | omega)) ?_
    simp only [E6, E8, E9]
    clear E6 N7 E8 E9
    refine nb_Gb ?_
    refine nb_Wg (q_m_within_0 _ _ _ _) ?_
    refine nb_Gi (fun c27 => ?_) (fun c27 => ?_)
    · have H := nb_Hw ((nb_Hu H).1 c27)
      refine nb_Gr ?_
      refine nb_Wg (q_m_within_3 _ _ _ _) ?_
      refine nb_Gr ?_
      have E10 : nb_i2z 0 = 0 := by decide
      refine nb_Wg (q_m_within_4 _ _ _ _ _) ?_
      simp only [E10]
      clear E10
      refine nb_Gs ?_
      show nb_W 116 2 [(20, 603), (0, l1)] [(0, 0)] (nb_wr (nb_wr M 603 0 0) 603 11 0) _
      refine nb_Wg (q_m_isPerson_2 _ _ _ _) ?_
      refine nb_Gt (by decide) ?_
      refine nb_Gr ?_
      refine nb_Wg (q_m_isPerson_4 _ _ _) ?_
      refine nb_Gr ?_
      have E11 : nb_i2z 0 = 0 := by decide
      refine nb_Wg (q_m_isPerson_5 _ _ _ _) ?_
      simp only [E11]
      clear E11
      refine nb_Gs ?_
      show nb_W 152 2 [(20, 603), (0, l1)] [(0, 0)] (nb_wr (nb_wr M 603 0 0) 603 11 0) _
      refine nb_Wg (q_m_waits_2 _ _ _ _) ?_
      refine nb_Gt (by decide) ?_
      refine nb_Gr ?_
      refine nb_Wg (q_m_waits_3 _ _ _ (by omega)) ?_
      refine nb_Gb ?_
      refine nb_Wg (q_m_no_0 _ _ _ (by omega)) ?_
      have W12 : nb_Lay (nb_wr (nb_wr (nb_wr M 603 0 0) 603 11 0) 603 11 1) := W2.wr (fun w => (nb_nlit (by decide) (by decide)))
      refine nb_Gr ?_
      refine nb_Wg (q_m_no_1 _ _ _) ?_
      refine nb_Gs ?_
      show nb_W 152 4 [(20, 603), (0, l1)] [(0, (-1))] (nb_wr (nb_wr (nb_wr M 603 0 0) 603 11 0) 603 11 1) _
      refine nb_Wg (q_m_waits_4 _ _ _ _) ?_
      refine nb_Gs ?_
      exact nb_Hu H W12
    · have H := nb_Hw ((nb_Hu H).2 (by omega))
      have c27 : 0 ≤ l1 := by omega
      refine nb_Gr ?_
      refine nb_Wg (q_m_within_1 _ _ _ _) ?_
      refine nb_Gi (fun c26 => ?_) (fun c26 => ?_)
      · have H := nb_Hw ((nb_Hu H).1 c26)
        refine nb_Gr ?_
        refine nb_Wg (q_m_within_3 _ _ _ _) ?_
        refine nb_Gr ?_
        have E13 : nb_i2z 0 = 0 := by decide
        refine nb_Wg (q_m_within_4 _ _ _ _ _) ?_
        simp only [E13]
        clear E13
        refine nb_Gs ?_
        show nb_W 116 2 [(20, 603), (0, l1)] [(0, 0)] (nb_wr (nb_wr M 603 0 0) 603 11 0) _
        refine nb_Wg (q_m_isPerson_2 _ _ _ _) ?_
        refine nb_Gt (by decide) ?_
        refine nb_Gr ?_
        refine nb_Wg (q_m_isPerson_4 _ _ _) ?_
        refine nb_Gr ?_
        have E14 : nb_i2z 0 = 0 := by decide
        refine nb_Wg (q_m_isPerson_5 _ _ _ _) ?_
        simp only [E14]
        clear E14
        refine nb_Gs ?_
        show nb_W 152 2 [(20, 603), (0, l1)] [(0, 0)] (nb_wr (nb_wr M 603 0 0) 603 11 0) _
        refine nb_Wg (q_m_waits_2 _ _ _ _) ?_
        refine nb_Gt (by decide) ?_
        refine nb_Gr ?_
        refine nb_Wg (q_m_waits_3 _ _ _ (by omega)) ?_
        refine nb_Gb ?_
        refine nb_Wg (q_m_no_0 _ _ _ (by omega)) ?_
        have W15 : nb_Lay (nb_wr (nb_wr (nb_wr M 603 0 0) 603 11 0) 603 11 1) := W2.wr (fun w => (nb_nlit (by decide) (by decide)))
        refine nb_Gr ?_
        refine nb_Wg (q_m_no_1 _ _ _) ?_
        refine nb_Gs ?_
        show nb_W 152 4 [(20, 603), (0, l1)] [(0, (-1))] (nb_wr (nb_wr (nb_wr M 603 0 0) 603 11 0) 603 11 1) _
        refine nb_Wg (q_m_waits_4 _ _ _ _) ?_
        refine nb_Gs ?_
        exact nb_Hu H W15
      · have H := nb_Hw ((nb_Hu H).2 (by omega))
        have c26 : l1 ≤ M.1 606 5 - 1 := by omega
        refine nb_Gr ?_
        refine nb_Wg (q_m_within_2 _ _ _ _) ?_
        refine nb_Gr ?_
        have E16 : nb_i2z 1 = 1 := by decide
        refine nb_Wg (q_m_within_4 _ _ _ _ _) ?_
        simp only [E16]
        clear E16
        refine nb_Gs ?_
        show nb_W 116 2 [(20, 603), (0, l1)] [(0, 1)] (nb_wr (nb_wr M 603 0 0) 603 11 0) _
        refine nb_Wg (q_m_isPerson_2 _ _ _ _) ?_
        refine nb_Gf (by decide) ?_
        refine nb_Gr ?_
        refine nb_Wg (q_m_isPerson_3 _ _ _) ?_
        refine nb_Gr ?_
        have E17 : nb_i2z 1 = 1 := by decide
        refine nb_Wg (q_m_isPerson_5 _ _ _ _) ?_
        simp only [E17]
        clear E17
        refine nb_Gs ?_
        show nb_W 152 2 [(20, 603), (0, l1)] [(0, 1)] (nb_wr (nb_wr M 603 0 0) 603 11 0) _
        refine nb_Wg (q_m_waits_2 _ _ _ _) ?_
        refine nb_Gf (by decide) ?_
        refine nb_Gr ?_
        refine nb_Wg (q_m_waits_5 _ _ _ (by omega)) ?_
        refine nb_Gb ?_
        refine nb_Wg (q_m_tellEvening_0 _ _ (by omega)) ?_
        have W18 : nb_Lay (nb_wr (nb_wr (nb_wr M 603 0 0) 603 11 0) 603 25 ((M.1 606) 4)) := W2.wr (fun w => (nb_nlit (by decide) (by decide)))
        have W19 : nb_Lay (nb_up (nb_wr (nb_wr (nb_wr M 603 0 0) 603 11 0) 603 25 ((M.1 606) 4)) 612 (pu_cpy (M.1 606) (M.1 612) 23 0 18)) := W18.up (fun i w => (nb_nnum (by decide) (by decide)))
        have W20 : nb_Lay (nb_up (nb_up (nb_wr (nb_wr (nb_wr M 603 0 0) 603 11 0) 603 25 ((M.1 606) 4)) 612 (pu_cpy (M.1 606) (M.1 612) 23 0 18)) 613 (pu_cpy (M.1 606) (M.1 613) 41 0 70)) := W19.up (fun i w => (nb_nnum (by decide) (by decide)))
        rw [show nb_R nb_P 121 0 [(20, 603)] [] (nb_wr (nb_wr M 603 0 0) 603 11 0) = some ([], nb_up (nb_up (nb_wr (nb_wr (nb_wr M 603 0 0) 603 11 0) 603 25 ((M.1 606) 4)) 612 (pu_cpy (M.1 606) (M.1 612) 23 0 18)) 613 (pu_cpy (M.1 606) (M.1 613) 41 0 70)) from (sp_m_asTold W2).trans (by first | rfl | simp [nb_wr_up, nb_up_1, nb_up_up, nb_ud])]
        refine nb_Gp ?_
        show nb_W 150 1 [(20, 603)] [] (nb_up (nb_up (nb_wr (nb_wr (nb_wr M 603 0 0) 603 11 0) 603 25 ((M.1 606) 4)) 612 (pu_cpy (M.1 606) (M.1 612) 23 0 18)) 613 (pu_cpy (M.1 606) (M.1 613) 41 0 70)) _
        have E21 : nb_rd (nb_up (nb_up (nb_wr (nb_wr (nb_wr M 603 0 0) 603 11 0) 603 25 ((M.1 606) 4)) 612 (pu_cpy (M.1 606) (M.1 612) 23 0 18)) 613 (pu_cpy (M.1 606) (M.1 613) 41 0 70)) 603 15 = 606 := W20.m15
        have N22 : nb_ln (nb_up (nb_up (nb_wr (nb_wr (nb_wr M 603 0 0) 603 11 0) 603 25 ((M.1 606) 4)) 612 (pu_cpy (M.1 606) (M.1 612) 23 0 18)) 613 (pu_cpy (M.1 606) (M.1 613) 41 0 70)) 606 = 347 := W20.lk (by decide) (by decide +kernel)
        have E23 : nb_rd (nb_up (nb_up (nb_wr (nb_wr (nb_wr M 603 0 0) 603 11 0) 603 25 ((M.1 606) 4)) 612 (pu_cpy (M.1 606) (M.1 612) 23 0 18)) 613 (pu_cpy (M.1 606) (M.1 613) 41 0 70)) 606 2 = M.1 606 2 := nb_rdu (by decide) (nb_rdu (by decide) (nb_rdw (Or.inl (by decide)) (nb_rdw (Or.inl (by decide)) (nb_rdw (Or.inl (by decide)) (nb_rd_1 _ _ _)))))
        refine nb_Wg (q_m_tellEvening_1 _ _ (by omega) (by rw [E21]; first | done | omega) (by omega) (by rw [E21, N22]; first | done | omega)) ?_
        simp only [E21, E23]
        clear E21 N22 E23
        have W24 : nb_Lay (nb_wr (nb_up (nb_up (nb_wr (nb_wr (nb_wr M 603 0 0) 603 11 0) 603 25 ((M.1 606) 4)) 612 (pu_cpy (M.1 606) (M.1 612) 23 0 18)) 613 (pu_cpy (M.1 606) (M.1 613) 41 0 70)) 603 26 (M.1 606 2)) := W20.wr (fun w => (nb_nlit (by decide) (by decide)))
        refine nb_Gr ?_
        obtain ⟨p0_, p1_, p2_, p3_, p4_, p5_, p6_, p7_, p8_, H⟩ := H
        replace H := nb_Hw H
        refine nb_Wg (q_m_tellEvening_2 _ _ (by omega)) ?_
        have W25 : nb_Lay (nb_up (nb_wr (nb_up (nb_up (nb_wr (nb_wr (nb_wr M 603 0 0) 603 11 0) 603 25 ((M.1 606) 4)) 612 (pu_cpy (M.1 606) (M.1 612) 23 0 18)) 613 (pu_cpy (M.1 606) (M.1 613) 41 0 70)) 603 26 (M.1 606 2)) 609 (pu_eve (M.1 606) (pu_cpy (M.1 606) (M.1 612) 23 0 18) (pu_cpy (M.1 606) (M.1 613) 41 0 70) ((M.1 606) 4) (M.1 606 2) (pu_cpy (M.1 608) (M.1 609) 0 0 108))) := W24.up (fun i w => (nb_nnum (by decide) (by decide)))
        rw [show nb_R nb_P 134 0 [(20, 603)] [] (nb_wr (nb_up (nb_up (nb_wr (nb_wr (nb_wr M 603 0 0) 603 11 0) 603 25 ((M.1 606) 4)) 612 (pu_cpy (M.1 606) (M.1 612) 23 0 18)) 613 (pu_cpy (M.1 606) (M.1 613) 41 0 70)) 603 26 (M.1 606 2)) = some ([], nb_up (nb_wr (nb_up (nb_up (nb_wr (nb_wr (nb_wr M 603 0 0) 603 11 0) 603 25 ((M.1 606) 4)) 612 (pu_cpy (M.1 606) (M.1 612) 23 0 18)) 613 (pu_cpy (M.1 606) (M.1 613) 41 0 70)) 603 26 (M.1 606 2)) 609 (pu_eve (M.1 606) (pu_cpy (M.1 606) (M.1 612) 23 0 18) (pu_cpy (M.1 606) (M.1 613) 41 0 70) ((M.1 606) 4) (M.1 606 2) (pu_cpy (M.1 608) (M.1 609) 0 0 108))) from (sp_m_evening W24 (by first | assumption | omega | (simp [nb_wr_up, nb_up_1, nb_ud]; first | assumption | omega)) (by first | assumption | omega | (simp [nb_wr_up, nb_up_1, nb_ud]; first | assumption | omega)) (by first | assumption | omega | (simp [nb_wr_up, nb_up_1, nb_ud]; first | assumption | omega)) (by first | assumption | omega | (simp [nb_wr_up, nb_up_1, nb_ud]; first | assumption | omega)) (by first | assumption | omega | (simp [nb_wr_up, nb_up_1, nb_ud]; first | assumption | omega)) (by first | assumption | omega | (simp [nb_wr_up, nb_up_1, nb_ud]; first | assumption | omega)) (by first | assumption | omega | (simp [nb_wr_up, nb_up_1, nb_ud]; first | assumption | omega))).trans (by first | rfl | simp [nb_wr_up, nb_up_1, nb_up_up, nb_ud])]
        refine nb_Gp ?_
        show nb_W 150 3 [(20, 603)] [] (nb_up (nb_wr (nb_up (nb_up (nb_wr (nb_wr (nb_wr M 603 0 0) 603 11 0) 603 25 ((M.1 606) 4)) 612 (pu_cpy (M.1 606) (M.1 612) 23 0 18)) 613 (pu_cpy (M.1 606) (M.1 613) 41 0 70)) 603 26 (M.1 606 2)) 609 (pu_eve (M.1 606) (pu_cpy (M.1 606) (M.1 612) 23 0 18) (pu_cpy (M.1 606) (M.1 613) 41 0 70) ((M.1 606) 4) (M.1 606 2) (pu_cpy (M.1 608) (M.1 609) 0 0 108))) _
        refine nb_Wg (q_m_tellEvening_3 _ _) ?_
        refine nb_Gs ?_
        show nb_W 152 6 [(20, 603), (0, l1)] [] (nb_up (nb_wr (nb_up (nb_up (nb_wr (nb_wr (nb_wr M 603 0 0) 603 11 0) 603 25 ((M.1 606) 4)) 612 (pu_cpy (M.1 606) (M.1 612) 23 0 18)) 613 (pu_cpy (M.1 606) (M.1 613) 41 0 70)) 603 26 (M.1 606 2)) 609 (pu_eve (M.1 606) (pu_cpy (M.1 606) (M.1 612) 23 0 18) (pu_cpy (M.1 606) (M.1 613) 41 0 70) ((M.1 606) 4) (M.1 606 2) (pu_cpy (M.1 608) (M.1 609) 0 0 108))) _
        obtain ⟨p0_, p1_, p2_, p3_, H⟩ := H
        replace H := nb_Hw H
        refine nb_Wg (q_m_waits_6 _ _ _ (by omega)) ?_
        rw [show nb_R nb_P 136 0 [(20, 603), (0, l1), (98, 0)] [] (nb_up (nb_wr (nb_up (nb_up (nb_wr (nb_wr (nb_wr M 603 0 0) 603 11 0) 603 25 ((M.1 606) 4)) 612 (pu_cpy (M.1 606) (M.1 612) 23 0 18)) 613 (pu_cpy (M.1 606) (M.1 613) 41 0 70)) 603 26 (M.1 606 2)) 609 (pu_eve (M.1 606) (pu_cpy (M.1 606) (M.1 612) 23 0 18) (pu_cpy (M.1 606) (M.1 613) 41 0 70) ((M.1 606) 4) (M.1 606 2) (pu_cpy (M.1 608) (M.1 609) 0 0 108))) = some ([(0, pu_wo (pu_cpy (M.1 606) (M.1 613) 41 0 70) (pu_eve (M.1 606) (pu_cpy (M.1 606) (M.1 612) 23 0 18) (pu_cpy (M.1 606) (M.1 613) 41 0 70) ((M.1 606) 4) (M.1 606 2) (pu_cpy (M.1 608) (M.1 609) 0 0 108)) (M.1 606 2) l1)], nb_up (nb_wr (nb_up (nb_up (nb_wr (nb_wr (nb_wr M 603 0 0) 603 11 0) 603 25 ((M.1 606) 4)) 612 (pu_cpy (M.1 606) (M.1 612) 23 0 18)) 613 (pu_cpy (M.1 606) (M.1 613) 41 0 70)) 603 26 (M.1 606 2)) 609 (pu_eve (M.1 606) (pu_cpy (M.1 606) (M.1 612) 23 0 18) (pu_cpy (M.1 606) (M.1 613) 41 0 70) ((M.1 606) 4) (M.1 606 2) (pu_cpy (M.1 608) (M.1 609) 0 0 108))) from (sp_m_waitOf W25 (by omega) (by first | assumption | omega | (simp [nb_wr_up, nb_up_1, nb_ud]; first | assumption | omega)) (by first | assumption | omega | (simp [nb_wr_up, nb_up_1, nb_ud]; first | assumption | omega)) (by first | assumption | omega | (simp [nb_wr_up, nb_up_1, nb_ud]; first | assumption | omega))).trans (by first | rfl | simp [nb_wr_up, nb_up_1, nb_up_up, nb_ud])]
        refine nb_Gp ?_
        show nb_W 152 7 [(20, 603), (0, l1)] [(0, pu_wo (pu_cpy (M.1 606) (M.1 613) 41 0 70) (pu_eve (M.1 606) (pu_cpy (M.1 606) (M.1 612) 23 0 18) (pu_cpy (M.1 606) (M.1 613) 41 0 70) ((M.1 606) 4) (M.1 606 2) (pu_cpy (M.1 608) (M.1 609) 0 0 108)) (M.1 606 2) l1)] (nb_up (nb_wr (nb_up (nb_up (nb_wr (nb_wr (nb_wr M 603 0 0) 603 11 0) 603 25 ((M.1 606) 4)) 612 (pu_cpy (M.1 606) (M.1 612) 23 0 18)) 613 (pu_cpy (M.1 606) (M.1 613) 41 0 70)) 603 26 (M.1 606 2)) 609 (pu_eve (M.1 606) (pu_cpy (M.1 606) (M.1 612) 23 0 18) (pu_cpy (M.1 606) (M.1 613) 41 0 70) ((M.1 606) 4) (M.1 606 2) (pu_cpy (M.1 608) (M.1 609) 0 0 108))) _
        refine nb_Wg (q_m_waits_7 _ _ _ _) ?_
        refine nb_Gs ?_
        exact nb_Hu H W25

theorem w_m_whom_0 {l1 : Int} {M : nb_M} {Q : List nb_V → nb_M → Prop} (W : nb_Lay M) (H : 0 ≤ M.1 603 14 ∧ M.1 603 14 ≤ 1 ∧ (M.1 603 14 = 0 → (nb_Lay (nb_wr (nb_wr (nb_wr M 603 0 0) 603 11 0) 603 11 1) → Q [(0, (-1))] (nb_wr (nb_wr (nb_wr M 603 0 0) 603 11 0) 603 11 1))) ∧ (M.1 603 14 ≠ 0 → 0 ≤ M.1 606 5 ∧ M.1 606 5 ≤ 10 ∧ (l1 < 0 → (nb_Lay (nb_wr (nb_wr (nb_wr M 603 0 0) 603 11 0) 603 11 1) → Q [(0, (-1))] (nb_wr (nb_wr (nb_wr M 603 0 0) 603 11 0) 603 11 1))) ∧ (0 ≤ l1 → (M.1 606 5 - 1 < l1 → (nb_Lay (nb_wr (nb_wr (nb_wr M 603 0 0) 603 11 0) 603 11 1) → Q [(0, (-1))] (nb_wr (nb_wr (nb_wr M 603 0 0) 603 11 0) 603 11 1))) ∧ (l1 ≤ M.1 606 5 - 1 → pu_Rr (M.1 606) ∧ pu_Rc (pu_cpy (M.1 606) (M.1 612) 23 0 18) ∧ pu_Rp (pu_cpy (M.1 606) (M.1 613) 41 0 70) ∧ pu_Rw (M.1 608) ∧ pu_Rk (M.1 608) ∧ 0 ≤ (M.1 606) 4 ∧ (M.1 606) 4 ≤ 4 ∧ 0 ≤ M.1 606 2 ∧ M.1 606 2 ≤ 9000 ∧ (nb_Lay (nb_up (nb_wr (nb_up (nb_up (nb_wr (nb_wr (nb_wr M 603 0 0) 603 11 0) 603 25 ((M.1 606) 4)) 612 (pu_cpy (M.1 606) (M.1 612) 23 0 18)) 613 (pu_cpy (M.1 606) (M.1 613) 41 0 70)) 603 26 (M.1 606 2)) 609 (pu_eve (M.1 606) (pu_cpy (M.1 606) (M.1 612) 23 0 18) (pu_cpy (M.1 606) (M.1 613) 41 0 70) ((M.1 606) 4) (M.1 606 2) (pu_cpy (M.1 608) (M.1 609) 0 0 108))) → Q [(0, (pu_eve (M.1 606) (pu_cpy (M.1 606) (M.1 612) 23 0 18) (pu_cpy (M.1 606) (M.1 613) 41 0 70) ((M.1 606) 4) (M.1 606 2) (pu_cpy (M.1 608) (M.1 609) 0 0 108)) (12 + 8 * l1 + 6))] (nb_up (nb_wr (nb_up (nb_up (nb_wr (nb_wr (nb_wr M 603 0 0) 603 11 0) 603 25 ((M.1 606) 4)) 612 (pu_cpy (M.1 606) (M.1 612) 23 0 18)) 613 (pu_cpy (M.1 606) (M.1 613) 41 0 70)) 603 26 (M.1 606 2)) 609 (pu_eve (M.1 606) (pu_cpy (M.1 606) (M.1 612) 23 0 18) (pu_cpy (M.1 606) (M.1 613) 41 0 70) ((M.1 606) 4) (M.1 606 2) (pu_cpy (M.1 608) (M.1 609) 0 0 108)))))))) :
    nb_W 153 0 [(20, 603), (0, l1)] [] M Q := by
  replace H := nb_Hw H
  refine nb_Wg (q_m_whom_0 _ _ _ (by omega)) ?_
  refine nb_Gb ?_
  refine nb_Wg (q_m_good_0 _ _ (by omega)) ?_
  have W1 : nb_Lay (nb_wr M 603 0 0) := W.wr (fun w => (nb_nlit (by decide) (by decide)))
  refine nb_Gr ?_
  refine nb_Wg (q_m_good_1 _ _ (by omega)) ?_
  have W2 : nb_Lay (nb_wr (nb_wr M 603 0 0) 603 11 0) := W1.wr (fun w => (nb_nlit (by decide) (by decide)))
  refine nb_Gr ?_
  refine nb_Wg (q_m_good_2 _ _) ?_
  refine nb_Gs ?_
  show nb_W 153 1 [(20, 603), (0, l1)] [] (nb_wr (nb_wr M 603 0 0) 603 11 0) _
  refine nb_Wg (q_m_whom_1 _ _ _ (by omega)) ?_
  refine nb_Gb ?_
  obtain ⟨p0_, p1_, H⟩ := H
  replace H := nb_Hw H
  have E3 : nb_rd (nb_wr (nb_wr M 603 0 0) 603 11 0) 603 14 = M.1 603 14 := nb_rdw (Or.inr (by decide)) (nb_rdw (Or.inr (by decide)) (nb_rd_1 _ _ _))
  refine nb_Wg (q_m_isPerson_0 _ _ _ (by omega)) ?_
  simp only [E3]
  clear E3
  refine nb_Gi (fun c34 => ?_) (fun c34 => ?_)
  · have H := nb_Hw ((nb_Hu H).1 c34)
    refine nb_Gr ?_
    refine nb_Wg (q_m_isPerson_4 _ _ _) ?_
    refine nb_Gr ?_
    have E4 : nb_i2z 0 = 0 := by decide
    refine nb_Wg (q_m_isPerson_5 _ _ _ _) ?_
    simp only [E4]
    clear E4
    refine nb_Gs ?_
    show nb_W 153 2 [(20, 603), (0, l1)] [(0, 0)] (nb_wr (nb_wr M 603 0 0) 603 11 0) _
    refine nb_Wg (q_m_whom_2 _ _ _ _) ?_
    refine nb_Gt (by decide) ?_
    refine nb_Gr ?_
    refine nb_Wg (q_m_whom_3 _ _ _ (by omega)) ?_
    refine nb_Gb ?_
    refine nb_Wg (q_m_no_0 _ _ _ (by omega)) ?_
    have W5 : nb_Lay (nb_wr (nb_wr (nb_wr M 603 0 0) 603 11 0) 603 11 1) := W2.wr (fun w => (nb_nlit (by decide) (by decide)))
    refine nb_Gr ?_
    refine nb_Wg (q_m_no_1 _ _ _) ?_
    refine nb_Gs ?_
    show nb_W 153 4 [(20, 603), (0, l1)] [(0, (-1))] (nb_wr (nb_wr (nb_wr M 603 0 0) 603 11 0) 603 11 1) _
    refine nb_Wg (q_m_whom_4 _ _ _ _) ?_
    refine nb_Gs ?_
    exact nb_Hu H W5
  · have H := nb_Hw ((nb_Hu H).2 (by omega))
    have c34 : M.1 603 14 ≠ 0 := by omega
    refine nb_Gr ?_
    obtain ⟨p0_, p1_, H⟩ := H
    replace H := nb_Hw H
    have E6 : nb_rd (nb_wr (nb_wr M 603 0 0) 603 11 0) 603 15 = 606 := W2.m15
    have N7 : nb_ln (nb_wr (nb_wr M 603 0 0) 603 11 0) 606 = 347 := W2.lk (by decide) (by decide +kernel)
    have E8 : nb_rd (nb_wr (nb_wr M 603 0 0) 603 11 0) 606 5 = M.1 606 5 := nb_rdw (Or.inl (by decide)) (nb_rdw (Or.inl (by decide)) (nb_rd_1 _ _ _))
    have E9 : nb_sub (M.1 606 5) 1 = M.1 606 5 - 1 := nb_sub_eq (by omega) (by omega)
    refine nb_Wg (q_m_isPerson_1 _ _ _ (by omega) (by rw [E6]; first | done | omega) (by omega) (by rw [E6, N7]; first | done | omega)) ?_
    simp only [E6, E8, E9]
    clear E6 N7 E8 E9
    refine nb_Gb ?_
    refine nb_Wg (q_m_within_0 _ _ _ _) ?_
    refine nb_Gi (fun c33 => ?_) (fun c33 => ?_)
    · have H := nb_Hw ((nb_Hu H).1 c33)
      refine nb_Gr ?_
      refine nb_Wg (q_m_within_3 _ _ _ _) ?_
      refine nb_Gr ?_
      have E10 : nb_i2z 0 = 0 := by decide
      refine nb_Wg (q_m_within_4 _ _ _ _ _) ?_
      simp only [E10]
      clear E10
      refine nb_Gs ?_
      show nb_W 116 2 [(20, 603), (0, l1)] [(0, 0)] (nb_wr (nb_wr M 603 0 0) 603 11 0) _
      refine nb_Wg (q_m_isPerson_2 _ _ _ _) ?_
      refine nb_Gt (by decide) ?_
      refine nb_Gr ?_
      refine nb_Wg (q_m_isPerson_4 _ _ _) ?_
      refine nb_Gr ?_
      have E11 : nb_i2z 0 = 0 := by decide
      refine nb_Wg (q_m_isPerson_5 _ _ _ _) ?_
      simp only [E11]
      clear E11
      refine nb_Gs ?_
      show nb_W 153 2 [(20, 603), (0, l1)] [(0, 0)] (nb_wr (nb_wr M 603 0 0) 603 11 0) _
      refine nb_Wg (q_m_whom_2 _ _ _ _) ?_
      refine nb_Gt (by decide) ?_
      refine nb_Gr ?_
      refine nb_Wg (q_m_whom_3 _ _ _ (by omega)) ?_
      refine nb_Gb ?_
      refine nb_Wg (q_m_no_0 _ _ _ (by omega)) ?_
      have W12 : nb_Lay (nb_wr (nb_wr (nb_wr M 603 0 0) 603 11 0) 603 11 1) := W2.wr (fun w => (nb_nlit (by decide) (by decide)))
      refine nb_Gr ?_
      refine nb_Wg (q_m_no_1 _ _ _) ?_
      refine nb_Gs ?_
      show nb_W 153 4 [(20, 603), (0, l1)] [(0, (-1))] (nb_wr (nb_wr (nb_wr M 603 0 0) 603 11 0) 603 11 1) _
      refine nb_Wg (q_m_whom_4 _ _ _ _) ?_
      refine nb_Gs ?_
      exact nb_Hu H W12
    · have H := nb_Hw ((nb_Hu H).2 (by omega))
      have c33 : 0 ≤ l1 := by omega
      refine nb_Gr ?_
      refine nb_Wg (q_m_within_1 _ _ _ _) ?_
      refine nb_Gi (fun c32 => ?_) (fun c32 => ?_)
      · have H := nb_Hw ((nb_Hu H).1 c32)
        refine nb_Gr ?_
        refine nb_Wg (q_m_within_3 _ _ _ _) ?_
        refine nb_Gr ?_
        have E13 : nb_i2z 0 = 0 := by decide
        refine nb_Wg (q_m_within_4 _ _ _ _ _) ?_
        simp only [E13]
        clear E13
        refine nb_Gs ?_
        show nb_W 116 2 [(20, 603), (0, l1)] [(0, 0)] (nb_wr (nb_wr M 603 0 0) 603 11 0) _
        refine nb_Wg (q_m_isPerson_2 _ _ _ _) ?_
        refine nb_Gt (by decide) ?_
        refine nb_Gr ?_
        refine nb_Wg (q_m_isPerson_4 _ _ _) ?_
        refine nb_Gr ?_
        have E14 : nb_i2z 0 = 0 := by decide
        refine nb_Wg (q_m_isPerson_5 _ _ _ _) ?_
        simp only [E14]
        clear E14
        refine nb_Gs ?_
        show nb_W 153 2 [(20, 603), (0, l1)] [(0, 0)] (nb_wr (nb_wr M 603 0 0) 603 11 0) _
        refine nb_Wg (q_m_whom_2 _ _ _ _) ?_
        refine nb_Gt (by decide) ?_
        refine nb_Gr ?_
        refine nb_Wg (q_m_whom_3 _ _ _ (by omega)) ?_
        refine nb_Gb ?_
        refine nb_Wg (q_m_no_0 _ _ _ (by omega)) ?_
        have W15 : nb_Lay (nb_wr (nb_wr (nb_wr M 603 0 0) 603 11 0) 603 11 1) := W2.wr (fun w => (nb_nlit (by decide) (by decide)))
        refine nb_Gr ?_
        refine nb_Wg (q_m_no_1 _ _ _) ?_
        refine nb_Gs ?_
        show nb_W 153 4 [(20, 603), (0, l1)] [(0, (-1))] (nb_wr (nb_wr (nb_wr M 603 0 0) 603 11 0) 603 11 1) _
        refine nb_Wg (q_m_whom_4 _ _ _ _) ?_
        refine nb_Gs ?_
        exact nb_Hu H W15
      · have H := nb_Hw ((nb_Hu H).2 (by omega))
        have c32 : l1 ≤ M.1 606 5 - 1 := by omega
        refine nb_Gr ?_
        refine nb_Wg (q_m_within_2 _ _ _ _) ?_
        refine nb_Gr ?_
        have E16 : nb_i2z 1 = 1 := by decide
        refine nb_Wg (q_m_within_4 _ _ _ _ _) ?_
        simp only [E16]
        clear E16
        refine nb_Gs ?_
        show nb_W 116 2 [(20, 603), (0, l1)] [(0, 1)] (nb_wr (nb_wr M 603 0 0) 603 11 0) _
        refine nb_Wg (q_m_isPerson_2 _ _ _ _) ?_
        refine nb_Gf (by decide) ?_
        refine nb_Gr ?_
        refine nb_Wg (q_m_isPerson_3 _ _ _) ?_
        refine nb_Gr ?_
        have E17 : nb_i2z 1 = 1 := by decide
        refine nb_Wg (q_m_isPerson_5 _ _ _ _) ?_
        simp only [E17]
        clear E17
        refine nb_Gs ?_
        show nb_W 153 2 [(20, 603), (0, l1)] [(0, 1)] (nb_wr (nb_wr M 603 0 0) 603 11 0) _
        refine nb_Wg (q_m_whom_2 _ _ _ _) ?_
        refine nb_Gf (by decide) ?_
        refine nb_Gr ?_
        refine nb_Wg (q_m_whom_5 _ _ _ (by omega)) ?_
        refine nb_Gb ?_
        refine nb_Wg (q_m_tellEvening_0 _ _ (by omega)) ?_
        have W18 : nb_Lay (nb_wr (nb_wr (nb_wr M 603 0 0) 603 11 0) 603 25 ((M.1 606) 4)) := W2.wr (fun w => (nb_nlit (by decide) (by decide)))
        have W19 : nb_Lay (nb_up (nb_wr (nb_wr (nb_wr M 603 0 0) 603 11 0) 603 25 ((M.1 606) 4)) 612 (pu_cpy (M.1 606) (M.1 612) 23 0 18)) := W18.up (fun i w => (nb_nnum (by decide) (by decide)))
        have W20 : nb_Lay (nb_up (nb_up (nb_wr (nb_wr (nb_wr M 603 0 0) 603 11 0) 603 25 ((M.1 606) 4)) 612 (pu_cpy (M.1 606) (M.1 612) 23 0 18)) 613 (pu_cpy (M.1 606) (M.1 613) 41 0 70)) := W19.up (fun i w => (nb_nnum (by decide) (by decide)))
        rw [show nb_R nb_P 121 0 [(20, 603)] [] (nb_wr (nb_wr M 603 0 0) 603 11 0) = some ([], nb_up (nb_up (nb_wr (nb_wr (nb_wr M 603 0 0) 603 11 0) 603 25 ((M.1 606) 4)) 612 (pu_cpy (M.1 606) (M.1 612) 23 0 18)) 613 (pu_cpy (M.1 606) (M.1 613) 41 0 70)) from (sp_m_asTold W2).trans (by first | rfl | simp [nb_wr_up, nb_up_1, nb_up_up, nb_ud])]
        refine nb_Gp ?_
        show nb_W 150 1 [(20, 603)] [] (nb_up (nb_up (nb_wr (nb_wr (nb_wr M 603 0 0) 603 11 0) 603 25 ((M.1 606) 4)) 612 (pu_cpy (M.1 606) (M.1 612) 23 0 18)) 613 (pu_cpy (M.1 606) (M.1 613) 41 0 70)) _
        have E21 : nb_rd (nb_up (nb_up (nb_wr (nb_wr (nb_wr M 603 0 0) 603 11 0) 603 25 ((M.1 606) 4)) 612 (pu_cpy (M.1 606) (M.1 612) 23 0 18)) 613 (pu_cpy (M.1 606) (M.1 613) 41 0 70)) 603 15 = 606 := W20.m15
        have N22 : nb_ln (nb_up (nb_up (nb_wr (nb_wr (nb_wr M 603 0 0) 603 11 0) 603 25 ((M.1 606) 4)) 612 (pu_cpy (M.1 606) (M.1 612) 23 0 18)) 613 (pu_cpy (M.1 606) (M.1 613) 41 0 70)) 606 = 347 := W20.lk (by decide) (by decide +kernel)
        have E23 : nb_rd (nb_up (nb_up (nb_wr (nb_wr (nb_wr M 603 0 0) 603 11 0) 603 25 ((M.1 606) 4)) 612 (pu_cpy (M.1 606) (M.1 612) 23 0 18)) 613 (pu_cpy (M.1 606) (M.1 613) 41 0 70)) 606 2 = M.1 606 2 := nb_rdu (by decide) (nb_rdu (by decide) (nb_rdw (Or.inl (by decide)) (nb_rdw (Or.inl (by decide)) (nb_rdw (Or.inl (by decide)) (nb_rd_1 _ _ _)))))
        refine nb_Wg (q_m_tellEvening_1 _ _ (by omega) (by rw [E21]; first | done | omega) (by omega) (by rw [E21, N22]; first | done | omega)) ?_
        simp only [E21, E23]
        clear E21 N22 E23
        have W24 : nb_Lay (nb_wr (nb_up (nb_up (nb_wr (nb_wr (nb_wr M 603 0 0) 603 11 0) 603 25 ((M.1 606) 4)) 612 (pu_cpy (M.1 606) (M.1 612) 23 0 18)) 613 (pu_cpy (M.1 606) (M.1 613) 41 0 70)) 603 26 (M.1 606 2)) := W20.wr (fun w => (nb_nlit (by decide) (by decide)))
        refine nb_Gr ?_
        obtain ⟨p0_, p1_, p2_, p3_, p4_, p5_, p6_, p7_, p8_, H⟩ := H
        replace H := nb_Hw H
        refine nb_Wg (q_m_tellEvening_2 _ _ (by omega)) ?_
        have W25 : nb_Lay (nb_up (nb_wr (nb_up (nb_up (nb_wr (nb_wr (nb_wr M 603 0 0) 603 11 0) 603 25 ((M.1 606) 4)) 612 (pu_cpy (M.1 606) (M.1 612) 23 0 18)) 613 (pu_cpy (M.1 606) (M.1 613) 41 0 70)) 603 26 (M.1 606 2)) 609 (pu_eve (M.1 606) (pu_cpy (M.1 606) (M.1 612) 23 0 18) (pu_cpy (M.1 606) (M.1 613) 41 0 70) ((M.1 606) 4) (M.1 606 2) (pu_cpy (M.1 608) (M.1 609) 0 0 108))) := W24.up (fun i w => (nb_nnum (by decide) (by decide)))
        rw [show nb_R nb_P 134 0 [(20, 603)] [] (nb_wr (nb_up (nb_up (nb_wr (nb_wr (nb_wr M 603 0 0) 603 11 0) 603 25 ((M.1 606) 4)) 612 (pu_cpy (M.1 606) (M.1 612) 23 0 18)) 613 (pu_cpy (M.1 606) (M.1 613) 41 0 70)) 603 26 (M.1 606 2)) = some ([], nb_up (nb_wr (nb_up (nb_up (nb_wr (nb_wr (nb_wr M 603 0 0) 603 11 0) 603 25 ((M.1 606) 4)) 612 (pu_cpy (M.1 606) (M.1 612) 23 0 18)) 613 (pu_cpy (M.1 606) (M.1 613) 41 0 70)) 603 26 (M.1 606 2)) 609 (pu_eve (M.1 606) (pu_cpy (M.1 606) (M.1 612) 23 0 18) (pu_cpy (M.1 606) (M.1 613) 41 0 70) ((M.1 606) 4) (M.1 606 2) (pu_cpy (M.1 608) (M.1 609) 0 0 108))) from (sp_m_evening W24 (by first | assumption | omega | (simp [nb_wr_up, nb_up_1, nb_ud]; first | assumption | omega)) (by first | assumption | omega | (simp [nb_wr_up, nb_up_1, nb_ud]; first | assumption | omega)) (by first | assumption | omega | (simp [nb_wr_up, nb_up_1, nb_ud]; first | assumption | omega)) (by first | assumption | omega | (simp [nb_wr_up, nb_up_1, nb_ud]; first | assumption | omega)) (by first | assumption | omega | (simp [nb_wr_up, nb_up_1, nb_ud]; first | assumption | omega)) (by first | assumption | omega | (simp [nb_wr_up, nb_up_1, nb_ud]; first | assumption | omega)) (by first | assumption | omega | (simp [nb_wr_up, nb_up_1, nb_ud]; first | assumption | omega))).trans (by first | rfl | simp [nb_wr_up, nb_up_1, nb_up_up, nb_ud])]
        refine nb_Gp ?_
        show nb_W 150 3 [(20, 603)] [] (nb_up (nb_wr (nb_up (nb_up (nb_wr (nb_wr (nb_wr M 603 0 0) 603 11 0) 603 25 ((M.1 606) 4)) 612 (pu_cpy (M.1 606) (M.1 612) 23 0 18)) 613 (pu_cpy (M.1 606) (M.1 613) 41 0 70)) 603 26 (M.1 606 2)) 609 (pu_eve (M.1 606) (pu_cpy (M.1 606) (M.1 612) 23 0 18) (pu_cpy (M.1 606) (M.1 613) 41 0 70) ((M.1 606) 4) (M.1 606 2) (pu_cpy (M.1 608) (M.1 609) 0 0 108))) _
        refine nb_Wg (q_m_tellEvening_3 _ _) ?_
        refine nb_Gs ?_
        show nb_W 153 6 [(20, 603), (0, l1)] [] (nb_up (nb_wr (nb_up (nb_up (nb_wr (nb_wr (nb_wr M 603 0 0) 603 11 0) 603 25 ((M.1 606) 4)) 612 (pu_cpy (M.1 606) (M.1 612) 23 0 18)) 613 (pu_cpy (M.1 606) (M.1 613) 41 0 70)) 603 26 (M.1 606 2)) 609 (pu_eve (M.1 606) (pu_cpy (M.1 606) (M.1 612) 23 0 18) (pu_cpy (M.1 606) (M.1 613) 41 0 70) ((M.1 606) 4) (M.1 606 2) (pu_cpy (M.1 608) (M.1 609) 0 0 108))) _
        have E26 : nb_rd (nb_up (nb_wr (nb_up (nb_up (nb_wr (nb_wr (nb_wr M 603 0 0) 603 11 0) 603 25 ((M.1 606) 4)) 612 (pu_cpy (M.1 606) (M.1 612) 23 0 18)) 613 (pu_cpy (M.1 606) (M.1 613) 41 0 70)) 603 26 (M.1 606 2)) 609 (pu_eve (M.1 606) (pu_cpy (M.1 606) (M.1 612) 23 0 18) (pu_cpy (M.1 606) (M.1 613) 41 0 70) ((M.1 606) 4) (M.1 606 2) (pu_cpy (M.1 608) (M.1 609) 0 0 108))) 603 18 = 609 := W25.m18
        refine nb_Wg (q_m_whom_6 _ _ _ (by omega)) ?_
        simp only [E26]
        clear E26
        refine nb_Gb ?_
        have E27 : nb_mul 8 l1 = 8 * l1 := nb_mul_eq (by omega) (by omega)
        have E28 : nb_add 12 (8 * l1) = 12 + 8 * l1 := (nb_add_eq (x := 12) (y := 8 * l1) (by omega) (by omega)).trans (by omega)
        have E29 : nb_add (12 + 8 * l1) 6 = 12 + 8 * l1 + 6 := nb_add_eq (by omega) (by omega)
        have N30 : nb_ln (nb_up (nb_wr (nb_up (nb_up (nb_wr (nb_wr (nb_wr M 603 0 0) 603 11 0) 603 25 ((M.1 606) 4)) 612 (pu_cpy (M.1 606) (M.1 612) 23 0 18)) 613 (pu_cpy (M.1 606) (M.1 613) 41 0 70)) 603 26 (M.1 606 2)) 609 (pu_eve (M.1 606) (pu_cpy (M.1 606) (M.1 612) 23 0 18) (pu_cpy (M.1 606) (M.1 613) 41 0 70) ((M.1 606) 4) (M.1 606 2) (pu_cpy (M.1 608) (M.1 609) 0 0 108))) 609 = 108 := W25.lk (by decide) (by decide +kernel)
        have E31 : nb_rd (nb_up (nb_wr (nb_up (nb_up (nb_wr (nb_wr (nb_wr M 603 0 0) 603 11 0) 603 25 ((M.1 606) 4)) 612 (pu_cpy (M.1 606) (M.1 612) 23 0 18)) 613 (pu_cpy (M.1 606) (M.1 613) 41 0 70)) 603 26 (M.1 606 2)) 609 (pu_eve (M.1 606) (pu_cpy (M.1 606) (M.1 612) 23 0 18) (pu_cpy (M.1 606) (M.1 613) 41 0 70) ((M.1 606) 4) (M.1 606 2) (pu_cpy (M.1 608) (M.1 609) 0 0 108))) 609 (12 + 8 * l1 + 6) = (pu_eve (M.1 606) (pu_cpy (M.1 606) (M.1 612) 23 0 18) (pu_cpy (M.1 606) (M.1 613) 41 0 70) ((M.1 606) 4) (M.1 606 2) (pu_cpy (M.1 608) (M.1 609) 0 0 108)) (12 + 8 * l1 + 6) := nb_rdus _ _ _ _
        refine nb_Wg (q_m_its_0 _ _ _ _ (by omega) (by rw [E27, E28, E29]; first | done | omega) (by rw [E27, E28, E29, N30]; first | done | omega)) ?_
        simp only [E27, E28, E29, E31]
        clear E27 E28 E29 N30 E31
        refine nb_Gs ?_
        show nb_W 153 7 [(20, 603), (0, l1)] [(0, (pu_eve (M.1 606) (pu_cpy (M.1 606) (M.1 612) 23 0 18) (pu_cpy (M.1 606) (M.1 613) 41 0 70) ((M.1 606) 4) (M.1 606 2) (pu_cpy (M.1 608) (M.1 609) 0 0 108)) (12 + 8 * l1 + 6))] (nb_up (nb_wr (nb_up (nb_up (nb_wr (nb_wr (nb_wr M 603 0 0) 603 11 0) 603 25 ((M.1 606) 4)) 612 (pu_cpy (M.1 606) (M.1 612) 23 0 18)) 613 (pu_cpy (M.1 606) (M.1 613) 41 0 70)) 603 26 (M.1 606 2)) 609 (pu_eve (M.1 606) (pu_cpy (M.1 606) (M.1 612) 23 0 18) (pu_cpy (M.1 606) (M.1 613) 41 0 70) ((M.1 606) 4) (M.1 606 2) (pu_cpy (M.1 608) (M.1 609) 0 0 108))) _
        refine nb_Wg (q_m_whom_7 _ _ _ _) ?_
        refine nb_Gs ?_
        exact nb_Hu H W25

theorem w_m_has_0 {l1 : Int} {M : nb_M} {Q : List nb_V → nb_M → Prop} (W : nb_Lay M) (H : 0 ≤ M.1 603 14 ∧ M.1 603 14 ≤ 1 ∧ (M.1 603 14 = 0 → (nb_Lay (nb_wr (nb_wr (nb_wr M 603 0 0) 603 11 0) 603 11 1) → Q [(0, (-1))] (nb_wr (nb_wr (nb_wr M 603 0 0) 603 11 0) 603 11 1))) ∧ (M.1 603 14 ≠ 0 → 0 ≤ M.1 606 5 ∧ M.1 606 5 ≤ 10 ∧ (l1 < 0 → (nb_Lay (nb_wr (nb_wr (nb_wr M 603 0 0) 603 11 0) 603 11 1) → Q [(0, (-1))] (nb_wr (nb_wr (nb_wr M 603 0 0) 603 11 0) 603 11 1))) ∧ (0 ≤ l1 → (M.1 606 5 - 1 < l1 → (nb_Lay (nb_wr (nb_wr (nb_wr M 603 0 0) 603 11 0) 603 11 1) → Q [(0, (-1))] (nb_wr (nb_wr (nb_wr M 603 0 0) 603 11 0) 603 11 1))) ∧ (l1 ≤ M.1 606 5 - 1 → pu_Rr (M.1 606) ∧ pu_Rc (pu_cpy (M.1 606) (M.1 612) 23 0 18) ∧ pu_Rp (pu_cpy (M.1 606) (M.1 613) 41 0 70) ∧ pu_Rw (M.1 608) ∧ pu_Rk (M.1 608) ∧ 0 ≤ (M.1 606) 4 ∧ (M.1 606) 4 ≤ 4 ∧ 0 ≤ M.1 606 2 ∧ M.1 606 2 ≤ 9000 ∧ (nb_Lay (nb_up (nb_wr (nb_up (nb_up (nb_wr (nb_wr (nb_wr M 603 0 0) 603 11 0) 603 25 ((M.1 606) 4)) 612 (pu_cpy (M.1 606) (M.1 612) 23 0 18)) 613 (pu_cpy (M.1 606) (M.1 613) 41 0 70)) 603 26 (M.1 606 2)) 609 (pu_eve (M.1 606) (pu_cpy (M.1 606) (M.1 612) 23 0 18) (pu_cpy (M.1 606) (M.1 613) 41 0 70) ((M.1 606) 4) (M.1 606 2) (pu_cpy (M.1 608) (M.1 609) 0 0 108))) → Q [(0, (pu_eve (M.1 606) (pu_cpy (M.1 606) (M.1 612) 23 0 18) (pu_cpy (M.1 606) (M.1 613) 41 0 70) ((M.1 606) 4) (M.1 606 2) (pu_cpy (M.1 608) (M.1 609) 0 0 108)) (12 + 8 * l1 + 5))] (nb_up (nb_wr (nb_up (nb_up (nb_wr (nb_wr (nb_wr M 603 0 0) 603 11 0) 603 25 ((M.1 606) 4)) 612 (pu_cpy (M.1 606) (M.1 612) 23 0 18)) 613 (pu_cpy (M.1 606) (M.1 613) 41 0 70)) 603 26 (M.1 606 2)) 609 (pu_eve (M.1 606) (pu_cpy (M.1 606) (M.1 612) 23 0 18) (pu_cpy (M.1 606) (M.1 613) 41 0 70) ((M.1 606) 4) (M.1 606 2) (pu_cpy (M.1 608) (M.1 609) 0 0 108)))))))) :
    nb_W 154 0 [(20, 603), (0, l1)] [] M Q := by
  replace H := nb_Hw H
  refine nb_Wg (q_m_has_0 _ _ _ (by omega)) ?_
  refine nb_Gb ?_
  refine nb_Wg (q_m_good_0 _ _ (by omega)) ?_
  have W1 : nb_Lay (nb_wr M 603 0 0) := W.wr (fun w => (nb_nlit (by decide) (by decide)))
  refine nb_Gr ?_
  refine nb_Wg (q_m_good_1 _ _ (by omega)) ?_
  have W2 : nb_Lay (nb_wr (nb_wr M 603 0 0) 603 11 0) := W1.wr (fun w => (nb_nlit (by decide) (by decide)))
  refine nb_Gr ?_
  refine nb_Wg (q_m_good_2 _ _) ?_
  refine nb_Gs ?_
  show nb_W 154 1 [(20, 603), (0, l1)] [] (nb_wr (nb_wr M 603 0 0) 603 11 0) _
  refine nb_Wg (q_m_has_1 _ _ _ (by omega)) ?_
  refine nb_Gb ?_
  obtain ⟨p0_, p1_, H⟩ := H
  replace H := nb_Hw H
  have E3 : nb_rd (nb_wr (nb_wr M 603 0 0) 603 11 0) 603 14 = M.1 603 14 := nb_rdw (Or.inr (by decide)) (nb_rdw (Or.inr (by decide)) (nb_rd_1 _ _ _))
  refine nb_Wg (q_m_isPerson_0 _ _ _ (by omega)) ?_
  simp only [E3]
  clear E3
  refine nb_Gi (fun c34 => ?_) (fun c34 => ?_)
  · have H := nb_Hw ((nb_Hu H).1 c34)
    refine nb_Gr ?_
    refine nb_Wg (q_m_isPerson_4 _ _ _) ?_
    refine nb_Gr ?_
    have E4 : nb_i2z 0 = 0 := by decide
    refine nb_Wg (q_m_isPerson_5 _ _ _ _) ?_
    simp only [E4]
    clear E4
    refine nb_Gs ?_
    show nb_W 154 2 [(20, 603), (0, l1)] [(0, 0)] (nb_wr (nb_wr M 603 0 0) 603 11 0) _
    refine nb_Wg (q_m_has_2 _ _ _ _) ?_
    refine nb_Gt (by decide) ?_
    refine nb_Gr ?_
    refine nb_Wg (q_m_has_3 _ _ _ (by omega)) ?_
    refine nb_Gb ?_
    refine nb_Wg (q_m_no_0 _ _ _ (by omega)) ?_
    have W5 : nb_Lay (nb_wr (nb_wr (nb_wr M 603 0 0) 603 11 0) 603 11 1) := W2.wr (fun w => (nb_nlit (by decide) (by decide)))
    refine nb_Gr ?_
    refine nb_Wg (q_m_no_1 _ _ _) ?_
    refine nb_Gs ?_
    show nb_W 154 4 [(20, 603), (0, l1)] [(0, (-1))] (nb_wr (nb_wr (nb_wr M 603 0 0) 603 11 0) 603 11 1) _
    refine nb_Wg (q_m_has_4 _ _ _ _) ?_
    refine nb_Gs ?_
    exact nb_Hu H W5
  · have H := nb_Hw ((nb_Hu H).2 (by omega))
    have c34 : M.1 603 14 ≠ 0 := by omega
    refine nb_Gr ?_
    obtain ⟨p0_, p1_, H⟩ := H
    replace H := nb_Hw H
    have E6 : nb_rd (nb_wr (nb_wr M 603 0 0) 603 11 0) 603 15 = 606 := W2.m15
    have N7 : nb_ln (nb_wr (nb_wr M 603 0 0) 603 11 0) 606 = 347 := W2.lk (by decide) (by decide +kernel)
    have E8 : nb_rd (nb_wr (nb_wr M 603 0 0) 603 11 0) 606 5 = M.1 606 5 := nb_rdw (Or.inl (by decide)) (nb_rdw (Or.inl (by decide)) (nb_rd_1 _ _ _))
    have E9 : nb_sub (M.1 606 5) 1 = M.1 606 5 - 1 := nb_sub_eq (by omega) (by omega)
    refine nb_Wg (q_m_isPerson_1 _ _ _ (by omega) (by rw [E6]; first | done | omega) (by omega) (by rw [E6, N7]; first | done | omega)) ?_
    simp only [E6, E8, E9]
    clear E6 N7 E8 E9
    refine nb_Gb ?_
    refine nb_Wg (q_m_within_0 _ _ _ _) ?_
    refine nb_Gi (fun c33 => ?_) (fun c33 => ?_)
    · have H := nb_Hw ((nb_Hu H).1 c33)
      refine nb_Gr ?_
      refine nb_Wg (q_m_within_3 _ _ _ _) ?_
      refine nb_Gr ?_
      have E10 : nb_i2z 0 = 0 := by decide
      refine nb_Wg (q_m_within_4 _ _ _ _ _) ?_
      simp only [E10]
      clear E10
      refine nb_Gs ?_
      show nb_W 116 2 [(20, 603), (0, l1)] [(0, 0)] (nb_wr (nb_wr M 603 0 0) 603 11 0) _
      refine nb_Wg (q_m_isPerson_2 _ _ _ _) ?_
      refine nb_Gt (by decide) ?_
      refine nb_Gr ?_
      refine nb_Wg (q_m_isPerson_4 _ _ _) ?_
      refine nb_Gr ?_
      have E11 : nb_i2z 0 = 0 := by decide
      refine nb_Wg (q_m_isPerson_5 _ _ _ _) ?_
      simp only [E11]
      clear E11
      refine nb_Gs ?_
      show nb_W 154 2 [(20, 603), (0, l1)] [(0, 0)] (nb_wr (nb_wr M 603 0 0) 603 11 0) _
      refine nb_Wg (q_m_has_2 _ _ _ _) ?_
      refine nb_Gt (by decide) ?_
      refine nb_Gr ?_
      refine nb_Wg (q_m_has_3 _ _ _ (by omega)) ?_
      refine nb_Gb ?_
      refine nb_Wg (q_m_no_0 _ _ _ (by omega)) ?_
      have W12 : nb_Lay (nb_wr (nb_wr (nb_wr M 603 0 0) 603 11 0) 603 11 1) := W2.wr (fun w => (nb_nlit (by decide) (by decide)))
      refine nb_Gr ?_
      refine nb_Wg (q_m_no_1 _ _ _) ?_
      refine nb_Gs ?_
      show nb_W 154 4 [(20, 603), (0, l1)] [(0, (-1))] (nb_wr (nb_wr (nb_wr M 603 0 0) 603 11 0) 603 11 1) _
      refine nb_Wg (q_m_has_4 _ _ _ _) ?_
      refine nb_Gs ?_
      exact nb_Hu H W12
    · have H := nb_Hw ((nb_Hu H).2 (by omega))
      have c33 : 0 ≤ l1 := by omega
      refine nb_Gr ?_
      refine nb_Wg (q_m_within_1 _ _ _ _) ?_
      refine nb_Gi (fun c32 => ?_) (fun c32 => ?_)
      · have H := nb_Hw ((nb_Hu H).1 c32)
        refine nb_Gr ?_
        refine nb_Wg (q_m_within_3 _ _ _ _) ?_
        refine nb_Gr ?_
        have E13 : nb_i2z 0 = 0 := by decide
        refine nb_Wg (q_m_within_4 _ _ _ _ _) ?_
        simp only [E13]
        clear E13
        refine nb_Gs ?_
        show nb_W 116 2 [(20, 603), (0, l1)] [(0, 0)] (nb_wr (nb_wr M 603 0 0) 603 11 0) _
        refine nb_Wg (q_m_isPerson_2 _ _ _ _) ?_
        refine nb_Gt (by decide) ?_
        refine nb_Gr ?_
        refine nb_Wg (q_m_isPerson_4 _ _ _) ?_
        refine nb_Gr ?_
        have E14 : nb_i2z 0 = 0 := by decide
        refine nb_Wg (q_m_isPerson_5 _ _ _ _) ?_
        simp only [E14]
        clear E14
        refine nb_Gs ?_
        show nb_W 154 2 [(20, 603), (0, l1)] [(0, 0)] (nb_wr (nb_wr M 603 0 0) 603 11 0) _
        refine nb_Wg (q_m_has_2 _ _ _ _) ?_
        refine nb_Gt (by decide) ?_
        refine nb_Gr ?_
        refine nb_Wg (q_m_has_3 _ _ _ (by omega)) ?_
        refine nb_Gb ?_
        refine nb_Wg (q_m_no_0 _ _ _ (by omega)) ?_
        have W15 : nb_Lay (nb_wr (nb_wr (nb_wr M 603 0 0) 603 11 0) 603 11 1) := W2.wr (fun w => (nb_nlit (by decide) (by decide)))
        refine nb_Gr ?_
        refine nb_Wg (q_m_no_1 _ _ _) ?_
        refine nb_Gs ?_
        show nb_W 154 4 [(20, 603), (0, l1)] [(0, (-1))] (nb_wr (nb_wr (nb_wr M 603 0 0) 603 11 0) 603 11 1) _
        refine nb_Wg (q_m_has_4 _ _ _ _) ?_
        refine nb_Gs ?_
        exact nb_Hu H W15
      · have H := nb_Hw ((nb_Hu H).2 (by omega))
        have c32 : l1 ≤ M.1 606 5 - 1 := by omega
        refine nb_Gr ?_
        refine nb_Wg (q_m_within_2 _ _ _ _) ?_
        refine nb_Gr ?_
        have E16 : nb_i2z 1 = 1 := by decide
        refine nb_Wg (q_m_within_4 _ _ _ _ _) ?_
        simp only [E16]
        clear E16
        refine nb_Gs ?_
        show nb_W 116 2 [(20, 603), (0, l1)] [(0, 1)] (nb_wr (nb_wr M 603 0 0) 603 11 0) _
        refine nb_Wg (q_m_isPerson_2 _ _ _ _) ?_
        refine nb_Gf (by decide) ?_
        refine nb_Gr ?_
        refine nb_Wg (q_m_isPerson_3 _ _ _) ?_
        refine nb_Gr ?_
        have E17 : nb_i2z 1 = 1 := by decide
        refine nb_Wg (q_m_isPerson_5 _ _ _ _) ?_
        simp only [E17]
        clear E17
        refine nb_Gs ?_
        show nb_W 154 2 [(20, 603), (0, l1)] [(0, 1)] (nb_wr (nb_wr M 603 0 0) 603 11 0) _
        refine nb_Wg (q_m_has_2 _ _ _ _) ?_
        refine nb_Gf (by decide) ?_
        refine nb_Gr ?_
        refine nb_Wg (q_m_has_5 _ _ _ (by omega)) ?_
        refine nb_Gb ?_
        refine nb_Wg (q_m_tellEvening_0 _ _ (by omega)) ?_
        have W18 : nb_Lay (nb_wr (nb_wr (nb_wr M 603 0 0) 603 11 0) 603 25 ((M.1 606) 4)) := W2.wr (fun w => (nb_nlit (by decide) (by decide)))
        have W19 : nb_Lay (nb_up (nb_wr (nb_wr (nb_wr M 603 0 0) 603 11 0) 603 25 ((M.1 606) 4)) 612 (pu_cpy (M.1 606) (M.1 612) 23 0 18)) := W18.up (fun i w => (nb_nnum (by decide) (by decide)))
        have W20 : nb_Lay (nb_up (nb_up (nb_wr (nb_wr (nb_wr M 603 0 0) 603 11 0) 603 25 ((M.1 606) 4)) 612 (pu_cpy (M.1 606) (M.1 612) 23 0 18)) 613 (pu_cpy (M.1 606) (M.1 613) 41 0 70)) := W19.up (fun i w => (nb_nnum (by decide) (by decide)))
        rw [show nb_R nb_P 121 0 [(20, 603)] [] (nb_wr (nb_wr M 603 0 0) 603 11 0) = some ([], nb_up (nb_up (nb_wr (nb_wr (nb_wr M 603 0 0) 603 11 0) 603 25 ((M.1 606) 4)) 612 (pu_cpy (M.1 606) (M.1 612) 23 0 18)) 613 (pu_cpy (M.1 606) (M.1 613) 41 0 70)) from (sp_m_asTold W2).trans (by first | rfl | simp [nb_wr_up, nb_up_1, nb_up_up, nb_ud])]
        refine nb_Gp ?_
        show nb_W 150 1 [(20, 603)] [] (nb_up (nb_up (nb_wr (nb_wr (nb_wr M 603 0 0) 603 11 0) 603 25 ((M.1 606) 4)) 612 (pu_cpy (M.1 606) (M.1 612) 23 0 18)) 613 (pu_cpy (M.1 606) (M.1 613) 41 0 70)) _
        have E21 : nb_rd (nb_up (nb_up (nb_wr (nb_wr (nb_wr M 603 0 0) 603 11 0) 603 25 ((M.1 606) 4)) 612 (pu_cpy (M.1 606) (M.1 612) 23 0 18)) 613 (pu_cpy (M.1 606) (M.1 613) 41 0 70)) 603 15 = 606 := W20.m15
        have N22 : nb_ln (nb_up (nb_up (nb_wr (nb_wr (nb_wr M 603 0 0) 603 11 0) 603 25 ((M.1 606) 4)) 612 (pu_cpy (M.1 606) (M.1 612) 23 0 18)) 613 (pu_cpy (M.1 606) (M.1 613) 41 0 70)) 606 = 347 := W20.lk (by decide) (by decide +kernel)
        have E23 : nb_rd (nb_up (nb_up (nb_wr (nb_wr (nb_wr M 603 0 0) 603 11 0) 603 25 ((M.1 606) 4)) 612 (pu_cpy (M.1 606) (M.1 612) 23 0 18)) 613 (pu_cpy (M.1 606) (M.1 613) 41 0 70)) 606 2 = M.1 606 2 := nb_rdu (by decide) (nb_rdu (by decide) (nb_rdw (Or.inl (by decide)) (nb_rdw (Or.inl (by decide)) (nb_rdw (Or.inl (by decide)) (nb_rd_1 _ _ _)))))
        refine nb_Wg (q_m_tellEvening_1 _ _ (by omega) (by rw [E21]; first | done | omega) (by omega) (by rw [E21, N22]; first | done | omega)) ?_
        simp only [E21, E23]
        clear E21 N22 E23
        have W24 : nb_Lay (nb_wr (nb_up (nb_up (nb_wr (nb_wr (nb_wr M 603 0 0) 603 11 0) 603 25 ((M.1 606) 4)) 612 (pu_cpy (M.1 606) (M.1 612) 23 0 18)) 613 (pu_cpy (M.1 606) (M.1 613) 41 0 70)) 603 26 (M.1 606 2)) := W20.wr (fun w => (nb_nlit (by decide) (by decide)))
        refine nb_Gr ?_
        obtain ⟨p0_, p1_, p2_, p3_, p4_, p5_, p6_, p7_, p8_, H⟩ := H
        replace H := nb_Hw H
        refine nb_Wg (q_m_tellEvening_2 _ _ (by omega)) ?_
        have W25 : nb_Lay (nb_up (nb_wr (nb_up (nb_up (nb_wr (nb_wr (nb_wr M 603 0 0) 603 11 0) 603 25 ((M.1 606) 4)) 612 (pu_cpy (M.1 606) (M.1 612) 23 0 18)) 613 (pu_cpy (M.1 606) (M.1 613) 41 0 70)) 603 26 (M.1 606 2)) 609 (pu_eve (M.1 606) (pu_cpy (M.1 606) (M.1 612) 23 0 18) (pu_cpy (M.1 606) (M.1 613) 41 0 70) ((M.1 606) 4) (M.1 606 2) (pu_cpy (M.1 608) (M.1 609) 0 0 108))) := W24.up (fun i w => (nb_nnum (by decide) (by decide)))
        rw [show nb_R nb_P 134 0 [(20, 603)] [] (nb_wr (nb_up (nb_up (nb_wr (nb_wr (nb_wr M 603 0 0) 603 11 0) 603 25 ((M.1 606) 4)) 612 (pu_cpy (M.1 606) (M.1 612) 23 0 18)) 613 (pu_cpy (M.1 606) (M.1 613) 41 0 70)) 603 26 (M.1 606 2)) = some ([], nb_up (nb_wr (nb_up (nb_up (nb_wr (nb_wr (nb_wr M 603 0 0) 603 11 0) 603 25 ((M.1 606) 4)) 612 (pu_cpy (M.1 606) (M.1 612) 23 0 18)) 613 (pu_cpy (M.1 606) (M.1 613) 41 0 70)) 603 26 (M.1 606 2)) 609 (pu_eve (M.1 606) (pu_cpy (M.1 606) (M.1 612) 23 0 18) (pu_cpy (M.1 606) (M.1 613) 41 0 70) ((M.1 606) 4) (M.1 606 2) (pu_cpy (M.1 608) (M.1 609) 0 0 108))) from (sp_m_evening W24 (by first | assumption | omega | (simp [nb_wr_up, nb_up_1, nb_ud]; first | assumption | omega)) (by first | assumption | omega | (simp [nb_wr_up, nb_up_1, nb_ud]; first | assumption | omega)) (by first | assumption | omega | (simp [nb_wr_up, nb_up_1, nb_ud]; first | assumption | omega)) (by first | assumption | omega | (simp [nb_wr_up, nb_up_1, nb_ud]; first | assumption | omega)) (by first | assumption | omega | (simp [nb_wr_up, nb_up_1, nb_ud]; first | assumption | omega)) (by first | assumption | omega | (simp [nb_wr_up, nb_up_1, nb_ud]; first | assumption | omega)) (by first | assumption | omega | (simp [nb_wr_up, nb_up_1, nb_ud]; first | assumption | omega))).trans (by first | rfl | simp [nb_wr_up, nb_up_1, nb_up_up, nb_ud])]
        refine nb_Gp ?_
        show nb_W 150 3 [(20, 603)] [] (nb_up (nb_wr (nb_up (nb_up (nb_wr (nb_wr (nb_wr M 603 0 0) 603 11 0) 603 25 ((M.1 606) 4)) 612 (pu_cpy (M.1 606) (M.1 612) 23 0 18)) 613 (pu_cpy (M.1 606) (M.1 613) 41 0 70)) 603 26 (M.1 606 2)) 609 (pu_eve (M.1 606) (pu_cpy (M.1 606) (M.1 612) 23 0 18) (pu_cpy (M.1 606) (M.1 613) 41 0 70) ((M.1 606) 4) (M.1 606 2) (pu_cpy (M.1 608) (M.1 609) 0 0 108))) _
        refine nb_Wg (q_m_tellEvening_3 _ _) ?_
        refine nb_Gs ?_
        show nb_W 154 6 [(20, 603), (0, l1)] [] (nb_up (nb_wr (nb_up (nb_up (nb_wr (nb_wr (nb_wr M 603 0 0) 603 11 0) 603 25 ((M.1 606) 4)) 612 (pu_cpy (M.1 606) (M.1 612) 23 0 18)) 613 (pu_cpy (M.1 606) (M.1 613) 41 0 70)) 603 26 (M.1 606 2)) 609 (pu_eve (M.1 606) (pu_cpy (M.1 606) (M.1 612) 23 0 18) (pu_cpy (M.1 606) (M.1 613) 41 0 70) ((M.1 606) 4) (M.1 606 2) (pu_cpy (M.1 608) (M.1 609) 0 0 108))) _
        have E26 : nb_rd (nb_up (nb_wr (nb_up (nb_up (nb_wr (nb_wr (nb_wr M 603 0 0) 603 11 0) 603 25 ((M.1 606) 4)) 612 (pu_cpy (M.1 606) (M.1 612) 23 0 18)) 613 (pu_cpy (M.1 606) (M.1 613) 41 0 70)) 603 26 (M.1 606 2)) 609 (pu_eve (M.1 606) (pu_cpy (M.1 606) (M.1 612) 23 0 18) (pu_cpy (M.1 606) (M.1 613) 41 0 70) ((M.1 606) 4) (M.1 606 2) (pu_cpy (M.1 608) (M.1 609) 0 0 108))) 603 18 = 609 := W25.m18
        refine nb_Wg (q_m_has_6 _ _ _ (by omega)) ?_
        simp only [E26]
        clear E26
        refine nb_Gb ?_
        have E27 : nb_mul 8 l1 = 8 * l1 := nb_mul_eq (by omega) (by omega)
        have E28 : nb_add 12 (8 * l1) = 12 + 8 * l1 := (nb_add_eq (x := 12) (y := 8 * l1) (by omega) (by omega)).trans (by omega)
        have E29 : nb_add (12 + 8 * l1) 5 = 12 + 8 * l1 + 5 := nb_add_eq (by omega) (by omega)
        have N30 : nb_ln (nb_up (nb_wr (nb_up (nb_up (nb_wr (nb_wr (nb_wr M 603 0 0) 603 11 0) 603 25 ((M.1 606) 4)) 612 (pu_cpy (M.1 606) (M.1 612) 23 0 18)) 613 (pu_cpy (M.1 606) (M.1 613) 41 0 70)) 603 26 (M.1 606 2)) 609 (pu_eve (M.1 606) (pu_cpy (M.1 606) (M.1 612) 23 0 18) (pu_cpy (M.1 606) (M.1 613) 41 0 70) ((M.1 606) 4) (M.1 606 2) (pu_cpy (M.1 608) (M.1 609) 0 0 108))) 609 = 108 := W25.lk (by decide) (by decide +kernel)
        have E31 : nb_rd (nb_up (nb_wr (nb_up (nb_up (nb_wr (nb_wr (nb_wr M 603 0 0) 603 11 0) 603 25 ((M.1 606) 4)) 612 (pu_cpy (M.1 606) (M.1 612) 23 0 18)) 613 (pu_cpy (M.1 606) (M.1 613) 41 0 70)) 603 26 (M.1 606 2)) 609 (pu_eve (M.1 606) (pu_cpy (M.1 606) (M.1 612) 23 0 18) (pu_cpy (M.1 606) (M.1 613) 41 0 70) ((M.1 606) 4) (M.1 606 2) (pu_cpy (M.1 608) (M.1 609) 0 0 108))) 609 (12 + 8 * l1 + 5) = (pu_eve (M.1 606) (pu_cpy (M.1 606) (M.1 612) 23 0 18) (pu_cpy (M.1 606) (M.1 613) 41 0 70) ((M.1 606) 4) (M.1 606 2) (pu_cpy (M.1 608) (M.1 609) 0 0 108)) (12 + 8 * l1 + 5) := nb_rdus _ _ _ _
        refine nb_Wg (q_m_its_0 _ _ _ _ (by omega) (by rw [E27, E28, E29]; first | done | omega) (by rw [E27, E28, E29, N30]; first | done | omega)) ?_
        simp only [E27, E28, E29, E31]
        clear E27 E28 E29 N30 E31
        refine nb_Gs ?_
        show nb_W 154 7 [(20, 603), (0, l1)] [(0, (pu_eve (M.1 606) (pu_cpy (M.1 606) (M.1 612) 23 0 18) (pu_cpy (M.1 606) (M.1 613) 41 0 70) ((M.1 606) 4) (M.1 606 2) (pu_cpy (M.1 608) (M.1 609) 0 0 108)) (12 + 8 * l1 + 5))] (nb_up (nb_wr (nb_up (nb_up (nb_wr (nb_wr (nb_wr M 603 0 0) 603 11 0) 603 25 ((M.1 606) 4)) 612 (pu_cpy (M.1 606) (M.1 612) 23 0 18)) 613 (pu_cpy (M.1 606) (M.1 613) 41 0 70)) 603 26 (M.1 606 2)) 609 (pu_eve (M.1 606) (pu_cpy (M.1 606) (M.1 612) 23 0 18) (pu_cpy (M.1 606) (M.1 613) 41 0 70) ((M.1 606) 4) (M.1 606 2) (pu_cpy (M.1 608) (M.1 609) 0 0 108))) _
        refine nb_Wg (q_m_has_7 _ _ _ _) ?_
        refine nb_Gs ?_
        exact nb_Hu H W25

theorem w_m_passed_0 {l1 : Int} {M : nb_M} {Q : List nb_V → nb_M → Prop} (W : nb_Lay M) (H : 0 ≤ M.1 603 14 ∧ M.1 603 14 ≤ 1 ∧ (M.1 603 14 = 0 → (nb_Lay (nb_wr (nb_wr (nb_wr M 603 0 0) 603 11 0) 603 11 1) → Q [(0, (-1))] (nb_wr (nb_wr (nb_wr M 603 0 0) 603 11 0) 603 11 1))) ∧ (M.1 603 14 ≠ 0 → 0 ≤ M.1 606 5 ∧ M.1 606 5 ≤ 10 ∧ (l1 < 0 → (nb_Lay (nb_wr (nb_wr (nb_wr M 603 0 0) 603 11 0) 603 11 1) → Q [(0, (-1))] (nb_wr (nb_wr (nb_wr M 603 0 0) 603 11 0) 603 11 1))) ∧ (0 ≤ l1 → (M.1 606 5 - 1 < l1 → (nb_Lay (nb_wr (nb_wr (nb_wr M 603 0 0) 603 11 0) 603 11 1) → Q [(0, (-1))] (nb_wr (nb_wr (nb_wr M 603 0 0) 603 11 0) 603 11 1))) ∧ (l1 ≤ M.1 606 5 - 1 → pu_Rr (M.1 606) ∧ pu_Rc (pu_cpy (M.1 606) (M.1 612) 23 0 18) ∧ pu_Rp (pu_cpy (M.1 606) (M.1 613) 41 0 70) ∧ pu_Rw (M.1 608) ∧ pu_Rk (M.1 608) ∧ 0 ≤ (M.1 606) 4 ∧ (M.1 606) 4 ≤ 4 ∧ 0 ≤ M.1 606 2 ∧ M.1 606 2 ≤ 9000 ∧ l1 ≤ 9 ∧ pu_Rw (pu_eve (M.1 606) (pu_cpy (M.1 606) (M.1 612) 23 0 18) (pu_cpy (M.1 606) (M.1 613) 41 0 70) ((M.1 606) 4) (M.1 606 2) (pu_cpy (M.1 608) (M.1 609) 0 0 108)) ∧ (nb_Lay (nb_up (nb_wr (nb_up (nb_up (nb_wr (nb_wr (nb_wr M 603 0 0) 603 11 0) 603 25 ((M.1 606) 4)) 612 (pu_cpy (M.1 606) (M.1 612) 23 0 18)) 613 (pu_cpy (M.1 606) (M.1 613) 41 0 70)) 603 26 (M.1 606 2)) 609 (pu_eve (M.1 606) (pu_cpy (M.1 606) (M.1 612) 23 0 18) (pu_cpy (M.1 606) (M.1 613) 41 0 70) ((M.1 606) 4) (M.1 606 2) (pu_cpy (M.1 608) (M.1 609) 0 0 108))) → Q [(0, pu_pa (pu_cpy (M.1 606) (M.1 613) 41 0 70) (pu_eve (M.1 606) (pu_cpy (M.1 606) (M.1 612) 23 0 18) (pu_cpy (M.1 606) (M.1 613) 41 0 70) ((M.1 606) 4) (M.1 606 2) (pu_cpy (M.1 608) (M.1 609) 0 0 108)) l1)] (nb_up (nb_wr (nb_up (nb_up (nb_wr (nb_wr (nb_wr M 603 0 0) 603 11 0) 603 25 ((M.1 606) 4)) 612 (pu_cpy (M.1 606) (M.1 612) 23 0 18)) 613 (pu_cpy (M.1 606) (M.1 613) 41 0 70)) 603 26 (M.1 606 2)) 609 (pu_eve (M.1 606) (pu_cpy (M.1 606) (M.1 612) 23 0 18) (pu_cpy (M.1 606) (M.1 613) 41 0 70) ((M.1 606) 4) (M.1 606 2) (pu_cpy (M.1 608) (M.1 609) 0 0 108)))))))) :
    nb_W 155 0 [(20, 603), (0, l1)] [] M Q := by
  replace H := nb_Hw H
  refine nb_Wg (q_m_passed_0 _ _ _ (by omega)) ?_
  refine nb_Gb ?_
  refine nb_Wg (q_m_good_0 _ _ (by omega)) ?_
  have W1 : nb_Lay (nb_wr M 603 0 0) := W.wr (fun w => (nb_nlit (by decide) (by decide)))
  refine nb_Gr ?_
  refine nb_Wg (q_m_good_1 _ _ (by omega)) ?_
  have W2 : nb_Lay (nb_wr (nb_wr M 603 0 0) 603 11 0) := W1.wr (fun w => (nb_nlit (by decide) (by decide)))
  refine nb_Gr ?_
  refine nb_Wg (q_m_good_2 _ _) ?_
  refine nb_Gs ?_
  show nb_W 155 1 [(20, 603), (0, l1)] [] (nb_wr (nb_wr M 603 0 0) 603 11 0) _
  refine nb_Wg (q_m_passed_1 _ _ _ (by omega)) ?_
  refine nb_Gb ?_
  obtain ⟨p0_, p1_, H⟩ := H
  replace H := nb_Hw H
  have E3 : nb_rd (nb_wr (nb_wr M 603 0 0) 603 11 0) 603 14 = M.1 603 14 := nb_rdw (Or.inr (by decide)) (nb_rdw (Or.inr (by decide)) (nb_rd_1 _ _ _))
  refine nb_Wg (q_m_isPerson_0 _ _ _ (by omega)) ?_
  simp only [E3]
  clear E3
  refine nb_Gi (fun c28 => ?_) (fun c28 => ?_)
  · have H := nb_Hw ((nb_Hu H).1 c28)
    refine nb_Gr ?_
    refine nb_Wg (q_m_isPerson_4 _ _ _) ?_
    refine nb_Gr ?_
    have E4 : nb_i2z 0 = 0 := by decide
    refine nb_Wg (q_m_isPerson_5 _ _ _ _) ?_
    simp only [E4]
    clear E4
    refine nb_Gs ?_
    show nb_W 155 2 [(20, 603), (0, l1)] [(0, 0)] (nb_wr (nb_wr M 603 0 0) 603 11 0) _
    refine nb_Wg (q_m_passed_2 _ _ _ _) ?_
    refine nb_Gt (by decide) ?_
    refine nb_Gr ?_
    refine nb_Wg (q_m_passed_3 _ _ _ (by omega)) ?_
    refine nb_Gb ?_
    refine nb_Wg (q_m_no_0 _ _ _ (by omega)) ?_
    have W5 : nb_Lay (nb_wr (nb_wr (nb_wr M 603 0 0) 603 11 0) 603 11 1) := W2.wr (fun w => (nb_nlit (by decide) (by decide)))
    refine nb_Gr ?_
    refine nb_Wg (q_m_no_1 _ _ _) ?_
    refine nb_Gs ?_
    show nb_W 155 4 [(20, 603), (0, l1)] [(0, (-1))] (nb_wr (nb_wr (nb_wr M 603 0 0) 603 11 0) 603 11 1) _
    refine nb_Wg (q_m_passed_4 _ _ _ _) ?_
    refine nb_Gs ?_
    exact nb_Hu H W5
  · have H := nb_Hw ((nb_Hu H).2 (by omega))
    have c28 : M.1 603 14 ≠ 0 := by omega
    refine nb_Gr ?_
    obtain ⟨p0_, p1_, H⟩ := H
    replace H := nb_Hw H
    have E6 : nb_rd (nb_wr (nb_wr M 603 0 0) 603 11 0) 603 15 = 606 := W2.m15
    have N7 : nb_ln (nb_wr (nb_wr M 603 0 0) 603 11 0) 606 = 347 := W2.lk (by decide) (by decide +kernel)
    have E8 : nb_rd (nb_wr (nb_wr M 603 0 0) 603 11 0) 606 5 = M.1 606 5 := nb_rdw (Or.inl (by decide)) (nb_rdw (Or.inl (by decide)) (nb_rd_1 _ _ _))
    have E9 : nb_sub (M.1 606 5) 1 = M.1 606 5 - 1 := nb_sub_eq (by omega) (by omega)
    refine nb_Wg (q_m_isPerson_1 _ _ _ (by omega) (by rw [E6]; first | done | omega) (by omega) (by rw [E6, N7]; first | done | omega)) ?_
    simp only [E6, E8, E9]
    clear E6 N7 E8 E9
    refine nb_Gb ?_
    refine nb_Wg (q_m_within_0 _ _ _ _) ?_
    refine nb_Gi (fun c27 => ?_) (fun c27 => ?_)
    · have H := nb_Hw ((nb_Hu H).1 c27)
      refine nb_Gr ?_
      refine nb_Wg (q_m_within_3 _ _ _ _) ?_
      refine nb_Gr ?_
      have E10 : nb_i2z 0 = 0 := by decide
      refine nb_Wg (q_m_within_4 _ _ _ _ _) ?_
      simp only [E10]
      clear E10
      refine nb_Gs ?_
      show nb_W 116 2 [(20, 603), (0, l1)] [(0, 0)] (nb_wr (nb_wr M 603 0 0) 603 11 0) _
      refine nb_Wg (q_m_isPerson_2 _ _ _ _) ?_
      refine nb_Gt (by decide) ?_
      refine nb_Gr ?_
      refine nb_Wg (q_m_isPerson_4 _ _ _) ?_
      refine nb_Gr ?_
      have E11 : nb_i2z 0 = 0 := by decide
      refine nb_Wg (q_m_isPerson_5 _ _ _ _) ?_
      simp only [E11]
      clear E11
      refine nb_Gs ?_
      show nb_W 155 2 [(20, 603), (0, l1)] [(0, 0)] (nb_wr (nb_wr M 603 0 0) 603 11 0) _
      refine nb_Wg (q_m_passed_2 _ _ _ _) ?_
      refine nb_Gt (by decide) ?_
      refine nb_Gr ?_
      refine nb_Wg (q_m_passed_3 _ _ _ (by omega)) ?_
      refine nb_Gb ?_
      refine nb_Wg (q_m_no_0 _ _ _ (by omega)) ?_
      have W12 : nb_Lay (nb_wr (nb_wr (nb_wr M 603 0 0) 603 11 0) 603 11 1) := W2.wr (fun w => (nb_nlit (by decide) (by decide)))
      refine nb_Gr ?_
      refine nb_Wg (q_m_no_1 _ _ _) ?_
      refine nb_Gs ?_
      show nb_W 155 4 [(20, 603), (0, l1)] [(0, (-1))] (nb_wr (nb_wr (nb_wr M 603 0 0) 603 11 0) 603 11 1) _
      refine nb_Wg (q_m_passed_4 _ _ _ _) ?_
      refine nb_Gs ?_
      exact nb_Hu H W12
    · have H := nb_Hw ((nb_Hu H).2 (by omega))
      have c27 : 0 ≤ l1 := by omega
      refine nb_Gr ?_
      refine nb_Wg (q_m_within_1 _ _ _ _) ?_
      refine nb_Gi (fun c26 => ?_) (fun c26 => ?_)
      · have H := nb_Hw ((nb_Hu H).1 c26)
        refine nb_Gr ?_
        refine nb_Wg (q_m_within_3 _ _ _ _) ?_
        refine nb_Gr ?_
        have E13 : nb_i2z 0 = 0 := by decide
        refine nb_Wg (q_m_within_4 _ _ _ _ _) ?_
        simp only [E13]
        clear E13
        refine nb_Gs ?_
        show nb_W 116 2 [(20, 603), (0, l1)] [(0, 0)] (nb_wr (nb_wr M 603 0 0) 603 11 0) _
        refine nb_Wg (q_m_isPerson_2 _ _ _ _) ?_
        refine nb_Gt (by decide) ?_
        refine nb_Gr ?_
        refine nb_Wg (q_m_isPerson_4 _ _ _) ?_
        refine nb_Gr ?_
        have E14 : nb_i2z 0 = 0 := by decide
        refine nb_Wg (q_m_isPerson_5 _ _ _ _) ?_
        simp only [E14]
        clear E14
        refine nb_Gs ?_
        show nb_W 155 2 [(20, 603), (0, l1)] [(0, 0)] (nb_wr (nb_wr M 603 0 0) 603 11 0) _
        refine nb_Wg (q_m_passed_2 _ _ _ _) ?_
        refine nb_Gt (by decide) ?_
        refine nb_Gr ?_
        refine nb_Wg (q_m_passed_3 _ _ _ (by omega)) ?_
        refine nb_Gb ?_
        refine nb_Wg (q_m_no_0 _ _ _ (by omega)) ?_
        have W15 : nb_Lay (nb_wr (nb_wr (nb_wr M 603 0 0) 603 11 0) 603 11 1) := W2.wr (fun w => (nb_nlit (by decide) (by decide)))
        refine nb_Gr ?_
        refine nb_Wg (q_m_no_1 _ _ _) ?_
        refine nb_Gs ?_
        show nb_W 155 4 [(20, 603), (0, l1)] [(0, (-1))] (nb_wr (nb_wr (nb_wr M 603 0 0) 603 11 0) 603 11 1) _
        refine nb_Wg (q_m_passed_4 _ _ _ _) ?_
        refine nb_Gs ?_
        exact nb_Hu H W15
      · have H := nb_Hw ((nb_Hu H).2 (by omega))
        have c26 : l1 ≤ M.1 606 5 - 1 := by omega
        refine nb_Gr ?_
        refine nb_Wg (q_m_within_2 _ _ _ _) ?_
        refine nb_Gr ?_
        have E16 : nb_i2z 1 = 1 := by decide
        refine nb_Wg (q_m_within_4 _ _ _ _ _) ?_
        simp only [E16]
        clear E16
        refine nb_Gs ?_
        show nb_W 116 2 [(20, 603), (0, l1)] [(0, 1)] (nb_wr (nb_wr M 603 0 0) 603 11 0) _
        refine nb_Wg (q_m_isPerson_2 _ _ _ _) ?_
        refine nb_Gf (by decide) ?_
        refine nb_Gr ?_
        refine nb_Wg (q_m_isPerson_3 _ _ _) ?_
        refine nb_Gr ?_
        have E17 : nb_i2z 1 = 1 := by decide
        refine nb_Wg (q_m_isPerson_5 _ _ _ _) ?_
        simp only [E17]
        clear E17
        refine nb_Gs ?_
        show nb_W 155 2 [(20, 603), (0, l1)] [(0, 1)] (nb_wr (nb_wr M 603 0 0) 603 11 0) _
        refine nb_Wg (q_m_passed_2 _ _ _ _) ?_
        refine nb_Gf (by decide) ?_
        refine nb_Gr ?_
        refine nb_Wg (q_m_passed_5 _ _ _ (by omega)) ?_
        refine nb_Gb ?_
        refine nb_Wg (q_m_tellEvening_0 _ _ (by omega)) ?_
        have W18 : nb_Lay (nb_wr (nb_wr (nb_wr M 603 0 0) 603 11 0) 603 25 ((M.1 606) 4)) := W2.wr (fun w => (nb_nlit (by decide) (by decide)))
        have W19 : nb_Lay (nb_up (nb_wr (nb_wr (nb_wr M 603 0 0) 603 11 0) 603 25 ((M.1 606) 4)) 612 (pu_cpy (M.1 606) (M.1 612) 23 0 18)) := W18.up (fun i w => (nb_nnum (by decide) (by decide)))
        have W20 : nb_Lay (nb_up (nb_up (nb_wr (nb_wr (nb_wr M 603 0 0) 603 11 0) 603 25 ((M.1 606) 4)) 612 (pu_cpy (M.1 606) (M.1 612) 23 0 18)) 613 (pu_cpy (M.1 606) (M.1 613) 41 0 70)) := W19.up (fun i w => (nb_nnum (by decide) (by decide)))
        rw [show nb_R nb_P 121 0 [(20, 603)] [] (nb_wr (nb_wr M 603 0 0) 603 11 0) = some ([], nb_up (nb_up (nb_wr (nb_wr (nb_wr M 603 0 0) 603 11 0) 603 25 ((M.1 606) 4)) 612 (pu_cpy (M.1 606) (M.1 612) 23 0 18)) 613 (pu_cpy (M.1 606) (M.1 613) 41 0 70)) from (sp_m_asTold W2).trans (by first | rfl | simp [nb_wr_up, nb_up_1, nb_up_up, nb_ud])]
        refine nb_Gp ?_
        show nb_W 150 1 [(20, 603)] [] (nb_up (nb_up (nb_wr (nb_wr (nb_wr M 603 0 0) 603 11 0) 603 25 ((M.1 606) 4)) 612 (pu_cpy (M.1 606) (M.1 612) 23 0 18)) 613 (pu_cpy (M.1 606) (M.1 613) 41 0 70)) _
        have E21 : nb_rd (nb_up (nb_up (nb_wr (nb_wr (nb_wr M 603 0 0) 603 11 0) 603 25 ((M.1 606) 4)) 612 (pu_cpy (M.1 606) (M.1 612) 23 0 18)) 613 (pu_cpy (M.1 606) (M.1 613) 41 0 70)) 603 15 = 606 := W20.m15
        have N22 : nb_ln (nb_up (nb_up (nb_wr (nb_wr (nb_wr M 603 0 0) 603 11 0) 603 25 ((M.1 606) 4)) 612 (pu_cpy (M.1 606) (M.1 612) 23 0 18)) 613 (pu_cpy (M.1 606) (M.1 613) 41 0 70)) 606 = 347 := W20.lk (by decide) (by decide +kernel)
        have E23 : nb_rd (nb_up (nb_up (nb_wr (nb_wr (nb_wr M 603 0 0) 603 11 0) 603 25 ((M.1 606) 4)) 612 (pu_cpy (M.1 606) (M.1 612) 23 0 18)) 613 (pu_cpy (M.1 606) (M.1 613) 41 0 70)) 606 2 = M.1 606 2 := nb_rdu (by decide) (nb_rdu (by decide) (nb_rdw (Or.inl (by decide)) (nb_rdw (Or.inl (by decide)) (nb_rdw (Or.inl (by decide)) (nb_rd_1 _ _ _)))))
        refine nb_Wg (q_m_tellEvening_1 _ _ (by omega) (by rw [E21]; first | done | omega) (by omega) (by rw [E21, N22]; first | done | omega)) ?_
        simp only [E21, E23]
        clear E21 N22 E23
        have W24 : nb_Lay (nb_wr (nb_up (nb_up (nb_wr (nb_wr (nb_wr M 603 0 0) 603 11 0) 603 25 ((M.1 606) 4)) 612 (pu_cpy (M.1 606) (M.1 612) 23 0 18)) 613 (pu_cpy (M.1 606) (M.1 613) 41 0 70)) 603 26 (M.1 606 2)) := W20.wr (fun w => (nb_nlit (by decide) (by decide)))
        refine nb_Gr ?_
        obtain ⟨p0_, p1_, p2_, p3_, p4_, p5_, p6_, p7_, p8_, H⟩ := H
        replace H := nb_Hw H
        refine nb_Wg (q_m_tellEvening_2 _ _ (by omega)) ?_
        have W25 : nb_Lay (nb_up (nb_wr (nb_up (nb_up (nb_wr (nb_wr (nb_wr M 603 0 0) 603 11 0) 603 25 ((M.1 606) 4)) 612 (pu_cpy (M.1 606) (M.1 612) 23 0 18)) 613 (pu_cpy (M.1 606) (M.1 613) 41 0 70)) 603 26 (M.1 606 2)) 609 (pu_eve (M.1 606) (pu_cpy (M.1 606) (M.1 612) 23 0 18) (pu_cpy (M.1 606) (M.1 613) 41 0 70) ((M.1 606) 4) (M.1 606 2) (pu_cpy (M.1 608) (M.1 609) 0 0 108))) := W24.up (fun i w => (nb_nnum (by decide) (by decide)))
        rw [show nb_R nb_P 134 0 [(20, 603)] [] (nb_wr (nb_up (nb_up (nb_wr (nb_wr (nb_wr M 603 0 0) 603 11 0) 603 25 ((M.1 606) 4)) 612 (pu_cpy (M.1 606) (M.1 612) 23 0 18)) 613 (pu_cpy (M.1 606) (M.1 613) 41 0 70)) 603 26 (M.1 606 2)) = some ([], nb_up (nb_wr (nb_up (nb_up (nb_wr (nb_wr (nb_wr M 603 0 0) 603 11 0) 603 25 ((M.1 606) 4)) 612 (pu_cpy (M.1 606) (M.1 612) 23 0 18)) 613 (pu_cpy (M.1 606) (M.1 613) 41 0 70)) 603 26 (M.1 606 2)) 609 (pu_eve (M.1 606) (pu_cpy (M.1 606) (M.1 612) 23 0 18) (pu_cpy (M.1 606) (M.1 613) 41 0 70) ((M.1 606) 4) (M.1 606 2) (pu_cpy (M.1 608) (M.1 609) 0 0 108))) from (sp_m_evening W24 (by first | assumption | omega | (simp [nb_wr_up, nb_up_1, nb_ud]; first | assumption | omega)) (by first | assumption | omega | (simp [nb_wr_up, nb_up_1, nb_ud]; first | assumption | omega)) (by first | assumption | omega | (simp [nb_wr_up, nb_up_1, nb_ud]; first | assumption | omega)) (by first | assumption | omega | (simp [nb_wr_up, nb_up_1, nb_ud]; first | assumption | omega)) (by first | assumption | omega | (simp [nb_wr_up, nb_up_1, nb_ud]; first | assumption | omega)) (by first | assumption | omega | (simp [nb_wr_up, nb_up_1, nb_ud]; first | assumption | omega)) (by first | assumption | omega | (simp [nb_wr_up, nb_up_1, nb_ud]; first | assumption | omega))).trans (by first | rfl | simp [nb_wr_up, nb_up_1, nb_up_up, nb_ud])]
        refine nb_Gp ?_
        show nb_W 150 3 [(20, 603)] [] (nb_up (nb_wr (nb_up (nb_up (nb_wr (nb_wr (nb_wr M 603 0 0) 603 11 0) 603 25 ((M.1 606) 4)) 612 (pu_cpy (M.1 606) (M.1 612) 23 0 18)) 613 (pu_cpy (M.1 606) (M.1 613) 41 0 70)) 603 26 (M.1 606 2)) 609 (pu_eve (M.1 606) (pu_cpy (M.1 606) (M.1 612) 23 0 18) (pu_cpy (M.1 606) (M.1 613) 41 0 70) ((M.1 606) 4) (M.1 606 2) (pu_cpy (M.1 608) (M.1 609) 0 0 108))) _
        refine nb_Wg (q_m_tellEvening_3 _ _) ?_
        refine nb_Gs ?_
        show nb_W 155 6 [(20, 603), (0, l1)] [] (nb_up (nb_wr (nb_up (nb_up (nb_wr (nb_wr (nb_wr M 603 0 0) 603 11 0) 603 25 ((M.1 606) 4)) 612 (pu_cpy (M.1 606) (M.1 612) 23 0 18)) 613 (pu_cpy (M.1 606) (M.1 613) 41 0 70)) 603 26 (M.1 606 2)) 609 (pu_eve (M.1 606) (pu_cpy (M.1 606) (M.1 612) 23 0 18) (pu_cpy (M.1 606) (M.1 613) 41 0 70) ((M.1 606) 4) (M.1 606 2) (pu_cpy (M.1 608) (M.1 609) 0 0 108))) _
        obtain ⟨p0_, p1_, H⟩ := H
        replace H := nb_Hw H
        refine nb_Wg (q_m_passed_6 _ _ _ (by omega)) ?_
        rw [show nb_R nb_P 138 0 [(20, 603), (0, l1), (98, 0), (98, 0), (98, 0), (98, 0), (98, 0)] [] (nb_up (nb_wr (nb_up (nb_up (nb_wr (nb_wr (nb_wr M 603 0 0) 603 11 0) 603 25 ((M.1 606) 4)) 612 (pu_cpy (M.1 606) (M.1 612) 23 0 18)) 613 (pu_cpy (M.1 606) (M.1 613) 41 0 70)) 603 26 (M.1 606 2)) 609 (pu_eve (M.1 606) (pu_cpy (M.1 606) (M.1 612) 23 0 18) (pu_cpy (M.1 606) (M.1 613) 41 0 70) ((M.1 606) 4) (M.1 606 2) (pu_cpy (M.1 608) (M.1 609) 0 0 108))) = some ([(0, pu_pa (pu_cpy (M.1 606) (M.1 613) 41 0 70) (pu_eve (M.1 606) (pu_cpy (M.1 606) (M.1 612) 23 0 18) (pu_cpy (M.1 606) (M.1 613) 41 0 70) ((M.1 606) 4) (M.1 606 2) (pu_cpy (M.1 608) (M.1 609) 0 0 108)) l1)], nb_up (nb_wr (nb_up (nb_up (nb_wr (nb_wr (nb_wr M 603 0 0) 603 11 0) 603 25 ((M.1 606) 4)) 612 (pu_cpy (M.1 606) (M.1 612) 23 0 18)) 613 (pu_cpy (M.1 606) (M.1 613) 41 0 70)) 603 26 (M.1 606 2)) 609 (pu_eve (M.1 606) (pu_cpy (M.1 606) (M.1 612) 23 0 18) (pu_cpy (M.1 606) (M.1 613) 41 0 70) ((M.1 606) 4) (M.1 606 2) (pu_cpy (M.1 608) (M.1 609) 0 0 108))) from (sp_m_passedOf W25 (by first | assumption | omega | (simp [nb_wr_up, nb_up_1, nb_ud]; first | assumption | omega)) (by omega)).trans (by first | rfl | simp [nb_wr_up, nb_up_1, nb_up_up, nb_ud])]
        refine nb_Gp ?_
        show nb_W 155 7 [(20, 603), (0, l1)] [(0, pu_pa (pu_cpy (M.1 606) (M.1 613) 41 0 70) (pu_eve (M.1 606) (pu_cpy (M.1 606) (M.1 612) 23 0 18) (pu_cpy (M.1 606) (M.1 613) 41 0 70) ((M.1 606) 4) (M.1 606 2) (pu_cpy (M.1 608) (M.1 609) 0 0 108)) l1)] (nb_up (nb_wr (nb_up (nb_up (nb_wr (nb_wr (nb_wr M 603 0 0) 603 11 0) 603 25 ((M.1 606) 4)) 612 (pu_cpy (M.1 606) (M.1 612) 23 0 18)) 613 (pu_cpy (M.1 606) (M.1 613) 41 0 70)) 603 26 (M.1 606 2)) 609 (pu_eve (M.1 606) (pu_cpy (M.1 606) (M.1 612) 23 0 18) (pu_cpy (M.1 606) (M.1 613) 41 0 70) ((M.1 606) 4) (M.1 606 2) (pu_cpy (M.1 608) (M.1 609) 0 0 108))) _
        refine nb_Wg (q_m_passed_7 _ _ _ _) ?_
        refine nb_Gs ?_
        exact nb_Hu H W25

theorem w_m_pushed_0 {l1 : Int} {M : nb_M} {Q : List nb_V → nb_M → Prop} (W : nb_Lay M) (H : 0 ≤ M.1 603 14 ∧ M.1 603 14 ≤ 1 ∧ (M.1 603 14 = 0 → (nb_Lay (nb_wr (nb_wr (nb_wr M 603 0 0) 603 11 0) 603 11 1) → Q [(0, (-1))] (nb_wr (nb_wr (nb_wr M 603 0 0) 603 11 0) 603 11 1))) ∧ (M.1 603 14 ≠ 0 → 0 ≤ M.1 606 5 ∧ M.1 606 5 ≤ 10 ∧ (l1 < 0 → (nb_Lay (nb_wr (nb_wr (nb_wr M 603 0 0) 603 11 0) 603 11 1) → Q [(0, (-1))] (nb_wr (nb_wr (nb_wr M 603 0 0) 603 11 0) 603 11 1))) ∧ (0 ≤ l1 → (M.1 606 5 - 1 < l1 → (nb_Lay (nb_wr (nb_wr (nb_wr M 603 0 0) 603 11 0) 603 11 1) → Q [(0, (-1))] (nb_wr (nb_wr (nb_wr M 603 0 0) 603 11 0) 603 11 1))) ∧ (l1 ≤ M.1 606 5 - 1 → pu_Rr (M.1 606) ∧ pu_Rc (pu_cpy (M.1 606) (M.1 612) 23 0 18) ∧ pu_Rp (pu_cpy (M.1 606) (M.1 613) 41 0 70) ∧ pu_Rw (M.1 608) ∧ pu_Rk (M.1 608) ∧ 0 ≤ (M.1 606) 4 ∧ (M.1 606) 4 ≤ 4 ∧ 0 ≤ M.1 606 2 ∧ M.1 606 2 ≤ 9000 ∧ l1 ≤ 9 ∧ pu_Rw (pu_eve (M.1 606) (pu_cpy (M.1 606) (M.1 612) 23 0 18) (pu_cpy (M.1 606) (M.1 613) 41 0 70) ((M.1 606) 4) (M.1 606 2) (pu_cpy (M.1 608) (M.1 609) 0 0 108)) ∧ (nb_Lay (nb_up (nb_wr (nb_up (nb_up (nb_wr (nb_wr (nb_wr M 603 0 0) 603 11 0) 603 25 ((M.1 606) 4)) 612 (pu_cpy (M.1 606) (M.1 612) 23 0 18)) 613 (pu_cpy (M.1 606) (M.1 613) 41 0 70)) 603 26 (M.1 606 2)) 609 (pu_eve (M.1 606) (pu_cpy (M.1 606) (M.1 612) 23 0 18) (pu_cpy (M.1 606) (M.1 613) 41 0 70) ((M.1 606) 4) (M.1 606 2) (pu_cpy (M.1 608) (M.1 609) 0 0 108))) → Q [(0, pu_pu (pu_cpy (M.1 606) (M.1 613) 41 0 70) (pu_eve (M.1 606) (pu_cpy (M.1 606) (M.1 612) 23 0 18) (pu_cpy (M.1 606) (M.1 613) 41 0 70) ((M.1 606) 4) (M.1 606 2) (pu_cpy (M.1 608) (M.1 609) 0 0 108)) ((M.1 606) 5) l1)] (nb_up (nb_wr (nb_up (nb_up (nb_wr (nb_wr (nb_wr M 603 0 0) 603 11 0) 603 25 ((M.1 606) 4)) 612 (pu_cpy (M.1 606) (M.1 612) 23 0 18)) 613 (pu_cpy (M.1 606) (M.1 613) 41 0 70)) 603 26 (M.1 606 2)) 609 (pu_eve (M.1 606) (pu_cpy (M.1 606) (M.1 612) 23 0 18) (pu_cpy (M.1 606) (M.1 613) 41 0 70) ((M.1 606) 4) (M.1 606 2) (pu_cpy (M.1 608) (M.1 609) 0 0 108)))))))) :
    nb_W 156 0 [(20, 603), (0, l1)] [] M Q := by
  replace H := nb_Hw H
  refine nb_Wg (q_m_pushed_0 _ _ _ (by omega)) ?_
  refine nb_Gb ?_
  refine nb_Wg (q_m_good_0 _ _ (by omega)) ?_
  have W1 : nb_Lay (nb_wr M 603 0 0) := W.wr (fun w => (nb_nlit (by decide) (by decide)))
  refine nb_Gr ?_
  refine nb_Wg (q_m_good_1 _ _ (by omega)) ?_
  have W2 : nb_Lay (nb_wr (nb_wr M 603 0 0) 603 11 0) := W1.wr (fun w => (nb_nlit (by decide) (by decide)))
  refine nb_Gr ?_
  refine nb_Wg (q_m_good_2 _ _) ?_
  refine nb_Gs ?_
  show nb_W 156 1 [(20, 603), (0, l1)] [] (nb_wr (nb_wr M 603 0 0) 603 11 0) _
  refine nb_Wg (q_m_pushed_1 _ _ _ (by omega)) ?_
  refine nb_Gb ?_
  obtain ⟨p0_, p1_, H⟩ := H
  replace H := nb_Hw H
  have E3 : nb_rd (nb_wr (nb_wr M 603 0 0) 603 11 0) 603 14 = M.1 603 14 := nb_rdw (Or.inr (by decide)) (nb_rdw (Or.inr (by decide)) (nb_rd_1 _ _ _))
  refine nb_Wg (q_m_isPerson_0 _ _ _ (by omega)) ?_
  simp only [E3]
  clear E3
  refine nb_Gi (fun c28 => ?_) (fun c28 => ?_)
  · have H := nb_Hw ((nb_Hu H).1 c28)
    refine nb_Gr ?_
    refine nb_Wg (q_m_isPerson_4 _ _ _) ?_
    refine nb_Gr ?_
    have E4 : nb_i2z 0 = 0 := by decide
    refine nb_Wg (q_m_isPerson_5 _ _ _ _) ?_
    simp only [E4]
    clear E4
    refine nb_Gs ?_
    show nb_W 156 2 [(20, 603), (0, l1)] [(0, 0)] (nb_wr (nb_wr M 603 0 0) 603 11 0) _
    refine nb_Wg (q_m_pushed_2 _ _ _ _) ?_
    refine nb_Gt (by decide) ?_
    refine nb_Gr ?_
    refine nb_Wg (q_m_pushed_3 _ _ _ (by omega)) ?_
    refine nb_Gb ?_
    refine nb_Wg (q_m_no_0 _ _ _ (by omega)) ?_
    have W5 : nb_Lay (nb_wr (nb_wr (nb_wr M 603 0 0) 603 11 0) 603 11 1) := W2.wr (fun w => (nb_nlit (by decide) (by decide)))
    refine nb_Gr ?_
    refine nb_Wg (q_m_no_1 _ _ _) ?_
    refine nb_Gs ?_
    show nb_W 156 4 [(20, 603), (0, l1)] [(0, (-1))] (nb_wr (nb_wr (nb_wr M 603 0 0) 603 11 0) 603 11 1) _
    refine nb_Wg (q_m_pushed_4 _ _ _ _) ?_
    refine nb_Gs ?_
    exact nb_Hu H W5
  · have H := nb_Hw ((nb_Hu H).2 (by omega))
    have c28 : M.1 603 14 ≠ 0 := by omega
    refine nb_Gr ?_
    obtain ⟨p0_, p1_, H⟩ := H
    replace H := nb_Hw H
    have E6 : nb_rd (nb_wr (nb_wr M 603 0 0) 603 11 0) 603 15 = 606 := W2.m15
    have N7 : nb_ln (nb_wr (nb_wr M 603 0 0) 603 11 0) 606 = 347 := W2.lk (by decide) (by decide +kernel)
    have E8 : nb_rd (nb_wr (nb_wr M 603 0 0) 603 11 0) 606 5 = M.1 606 5 := nb_rdw (Or.inl (by decide)) (nb_rdw (Or.inl (by decide)) (nb_rd_1 _ _ _))
    have E9 : nb_sub (M.1 606 5) 1 = M.1 606 5 - 1 := nb_sub_eq (by omega) (by omega)
    refine nb_Wg (q_m_isPerson_1 _ _ _ (by omega) (by rw [E6]; first | done | omega) (by omega) (by rw [E6, N7]; first | done | omega)) ?_
    simp only [E6, E8, E9]
    clear E6 N7 E8 E9
    refine nb_Gb ?_
    refine nb_Wg (q_m_within_0 _ _ _ _) ?_
    refine nb_Gi (fun c27 => ?_) (fun c27 => ?_)
    · have H := nb_Hw ((nb_Hu H).1 c27)
      refine nb_Gr ?_
      refine nb_Wg (q_m_within_3 _ _ _ _) ?_
      refine nb_Gr ?_
      have E10 : nb_i2z 0 = 0 := by decide
      refine nb_Wg (q_m_within_4 _ _ _ _ _) ?_
      simp only [E10]
      clear E10
      refine nb_Gs ?_
      show nb_W 116 2 [(20, 603), (0, l1)] [(0, 0)] (nb_wr (nb_wr M 603 0 0) 603 11 0) _
      refine nb_Wg (q_m_isPerson_2 _ _ _ _) ?_
      refine nb_Gt (by decide) ?_
      refine nb_Gr ?_
      refine nb_Wg (q_m_isPerson_4 _ _ _) ?_
      refine nb_Gr ?_
      have E11 : nb_i2z 0 = 0 := by decide
      refine nb_Wg (q_m_isPerson_5 _ _ _ _) ?_
      simp only [E11]
      clear E11
      refine nb_Gs ?_
      show nb_W 156 2 [(20, 603), (0, l1)] [(0, 0)] (nb_wr (nb_wr M 603 0 0) 603 11 0) _
      refine nb_Wg (q_m_pushed_2 _ _ _ _) ?_
      refine nb_Gt (by decide) ?_
      refine nb_Gr ?_
      refine nb_Wg (q_m_pushed_3 _ _ _ (by omega)) ?_
      refine nb_Gb ?_
      refine nb_Wg (q_m_no_0 _ _ _ (by omega)) ?_
      have W12 : nb_Lay (nb_wr (nb_wr (nb_wr M 603 0 0) 603 11 0) 603 11 1) := W2.wr (fun w => (nb_nlit (by decide) (by decide)))
      refine nb_Gr ?_
      refine nb_Wg (q_m_no_1 _ _ _) ?_
      refine nb_Gs ?_
      show nb_W 156 4 [(20, 603), (0, l1)] [(0, (-1))] (nb_wr (nb_wr (nb_wr M 603 0 0) 603 11 0) 603 11 1) _
      refine nb_Wg (q_m_pushed_4 _ _ _ _) ?_
      refine nb_Gs ?_
      exact nb_Hu H W12
    · have H := nb_Hw ((nb_Hu H).2 (by omega))
      have c27 : 0 ≤ l1 := by omega
      refine nb_Gr ?_
      refine nb_Wg (q_m_within_1 _ _ _ _) ?_
      refine nb_Gi (fun c26 => ?_) (fun c26 => ?_)
      · have H := nb_Hw ((nb_Hu H).1 c26)
        refine nb_Gr ?_
        refine nb_Wg (q_m_within_3 _ _ _ _) ?_
        refine nb_Gr ?_
        have E13 : nb_i2z 0 = 0 := by decide
        refine nb_Wg (q_m_within_4 _ _ _ _ _) ?_
        simp only [E13]
        clear E13
        refine nb_Gs ?_
        show nb_W 116 2 [(20, 603), (0, l1)] [(0, 0)] (nb_wr (nb_wr M 603 0 0) 603 11 0) _
        refine nb_Wg (q_m_isPerson_2 _ _ _ _) ?_
        refine nb_Gt (by decide) ?_
        refine nb_Gr ?_
        refine nb_Wg (q_m_isPerson_4 _ _ _) ?_
        refine nb_Gr ?_
        have E14 : nb_i2z 0 = 0 := by decide
        refine nb_Wg (q_m_isPerson_5 _ _ _ _) ?_
        simp only [E14]
        clear E14
        refine nb_Gs ?_
        show nb_W 156 2 [(20, 603), (0, l1)] [(0, 0)] (nb_wr (nb_wr M 603 0 0) 603 11 0) _
        refine nb_Wg (q_m_pushed_2 _ _ _ _) ?_
        refine nb_Gt (by decide) ?_
        refine nb_Gr ?_
        refine nb_Wg (q_m_pushed_3 _ _ _ (by omega)) ?_
        refine nb_Gb ?_
        refine nb_Wg (q_m_no_0 _ _ _ (by omega)) ?_
        have W15 : nb_Lay (nb_wr (nb_wr (nb_wr M 603 0 0) 603 11 0) 603 11 1) := W2.wr (fun w => (nb_nlit (by decide) (by decide)))
        refine nb_Gr ?_
        refine nb_Wg (q_m_no_1 _ _ _) ?_
        refine nb_Gs ?_
        show nb_W 156 4 [(20, 603), (0, l1)] [(0, (-1))] (nb_wr (nb_wr (nb_wr M 603 0 0) 603 11 0) 603 11 1) _
        refine nb_Wg (q_m_pushed_4 _ _ _ _) ?_
        refine nb_Gs ?_
        exact nb_Hu H W15
      · have H := nb_Hw ((nb_Hu H).2 (by omega))
        have c26 : l1 ≤ M.1 606 5 - 1 := by omega
        refine nb_Gr ?_
        refine nb_Wg (q_m_within_2 _ _ _ _) ?_
        refine nb_Gr ?_
        have E16 : nb_i2z 1 = 1 := by decide
        refine nb_Wg (q_m_within_4 _ _ _ _ _) ?_
        simp only [E16]
        clear E16
        refine nb_Gs ?_
        show nb_W 116 2 [(20, 603), (0, l1)] [(0, 1)] (nb_wr (nb_wr M 603 0 0) 603 11 0) _
        refine nb_Wg (q_m_isPerson_2 _ _ _ _) ?_
        refine nb_Gf (by decide) ?_
        refine nb_Gr ?_
        refine nb_Wg (q_m_isPerson_3 _ _ _) ?_
        refine nb_Gr ?_
        have E17 : nb_i2z 1 = 1 := by decide
        refine nb_Wg (q_m_isPerson_5 _ _ _ _) ?_
        simp only [E17]
        clear E17
        refine nb_Gs ?_
        show nb_W 156 2 [(20, 603), (0, l1)] [(0, 1)] (nb_wr (nb_wr M 603 0 0) 603 11 0) _
        refine nb_Wg (q_m_pushed_2 _ _ _ _) ?_
        refine nb_Gf (by decide) ?_
        refine nb_Gr ?_
        refine nb_Wg (q_m_pushed_5 _ _ _ (by omega)) ?_
        refine nb_Gb ?_
        refine nb_Wg (q_m_tellEvening_0 _ _ (by omega)) ?_
        have W18 : nb_Lay (nb_wr (nb_wr (nb_wr M 603 0 0) 603 11 0) 603 25 ((M.1 606) 4)) := W2.wr (fun w => (nb_nlit (by decide) (by decide)))
        have W19 : nb_Lay (nb_up (nb_wr (nb_wr (nb_wr M 603 0 0) 603 11 0) 603 25 ((M.1 606) 4)) 612 (pu_cpy (M.1 606) (M.1 612) 23 0 18)) := W18.up (fun i w => (nb_nnum (by decide) (by decide)))
        have W20 : nb_Lay (nb_up (nb_up (nb_wr (nb_wr (nb_wr M 603 0 0) 603 11 0) 603 25 ((M.1 606) 4)) 612 (pu_cpy (M.1 606) (M.1 612) 23 0 18)) 613 (pu_cpy (M.1 606) (M.1 613) 41 0 70)) := W19.up (fun i w => (nb_nnum (by decide) (by decide)))
        rw [show nb_R nb_P 121 0 [(20, 603)] [] (nb_wr (nb_wr M 603 0 0) 603 11 0) = some ([], nb_up (nb_up (nb_wr (nb_wr (nb_wr M 603 0 0) 603 11 0) 603 25 ((M.1 606) 4)) 612 (pu_cpy (M.1 606) (M.1 612) 23 0 18)) 613 (pu_cpy (M.1 606) (M.1 613) 41 0 70)) from (sp_m_asTold W2).trans (by first | rfl | simp [nb_wr_up, nb_up_1, nb_up_up, nb_ud])]
        refine nb_Gp ?_
        show nb_W 150 1 [(20, 603)] [] (nb_up (nb_up (nb_wr (nb_wr (nb_wr M 603 0 0) 603 11 0) 603 25 ((M.1 606) 4)) 612 (pu_cpy (M.1 606) (M.1 612) 23 0 18)) 613 (pu_cpy (M.1 606) (M.1 613) 41 0 70)) _
        have E21 : nb_rd (nb_up (nb_up (nb_wr (nb_wr (nb_wr M 603 0 0) 603 11 0) 603 25 ((M.1 606) 4)) 612 (pu_cpy (M.1 606) (M.1 612) 23 0 18)) 613 (pu_cpy (M.1 606) (M.1 613) 41 0 70)) 603 15 = 606 := W20.m15
        have N22 : nb_ln (nb_up (nb_up (nb_wr (nb_wr (nb_wr M 603 0 0) 603 11 0) 603 25 ((M.1 606) 4)) 612 (pu_cpy (M.1 606) (M.1 612) 23 0 18)) 613 (pu_cpy (M.1 606) (M.1 613) 41 0 70)) 606 = 347 := W20.lk (by decide) (by decide +kernel)
        have E23 : nb_rd (nb_up (nb_up (nb_wr (nb_wr (nb_wr M 603 0 0) 603 11 0) 603 25 ((M.1 606) 4)) 612 (pu_cpy (M.1 606) (M.1 612) 23 0 18)) 613 (pu_cpy (M.1 606) (M.1 613) 41 0 70)) 606 2 = M.1 606 2 := nb_rdu (by decide) (nb_rdu (by decide) (nb_rdw (Or.inl (by decide)) (nb_rdw (Or.inl (by decide)) (nb_rdw (Or.inl (by decide)) (nb_rd_1 _ _ _)))))
        refine nb_Wg (q_m_tellEvening_1 _ _ (by omega) (by rw [E21]; first | done | omega) (by omega) (by rw [E21, N22]; first | done | omega)) ?_
        simp only [E21, E23]
        clear E21 N22 E23
        have W24 : nb_Lay (nb_wr (nb_up (nb_up (nb_wr (nb_wr (nb_wr M 603 0 0) 603 11 0) 603 25 ((M.1 606) 4)) 612 (pu_cpy (M.1 606) (M.1 612) 23 0 18)) 613 (pu_cpy (M.1 606) (M.1 613) 41 0 70)) 603 26 (M.1 606 2)) := W20.wr (fun w => (nb_nlit (by decide) (by decide)))
        refine nb_Gr ?_
        obtain ⟨p0_, p1_, p2_, p3_, p4_, p5_, p6_, p7_, p8_, H⟩ := H
        replace H := nb_Hw H
        refine nb_Wg (q_m_tellEvening_2 _ _ (by omega)) ?_
        have W25 : nb_Lay (nb_up (nb_wr (nb_up (nb_up (nb_wr (nb_wr (nb_wr M 603 0 0) 603 11 0) 603 25 ((M.1 606) 4)) 612 (pu_cpy (M.1 606) (M.1 612) 23 0 18)) 613 (pu_cpy (M.1 606) (M.1 613) 41 0 70)) 603 26 (M.1 606 2)) 609 (pu_eve (M.1 606) (pu_cpy (M.1 606) (M.1 612) 23 0 18) (pu_cpy (M.1 606) (M.1 613) 41 0 70) ((M.1 606) 4) (M.1 606 2) (pu_cpy (M.1 608) (M.1 609) 0 0 108))) := W24.up (fun i w => (nb_nnum (by decide) (by decide)))
        rw [show nb_R nb_P 134 0 [(20, 603)] [] (nb_wr (nb_up (nb_up (nb_wr (nb_wr (nb_wr M 603 0 0) 603 11 0) 603 25 ((M.1 606) 4)) 612 (pu_cpy (M.1 606) (M.1 612) 23 0 18)) 613 (pu_cpy (M.1 606) (M.1 613) 41 0 70)) 603 26 (M.1 606 2)) = some ([], nb_up (nb_wr (nb_up (nb_up (nb_wr (nb_wr (nb_wr M 603 0 0) 603 11 0) 603 25 ((M.1 606) 4)) 612 (pu_cpy (M.1 606) (M.1 612) 23 0 18)) 613 (pu_cpy (M.1 606) (M.1 613) 41 0 70)) 603 26 (M.1 606 2)) 609 (pu_eve (M.1 606) (pu_cpy (M.1 606) (M.1 612) 23 0 18) (pu_cpy (M.1 606) (M.1 613) 41 0 70) ((M.1 606) 4) (M.1 606 2) (pu_cpy (M.1 608) (M.1 609) 0 0 108))) from (sp_m_evening W24 (by first | assumption | omega | (simp [nb_wr_up, nb_up_1, nb_ud]; first | assumption | omega)) (by first | assumption | omega | (simp [nb_wr_up, nb_up_1, nb_ud]; first | assumption | omega)) (by first | assumption | omega | (simp [nb_wr_up, nb_up_1, nb_ud]; first | assumption | omega)) (by first | assumption | omega | (simp [nb_wr_up, nb_up_1, nb_ud]; first | assumption | omega)) (by first | assumption | omega | (simp [nb_wr_up, nb_up_1, nb_ud]; first | assumption | omega)) (by first | assumption | omega | (simp [nb_wr_up, nb_up_1, nb_ud]; first | assumption | omega)) (by first | assumption | omega | (simp [nb_wr_up, nb_up_1, nb_ud]; first | assumption | omega))).trans (by first | rfl | simp [nb_wr_up, nb_up_1, nb_up_up, nb_ud])]
        refine nb_Gp ?_
        show nb_W 150 3 [(20, 603)] [] (nb_up (nb_wr (nb_up (nb_up (nb_wr (nb_wr (nb_wr M 603 0 0) 603 11 0) 603 25 ((M.1 606) 4)) 612 (pu_cpy (M.1 606) (M.1 612) 23 0 18)) 613 (pu_cpy (M.1 606) (M.1 613) 41 0 70)) 603 26 (M.1 606 2)) 609 (pu_eve (M.1 606) (pu_cpy (M.1 606) (M.1 612) 23 0 18) (pu_cpy (M.1 606) (M.1 613) 41 0 70) ((M.1 606) 4) (M.1 606 2) (pu_cpy (M.1 608) (M.1 609) 0 0 108))) _
        refine nb_Wg (q_m_tellEvening_3 _ _) ?_
        refine nb_Gs ?_
        show nb_W 156 6 [(20, 603), (0, l1)] [] (nb_up (nb_wr (nb_up (nb_up (nb_wr (nb_wr (nb_wr M 603 0 0) 603 11 0) 603 25 ((M.1 606) 4)) 612 (pu_cpy (M.1 606) (M.1 612) 23 0 18)) 613 (pu_cpy (M.1 606) (M.1 613) 41 0 70)) 603 26 (M.1 606 2)) 609 (pu_eve (M.1 606) (pu_cpy (M.1 606) (M.1 612) 23 0 18) (pu_cpy (M.1 606) (M.1 613) 41 0 70) ((M.1 606) 4) (M.1 606 2) (pu_cpy (M.1 608) (M.1 609) 0 0 108))) _
        obtain ⟨p0_, p1_, H⟩ := H
        replace H := nb_Hw H
        refine nb_Wg (q_m_pushed_6 _ _ _ (by omega)) ?_
        rw [show nb_R nb_P 139 0 [(20, 603), (0, l1), (98, 0), (98, 0)] [] (nb_up (nb_wr (nb_up (nb_up (nb_wr (nb_wr (nb_wr M 603 0 0) 603 11 0) 603 25 ((M.1 606) 4)) 612 (pu_cpy (M.1 606) (M.1 612) 23 0 18)) 613 (pu_cpy (M.1 606) (M.1 613) 41 0 70)) 603 26 (M.1 606 2)) 609 (pu_eve (M.1 606) (pu_cpy (M.1 606) (M.1 612) 23 0 18) (pu_cpy (M.1 606) (M.1 613) 41 0 70) ((M.1 606) 4) (M.1 606 2) (pu_cpy (M.1 608) (M.1 609) 0 0 108))) = some ([(0, pu_pu (pu_cpy (M.1 606) (M.1 613) 41 0 70) (pu_eve (M.1 606) (pu_cpy (M.1 606) (M.1 612) 23 0 18) (pu_cpy (M.1 606) (M.1 613) 41 0 70) ((M.1 606) 4) (M.1 606 2) (pu_cpy (M.1 608) (M.1 609) 0 0 108)) ((M.1 606) 5) l1)], nb_up (nb_wr (nb_up (nb_up (nb_wr (nb_wr (nb_wr M 603 0 0) 603 11 0) 603 25 ((M.1 606) 4)) 612 (pu_cpy (M.1 606) (M.1 612) 23 0 18)) 613 (pu_cpy (M.1 606) (M.1 613) 41 0 70)) 603 26 (M.1 606 2)) 609 (pu_eve (M.1 606) (pu_cpy (M.1 606) (M.1 612) 23 0 18) (pu_cpy (M.1 606) (M.1 613) 41 0 70) ((M.1 606) 4) (M.1 606 2) (pu_cpy (M.1 608) (M.1 609) 0 0 108))) from (sp_m_pushedOf W25 (by first | assumption | omega | (simp [nb_wr_up, nb_up_1, nb_ud]; first | assumption | omega)) (by first | assumption | omega | (simp [nb_wr_up, nb_up_1, nb_ud]; first | assumption | omega)) (by omega)).trans (by first | rfl | simp [nb_wr_up, nb_up_1, nb_up_up, nb_ud])]
        refine nb_Gp ?_
        show nb_W 156 7 [(20, 603), (0, l1)] [(0, pu_pu (pu_cpy (M.1 606) (M.1 613) 41 0 70) (pu_eve (M.1 606) (pu_cpy (M.1 606) (M.1 612) 23 0 18) (pu_cpy (M.1 606) (M.1 613) 41 0 70) ((M.1 606) 4) (M.1 606 2) (pu_cpy (M.1 608) (M.1 609) 0 0 108)) ((M.1 606) 5) l1)] (nb_up (nb_wr (nb_up (nb_up (nb_wr (nb_wr (nb_wr M 603 0 0) 603 11 0) 603 25 ((M.1 606) 4)) 612 (pu_cpy (M.1 606) (M.1 612) 23 0 18)) 613 (pu_cpy (M.1 606) (M.1 613) 41 0 70)) 603 26 (M.1 606 2)) 609 (pu_eve (M.1 606) (pu_cpy (M.1 606) (M.1 612) 23 0 18) (pu_cpy (M.1 606) (M.1 613) 41 0 70) ((M.1 606) 4) (M.1 606 2) (pu_cpy (M.1 608) (M.1 609) 0 0 108))) _
        refine nb_Wg (q_m_pushed_7 _ _ _ _) ?_
        refine nb_Gs ?_
        exact nb_Hu H W25

theorem w_m_sum_0 {l1 : Int} {M : nb_M} {Q : List nb_V → nb_M → Prop} (W : nb_Lay M) (H : 0 ≤ M.1 603 14 ∧ M.1 603 14 ≤ 1 ∧ (M.1 603 14 = 0 → (nb_Lay (nb_wr (nb_wr (nb_wr M 603 0 0) 603 11 0) 603 11 1) → Q [(0, (-1))] (nb_wr (nb_wr (nb_wr M 603 0 0) 603 11 0) 603 11 1))) ∧ (M.1 603 14 ≠ 0 → (l1 < 0 → (nb_Lay (nb_wr (nb_wr (nb_wr M 603 0 0) 603 11 0) 603 11 1) → Q [(0, (-1))] (nb_wr (nb_wr (nb_wr M 603 0 0) 603 11 0) 603 11 1))) ∧ (0 ≤ l1 → (5 < l1 → (nb_Lay (nb_wr (nb_wr (nb_wr M 603 0 0) 603 11 0) 603 11 1) → Q [(0, (-1))] (nb_wr (nb_wr (nb_wr M 603 0 0) 603 11 0) 603 11 1))) ∧ (l1 ≤ 5 → pu_Rr (M.1 606) ∧ pu_Rc (pu_cpy (M.1 606) (M.1 612) 23 0 18) ∧ pu_Rp (pu_cpy (M.1 606) (M.1 613) 41 0 70) ∧ pu_Rw (M.1 608) ∧ pu_Rk (M.1 608) ∧ 0 ≤ (M.1 606) 4 ∧ (M.1 606) 4 ≤ 4 ∧ 0 ≤ M.1 606 2 ∧ M.1 606 2 ≤ 9000 ∧ pu_Rw (pu_eve (M.1 606) (pu_cpy (M.1 606) (M.1 612) 23 0 18) (pu_cpy (M.1 606) (M.1 613) 41 0 70) ((M.1 606) 4) (M.1 606 2) (pu_cpy (M.1 608) (M.1 609) 0 0 108)) ∧ 0 ≤ (M.1 606 2) ∧ (M.1 606 2) ≤ 9000 ∧ (nb_Lay (nb_up (nb_wr (nb_up (nb_up (nb_wr (nb_wr (nb_wr M 603 0 0) 603 11 0) 603 25 ((M.1 606) 4)) 612 (pu_cpy (M.1 606) (M.1 612) 23 0 18)) 613 (pu_cpy (M.1 606) (M.1 613) 41 0 70)) 603 26 (M.1 606 2)) 609 (pu_eve (M.1 606) (pu_cpy (M.1 606) (M.1 612) 23 0 18) (pu_cpy (M.1 606) (M.1 613) 41 0 70) ((M.1 606) 4) (M.1 606 2) (pu_cpy (M.1 608) (M.1 609) 0 0 108))) → Q [(0, pu_sum (M.1 606) (pu_cpy (M.1 606) (M.1 613) 41 0 70) (pu_eve (M.1 606) (pu_cpy (M.1 606) (M.1 612) 23 0 18) (pu_cpy (M.1 606) (M.1 613) 41 0 70) ((M.1 606) 4) (M.1 606 2) (pu_cpy (M.1 608) (M.1 609) 0 0 108)) ((M.1 606) 5) (M.1 606 2) l1)] (nb_up (nb_wr (nb_up (nb_up (nb_wr (nb_wr (nb_wr M 603 0 0) 603 11 0) 603 25 ((M.1 606) 4)) 612 (pu_cpy (M.1 606) (M.1 612) 23 0 18)) 613 (pu_cpy (M.1 606) (M.1 613) 41 0 70)) 603 26 (M.1 606 2)) 609 (pu_eve (M.1 606) (pu_cpy (M.1 606) (M.1 612) 23 0 18) (pu_cpy (M.1 606) (M.1 613) 41 0 70) ((M.1 606) 4) (M.1 606 2) (pu_cpy (M.1 608) (M.1 609) 0 0 108)))))))) :
    nb_W 157 0 [(20, 603), (0, l1)] [] M Q := by
  replace H := nb_Hw H
  refine nb_Wg (q_m_sum_0 _ _ _ (by omega)) ?_
  refine nb_Gb ?_
  refine nb_Wg (q_m_good_0 _ _ (by omega)) ?_
  have W1 : nb_Lay (nb_wr M 603 0 0) := W.wr (fun w => (nb_nlit (by decide) (by decide)))
  refine nb_Gr ?_
  refine nb_Wg (q_m_good_1 _ _ (by omega)) ?_
  have W2 : nb_Lay (nb_wr (nb_wr M 603 0 0) 603 11 0) := W1.wr (fun w => (nb_nlit (by decide) (by decide)))
  refine nb_Gr ?_
  refine nb_Wg (q_m_good_2 _ _) ?_
  refine nb_Gs ?_
  show nb_W 157 1 [(20, 603), (0, l1)] [] (nb_wr (nb_wr M 603 0 0) 603 11 0) _
  obtain ⟨p0_, p1_, H⟩ := H
  replace H := nb_Hw H
  have E3 : nb_rd (nb_wr (nb_wr M 603 0 0) 603 11 0) 603 14 = M.1 603 14 := nb_rdw (Or.inr (by decide)) (nb_rdw (Or.inr (by decide)) (nb_rd_1 _ _ _))
  refine nb_Wg (q_m_sum_1 _ _ _ (by omega)) ?_
  simp only [E3]
  clear E3
  refine nb_Gi (fun c20 => ?_) (fun c20 => ?_)
  · have H := nb_Hw ((nb_Hu H).1 c20)
    refine nb_Gr ?_
    refine nb_Wg (q_m_sum_4 _ _ _ (by omega)) ?_
    refine nb_Gb ?_
    refine nb_Wg (q_m_no_0 _ _ _ (by omega)) ?_
    have W4 : nb_Lay (nb_wr (nb_wr (nb_wr M 603 0 0) 603 11 0) 603 11 1) := W2.wr (fun w => (nb_nlit (by decide) (by decide)))
    refine nb_Gr ?_
    refine nb_Wg (q_m_no_1 _ _ _) ?_
    refine nb_Gs ?_
    show nb_W 157 5 [(20, 603), (0, l1)] [(0, (-1))] (nb_wr (nb_wr (nb_wr M 603 0 0) 603 11 0) 603 11 1) _
    refine nb_Wg (q_m_sum_5 _ _ _ _) ?_
    refine nb_Gs ?_
    exact nb_Hu H W4
  · have H := nb_Hw ((nb_Hu H).2 (by omega))
    have c20 : M.1 603 14 ≠ 0 := by omega
    refine nb_Gr ?_
    refine nb_Wg (q_m_sum_2 _ _ _) ?_
    refine nb_Gb ?_
    refine nb_Wg (q_m_within_0 _ _ _ _) ?_
    refine nb_Gi (fun c19 => ?_) (fun c19 => ?_)
    · have H := nb_Hw ((nb_Hu H).1 c19)
      refine nb_Gr ?_
      refine nb_Wg (q_m_within_3 _ _ _ _) ?_
      refine nb_Gr ?_
      have E5 : nb_i2z 0 = 0 := by decide
      refine nb_Wg (q_m_within_4 _ _ _ _ _) ?_
      simp only [E5]
      clear E5
      refine nb_Gs ?_
      show nb_W 157 3 [(20, 603), (0, l1)] [(0, 0)] (nb_wr (nb_wr M 603 0 0) 603 11 0) _
      refine nb_Wg (q_m_sum_3 _ _ _ _) ?_
      refine nb_Gt (by decide) ?_
      refine nb_Gr ?_
      refine nb_Wg (q_m_sum_4 _ _ _ (by omega)) ?_
      refine nb_Gb ?_
      refine nb_Wg (q_m_no_0 _ _ _ (by omega)) ?_
      have W6 : nb_Lay (nb_wr (nb_wr (nb_wr M 603 0 0) 603 11 0) 603 11 1) := W2.wr (fun w => (nb_nlit (by decide) (by decide)))
      refine nb_Gr ?_
      refine nb_Wg (q_m_no_1 _ _ _) ?_
      refine nb_Gs ?_
      show nb_W 157 5 [(20, 603), (0, l1)] [(0, (-1))] (nb_wr (nb_wr (nb_wr M 603 0 0) 603 11 0) 603 11 1) _
      refine nb_Wg (q_m_sum_5 _ _ _ _) ?_
      refine nb_Gs ?_
      exact nb_Hu H W6
    · have H := nb_Hw ((nb_Hu H).2 (by omega))
      have c19 : 0 ≤ l1 := by omega
      refine nb_Gr ?_
      refine nb_Wg (q_m_within_1 _ _ _ _) ?_
      refine nb_Gi (fun c18 => ?_) (fun c18 => ?_)
      · have H := nb_Hw ((nb_Hu H).1 c18)
        refine nb_Gr ?_
        refine nb_Wg (q_m_within_3 _ _ _ _) ?_
        refine nb_Gr ?_
        have E7 : nb_i2z 0 = 0 := by decide
        refine nb_Wg (q_m_within_4 _ _ _ _ _) ?_
        simp only [E7]
        clear E7
        refine nb_Gs ?_
        show nb_W 157 3 [(20, 603), (0, l1)] [(0, 0)] (nb_wr (nb_wr M 603 0 0) 603 11 0) _
        refine nb_Wg (q_m_sum_3 _ _ _ _) ?_
        refine nb_Gt (by decide) ?_
        refine nb_Gr ?_
        refine nb_Wg (q_m_sum_4 _ _ _ (by omega)) ?_
        refine nb_Gb ?_
        refine nb_Wg (q_m_no_0 _ _ _ (by omega)) ?_
        have W8 : nb_Lay (nb_wr (nb_wr (nb_wr M 603 0 0) 603 11 0) 603 11 1) := W2.wr (fun w => (nb_nlit (by decide) (by decide)))
        refine nb_Gr ?_
        refine nb_Wg (q_m_no_1 _ _ _) ?_
        refine nb_Gs ?_
        show nb_W 157 5 [(20, 603), (0, l1)] [(0, (-1))] (nb_wr (nb_wr (nb_wr M 603 0 0) 603 11 0) 603 11 1) _
        refine nb_Wg (q_m_sum_5 _ _ _ _) ?_
        refine nb_Gs ?_
        exact nb_Hu H W8
      · have H := nb_Hw ((nb_Hu H).2 (by omega))
        have c18 : l1 ≤ 5 := by omega
        refine nb_Gr ?_
        refine nb_Wg (q_m_within_2 _ _ _ _) ?_
        refine nb_Gr ?_
        have E9 : nb_i2z 1 = 1 := by decide
        refine nb_Wg (q_m_within_4 _ _ _ _ _) ?_
        simp only [E9]
        clear E9
        refine nb_Gs ?_
        show nb_W 157 3 [(20, 603), (0, l1)] [(0, 1)] (nb_wr (nb_wr M 603 0 0) 603 11 0) _
        refine nb_Wg (q_m_sum_3 _ _ _ _) ?_
        refine nb_Gf (by decide) ?_
        refine nb_Gr ?_
        refine nb_Wg (q_m_sum_6 _ _ _ (by omega)) ?_
        refine nb_Gb ?_
        refine nb_Wg (q_m_tellEvening_0 _ _ (by omega)) ?_
        have W10 : nb_Lay (nb_wr (nb_wr (nb_wr M 603 0 0) 603 11 0) 603 25 ((M.1 606) 4)) := W2.wr (fun w => (nb_nlit (by decide) (by decide)))
        have W11 : nb_Lay (nb_up (nb_wr (nb_wr (nb_wr M 603 0 0) 603 11 0) 603 25 ((M.1 606) 4)) 612 (pu_cpy (M.1 606) (M.1 612) 23 0 18)) := W10.up (fun i w => (nb_nnum (by decide) (by decide)))
        have W12 : nb_Lay (nb_up (nb_up (nb_wr (nb_wr (nb_wr M 603 0 0) 603 11 0) 603 25 ((M.1 606) 4)) 612 (pu_cpy (M.1 606) (M.1 612) 23 0 18)) 613 (pu_cpy (M.1 606) (M.1 613) 41 0 70)) := W11.up (fun i w => (nb_nnum (by decide) (by decide)))
        rw [show nb_R nb_P 121 0 [(20, 603)] [] (nb_wr (nb_wr M 603 0 0) 603 11 0) = some ([], nb_up (nb_up (nb_wr (nb_wr (nb_wr M 603 0 0) 603 11 0) 603 25 ((M.1 606) 4)) 612 (pu_cpy (M.1 606) (M.1 612) 23 0 18)) 613 (pu_cpy (M.1 606) (M.1 613) 41 0 70)) from (sp_m_asTold W2).trans (by first | rfl | simp [nb_wr_up, nb_up_1, nb_up_up, nb_ud])]
        refine nb_Gp ?_
        show nb_W 150 1 [(20, 603)] [] (nb_up (nb_up (nb_wr (nb_wr (nb_wr M 603 0 0) 603 11 0) 603 25 ((M.1 606) 4)) 612 (pu_cpy (M.1 606) (M.1 612) 23 0 18)) 613 (pu_cpy (M.1 606) (M.1 613) 41 0 70)) _
        have E13 : nb_rd (nb_up (nb_up (nb_wr (nb_wr (nb_wr M 603 0 0) 603 11 0) 603 25 ((M.1 606) 4)) 612 (pu_cpy (M.1 606) (M.1 612) 23 0 18)) 613 (pu_cpy (M.1 606) (M.1 613) 41 0 70)) 603 15 = 606 := W12.m15
        have N14 : nb_ln (nb_up (nb_up (nb_wr (nb_wr (nb_wr M 603 0 0) 603 11 0) 603 25 ((M.1 606) 4)) 612 (pu_cpy (M.1 606) (M.1 612) 23 0 18)) 613 (pu_cpy (M.1 606) (M.1 613) 41 0 70)) 606 = 347 := W12.lk (by decide) (by decide +kernel)
        have E15 : nb_rd (nb_up (nb_up (nb_wr (nb_wr (nb_wr M 603 0 0) 603 11 0) 603 25 ((M.1 606) 4)) 612 (pu_cpy (M.1 606) (M.1 612) 23 0 18)) 613 (pu_cpy (M.1 606) (M.1 613) 41 0 70)) 606 2 = M.1 606 2 := nb_rdu (by decide) (nb_rdu (by decide) (nb_rdw (Or.inl (by decide)) (nb_rdw (Or.inl (by decide)) (nb_rdw (Or.inl (by decide)) (nb_rd_1 _ _ _)))))
        refine nb_Wg (q_m_tellEvening_1 _ _ (by omega) (by rw [E13]; first | done | omega) (by omega) (by rw [E13, N14]; first | done | omega)) ?_
        simp only [E13, E15]
        clear E13 N14 E15
        have W16 : nb_Lay (nb_wr (nb_up (nb_up (nb_wr (nb_wr (nb_wr M 603 0 0) 603 11 0) 603 25 ((M.1 606) 4)) 612 (pu_cpy (M.1 606) (M.1 612) 23 0 18)) 613 (pu_cpy (M.1 606) (M.1 613) 41 0 70)) 603 26 (M.1 606 2)) := W12.wr (fun w => (nb_nlit (by decide) (by decide)))
        refine nb_Gr ?_
        obtain ⟨p0_, p1_, p2_, p3_, p4_, p5_, p6_, p7_, p8_, H⟩ := H
        replace H := nb_Hw H
        refine nb_Wg (q_m_tellEvening_2 _ _ (by omega)) ?_
        have W17 : nb_Lay (nb_up (nb_wr (nb_up (nb_up (nb_wr (nb_wr (nb_wr M 603 0 0) 603 11 0) 603 25 ((M.1 606) 4)) 612 (pu_cpy (M.1 606) (M.1 612) 23 0 18)) 613 (pu_cpy (M.1 606) (M.1 613) 41 0 70)) 603 26 (M.1 606 2)) 609 (pu_eve (M.1 606) (pu_cpy (M.1 606) (M.1 612) 23 0 18) (pu_cpy (M.1 606) (M.1 613) 41 0 70) ((M.1 606) 4) (M.1 606 2) (pu_cpy (M.1 608) (M.1 609) 0 0 108))) := W16.up (fun i w => (nb_nnum (by decide) (by decide)))
        rw [show nb_R nb_P 134 0 [(20, 603)] [] (nb_wr (nb_up (nb_up (nb_wr (nb_wr (nb_wr M 603 0 0) 603 11 0) 603 25 ((M.1 606) 4)) 612 (pu_cpy (M.1 606) (M.1 612) 23 0 18)) 613 (pu_cpy (M.1 606) (M.1 613) 41 0 70)) 603 26 (M.1 606 2)) = some ([], nb_up (nb_wr (nb_up (nb_up (nb_wr (nb_wr (nb_wr M 603 0 0) 603 11 0) 603 25 ((M.1 606) 4)) 612 (pu_cpy (M.1 606) (M.1 612) 23 0 18)) 613 (pu_cpy (M.1 606) (M.1 613) 41 0 70)) 603 26 (M.1 606 2)) 609 (pu_eve (M.1 606) (pu_cpy (M.1 606) (M.1 612) 23 0 18) (pu_cpy (M.1 606) (M.1 613) 41 0 70) ((M.1 606) 4) (M.1 606 2) (pu_cpy (M.1 608) (M.1 609) 0 0 108))) from (sp_m_evening W16 (by first | assumption | omega | (simp [nb_wr_up, nb_up_1, nb_ud]; first | assumption | omega)) (by first | assumption | omega | (simp [nb_wr_up, nb_up_1, nb_ud]; first | assumption | omega)) (by first | assumption | omega | (simp [nb_wr_up, nb_up_1, nb_ud]; first | assumption | omega)) (by first | assumption | omega | (simp [nb_wr_up, nb_up_1, nb_ud]; first | assumption | omega)) (by first | assumption | omega | (simp [nb_wr_up, nb_up_1, nb_ud]; first | assumption | omega)) (by first | assumption | omega | (simp [nb_wr_up, nb_up_1, nb_ud]; first | assumption | omega)) (by first | assumption | omega | (simp [nb_wr_up, nb_up_1, nb_ud]; first | assumption | omega))).trans (by first | rfl | simp [nb_wr_up, nb_up_1, nb_up_up, nb_ud])]
        refine nb_Gp ?_
        show nb_W 150 3 [(20, 603)] [] (nb_up (nb_wr (nb_up (nb_up (nb_wr (nb_wr (nb_wr M 603 0 0) 603 11 0) 603 25 ((M.1 606) 4)) 612 (pu_cpy (M.1 606) (M.1 612) 23 0 18)) 613 (pu_cpy (M.1 606) (M.1 613) 41 0 70)) 603 26 (M.1 606 2)) 609 (pu_eve (M.1 606) (pu_cpy (M.1 606) (M.1 612) 23 0 18) (pu_cpy (M.1 606) (M.1 613) 41 0 70) ((M.1 606) 4) (M.1 606 2) (pu_cpy (M.1 608) (M.1 609) 0 0 108))) _
        refine nb_Wg (q_m_tellEvening_3 _ _) ?_
        refine nb_Gs ?_
        show nb_W 157 7 [(20, 603), (0, l1)] [] (nb_up (nb_wr (nb_up (nb_up (nb_wr (nb_wr (nb_wr M 603 0 0) 603 11 0) 603 25 ((M.1 606) 4)) 612 (pu_cpy (M.1 606) (M.1 612) 23 0 18)) 613 (pu_cpy (M.1 606) (M.1 613) 41 0 70)) 603 26 (M.1 606 2)) 609 (pu_eve (M.1 606) (pu_cpy (M.1 606) (M.1 612) 23 0 18) (pu_cpy (M.1 606) (M.1 613) 41 0 70) ((M.1 606) 4) (M.1 606 2) (pu_cpy (M.1 608) (M.1 609) 0 0 108))) _
        obtain ⟨p0_, p1_, p2_, H⟩ := H
        replace H := nb_Hw H
        refine nb_Wg (q_m_sum_7 _ _ _ (by omega)) ?_
        rw [show nb_R nb_P 140 0 [(20, 603), (0, l1), (98, 0), (98, 0), (98, 0)] [] (nb_up (nb_wr (nb_up (nb_up (nb_wr (nb_wr (nb_wr M 603 0 0) 603 11 0) 603 25 ((M.1 606) 4)) 612 (pu_cpy (M.1 606) (M.1 612) 23 0 18)) 613 (pu_cpy (M.1 606) (M.1 613) 41 0 70)) 603 26 (M.1 606 2)) 609 (pu_eve (M.1 606) (pu_cpy (M.1 606) (M.1 612) 23 0 18) (pu_cpy (M.1 606) (M.1 613) 41 0 70) ((M.1 606) 4) (M.1 606 2) (pu_cpy (M.1 608) (M.1 609) 0 0 108))) = some ([(0, pu_sum (M.1 606) (pu_cpy (M.1 606) (M.1 613) 41 0 70) (pu_eve (M.1 606) (pu_cpy (M.1 606) (M.1 612) 23 0 18) (pu_cpy (M.1 606) (M.1 613) 41 0 70) ((M.1 606) 4) (M.1 606 2) (pu_cpy (M.1 608) (M.1 609) 0 0 108)) ((M.1 606) 5) (M.1 606 2) l1)], nb_up (nb_wr (nb_up (nb_up (nb_wr (nb_wr (nb_wr M 603 0 0) 603 11 0) 603 25 ((M.1 606) 4)) 612 (pu_cpy (M.1 606) (M.1 612) 23 0 18)) 613 (pu_cpy (M.1 606) (M.1 613) 41 0 70)) 603 26 (M.1 606 2)) 609 (pu_eve (M.1 606) (pu_cpy (M.1 606) (M.1 612) 23 0 18) (pu_cpy (M.1 606) (M.1 613) 41 0 70) ((M.1 606) 4) (M.1 606 2) (pu_cpy (M.1 608) (M.1 609) 0 0 108))) from (sp_m_sumOf W17 (by first | assumption | omega | (simp [nb_wr_up, nb_up_1, nb_ud]; first | assumption | omega)) (by first | assumption | omega | (simp [nb_wr_up, nb_up_1, nb_ud]; first | assumption | omega)) (by first | assumption | omega | (simp [nb_wr_up, nb_up_1, nb_ud]; first | assumption | omega)) (by first | assumption | omega | (simp [nb_wr_up, nb_up_1, nb_ud]; first | assumption | omega))).trans (by first | rfl | simp [nb_wr_up, nb_up_1, nb_up_up, nb_ud])]
        refine nb_Gp ?_
        show nb_W 157 8 [(20, 603), (0, l1)] [(0, pu_sum (M.1 606) (pu_cpy (M.1 606) (M.1 613) 41 0 70) (pu_eve (M.1 606) (pu_cpy (M.1 606) (M.1 612) 23 0 18) (pu_cpy (M.1 606) (M.1 613) 41 0 70) ((M.1 606) 4) (M.1 606 2) (pu_cpy (M.1 608) (M.1 609) 0 0 108)) ((M.1 606) 5) (M.1 606 2) l1)] (nb_up (nb_wr (nb_up (nb_up (nb_wr (nb_wr (nb_wr M 603 0 0) 603 11 0) 603 25 ((M.1 606) 4)) 612 (pu_cpy (M.1 606) (M.1 612) 23 0 18)) 613 (pu_cpy (M.1 606) (M.1 613) 41 0 70)) 603 26 (M.1 606 2)) 609 (pu_eve (M.1 606) (pu_cpy (M.1 606) (M.1 612) 23 0 18) (pu_cpy (M.1 606) (M.1 613) 41 0 70) ((M.1 606) 4) (M.1 606 2) (pu_cpy (M.1 608) (M.1 609) 0 0 108))) _
        refine nb_Wg (q_m_sum_8 _ _ _ _) ?_
        refine nb_Gs ?_
        exact nb_Hu H W17

theorem w_m_served_0 {l1 : Int} {M : nb_M} {Q : List nb_V → nb_M → Prop} (W : nb_Lay M) (H : 0 ≤ M.1 603 14 ∧ M.1 603 14 ≤ 1 ∧ (M.1 603 14 = 0 → (nb_Lay (nb_wr (nb_wr (nb_wr M 603 0 0) 603 11 0) 603 11 1) → Q [(0, (-1))] (nb_wr (nb_wr (nb_wr M 603 0 0) 603 11 0) 603 11 1))) ∧ (M.1 603 14 ≠ 0 → (l1 < 0 → (nb_Lay (nb_wr (nb_wr (nb_wr M 603 0 0) 603 11 0) 603 11 1) → Q [(0, (-1))] (nb_wr (nb_wr (nb_wr M 603 0 0) 603 11 0) 603 11 1))) ∧ (0 ≤ l1 → pu_Rr (M.1 606) ∧ pu_Rc (pu_cpy (M.1 606) (M.1 612) 23 0 18) ∧ pu_Rp (pu_cpy (M.1 606) (M.1 613) 41 0 70) ∧ pu_Rw (M.1 608) ∧ pu_Rk (M.1 608) ∧ 0 ≤ (M.1 606) 4 ∧ (M.1 606) 4 ≤ 4 ∧ 0 ≤ M.1 606 2 ∧ M.1 606 2 ≤ 9000 ∧ (l1 < (pu_eve (M.1 606) (pu_cpy (M.1 606) (M.1 612) 23 0 18) (pu_cpy (M.1 606) (M.1 613) 41 0 70) ((M.1 606) 4) (M.1 606 2) (pu_cpy (M.1 608) (M.1 609) 0 0 108)) 1 → -2147483648 ≤ 2 + l1 ∧ 2 + l1 ≤ 2147483647 ∧ 0 ≤ 2 + l1 ∧ 2 + l1 < 108 ∧ (nb_Lay (nb_up (nb_wr (nb_up (nb_up (nb_wr (nb_wr (nb_wr M 603 0 0) 603 11 0) 603 25 ((M.1 606) 4)) 612 (pu_cpy (M.1 606) (M.1 612) 23 0 18)) 613 (pu_cpy (M.1 606) (M.1 613) 41 0 70)) 603 26 (M.1 606 2)) 609 (pu_eve (M.1 606) (pu_cpy (M.1 606) (M.1 612) 23 0 18) (pu_cpy (M.1 606) (M.1 613) 41 0 70) ((M.1 606) 4) (M.1 606 2) (pu_cpy (M.1 608) (M.1 609) 0 0 108))) → Q [(0, (pu_eve (M.1 606) (pu_cpy (M.1 606) (M.1 612) 23 0 18) (pu_cpy (M.1 606) (M.1 613) 41 0 70) ((M.1 606) 4) (M.1 606 2) (pu_cpy (M.1 608) (M.1 609) 0 0 108)) (2 + l1))] (nb_up (nb_wr (nb_up (nb_up (nb_wr (nb_wr (nb_wr M 603 0 0) 603 11 0) 603 25 ((M.1 606) 4)) 612 (pu_cpy (M.1 606) (M.1 612) 23 0 18)) 613 (pu_cpy (M.1 606) (M.1 613) 41 0 70)) 603 26 (M.1 606 2)) 609 (pu_eve (M.1 606) (pu_cpy (M.1 606) (M.1 612) 23 0 18) (pu_cpy (M.1 606) (M.1 613) 41 0 70) ((M.1 606) 4) (M.1 606 2) (pu_cpy (M.1 608) (M.1 609) 0 0 108))))) ∧ ((pu_eve (M.1 606) (pu_cpy (M.1 606) (M.1 612) 23 0 18) (pu_cpy (M.1 606) (M.1 613) 41 0 70) ((M.1 606) 4) (M.1 606 2) (pu_cpy (M.1 608) (M.1 609) 0 0 108)) 1 ≤ l1 → (nb_Lay (nb_wr (nb_up (nb_wr (nb_up (nb_up (nb_wr (nb_wr (nb_wr M 603 0 0) 603 11 0) 603 25 ((M.1 606) 4)) 612 (pu_cpy (M.1 606) (M.1 612) 23 0 18)) 613 (pu_cpy (M.1 606) (M.1 613) 41 0 70)) 603 26 (M.1 606 2)) 609 (pu_eve (M.1 606) (pu_cpy (M.1 606) (M.1 612) 23 0 18) (pu_cpy (M.1 606) (M.1 613) 41 0 70) ((M.1 606) 4) (M.1 606 2) (pu_cpy (M.1 608) (M.1 609) 0 0 108))) 603 11 1) → Q [(0, (-1))] (nb_wr (nb_up (nb_wr (nb_up (nb_up (nb_wr (nb_wr (nb_wr M 603 0 0) 603 11 0) 603 25 ((M.1 606) 4)) 612 (pu_cpy (M.1 606) (M.1 612) 23 0 18)) 613 (pu_cpy (M.1 606) (M.1 613) 41 0 70)) 603 26 (M.1 606 2)) 609 (pu_eve (M.1 606) (pu_cpy (M.1 606) (M.1 612) 23 0 18) (pu_cpy (M.1 606) (M.1 613) 41 0 70) ((M.1 606) 4) (M.1 606 2) (pu_cpy (M.1 608) (M.1 609) 0 0 108))) 603 11 1)))))) :
    nb_W 158 0 [(20, 603), (0, l1)] [] M Q := by
  replace H := nb_Hw H
  refine nb_Wg (q_m_served_0 _ _ _ (by omega)) ?_
  refine nb_Gb ?_
  refine nb_Wg (q_m_good_0 _ _ (by omega)) ?_
  have W1 : nb_Lay (nb_wr M 603 0 0) := W.wr (fun w => (nb_nlit (by decide) (by decide)))
  refine nb_Gr ?_
  refine nb_Wg (q_m_good_1 _ _ (by omega)) ?_
  have W2 : nb_Lay (nb_wr (nb_wr M 603 0 0) 603 11 0) := W1.wr (fun w => (nb_nlit (by decide) (by decide)))
  refine nb_Gr ?_
  refine nb_Wg (q_m_good_2 _ _) ?_
  refine nb_Gs ?_
  show nb_W 158 1 [(20, 603), (0, l1)] [] (nb_wr (nb_wr M 603 0 0) 603 11 0) _
  obtain ⟨p0_, p1_, H⟩ := H
  replace H := nb_Hw H
  have E3 : nb_rd (nb_wr (nb_wr M 603 0 0) 603 11 0) 603 14 = M.1 603 14 := nb_rdw (Or.inr (by decide)) (nb_rdw (Or.inr (by decide)) (nb_rd_1 _ _ _))
  refine nb_Wg (q_m_served_1 _ _ _ (by omega)) ?_
  simp only [E3]
  clear E3
  refine nb_Gi (fun c24 => ?_) (fun c24 => ?_)
  · have H := nb_Hw ((nb_Hu H).1 c24)
    refine nb_Gr ?_
    refine nb_Wg (q_m_served_3 _ _ _ (by omega)) ?_
    refine nb_Gb ?_
    refine nb_Wg (q_m_no_0 _ _ _ (by omega)) ?_
    have W4 : nb_Lay (nb_wr (nb_wr (nb_wr M 603 0 0) 603 11 0) 603 11 1) := W2.wr (fun w => (nb_nlit (by decide) (by decide)))
    refine nb_Gr ?_
    refine nb_Wg (q_m_no_1 _ _ _) ?_
    refine nb_Gs ?_
    show nb_W 158 4 [(20, 603), (0, l1)] [(0, (-1))] (nb_wr (nb_wr (nb_wr M 603 0 0) 603 11 0) 603 11 1) _
    refine nb_Wg (q_m_served_4 _ _ _ _) ?_
    refine nb_Gs ?_
    exact nb_Hu H W4
  · have H := nb_Hw ((nb_Hu H).2 (by omega))
    have c24 : M.1 603 14 ≠ 0 := by omega
    refine nb_Gr ?_
    refine nb_Wg (q_m_served_2 _ _ _) ?_
    refine nb_Gi (fun c23 => ?_) (fun c23 => ?_)
    · have H := nb_Hw ((nb_Hu H).1 c23)
      refine nb_Gr ?_
      refine nb_Wg (q_m_served_3 _ _ _ (by omega)) ?_
      refine nb_Gb ?_
      refine nb_Wg (q_m_no_0 _ _ _ (by omega)) ?_
      have W5 : nb_Lay (nb_wr (nb_wr (nb_wr M 603 0 0) 603 11 0) 603 11 1) := W2.wr (fun w => (nb_nlit (by decide) (by decide)))
      refine nb_Gr ?_
      refine nb_Wg (q_m_no_1 _ _ _) ?_
      refine nb_Gs ?_
      show nb_W 158 4 [(20, 603), (0, l1)] [(0, (-1))] (nb_wr (nb_wr (nb_wr M 603 0 0) 603 11 0) 603 11 1) _
      refine nb_Wg (q_m_served_4 _ _ _ _) ?_
      refine nb_Gs ?_
      exact nb_Hu H W5
    · have H := nb_Hw ((nb_Hu H).2 (by omega))
      have c23 : 0 ≤ l1 := by omega
      refine nb_Gr ?_
      refine nb_Wg (q_m_served_5 _ _ _ (by omega)) ?_
      refine nb_Gb ?_
      refine nb_Wg (q_m_tellEvening_0 _ _ (by omega)) ?_
      have W6 : nb_Lay (nb_wr (nb_wr (nb_wr M 603 0 0) 603 11 0) 603 25 ((M.1 606) 4)) := W2.wr (fun w => (nb_nlit (by decide) (by decide)))
      have W7 : nb_Lay (nb_up (nb_wr (nb_wr (nb_wr M 603 0 0) 603 11 0) 603 25 ((M.1 606) 4)) 612 (pu_cpy (M.1 606) (M.1 612) 23 0 18)) := W6.up (fun i w => (nb_nnum (by decide) (by decide)))
      have W8 : nb_Lay (nb_up (nb_up (nb_wr (nb_wr (nb_wr M 603 0 0) 603 11 0) 603 25 ((M.1 606) 4)) 612 (pu_cpy (M.1 606) (M.1 612) 23 0 18)) 613 (pu_cpy (M.1 606) (M.1 613) 41 0 70)) := W7.up (fun i w => (nb_nnum (by decide) (by decide)))
      rw [show nb_R nb_P 121 0 [(20, 603)] [] (nb_wr (nb_wr M 603 0 0) 603 11 0) = some ([], nb_up (nb_up (nb_wr (nb_wr (nb_wr M 603 0 0) 603 11 0) 603 25 ((M.1 606) 4)) 612 (pu_cpy (M.1 606) (M.1 612) 23 0 18)) 613 (pu_cpy (M.1 606) (M.1 613) 41 0 70)) from (sp_m_asTold W2).trans (by first | rfl | simp [nb_wr_up, nb_up_1, nb_up_up, nb_ud])]
      refine nb_Gp ?_
      show nb_W 150 1 [(20, 603)] [] (nb_up (nb_up (nb_wr (nb_wr (nb_wr M 603 0 0) 603 11 0) 603 25 ((M.1 606) 4)) 612 (pu_cpy (M.1 606) (M.1 612) 23 0 18)) 613 (pu_cpy (M.1 606) (M.1 613) 41 0 70)) _
      have E9 : nb_rd (nb_up (nb_up (nb_wr (nb_wr (nb_wr M 603 0 0) 603 11 0) 603 25 ((M.1 606) 4)) 612 (pu_cpy (M.1 606) (M.1 612) 23 0 18)) 613 (pu_cpy (M.1 606) (M.1 613) 41 0 70)) 603 15 = 606 := W8.m15
      have N10 : nb_ln (nb_up (nb_up (nb_wr (nb_wr (nb_wr M 603 0 0) 603 11 0) 603 25 ((M.1 606) 4)) 612 (pu_cpy (M.1 606) (M.1 612) 23 0 18)) 613 (pu_cpy (M.1 606) (M.1 613) 41 0 70)) 606 = 347 := W8.lk (by decide) (by decide +kernel)
      have E11 : nb_rd (nb_up (nb_up (nb_wr (nb_wr (nb_wr M 603 0 0) 603 11 0) 603 25 ((M.1 606) 4)) 612 (pu_cpy (M.1 606) (M.1 612) 23 0 18)) 613 (pu_cpy (M.1 606) (M.1 613) 41 0 70)) 606 2 = M.1 606 2 := nb_rdu (by decide) (nb_rdu (by decide) (nb_rdw (Or.inl (by decide)) (nb_rdw (Or.inl (by decide)) (nb_rdw (Or.inl (by decide)) (nb_rd_1 _ _ _)))))
      refine nb_Wg (q_m_tellEvening_1 _ _ (by omega) (by rw [E9]; first | done | omega) (by omega) (by rw [E9, N10]; first | done | omega)) ?_
      simp only [E9, E11]
      clear E9 N10 E11
      have W12 : nb_Lay (nb_wr (nb_up (nb_up (nb_wr (nb_wr (nb_wr M 603 0 0) 603 11 0) 603 25 ((M.1 606) 4)) 612 (pu_cpy (M.1 606) (M.1 612) 23 0 18)) 613 (pu_cpy (M.1 606) (M.1 613) 41 0 70)) 603 26 (M.1 606 2)) := W8.wr (fun w => (nb_nlit (by decide) (by decide)))
      refine nb_Gr ?_
      obtain ⟨p0_, p1_, p2_, p3_, p4_, p5_, p6_, p7_, p8_, H⟩ := H
      replace H := nb_Hw H
      refine nb_Wg (q_m_tellEvening_2 _ _ (by omega)) ?_
      have W13 : nb_Lay (nb_up (nb_wr (nb_up (nb_up (nb_wr (nb_wr (nb_wr M 603 0 0) 603 11 0) 603 25 ((M.1 606) 4)) 612 (pu_cpy (M.1 606) (M.1 612) 23 0 18)) 613 (pu_cpy (M.1 606) (M.1 613) 41 0 70)) 603 26 (M.1 606 2)) 609 (pu_eve (M.1 606) (pu_cpy (M.1 606) (M.1 612) 23 0 18) (pu_cpy (M.1 606) (M.1 613) 41 0 70) ((M.1 606) 4) (M.1 606 2) (pu_cpy (M.1 608) (M.1 609) 0 0 108))) := W12.up (fun i w => (nb_nnum (by decide) (by decide)))
      rw [show nb_R nb_P 134 0 [(20, 603)] [] (nb_wr (nb_up (nb_up (nb_wr (nb_wr (nb_wr M 603 0 0) 603 11 0) 603 25 ((M.1 606) 4)) 612 (pu_cpy (M.1 606) (M.1 612) 23 0 18)) 613 (pu_cpy (M.1 606) (M.1 613) 41 0 70)) 603 26 (M.1 606 2)) = some ([], nb_up (nb_wr (nb_up (nb_up (nb_wr (nb_wr (nb_wr M 603 0 0) 603 11 0) 603 25 ((M.1 606) 4)) 612 (pu_cpy (M.1 606) (M.1 612) 23 0 18)) 613 (pu_cpy (M.1 606) (M.1 613) 41 0 70)) 603 26 (M.1 606 2)) 609 (pu_eve (M.1 606) (pu_cpy (M.1 606) (M.1 612) 23 0 18) (pu_cpy (M.1 606) (M.1 613) 41 0 70) ((M.1 606) 4) (M.1 606 2) (pu_cpy (M.1 608) (M.1 609) 0 0 108))) from (sp_m_evening W12 (by first | assumption | omega | (simp [nb_wr_up, nb_up_1, nb_ud]; first | assumption | omega)) (by first | assumption | omega | (simp [nb_wr_up, nb_up_1, nb_ud]; first | assumption | omega)) (by first | assumption | omega | (simp [nb_wr_up, nb_up_1, nb_ud]; first | assumption | omega)) (by first | assumption | omega | (simp [nb_wr_up, nb_up_1, nb_ud]; first | assumption | omega)) (by first | assumption | omega | (simp [nb_wr_up, nb_up_1, nb_ud]; first | assumption | omega)) (by first | assumption | omega | (simp [nb_wr_up, nb_up_1, nb_ud]; first | assumption | omega)) (by first | assumption | omega | (simp [nb_wr_up, nb_up_1, nb_ud]; first | assumption | omega))).trans (by first | rfl | simp [nb_wr_up, nb_up_1, nb_up_up, nb_ud])]
      refine nb_Gp ?_
      show nb_W 150 3 [(20, 603)] [] (nb_up (nb_wr (nb_up (nb_up (nb_wr (nb_wr (nb_wr M 603 0 0) 603 11 0) 603 25 ((M.1 606) 4)) 612 (pu_cpy (M.1 606) (M.1 612) 23 0 18)) 613 (pu_cpy (M.1 606) (M.1 613) 41 0 70)) 603 26 (M.1 606 2)) 609 (pu_eve (M.1 606) (pu_cpy (M.1 606) (M.1 612) 23 0 18) (pu_cpy (M.1 606) (M.1 613) 41 0 70) ((M.1 606) 4) (M.1 606 2) (pu_cpy (M.1 608) (M.1 609) 0 0 108))) _
      refine nb_Wg (q_m_tellEvening_3 _ _) ?_
      refine nb_Gs ?_
      show nb_W 158 6 [(20, 603), (0, l1)] [] (nb_up (nb_wr (nb_up (nb_up (nb_wr (nb_wr (nb_wr M 603 0 0) 603 11 0) 603 25 ((M.1 606) 4)) 612 (pu_cpy (M.1 606) (M.1 612) 23 0 18)) 613 (pu_cpy (M.1 606) (M.1 613) 41 0 70)) 603 26 (M.1 606 2)) 609 (pu_eve (M.1 606) (pu_cpy (M.1 606) (M.1 612) 23 0 18) (pu_cpy (M.1 606) (M.1 613) 41 0 70) ((M.1 606) 4) (M.1 606 2) (pu_cpy (M.1 608) (M.1 609) 0 0 108))) _
      have E14 : nb_rd (nb_up (nb_wr (nb_up (nb_up (nb_wr (nb_wr (nb_wr M 603 0 0) 603 11 0) 603 25 ((M.1 606) 4)) 612 (pu_cpy (M.1 606) (M.1 612) 23 0 18)) 613 (pu_cpy (M.1 606) (M.1 613) 41 0 70)) 603 26 (M.1 606 2)) 609 (pu_eve (M.1 606) (pu_cpy (M.1 606) (M.1 612) 23 0 18) (pu_cpy (M.1 606) (M.1 613) 41 0 70) ((M.1 606) 4) (M.1 606 2) (pu_cpy (M.1 608) (M.1 609) 0 0 108))) 603 18 = 609 := W13.m18
      have N15 : nb_ln (nb_up (nb_wr (nb_up (nb_up (nb_wr (nb_wr (nb_wr M 603 0 0) 603 11 0) 603 25 ((M.1 606) 4)) 612 (pu_cpy (M.1 606) (M.1 612) 23 0 18)) 613 (pu_cpy (M.1 606) (M.1 613) 41 0 70)) 603 26 (M.1 606 2)) 609 (pu_eve (M.1 606) (pu_cpy (M.1 606) (M.1 612) 23 0 18) (pu_cpy (M.1 606) (M.1 613) 41 0 70) ((M.1 606) 4) (M.1 606 2) (pu_cpy (M.1 608) (M.1 609) 0 0 108))) 609 = 108 := W13.lk (by decide) (by decide +kernel)
      have E16 : nb_rd (nb_up (nb_wr (nb_up (nb_up (nb_wr (nb_wr (nb_wr M 603 0 0) 603 11 0) 603 25 ((M.1 606) 4)) 612 (pu_cpy (M.1 606) (M.1 612) 23 0 18)) 613 (pu_cpy (M.1 606) (M.1 613) 41 0 70)) 603 26 (M.1 606 2)) 609 (pu_eve (M.1 606) (pu_cpy (M.1 606) (M.1 612) 23 0 18) (pu_cpy (M.1 606) (M.1 613) 41 0 70) ((M.1 606) 4) (M.1 606 2) (pu_cpy (M.1 608) (M.1 609) 0 0 108))) 609 1 = (pu_eve (M.1 606) (pu_cpy (M.1 606) (M.1 612) 23 0 18) (pu_cpy (M.1 606) (M.1 613) 41 0 70) ((M.1 606) 4) (M.1 606 2) (pu_cpy (M.1 608) (M.1 609) 0 0 108)) 1 := nb_rdus _ _ _ _
      refine nb_Wg (q_m_served_6 _ _ _ (by omega) (by rw [E14]; first | done | omega) (by omega) (by rw [E14, N15]; first | done | omega)) ?_
      simp only [E14, E16]
      clear E14 N15 E16
      refine nb_Gi (fun c22 => ?_) (fun c22 => ?_)
      · have H := nb_Hw ((nb_Hu H).1 c22)
        refine nb_Gr ?_
        obtain ⟨p0_, p1_, p2_, p3_, H⟩ := H
        replace H := nb_Hw H
        have E17 : nb_rd (nb_up (nb_wr (nb_up (nb_up (nb_wr (nb_wr (nb_wr M 603 0 0) 603 11 0) 603 25 ((M.1 606) 4)) 612 (pu_cpy (M.1 606) (M.1 612) 23 0 18)) 613 (pu_cpy (M.1 606) (M.1 613) 41 0 70)) 603 26 (M.1 606 2)) 609 (pu_eve (M.1 606) (pu_cpy (M.1 606) (M.1 612) 23 0 18) (pu_cpy (M.1 606) (M.1 613) 41 0 70) ((M.1 606) 4) (M.1 606 2) (pu_cpy (M.1 608) (M.1 609) 0 0 108))) 603 18 = 609 := W13.m18
        have E18 : nb_add 2 l1 = 2 + l1 := nb_add_eq (by omega) (by omega)
        have N19 : nb_ln (nb_up (nb_wr (nb_up (nb_up (nb_wr (nb_wr (nb_wr M 603 0 0) 603 11 0) 603 25 ((M.1 606) 4)) 612 (pu_cpy (M.1 606) (M.1 612) 23 0 18)) 613 (pu_cpy (M.1 606) (M.1 613) 41 0 70)) 603 26 (M.1 606 2)) 609 (pu_eve (M.1 606) (pu_cpy (M.1 606) (M.1 612) 23 0 18) (pu_cpy (M.1 606) (M.1 613) 41 0 70) ((M.1 606) 4) (M.1 606 2) (pu_cpy (M.1 608) (M.1 609) 0 0 108))) 609 = 108 := W13.lk (by decide) (by decide +kernel)
        have E20 : nb_rd (nb_up (nb_wr (nb_up (nb_up (nb_wr (nb_wr (nb_wr M 603 0 0) 603 11 0) 603 25 ((M.1 606) 4)) 612 (pu_cpy (M.1 606) (M.1 612) 23 0 18)) 613 (pu_cpy (M.1 606) (M.1 613) 41 0 70)) 603 26 (M.1 606 2)) 609 (pu_eve (M.1 606) (pu_cpy (M.1 606) (M.1 612) 23 0 18) (pu_cpy (M.1 606) (M.1 613) 41 0 70) ((M.1 606) 4) (M.1 606 2) (pu_cpy (M.1 608) (M.1 609) 0 0 108))) 609 (2 + l1) = (pu_eve (M.1 606) (pu_cpy (M.1 606) (M.1 612) 23 0 18) (pu_cpy (M.1 606) (M.1 613) 41 0 70) ((M.1 606) 4) (M.1 606 2) (pu_cpy (M.1 608) (M.1 609) 0 0 108)) (2 + l1) := nb_rdus _ _ _ _
        refine nb_Wg (q_m_served_7 _ _ _ (by omega) (by rw [E17]; first | done | omega) (by rw [E18]; first | done | omega) (by rw [E18, E17, N19]; first | done | omega)) ?_
        simp only [E17, E18, E20]
        clear E17 E18 N19 E20
        refine nb_Gr ?_
        refine nb_Wg (q_m_served_9 _ _ _ _) ?_
        refine nb_Gs ?_
        exact nb_Hu H W13
      · have H := nb_Hw ((nb_Hu H).2 (by omega))
        have c22 : (pu_eve (M.1 606) (pu_cpy (M.1 606) (M.1 612) 23 0 18) (pu_cpy (M.1 606) (M.1 613) 41 0 70) ((M.1 606) 4) (M.1 606 2) (pu_cpy (M.1 608) (M.1 609) 0 0 108)) 1 ≤ l1 := by omega
        refine nb_Gr ?_
        refine nb_Wg (q_m_served_8 _ _ _ (by omega)) ?_
        refine nb_Gb ?_
        refine nb_Wg (q_m_no_0 _ _ _ (by omega)) ?_
        have W21 : nb_Lay (nb_wr (nb_up (nb_wr (nb_up (nb_up (nb_wr (nb_wr (nb_wr M 603 0 0) 603 11 0) 603 25 ((M.1 606) 4)) 612 (pu_cpy (M.1 606) (M.1 612) 23 0 18)) 613 (pu_cpy (M.1 606) (M.1 613) 41 0 70)) 603 26 (M.1 606 2)) 609 (pu_eve (M.1 606) (pu_cpy (M.1 606) (M.1 612) 23 0 18) (pu_cpy (M.1 606) (M.1 613) 41 0 70) ((M.1 606) 4) (M.1 606 2) (pu_cpy (M.1 608) (M.1 609) 0 0 108))) 603 11 1) := W13.wr (fun w => (nb_nlit (by decide) (by decide)))
        refine nb_Gr ?_
        refine nb_Wg (q_m_no_1 _ _ _) ?_
        refine nb_Gs ?_
        show nb_W 158 9 [(20, 603), (0, l1)] [(0, (-1))] (nb_wr (nb_up (nb_wr (nb_up (nb_up (nb_wr (nb_wr (nb_wr M 603 0 0) 603 11 0) 603 25 ((M.1 606) 4)) 612 (pu_cpy (M.1 606) (M.1 612) 23 0 18)) 613 (pu_cpy (M.1 606) (M.1 613) 41 0 70)) 603 26 (M.1 606 2)) 609 (pu_eve (M.1 606) (pu_cpy (M.1 606) (M.1 612) 23 0 18) (pu_cpy (M.1 606) (M.1 613) 41 0 70) ((M.1 606) 4) (M.1 606 2) (pu_cpy (M.1 608) (M.1 609) 0 0 108))) 603 11 1) _
        refine nb_Wg (q_m_served_9 _ _ _ _) ?_
        refine nb_Gs ?_
        exact nb_Hu H W21
