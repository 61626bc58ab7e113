/-! rules, printed by wip/gen -/
theorem w_m_waitingAt_0 {l1 : Int} {M : nb_M} {Q : List nb_V → nb_M → Prop} (W : nb_Lay M) (H : 0 ≤ M.1 603 14 ∧ M.1 603 14 ≤ 1 ∧ (M.1 603 14 = 0 → (nb_Lay (nb_wr (nb_wr (nb_wr M 603 0 0) 603 11 0) 603 11 1) → Q [(0, (-1))] (nb_wr (nb_wr (nb_wr M 603 0 0) 603 11 0) 603 11 1))) ∧ (M.1 603 14 ≠ 0 → (l1 < M.1 608 0 → (nb_Lay (nb_wr (nb_wr (nb_wr M 603 0 0) 603 11 0) 603 11 2) → Q [(0, (-1))] (nb_wr (nb_wr (nb_wr M 603 0 0) 603 11 0) 603 11 2))) ∧ (M.1 608 0 ≤ l1 → (M.1 606 2 < l1 → (nb_Lay (nb_wr (nb_wr (nb_wr M 603 0 0) 603 11 0) 603 11 2) → Q [(0, (-1))] (nb_wr (nb_wr (nb_wr M 603 0 0) 603 11 0) 603 11 2))) ∧ (l1 ≤ M.1 606 2 → pu_Rr (M.1 606) ∧ pu_Rc (pu_cpy (M.1 606) (M.1 612) 23 0 18) ∧ pu_Rp (pu_cpy (M.1 606) (M.1 613) 41 0 70) ∧ pu_Rw (M.1 608) ∧ pu_Rk (M.1 608) ∧ 0 ≤ (M.1 606) 4 ∧ (M.1 606) 4 ≤ 4 ∧ 0 ≤ l1 ∧ l1 ≤ 9000 ∧ (nb_Lay (nb_up (nb_wr (nb_up (nb_up (nb_wr (nb_wr (nb_wr M 603 0 0) 603 11 0) 603 25 ((M.1 606) 4)) 612 (pu_cpy (M.1 606) (M.1 612) 23 0 18)) 613 (pu_cpy (M.1 606) (M.1 613) 41 0 70)) 603 26 l1) 609 (pu_eve (M.1 606) (pu_cpy (M.1 606) (M.1 612) 23 0 18) (pu_cpy (M.1 606) (M.1 613) 41 0 70) ((M.1 606) 4) l1 (pu_cpy (M.1 608) (M.1 609) 0 0 108))) → Q [(0, pu_cnt (pu_eve (M.1 606) (pu_cpy (M.1 606) (M.1 612) 23 0 18) (pu_cpy (M.1 606) (M.1 613) 41 0 70) ((M.1 606) 4) l1 (pu_cpy (M.1 608) (M.1 609) 0 0 108)) 1 ((M.1 606) 5).toNat)] (nb_up (nb_wr (nb_up (nb_up (nb_wr (nb_wr (nb_wr M 603 0 0) 603 11 0) 603 25 ((M.1 606) 4)) 612 (pu_cpy (M.1 606) (M.1 612) 23 0 18)) 613 (pu_cpy (M.1 606) (M.1 613) 41 0 70)) 603 26 l1) 609 (pu_eve (M.1 606) (pu_cpy (M.1 606) (M.1 612) 23 0 18) (pu_cpy (M.1 606) (M.1 613) 41 0 70) ((M.1 606) 4) l1 (pu_cpy (M.1 608) (M.1 609) 0 0 108)))))))) :
    nb_W 159 0 [(20, 603), (0, l1)] [] M Q := by
  replace H := nb_Hw H
  refine nb_Wg (q_m_waitingAt_0 _ _ _ (by omega)) ?_
  refine nb_Gb ?_
  refine nb_Wg (q_m_good_0 _ _ (by omega)) ?_
  have W1 : nb_Lay (nb_wr M 603 0 0) := W.wr (fun w => (nb_nlit (by decide) (by decide)))
  refine nb_Gr ?_
  refine nb_Wg (q_m_good_1 _ _ (by omega)) ?_
  have W2 : nb_Lay (nb_wr (nb_wr M 603 0 0) 603 11 0) := W1.wr (fun w => (nb_nlit (by decide) (by decide)))
  refine nb_Gr ?_
  refine nb_Wg (q_m_good_2 _ _) ?_
  refine nb_Gs ?_
  show nb_W 159 1 [(20, 603), (0, l1)] [] (nb_wr (nb_wr M 603 0 0) 603 11 0) _
  obtain ⟨p0_, p1_, H⟩ := H
  replace H := nb_Hw H
  have E3 : nb_rd (nb_wr (nb_wr M 603 0 0) 603 11 0) 603 14 = M.1 603 14 := nb_rdw (Or.inr (by decide)) (nb_rdw (Or.inr (by decide)) (nb_rd_1 _ _ _))
  refine nb_Wg (q_m_waitingAt_1 _ _ _ (by omega)) ?_
  simp only [E3]
  clear E3
  refine nb_Gi (fun c24 => ?_) (fun c24 => ?_)
  · have H := nb_Hw ((nb_Hu H).1 c24)
    refine nb_Gr ?_
    refine nb_Wg (q_m_waitingAt_2 _ _ _ (by omega)) ?_
    refine nb_Gb ?_
    refine nb_Wg (q_m_no_0 _ _ _ (by omega)) ?_
    have W4 : nb_Lay (nb_wr (nb_wr (nb_wr M 603 0 0) 603 11 0) 603 11 1) := W2.wr (fun w => (nb_nlit (by decide) (by decide)))
    refine nb_Gr ?_
    refine nb_Wg (q_m_no_1 _ _ _) ?_
    refine nb_Gs ?_
    show nb_W 159 3 [(20, 603), (0, l1)] [(0, (-1))] (nb_wr (nb_wr (nb_wr M 603 0 0) 603 11 0) 603 11 1) _
    refine nb_Wg (q_m_waitingAt_3 _ _ _ _) ?_
    refine nb_Gs ?_
    exact nb_Hu H W4
  · have H := nb_Hw ((nb_Hu H).2 (by omega))
    have c24 : M.1 603 14 ≠ 0 := by omega
    refine nb_Gr ?_
    have E5 : nb_rd (nb_wr (nb_wr M 603 0 0) 603 11 0) 603 17 = 608 := W2.m17
    have N6 : nb_ln (nb_wr (nb_wr M 603 0 0) 603 11 0) 608 = 108 := W2.lk (by decide) (by decide +kernel)
    have E7 : nb_rd (nb_wr (nb_wr M 603 0 0) 603 11 0) 608 0 = M.1 608 0 := nb_rdw (Or.inl (by decide)) (nb_rdw (Or.inl (by decide)) (nb_rd_1 _ _ _))
    have E8 : nb_rd (nb_wr (nb_wr M 603 0 0) 603 11 0) 603 15 = 606 := W2.m15
    have N9 : nb_ln (nb_wr (nb_wr M 603 0 0) 603 11 0) 606 = 347 := W2.lk (by decide) (by decide +kernel)
    have E10 : nb_rd (nb_wr (nb_wr M 603 0 0) 603 11 0) 606 2 = M.1 606 2 := nb_rdw (Or.inl (by decide)) (nb_rdw (Or.inl (by decide)) (nb_rd_1 _ _ _))
    refine nb_Wg (q_m_waitingAt_4 _ _ _ (by omega) (by rw [E5]; first | done | omega) (by omega) (by rw [E5, N6]; first | done | omega) (by rw [E8]; first | done | omega) (by omega) (by rw [E8, N9]; first | done | omega)) ?_
    simp only [E5, E7, E8, E10]
    clear E5 N6 E7 E8 N9 E10
    refine nb_Gb ?_
    refine nb_Wg (q_m_within_0 _ _ _ _) ?_
    refine nb_Gi (fun c23 => ?_) (fun c23 => ?_)
    · have H := nb_Hw ((nb_Hu H).1 c23)
      refine nb_Gr ?_
      refine nb_Wg (q_m_within_3 _ _ _ _) ?_
      refine nb_Gr ?_
      have E11 : nb_i2z 0 = 0 := by decide
      refine nb_Wg (q_m_within_4 _ _ _ _ _) ?_
      simp only [E11]
      clear E11
      refine nb_Gs ?_
      show nb_W 159 5 [(20, 603), (0, l1)] [(0, 0)] (nb_wr (nb_wr M 603 0 0) 603 11 0) _
      refine nb_Wg (q_m_waitingAt_5 _ _ _ _) ?_
      refine nb_Gt (by decide) ?_
      refine nb_Gr ?_
      refine nb_Wg (q_m_waitingAt_6 _ _ _ (by omega)) ?_
      refine nb_Gb ?_
      refine nb_Wg (q_m_no_0 _ _ _ (by omega)) ?_
      have W12 : nb_Lay (nb_wr (nb_wr (nb_wr M 603 0 0) 603 11 0) 603 11 2) := W2.wr (fun w => (nb_nlit (by decide) (by decide)))
      refine nb_Gr ?_
      refine nb_Wg (q_m_no_1 _ _ _) ?_
      refine nb_Gs ?_
      show nb_W 159 7 [(20, 603), (0, l1)] [(0, (-1))] (nb_wr (nb_wr (nb_wr M 603 0 0) 603 11 0) 603 11 2) _
      refine nb_Wg (q_m_waitingAt_7 _ _ _ _) ?_
      refine nb_Gs ?_
      exact nb_Hu H W12
    · have H := nb_Hw ((nb_Hu H).2 (by omega))
      have c23 : M.1 608 0 ≤ l1 := by omega
      refine nb_Gr ?_
      refine nb_Wg (q_m_within_1 _ _ _ _) ?_
      refine nb_Gi (fun c22 => ?_) (fun c22 => ?_)
      · have H := nb_Hw ((nb_Hu H).1 c22)
        refine nb_Gr ?_
        refine nb_Wg (q_m_within_3 _ _ _ _) ?_
        refine nb_Gr ?_
        have E13 : nb_i2z 0 = 0 := by decide
        refine nb_Wg (q_m_within_4 _ _ _ _ _) ?_
        simp only [E13]
        clear E13
        refine nb_Gs ?_
        show nb_W 159 5 [(20, 603), (0, l1)] [(0, 0)] (nb_wr (nb_wr M 603 0 0) 603 11 0) _
        refine nb_Wg (q_m_waitingAt_5 _ _ _ _) ?_
        refine nb_Gt (by decide) ?_
        refine nb_Gr ?_
        refine nb_Wg (q_m_waitingAt_6 _ _ _ (by omega)) ?_
        refine nb_Gb ?_
        refine nb_Wg (q_m_no_0 _ _ _ (by omega)) ?_
        have W14 : nb_Lay (nb_wr (nb_wr (nb_wr M 603 0 0) 603 11 0) 603 11 2) := W2.wr (fun w => (nb_nlit (by decide) (by decide)))
        refine nb_Gr ?_
        refine nb_Wg (q_m_no_1 _ _ _) ?_
        refine nb_Gs ?_
        show nb_W 159 7 [(20, 603), (0, l1)] [(0, (-1))] (nb_wr (nb_wr (nb_wr M 603 0 0) 603 11 0) 603 11 2) _
        refine nb_Wg (q_m_waitingAt_7 _ _ _ _) ?_
        refine nb_Gs ?_
        exact nb_Hu H W14
      · have H := nb_Hw ((nb_Hu H).2 (by omega))
        have c22 : l1 ≤ M.1 606 2 := by omega
        refine nb_Gr ?_
        refine nb_Wg (q_m_within_2 _ _ _ _) ?_
        refine nb_Gr ?_
        have E15 : nb_i2z 1 = 1 := by decide
        refine nb_Wg (q_m_within_4 _ _ _ _ _) ?_
        simp only [E15]
        clear E15
        refine nb_Gs ?_
        show nb_W 159 5 [(20, 603), (0, l1)] [(0, 1)] (nb_wr (nb_wr M 603 0 0) 603 11 0) _
        refine nb_Wg (q_m_waitingAt_5 _ _ _ _) ?_
        refine nb_Gf (by decide) ?_
        refine nb_Gr ?_
        refine nb_Wg (q_m_waitingAt_8 _ _ _ (by omega)) ?_
        have W16 : nb_Lay (nb_wr (nb_wr (nb_wr M 603 0 0) 603 11 0) 603 25 ((M.1 606) 4)) := W2.wr (fun w => (nb_nlit (by decide) (by decide)))
        have W17 : nb_Lay (nb_up (nb_wr (nb_wr (nb_wr M 603 0 0) 603 11 0) 603 25 ((M.1 606) 4)) 612 (pu_cpy (M.1 606) (M.1 612) 23 0 18)) := W16.up (fun i w => (nb_nnum (by decide) (by decide)))
        have W18 : nb_Lay (nb_up (nb_up (nb_wr (nb_wr (nb_wr M 603 0 0) 603 11 0) 603 25 ((M.1 606) 4)) 612 (pu_cpy (M.1 606) (M.1 612) 23 0 18)) 613 (pu_cpy (M.1 606) (M.1 613) 41 0 70)) := W17.up (fun i w => (nb_nnum (by decide) (by decide)))
        rw [show nb_R nb_P 121 0 [(20, 603)] [] (nb_wr (nb_wr M 603 0 0) 603 11 0) = some ([], nb_up (nb_up (nb_wr (nb_wr (nb_wr M 603 0 0) 603 11 0) 603 25 ((M.1 606) 4)) 612 (pu_cpy (M.1 606) (M.1 612) 23 0 18)) 613 (pu_cpy (M.1 606) (M.1 613) 41 0 70)) from (sp_m_asTold W2).trans (by first | rfl | simp [nb_wr_up, nb_up_1, nb_up_up, nb_ud])]
        refine nb_Gp ?_
        show nb_W 159 9 [(20, 603), (0, l1)] [] (nb_up (nb_up (nb_wr (nb_wr (nb_wr M 603 0 0) 603 11 0) 603 25 ((M.1 606) 4)) 612 (pu_cpy (M.1 606) (M.1 612) 23 0 18)) 613 (pu_cpy (M.1 606) (M.1 613) 41 0 70)) _
        refine nb_Wg (q_m_waitingAt_9 _ _ _ (by omega)) ?_
        have W19 : nb_Lay (nb_wr (nb_up (nb_up (nb_wr (nb_wr (nb_wr M 603 0 0) 603 11 0) 603 25 ((M.1 606) 4)) 612 (pu_cpy (M.1 606) (M.1 612) 23 0 18)) 613 (pu_cpy (M.1 606) (M.1 613) 41 0 70)) 603 26 l1) := W18.wr (fun w => (nb_nlit (by decide) (by decide)))
        refine nb_Gr ?_
        obtain ⟨p0_, p1_, p2_, p3_, p4_, p5_, p6_, p7_, p8_, H⟩ := H
        replace H := nb_Hw H
        refine nb_Wg (q_m_waitingAt_10 _ _ _ (by omega)) ?_
        have W20 : nb_Lay (nb_up (nb_wr (nb_up (nb_up (nb_wr (nb_wr (nb_wr M 603 0 0) 603 11 0) 603 25 ((M.1 606) 4)) 612 (pu_cpy (M.1 606) (M.1 612) 23 0 18)) 613 (pu_cpy (M.1 606) (M.1 613) 41 0 70)) 603 26 l1) 609 (pu_eve (M.1 606) (pu_cpy (M.1 606) (M.1 612) 23 0 18) (pu_cpy (M.1 606) (M.1 613) 41 0 70) ((M.1 606) 4) l1 (pu_cpy (M.1 608) (M.1 609) 0 0 108))) := W19.up (fun i w => (nb_nnum (by decide) (by decide)))
        rw [show nb_R nb_P 134 0 [(20, 603)] [] (nb_wr (nb_up (nb_up (nb_wr (nb_wr (nb_wr M 603 0 0) 603 11 0) 603 25 ((M.1 606) 4)) 612 (pu_cpy (M.1 606) (M.1 612) 23 0 18)) 613 (pu_cpy (M.1 606) (M.1 613) 41 0 70)) 603 26 l1) = some ([], nb_up (nb_wr (nb_up (nb_up (nb_wr (nb_wr (nb_wr M 603 0 0) 603 11 0) 603 25 ((M.1 606) 4)) 612 (pu_cpy (M.1 606) (M.1 612) 23 0 18)) 613 (pu_cpy (M.1 606) (M.1 613) 41 0 70)) 603 26 l1) 609 (pu_eve (M.1 606) (pu_cpy (M.1 606) (M.1 612) 23 0 18) (pu_cpy (M.1 606) (M.1 613) 41 0 70) ((M.1 606) 4) l1 (pu_cpy (M.1 608) (M.1 609) 0 0 108))) from (sp_m_evening W19 (by first | assumption | omega | (simp [nb_wr_up, nb_up_1, nb_ud]; first | assumption | omega)) (by first | assumption | omega | (simp [nb_wr_up, nb_up_1, nb_ud]; first | assumption | omega)) (by first | assumption | omega | (simp [nb_wr_up, nb_up_1, nb_ud]; first | assumption | omega)) (by first | assumption | omega | (simp [nb_wr_up, nb_up_1, nb_ud]; first | assumption | omega)) (by first | assumption | omega | (simp [nb_wr_up, nb_up_1, nb_ud]; first | assumption | omega)) (by first | assumption | omega | (simp [nb_wr_up, nb_up_1, nb_ud]; first | assumption | omega)) (by first | assumption | omega | (simp [nb_wr_up, nb_up_1, nb_ud]; first | assumption | omega))).trans (by first | rfl | simp [nb_wr_up, nb_up_1, nb_up_up, nb_ud])]
        refine nb_Gp ?_
        show nb_W 159 11 [(20, 603), (0, l1)] [] (nb_up (nb_wr (nb_up (nb_up (nb_wr (nb_wr (nb_wr M 603 0 0) 603 11 0) 603 25 ((M.1 606) 4)) 612 (pu_cpy (M.1 606) (M.1 612) 23 0 18)) 613 (pu_cpy (M.1 606) (M.1 613) 41 0 70)) 603 26 l1) 609 (pu_eve (M.1 606) (pu_cpy (M.1 606) (M.1 612) 23 0 18) (pu_cpy (M.1 606) (M.1 613) 41 0 70) ((M.1 606) 4) l1 (pu_cpy (M.1 608) (M.1 609) 0 0 108))) _
        have E21 : nb_rd (nb_up (nb_wr (nb_up (nb_up (nb_wr (nb_wr (nb_wr M 603 0 0) 603 11 0) 603 25 ((M.1 606) 4)) 612 (pu_cpy (M.1 606) (M.1 612) 23 0 18)) 613 (pu_cpy (M.1 606) (M.1 613) 41 0 70)) 603 26 l1) 609 (pu_eve (M.1 606) (pu_cpy (M.1 606) (M.1 612) 23 0 18) (pu_cpy (M.1 606) (M.1 613) 41 0 70) ((M.1 606) 4) l1 (pu_cpy (M.1 608) (M.1 609) 0 0 108))) 603 18 = 609 := W20.m18
        refine nb_Wg (q_m_waitingAt_11 _ _ _ (by omega)) ?_
        simp only [E21]
        clear E21
        rw [show nb_R nb_P 145 0 [(20, 603), (3, 609), (98, 0), (98, 0)] [] (nb_up (nb_wr (nb_up (nb_up (nb_wr (nb_wr (nb_wr M 603 0 0) 603 11 0) 603 25 ((M.1 606) 4)) 612 (pu_cpy (M.1 606) (M.1 612) 23 0 18)) 613 (pu_cpy (M.1 606) (M.1 613) 41 0 70)) 603 26 l1) 609 (pu_eve (M.1 606) (pu_cpy (M.1 606) (M.1 612) 23 0 18) (pu_cpy (M.1 606) (M.1 613) 41 0 70) ((M.1 606) 4) l1 (pu_cpy (M.1 608) (M.1 609) 0 0 108))) = some ([(0, pu_cnt (pu_eve (M.1 606) (pu_cpy (M.1 606) (M.1 612) 23 0 18) (pu_cpy (M.1 606) (M.1 613) 41 0 70) ((M.1 606) 4) l1 (pu_cpy (M.1 608) (M.1 609) 0 0 108)) 1 ((M.1 606) 5).toNat)], nb_up (nb_wr (nb_up (nb_up (nb_wr (nb_wr (nb_wr M 603 0 0) 603 11 0) 603 25 ((M.1 606) 4)) 612 (pu_cpy (M.1 606) (M.1 612) 23 0 18)) 613 (pu_cpy (M.1 606) (M.1 613) 41 0 70)) 603 26 l1) 609 (pu_eve (M.1 606) (pu_cpy (M.1 606) (M.1 612) 23 0 18) (pu_cpy (M.1 606) (M.1 613) 41 0 70) ((M.1 606) 4) l1 (pu_cpy (M.1 608) (M.1 609) 0 0 108))) from (sp_m_manyWaiting W20 (by decide) (by decide) (W20.lk (by decide) (by decide +kernel)) (by first | assumption | omega | (simp [nb_wr_up, nb_up_1, nb_ud]; first | assumption | omega))).trans (by first | rfl | simp [nb_wr_up, nb_up_1, nb_up_up, nb_ud])]
        refine nb_Gp ?_
        show nb_W 159 12 [(20, 603), (0, l1)] [(0, pu_cnt (pu_eve (M.1 606) (pu_cpy (M.1 606) (M.1 612) 23 0 18) (pu_cpy (M.1 606) (M.1 613) 41 0 70) ((M.1 606) 4) l1 (pu_cpy (M.1 608) (M.1 609) 0 0 108)) 1 ((M.1 606) 5).toNat)] (nb_up (nb_wr (nb_up (nb_up (nb_wr (nb_wr (nb_wr M 603 0 0) 603 11 0) 603 25 ((M.1 606) 4)) 612 (pu_cpy (M.1 606) (M.1 612) 23 0 18)) 613 (pu_cpy (M.1 606) (M.1 613) 41 0 70)) 603 26 l1) 609 (pu_eve (M.1 606) (pu_cpy (M.1 606) (M.1 612) 23 0 18) (pu_cpy (M.1 606) (M.1 613) 41 0 70) ((M.1 606) 4) l1 (pu_cpy (M.1 608) (M.1 609) 0 0 108))) _
        refine nb_Wg (q_m_waitingAt_12 _ _ _ _) ?_
        refine nb_Gs ?_
        exact nb_Hu H W20

theorem w_c_waitingAt_0 {l1 Ho : Int} {v2 : nb_V} {M : nb_M} {Q : List nb_V → nb_M → Prop} (W : nb_Lay M) (hHo : nb_hs Ho) (hx2 : M.1 2 2 = Ho) (H : 0 ≤ M.1 Ho 13 ∧ M.1 Ho 13 ≤ 10 ∧ (0 < M.1 Ho 13 → (l1 < M.1 84 7 → (nb_Lay (nb_wr (nb_wr M 2 15 0) 2 15 2) → Q [(0, (-1))] (nb_wr (nb_wr M 2 15 0) 2 15 2))) ∧ (M.1 84 7 ≤ l1 → (M.1 Ho 10 < l1 → (nb_Lay (nb_wr (nb_wr M 2 15 0) 2 15 2) → Q [(0, (-1))] (nb_wr (nb_wr M 2 15 0) 2 15 2))) ∧ (l1 ≤ M.1 Ho 10 → nb_W 23 0 [(19, 2)] [] (nb_wr (nb_wr M 2 15 0) 2 15 0) (fun r M17 => r = [(15, 106)] ∧ nb_Lay M17 ∧ M17.1 2 2 = Ho ∧ nb_W 257 0 [(15, 106), (0, l1), (98, 0), (98, 0)] [] M17 (fun r M21 => r = [] ∧ nb_Lay M21 ∧ M21.1 2 2 = Ho ∧ nb_W 265 0 [(15, 106), (0, 1), (98, 0), (98, 0)] [] M21 (fun r M25 => ∃ x24 : Int, r = [(0, x24)] ∧ nb_Lay M25 ∧ M25.1 2 2 = Ho ∧ (nb_Lay M25 → Q [(0, x24)] M25))))))) ∧ (M.1 Ho 13 ≤ 0 → (nb_Lay (nb_wr M 2 15 1) → Q [(0, (-1))] (nb_wr M 2 15 1)))) :
    nb_W 51 0 [(19, 2), (0, l1), v2] [] M Q := by
  replace H := nb_Hw H
  have uhHo := hHo
  unfold nb_hs at uhHo
  refine nb_Wg (q_c_waitingAt_0 _ _ _ _ (by omega)) ?_
  refine nb_Gb ?_
  obtain ⟨p0_, p1_, H⟩ := H
  replace H := nb_Hw H
  have E1 : nb_rd M 2 2 = Ho := hx2
  have E2 : nb_rd M Ho 13 = M.1 Ho 13 := nb_rd_1 _ _ _
  refine nb_Wg (q_c_isOpen_0 _ _ (by omega) (by rw [E1]; first | done | omega)) ?_
  simp only [E1, E2]
  clear E1 E2
  refine nb_Gi (fun c33 => ?_) (fun c33 => ?_)
  · have H := nb_Hw ((nb_Hu H).1 c33)
    refine nb_Gr ?_
    refine nb_Wg (q_c_isOpen_1 _ _) ?_
    refine nb_Gr ?_
    have E3 : nb_i2z 1 = 1 := by decide
    refine nb_Wg (q_c_isOpen_3 _ _ _) ?_
    simp only [E3]
    clear E3
    refine nb_Gs ?_
    show nb_W 51 1 [(19, 2), (0, l1), v2] [(0, 1), (19, 2)] M _
    refine nb_Wg (q_c_waitingAt_1 _ _ _ _ _ _ (by omega)) ?_
    refine nb_Gb ?_
    refine nb_Wg (q_c_granted_0 _ _ _ _) ?_
    refine nb_Gf (by decide) ?_
    refine nb_Gr ?_
    refine nb_Wg (q_c_granted_1 _ _ _ _ _) ?_
    refine nb_Gr ?_
    refine nb_Wg (q_c_granted_3 _ _ _ _ _ _ (by omega)) ?_
    have W4 : nb_Lay (nb_wr M 2 15 0) := W.wr (fun w => (nb_nlit (by decide) (by decide)))
    refine nb_Gr ?_
    have E5 : nb_i2z 1 = 1 := by decide
    refine nb_Wg (q_c_granted_4 _ _ _ _) ?_
    simp only [E5]
    clear E5
    refine nb_Gs ?_
    show nb_W 51 2 [(19, 2), (0, l1), v2] [(0, 1)] (nb_wr M 2 15 0) _
    refine nb_Wg (q_c_waitingAt_2 _ _ _ _ _) ?_
    refine nb_Gf (by decide) ?_
    refine nb_Gr ?_
    have E6 : nb_rd (nb_wr M 2 15 0) 2 5 = 84 := W4.c5
    have E7 : nb_rd (nb_wr M 2 15 0) 84 7 = M.1 84 7 := nb_rdw (Or.inl (by decide)) (nb_rd_1 _ _ _)
    refine nb_Wg (q_c_waitingAt_3 _ _ _ _ (by omega) (by rw [E6]; first | done | omega)) ?_
    simp only [E6, E7]
    clear E6 E7
    refine nb_Gi (fun c29 => ?_) (fun c29 => ?_)
    · have H := nb_Hw ((nb_Hu H).1 c29)
      refine nb_Gr ?_
      refine nb_Wg (q_c_waitingAt_6 _ _ _ _ _) ?_
      refine nb_Gr ?_
      refine nb_Wg (q_c_waitingAt_7 _ _ _ _ _ _ (by omega)) ?_
      refine nb_Gb ?_
      refine nb_Wg (q_c_granted_0 _ _ _ _) ?_
      refine nb_Gt (by decide) ?_
      refine nb_Gr ?_
      refine nb_Wg (q_c_granted_2 _ _ _ _ _) ?_
      refine nb_Gr ?_
      refine nb_Wg (q_c_granted_3 _ _ _ _ _ _ (by omega)) ?_
      have W8 : nb_Lay (nb_wr (nb_wr M 2 15 0) 2 15 2) := W4.wr (fun w => (nb_nlit (by decide) (by decide)))
      refine nb_Gr ?_
      have E9 : nb_i2z 0 = 0 := by decide
      refine nb_Wg (q_c_granted_4 _ _ _ _) ?_
      simp only [E9]
      clear E9
      refine nb_Gs ?_
      show nb_W 51 8 [(19, 2), (0, l1), v2] [(0, 0)] (nb_wr (nb_wr M 2 15 0) 2 15 2) _
      refine nb_Wg (q_c_waitingAt_8 _ _ _ _ _) ?_
      refine nb_Gt (by decide) ?_
      refine nb_Gr ?_
      refine nb_Wg (q_c_waitingAt_9 _ _ _ _) ?_
      refine nb_Gs ?_
      exact nb_Hu H W8
    · have H := nb_Hw ((nb_Hu H).2 (by omega))
      have c29 : M.1 84 7 ≤ l1 := by omega
      refine nb_Gr ?_
      have E10 : nb_rd (nb_wr M 2 15 0) 2 2 = Ho := nb_rdw (Or.inr (by decide)) (hx2)
      have E11 : nb_rd (nb_wr M 2 15 0) Ho 10 = M.1 Ho 10 := nb_rdw (Or.inr (by decide)) (nb_rd_1 _ _ _)
      refine nb_Wg (q_c_waitingAt_4 _ _ _ _ _ (by omega) (by rw [E10]; first | done | omega)) ?_
      simp only [E10, E11]
      clear E10 E11
      refine nb_Gi (fun c28 => ?_) (fun c28 => ?_)
      · have H := nb_Hw ((nb_Hu H).1 c28)
        refine nb_Gr ?_
        refine nb_Wg (q_c_waitingAt_6 _ _ _ _ _) ?_
        refine nb_Gr ?_
        refine nb_Wg (q_c_waitingAt_7 _ _ _ _ _ _ (by omega)) ?_
        refine nb_Gb ?_
        refine nb_Wg (q_c_granted_0 _ _ _ _) ?_
        refine nb_Gt (by decide) ?_
        refine nb_Gr ?_
        refine nb_Wg (q_c_granted_2 _ _ _ _ _) ?_
        refine nb_Gr ?_
        refine nb_Wg (q_c_granted_3 _ _ _ _ _ _ (by omega)) ?_
        have W12 : nb_Lay (nb_wr (nb_wr M 2 15 0) 2 15 2) := W4.wr (fun w => (nb_nlit (by decide) (by decide)))
        refine nb_Gr ?_
        have E13 : nb_i2z 0 = 0 := by decide
        refine nb_Wg (q_c_granted_4 _ _ _ _) ?_
        simp only [E13]
        clear E13
        refine nb_Gs ?_
        show nb_W 51 8 [(19, 2), (0, l1), v2] [(0, 0)] (nb_wr (nb_wr M 2 15 0) 2 15 2) _
        refine nb_Wg (q_c_waitingAt_8 _ _ _ _ _) ?_
        refine nb_Gt (by decide) ?_
        refine nb_Gr ?_
        refine nb_Wg (q_c_waitingAt_9 _ _ _ _) ?_
        refine nb_Gs ?_
        exact nb_Hu H W12
      · have H := nb_Hw ((nb_Hu H).2 (by omega))
        have c28 : l1 ≤ M.1 Ho 10 := by omega
        refine nb_Gr ?_
        refine nb_Wg (q_c_waitingAt_5 _ _ _ _ _) ?_
        refine nb_Gr ?_
        refine nb_Wg (q_c_waitingAt_7 _ _ _ _ _ _ (by omega)) ?_
        refine nb_Gb ?_
        refine nb_Wg (q_c_granted_0 _ _ _ _) ?_
        refine nb_Gf (by decide) ?_
        refine nb_Gr ?_
        refine nb_Wg (q_c_granted_1 _ _ _ _ _) ?_
        refine nb_Gr ?_
        refine nb_Wg (q_c_granted_3 _ _ _ _ _ _ (by omega)) ?_
        have W14 : nb_Lay (nb_wr (nb_wr M 2 15 0) 2 15 0) := W4.wr (fun w => (nb_nlit (by decide) (by decide)))
        refine nb_Gr ?_
        have E15 : nb_i2z 1 = 1 := by decide
        refine nb_Wg (q_c_granted_4 _ _ _ _) ?_
        simp only [E15]
        clear E15
        refine nb_Gs ?_
        show nb_W 51 8 [(19, 2), (0, l1), v2] [(0, 1)] (nb_wr (nb_wr M 2 15 0) 2 15 0) _
        refine nb_Wg (q_c_waitingAt_8 _ _ _ _ _) ?_
        refine nb_Gf (by decide) ?_
        refine nb_Gr ?_
        refine nb_Wg (q_c_waitingAt_10 _ _ _ _ (by omega)) ?_
        refine nb_Gb ?_
        refine nb_W.imp (nb_Hu H) (fun r M17 H => ?_)
        obtain ⟨rfl, W18, g19, H⟩ := H
        replace H := nb_Hw H
        show nb_W 51 11 [(19, 2), (0, l1), v2] [(15, 106)] M17 _
        refine nb_Wg (q_c_waitingAt_11 _ _ _ _ _ (by omega)) ?_
        refine nb_Gb ?_
        refine nb_W.imp (nb_Hu H) (fun r M21 H => ?_)
        obtain ⟨rfl, W22, g23, H⟩ := H
        replace H := nb_Hw H
        show nb_W 51 12 [(19, 2), (0, l1), (15, 106)] [] M21 _
        refine nb_Wg (q_c_waitingAt_12 _ _ _ _ (by omega)) ?_
        refine nb_Gb ?_
        refine nb_W.imp (nb_Hu H) (fun r M25 H => ?_)
        obtain ⟨x24, rfl, W26, g27, H⟩ := H
        replace H := nb_Hw H
        show nb_W 51 13 [(19, 2), (0, l1), (15, 106)] [(0, x24)] M25 _
        refine nb_Wg (q_c_waitingAt_13 _ _ _ _ _) ?_
        refine nb_Gs ?_
        exact nb_Hu H W26
  · have H := nb_Hw ((nb_Hu H).2 (by omega))
    have c33 : M.1 Ho 13 ≤ 0 := by omega
    refine nb_Gr ?_
    refine nb_Wg (q_c_isOpen_2 _ _) ?_
    refine nb_Gr ?_
    have E30 : nb_i2z 0 = 0 := by decide
    refine nb_Wg (q_c_isOpen_3 _ _ _) ?_
    simp only [E30]
    clear E30
    refine nb_Gs ?_
    show nb_W 51 1 [(19, 2), (0, l1), v2] [(0, 0), (19, 2)] M _
    refine nb_Wg (q_c_waitingAt_1 _ _ _ _ _ _ (by omega)) ?_
    refine nb_Gb ?_
    refine nb_Wg (q_c_granted_0 _ _ _ _) ?_
    refine nb_Gt (by decide) ?_
    refine nb_Gr ?_
    refine nb_Wg (q_c_granted_2 _ _ _ _ _) ?_
    refine nb_Gr ?_
    refine nb_Wg (q_c_granted_3 _ _ _ _ _ _ (by omega)) ?_
    have W31 : nb_Lay (nb_wr M 2 15 1) := W.wr (fun w => (nb_nlit (by decide) (by decide)))
    refine nb_Gr ?_
    have E32 : nb_i2z 0 = 0 := by decide
    refine nb_Wg (q_c_granted_4 _ _ _ _) ?_
    simp only [E32]
    clear E32
    refine nb_Gs ?_
    show nb_W 51 2 [(19, 2), (0, l1), v2] [(0, 0)] (nb_wr M 2 15 1) _
    refine nb_Wg (q_c_waitingAt_2 _ _ _ _ _) ?_
    refine nb_Gt (by decide) ?_
    refine nb_Gr ?_
    refine nb_Wg (q_c_waitingAt_9 _ _ _ _) ?_
    refine nb_Gs ?_
    exact nb_Hu H W31

theorem w_m_bell_0 {l1 l2 : Int} {M : nb_M} {Q : List nb_V → nb_M → Prop} (W : nb_Lay M) (H : 0 ≤ M.1 603 14 ∧ M.1 603 14 ≤ 1 ∧ (M.1 603 14 = 0 → (nb_Lay (nb_wr (nb_wr (nb_wr M 603 0 0) 603 11 0) 603 11 1) → Q [(0, (-1))] (nb_wr (nb_wr (nb_wr M 603 0 0) 603 11 0) 603 11 1))) ∧ (M.1 603 14 ≠ 0 → (l2 < 0 → (nb_Lay (nb_wr (nb_wr (nb_wr M 603 0 0) 603 11 0) 603 11 1) → Q [(0, (-1))] (nb_wr (nb_wr (nb_wr M 603 0 0) 603 11 0) 603 11 1))) ∧ (0 ≤ l2 → (5 < l2 → (nb_Lay (nb_wr (nb_wr (nb_wr M 603 0 0) 603 11 0) 603 11 1) → Q [(0, (-1))] (nb_wr (nb_wr (nb_wr M 603 0 0) 603 11 0) 603 11 1))) ∧ (l2 ≤ 5 → (l1 < M.1 608 0 → (nb_Lay (nb_wr (nb_wr (nb_wr M 603 0 0) 603 11 0) 603 11 2) → Q [(0, (-1))] (nb_wr (nb_wr (nb_wr M 603 0 0) 603 11 0) 603 11 2))) ∧ (M.1 608 0 ≤ l1 → (900 < l1 → (nb_Lay (nb_wr (nb_wr (nb_wr M 603 0 0) 603 11 0) 603 11 2) → Q [(0, (-1))] (nb_wr (nb_wr (nb_wr M 603 0 0) 603 11 0) 603 11 2))) ∧ (l1 ≤ 900 → pu_Rr (M.1 606) ∧ pu_Rc (pu_cpy (M.1 606) (M.1 612) 23 0 18) ∧ pu_Rp (pu_cpy (M.1 606) (M.1 613) 41 0 70) ∧ pu_Rw (M.1 608) ∧ pu_Rk (M.1 608) ∧ 0 ≤ (M.1 606) 4 ∧ (M.1 606) 4 ≤ 4 ∧ 0 ≤ l1 ∧ l1 ≤ 9000 ∧ pu_Rw (pu_eve (M.1 606) (pu_cpy (M.1 606) (M.1 612) 23 0 18) (pu_cpy (M.1 606) (M.1 613) 41 0 70) ((M.1 606) 4) l1 (pu_cpy (M.1 608) (M.1 609) 0 0 108)) ∧ (nb_Lay (nb_up (nb_wr (nb_up (nb_up (nb_wr (nb_wr (nb_wr M 603 0 0) 603 11 0) 603 25 ((M.1 606) 4)) 612 (pu_cpy (M.1 606) (M.1 612) 23 0 18)) 613 (pu_cpy (M.1 606) (M.1 613) 41 0 70)) 603 26 l1) 609 (pu_eve (M.1 606) (pu_cpy (M.1 606) (M.1 612) 23 0 18) (pu_cpy (M.1 606) (M.1 613) 41 0 70) ((M.1 606) 4) l1 (pu_cpy (M.1 608) (M.1 609) 0 0 108))) → Q [(0, pu_sum (M.1 606) (pu_cpy (M.1 606) (M.1 613) 41 0 70) (pu_eve (M.1 606) (pu_cpy (M.1 606) (M.1 612) 23 0 18) (pu_cpy (M.1 606) (M.1 613) 41 0 70) ((M.1 606) 4) l1 (pu_cpy (M.1 608) (M.1 609) 0 0 108)) ((M.1 606) 5) l1 l2)] (nb_up (nb_wr (nb_up (nb_up (nb_wr (nb_wr (nb_wr M 603 0 0) 603 11 0) 603 25 ((M.1 606) 4)) 612 (pu_cpy (M.1 606) (M.1 612) 23 0 18)) 613 (pu_cpy (M.1 606) (M.1 613) 41 0 70)) 603 26 l1) 609 (pu_eve (M.1 606) (pu_cpy (M.1 606) (M.1 612) 23 0 18) (pu_cpy (M.1 606) (M.1 613) 41 0 70) ((M.1 606) 4) l1 (pu_cpy (M.1 608) (M.1 609) 0 0 108)))))))))) :
    nb_W 160 0 [(20, 603), (0, l1), (0, l2)] [] M Q := by
  replace H := nb_Hw H
  refine nb_Wg (q_m_bell_0 _ _ _ _ (by omega)) ?_
  refine nb_Gb ?_
  refine nb_Wg (q_m_good_0 _ _ (by omega)) ?_
  have W1 : nb_Lay (nb_wr M 603 0 0) := W.wr (fun w => (nb_nlit (by decide) (by decide)))
  refine nb_Gr ?_
  refine nb_Wg (q_m_good_1 _ _ (by omega)) ?_
  have W2 : nb_Lay (nb_wr (nb_wr M 603 0 0) 603 11 0) := W1.wr (fun w => (nb_nlit (by decide) (by decide)))
  refine nb_Gr ?_
  refine nb_Wg (q_m_good_2 _ _) ?_
  refine nb_Gs ?_
  show nb_W 160 1 [(20, 603), (0, l1), (0, l2)] [] (nb_wr (nb_wr M 603 0 0) 603 11 0) _
  obtain ⟨p0_, p1_, H⟩ := H
  replace H := nb_Hw H
  have E3 : nb_rd (nb_wr (nb_wr M 603 0 0) 603 11 0) 603 14 = M.1 603 14 := nb_rdw (Or.inr (by decide)) (nb_rdw (Or.inr (by decide)) (nb_rd_1 _ _ _))
  refine nb_Wg (q_m_bell_1 _ _ _ _ (by omega)) ?_
  simp only [E3]
  clear E3
  refine nb_Gi (fun c27 => ?_) (fun c27 => ?_)
  · have H := nb_Hw ((nb_Hu H).1 c27)
    refine nb_Gr ?_
    refine nb_Wg (q_m_bell_4 _ _ _ _ (by omega)) ?_
    refine nb_Gb ?_
    refine nb_Wg (q_m_no_0 _ _ _ (by omega)) ?_
    have W4 : nb_Lay (nb_wr (nb_wr (nb_wr M 603 0 0) 603 11 0) 603 11 1) := W2.wr (fun w => (nb_nlit (by decide) (by decide)))
    refine nb_Gr ?_
    refine nb_Wg (q_m_no_1 _ _ _) ?_
    refine nb_Gs ?_
    show nb_W 160 5 [(20, 603), (0, l1), (0, l2)] [(0, (-1))] (nb_wr (nb_wr (nb_wr M 603 0 0) 603 11 0) 603 11 1) _
    refine nb_Wg (q_m_bell_5 _ _ _ _ _) ?_
    refine nb_Gs ?_
    exact nb_Hu H W4
  · have H := nb_Hw ((nb_Hu H).2 (by omega))
    have c27 : M.1 603 14 ≠ 0 := by omega
    refine nb_Gr ?_
    refine nb_Wg (q_m_bell_2 _ _ _ _) ?_
    refine nb_Gb ?_
    refine nb_Wg (q_m_within_0 _ _ _ _) ?_
    refine nb_Gi (fun c26 => ?_) (fun c26 => ?_)
    · have H := nb_Hw ((nb_Hu H).1 c26)
      refine nb_Gr ?_
      refine nb_Wg (q_m_within_3 _ _ _ _) ?_
      refine nb_Gr ?_
      have E5 : nb_i2z 0 = 0 := by decide
      refine nb_Wg (q_m_within_4 _ _ _ _ _) ?_
      simp only [E5]
      clear E5
      refine nb_Gs ?_
      show nb_W 160 3 [(20, 603), (0, l1), (0, l2)] [(0, 0)] (nb_wr (nb_wr M 603 0 0) 603 11 0) _
      refine nb_Wg (q_m_bell_3 _ _ _ _ _) ?_
      refine nb_Gt (by decide) ?_
      refine nb_Gr ?_
      refine nb_Wg (q_m_bell_4 _ _ _ _ (by omega)) ?_
      refine nb_Gb ?_
      refine nb_Wg (q_m_no_0 _ _ _ (by omega)) ?_
      have W6 : nb_Lay (nb_wr (nb_wr (nb_wr M 603 0 0) 603 11 0) 603 11 1) := W2.wr (fun w => (nb_nlit (by decide) (by decide)))
      refine nb_Gr ?_
      refine nb_Wg (q_m_no_1 _ _ _) ?_
      refine nb_Gs ?_
      show nb_W 160 5 [(20, 603), (0, l1), (0, l2)] [(0, (-1))] (nb_wr (nb_wr (nb_wr M 603 0 0) 603 11 0) 603 11 1) _
      refine nb_Wg (q_m_bell_5 _ _ _ _ _) ?_
      refine nb_Gs ?_
      exact nb_Hu H W6
    · have H := nb_Hw ((nb_Hu H).2 (by omega))
      have c26 : 0 ≤ l2 := by omega
      refine nb_Gr ?_
      refine nb_Wg (q_m_within_1 _ _ _ _) ?_
      refine nb_Gi (fun c25 => ?_) (fun c25 => ?_)
      · have H := nb_Hw ((nb_Hu H).1 c25)
        refine nb_Gr ?_
        refine nb_Wg (q_m_within_3 _ _ _ _) ?_
        refine nb_Gr ?_
        have E7 : nb_i2z 0 = 0 := by decide
        refine nb_Wg (q_m_within_4 _ _ _ _ _) ?_
        simp only [E7]
        clear E7
        refine nb_Gs ?_
        show nb_W 160 3 [(20, 603), (0, l1), (0, l2)] [(0, 0)] (nb_wr (nb_wr M 603 0 0) 603 11 0) _
        refine nb_Wg (q_m_bell_3 _ _ _ _ _) ?_
        refine nb_Gt (by decide) ?_
        refine nb_Gr ?_
        refine nb_Wg (q_m_bell_4 _ _ _ _ (by omega)) ?_
        refine nb_Gb ?_
        refine nb_Wg (q_m_no_0 _ _ _ (by omega)) ?_
        have W8 : nb_Lay (nb_wr (nb_wr (nb_wr M 603 0 0) 603 11 0) 603 11 1) := W2.wr (fun w => (nb_nlit (by decide) (by decide)))
        refine nb_Gr ?_
        refine nb_Wg (q_m_no_1 _ _ _) ?_
        refine nb_Gs ?_
        show nb_W 160 5 [(20, 603), (0, l1), (0, l2)] [(0, (-1))] (nb_wr (nb_wr (nb_wr M 603 0 0) 603 11 0) 603 11 1) _
        refine nb_Wg (q_m_bell_5 _ _ _ _ _) ?_
        refine nb_Gs ?_
        exact nb_Hu H W8
      · have H := nb_Hw ((nb_Hu H).2 (by omega))
        have c25 : l2 ≤ 5 := by omega
        refine nb_Gr ?_
        refine nb_Wg (q_m_within_2 _ _ _ _) ?_
        refine nb_Gr ?_
        have E9 : nb_i2z 1 = 1 := by decide
        refine nb_Wg (q_m_within_4 _ _ _ _ _) ?_
        simp only [E9]
        clear E9
        refine nb_Gs ?_
        show nb_W 160 3 [(20, 603), (0, l1), (0, l2)] [(0, 1)] (nb_wr (nb_wr M 603 0 0) 603 11 0) _
        refine nb_Wg (q_m_bell_3 _ _ _ _ _) ?_
        refine nb_Gf (by decide) ?_
        refine nb_Gr ?_
        have E10 : nb_rd (nb_wr (nb_wr M 603 0 0) 603 11 0) 603 17 = 608 := W2.m17
        have N11 : nb_ln (nb_wr (nb_wr M 603 0 0) 603 11 0) 608 = 108 := W2.lk (by decide) (by decide +kernel)
        have E12 : nb_rd (nb_wr (nb_wr M 603 0 0) 603 11 0) 608 0 = M.1 608 0 := nb_rdw (Or.inl (by decide)) (nb_rdw (Or.inl (by decide)) (nb_rd_1 _ _ _))
        refine nb_Wg (q_m_bell_6 _ _ _ _ (by omega) (by rw [E10]; first | done | omega) (by omega) (by rw [E10, N11]; first | done | omega)) ?_
        simp only [E10, E12]
        clear E10 N11 E12
        refine nb_Gb ?_
        refine nb_Wg (q_m_within_0 _ _ _ _) ?_
        refine nb_Gi (fun c24 => ?_) (fun c24 => ?_)
        · have H := nb_Hw ((nb_Hu H).1 c24)
          refine nb_Gr ?_
          refine nb_Wg (q_m_within_3 _ _ _ _) ?_
          refine nb_Gr ?_
          have E13 : nb_i2z 0 = 0 := by decide
          refine nb_Wg (q_m_within_4 _ _ _ _ _) ?_
          simp only [E13]
          clear E13
          refine nb_Gs ?_
          show nb_W 160 7 [(20, 603), (0, l1), (0, l2)] [(0, 0)] (nb_wr (nb_wr M 603 0 0) 603 11 0) _
          refine nb_Wg (q_m_bell_7 _ _ _ _ _) ?_
          refine nb_Gt (by decide) ?_
          refine nb_Gr ?_
          refine nb_Wg (q_m_bell_8 _ _ _ _ (by omega)) ?_
          refine nb_Gb ?_
          refine nb_Wg (q_m_no_0 _ _ _ (by omega)) ?_
          have W14 : nb_Lay (nb_wr (nb_wr (nb_wr M 603 0 0) 603 11 0) 603 11 2) := W2.wr (fun w => (nb_nlit (by decide) (by decide)))
          refine nb_Gr ?_
          refine nb_Wg (q_m_no_1 _ _ _) ?_
          refine nb_Gs ?_
          show nb_W 160 9 [(20, 603), (0, l1), (0, l2)] [(0, (-1))] (nb_wr (nb_wr (nb_wr M 603 0 0) 603 11 0) 603 11 2) _
          refine nb_Wg (q_m_bell_9 _ _ _ _ _) ?_
          refine nb_Gs ?_
          exact nb_Hu H W14
        · have H := nb_Hw ((nb_Hu H).2 (by omega))
          have c24 : M.1 608 0 ≤ l1 := by omega
          refine nb_Gr ?_
          refine nb_Wg (q_m_within_1 _ _ _ _) ?_
          refine nb_Gi (fun c23 => ?_) (fun c23 => ?_)
          · have H := nb_Hw ((nb_Hu H).1 c23)
            refine nb_Gr ?_
            refine nb_Wg (q_m_within_3 _ _ _ _) ?_
            refine nb_Gr ?_
            have E15 : nb_i2z 0 = 0 := by decide
            refine nb_Wg (q_m_within_4 _ _ _ _ _) ?_
            simp only [E15]
            clear E15
            refine nb_Gs ?_
            show nb_W 160 7 [(20, 603), (0, l1), (0, l2)] [(0, 0)] (nb_wr (nb_wr M 603 0 0) 603 11 0) _
            refine nb_Wg (q_m_bell_7 _ _ _ _ _) ?_
            refine nb_Gt (by decide) ?_
            refine nb_Gr ?_
            refine nb_Wg (q_m_bell_8 _ _ _ _ (by omega)) ?_
            refine nb_Gb ?_
            refine nb_Wg (q_m_no_0 _ _ _ (by omega)) ?_
            have W16 : nb_Lay (nb_wr (nb_wr (nb_wr M 603 0 0) 603 11 0) 603 11 2) := W2.wr (fun w => (nb_nlit (by decide) (by decide)))
            refine nb_Gr ?_
            refine nb_Wg (q_m_no_1 _ _ _) ?_
            refine nb_Gs ?_
            show nb_W 160 9 [(20, 603), (0, l1), (0, l2)] [(0, (-1))] (nb_wr (nb_wr (nb_wr M 603 0 0) 603 11 0) 603 11 2) _
            refine nb_Wg (q_m_bell_9 _ _ _ _ _) ?_
            refine nb_Gs ?_
            exact nb_Hu H W16
          · have H := nb_Hw ((nb_Hu H).2 (by omega))
            have c23 : l1 ≤ 900 := by omega
            refine nb_Gr ?_
            refine nb_Wg (q_m_within_2 _ _ _ _) ?_
            refine nb_Gr ?_
            have E17 : nb_i2z 1 = 1 := by decide
            refine nb_Wg (q_m_within_4 _ _ _ _ _) ?_
            simp only [E17]
            clear E17
            refine nb_Gs ?_
            show nb_W 160 7 [(20, 603), (0, l1), (0, l2)] [(0, 1)] (nb_wr (nb_wr M 603 0 0) 603 11 0) _
            refine nb_Wg (q_m_bell_7 _ _ _ _ _) ?_
            refine nb_Gf (by decide) ?_
            refine nb_Gr ?_
            refine nb_Wg (q_m_bell_10 _ _ _ _ (by omega)) ?_
            have W18 : nb_Lay (nb_wr (nb_wr (nb_wr M 603 0 0) 603 11 0) 603 25 ((M.1 606) 4)) := W2.wr (fun w => (nb_nlit (by decide) (by decide)))
            have W19 : nb_Lay (nb_up (nb_wr (nb_wr (nb_wr M 603 0 0) 603 11 0) 603 25 ((M.1 606) 4)) 612 (pu_cpy (M.1 606) (M.1 612) 23 0 18)) := W18.up (fun i w => (nb_nnum (by decide) (by decide)))
            have W20 : nb_Lay (nb_up (nb_up (nb_wr (nb_wr (nb_wr M 603 0 0) 603 11 0) 603 25 ((M.1 606) 4)) 612 (pu_cpy (M.1 606) (M.1 612) 23 0 18)) 613 (pu_cpy (M.1 606) (M.1 613) 41 0 70)) := W19.up (fun i w => (nb_nnum (by decide) (by decide)))
            rw [show nb_R nb_P 121 0 [(20, 603)] [] (nb_wr (nb_wr M 603 0 0) 603 11 0) = some ([], nb_up (nb_up (nb_wr (nb_wr (nb_wr M 603 0 0) 603 11 0) 603 25 ((M.1 606) 4)) 612 (pu_cpy (M.1 606) (M.1 612) 23 0 18)) 613 (pu_cpy (M.1 606) (M.1 613) 41 0 70)) from (sp_m_asTold W2).trans (by first | rfl | simp [nb_wr_up, nb_up_1, nb_up_up, nb_ud])]
            refine nb_Gp ?_
            show nb_W 160 11 [(20, 603), (0, l1), (0, l2)] [] (nb_up (nb_up (nb_wr (nb_wr (nb_wr M 603 0 0) 603 11 0) 603 25 ((M.1 606) 4)) 612 (pu_cpy (M.1 606) (M.1 612) 23 0 18)) 613 (pu_cpy (M.1 606) (M.1 613) 41 0 70)) _
            refine nb_Wg (q_m_bell_11 _ _ _ _ (by omega)) ?_
            have W21 : nb_Lay (nb_wr (nb_up (nb_up (nb_wr (nb_wr (nb_wr M 603 0 0) 603 11 0) 603 25 ((M.1 606) 4)) 612 (pu_cpy (M.1 606) (M.1 612) 23 0 18)) 613 (pu_cpy (M.1 606) (M.1 613) 41 0 70)) 603 26 l1) := W20.wr (fun w => (nb_nlit (by decide) (by decide)))
            refine nb_Gr ?_
            obtain ⟨p0_, p1_, p2_, p3_, p4_, p5_, p6_, p7_, p8_, H⟩ := H
            replace H := nb_Hw H
            refine nb_Wg (q_m_bell_12 _ _ _ _ (by omega)) ?_
            have W22 : nb_Lay (nb_up (nb_wr (nb_up (nb_up (nb_wr (nb_wr (nb_wr M 603 0 0) 603 11 0) 603 25 ((M.1 606) 4)) 612 (pu_cpy (M.1 606) (M.1 612) 23 0 18)) 613 (pu_cpy (M.1 606) (M.1 613) 41 0 70)) 603 26 l1) 609 (pu_eve (M.1 606) (pu_cpy (M.1 606) (M.1 612) 23 0 18) (pu_cpy (M.1 606) (M.1 613) 41 0 70) ((M.1 606) 4) l1 (pu_cpy (M.1 608) (M.1 609) 0 0 108))) := W21.up (fun i w => (nb_nnum (by decide) (by decide)))
            rw [show nb_R nb_P 134 0 [(20, 603)] [] (nb_wr (nb_up (nb_up (nb_wr (nb_wr (nb_wr M 603 0 0) 603 11 0) 603 25 ((M.1 606) 4)) 612 (pu_cpy (M.1 606) (M.1 612) 23 0 18)) 613 (pu_cpy (M.1 606) (M.1 613) 41 0 70)) 603 26 l1) = some ([], nb_up (nb_wr (nb_up (nb_up (nb_wr (nb_wr (nb_wr M 603 0 0) 603 11 0) 603 25 ((M.1 606) 4)) 612 (pu_cpy (M.1 606) (M.1 612) 23 0 18)) 613 (pu_cpy (M.1 606) (M.1 613) 41 0 70)) 603 26 l1) 609 (pu_eve (M.1 606) (pu_cpy (M.1 606) (M.1 612) 23 0 18) (pu_cpy (M.1 606) (M.1 613) 41 0 70) ((M.1 606) 4) l1 (pu_cpy (M.1 608) (M.1 609) 0 0 108))) from (sp_m_evening W21 (by first | assumption | omega | (simp [nb_wr_up, nb_up_1, nb_ud]; first | assumption | omega)) (by first | assumption | omega | (simp [nb_wr_up, nb_up_1, nb_ud]; first | assumption | omega)) (by first | assumption | omega | (simp [nb_wr_up, nb_up_1, nb_ud]; first | assumption | omega)) (by first | assumption | omega | (simp [nb_wr_up, nb_up_1, nb_ud]; first | assumption | omega)) (by first | assumption | omega | (simp [nb_wr_up, nb_up_1, nb_ud]; first | assumption | omega)) (by first | assumption | omega | (simp [nb_wr_up, nb_up_1, nb_ud]; first | assumption | omega)) (by first | assumption | omega | (simp [nb_wr_up, nb_up_1, nb_ud]; first | assumption | omega))).trans (by first | rfl | simp [nb_wr_up, nb_up_1, nb_up_up, nb_ud])]
            refine nb_Gp ?_
            show nb_W 160 13 [(20, 603), (0, l1), (0, l2)] [] (nb_up (nb_wr (nb_up (nb_up (nb_wr (nb_wr (nb_wr M 603 0 0) 603 11 0) 603 25 ((M.1 606) 4)) 612 (pu_cpy (M.1 606) (M.1 612) 23 0 18)) 613 (pu_cpy (M.1 606) (M.1 613) 41 0 70)) 603 26 l1) 609 (pu_eve (M.1 606) (pu_cpy (M.1 606) (M.1 612) 23 0 18) (pu_cpy (M.1 606) (M.1 613) 41 0 70) ((M.1 606) 4) l1 (pu_cpy (M.1 608) (M.1 609) 0 0 108))) _
            obtain ⟨p0_, H⟩ := H
            replace H := nb_Hw H
            refine nb_Wg (q_m_bell_13 _ _ _ _ (by omega)) ?_
            rw [show nb_R nb_P 140 0 [(20, 603), (0, l2), (98, 0), (98, 0), (98, 0)] [] (nb_up (nb_wr (nb_up (nb_up (nb_wr (nb_wr (nb_wr M 603 0 0) 603 11 0) 603 25 ((M.1 606) 4)) 612 (pu_cpy (M.1 606) (M.1 612) 23 0 18)) 613 (pu_cpy (M.1 606) (M.1 613) 41 0 70)) 603 26 l1) 609 (pu_eve (M.1 606) (pu_cpy (M.1 606) (M.1 612) 23 0 18) (pu_cpy (M.1 606) (M.1 613) 41 0 70) ((M.1 606) 4) l1 (pu_cpy (M.1 608) (M.1 609) 0 0 108))) = some ([(0, pu_sum (M.1 606) (pu_cpy (M.1 606) (M.1 613) 41 0 70) (pu_eve (M.1 606) (pu_cpy (M.1 606) (M.1 612) 23 0 18) (pu_cpy (M.1 606) (M.1 613) 41 0 70) ((M.1 606) 4) l1 (pu_cpy (M.1 608) (M.1 609) 0 0 108)) ((M.1 606) 5) l1 l2)], nb_up (nb_wr (nb_up (nb_up (nb_wr (nb_wr (nb_wr M 603 0 0) 603 11 0) 603 25 ((M.1 606) 4)) 612 (pu_cpy (M.1 606) (M.1 612) 23 0 18)) 613 (pu_cpy (M.1 606) (M.1 613) 41 0 70)) 603 26 l1) 609 (pu_eve (M.1 606) (pu_cpy (M.1 606) (M.1 612) 23 0 18) (pu_cpy (M.1 606) (M.1 613) 41 0 70) ((M.1 606) 4) l1 (pu_cpy (M.1 608) (M.1 609) 0 0 108))) from (sp_m_sumOf W22 (by first | assumption | omega | (simp [nb_wr_up, nb_up_1, nb_ud]; first | assumption | omega)) (by first | assumption | omega | (simp [nb_wr_up, nb_up_1, nb_ud]; first | assumption | omega)) (by first | assumption | omega | (simp [nb_wr_up, nb_up_1, nb_ud]; first | assumption | omega)) (by first | assumption | omega | (simp [nb_wr_up, nb_up_1, nb_ud]; first | assumption | omega))).trans (by first | rfl | simp [nb_wr_up, nb_up_1, nb_up_up, nb_ud])]
            refine nb_Gp ?_
            show nb_W 160 14 [(20, 603), (0, l1), (0, l2)] [(0, pu_sum (M.1 606) (pu_cpy (M.1 606) (M.1 613) 41 0 70) (pu_eve (M.1 606) (pu_cpy (M.1 606) (M.1 612) 23 0 18) (pu_cpy (M.1 606) (M.1 613) 41 0 70) ((M.1 606) 4) l1 (pu_cpy (M.1 608) (M.1 609) 0 0 108)) ((M.1 606) 5) l1 l2)] (nb_up (nb_wr (nb_up (nb_up (nb_wr (nb_wr (nb_wr M 603 0 0) 603 11 0) 603 25 ((M.1 606) 4)) 612 (pu_cpy (M.1 606) (M.1 612) 23 0 18)) 613 (pu_cpy (M.1 606) (M.1 613) 41 0 70)) 603 26 l1) 609 (pu_eve (M.1 606) (pu_cpy (M.1 606) (M.1 612) 23 0 18) (pu_cpy (M.1 606) (M.1 613) 41 0 70) ((M.1 606) 4) l1 (pu_cpy (M.1 608) (M.1 609) 0 0 108))) _
            refine nb_Wg (q_m_bell_14 _ _ _ _ _) ?_
            refine nb_Gs ?_
            exact nb_Hu H W22

theorem w_c_bell_0 {l1 l2 Ho : Int} {v3 : nb_V} {M : nb_M} {Q : List nb_V → nb_M → Prop} (W : nb_Lay M) (hHo : nb_hs Ho) (hx2 : M.1 2 2 = Ho) (H : 0 ≤ M.1 Ho 13 ∧ M.1 Ho 13 ≤ 10 ∧ (0 < M.1 Ho 13 → (l2 < 0 → (nb_Lay (nb_wr M 2 15 1) → Q [(0, (-1))] (nb_wr M 2 15 1))) ∧ (0 ≤ l2 → (l2 < 6 → (l1 < M.1 84 7 → (nb_Lay (nb_wr (nb_wr M 2 15 0) 2 15 2) → Q [(0, (-1))] (nb_wr (nb_wr M 2 15 0) 2 15 2))) ∧ (M.1 84 7 ≤ l1 → (900 < l1 → (nb_Lay (nb_wr (nb_wr M 2 15 0) 2 15 2) → Q [(0, (-1))] (nb_wr (nb_wr M 2 15 0) 2 15 2))) ∧ (l1 ≤ 900 → nb_W 23 0 [(19, 2)] [] (nb_wr (nb_wr M 2 15 0) 2 15 0) (fun r M19 => r = [(15, 106)] ∧ nb_Lay M19 ∧ M19.1 2 2 = Ho ∧ nb_W 257 0 [(15, 106), (0, l1), (98, 0), (98, 0)] [] (nb_wr M19 106 8 l1) (fun r M25 => r = [] ∧ nb_Lay M25 ∧ M25.1 2 2 = Ho ∧ nb_W 268 0 [(15, 106), (0, l2)] [] M25 (fun r M29 => ∃ x28 : Int, r = [(0, x28)] ∧ nb_Lay M29 ∧ M29.1 2 2 = Ho ∧ (nb_Lay M29 → Q [(0, x28)] M29))))))) ∧ (6 ≤ l2 → (nb_Lay (nb_wr M 2 15 1) → Q [(0, (-1))] (nb_wr M 2 15 1))))) ∧ (M.1 Ho 13 ≤ 0 → (nb_Lay (nb_wr M 2 15 1) → Q [(0, (-1))] (nb_wr M 2 15 1)))) :
    nb_W 50 0 [(19, 2), (0, l1), (0, l2), v3] [] M Q := by
  replace H := nb_Hw H
  have uhHo := hHo
  unfold nb_hs at uhHo
  refine nb_Wg (q_c_bell_0 _ _ _ _ _ (by omega)) ?_
  refine nb_Gb ?_
  refine nb_Wg (q_c_isSum_0 _ _ _ (by omega)) ?_
  refine nb_Gb ?_
  obtain ⟨p0_, p1_, H⟩ := H
  replace H := nb_Hw H
  have E1 : nb_rd M 2 2 = Ho := hx2
  have E2 : nb_rd M Ho 13 = M.1 Ho 13 := nb_rd_1 _ _ _
  refine nb_Wg (q_c_isOpen_0 _ _ (by omega) (by rw [E1]; first | done | omega)) ?_
  simp only [E1, E2]
  clear E1 E2
  refine nb_Gi (fun c43 => ?_) (fun c43 => ?_)
  · have H := nb_Hw ((nb_Hu H).1 c43)
    refine nb_Gr ?_
    refine nb_Wg (q_c_isOpen_1 _ _) ?_
    refine nb_Gr ?_
    have E3 : nb_i2z 1 = 1 := by decide
    refine nb_Wg (q_c_isOpen_3 _ _ _) ?_
    simp only [E3]
    clear E3
    refine nb_Gs ?_
    show nb_W 13 1 [(19, 2), (0, l2)] [(0, 1)] M _
    refine nb_Wg (q_c_isSum_1 _ _ _ _) ?_
    refine nb_Gf (by decide) ?_
    refine nb_Gr ?_
    refine nb_Wg (q_c_isSum_2 _ _ _) ?_
    refine nb_Gi (fun c38 => ?_) (fun c38 => ?_)
    · have H := nb_Hw ((nb_Hu H).1 c38)
      refine nb_Gr ?_
      refine nb_Wg (q_c_isSum_5 _ _ _) ?_
      refine nb_Gr ?_
      have E4 : nb_i2z 0 = 0 := by decide
      refine nb_Wg (q_c_isSum_6 _ _ _ _) ?_
      simp only [E4]
      clear E4
      refine nb_Gs ?_
      show nb_W 50 1 [(19, 2), (0, l1), (0, l2), v3] [(0, 0), (19, 2)] M _
      refine nb_Wg (q_c_bell_1 _ _ _ _ _ _ _ (by omega)) ?_
      refine nb_Gb ?_
      refine nb_Wg (q_c_granted_0 _ _ _ _) ?_
      refine nb_Gt (by decide) ?_
      refine nb_Gr ?_
      refine nb_Wg (q_c_granted_2 _ _ _ _ _) ?_
      refine nb_Gr ?_
      refine nb_Wg (q_c_granted_3 _ _ _ _ _ _ (by omega)) ?_
      have W5 : nb_Lay (nb_wr M 2 15 1) := W.wr (fun w => (nb_nlit (by decide) (by decide)))
      refine nb_Gr ?_
      have E6 : nb_i2z 0 = 0 := by decide
      refine nb_Wg (q_c_granted_4 _ _ _ _) ?_
      simp only [E6]
      clear E6
      refine nb_Gs ?_
      show nb_W 50 2 [(19, 2), (0, l1), (0, l2), v3] [(0, 0)] (nb_wr M 2 15 1) _
      refine nb_Wg (q_c_bell_2 _ _ _ _ _ _) ?_
      refine nb_Gt (by decide) ?_
      refine nb_Gr ?_
      refine nb_Wg (q_c_bell_9 _ _ _ _ _) ?_
      refine nb_Gs ?_
      exact nb_Hu H W5
    · have H := nb_Hw ((nb_Hu H).2 (by omega))
      have c38 : 0 ≤ l2 := by omega
      refine nb_Gr ?_
      refine nb_Wg (q_c_isSum_3 _ _ _) ?_
      refine nb_Gi (fun c37 => ?_) (fun c37 => ?_)
      · have H := nb_Hw ((nb_Hu H).1 c37)
        refine nb_Gr ?_
        refine nb_Wg (q_c_isSum_4 _ _ _) ?_
        refine nb_Gr ?_
        have E7 : nb_i2z 1 = 1 := by decide
        refine nb_Wg (q_c_isSum_6 _ _ _ _) ?_
        simp only [E7]
        clear E7
        refine nb_Gs ?_
        show nb_W 50 1 [(19, 2), (0, l1), (0, l2), v3] [(0, 1), (19, 2)] M _
        refine nb_Wg (q_c_bell_1 _ _ _ _ _ _ _ (by omega)) ?_
        refine nb_Gb ?_
        refine nb_Wg (q_c_granted_0 _ _ _ _) ?_
        refine nb_Gf (by decide) ?_
        refine nb_Gr ?_
        refine nb_Wg (q_c_granted_1 _ _ _ _ _) ?_
        refine nb_Gr ?_
        refine nb_Wg (q_c_granted_3 _ _ _ _ _ _ (by omega)) ?_
        have W8 : nb_Lay (nb_wr M 2 15 0) := W.wr (fun w => (nb_nlit (by decide) (by decide)))
        refine nb_Gr ?_
        have E9 : nb_i2z 1 = 1 := by decide
        refine nb_Wg (q_c_granted_4 _ _ _ _) ?_
        simp only [E9]
        clear E9
        refine nb_Gs ?_
        show nb_W 50 2 [(19, 2), (0, l1), (0, l2), v3] [(0, 1)] (nb_wr M 2 15 0) _
        refine nb_Wg (q_c_bell_2 _ _ _ _ _ _) ?_
        refine nb_Gf (by decide) ?_
        refine nb_Gr ?_
        have E10 : nb_rd (nb_wr M 2 15 0) 2 5 = 84 := W8.c5
        have E11 : nb_rd (nb_wr M 2 15 0) 84 7 = M.1 84 7 := nb_rdw (Or.inl (by decide)) (nb_rd_1 _ _ _)
        refine nb_Wg (q_c_bell_3 _ _ _ _ _ (by omega) (by rw [E10]; first | done | omega)) ?_
        simp only [E10, E11]
        clear E10 E11
        refine nb_Gi (fun c33 => ?_) (fun c33 => ?_)
        · have H := nb_Hw ((nb_Hu H).1 c33)
          refine nb_Gr ?_
          refine nb_Wg (q_c_bell_6 _ _ _ _ _ _) ?_
          refine nb_Gr ?_
          refine nb_Wg (q_c_bell_7 _ _ _ _ _ _ _ (by omega)) ?_
          refine nb_Gb ?_
          refine nb_Wg (q_c_granted_0 _ _ _ _) ?_
          refine nb_Gt (by decide) ?_
          refine nb_Gr ?_
          refine nb_Wg (q_c_granted_2 _ _ _ _ _) ?_
          refine nb_Gr ?_
          refine nb_Wg (q_c_granted_3 _ _ _ _ _ _ (by omega)) ?_
          have W12 : nb_Lay (nb_wr (nb_wr M 2 15 0) 2 15 2) := W8.wr (fun w => (nb_nlit (by decide) (by decide)))
          refine nb_Gr ?_
          have E13 : nb_i2z 0 = 0 := by decide
          refine nb_Wg (q_c_granted_4 _ _ _ _) ?_
          simp only [E13]
          clear E13
          refine nb_Gs ?_
          show nb_W 50 8 [(19, 2), (0, l1), (0, l2), v3] [(0, 0)] (nb_wr (nb_wr M 2 15 0) 2 15 2) _
          refine nb_Wg (q_c_bell_8 _ _ _ _ _ _) ?_
          refine nb_Gt (by decide) ?_
          refine nb_Gr ?_
          refine nb_Wg (q_c_bell_9 _ _ _ _ _) ?_
          refine nb_Gs ?_
          exact nb_Hu H W12
        · have H := nb_Hw ((nb_Hu H).2 (by omega))
          have c33 : M.1 84 7 ≤ l1 := by omega
          refine nb_Gr ?_
          refine nb_Wg (q_c_bell_4 _ _ _ _ _ _) ?_
          refine nb_Gi (fun c32 => ?_) (fun c32 => ?_)
          · have H := nb_Hw ((nb_Hu H).1 c32)
            refine nb_Gr ?_
            refine nb_Wg (q_c_bell_6 _ _ _ _ _ _) ?_
            refine nb_Gr ?_
            refine nb_Wg (q_c_bell_7 _ _ _ _ _ _ _ (by omega)) ?_
            refine nb_Gb ?_
            refine nb_Wg (q_c_granted_0 _ _ _ _) ?_
            refine nb_Gt (by decide) ?_
            refine nb_Gr ?_
            refine nb_Wg (q_c_granted_2 _ _ _ _ _) ?_
            refine nb_Gr ?_
            refine nb_Wg (q_c_granted_3 _ _ _ _ _ _ (by omega)) ?_
            have W14 : nb_Lay (nb_wr (nb_wr M 2 15 0) 2 15 2) := W8.wr (fun w => (nb_nlit (by decide) (by decide)))
            refine nb_Gr ?_
            have E15 : nb_i2z 0 = 0 := by decide
            refine nb_Wg (q_c_granted_4 _ _ _ _) ?_
            simp only [E15]
            clear E15
            refine nb_Gs ?_
            show nb_W 50 8 [(19, 2), (0, l1), (0, l2), v3] [(0, 0)] (nb_wr (nb_wr M 2 15 0) 2 15 2) _
            refine nb_Wg (q_c_bell_8 _ _ _ _ _ _) ?_
            refine nb_Gt (by decide) ?_
            refine nb_Gr ?_
            refine nb_Wg (q_c_bell_9 _ _ _ _ _) ?_
            refine nb_Gs ?_
            exact nb_Hu H W14
          · have H := nb_Hw ((nb_Hu H).2 (by omega))
            have c32 : l1 ≤ 900 := by omega
            refine nb_Gr ?_
            refine nb_Wg (q_c_bell_5 _ _ _ _ _ _) ?_
            refine nb_Gr ?_
            refine nb_Wg (q_c_bell_7 _ _ _ _ _ _ _ (by omega)) ?_
            refine nb_Gb ?_
            refine nb_Wg (q_c_granted_0 _ _ _ _) ?_
            refine nb_Gf (by decide) ?_
            refine nb_Gr ?_
            refine nb_Wg (q_c_granted_1 _ _ _ _ _) ?_
            refine nb_Gr ?_
            refine nb_Wg (q_c_granted_3 _ _ _ _ _ _ (by omega)) ?_
            have W16 : nb_Lay (nb_wr (nb_wr M 2 15 0) 2 15 0) := W8.wr (fun w => (nb_nlit (by decide) (by decide)))
            refine nb_Gr ?_
            have E17 : nb_i2z 1 = 1 := by decide
            refine nb_Wg (q_c_granted_4 _ _ _ _) ?_
            simp only [E17]
            clear E17
            refine nb_Gs ?_
            show nb_W 50 8 [(19, 2), (0, l1), (0, l2), v3] [(0, 1)] (nb_wr (nb_wr M 2 15 0) 2 15 0) _
            refine nb_Wg (q_c_bell_8 _ _ _ _ _ _) ?_
            refine nb_Gf (by decide) ?_
            refine nb_Gr ?_
            refine nb_Wg (q_c_bell_10 _ _ _ _ _ (by omega)) ?_
            refine nb_Gb ?_
            refine nb_W.imp (nb_Hu H) (fun r M19 H => ?_)
            obtain ⟨rfl, W20, g21, H⟩ := H
            replace H := nb_Hw H
            show nb_W 50 11 [(19, 2), (0, l1), (0, l2), v3] [(15, 106)] M19 _
            refine nb_Wg (q_c_bell_11 _ _ _ _ _ _ (by omega)) ?_
            have W22 : nb_Lay (nb_wr M19 106 8 l1) := W20.wr (fun w => (nb_nss (A := 106) nb_sc106 (by omega)))
            refine nb_Gr ?_
            have E23 : nb_rd (nb_wr M19 106 8 l1) 106 8 = l1 := nb_rd_same _ _ _ _
            refine nb_Wg (q_c_bell_12 _ _ _ _ _ (by omega)) ?_
            simp only [E23]
            clear E23
            refine nb_Gb ?_
            refine nb_W.imp (nb_Hu H) (fun r M25 H => ?_)
            obtain ⟨rfl, W26, g27, H⟩ := H
            replace H := nb_Hw H
            show nb_W 50 13 [(19, 2), (0, l1), (0, l2), (15, 106)] [] M25 _
            refine nb_Wg (q_c_bell_13 _ _ _ _ _ (by omega)) ?_
            refine nb_Gb ?_
            refine nb_W.imp (nb_Hu H) (fun r M29 H => ?_)
            obtain ⟨x28, rfl, W30, g31, H⟩ := H
            replace H := nb_Hw H
            show nb_W 50 14 [(19, 2), (0, l1), (0, l2), (15, 106)] [(0, x28)] M29 _
            refine nb_Wg (q_c_bell_14 _ _ _ _ _ _) ?_
            refine nb_Gs ?_
            exact nb_Hu H W30
      · have H := nb_Hw ((nb_Hu H).2 (by omega))
        have c37 : 6 ≤ l2 := by omega
        refine nb_Gr ?_
        refine nb_Wg (q_c_isSum_5 _ _ _) ?_
        refine nb_Gr ?_
        have E34 : nb_i2z 0 = 0 := by decide
        refine nb_Wg (q_c_isSum_6 _ _ _ _) ?_
        simp only [E34]
        clear E34
        refine nb_Gs ?_
        show nb_W 50 1 [(19, 2), (0, l1), (0, l2), v3] [(0, 0), (19, 2)] M _
        refine nb_Wg (q_c_bell_1 _ _ _ _ _ _ _ (by omega)) ?_
        refine nb_Gb ?_
        refine nb_Wg (q_c_granted_0 _ _ _ _) ?_
        refine nb_Gt (by decide) ?_
        refine nb_Gr ?_
        refine nb_Wg (q_c_granted_2 _ _ _ _ _) ?_
        refine nb_Gr ?_
        refine nb_Wg (q_c_granted_3 _ _ _ _ _ _ (by omega)) ?_
        have W35 : nb_Lay (nb_wr M 2 15 1) := W.wr (fun w => (nb_nlit (by decide) (by decide)))
        refine nb_Gr ?_
        have E36 : nb_i2z 0 = 0 := by decide
        refine nb_Wg (q_c_granted_4 _ _ _ _) ?_
        simp only [E36]
        clear E36
        refine nb_Gs ?_
        show nb_W 50 2 [(19, 2), (0, l1), (0, l2), v3] [(0, 0)] (nb_wr M 2 15 1) _
        refine nb_Wg (q_c_bell_2 _ _ _ _ _ _) ?_
        refine nb_Gt (by decide) ?_
        refine nb_Gr ?_
        refine nb_Wg (q_c_bell_9 _ _ _ _ _) ?_
        refine nb_Gs ?_
        exact nb_Hu H W35
  · have H := nb_Hw ((nb_Hu H).2 (by omega))
    have c43 : M.1 Ho 13 ≤ 0 := by omega
    refine nb_Gr ?_
    refine nb_Wg (q_c_isOpen_2 _ _) ?_
    refine nb_Gr ?_
    have E39 : nb_i2z 0 = 0 := by decide
    refine nb_Wg (q_c_isOpen_3 _ _ _) ?_
    simp only [E39]
    clear E39
    refine nb_Gs ?_
    show nb_W 13 1 [(19, 2), (0, l2)] [(0, 0)] M _
    refine nb_Wg (q_c_isSum_1 _ _ _ _) ?_
    refine nb_Gt (by decide) ?_
    refine nb_Gr ?_
    refine nb_Wg (q_c_isSum_5 _ _ _) ?_
    refine nb_Gr ?_
    have E40 : nb_i2z 0 = 0 := by decide
    refine nb_Wg (q_c_isSum_6 _ _ _ _) ?_
    simp only [E40]
    clear E40
    refine nb_Gs ?_
    show nb_W 50 1 [(19, 2), (0, l1), (0, l2), v3] [(0, 0), (19, 2)] M _
    refine nb_Wg (q_c_bell_1 _ _ _ _ _ _ _ (by omega)) ?_
    refine nb_Gb ?_
    refine nb_Wg (q_c_granted_0 _ _ _ _) ?_
    refine nb_Gt (by decide) ?_
    refine nb_Gr ?_
    refine nb_Wg (q_c_granted_2 _ _ _ _ _) ?_
    refine nb_Gr ?_
    refine nb_Wg (q_c_granted_3 _ _ _ _ _ _ (by omega)) ?_
    have W41 : nb_Lay (nb_wr M 2 15 1) := W.wr (fun w => (nb_nlit (by decide) (by decide)))
    refine nb_Gr ?_
    have E42 : nb_i2z 0 = 0 := by decide
    refine nb_Wg (q_c_granted_4 _ _ _ _) ?_
    simp only [E42]
    clear E42
    refine nb_Gs ?_
    show nb_W 50 2 [(19, 2), (0, l1), (0, l2), v3] [(0, 0)] (nb_wr M 2 15 1) _
    refine nb_Wg (q_c_bell_2 _ _ _ _ _ _) ?_
    refine nb_Gt (by decide) ?_
    refine nb_Gr ?_
    refine nb_Wg (q_c_bell_9 _ _ _ _ _) ?_
    refine nb_Gs ?_
    exact nb_Hu H W41
