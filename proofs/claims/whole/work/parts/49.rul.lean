/-! rules, printed by wip/gen -/
theorem w_m_evening_0 {M : nb_M} {Q : List nb_V → nb_M → Prop} (W : nb_Lay M) (H : nb_W 134 1 [(20, 603)] [] (nb_up M 609 (pu_cpy (M.1 608) (M.1 609) 0 0 108)) Q) :
    nb_W 134 0 [(20, 603)] [] M Q := by
  replace H := nb_Hw H
  have E1 : nb_rd M 603 17 = 608 := W.m17
  have E2 : nb_rd M 603 18 = 609 := W.m18
  refine nb_Wg (q_m_evening_0 _ _ (by omega)) ?_
  simp only [E1, E2]
  clear E1 E2
  have W3 : nb_Lay (nb_up M 609 (pu_cpy (M.1 608) (M.1 609) 0 0 108)) := W.up (fun i w => (nb_nnum (by decide) (by decide)))
  rw [show nb_R nb_P 86 0 [(3, 608), (0, 0), (3, 609), (0, 0), (0, 108), (98, 0)] [] M = some ([], nb_up M 609 (pu_cpy (M.1 608) (M.1 609) 0 0 108)) from (sp_m_copy (n0 := 108) (n2 := 108) (by decide) (by decide) (by decide) (by decide) (W.lk (a := 608) (n := 108) (by decide) (by decide +kernel)) (W.lk (a := 609) (n := 108) (by decide) (by decide +kernel)) (by omega) (by omega) (by omega) (by omega) (by omega)).trans (by first | rfl | simp [nb_wr_up, nb_up_1, nb_up_up, nb_ud])]
  refine nb_Gp ?_
  show nb_W 134 1 [(20, 603)] [] (nb_up M 609 (pu_cpy (M.1 608) (M.1 609) 0 0 108)) _
  exact nb_Hu H

theorem w_m_evening_1 {M : nb_M} {Q : List nb_V → nb_M → Prop} (W : nb_Lay M) (H : (M.1 603 26 < M.1 609 0 → Q [] M) ∧ (M.1 609 0 ≤ M.1 603 26 → pu_Rr (M.1 606) ∧ pu_Rc (M.1 612) ∧ pu_Rp (M.1 613) ∧ pu_Rw (M.1 609) ∧ pu_Rk (M.1 609) ∧ 0 ≤ M.1 603 25 ∧ M.1 603 25 ≤ 4 ∧ M.1 609 0 ≤ 9998 ∧ nb_W 134 1 [(20, 603)] [] (nb_up M 609 (pu_sec (M.1 606) (M.1 612) (M.1 613) (M.1 603 25) (M.1 609))) Q)) :
    nb_W 134 1 [(20, 603)] [] M Q := by
  replace H := nb_Hw H
  have E1 : nb_rd M 603 18 = 609 := W.m18
  have N2 : nb_ln M 609 = 108 := W.lk (by decide) (by decide +kernel)
  have E3 : nb_rd M 609 0 = M.1 609 0 := nb_rd_1 _ _ _
  have E4 : nb_rd M 603 26 = M.1 603 26 := nb_rd_1 _ _ _
  refine nb_Wg (q_m_evening_1 _ _ (by omega) (by rw [E1]; first | done | omega) (by omega) (by rw [E1, N2]; first | done | omega)) ?_
  simp only [E1, E3, E4]
  clear E1 N2 E3 E4
  refine nb_Gi (fun c7 => ?_) (fun c7 => ?_)
  · have H := nb_Hw ((nb_Hu H).1 c7)
    refine nb_Gr ?_
    refine nb_Wg (q_m_evening_4 _ _) ?_
    refine nb_Gs ?_
    exact nb_Hu H
  · have H := nb_Hw ((nb_Hu H).2 (by omega))
    have c7 : M.1 609 0 ≤ M.1 603 26 := by omega
    refine nb_Gr ?_
    obtain ⟨p0_, p1_, p2_, p3_, p4_, p5_, p6_, p7_, H⟩ := H
    replace H := nb_Hw H
    have E5 : nb_rd M 603 18 = 609 := W.m18
    refine nb_Wg (q_m_evening_2 _ _ (by omega)) ?_
    simp only [E5]
    clear E5
    have W6 : nb_Lay (nb_up M 609 (pu_sec (M.1 606) (M.1 612) (M.1 613) (M.1 603 25) (M.1 609))) := W.up (fun i w => (nb_nnum (by decide) (by decide)))
    rw [show nb_R nb_P 132 0 [(20, 603), (3, 609), (98, 0), (98, 0), (98, 0), (98, 0)] [] M = some ([], nb_up M 609 (pu_sec (M.1 606) (M.1 612) (M.1 613) (M.1 603 25) (M.1 609))) from (sp_m_second W (by decide) (by first | assumption | omega | (simp [nb_wr_up, nb_up_1, nb_ud]; first | assumption | omega)) (by first | assumption | omega | (simp [nb_wr_up, nb_up_1, nb_ud]; first | assumption | omega)) (by first | assumption | omega | (simp [nb_wr_up, nb_up_1, nb_ud]; first | assumption | omega)) (by first | assumption | omega | (simp [nb_wr_up, nb_up_1, nb_ud]; first | assumption | omega)) (by first | assumption | omega | (simp [nb_wr_up, nb_up_1, nb_ud]; first | assumption | omega)) (by first | assumption | omega | (simp [nb_wr_up, nb_up_1, nb_ud]; first | assumption | omega)) (by first | assumption | omega | (simp [nb_wr_up, nb_up_1, nb_ud]; first | assumption | omega))).trans (by first | rfl | simp [nb_wr_up, nb_up_1, nb_up_up, nb_ud])]
    refine nb_Gp ?_
    show nb_W 134 3 [(20, 603)] [] (nb_up M 609 (pu_sec (M.1 606) (M.1 612) (M.1 613) (M.1 603 25) (M.1 609))) _
    refine nb_Wg (q_m_evening_3 _ _) ?_
    refine nb_Gr ?_
    exact nb_Hu H

theorem w_m_asTold_0 {M : nb_M} {Q : List nb_V → nb_M → Prop} (W : nb_Lay M) (H : Q [] (nb_up (nb_up (nb_wr M 603 25 (M.1 606 4)) 612 (pu_cpy (M.1 606) (M.1 612) 23 0 18)) 613 (pu_cpy (M.1 606) (M.1 613) 41 0 70))) :
    nb_W 121 0 [(20, 603)] [] M Q := by
  replace H := nb_Hw H
  have E1 : nb_rd M 603 15 = 606 := W.m15
  have N2 : nb_ln M 606 = 347 := W.lk (by decide) (by decide +kernel)
  have E3 : nb_rd M 606 4 = M.1 606 4 := nb_rd_1 _ _ _
  refine nb_Wg (q_m_asTold_0 _ _ (by omega) (by rw [E1]; first | done | omega) (by omega) (by rw [E1, N2]; first | done | omega)) ?_
  simp only [E1, E3]
  clear E1 N2 E3
  have W4 : nb_Lay (nb_wr M 603 25 (M.1 606 4)) := W.wr (fun w => (nb_nlit (by decide) (by decide)))
  refine nb_Gr ?_
  have E5 : nb_rd (nb_wr M 603 25 (M.1 606 4)) 603 15 = 606 := W4.m15
  have E6 : nb_rd (nb_wr M 603 25 (M.1 606 4)) 603 23 = 612 := W4.m23
  refine nb_Wg (q_m_asTold_1 _ _ (by omega)) ?_
  simp only [E5, E6]
  clear E5 E6
  have W7 : nb_Lay (nb_up (nb_wr M 603 25 (M.1 606 4)) 612 (pu_cpy (M.1 606) (M.1 612) 23 0 18)) := W4.up (fun i w => (nb_nnum (by decide) (by decide)))
  rw [show nb_R nb_P 86 0 [(3, 606), (0, 23), (3, 612), (0, 0), (0, 18), (98, 0)] [] (nb_wr M 603 25 (M.1 606 4)) = some ([], nb_up (nb_wr M 603 25 (M.1 606 4)) 612 (pu_cpy (M.1 606) (M.1 612) 23 0 18)) from (sp_m_copy (n0 := 347) (n2 := 24) (by decide) (by decide) (by decide) (by decide) (W4.lk (a := 606) (n := 347) (by decide) (by decide +kernel)) (W4.lk (a := 612) (n := 24) (by decide) (by decide +kernel)) (by omega) (by omega) (by omega) (by omega) (by omega)).trans (by first | rfl | simp [nb_wr_up, nb_up_1, nb_up_up, nb_ud])]
  refine nb_Gp ?_
  show nb_W 121 2 [(20, 603)] [] (nb_up (nb_wr M 603 25 (M.1 606 4)) 612 (pu_cpy (M.1 606) (M.1 612) 23 0 18)) _
  have E8 : nb_rd (nb_up (nb_wr M 603 25 (M.1 606 4)) 612 (pu_cpy (M.1 606) (M.1 612) 23 0 18)) 603 15 = 606 := W7.m15
  have E9 : nb_rd (nb_up (nb_wr M 603 25 (M.1 606 4)) 612 (pu_cpy (M.1 606) (M.1 612) 23 0 18)) 603 24 = 613 := W7.m24
  refine nb_Wg (q_m_asTold_2 _ _ (by omega)) ?_
  simp only [E8, E9]
  clear E8 E9
  have W10 : nb_Lay (nb_up (nb_up (nb_wr M 603 25 (M.1 606 4)) 612 (pu_cpy (M.1 606) (M.1 612) 23 0 18)) 613 (pu_cpy (M.1 606) (M.1 613) 41 0 70)) := W7.up (fun i w => (nb_nnum (by decide) (by decide)))
  rw [show nb_R nb_P 86 0 [(3, 606), (0, 41), (3, 613), (0, 0), (0, 70), (98, 0)] [] (nb_up (nb_wr M 603 25 (M.1 606 4)) 612 (pu_cpy (M.1 606) (M.1 612) 23 0 18)) = some ([], nb_up (nb_up (nb_wr M 603 25 (M.1 606 4)) 612 (pu_cpy (M.1 606) (M.1 612) 23 0 18)) 613 (pu_cpy (M.1 606) (M.1 613) 41 0 70)) from (sp_m_copy (n0 := 347) (n2 := 70) (by decide) (by decide) (by decide) (by decide) (W7.lk (a := 606) (n := 347) (by decide) (by decide +kernel)) (W7.lk (a := 613) (n := 70) (by decide) (by decide +kernel)) (by omega) (by omega) (by omega) (by omega) (by omega)).trans (by first | rfl | simp [nb_wr_up, nb_up_1, nb_up_up, nb_ud])]
  refine nb_Gp ?_
  show nb_W 121 3 [(20, 603)] [] (nb_up (nb_up (nb_wr M 603 25 (M.1 606 4)) 612 (pu_cpy (M.1 606) (M.1 612) 23 0 18)) 613 (pu_cpy (M.1 606) (M.1 613) 41 0 70)) _
  refine nb_Wg (q_m_asTold_3 _ _) ?_
  refine nb_Gs ?_
  exact nb_Hu H
