/-! rules, printed by wip/gen -/
theorem w_m_begin_0 {l1 l2 l3 : Int} {v4 v5 v6 v7 v8 : nb_V} {M : nb_M} {Q : List nb_V → nb_M → Prop} (W : nb_Lay M) (hr0 : l1 ≠ 0) (hr1 : l1 ≠ 1) (hrl : nb_ln M l1 = 108) (b0_ : 0 ≤ l2 ∧ l2 ≤ 3) (b1_ : 1 ≤ l3 ∧ l3 ≤ 2) (H : pu_Rr (M.1 606) ∧ pu_Rw (M.1 l1) ∧ nb_W 133 2 [(20, 603), (3, l1), (0, l2), (0, l3), (0, M.1 l1 0), (0, pu_nf (M.1 606 5) (M.1 612) (M.1 613) (M.1 l1) l2), v6, v7, v8] [] M Q) :
    nb_W 133 0 [(20, 603), (3, l1), (0, l2), (0, l3), v4, v5, v6, v7, v8] [] M Q := by
  replace H := nb_Hw H
  obtain ⟨p0_, p1_, H⟩ := H
  replace H := nb_Hw H
  have N1 : nb_ln M l1 = 108 := hrl
  have E2 : nb_rd M l1 0 = M.1 l1 0 := nb_rd_1 _ _ _
  refine nb_Wg (q_m_begin_0 _ _ _ _ _ _ _ _ _ _ (by omega) (by omega) (by rw [N1]; first | done | omega) (by omega)) ?_
  simp only [E2]
  clear N1 E2
  rw [show nb_R nb_P 131 0 [(20, 603), (3, l1), (0, l2), (98, 0), (98, 0), (98, 0), (98, 0)] [] M = some ([(0, pu_nf (M.1 606 5) (M.1 612) (M.1 613) (M.1 l1) l2)], M) from sp_m_nextFor W (by omega) (by omega) (by first | assumption | exact hrl) (by assumption) (by assumption) (by omega)]
  refine nb_Gp ?_
  show nb_W 133 1 [(20, 603), (3, l1), (0, l2), (0, l3), (0, M.1 l1 0), v5, v6, v7, v8] [(0, pu_nf (M.1 606 5) (M.1 612) (M.1 613) (M.1 l1) l2)] M _
  refine nb_Wg (q_m_begin_1 _ _ _ _ _ _ _ _ _ _ _) ?_
  refine nb_Gr ?_
  exact nb_Hu H

theorem w_m_begin_2n {l1 l2 l3 l4 : Int} {v6 v7 v8 : nb_V} {M : nb_M} {Q : List nb_V → nb_M → Prop} (W : nb_Lay M) (hr0 : l1 ≠ 0) (hr1 : l1 ≠ 1) (hrl : nb_ln M l1 = 108) (H : Q [] M) :
    nb_W 133 2 [(20, 603), (3, l1), (0, l2), (0, l3), (0, l4), (0, (-2)), v6, v7, v8] [] M Q := by
  replace H := nb_Hw H
  refine nb_Wg (q_m_begin_2 _ _ _ _ _ _ _ _ _ _) ?_
  refine nb_Gt (by decide) ?_
  refine nb_Gr ?_
  refine nb_Wg (q_m_begin_19 _ _ _ _ _ _ _ _ _ _) ?_
  refine nb_Gs ?_
  exact nb_Hu H

theorem w_m_begin_2 {l1 l2 l3 l4 l5 : Int} {v6 v7 v8 : nb_V} {M : nb_M} {Q : List nb_V → nb_M → Prop} (W : nb_Lay M) (hr0 : l1 ≠ 0) (hr1 : l1 ≠ 1) (hrl : nb_ln M l1 = 108) (hA : l1 = 608 ∨ l1 = 609) (b0_ : 0 ≤ l2 ∧ l2 ≤ 3) (b1_ : 1 ≤ l3 ∧ l3 ≤ 2) (b2_ : 0 ≤ l5 ∧ l5 ≤ 9) (b3_ : 0 ≤ l4 ∧ l4 ≤ 10000) (b4_ : 0 ≤ M.1 l1 (92 + 4 * l2) ∧ M.1 l1 (92 + 4 * l2) ≤ 19) (b5_ : 0 ≤ M.1 l1 (12 + 8 * l5 + 1) ∧ M.1 l1 (12 + 8 * l5 + 1) ≤ 19) (b6_ : 0 ≤ M.1 612 (6 * l2 + 4) ∧ M.1 612 (6 * l2 + 4) ≤ 9) (b7_ : 0 ≤ M.1 l1 1 ∧ M.1 l1 1 ≤ 9) (b8_ : 0 ≤ M.1 l1 (92 + 4 * l2 + 3) ∧ M.1 l1 (92 + 4 * l2 + 3) ≤ 10) (H : -1000000 ≤ M.1 l1 (92 + 4 * l2) ∧ M.1 l1 (92 + 4 * l2) ≤ 1000000 ∧ -1000000 ≤ M.1 l1 (12 + 8 * l5 + 1) ∧ M.1 l1 (12 + 8 * l5 + 1) ≤ 1000000 ∧ -2147483648 ≤ (M.1 612 (6 * l2 + 4)) * (pu_far (M.1 l1 (92 + 4 * l2)) (M.1 l1 (12 + 8 * l5 + 1))) ∧ (M.1 612 (6 * l2 + 4)) * (pu_far (M.1 l1 (92 + 4 * l2)) (M.1 l1 (12 + 8 * l5 + 1))) ≤ 2147483647 ∧ -2147483648 ≤ l4 + ((M.1 612 (6 * l2 + 4)) * (pu_far (M.1 l1 (92 + 4 * l2)) (M.1 l1 (12 + 8 * l5 + 1)))) ∧ l4 + ((M.1 612 (6 * l2 + 4)) * (pu_far (M.1 l1 (92 + 4 * l2)) (M.1 l1 (12 + 8 * l5 + 1)))) ≤ 2147483647 ∧ pu_Rr (M.1 606) ∧ -1 ≤ M.1 l1 (92 + 4 * l2 + 3) - 1 ∧ M.1 l1 (92 + 4 * l2 + 3) - 1 ≤ 9 ∧ 0 ≤ l5 ∧ l5 ≤ 9 ∧ -2147483648 ≤ l4 + ((M.1 612 (6 * l2 + 4)) * (pu_far (M.1 l1 (92 + 4 * l2)) (M.1 l1 (12 + 8 * l5 + 1)))) + (pu_tb (M.1 606) (M.1 l1 (92 + 4 * l2 + 3) - 1) l5) ∧ l4 + ((M.1 612 (6 * l2 + 4)) * (pu_far (M.1 l1 (92 + 4 * l2)) (M.1 l1 (12 + 8 * l5 + 1)))) + (pu_tb (M.1 606) (M.1 l1 (92 + 4 * l2 + 3) - 1) l5) ≤ 2147483647 ∧ nb_W 133 14 [(20, 603), (3, l1), (0, l2), (0, l3), (0, l4), (0, l5), (0, 12 + 8 * l5), (0, 92 + 4 * l2), (0, l4 + ((M.1 612 (6 * l2 + 4)) * (pu_far (M.1 l1 (92 + 4 * l2)) (M.1 l1 (12 + 8 * l5 + 1)))) + (pu_tb (M.1 606) (M.1 l1 (92 + 4 * l2 + 3) - 1) l5))] [] (nb_wr (nb_wr (nb_wr (nb_wr (nb_wr (nb_wr (nb_wr (nb_wr (nb_wr M l1 (12 + 8 * l5) 2) l1 (12 + 8 * l5 + 4) l4) l1 (12 + 8 * l5 + 5) (l4 + ((M.1 612 (6 * l2 + 4)) * (pu_far (M.1 l1 (92 + 4 * l2)) (M.1 l1 (12 + 8 * l5 + 1)))) + (pu_tb (M.1 606) (M.1 l1 (92 + 4 * l2 + 3) - 1) l5))) l1 (12 + 8 * l5 + 6) l2) l1 (92 + 4 * l2) (M.1 l1 (12 + 8 * l5 + 1))) l1 (92 + 4 * l2 + l3) (l4 + ((M.1 612 (6 * l2 + 4)) * (pu_far (M.1 l1 (92 + 4 * l2)) (M.1 l1 (12 + 8 * l5 + 1)))) + (pu_tb (M.1 606) (M.1 l1 (92 + 4 * l2 + 3) - 1) l5))) l1 (92 + 4 * l2 + 3) (l5 + 1)) l1 (2 + M.1 l1 1) l5) l1 1 (M.1 l1 1 + 1)) Q) :
    nb_W 133 2 [(20, 603), (3, l1), (0, l2), (0, l3), (0, l4), (0, l5), v6, v7, v8] [] M Q := by
  replace H := nb_Hw H
  refine nb_Wg (q_m_begin_2 _ _ _ _ _ _ _ _ _ _) ?_
  refine nb_Gf (by omega) ?_
  refine nb_Gr ?_
  obtain ⟨p0_, p1_, p2_, p3_, H⟩ := H
  replace H := nb_Hw H
  have E1 : nb_mul 8 l5 = 8 * l5 := nb_mul_eq (by omega) (by omega)
  have E2 : nb_add 12 (8 * l5) = 12 + 8 * l5 := (nb_add_eq (x := 12) (y := 8 * l5) (by omega) (by omega)).trans (by omega)
  have E3 : nb_mul 4 l2 = 4 * l2 := nb_mul_eq (by omega) (by omega)
  have E4 : nb_add 92 (4 * l2) = 92 + 4 * l2 := (nb_add_eq (x := 92) (y := 4 * l2) (by omega) (by omega)).trans (by omega)
  have E5 : nb_rd M 603 23 = 612 := W.m23
  have E6 : nb_mul 6 l2 = 6 * l2 := nb_mul_eq (by omega) (by omega)
  have E7 : nb_add (6 * l2) 4 = 6 * l2 + 4 := nb_add_eq (by omega) (by omega)
  have N8 : nb_ln M 612 = 24 := W.lk (by decide) (by decide +kernel)
  have E9 : nb_rd M 612 (6 * l2 + 4) = M.1 612 (6 * l2 + 4) := nb_rd_1 _ _ _
  have N10 : nb_ln M l1 = 108 := hrl
  have E11 : nb_rd M l1 (92 + 4 * l2) = M.1 l1 (92 + 4 * l2) := nb_rd_1 _ _ _
  have E12 : nb_add (12 + 8 * l5) 1 = 12 + 8 * l5 + 1 := nb_add_eq (by omega) (by omega)
  have N13 : nb_ln M l1 = 108 := hrl
  have E14 : nb_rd M l1 (12 + 8 * l5 + 1) = M.1 l1 (12 + 8 * l5 + 1) := nb_rd_1 _ _ _
  refine nb_Wg (q_m_begin_3 _ _ _ _ _ _ _ _ _ _ (by omega) (by rw [E5]; first | done | omega) (by rw [E6, E7]; first | done | omega) (by rw [E6, E7, E5, N8]; first | done | omega) (by omega) (by rw [E3, E4]; first | done | omega) (by rw [E3, E4, N10]; first | done | omega) (by rw [E1, E2, E12]; first | done | omega) (by rw [E1, E2, E12, N13]; first | done | omega)) ?_
  simp only [E1, E2, E3, E4, E5, E6, E7, E9, E11, E12, E14]
  clear E1 E2 E3 E4 E5 E6 E7 N8 E9 N10 E11 E12 N13 E14
  rw [show nb_R nb_P 127 0 [(0, M.1 l1 (92 + 4 * l2)), (0, M.1 l1 (12 + 8 * l5 + 1))] [] M = some ([(0, pu_far (M.1 l1 (92 + 4 * l2)) (M.1 l1 (12 + 8 * l5 + 1)))], M) from sp_m_far (by omega) (by omega)]
  refine nb_Gp ?_
  show nb_W 133 4 [(20, 603), (3, l1), (0, l2), (0, l3), (0, l4), (0, l5), (0, 12 + 8 * l5), (0, 92 + 4 * l2), v8] [(0, pu_far (M.1 l1 (92 + 4 * l2)) (M.1 l1 (12 + 8 * l5 + 1))), (0, M.1 612 (6 * l2 + 4)), (0, l4)] M _
  obtain ⟨p0_, p1_, p2_, p3_, H⟩ := H
  replace H := nb_Hw H
  have E15 : nb_mul (M.1 612 (6 * l2 + 4)) (pu_far (M.1 l1 (92 + 4 * l2)) (M.1 l1 (12 + 8 * l5 + 1))) = (M.1 612 (6 * l2 + 4)) * (pu_far (M.1 l1 (92 + 4 * l2)) (M.1 l1 (12 + 8 * l5 + 1))) := (nb_mul_eq (x := M.1 612 (6 * l2 + 4)) (y := pu_far (M.1 l1 (92 + 4 * l2)) (M.1 l1 (12 + 8 * l5 + 1))) (by omega) (by omega)).trans (by omega)
  have E16 : nb_add l4 ((M.1 612 (6 * l2 + 4)) * (pu_far (M.1 l1 (92 + 4 * l2)) (M.1 l1 (12 + 8 * l5 + 1)))) = l4 + ((M.1 612 (6 * l2 + 4)) * (pu_far (M.1 l1 (92 + 4 * l2)) (M.1 l1 (12 + 8 * l5 + 1)))) := nb_add_eq (by omega) (by omega)
  refine nb_Wg (q_m_begin_4 _ _ _ _ _ _ _ _ _ _ _ _ _ (by omega)) ?_
  simp only [E15, E16]
  clear E15 E16
  refine nb_Gb ?_
  obtain ⟨p0_, p1_, p2_, p3_, p4_, H⟩ := H
  replace H := nb_Hw H
  have E17 : nb_mul 4 l2 = 4 * l2 := nb_mul_eq (by omega) (by omega)
  have E18 : nb_add 92 (4 * l2) = 92 + 4 * l2 := (nb_add_eq (x := 92) (y := 4 * l2) (by omega) (by omega)).trans (by omega)
  have E19 : nb_add (92 + 4 * l2) 3 = 92 + 4 * l2 + 3 := nb_add_eq (by omega) (by omega)
  have N20 : nb_ln M l1 = 108 := hrl
  have E21 : nb_rd M l1 (92 + 4 * l2 + 3) = M.1 l1 (92 + 4 * l2 + 3) := nb_rd_1 _ _ _
  have E22 : nb_sub (M.1 l1 (92 + 4 * l2 + 3)) 1 = M.1 l1 (92 + 4 * l2 + 3) - 1 := nb_sub_eq (by omega) (by omega)
  refine nb_Wg (q_m_timeOf_0 _ _ _ _ _ _ (by omega) (by rw [E17, E18, E19]; first | done | omega) (by rw [E17, E18, E19, N20]; first | done | omega) (by omega)) ?_
  simp only [E17, E18, E19, E21, E22]
  clear E17 E18 E19 N20 E21 E22
  rw [show nb_R nb_P 129 0 [(20, 603), (0, M.1 l1 (92 + 4 * l2 + 3) - 1), (0, l5), (98, 0), (98, 0), (98, 0), (98, 0)] [] M = some ([(0, pu_tb (M.1 606) (M.1 l1 (92 + 4 * l2 + 3) - 1) l5)], M) from sp_m_timeBehind W (by assumption) (by omega) (by omega)]
  refine nb_Gp ?_
  show nb_W 128 1 [(20, 603), (3, l1), (0, l2), (0, l5), (0, M.1 l1 (92 + 4 * l2 + 3) - 1)] [(0, pu_tb (M.1 606) (M.1 l1 (92 + 4 * l2 + 3) - 1) l5)] M _
  refine nb_Wg (q_m_timeOf_1 _ _ _ _ _ _ _) ?_
  refine nb_Gs ?_
  show nb_W 133 5 [(20, 603), (3, l1), (0, l2), (0, l3), (0, l4), (0, l5), (0, 12 + 8 * l5), (0, 92 + 4 * l2), v8] [(0, pu_tb (M.1 606) (M.1 l1 (92 + 4 * l2 + 3) - 1) l5), (0, l4 + ((M.1 612 (6 * l2 + 4)) * (pu_far (M.1 l1 (92 + 4 * l2)) (M.1 l1 (12 + 8 * l5 + 1)))))] M _
  obtain ⟨p0_, p1_, H⟩ := H
  replace H := nb_Hw H
  have E23 : nb_add (l4 + ((M.1 612 (6 * l2 + 4)) * (pu_far (M.1 l1 (92 + 4 * l2)) (M.1 l1 (12 + 8 * l5 + 1))))) (pu_tb (M.1 606) (M.1 l1 (92 + 4 * l2 + 3) - 1) l5) = l4 + ((M.1 612 (6 * l2 + 4)) * (pu_far (M.1 l1 (92 + 4 * l2)) (M.1 l1 (12 + 8 * l5 + 1)))) + (pu_tb (M.1 606) (M.1 l1 (92 + 4 * l2 + 3) - 1) l5) := nb_add_eq (by omega) (by omega)
  have E24 : nb_add (12 + 8 * l5) 0 = 12 + 8 * l5 := (nb_add_eq (x := 12 + 8 * l5) (y := 0) (by omega) (by omega)).trans (by omega)
  have N25 : nb_ln M l1 = 108 := hrl
  refine nb_Wg (q_m_begin_5 _ _ _ _ _ _ _ _ _ _ _ _ (by omega) (by omega) (by rw [E24]; first | done | omega) (by rw [E24, N25]; first | done | omega)) ?_
  simp only [E23, E24]
  clear E23 E24 N25
  have W26 : nb_Lay (nb_wr M l1 (12 + 8 * l5) 2) := W.wr (fun w => (nb_nrow hA))
  refine nb_Gr ?_
  have E27 : nb_add (12 + 8 * l5) 4 = 12 + 8 * l5 + 4 := nb_add_eq (by omega) (by omega)
  have N28 : nb_ln (nb_wr M l1 (12 + 8 * l5) 2) l1 = 108 := hrl
  refine nb_Wg (q_m_begin_6 _ _ _ _ _ _ _ _ _ _ (by omega) (by omega) (by rw [E27]; first | done | omega) (by rw [E27, N28]; first | done | omega)) ?_
  simp only [E27]
  clear E27 N28
  have W29 : nb_Lay (nb_wr (nb_wr M l1 (12 + 8 * l5) 2) l1 (12 + 8 * l5 + 4) l4) := W26.wr (fun w => (nb_nrow hA))
  refine nb_Gr ?_
  have E30 : nb_add (12 + 8 * l5) 5 = 12 + 8 * l5 + 5 := nb_add_eq (by omega) (by omega)
  have N31 : nb_ln (nb_wr (nb_wr M l1 (12 + 8 * l5) 2) l1 (12 + 8 * l5 + 4) l4) l1 = 108 := hrl
  refine nb_Wg (q_m_begin_7 _ _ _ _ _ _ _ _ _ _ (by omega) (by omega) (by rw [E30]; first | done | omega) (by rw [E30, N31]; first | done | omega)) ?_
  simp only [E30]
  clear E30 N31
  have W32 : nb_Lay (nb_wr (nb_wr (nb_wr M l1 (12 + 8 * l5) 2) l1 (12 + 8 * l5 + 4) l4) l1 (12 + 8 * l5 + 5) (l4 + ((M.1 612 (6 * l2 + 4)) * (pu_far (M.1 l1 (92 + 4 * l2)) (M.1 l1 (12 + 8 * l5 + 1)))) + (pu_tb (M.1 606) (M.1 l1 (92 + 4 * l2 + 3) - 1) l5))) := W29.wr (fun w => (nb_nrow hA))
  refine nb_Gr ?_
  have E33 : nb_add (12 + 8 * l5) 6 = 12 + 8 * l5 + 6 := nb_add_eq (by omega) (by omega)
  have N34 : nb_ln (nb_wr (nb_wr (nb_wr M l1 (12 + 8 * l5) 2) l1 (12 + 8 * l5 + 4) l4) l1 (12 + 8 * l5 + 5) (l4 + ((M.1 612 (6 * l2 + 4)) * (pu_far (M.1 l1 (92 + 4 * l2)) (M.1 l1 (12 + 8 * l5 + 1)))) + (pu_tb (M.1 606) (M.1 l1 (92 + 4 * l2 + 3) - 1) l5))) l1 = 108 := hrl
  refine nb_Wg (q_m_begin_8 _ _ _ _ _ _ _ _ _ _ (by omega) (by omega) (by rw [E33]; first | done | omega) (by rw [E33, N34]; first | done | omega)) ?_
  simp only [E33]
  clear E33 N34
  have W35 : nb_Lay (nb_wr (nb_wr (nb_wr (nb_wr M l1 (12 + 8 * l5) 2) l1 (12 + 8 * l5 + 4) l4) l1 (12 + 8 * l5 + 5) (l4 + ((M.1 612 (6 * l2 + 4)) * (pu_far (M.1 l1 (92 + 4 * l2)) (M.1 l1 (12 + 8 * l5 + 1)))) + (pu_tb (M.1 606) (M.1 l1 (92 + 4 * l2 + 3) - 1) l5))) l1 (12 + 8 * l5 + 6) l2) := W32.wr (fun w => (nb_nrow hA))
  refine nb_Gr ?_
  have E36 : nb_add (12 + 8 * l5) 1 = 12 + 8 * l5 + 1 := nb_add_eq (by omega) (by omega)
  have N37 : nb_ln (nb_wr (nb_wr (nb_wr (nb_wr M l1 (12 + 8 * l5) 2) l1 (12 + 8 * l5 + 4) l4) l1 (12 + 8 * l5 + 5) (l4 + ((M.1 612 (6 * l2 + 4)) * (pu_far (M.1 l1 (92 + 4 * l2)) (M.1 l1 (12 + 8 * l5 + 1)))) + (pu_tb (M.1 606) (M.1 l1 (92 + 4 * l2 + 3) - 1) l5))) l1 (12 + 8 * l5 + 6) l2) l1 = 108 := hrl
  have E38 : nb_rd (nb_wr (nb_wr (nb_wr (nb_wr M l1 (12 + 8 * l5) 2) l1 (12 + 8 * l5 + 4) l4) l1 (12 + 8 * l5 + 5) (l4 + ((M.1 612 (6 * l2 + 4)) * (pu_far (M.1 l1 (92 + 4 * l2)) (M.1 l1 (12 + 8 * l5 + 1)))) + (pu_tb (M.1 606) (M.1 l1 (92 + 4 * l2 + 3) - 1) l5))) l1 (12 + 8 * l5 + 6) l2) l1 (12 + 8 * l5 + 1) = M.1 l1 (12 + 8 * l5 + 1) := nb_rdw (Or.inr (by omega)) (nb_rdw (Or.inr (by omega)) (nb_rdw (Or.inr (by omega)) (nb_rdw (Or.inr (by omega)) (nb_rd_1 _ _ _))))
  have N39 : nb_ln (nb_wr (nb_wr (nb_wr (nb_wr M l1 (12 + 8 * l5) 2) l1 (12 + 8 * l5 + 4) l4) l1 (12 + 8 * l5 + 5) (l4 + ((M.1 612 (6 * l2 + 4)) * (pu_far (M.1 l1 (92 + 4 * l2)) (M.1 l1 (12 + 8 * l5 + 1)))) + (pu_tb (M.1 606) (M.1 l1 (92 + 4 * l2 + 3) - 1) l5))) l1 (12 + 8 * l5 + 6) l2) l1 = 108 := hrl
  refine nb_Wg (q_m_begin_9 _ _ _ _ _ _ _ _ _ _ (by omega) (by rw [E36]; first | done | omega) (by rw [E36, N37]; first | done | omega) (by omega) (by omega) (by rw [N39]; first | done | omega)) ?_
  simp only [E36, E38]
  clear E36 N37 E38 N39
  have W40 : nb_Lay (nb_wr (nb_wr (nb_wr (nb_wr (nb_wr M l1 (12 + 8 * l5) 2) l1 (12 + 8 * l5 + 4) l4) l1 (12 + 8 * l5 + 5) (l4 + ((M.1 612 (6 * l2 + 4)) * (pu_far (M.1 l1 (92 + 4 * l2)) (M.1 l1 (12 + 8 * l5 + 1)))) + (pu_tb (M.1 606) (M.1 l1 (92 + 4 * l2 + 3) - 1) l5))) l1 (12 + 8 * l5 + 6) l2) l1 (92 + 4 * l2) (M.1 l1 (12 + 8 * l5 + 1))) := W35.wr (fun w => (nb_nrow hA))
  refine nb_Gr ?_
  have E41 : nb_add (92 + 4 * l2) l3 = 92 + 4 * l2 + l3 := nb_add_eq (by omega) (by omega)
  have N42 : nb_ln (nb_wr (nb_wr (nb_wr (nb_wr (nb_wr M l1 (12 + 8 * l5) 2) l1 (12 + 8 * l5 + 4) l4) l1 (12 + 8 * l5 + 5) (l4 + ((M.1 612 (6 * l2 + 4)) * (pu_far (M.1 l1 (92 + 4 * l2)) (M.1 l1 (12 + 8 * l5 + 1)))) + (pu_tb (M.1 606) (M.1 l1 (92 + 4 * l2 + 3) - 1) l5))) l1 (12 + 8 * l5 + 6) l2) l1 (92 + 4 * l2) (M.1 l1 (12 + 8 * l5 + 1))) l1 = 108 := hrl
  refine nb_Wg (q_m_begin_10 _ _ _ _ _ _ _ _ _ _ (by omega) (by omega) (by rw [E41]; first | done | omega) (by rw [E41, N42]; first | done | omega)) ?_
  simp only [E41]
  clear E41 N42
  have W43 : nb_Lay (nb_wr (nb_wr (nb_wr (nb_wr (nb_wr (nb_wr M l1 (12 + 8 * l5) 2) l1 (12 + 8 * l5 + 4) l4) l1 (12 + 8 * l5 + 5) (l4 + ((M.1 612 (6 * l2 + 4)) * (pu_far (M.1 l1 (92 + 4 * l2)) (M.1 l1 (12 + 8 * l5 + 1)))) + (pu_tb (M.1 606) (M.1 l1 (92 + 4 * l2 + 3) - 1) l5))) l1 (12 + 8 * l5 + 6) l2) l1 (92 + 4 * l2) (M.1 l1 (12 + 8 * l5 + 1))) l1 (92 + 4 * l2 + l3) (l4 + ((M.1 612 (6 * l2 + 4)) * (pu_far (M.1 l1 (92 + 4 * l2)) (M.1 l1 (12 + 8 * l5 + 1)))) + (pu_tb (M.1 606) (M.1 l1 (92 + 4 * l2 + 3) - 1) l5))) := W40.wr (fun w => (nb_nrow hA))
  refine nb_Gr ?_
  have E44 : nb_add (92 + 4 * l2) 3 = 92 + 4 * l2 + 3 := nb_add_eq (by omega) (by omega)
  have E45 : nb_add l5 1 = l5 + 1 := nb_add_eq (by omega) (by omega)
  have N46 : nb_ln (nb_wr (nb_wr (nb_wr (nb_wr (nb_wr (nb_wr M l1 (12 + 8 * l5) 2) l1 (12 + 8 * l5 + 4) l4) l1 (12 + 8 * l5 + 5) (l4 + ((M.1 612 (6 * l2 + 4)) * (pu_far (M.1 l1 (92 + 4 * l2)) (M.1 l1 (12 + 8 * l5 + 1)))) + (pu_tb (M.1 606) (M.1 l1 (92 + 4 * l2 + 3) - 1) l5))) l1 (12 + 8 * l5 + 6) l2) l1 (92 + 4 * l2) (M.1 l1 (12 + 8 * l5 + 1))) l1 (92 + 4 * l2 + l3) (l4 + ((M.1 612 (6 * l2 + 4)) * (pu_far (M.1 l1 (92 + 4 * l2)) (M.1 l1 (12 + 8 * l5 + 1)))) + (pu_tb (M.1 606) (M.1 l1 (92 + 4 * l2 + 3) - 1) l5))) l1 = 108 := hrl
  refine nb_Wg (q_m_begin_11 _ _ _ _ _ _ _ _ _ _ (by omega) (by omega) (by rw [E44]; first | done | omega) (by rw [E44, N46]; first | done | omega)) ?_
  simp only [E44, E45]
  clear E44 E45 N46
  have W47 : nb_Lay (nb_wr (nb_wr (nb_wr (nb_wr (nb_wr (nb_wr (nb_wr M l1 (12 + 8 * l5) 2) l1 (12 + 8 * l5 + 4) l4) l1 (12 + 8 * l5 + 5) (l4 + ((M.1 612 (6 * l2 + 4)) * (pu_far (M.1 l1 (92 + 4 * l2)) (M.1 l1 (12 + 8 * l5 + 1)))) + (pu_tb (M.1 606) (M.1 l1 (92 + 4 * l2 + 3) - 1) l5))) l1 (12 + 8 * l5 + 6) l2) l1 (92 + 4 * l2) (M.1 l1 (12 + 8 * l5 + 1))) l1 (92 + 4 * l2 + l3) (l4 + ((M.1 612 (6 * l2 + 4)) * (pu_far (M.1 l1 (92 + 4 * l2)) (M.1 l1 (12 + 8 * l5 + 1)))) + (pu_tb (M.1 606) (M.1 l1 (92 + 4 * l2 + 3) - 1) l5))) l1 (92 + 4 * l2 + 3) (l5 + 1)) := W43.wr (fun w => (nb_nrow hA))
  refine nb_Gr ?_
  have N48 : nb_ln (nb_wr (nb_wr (nb_wr (nb_wr (nb_wr (nb_wr (nb_wr M l1 (12 + 8 * l5) 2) l1 (12 + 8 * l5 + 4) l4) l1 (12 + 8 * l5 + 5) (l4 + ((M.1 612 (6 * l2 + 4)) * (pu_far (M.1 l1 (92 + 4 * l2)) (M.1 l1 (12 + 8 * l5 + 1)))) + (pu_tb (M.1 606) (M.1 l1 (92 + 4 * l2 + 3) - 1) l5))) l1 (12 + 8 * l5 + 6) l2) l1 (92 + 4 * l2) (M.1 l1 (12 + 8 * l5 + 1))) l1 (92 + 4 * l2 + l3) (l4 + ((M.1 612 (6 * l2 + 4)) * (pu_far (M.1 l1 (92 + 4 * l2)) (M.1 l1 (12 + 8 * l5 + 1)))) + (pu_tb (M.1 606) (M.1 l1 (92 + 4 * l2 + 3) - 1) l5))) l1 (92 + 4 * l2 + 3) (l5 + 1)) l1 = 108 := hrl
  have E49 : nb_rd (nb_wr (nb_wr (nb_wr (nb_wr (nb_wr (nb_wr (nb_wr M l1 (12 + 8 * l5) 2) l1 (12 + 8 * l5 + 4) l4) l1 (12 + 8 * l5 + 5) (l4 + ((M.1 612 (6 * l2 + 4)) * (pu_far (M.1 l1 (92 + 4 * l2)) (M.1 l1 (12 + 8 * l5 + 1)))) + (pu_tb (M.1 606) (M.1 l1 (92 + 4 * l2 + 3) - 1) l5))) l1 (12 + 8 * l5 + 6) l2) l1 (92 + 4 * l2) (M.1 l1 (12 + 8 * l5 + 1))) l1 (92 + 4 * l2 + l3) (l4 + ((M.1 612 (6 * l2 + 4)) * (pu_far (M.1 l1 (92 + 4 * l2)) (M.1 l1 (12 + 8 * l5 + 1)))) + (pu_tb (M.1 606) (M.1 l1 (92 + 4 * l2 + 3) - 1) l5))) l1 (92 + 4 * l2 + 3) (l5 + 1)) l1 1 = M.1 l1 1 := nb_rdw (Or.inr (by omega)) (nb_rdw (Or.inr (by omega)) (nb_rdw (Or.inr (by omega)) (nb_rdw (Or.inr (by omega)) (nb_rdw (Or.inr (by omega)) (nb_rdw (Or.inr (by omega)) (nb_rdw (Or.inr (by omega)) (nb_rd_1 _ _ _)))))))
  have E50 : nb_add 2 (M.1 l1 1) = 2 + M.1 l1 1 := (nb_add_eq (x := 2) (y := M.1 l1 1) (by omega) (by omega)).trans (by omega)
  have N51 : nb_ln (nb_wr (nb_wr (nb_wr (nb_wr (nb_wr (nb_wr (nb_wr M l1 (12 + 8 * l5) 2) l1 (12 + 8 * l5 + 4) l4) l1 (12 + 8 * l5 + 5) (l4 + ((M.1 612 (6 * l2 + 4)) * (pu_far (M.1 l1 (92 + 4 * l2)) (M.1 l1 (12 + 8 * l5 + 1)))) + (pu_tb (M.1 606) (M.1 l1 (92 + 4 * l2 + 3) - 1) l5))) l1 (12 + 8 * l5 + 6) l2) l1 (92 + 4 * l2) (M.1 l1 (12 + 8 * l5 + 1))) l1 (92 + 4 * l2 + l3) (l4 + ((M.1 612 (6 * l2 + 4)) * (pu_far (M.1 l1 (92 + 4 * l2)) (M.1 l1 (12 + 8 * l5 + 1)))) + (pu_tb (M.1 606) (M.1 l1 (92 + 4 * l2 + 3) - 1) l5))) l1 (92 + 4 * l2 + 3) (l5 + 1)) l1 = 108 := hrl
  refine nb_Wg (q_m_begin_12 _ _ _ _ _ _ _ _ _ _ (by omega) (by omega) (by rw [N48]; first | done | omega) (by omega) (by rw [E49, E50]; first | done | omega) (by rw [E49, E50, N51]; first | done | omega)) ?_
  simp only [E49, E50]
  clear N48 E49 E50 N51
  have W52 : nb_Lay (nb_wr (nb_wr (nb_wr (nb_wr (nb_wr (nb_wr (nb_wr (nb_wr M l1 (12 + 8 * l5) 2) l1 (12 + 8 * l5 + 4) l4) l1 (12 + 8 * l5 + 5) (l4 + ((M.1 612 (6 * l2 + 4)) * (pu_far (M.1 l1 (92 + 4 * l2)) (M.1 l1 (12 + 8 * l5 + 1)))) + (pu_tb (M.1 606) (M.1 l1 (92 + 4 * l2 + 3) - 1) l5))) l1 (12 + 8 * l5 + 6) l2) l1 (92 + 4 * l2) (M.1 l1 (12 + 8 * l5 + 1))) l1 (92 + 4 * l2 + l3) (l4 + ((M.1 612 (6 * l2 + 4)) * (pu_far (M.1 l1 (92 + 4 * l2)) (M.1 l1 (12 + 8 * l5 + 1)))) + (pu_tb (M.1 606) (M.1 l1 (92 + 4 * l2 + 3) - 1) l5))) l1 (92 + 4 * l2 + 3) (l5 + 1)) l1 (2 + M.1 l1 1) l5) := W47.wr (fun w => (nb_nrow hA))
  refine nb_Gr ?_
  have N53 : nb_ln (nb_wr (nb_wr (nb_wr (nb_wr (nb_wr (nb_wr (nb_wr (nb_wr M l1 (12 + 8 * l5) 2) l1 (12 + 8 * l5 + 4) l4) l1 (12 + 8 * l5 + 5) (l4 + ((M.1 612 (6 * l2 + 4)) * (pu_far (M.1 l1 (92 + 4 * l2)) (M.1 l1 (12 + 8 * l5 + 1)))) + (pu_tb (M.1 606) (M.1 l1 (92 + 4 * l2 + 3) - 1) l5))) l1 (12 + 8 * l5 + 6) l2) l1 (92 + 4 * l2) (M.1 l1 (12 + 8 * l5 + 1))) l1 (92 + 4 * l2 + l3) (l4 + ((M.1 612 (6 * l2 + 4)) * (pu_far (M.1 l1 (92 + 4 * l2)) (M.1 l1 (12 + 8 * l5 + 1)))) + (pu_tb (M.1 606) (M.1 l1 (92 + 4 * l2 + 3) - 1) l5))) l1 (92 + 4 * l2 + 3) (l5 + 1)) l1 (2 + M.1 l1 1) l5) l1 = 108 := hrl
  have E54 : nb_rd (nb_wr (nb_wr (nb_wr (nb_wr (nb_wr (nb_wr (nb_wr (nb_wr M l1 (12 + 8 * l5) 2) l1 (12 + 8 * l5 + 4) l4) l1 (12 + 8 * l5 + 5) (l4 + ((M.1 612 (6 * l2 + 4)) * (pu_far (M.1 l1 (92 + 4 * l2)) (M.1 l1 (12 + 8 * l5 + 1)))) + (pu_tb (M.1 606) (M.1 l1 (92 + 4 * l2 + 3) - 1) l5))) l1 (12 + 8 * l5 + 6) l2) l1 (92 + 4 * l2) (M.1 l1 (12 + 8 * l5 + 1))) l1 (92 + 4 * l2 + l3) (l4 + ((M.1 612 (6 * l2 + 4)) * (pu_far (M.1 l1 (92 + 4 * l2)) (M.1 l1 (12 + 8 * l5 + 1)))) + (pu_tb (M.1 606) (M.1 l1 (92 + 4 * l2 + 3) - 1) l5))) l1 (92 + 4 * l2 + 3) (l5 + 1)) l1 (2 + M.1 l1 1) l5) l1 1 = M.1 l1 1 := nb_rdw (Or.inr (by omega)) (nb_rdw (Or.inr (by omega)) (nb_rdw (Or.inr (by omega)) (nb_rdw (Or.inr (by omega)) (nb_rdw (Or.inr (by omega)) (nb_rdw (Or.inr (by omega)) (nb_rdw (Or.inr (by omega)) (nb_rdw (Or.inr (by omega)) (nb_rd_1 _ _ _))))))))
  have E55 : nb_add (M.1 l1 1) 1 = M.1 l1 1 + 1 := nb_add_eq (by omega) (by omega)
  have N56 : nb_ln (nb_wr (nb_wr (nb_wr (nb_wr (nb_wr (nb_wr (nb_wr (nb_wr M l1 (12 + 8 * l5) 2) l1 (12 + 8 * l5 + 4) l4) l1 (12 + 8 * l5 + 5) (l4 + ((M.1 612 (6 * l2 + 4)) * (pu_far (M.1 l1 (92 + 4 * l2)) (M.1 l1 (12 + 8 * l5 + 1)))) + (pu_tb (M.1 606) (M.1 l1 (92 + 4 * l2 + 3) - 1) l5))) l1 (12 + 8 * l5 + 6) l2) l1 (92 + 4 * l2) (M.1 l1 (12 + 8 * l5 + 1))) l1 (92 + 4 * l2 + l3) (l4 + ((M.1 612 (6 * l2 + 4)) * (pu_far (M.1 l1 (92 + 4 * l2)) (M.1 l1 (12 + 8 * l5 + 1)))) + (pu_tb (M.1 606) (M.1 l1 (92 + 4 * l2 + 3) - 1) l5))) l1 (92 + 4 * l2 + 3) (l5 + 1)) l1 (2 + M.1 l1 1) l5) l1 = 108 := hrl
  refine nb_Wg (q_m_begin_13 _ _ _ _ _ _ _ _ _ _ (by omega) (by omega) (by rw [N53]; first | done | omega) (by omega)) ?_
  simp only [E54, E55]
  clear N53 E54 E55 N56
  have W57 : nb_Lay (nb_wr (nb_wr (nb_wr (nb_wr (nb_wr (nb_wr (nb_wr (nb_wr (nb_wr M l1 (12 + 8 * l5) 2) l1 (12 + 8 * l5 + 4) l4) l1 (12 + 8 * l5 + 5) (l4 + ((M.1 612 (6 * l2 + 4)) * (pu_far (M.1 l1 (92 + 4 * l2)) (M.1 l1 (12 + 8 * l5 + 1)))) + (pu_tb (M.1 606) (M.1 l1 (92 + 4 * l2 + 3) - 1) l5))) l1 (12 + 8 * l5 + 6) l2) l1 (92 + 4 * l2) (M.1 l1 (12 + 8 * l5 + 1))) l1 (92 + 4 * l2 + l3) (l4 + ((M.1 612 (6 * l2 + 4)) * (pu_far (M.1 l1 (92 + 4 * l2)) (M.1 l1 (12 + 8 * l5 + 1)))) + (pu_tb (M.1 606) (M.1 l1 (92 + 4 * l2 + 3) - 1) l5))) l1 (92 + 4 * l2 + 3) (l5 + 1)) l1 (2 + M.1 l1 1) l5) l1 1 (M.1 l1 1 + 1)) := W52.wr (fun w => (nb_nrow hA))
  refine nb_Gr ?_
  exact nb_Hu H

theorem w_m_begin_14 {l1 l2 l3 l4 l8 : Int} {v5 v6 v7 : nb_V} {M : nb_M} {Q : List nb_V → nb_M → Prop} (W : nb_Lay M) (hr0 : l1 ≠ 0) (hr1 : l1 ≠ 1) (hrl : nb_ln M l1 = 108) (b0_ : 0 ≤ l2 ∧ l2 ≤ 3) (H : (l4 < l8 → nb_W 133 2 [(20, 603), (3, l1), (0, l2), (0, l3), (0, l4), (0, (-2)), v6, v7, (0, l8)] [] M Q) ∧ (l8 ≤ l4 → pu_Rr (M.1 606) ∧ pu_Rw (M.1 l1) ∧ nb_W 133 2 [(20, 603), (3, l1), (0, l2), (0, l3), (0, l4), (0, pu_nf (M.1 606 5) (M.1 612) (M.1 613) (M.1 l1) l2), v6, v7, (0, l8)] [] M Q)) :
    nb_W 133 14 [(20, 603), (3, l1), (0, l2), (0, l3), (0, l4), v5, v6, v7, (0, l8)] [] M Q := by
  replace H := nb_Hw H
  refine nb_Wg (q_m_begin_14 _ _ _ _ _ _ _ _ _ _) ?_
  refine nb_Gi (fun c1 => ?_) (fun c1 => ?_)
  · have H := nb_Hw ((nb_Hu H).1 c1)
    refine nb_Gr ?_
    refine nb_Wg (q_m_begin_17 _ _ _ _ _ _ _ _ _ _) ?_
    refine nb_Gr ?_
    refine nb_Wg (q_m_begin_18 _ _ _ _ _ _ _ _ _ _ _) ?_
    refine nb_Gr ?_
    exact nb_Hu H
  · have H := nb_Hw ((nb_Hu H).2 (by omega))
    have c1 : l8 ≤ l4 := by omega
    refine nb_Gr ?_
    obtain ⟨p0_, p1_, H⟩ := H
    replace H := nb_Hw H
    refine nb_Wg (q_m_begin_15 _ _ _ _ _ _ _ _ _ _ (by omega)) ?_
    rw [show nb_R nb_P 131 0 [(20, 603), (3, l1), (0, l2), (98, 0), (98, 0), (98, 0), (98, 0)] [] M = some ([(0, pu_nf (M.1 606 5) (M.1 612) (M.1 613) (M.1 l1) l2)], M) from sp_m_nextFor W (by omega) (by omega) (by first | assumption | exact hrl) (by assumption) (by assumption) (by omega)]
    refine nb_Gp ?_
    show nb_W 133 16 [(20, 603), (3, l1), (0, l2), (0, l3), (0, l4), v5, v6, v7, (0, l8)] [(0, pu_nf (M.1 606 5) (M.1 612) (M.1 613) (M.1 l1) l2)] M _
    refine nb_Wg (q_m_begin_16 _ _ _ _ _ _ _ _ _ _ _) ?_
    refine nb_Gr ?_
    refine nb_Wg (q_m_begin_18 _ _ _ _ _ _ _ _ _ _ _) ?_
    refine nb_Gr ?_
    exact nb_Hu H

theorem w_m_second_0 {l1 : Int} {v2 v3 v4 v5 : nb_V} {M : nb_M} {Q : List nb_V → nb_M → Prop} (W : nb_Lay M) (hr0 : l1 ≠ 0) (hr1 : l1 ≠ 1) (hrl : nb_ln M l1 = 108) (hA : l1 = 608 ∨ l1 = 609) (H : nb_W 132 1 [(20, 603), (3, l1), (0, M.1 l1 0), (0, 0), v4, v5] [] M Q) :
    nb_W 132 0 [(20, 603), (3, l1), v2, v3, v4, v5] [] M Q := by
  replace H := nb_Hw H
  have N1 : nb_ln M l1 = 108 := hrl
  have E2 : nb_rd M l1 0 = M.1 l1 0 := nb_rd_1 _ _ _
  refine nb_Wg (q_m_second_0 _ _ _ _ _ _ _ (by omega) (by omega) (by rw [N1]; first | done | omega)) ?_
  simp only [E2]
  clear N1 E2
  refine nb_Gr ?_
  exact nb_Hu H

theorem w_m_second_1 {l1 l2 l3 : Int} {v4 v5 : nb_V} {M : nb_M} {Q : List nb_V → nb_M → Prop} (W : nb_Lay M) (hr0 : l1 ≠ 0) (hr1 : l1 ≠ 1) (hrl : nb_ln M l1 = 108) (hA : l1 = 608 ∨ l1 = 609) (b0_ : 0 ≤ l2 ∧ l2 ≤ 10000) (b1_ : 0 ≤ l3 ∧ l3 ≤ 10) (b2_ : 0 ≤ M.1 606 5 ∧ M.1 606 5 ≤ 10) (H : (l3 < M.1 606 5 → (M.1 l1 (12 + 8 * l3) = 0 → 0 ≤ M.1 613 (7 * l3 + 2) ∧ M.1 613 (7 * l3 + 2) ≤ 600 ∧ (M.1 613 (7 * l3 + 2) = l2 → 0 ≤ M.1 613 (7 * l3 + 6) ∧ M.1 613 (7 * l3 + 6) ≤ 601 ∧ (M.1 613 (7 * l3 + 6) - 1 < 0 → 0 ≤ M.1 613 (7 * l3 + 4) ∧ M.1 613 (7 * l3 + 4) ≤ 600 ∧ (l2 - (M.1 613 (7 * l3 + 2)) < M.1 613 (7 * l3 + 4) → nb_W 132 1 [(20, 603), (3, l1), (0, l2), (0, l3 + 1), (0, 12 + 8 * l3), (0, M.1 613 (7 * l3 + 6) - 1)] [] (nb_wr M l1 (12 + 8 * l3) 1) Q) ∧ (M.1 613 (7 * l3 + 4) ≤ l2 - (M.1 613 (7 * l3 + 2)) → nb_W 132 1 [(20, 603), (3, l1), (0, l2), (0, l3 + 1), (0, 12 + 8 * l3), (0, M.1 613 (7 * l3 + 6) - 1)] [] (nb_wr (nb_wr (nb_wr M l1 (12 + 8 * l3) 1) l1 (12 + 8 * l3) 4) l1 (12 + 8 * l3 + 7) l2) Q)) ∧ (0 ≤ M.1 613 (7 * l3 + 6) - 1 → (l2 < M.1 613 (7 * l3 + 6) - 1 → 0 ≤ M.1 613 (7 * l3 + 4) ∧ M.1 613 (7 * l3 + 4) ≤ 600 ∧ (l2 - (M.1 613 (7 * l3 + 2)) < M.1 613 (7 * l3 + 4) → nb_W 132 1 [(20, 603), (3, l1), (0, l2), (0, l3 + 1), (0, 12 + 8 * l3), (0, M.1 613 (7 * l3 + 6) - 1)] [] (nb_wr M l1 (12 + 8 * l3) 1) Q) ∧ (M.1 613 (7 * l3 + 4) ≤ l2 - (M.1 613 (7 * l3 + 2)) → nb_W 132 1 [(20, 603), (3, l1), (0, l2), (0, l3 + 1), (0, 12 + 8 * l3), (0, M.1 613 (7 * l3 + 6) - 1)] [] (nb_wr (nb_wr (nb_wr M l1 (12 + 8 * l3) 1) l1 (12 + 8 * l3) 4) l1 (12 + 8 * l3 + 7) l2) Q)) ∧ (M.1 613 (7 * l3 + 6) - 1 ≤ l2 → nb_W 132 1 [(20, 603), (3, l1), (0, l2), (0, l3 + 1), (0, 12 + 8 * l3), (0, M.1 613 (7 * l3 + 6) - 1)] [] (nb_wr (nb_wr (nb_wr (nb_wr M l1 (12 + 8 * l3) 1) l1 (12 + 8 * l3) 3) l1 (12 + 8 * l3 + 5) l2) l1 (12 + 8 * l3 + 7) l2) Q))) ∧ (M.1 613 (7 * l3 + 2) ≠ l2 → nb_W 132 1 [(20, 603), (3, l1), (0, l2), (0, l3 + 1), (0, 12 + 8 * l3), v5] [] M Q)) ∧ (M.1 l1 (12 + 8 * l3) ≠ 0 → (M.1 l1 (12 + 8 * l3) = 1 → 0 ≤ M.1 613 (7 * l3 + 6) ∧ M.1 613 (7 * l3 + 6) ≤ 601 ∧ (M.1 613 (7 * l3 + 6) - 1 < 0 → 0 ≤ M.1 613 (7 * l3 + 2) ∧ M.1 613 (7 * l3 + 2) ≤ 600 ∧ 0 ≤ M.1 613 (7 * l3 + 4) ∧ M.1 613 (7 * l3 + 4) ≤ 600 ∧ (l2 - (M.1 613 (7 * l3 + 2)) < M.1 613 (7 * l3 + 4) → nb_W 132 1 [(20, 603), (3, l1), (0, l2), (0, l3 + 1), (0, 12 + 8 * l3), (0, M.1 613 (7 * l3 + 6) - 1)] [] M Q) ∧ (M.1 613 (7 * l3 + 4) ≤ l2 - (M.1 613 (7 * l3 + 2)) → nb_W 132 1 [(20, 603), (3, l1), (0, l2), (0, l3 + 1), (0, 12 + 8 * l3), (0, M.1 613 (7 * l3 + 6) - 1)] [] (nb_wr (nb_wr M l1 (12 + 8 * l3) 4) l1 (12 + 8 * l3 + 7) l2) Q)) ∧ (0 ≤ M.1 613 (7 * l3 + 6) - 1 → (l2 < M.1 613 (7 * l3 + 6) - 1 → 0 ≤ M.1 613 (7 * l3 + 2) ∧ M.1 613 (7 * l3 + 2) ≤ 600 ∧ 0 ≤ M.1 613 (7 * l3 + 4) ∧ M.1 613 (7 * l3 + 4) ≤ 600 ∧ (l2 - (M.1 613 (7 * l3 + 2)) < M.1 613 (7 * l3 + 4) → nb_W 132 1 [(20, 603), (3, l1), (0, l2), (0, l3 + 1), (0, 12 + 8 * l3), (0, M.1 613 (7 * l3 + 6) - 1)] [] M Q) ∧ (M.1 613 (7 * l3 + 4) ≤ l2 - (M.1 613 (7 * l3 + 2)) → nb_W 132 1 [(20, 603), (3, l1), (0, l2), (0, l3 + 1), (0, 12 + 8 * l3), (0, M.1 613 (7 * l3 + 6) - 1)] [] (nb_wr (nb_wr M l1 (12 + 8 * l3) 4) l1 (12 + 8 * l3 + 7) l2) Q)) ∧ (M.1 613 (7 * l3 + 6) - 1 ≤ l2 → nb_W 132 1 [(20, 603), (3, l1), (0, l2), (0, l3 + 1), (0, 12 + 8 * l3), (0, M.1 613 (7 * l3 + 6) - 1)] [] (nb_wr (nb_wr (nb_wr M l1 (12 + 8 * l3) 3) l1 (12 + 8 * l3 + 5) l2) l1 (12 + 8 * l3 + 7) l2) Q))) ∧ (M.1 l1 (12 + 8 * l3) ≠ 1 → nb_W 132 1 [(20, 603), (3, l1), (0, l2), (0, l3 + 1), (0, 12 + 8 * l3), v5] [] M Q))) ∧ (M.1 606 5 ≤ l3 → nb_W 132 22 [(20, 603), (3, l1), (0, l2), (0, 0), v4, v5] [] M Q)) :
    nb_W 132 1 [(20, 603), (3, l1), (0, l2), (0, l3), v4, v5] [] M Q := by
  replace H := nb_Hw H
  have E1 : nb_rd M 603 15 = 606 := W.m15
  have N2 : nb_ln M 606 = 347 := W.lk (by decide) (by decide +kernel)
  have E3 : nb_rd M 606 5 = M.1 606 5 := nb_rd_1 _ _ _
  refine nb_Wg (q_m_second_1 _ _ _ _ _ _ _ (by omega) (by rw [E1]; first | done | omega) (by omega) (by rw [E1, N2]; first | done | omega)) ?_
  simp only [E1, E3]
  clear E1 N2 E3
  refine nb_Gi (fun c147 => ?_) (fun c147 => ?_)
  · have H := nb_Hw ((nb_Hu H).1 c147)
    refine nb_Gr ?_
    have E4 : nb_mul 8 l3 = 8 * l3 := nb_mul_eq (by omega) (by omega)
    have E5 : nb_add 12 (8 * l3) = 12 + 8 * l3 := (nb_add_eq (x := 12) (y := 8 * l3) (by omega) (by omega)).trans (by omega)
    have E6 : nb_add (12 + 8 * l3) 0 = 12 + 8 * l3 := (nb_add_eq (x := 12 + 8 * l3) (y := 0) (by omega) (by omega)).trans (by omega)
    have N7 : nb_ln M l1 = 108 := hrl
    have E8 : nb_rd M l1 (12 + 8 * l3) = M.1 l1 (12 + 8 * l3) := nb_rd_1 _ _ _
    refine nb_Wg (q_m_second_2 _ _ _ _ _ _ _ (by omega) (by rw [E4, E5, E6]; first | done | omega) (by rw [E4, E5, E6, N7]; first | done | omega)) ?_
    simp only [E4, E5, E6, E8]
    clear E4 E5 E6 N7 E8
    refine nb_Gi (fun c146 => ?_) (fun c146 => ?_)
    · have H := nb_Hw ((nb_Hu H).1 c146)
      refine nb_Gr ?_
      refine nb_Wg (q_m_second_3 _ _ _ _ _ _ _ (by omega)) ?_
      refine nb_Gb ?_
      obtain ⟨p0_, p1_, H⟩ := H
      replace H := nb_Hw H
      have E9 : nb_rd M 603 24 = 613 := W.m24
      have E10 : nb_mul 7 l3 = 7 * l3 := nb_mul_eq (by omega) (by omega)
      have E11 : nb_add (7 * l3) 2 = 7 * l3 + 2 := nb_add_eq (by omega) (by omega)
      have N12 : nb_ln M 613 = 70 := W.lk (by decide) (by decide +kernel)
      have E13 : nb_rd M 613 (7 * l3 + 2) = M.1 613 (7 * l3 + 2) := nb_rd_1 _ _ _
      refine nb_Wg (q_m_man_0 _ _ _ _ (by omega) (by rw [E9]; first | done | omega) (by rw [E10, E11]; first | done | omega) (by rw [E10, E11, E9, N12]; first | done | omega)) ?_
      simp only [E9, E10, E11, E13]
      clear E9 E10 E11 N12 E13
      refine nb_Gs ?_
      show nb_W 132 4 [(20, 603), (3, l1), (0, l2), (0, l3), (0, 12 + 8 * l3), v5] [(0, M.1 613 (7 * l3 + 2))] M _
      refine nb_Wg (q_m_second_4 _ _ _ _ _ _ _ _) ?_
      refine nb_Gi (fun c82 => ?_) (fun c82 => ?_)
      · have H := nb_Hw ((nb_Hu H).1 c82)
        refine nb_Gr ?_
        have E14 : nb_add (12 + 8 * l3) 0 = 12 + 8 * l3 := (nb_add_eq (x := 12 + 8 * l3) (y := 0) (by omega) (by omega)).trans (by omega)
        have N15 : nb_ln M l1 = 108 := hrl
        refine nb_Wg (q_m_second_5 _ _ _ _ _ _ _ (by omega) (by omega) (by rw [E14]; first | done | omega) (by rw [E14, N15]; first | done | omega)) ?_
        simp only [E14]
        clear E14 N15
        have W16 : nb_Lay (nb_wr M l1 (12 + 8 * l3) 1) := W.wr (fun w => (nb_nrow hA))
        refine nb_Gr ?_
        have E17 : nb_add (12 + 8 * l3) 0 = 12 + 8 * l3 := (nb_add_eq (x := 12 + 8 * l3) (y := 0) (by omega) (by omega)).trans (by omega)
        have N18 : nb_ln (nb_wr M l1 (12 + 8 * l3) 1) l1 = 108 := hrl
        have E19 : nb_rd (nb_wr M l1 (12 + 8 * l3) 1) l1 (12 + 8 * l3) = 1 := nb_rd_same _ _ _ _
        refine nb_Wg (q_m_second_6 _ _ _ _ _ _ _ (by omega) (by rw [E17]; first | done | omega) (by rw [E17, N18]; first | done | omega)) ?_
        simp only [E17, E19]
        clear E17 N18 E19
        refine nb_Gt (by decide) ?_
        refine nb_Gr ?_
        refine nb_Wg (q_m_second_8 _ _ _ _ _ _ _ (by omega)) ?_
        refine nb_Gb ?_
        obtain ⟨p0_, p1_, H⟩ := H
        replace H := nb_Hw H
        have E20 : nb_rd (nb_wr M l1 (12 + 8 * l3) 1) 603 24 = 613 := W16.m24
        have E21 : nb_mul 7 l3 = 7 * l3 := nb_mul_eq (by omega) (by omega)
        have E22 : nb_add (7 * l3) 6 = 7 * l3 + 6 := nb_add_eq (by omega) (by omega)
        have N23 : nb_ln (nb_wr M l1 (12 + 8 * l3) 1) 613 = 70 := W16.lk (by decide) (by decide +kernel)
        have E24 : nb_rd (nb_wr M l1 (12 + 8 * l3) 1) 613 (7 * l3 + 6) = M.1 613 (7 * l3 + 6) := nb_rdw (Or.inl (by omega)) (nb_rd_1 _ _ _)
        refine nb_Wg (q_m_man_0 _ _ _ _ (by omega) (by rw [E20]; first | done | omega) (by rw [E21, E22]; first | done | omega) (by rw [E21, E22, E20, N23]; first | done | omega)) ?_
        simp only [E20, E21, E22, E24]
        clear E20 E21 E22 N23 E24
        refine nb_Gs ?_
        show nb_W 132 9 [(20, 603), (3, l1), (0, l2), (0, l3), (0, 12 + 8 * l3), v5] [(0, M.1 613 (7 * l3 + 6))] (nb_wr M l1 (12 + 8 * l3) 1) _
        have E25 : nb_sub (M.1 613 (7 * l3 + 6)) 1 = M.1 613 (7 * l3 + 6) - 1 := nb_sub_eq (by omega) (by omega)
        refine nb_Wg (q_m_second_9 _ _ _ _ _ _ _ _) ?_
        simp only [E25]
        clear E25
        refine nb_Gi (fun c77 => ?_) (fun c77 => ?_)
        · have H := nb_Hw ((nb_Hu H).1 c77)
          refine nb_Gr ?_
          refine nb_Wg (q_m_second_15 _ _ _ _ _ _ _ (by omega)) ?_
          refine nb_Gb ?_
          have E26 : nb_rd (nb_wr M l1 (12 + 8 * l3) 1) 603 24 = 613 := W16.m24
          have E27 : nb_mul 7 l3 = 7 * l3 := nb_mul_eq (by omega) (by omega)
          have E28 : nb_add (7 * l3) 2 = 7 * l3 + 2 := nb_add_eq (by omega) (by omega)
          have N29 : nb_ln (nb_wr M l1 (12 + 8 * l3) 1) 613 = 70 := W16.lk (by decide) (by decide +kernel)
          have E30 : nb_rd (nb_wr M l1 (12 + 8 * l3) 1) 613 (7 * l3 + 2) = M.1 613 (7 * l3 + 2) := nb_rdw (Or.inl (by omega)) (nb_rd_1 _ _ _)
          refine nb_Wg (q_m_man_0 _ _ _ _ (by omega) (by rw [E26]; first | done | omega) (by rw [E27, E28]; first | done | omega) (by rw [E27, E28, E26, N29]; first | done | omega)) ?_
          simp only [E26, E27, E28, E30]
          clear E26 E27 E28 N29 E30
          refine nb_Gs ?_
          show nb_W 132 16 [(20, 603), (3, l1), (0, l2), (0, l3), (0, 12 + 8 * l3), (0, M.1 613 (7 * l3 + 6) - 1)] [(0, M.1 613 (7 * l3 + 2)), (0, l2)] (nb_wr M l1 (12 + 8 * l3) 1) _
          have E31 : nb_sub l2 (M.1 613 (7 * l3 + 2)) = l2 - (M.1 613 (7 * l3 + 2)) := nb_sub_eq (by omega) (by omega)
          refine nb_Wg (q_m_second_16 _ _ _ _ _ _ _ _ _ (by omega)) ?_
          simp only [E31]
          clear E31
          refine nb_Gb ?_
          obtain ⟨p0_, p1_, H⟩ := H
          replace H := nb_Hw H
          have E32 : nb_rd (nb_wr M l1 (12 + 8 * l3) 1) 603 24 = 613 := W16.m24
          have E33 : nb_mul 7 l3 = 7 * l3 := nb_mul_eq (by omega) (by omega)
          have E34 : nb_add (7 * l3) 4 = 7 * l3 + 4 := nb_add_eq (by omega) (by omega)
          have N35 : nb_ln (nb_wr M l1 (12 + 8 * l3) 1) 613 = 70 := W16.lk (by decide) (by decide +kernel)
          have E36 : nb_rd (nb_wr M l1 (12 + 8 * l3) 1) 613 (7 * l3 + 4) = M.1 613 (7 * l3 + 4) := nb_rdw (Or.inl (by omega)) (nb_rd_1 _ _ _)
          refine nb_Wg (q_m_man_0 _ _ _ _ (by omega) (by rw [E32]; first | done | omega) (by rw [E33, E34]; first | done | omega) (by rw [E33, E34, E32, N35]; first | done | omega)) ?_
          simp only [E32, E33, E34, E36]
          clear E32 E33 E34 N35 E36
          refine nb_Gs ?_
          show nb_W 132 17 [(20, 603), (3, l1), (0, l2), (0, l3), (0, 12 + 8 * l3), (0, M.1 613 (7 * l3 + 6) - 1)] [(0, M.1 613 (7 * l3 + 4)), (0, l2 - (M.1 613 (7 * l3 + 2)))] (nb_wr M l1 (12 + 8 * l3) 1) _
          refine nb_Wg (q_m_second_17 _ _ _ _ _ _ _ _ _) ?_
          refine nb_Gi (fun c45 => ?_) (fun c45 => ?_)
          · have H := nb_Hw ((nb_Hu H).1 c45)
            refine nb_Gr ?_
            have E37 : nb_add l3 1 = l3 + 1 := nb_add_eq (by omega) (by omega)
            refine nb_Wg (q_m_second_20 _ _ _ _ _ _ _) ?_
            simp only [E37]
            clear E37
            refine nb_Gr ?_
            exact nb_Hu H
          · have H := nb_Hw ((nb_Hu H).2 (by omega))
            have c45 : M.1 613 (7 * l3 + 4) ≤ l2 - (M.1 613 (7 * l3 + 2)) := by omega
            refine nb_Gr ?_
            have E38 : nb_add (12 + 8 * l3) 0 = 12 + 8 * l3 := (nb_add_eq (x := 12 + 8 * l3) (y := 0) (by omega) (by omega)).trans (by omega)
            have N39 : nb_ln (nb_wr M l1 (12 + 8 * l3) 1) l1 = 108 := hrl
            refine nb_Wg (q_m_second_18 _ _ _ _ _ _ _ (by omega) (by omega) (by rw [E38]; first | done | omega) (by rw [E38, N39]; first | done | omega)) ?_
            simp only [E38]
            clear E38 N39
            have W40 : nb_Lay (nb_wr (nb_wr M l1 (12 + 8 * l3) 1) l1 (12 + 8 * l3) 4) := W16.wr (fun w => (nb_nrow hA))
            refine nb_Gr ?_
            have E41 : nb_add (12 + 8 * l3) 7 = 12 + 8 * l3 + 7 := nb_add_eq (by omega) (by omega)
            have N42 : nb_ln (nb_wr (nb_wr M l1 (12 + 8 * l3) 1) l1 (12 + 8 * l3) 4) l1 = 108 := hrl
            refine nb_Wg (q_m_second_19 _ _ _ _ _ _ _ (by omega) (by omega) (by rw [E41]; first | done | omega) (by rw [E41, N42]; first | done | omega)) ?_
            simp only [E41]
            clear E41 N42
            have W43 : nb_Lay (nb_wr (nb_wr (nb_wr M l1 (12 + 8 * l3) 1) l1 (12 + 8 * l3) 4) l1 (12 + 8 * l3 + 7) l2) := W40.wr (fun w => (nb_nrow hA))
            refine nb_Gr ?_
            have E44 : nb_add l3 1 = l3 + 1 := nb_add_eq (by omega) (by omega)
            refine nb_Wg (q_m_second_20 _ _ _ _ _ _ _) ?_
            simp only [E44]
            clear E44
            refine nb_Gr ?_
            exact nb_Hu H
        · have H := nb_Hw ((nb_Hu H).2 (by omega))
          have c77 : 0 ≤ M.1 613 (7 * l3 + 6) - 1 := by omega
          refine nb_Gr ?_
          refine nb_Wg (q_m_second_10 _ _ _ _ _ _ _) ?_
          refine nb_Gi (fun c76 => ?_) (fun c76 => ?_)
          · have H := nb_Hw ((nb_Hu H).1 c76)
            refine nb_Gr ?_
            refine nb_Wg (q_m_second_15 _ _ _ _ _ _ _ (by omega)) ?_
            refine nb_Gb ?_
            have E46 : nb_rd (nb_wr M l1 (12 + 8 * l3) 1) 603 24 = 613 := W16.m24
            have E47 : nb_mul 7 l3 = 7 * l3 := nb_mul_eq (by omega) (by omega)
            have E48 : nb_add (7 * l3) 2 = 7 * l3 + 2 := nb_add_eq (by omega) (by omega)
            have N49 : nb_ln (nb_wr M l1 (12 + 8 * l3) 1) 613 = 70 := W16.lk (by decide) (by decide +kernel)
            have E50 : nb_rd (nb_wr M l1 (12 + 8 * l3) 1) 613 (7 * l3 + 2) = M.1 613 (7 * l3 + 2) := nb_rdw (Or.inl (by omega)) (nb_rd_1 _ _ _)
            refine nb_Wg (q_m_man_0 _ _ _ _ (by omega) (by rw [E46]; first | done | omega) (by rw [E47, E48]; first | done | omega) (by rw [E47, E48, E46, N49]; first | done | omega)) ?_
            simp only [E46, E47, E48, E50]
            clear E46 E47 E48 N49 E50
            refine nb_Gs ?_
            show nb_W 132 16 [(20, 603), (3, l1), (0, l2), (0, l3), (0, 12 + 8 * l3), (0, M.1 613 (7 * l3 + 6) - 1)] [(0, M.1 613 (7 * l3 + 2)), (0, l2)] (nb_wr M l1 (12 + 8 * l3) 1) _
            have E51 : nb_sub l2 (M.1 613 (7 * l3 + 2)) = l2 - (M.1 613 (7 * l3 + 2)) := nb_sub_eq (by omega) (by omega)
            refine nb_Wg (q_m_second_16 _ _ _ _ _ _ _ _ _ (by omega)) ?_
            simp only [E51]
            clear E51
            refine nb_Gb ?_
            obtain ⟨p0_, p1_, H⟩ := H
            replace H := nb_Hw H
            have E52 : nb_rd (nb_wr M l1 (12 + 8 * l3) 1) 603 24 = 613 := W16.m24
            have E53 : nb_mul 7 l3 = 7 * l3 := nb_mul_eq (by omega) (by omega)
            have E54 : nb_add (7 * l3) 4 = 7 * l3 + 4 := nb_add_eq (by omega) (by omega)
            have N55 : nb_ln (nb_wr M l1 (12 + 8 * l3) 1) 613 = 70 := W16.lk (by decide) (by decide +kernel)
            have E56 : nb_rd (nb_wr M l1 (12 + 8 * l3) 1) 613 (7 * l3 + 4) = M.1 613 (7 * l3 + 4) := nb_rdw (Or.inl (by omega)) (nb_rd_1 _ _ _)
            refine nb_Wg (q_m_man_0 _ _ _ _ (by omega) (by rw [E52]; first | done | omega) (by rw [E53, E54]; first | done | omega) (by rw [E53, E54, E52, N55]; first | done | omega)) ?_
            simp only [E52, E53, E54, E56]
            clear E52 E53 E54 N55 E56
            refine nb_Gs ?_
            show nb_W 132 17 [(20, 603), (3, l1), (0, l2), (0, l3), (0, 12 + 8 * l3), (0, M.1 613 (7 * l3 + 6) - 1)] [(0, M.1 613 (7 * l3 + 4)), (0, l2 - (M.1 613 (7 * l3 + 2)))] (nb_wr M l1 (12 + 8 * l3) 1) _
            refine nb_Wg (q_m_second_17 _ _ _ _ _ _ _ _ _) ?_
            refine nb_Gi (fun c65 => ?_) (fun c65 => ?_)
            · have H := nb_Hw ((nb_Hu H).1 c65)
              refine nb_Gr ?_
              have E57 : nb_add l3 1 = l3 + 1 := nb_add_eq (by omega) (by omega)
              refine nb_Wg (q_m_second_20 _ _ _ _ _ _ _) ?_
              simp only [E57]
              clear E57
              refine nb_Gr ?_
              exact nb_Hu H
            · have H := nb_Hw ((nb_Hu H).2 (by omega))
              have c65 : M.1 613 (7 * l3 + 4) ≤ l2 - (M.1 613 (7 * l3 + 2)) := by omega
              refine nb_Gr ?_
              have E58 : nb_add (12 + 8 * l3) 0 = 12 + 8 * l3 := (nb_add_eq (x := 12 + 8 * l3) (y := 0) (by omega) (by omega)).trans (by omega)
              have N59 : nb_ln (nb_wr M l1 (12 + 8 * l3) 1) l1 = 108 := hrl
              refine nb_Wg (q_m_second_18 _ _ _ _ _ _ _ (by omega) (by omega) (by rw [E58]; first | done | omega) (by rw [E58, N59]; first | done | omega)) ?_
              simp only [E58]
              clear E58 N59
              have W60 : nb_Lay (nb_wr (nb_wr M l1 (12 + 8 * l3) 1) l1 (12 + 8 * l3) 4) := W16.wr (fun w => (nb_nrow hA))
              refine nb_Gr ?_
              have E61 : nb_add (12 + 8 * l3) 7 = 12 + 8 * l3 + 7 := nb_add_eq (by omega) (by omega)
              have N62 : nb_ln (nb_wr (nb_wr M l1 (12 + 8 * l3) 1) l1 (12 + 8 * l3) 4) l1 = 108 := hrl
              refine nb_Wg (q_m_second_19 _ _ _ _ _ _ _ (by omega) (by omega) (by rw [E61]; first | done | omega) (by rw [E61, N62]; first | done | omega)) ?_
              simp only [E61]
              clear E61 N62
              have W63 : nb_Lay (nb_wr (nb_wr (nb_wr M l1 (12 + 8 * l3) 1) l1 (12 + 8 * l3) 4) l1 (12 + 8 * l3 + 7) l2) := W60.wr (fun w => (nb_nrow hA))
              refine nb_Gr ?_
              have E64 : nb_add l3 1 = l3 + 1 := nb_add_eq (by omega) (by omega)
              refine nb_Wg (q_m_second_20 _ _ _ _ _ _ _) ?_
              simp only [E64]
              clear E64
              refine nb_Gr ?_
              exact nb_Hu H
          · have H := nb_Hw ((nb_Hu H).2 (by omega))
            have c76 : M.1 613 (7 * l3 + 6) - 1 ≤ l2 := by omega
            refine nb_Gr ?_
            have E66 : nb_add (12 + 8 * l3) 0 = 12 + 8 * l3 := (nb_add_eq (x := 12 + 8 * l3) (y := 0) (by omega) (by omega)).trans (by omega)
            have N67 : nb_ln (nb_wr M l1 (12 + 8 * l3) 1) l1 = 108 := hrl
            refine nb_Wg (q_m_second_11 _ _ _ _ _ _ _ (by omega) (by omega) (by rw [E66]; first | done | omega) (by rw [E66, N67]; first | done | omega)) ?_
            simp only [E66]
            clear E66 N67
            have W68 : nb_Lay (nb_wr (nb_wr M l1 (12 + 8 * l3) 1) l1 (12 + 8 * l3) 3) := W16.wr (fun w => (nb_nrow hA))
            refine nb_Gr ?_
            have E69 : nb_add (12 + 8 * l3) 5 = 12 + 8 * l3 + 5 := nb_add_eq (by omega) (by omega)
            have N70 : nb_ln (nb_wr (nb_wr M l1 (12 + 8 * l3) 1) l1 (12 + 8 * l3) 3) l1 = 108 := hrl
            refine nb_Wg (q_m_second_12 _ _ _ _ _ _ _ (by omega) (by omega) (by rw [E69]; first | done | omega) (by rw [E69, N70]; first | done | omega)) ?_
            simp only [E69]
            clear E69 N70
            have W71 : nb_Lay (nb_wr (nb_wr (nb_wr M l1 (12 + 8 * l3) 1) l1 (12 + 8 * l3) 3) l1 (12 + 8 * l3 + 5) l2) := W68.wr (fun w => (nb_nrow hA))
            refine nb_Gr ?_
            have E72 : nb_add (12 + 8 * l3) 7 = 12 + 8 * l3 + 7 := nb_add_eq (by omega) (by omega)
            have N73 : nb_ln (nb_wr (nb_wr (nb_wr M l1 (12 + 8 * l3) 1) l1 (12 + 8 * l3) 3) l1 (12 + 8 * l3 + 5) l2) l1 = 108 := hrl
            refine nb_Wg (q_m_second_13 _ _ _ _ _ _ _ (by omega) (by omega) (by rw [E72]; first | done | omega) (by rw [E72, N73]; first | done | omega)) ?_
            simp only [E72]
            clear E72 N73
            have W74 : nb_Lay (nb_wr (nb_wr (nb_wr (nb_wr M l1 (12 + 8 * l3) 1) l1 (12 + 8 * l3) 3) l1 (12 + 8 * l3 + 5) l2) l1 (12 + 8 * l3 + 7) l2) := W71.wr (fun w => (nb_nrow hA))
            refine nb_Gr ?_
            refine nb_Wg (q_m_second_14 _ _ _ _ _ _ _) ?_
            refine nb_Gr ?_
            have E75 : nb_add l3 1 = l3 + 1 := nb_add_eq (by omega) (by omega)
            refine nb_Wg (q_m_second_20 _ _ _ _ _ _ _) ?_
            simp only [E75]
            clear E75
            refine nb_Gr ?_
            exact nb_Hu H
      · have H := nb_Hw ((nb_Hu H).2 (by omega))
        have c82 : M.1 613 (7 * l3 + 2) ≠ l2 := by omega
        refine nb_Gr ?_
        have E78 : nb_add (12 + 8 * l3) 0 = 12 + 8 * l3 := (nb_add_eq (x := 12 + 8 * l3) (y := 0) (by omega) (by omega)).trans (by omega)
        have N79 : nb_ln M l1 = 108 := hrl
        have E80 : nb_rd M l1 (12 + 8 * l3) = M.1 l1 (12 + 8 * l3) := nb_rd_1 _ _ _
        refine nb_Wg (q_m_second_6 _ _ _ _ _ _ _ (by omega) (by rw [E78]; first | done | omega) (by rw [E78, N79]; first | done | omega)) ?_
        simp only [E78, E80]
        clear E78 N79 E80
        refine nb_Gf (by omega) ?_
        refine nb_Gr ?_
        refine nb_Wg (q_m_second_7 _ _ _ _ _ _ _) ?_
        refine nb_Gr ?_
        have E81 : nb_add l3 1 = l3 + 1 := nb_add_eq (by omega) (by omega)
        refine nb_Wg (q_m_second_20 _ _ _ _ _ _ _) ?_
        simp only [E81]
        clear E81
        refine nb_Gr ?_
        exact nb_Hu H
    · have H := nb_Hw ((nb_Hu H).2 (by omega))
      have c146 : M.1 l1 (12 + 8 * l3) ≠ 0 := by omega
      refine nb_Gr ?_
      have E83 : nb_add (12 + 8 * l3) 0 = 12 + 8 * l3 := (nb_add_eq (x := 12 + 8 * l3) (y := 0) (by omega) (by omega)).trans (by omega)
      have N84 : nb_ln M l1 = 108 := hrl
      have E85 : nb_rd M l1 (12 + 8 * l3) = M.1 l1 (12 + 8 * l3) := nb_rd_1 _ _ _
      refine nb_Wg (q_m_second_6 _ _ _ _ _ _ _ (by omega) (by rw [E83]; first | done | omega) (by rw [E83, N84]; first | done | omega)) ?_
      simp only [E83, E85]
      clear E83 N84 E85
      refine nb_Gi (fun c145 => ?_) (fun c145 => ?_)
      · have H := nb_Hw ((nb_Hu H).1 c145)
        refine nb_Gr ?_
        refine nb_Wg (q_m_second_8 _ _ _ _ _ _ _ (by omega)) ?_
        refine nb_Gb ?_
        obtain ⟨p0_, p1_, H⟩ := H
        replace H := nb_Hw H
        have E86 : nb_rd M 603 24 = 613 := W.m24
        have E87 : nb_mul 7 l3 = 7 * l3 := nb_mul_eq (by omega) (by omega)
        have E88 : nb_add (7 * l3) 6 = 7 * l3 + 6 := nb_add_eq (by omega) (by omega)
        have N89 : nb_ln M 613 = 70 := W.lk (by decide) (by decide +kernel)
        have E90 : nb_rd M 613 (7 * l3 + 6) = M.1 613 (7 * l3 + 6) := nb_rd_1 _ _ _
        refine nb_Wg (q_m_man_0 _ _ _ _ (by omega) (by rw [E86]; first | done | omega) (by rw [E87, E88]; first | done | omega) (by rw [E87, E88, E86, N89]; first | done | omega)) ?_
        simp only [E86, E87, E88, E90]
        clear E86 E87 E88 N89 E90
        refine nb_Gs ?_
        show nb_W 132 9 [(20, 603), (3, l1), (0, l2), (0, l3), (0, 12 + 8 * l3), v5] [(0, M.1 613 (7 * l3 + 6))] M _
        have E91 : nb_sub (M.1 613 (7 * l3 + 6)) 1 = M.1 613 (7 * l3 + 6) - 1 := nb_sub_eq (by omega) (by omega)
        refine nb_Wg (q_m_second_9 _ _ _ _ _ _ _ _) ?_
        simp only [E91]
        clear E91
        refine nb_Gi (fun c143 => ?_) (fun c143 => ?_)
        · have H := nb_Hw ((nb_Hu H).1 c143)
          refine nb_Gr ?_
          refine nb_Wg (q_m_second_15 _ _ _ _ _ _ _ (by omega)) ?_
          refine nb_Gb ?_
          obtain ⟨p0_, p1_, H⟩ := H
          replace H := nb_Hw H
          have E92 : nb_rd M 603 24 = 613 := W.m24
          have E93 : nb_mul 7 l3 = 7 * l3 := nb_mul_eq (by omega) (by omega)
          have E94 : nb_add (7 * l3) 2 = 7 * l3 + 2 := nb_add_eq (by omega) (by omega)
          have N95 : nb_ln M 613 = 70 := W.lk (by decide) (by decide +kernel)
          have E96 : nb_rd M 613 (7 * l3 + 2) = M.1 613 (7 * l3 + 2) := nb_rd_1 _ _ _
          refine nb_Wg (q_m_man_0 _ _ _ _ (by omega) (by rw [E92]; first | done | omega) (by rw [E93, E94]; first | done | omega) (by rw [E93, E94, E92, N95]; first | done | omega)) ?_
          simp only [E92, E93, E94, E96]
          clear E92 E93 E94 N95 E96
          refine nb_Gs ?_
          show nb_W 132 16 [(20, 603), (3, l1), (0, l2), (0, l3), (0, 12 + 8 * l3), (0, M.1 613 (7 * l3 + 6) - 1)] [(0, M.1 613 (7 * l3 + 2)), (0, l2)] M _
          have E97 : nb_sub l2 (M.1 613 (7 * l3 + 2)) = l2 - (M.1 613 (7 * l3 + 2)) := nb_sub_eq (by omega) (by omega)
          refine nb_Wg (q_m_second_16 _ _ _ _ _ _ _ _ _ (by omega)) ?_
          simp only [E97]
          clear E97
          refine nb_Gb ?_
          obtain ⟨p0_, p1_, H⟩ := H
          replace H := nb_Hw H
          have E98 : nb_rd M 603 24 = 613 := W.m24
          have E99 : nb_mul 7 l3 = 7 * l3 := nb_mul_eq (by omega) (by omega)
          have E100 : nb_add (7 * l3) 4 = 7 * l3 + 4 := nb_add_eq (by omega) (by omega)
          have N101 : nb_ln M 613 = 70 := W.lk (by decide) (by decide +kernel)
          have E102 : nb_rd M 613 (7 * l3 + 4) = M.1 613 (7 * l3 + 4) := nb_rd_1 _ _ _
          refine nb_Wg (q_m_man_0 _ _ _ _ (by omega) (by rw [E98]; first | done | omega) (by rw [E99, E100]; first | done | omega) (by rw [E99, E100, E98, N101]; first | done | omega)) ?_
          simp only [E98, E99, E100, E102]
          clear E98 E99 E100 N101 E102
          refine nb_Gs ?_
          show nb_W 132 17 [(20, 603), (3, l1), (0, l2), (0, l3), (0, 12 + 8 * l3), (0, M.1 613 (7 * l3 + 6) - 1)] [(0, M.1 613 (7 * l3 + 4)), (0, l2 - (M.1 613 (7 * l3 + 2)))] M _
          refine nb_Wg (q_m_second_17 _ _ _ _ _ _ _ _ _) ?_
          refine nb_Gi (fun c111 => ?_) (fun c111 => ?_)
          · have H := nb_Hw ((nb_Hu H).1 c111)
            refine nb_Gr ?_
            have E103 : nb_add l3 1 = l3 + 1 := nb_add_eq (by omega) (by omega)
            refine nb_Wg (q_m_second_20 _ _ _ _ _ _ _) ?_
            simp only [E103]
            clear E103
            refine nb_Gr ?_
            exact nb_Hu H
          · have H := nb_Hw ((nb_Hu H).2 (by omega))
            have c111 : M.1 613 (7 * l3 + 4) ≤ l2 - (M.1 613 (7 * l3 + 2)) := by omega
            refine nb_Gr ?_
            have E104 : nb_add (12 + 8 * l3) 0 = 12 + 8 * l3 := (nb_add_eq (x := 12 + 8 * l3) (y := 0) (by omega) (by omega)).trans (by omega)
            have N105 : nb_ln M l1 = 108 := hrl
            refine nb_Wg (q_m_second_18 _ _ _ _ _ _ _ (by omega) (by omega) (by rw [E104]; first | done | omega) (by rw [E104, N105]; first | done | omega)) ?_
            simp only [E104]
            clear E104 N105
            have W106 : nb_Lay (nb_wr M l1 (12 + 8 * l3) 4) := W.wr (fun w => (nb_nrow hA))
            refine nb_Gr ?_
            have E107 : nb_add (12 + 8 * l3) 7 = 12 + 8 * l3 + 7 := nb_add_eq (by omega) (by omega)
            have N108 : nb_ln (nb_wr M l1 (12 + 8 * l3) 4) l1 = 108 := hrl
            refine nb_Wg (q_m_second_19 _ _ _ _ _ _ _ (by omega) (by omega) (by rw [E107]; first | done | omega) (by rw [E107, N108]; first | done | omega)) ?_
            simp only [E107]
            clear E107 N108
            have W109 : nb_Lay (nb_wr (nb_wr M l1 (12 + 8 * l3) 4) l1 (12 + 8 * l3 + 7) l2) := W106.wr (fun w => (nb_nrow hA))
            refine nb_Gr ?_
            have E110 : nb_add l3 1 = l3 + 1 := nb_add_eq (by omega) (by omega)
            refine nb_Wg (q_m_second_20 _ _ _ _ _ _ _) ?_
            simp only [E110]
            clear E110
            refine nb_Gr ?_
            exact nb_Hu H
        · have H := nb_Hw ((nb_Hu H).2 (by omega))
          have c143 : 0 ≤ M.1 613 (7 * l3 + 6) - 1 := by omega
          refine nb_Gr ?_
          refine nb_Wg (q_m_second_10 _ _ _ _ _ _ _) ?_
          refine nb_Gi (fun c142 => ?_) (fun c142 => ?_)
          · have H := nb_Hw ((nb_Hu H).1 c142)
            refine nb_Gr ?_
            refine nb_Wg (q_m_second_15 _ _ _ _ _ _ _ (by omega)) ?_
            refine nb_Gb ?_
            obtain ⟨p0_, p1_, H⟩ := H
            replace H := nb_Hw H
            have E112 : nb_rd M 603 24 = 613 := W.m24
            have E113 : nb_mul 7 l3 = 7 * l3 := nb_mul_eq (by omega) (by omega)
            have E114 : nb_add (7 * l3) 2 = 7 * l3 + 2 := nb_add_eq (by omega) (by omega)
            have N115 : nb_ln M 613 = 70 := W.lk (by decide) (by decide +kernel)
            have E116 : nb_rd M 613 (7 * l3 + 2) = M.1 613 (7 * l3 + 2) := nb_rd_1 _ _ _
            refine nb_Wg (q_m_man_0 _ _ _ _ (by omega) (by rw [E112]; first | done | omega) (by rw [E113, E114]; first | done | omega) (by rw [E113, E114, E112, N115]; first | done | omega)) ?_
            simp only [E112, E113, E114, E116]
            clear E112 E113 E114 N115 E116
            refine nb_Gs ?_
            show nb_W 132 16 [(20, 603), (3, l1), (0, l2), (0, l3), (0, 12 + 8 * l3), (0, M.1 613 (7 * l3 + 6) - 1)] [(0, M.1 613 (7 * l3 + 2)), (0, l2)] M _
            have E117 : nb_sub l2 (M.1 613 (7 * l3 + 2)) = l2 - (M.1 613 (7 * l3 + 2)) := nb_sub_eq (by omega) (by omega)
            refine nb_Wg (q_m_second_16 _ _ _ _ _ _ _ _ _ (by omega)) ?_
            simp only [E117]
            clear E117
            refine nb_Gb ?_
            obtain ⟨p0_, p1_, H⟩ := H
            replace H := nb_Hw H
            have E118 : nb_rd M 603 24 = 613 := W.m24
            have E119 : nb_mul 7 l3 = 7 * l3 := nb_mul_eq (by omega) (by omega)
            have E120 : nb_add (7 * l3) 4 = 7 * l3 + 4 := nb_add_eq (by omega) (by omega)
            have N121 : nb_ln M 613 = 70 := W.lk (by decide) (by decide +kernel)
            have E122 : nb_rd M 613 (7 * l3 + 4) = M.1 613 (7 * l3 + 4) := nb_rd_1 _ _ _
            refine nb_Wg (q_m_man_0 _ _ _ _ (by omega) (by rw [E118]; first | done | omega) (by rw [E119, E120]; first | done | omega) (by rw [E119, E120, E118, N121]; first | done | omega)) ?_
            simp only [E118, E119, E120, E122]
            clear E118 E119 E120 N121 E122
            refine nb_Gs ?_
            show nb_W 132 17 [(20, 603), (3, l1), (0, l2), (0, l3), (0, 12 + 8 * l3), (0, M.1 613 (7 * l3 + 6) - 1)] [(0, M.1 613 (7 * l3 + 4)), (0, l2 - (M.1 613 (7 * l3 + 2)))] M _
            refine nb_Wg (q_m_second_17 _ _ _ _ _ _ _ _ _) ?_
            refine nb_Gi (fun c131 => ?_) (fun c131 => ?_)
            · have H := nb_Hw ((nb_Hu H).1 c131)
              refine nb_Gr ?_
              have E123 : nb_add l3 1 = l3 + 1 := nb_add_eq (by omega) (by omega)
              refine nb_Wg (q_m_second_20 _ _ _ _ _ _ _) ?_
              simp only [E123]
              clear E123
              refine nb_Gr ?_
              exact nb_Hu H
            · have H := nb_Hw ((nb_Hu H).2 (by omega))
              have c131 : M.1 613 (7 * l3 + 4) ≤ l2 - (M.1 613 (7 * l3 + 2)) := by omega
              refine nb_Gr ?_
              have E124 : nb_add (12 + 8 * l3) 0 = 12 + 8 * l3 := (nb_add_eq (x := 12 + 8 * l3) (y := 0) (by omega) (by omega)).trans (by omega)
              have N125 : nb_ln M l1 = 108 := hrl
              refine nb_Wg (q_m_second_18 _ _ _ _ _ _ _ (by omega) (by omega) (by rw [E124]; first | done | omega) (by rw [E124, N125]; first | done | omega)) ?_
              simp only [E124]
              clear E124 N125
              have W126 : nb_Lay (nb_wr M l1 (12 + 8 * l3) 4) := W.wr (fun w => (nb_nrow hA))
              refine nb_Gr ?_
              have E127 : nb_add (12 + 8 * l3) 7 = 12 + 8 * l3 + 7 := nb_add_eq (by omega) (by omega)
              have N128 : nb_ln (nb_wr M l1 (12 + 8 * l3) 4) l1 = 108 := hrl
              refine nb_Wg (q_m_second_19 _ _ _ _ _ _ _ (by omega) (by omega) (by rw [E127]; first | done | omega) (by rw [E127, N128]; first | done | omega)) ?_
              simp only [E127]
              clear E127 N128
              have W129 : nb_Lay (nb_wr (nb_wr M l1 (12 + 8 * l3) 4) l1 (12 + 8 * l3 + 7) l2) := W126.wr (fun w => (nb_nrow hA))
              refine nb_Gr ?_
              have E130 : nb_add l3 1 = l3 + 1 := nb_add_eq (by omega) (by omega)
              refine nb_Wg (q_m_second_20 _ _ _ _ _ _ _) ?_
              simp only [E130]
              clear E130
              refine nb_Gr ?_
              exact nb_Hu H
          · have H := nb_Hw ((nb_Hu H).2 (by omega))
            have c142 : M.1 613 (7 * l3 + 6) - 1 ≤ l2 := by omega
            refine nb_Gr ?_
            have E132 : nb_add (12 + 8 * l3) 0 = 12 + 8 * l3 := (nb_add_eq (x := 12 + 8 * l3) (y := 0) (by omega) (by omega)).trans (by omega)
            have N133 : nb_ln M l1 = 108 := hrl
            refine nb_Wg (q_m_second_11 _ _ _ _ _ _ _ (by omega) (by omega) (by rw [E132]; first | done | omega) (by rw [E132, N133]; first | done | omega)) ?_
            simp only [E132]
            clear E132 N133
            have W134 : nb_Lay (nb_wr M l1 (12 + 8 * l3) 3) := W.wr (fun w => (nb_nrow hA))
            refine nb_Gr ?_
            have E135 : nb_add (12 + 8 * l3) 5 = 12 + 8 * l3 + 5 := nb_add_eq (by omega) (by omega)
            have N136 : nb_ln (nb_wr M l1 (12 + 8 * l3) 3) l1 = 108 := hrl
            refine nb_Wg (q_m_second_12 _ _ _ _ _ _ _ (by omega) (by omega) (by rw [E135]; first | done | omega) (by rw [E135, N136]; first | done | omega)) ?_
            simp only [E135]
            clear E135 N136
            have W137 : nb_Lay (nb_wr (nb_wr M l1 (12 + 8 * l3) 3) l1 (12 + 8 * l3 + 5) l2) := W134.wr (fun w => (nb_nrow hA))
            refine nb_Gr ?_
            have E138 : nb_add (12 + 8 * l3) 7 = 12 + 8 * l3 + 7 := nb_add_eq (by omega) (by omega)
            have N139 : nb_ln (nb_wr (nb_wr M l1 (12 + 8 * l3) 3) l1 (12 + 8 * l3 + 5) l2) l1 = 108 := hrl
            refine nb_Wg (q_m_second_13 _ _ _ _ _ _ _ (by omega) (by omega) (by rw [E138]; first | done | omega) (by rw [E138, N139]; first | done | omega)) ?_
            simp only [E138]
            clear E138 N139
            have W140 : nb_Lay (nb_wr (nb_wr (nb_wr M l1 (12 + 8 * l3) 3) l1 (12 + 8 * l3 + 5) l2) l1 (12 + 8 * l3 + 7) l2) := W137.wr (fun w => (nb_nrow hA))
            refine nb_Gr ?_
            refine nb_Wg (q_m_second_14 _ _ _ _ _ _ _) ?_
            refine nb_Gr ?_
            have E141 : nb_add l3 1 = l3 + 1 := nb_add_eq (by omega) (by omega)
            refine nb_Wg (q_m_second_20 _ _ _ _ _ _ _) ?_
            simp only [E141]
            clear E141
            refine nb_Gr ?_
            exact nb_Hu H
      · have H := nb_Hw ((nb_Hu H).2 (by omega))
        have c145 : M.1 l1 (12 + 8 * l3) ≠ 1 := by omega
        refine nb_Gr ?_
        refine nb_Wg (q_m_second_7 _ _ _ _ _ _ _) ?_
        refine nb_Gr ?_
        have E144 : nb_add l3 1 = l3 + 1 := nb_add_eq (by omega) (by omega)
        refine nb_Wg (q_m_second_20 _ _ _ _ _ _ _) ?_
        simp only [E144]
        clear E144
        refine nb_Gr ?_
        exact nb_Hu H
  · have H := nb_Hw ((nb_Hu H).2 (by omega))
    have c147 : M.1 606 5 ≤ l3 := by omega
    refine nb_Gr ?_
    refine nb_Wg (q_m_second_21 _ _ _ _ _ _ _) ?_
    refine nb_Gr ?_
    exact nb_Hu H

theorem w_m_second_22 {l1 l2 l3 : Int} {v4 v5 : nb_V} {M : nb_M} {Q : List nb_V → nb_M → Prop} (W : nb_Lay M) (hr0 : l1 ≠ 0) (hr1 : l1 ≠ 1) (hrl : nb_ln M l1 = 108) (hA : l1 = 608 ∨ l1 = 609) (b0_ : 0 ≤ l2 ∧ l2 ≤ 10000) (b1_ : 0 ≤ l3 ∧ l3 ≤ 4) (b2_ : 0 ≤ M.1 603 25 ∧ M.1 603 25 ≤ 4) (b3_ : 0 ≤ M.1 l1 0 ∧ M.1 l1 0 ≤ 10000) (H : (l3 < M.1 603 25 → nb_W 132 24 [(20, 603), (3, l1), (0, l2), (0, l3), (0, 1), v5] [] M Q) ∧ (M.1 603 25 ≤ l3 → Q [] (nb_wr M l1 0 (M.1 l1 0 + 1)))) :
    nb_W 132 22 [(20, 603), (3, l1), (0, l2), (0, l3), v4, v5] [] M Q := by
  replace H := nb_Hw H
  have E1 : nb_rd M 603 25 = M.1 603 25 := nb_rd_1 _ _ _
  refine nb_Wg (q_m_second_22 _ _ _ _ _ _ _ (by omega)) ?_
  simp only [E1]
  clear E1
  refine nb_Gi (fun c7 => ?_) (fun c7 => ?_)
  · have H := nb_Hw ((nb_Hu H).1 c7)
    refine nb_Gr ?_
    refine nb_Wg (q_m_second_23 _ _ _ _ _ _ _) ?_
    refine nb_Gr ?_
    exact nb_Hu H
  · have H := nb_Hw ((nb_Hu H).2 (by omega))
    have c7 : M.1 603 25 ≤ l3 := by omega
    refine nb_Gr ?_
    have N2 : nb_ln M l1 = 108 := hrl
    have E3 : nb_rd M l1 0 = M.1 l1 0 := nb_rd_1 _ _ _
    have E4 : nb_add (M.1 l1 0) 1 = M.1 l1 0 + 1 := nb_add_eq (by omega) (by omega)
    have N5 : nb_ln M l1 = 108 := hrl
    refine nb_Wg (q_m_second_29 _ _ _ _ _ _ _ (by omega) (by omega) (by rw [N2]; first | done | omega) (by omega)) ?_
    simp only [E3, E4]
    clear N2 E3 E4 N5
    have W6 : nb_Lay (nb_wr M l1 0 (M.1 l1 0 + 1)) := W.wr (fun w => (nb_nrow hA))
    refine nb_Gr ?_
    refine nb_Wg (q_m_second_30 _ _ _ _ _ _ _) ?_
    refine nb_Gs ?_
    exact nb_Hu H

theorem w_m_second_24 {l1 l2 l3 l4 : Int} {v5 : nb_V} {M : nb_M} {Q : List nb_V → nb_M → Prop} (W : nb_Lay M) (hr0 : l1 ≠ 0) (hr1 : l1 ≠ 1) (hrl : nb_ln M l1 = 108) (hA : l1 = 608 ∨ l1 = 609) (b0_ : 0 ≤ l2 ∧ l2 ≤ 10000) (b1_ : 0 ≤ l3 ∧ l3 ≤ 3) (b2_ : 1 ≤ l4 ∧ l4 ≤ 3) (b3_ : 0 ≤ M.1 612 (6 * l3 + 5) ∧ M.1 612 (6 * l3 + 5) ≤ 2) (H : (M.1 612 (6 * l3 + 5) < l4 → nb_W 132 22 [(20, 603), (3, l1), (0, l2), (0, l3 + 1), (0, l4), v5] [] M Q) ∧ (l4 ≤ M.1 612 (6 * l3 + 5) → (l2 < M.1 l1 (92 + 4 * l3 + l4) → nb_W 132 24 [(20, 603), (3, l1), (0, l2), (0, l3), (0, l4 + 1), v5] [] M Q) ∧ (M.1 l1 (92 + 4 * l3 + l4) ≤ l2 → nb_W 133 0 [(20, 603), (3, l1), (0, l3), (0, l4), (98, 0), (98, 0), (98, 0), (98, 0), (98, 0)] [] M (fun r M14 => r = [] ∧ nb_Lay M14 ∧ nb_W 132 24 [(20, 603), (3, l1), (0, l2), (0, l3), (0, l4 + 1), v5] [] M14 Q)))) :
    nb_W 132 24 [(20, 603), (3, l1), (0, l2), (0, l3), (0, l4), v5] [] M Q := by
  replace H := nb_Hw H
  have E1 : nb_rd M 603 23 = 612 := W.m23
  have E2 : nb_mul 6 l3 = 6 * l3 := nb_mul_eq (by omega) (by omega)
  have E3 : nb_add (6 * l3) 5 = 6 * l3 + 5 := nb_add_eq (by omega) (by omega)
  have N4 : nb_ln M 612 = 24 := W.lk (by decide) (by decide +kernel)
  have E5 : nb_rd M 612 (6 * l3 + 5) = M.1 612 (6 * l3 + 5) := nb_rd_1 _ _ _
  refine nb_Wg (q_m_second_24 _ _ _ _ _ _ _ (by omega) (by rw [E1]; first | done | omega) (by rw [E2, E3]; first | done | omega) (by rw [E2, E3, E1, N4]; first | done | omega)) ?_
  simp only [E1, E2, E3, E5]
  clear E1 E2 E3 N4 E5
  refine nb_Gi (fun c18 => ?_) (fun c18 => ?_)
  · have H := nb_Hw ((nb_Hu H).1 c18)
    refine nb_Gr ?_
    have E6 : nb_add l3 1 = l3 + 1 := nb_add_eq (by omega) (by omega)
    refine nb_Wg (q_m_second_28 _ _ _ _ _ _ _) ?_
    simp only [E6]
    clear E6
    refine nb_Gr ?_
    exact nb_Hu H
  · have H := nb_Hw ((nb_Hu H).2 (by omega))
    have c18 : l4 ≤ M.1 612 (6 * l3 + 5) := by omega
    refine nb_Gr ?_
    have E7 : nb_mul 4 l3 = 4 * l3 := nb_mul_eq (by omega) (by omega)
    have E8 : nb_add 92 (4 * l3) = 92 + 4 * l3 := (nb_add_eq (x := 92) (y := 4 * l3) (by omega) (by omega)).trans (by omega)
    have E9 : nb_add (92 + 4 * l3) l4 = 92 + 4 * l3 + l4 := nb_add_eq (by omega) (by omega)
    have N10 : nb_ln M l1 = 108 := hrl
    have E11 : nb_rd M l1 (92 + 4 * l3 + l4) = M.1 l1 (92 + 4 * l3 + l4) := nb_rd_1 _ _ _
    refine nb_Wg (q_m_second_25 _ _ _ _ _ _ _ (by omega) (by rw [E7, E8, E9]; first | done | omega) (by rw [E7, E8, E9, N10]; first | done | omega)) ?_
    simp only [E7, E8, E9, E11]
    clear E7 E8 E9 N10 E11
    refine nb_Gi (fun c17 => ?_) (fun c17 => ?_)
    · have H := nb_Hw ((nb_Hu H).1 c17)
      refine nb_Gr ?_
      have E12 : nb_add l4 1 = l4 + 1 := nb_add_eq (by omega) (by omega)
      refine nb_Wg (q_m_second_27 _ _ _ _ _ _ _) ?_
      simp only [E12]
      clear E12
      refine nb_Gr ?_
      exact nb_Hu H
    · have H := nb_Hw ((nb_Hu H).2 (by omega))
      have c17 : M.1 l1 (92 + 4 * l3 + l4) ≤ l2 := by omega
      refine nb_Gr ?_
      refine nb_Wg (q_m_second_26 _ _ _ _ _ _ _ (by omega)) ?_
      refine nb_Gb ?_
      refine nb_W.imp (nb_Hu H) (fun r M14 H => ?_)
      obtain ⟨rfl, W15, H⟩ := H
      replace H := nb_Hw H
      show nb_W 132 27 [(20, 603), (3, l1), (0, l2), (0, l3), (0, l4), v5] [] M14 _
      have E16 : nb_add l4 1 = l4 + 1 := nb_add_eq (by omega) (by omega)
      refine nb_Wg (q_m_second_27 _ _ _ _ _ _ _) ?_
      simp only [E16]
      clear E16
      refine nb_Gr ?_
      exact nb_Hu H

