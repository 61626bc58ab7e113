/-! rules, printed by wip/gen -/
theorem w_g_take_0 {g f : Int} {M : nb_M} {Q : List nb_V → nb_M → Prop} (hg : g ≠ 0) (hf : f ≠ 0) (hgf : g ≠ f) (H : Q [] (nb_wr (nb_wr (nb_wr (nb_wr (nb_wr (nb_wr (nb_wr (nb_wr (nb_wr (nb_wr (nb_wr (nb_wr (nb_wr (nb_wr (nb_wr M g 0 (M.1 f 0)) g 1 (M.1 f 1)) g 2 (M.1 f 2)) g 3 (M.1 f 3)) g 4 (M.1 f 4)) g 5 (M.1 f 5)) g 6 (M.1 f 6)) g 7 (M.1 f 7)) g 8 (M.1 f 8)) g 9 (M.1 f 9)) g 10 (M.1 f 10)) g 11 (M.1 f 11)) g 12 (M.1 f 12)) g 13 (M.1 f 13)) g 14 (M.1 f 14))) :
    nb_W 215 0 [(11, g), (11, f)] [] M Q := by
  replace H := nb_Hw H
  have E1 : nb_rd M f 0 = M.1 f 0 := nb_rd_1 _ _ _
  refine nb_Wg (q_g_take_0 _ _ _ (by omega) (by omega)) ?_
  simp only [E1]
  clear E1
  refine nb_Gr ?_
  have E2 : nb_rd (nb_wr M g 0 (M.1 f 0)) f 1 = M.1 f 1 := nb_rdw (Or.inr (by decide)) (nb_rd_1 _ _ _)
  refine nb_Wg (q_g_take_1 _ _ _ (by omega) (by omega)) ?_
  simp only [E2]
  clear E2
  refine nb_Gr ?_
  have E3 : nb_rd (nb_wr (nb_wr M g 0 (M.1 f 0)) g 1 (M.1 f 1)) f 2 = M.1 f 2 := nb_rdw (Or.inr (by decide)) (nb_rdw (Or.inr (by decide)) (nb_rd_1 _ _ _))
  refine nb_Wg (q_g_take_2 _ _ _ (by omega) (by omega)) ?_
  simp only [E3]
  clear E3
  refine nb_Gr ?_
  have E4 : nb_rd (nb_wr (nb_wr (nb_wr M g 0 (M.1 f 0)) g 1 (M.1 f 1)) g 2 (M.1 f 2)) f 3 = M.1 f 3 := nb_rdw (Or.inr (by decide)) (nb_rdw (Or.inr (by decide)) (nb_rdw (Or.inr (by decide)) (nb_rd_1 _ _ _)))
  refine nb_Wg (q_g_take_3 _ _ _ (by omega) (by omega)) ?_
  simp only [E4]
  clear E4
  refine nb_Gr ?_
  have E5 : nb_rd (nb_wr (nb_wr (nb_wr (nb_wr M g 0 (M.1 f 0)) g 1 (M.1 f 1)) g 2 (M.1 f 2)) g 3 (M.1 f 3)) f 4 = M.1 f 4 := nb_rdw (Or.inr (by decide)) (nb_rdw (Or.inr (by decide)) (nb_rdw (Or.inr (by decide)) (nb_rdw (Or.inr (by decide)) (nb_rd_1 _ _ _))))
  refine nb_Wg (q_g_take_4 _ _ _ (by omega) (by omega)) ?_
  simp only [E5]
  clear E5
  refine nb_Gr ?_
  have E6 : nb_rd (nb_wr (nb_wr (nb_wr (nb_wr (nb_wr M g 0 (M.1 f 0)) g 1 (M.1 f 1)) g 2 (M.1 f 2)) g 3 (M.1 f 3)) g 4 (M.1 f 4)) f 5 = M.1 f 5 := nb_rdw (Or.inr (by decide)) (nb_rdw (Or.inr (by decide)) (nb_rdw (Or.inr (by decide)) (nb_rdw (Or.inr (by decide)) (nb_rdw (Or.inr (by decide)) (nb_rd_1 _ _ _)))))
  refine nb_Wg (q_g_take_5 _ _ _ (by omega) (by omega)) ?_
  simp only [E6]
  clear E6
  refine nb_Gr ?_
  have E7 : nb_rd (nb_wr (nb_wr (nb_wr (nb_wr (nb_wr (nb_wr M g 0 (M.1 f 0)) g 1 (M.1 f 1)) g 2 (M.1 f 2)) g 3 (M.1 f 3)) g 4 (M.1 f 4)) g 5 (M.1 f 5)) f 6 = M.1 f 6 := nb_rdw (Or.inr (by decide)) (nb_rdw (Or.inr (by decide)) (nb_rdw (Or.inr (by decide)) (nb_rdw (Or.inr (by decide)) (nb_rdw (Or.inr (by decide)) (nb_rdw (Or.inr (by decide)) (nb_rd_1 _ _ _))))))
  refine nb_Wg (q_g_take_6 _ _ _ (by omega) (by omega)) ?_
  simp only [E7]
  clear E7
  refine nb_Gr ?_
  have E8 : nb_rd (nb_wr (nb_wr (nb_wr (nb_wr (nb_wr (nb_wr (nb_wr M g 0 (M.1 f 0)) g 1 (M.1 f 1)) g 2 (M.1 f 2)) g 3 (M.1 f 3)) g 4 (M.1 f 4)) g 5 (M.1 f 5)) g 6 (M.1 f 6)) f 7 = M.1 f 7 := nb_rdw (Or.inr (by decide)) (nb_rdw (Or.inr (by decide)) (nb_rdw (Or.inr (by decide)) (nb_rdw (Or.inr (by decide)) (nb_rdw (Or.inr (by decide)) (nb_rdw (Or.inr (by decide)) (nb_rdw (Or.inr (by decide)) (nb_rd_1 _ _ _)))))))
  refine nb_Wg (q_g_take_7 _ _ _ (by omega) (by omega)) ?_
  simp only [E8]
  clear E8
  refine nb_Gr ?_
  have E9 : nb_rd (nb_wr (nb_wr (nb_wr (nb_wr (nb_wr (nb_wr (nb_wr (nb_wr M g 0 (M.1 f 0)) g 1 (M.1 f 1)) g 2 (M.1 f 2)) g 3 (M.1 f 3)) g 4 (M.1 f 4)) g 5 (M.1 f 5)) g 6 (M.1 f 6)) g 7 (M.1 f 7)) f 8 = M.1 f 8 := nb_rdw (Or.inr (by decide)) (nb_rdw (Or.inr (by decide)) (nb_rdw (Or.inr (by decide)) (nb_rdw (Or.inr (by decide)) (nb_rdw (Or.inr (by decide)) (nb_rdw (Or.inr (by decide)) (nb_rdw (Or.inr (by decide)) (nb_rdw (Or.inr (by decide)) (nb_rd_1 _ _ _))))))))
  refine nb_Wg (q_g_take_8 _ _ _ (by omega) (by omega)) ?_
  simp only [E9]
  clear E9
  refine nb_Gr ?_
  have E10 : nb_rd (nb_wr (nb_wr (nb_wr (nb_wr (nb_wr (nb_wr (nb_wr (nb_wr (nb_wr M g 0 (M.1 f 0)) g 1 (M.1 f 1)) g 2 (M.1 f 2)) g 3 (M.1 f 3)) g 4 (M.1 f 4)) g 5 (M.1 f 5)) g 6 (M.1 f 6)) g 7 (M.1 f 7)) g 8 (M.1 f 8)) f 9 = M.1 f 9 := nb_rdw (Or.inr (by decide)) (nb_rdw (Or.inr (by decide)) (nb_rdw (Or.inr (by decide)) (nb_rdw (Or.inr (by decide)) (nb_rdw (Or.inr (by decide)) (nb_rdw (Or.inr (by decide)) (nb_rdw (Or.inr (by decide)) (nb_rdw (Or.inr (by decide)) (nb_rdw (Or.inr (by decide)) (nb_rd_1 _ _ _)))))))))
  refine nb_Wg (q_g_take_9 _ _ _ (by omega) (by omega)) ?_
  simp only [E10]
  clear E10
  refine nb_Gr ?_
  have E11 : nb_rd (nb_wr (nb_wr (nb_wr (nb_wr (nb_wr (nb_wr (nb_wr (nb_wr (nb_wr (nb_wr M g 0 (M.1 f 0)) g 1 (M.1 f 1)) g 2 (M.1 f 2)) g 3 (M.1 f 3)) g 4 (M.1 f 4)) g 5 (M.1 f 5)) g 6 (M.1 f 6)) g 7 (M.1 f 7)) g 8 (M.1 f 8)) g 9 (M.1 f 9)) f 10 = M.1 f 10 := nb_rdw (Or.inr (by decide)) (nb_rdw (Or.inr (by decide)) (nb_rdw (Or.inr (by decide)) (nb_rdw (Or.inr (by decide)) (nb_rdw (Or.inr (by decide)) (nb_rdw (Or.inr (by decide)) (nb_rdw (Or.inr (by decide)) (nb_rdw (Or.inr (by decide)) (nb_rdw (Or.inr (by decide)) (nb_rdw (Or.inr (by decide)) (nb_rd_1 _ _ _))))))))))
  refine nb_Wg (q_g_take_10 _ _ _ (by omega) (by omega)) ?_
  simp only [E11]
  clear E11
  refine nb_Gr ?_
  have E12 : nb_rd (nb_wr (nb_wr (nb_wr (nb_wr (nb_wr (nb_wr (nb_wr (nb_wr (nb_wr (nb_wr (nb_wr M g 0 (M.1 f 0)) g 1 (M.1 f 1)) g 2 (M.1 f 2)) g 3 (M.1 f 3)) g 4 (M.1 f 4)) g 5 (M.1 f 5)) g 6 (M.1 f 6)) g 7 (M.1 f 7)) g 8 (M.1 f 8)) g 9 (M.1 f 9)) g 10 (M.1 f 10)) f 11 = M.1 f 11 := nb_rdw (Or.inr (by decide)) (nb_rdw (Or.inr (by decide)) (nb_rdw (Or.inr (by decide)) (nb_rdw (Or.inr (by decide)) (nb_rdw (Or.inr (by decide)) (nb_rdw (Or.inr (by decide)) (nb_rdw (Or.inr (by decide)) (nb_rdw (Or.inr (by decide)) (nb_rdw (Or.inr (by decide)) (nb_rdw (Or.inr (by decide)) (nb_rdw (Or.inr (by decide)) (nb_rd_1 _ _ _)))))))))))
  refine nb_Wg (q_g_take_11 _ _ _ (by omega) (by omega)) ?_
  simp only [E12]
  clear E12
  refine nb_Gr ?_
  have E13 : nb_rd (nb_wr (nb_wr (nb_wr (nb_wr (nb_wr (nb_wr (nb_wr (nb_wr (nb_wr (nb_wr (nb_wr (nb_wr M g 0 (M.1 f 0)) g 1 (M.1 f 1)) g 2 (M.1 f 2)) g 3 (M.1 f 3)) g 4 (M.1 f 4)) g 5 (M.1 f 5)) g 6 (M.1 f 6)) g 7 (M.1 f 7)) g 8 (M.1 f 8)) g 9 (M.1 f 9)) g 10 (M.1 f 10)) g 11 (M.1 f 11)) f 12 = M.1 f 12 := nb_rdw (Or.inr (by decide)) (nb_rdw (Or.inr (by decide)) (nb_rdw (Or.inr (by decide)) (nb_rdw (Or.inr (by decide)) (nb_rdw (Or.inr (by decide)) (nb_rdw (Or.inr (by decide)) (nb_rdw (Or.inr (by decide)) (nb_rdw (Or.inr (by decide)) (nb_rdw (Or.inr (by decide)) (nb_rdw (Or.inr (by decide)) (nb_rdw (Or.inr (by decide)) (nb_rdw (Or.inr (by decide)) (nb_rd_1 _ _ _))))))))))))
  refine nb_Wg (q_g_take_12 _ _ _ (by omega) (by omega)) ?_
  simp only [E13]
  clear E13
  refine nb_Gr ?_
  have E14 : nb_rd (nb_wr (nb_wr (nb_wr (nb_wr (nb_wr (nb_wr (nb_wr (nb_wr (nb_wr (nb_wr (nb_wr (nb_wr (nb_wr M g 0 (M.1 f 0)) g 1 (M.1 f 1)) g 2 (M.1 f 2)) g 3 (M.1 f 3)) g 4 (M.1 f 4)) g 5 (M.1 f 5)) g 6 (M.1 f 6)) g 7 (M.1 f 7)) g 8 (M.1 f 8)) g 9 (M.1 f 9)) g 10 (M.1 f 10)) g 11 (M.1 f 11)) g 12 (M.1 f 12)) f 13 = M.1 f 13 := nb_rdw (Or.inr (by decide)) (nb_rdw (Or.inr (by decide)) (nb_rdw (Or.inr (by decide)) (nb_rdw (Or.inr (by decide)) (nb_rdw (Or.inr (by decide)) (nb_rdw (Or.inr (by decide)) (nb_rdw (Or.inr (by decide)) (nb_rdw (Or.inr (by decide)) (nb_rdw (Or.inr (by decide)) (nb_rdw (Or.inr (by decide)) (nb_rdw (Or.inr (by decide)) (nb_rdw (Or.inr (by decide)) (nb_rdw (Or.inr (by decide)) (nb_rd_1 _ _ _)))))))))))))
  refine nb_Wg (q_g_take_13 _ _ _ (by omega) (by omega)) ?_
  simp only [E14]
  clear E14
  refine nb_Gr ?_
  have E15 : nb_rd (nb_wr (nb_wr (nb_wr (nb_wr (nb_wr (nb_wr (nb_wr (nb_wr (nb_wr (nb_wr (nb_wr (nb_wr (nb_wr (nb_wr M g 0 (M.1 f 0)) g 1 (M.1 f 1)) g 2 (M.1 f 2)) g 3 (M.1 f 3)) g 4 (M.1 f 4)) g 5 (M.1 f 5)) g 6 (M.1 f 6)) g 7 (M.1 f 7)) g 8 (M.1 f 8)) g 9 (M.1 f 9)) g 10 (M.1 f 10)) g 11 (M.1 f 11)) g 12 (M.1 f 12)) g 13 (M.1 f 13)) f 14 = M.1 f 14 := nb_rdw (Or.inr (by decide)) (nb_rdw (Or.inr (by decide)) (nb_rdw (Or.inr (by decide)) (nb_rdw (Or.inr (by decide)) (nb_rdw (Or.inr (by decide)) (nb_rdw (Or.inr (by decide)) (nb_rdw (Or.inr (by decide)) (nb_rdw (Or.inr (by decide)) (nb_rdw (Or.inr (by decide)) (nb_rdw (Or.inr (by decide)) (nb_rdw (Or.inr (by decide)) (nb_rdw (Or.inr (by decide)) (nb_rdw (Or.inr (by decide)) (nb_rdw (Or.inr (by decide)) (nb_rd_1 _ _ _))))))))))))))
  refine nb_Wg (q_g_take_14 _ _ _ (by omega) (by omega)) ?_
  simp only [E15]
  clear E15
  refine nb_Gr ?_
  refine nb_Wg (q_g_take_15 _ _ _) ?_
  refine nb_Gs ?_
  exact nb_Hu H

theorem w_sv_take_s {A B s : Int} {M : nb_M} {Q : List nb_V → nb_M → Prop} (W : nb_Lay M) (hA : nb_sc A) (hB : nb_sc B) (hAB : A ≠ B) (hs : 0 ≤ s ∧ s < 4) (H : (B + 14 + 2 * s) + 1 ≠ (A + 14 + 2 * s) + 1 ∧ Q [] (nb_wr (nb_wr (nb_wr (nb_wr (nb_wr (nb_wr (nb_wr (nb_cpy M ((B + 14 + 2 * s) + 1) 0 ((A + 14 + 2 * s) + 1) 0 2) (A + 14 + 2 * s) 1 ((nb_cpy M ((B + 14 + 2 * s) + 1) 0 ((A + 14 + 2 * s) + 1) 0 2).1 (B + 14 + 2 * s) 1)) (A + 14 + 2 * s) 2 ((nb_cpy M ((B + 14 + 2 * s) + 1) 0 ((A + 14 + 2 * s) + 1) 0 2).1 (B + 14 + 2 * s) 2)) (A + 14 + 2 * s) 3 ((nb_cpy M ((B + 14 + 2 * s) + 1) 0 ((A + 14 + 2 * s) + 1) 0 2).1 (B + 14 + 2 * s) 3)) (A + 14 + 2 * s) 4 ((nb_cpy M ((B + 14 + 2 * s) + 1) 0 ((A + 14 + 2 * s) + 1) 0 2).1 (B + 14 + 2 * s) 4)) (A + 14 + 2 * s) 5 ((nb_cpy M ((B + 14 + 2 * s) + 1) 0 ((A + 14 + 2 * s) + 1) 0 2).1 (B + 14 + 2 * s) 5)) (A + 14 + 2 * s) 6 ((nb_cpy M ((B + 14 + 2 * s) + 1) 0 ((A + 14 + 2 * s) + 1) 0 2).1 (B + 14 + 2 * s) 6)) (A + 14 + 2 * s) 7 ((nb_cpy M ((B + 14 + 2 * s) + 1) 0 ((A + 14 + 2 * s) + 1) 0 2).1 (B + 14 + 2 * s) 7))) :
    nb_W 273 0 [(16, A + 14 + 2 * s), (16, B + 14 + 2 * s)] [] M Q := by
  replace H := nb_Hw H
  have uhA := hA
  unfold nb_sc at uhA
  have uhB := hB
  unfold nb_sc at uhB
  obtain ⟨p0_, H⟩ := H
  replace H := nb_Hw H
  have E1 : nb_rd M (B + 14 + 2 * s) 0 = (B + 14 + 2 * s) + 1 := W.sv0 (A := B) (i := s) hB (by omega) (by omega)
  have E2 : nb_rd M (A + 14 + 2 * s) 0 = (A + 14 + 2 * s) + 1 := W.sv0 (A := A) (i := s) hA (by omega) (by omega)
  have N3 : nb_ln M ((B + 14 + 2 * s) + 1) = 2 := W.snf (A := B) (i := s) hB (by omega) (by omega)
  have N4 : nb_ln M ((A + 14 + 2 * s) + 1) = 2 := W.snf (A := A) (i := s) hA (by omega) (by omega)
  refine nb_Wg (q_sv_take_0 _ _ _ (by omega) (by omega)) ?_
  simp only [E1, E2]
  rw [if_pos (by rw [N3, N4]; omega)]
  have W5 : nb_Lay (nb_cpy M ((B + 14 + 2 * s) + 1) 0 ((A + 14 + 2 * s) + 1) 0 2) := W.cpy (fun j w => (nb_nsf (A := A) (i := s) hA (by omega) (by omega)))
  refine nb_Gp ?_
  show nb_W 273 1 [(16, A + 14 + 2 * s), (16, B + 14 + 2 * s)] [] (nb_cpy M ((B + 14 + 2 * s) + 1) 0 ((A + 14 + 2 * s) + 1) 0 2) _
  have E6 : nb_rd (nb_cpy M ((B + 14 + 2 * s) + 1) 0 ((A + 14 + 2 * s) + 1) 0 2) (B + 14 + 2 * s) 1 = (nb_cpy M ((B + 14 + 2 * s) + 1) 0 ((A + 14 + 2 * s) + 1) 0 2).1 (B + 14 + 2 * s) 1 := nb_rd_1 _ _ _
  refine nb_Wg (q_sv_take_1 _ _ _ (by omega) (by omega)) ?_
  simp only [E6]
  clear E6
  have W7 : nb_Lay (nb_wr (nb_cpy M ((B + 14 + 2 * s) + 1) 0 ((A + 14 + 2 * s) + 1) 0 2) (A + 14 + 2 * s) 1 ((nb_cpy M ((B + 14 + 2 * s) + 1) 0 ((A + 14 + 2 * s) + 1) 0 2).1 (B + 14 + 2 * s) 1)) := W5.wr (fun w => (nb_nsv (A := A) (i := s) hA (by omega) (by omega) (by omega)))
  refine nb_Gr ?_
  have E8 : nb_rd (nb_wr (nb_cpy M ((B + 14 + 2 * s) + 1) 0 ((A + 14 + 2 * s) + 1) 0 2) (A + 14 + 2 * s) 1 ((nb_cpy M ((B + 14 + 2 * s) + 1) 0 ((A + 14 + 2 * s) + 1) 0 2).1 (B + 14 + 2 * s) 1)) (B + 14 + 2 * s) 2 = (nb_cpy M ((B + 14 + 2 * s) + 1) 0 ((A + 14 + 2 * s) + 1) 0 2).1 (B + 14 + 2 * s) 2 := nb_rdw (Or.inr (by decide)) (nb_rd_1 _ _ _)
  refine nb_Wg (q_sv_take_2 _ _ _ (by omega) (by omega)) ?_
  simp only [E8]
  clear E8
  have W9 : nb_Lay (nb_wr (nb_wr (nb_cpy M ((B + 14 + 2 * s) + 1) 0 ((A + 14 + 2 * s) + 1) 0 2) (A + 14 + 2 * s) 1 ((nb_cpy M ((B + 14 + 2 * s) + 1) 0 ((A + 14 + 2 * s) + 1) 0 2).1 (B + 14 + 2 * s) 1)) (A + 14 + 2 * s) 2 ((nb_cpy M ((B + 14 + 2 * s) + 1) 0 ((A + 14 + 2 * s) + 1) 0 2).1 (B + 14 + 2 * s) 2)) := W7.wr (fun w => (nb_nsv (A := A) (i := s) hA (by omega) (by omega) (by omega)))
  refine nb_Gr ?_
  have E10 : nb_rd (nb_wr (nb_wr (nb_cpy M ((B + 14 + 2 * s) + 1) 0 ((A + 14 + 2 * s) + 1) 0 2) (A + 14 + 2 * s) 1 ((nb_cpy M ((B + 14 + 2 * s) + 1) 0 ((A + 14 + 2 * s) + 1) 0 2).1 (B + 14 + 2 * s) 1)) (A + 14 + 2 * s) 2 ((nb_cpy M ((B + 14 + 2 * s) + 1) 0 ((A + 14 + 2 * s) + 1) 0 2).1 (B + 14 + 2 * s) 2)) (B + 14 + 2 * s) 3 = (nb_cpy M ((B + 14 + 2 * s) + 1) 0 ((A + 14 + 2 * s) + 1) 0 2).1 (B + 14 + 2 * s) 3 := nb_rdw (Or.inr (by decide)) (nb_rdw (Or.inr (by decide)) (nb_rd_1 _ _ _))
  refine nb_Wg (q_sv_take_3 _ _ _ (by omega) (by omega)) ?_
  simp only [E10]
  clear E10
  have W11 : nb_Lay (nb_wr (nb_wr (nb_wr (nb_cpy M ((B + 14 + 2 * s) + 1) 0 ((A + 14 + 2 * s) + 1) 0 2) (A + 14 + 2 * s) 1 ((nb_cpy M ((B + 14 + 2 * s) + 1) 0 ((A + 14 + 2 * s) + 1) 0 2).1 (B + 14 + 2 * s) 1)) (A + 14 + 2 * s) 2 ((nb_cpy M ((B + 14 + 2 * s) + 1) 0 ((A + 14 + 2 * s) + 1) 0 2).1 (B + 14 + 2 * s) 2)) (A + 14 + 2 * s) 3 ((nb_cpy M ((B + 14 + 2 * s) + 1) 0 ((A + 14 + 2 * s) + 1) 0 2).1 (B + 14 + 2 * s) 3)) := W9.wr (fun w => (nb_nsv (A := A) (i := s) hA (by omega) (by omega) (by omega)))
  refine nb_Gr ?_
  have E12 : nb_rd (nb_wr (nb_wr (nb_wr (nb_cpy M ((B + 14 + 2 * s) + 1) 0 ((A + 14 + 2 * s) + 1) 0 2) (A + 14 + 2 * s) 1 ((nb_cpy M ((B + 14 + 2 * s) + 1) 0 ((A + 14 + 2 * s) + 1) 0 2).1 (B + 14 + 2 * s) 1)) (A + 14 + 2 * s) 2 ((nb_cpy M ((B + 14 + 2 * s) + 1) 0 ((A + 14 + 2 * s) + 1) 0 2).1 (B + 14 + 2 * s) 2)) (A + 14 + 2 * s) 3 ((nb_cpy M ((B + 14 + 2 * s) + 1) 0 ((A + 14 + 2 * s) + 1) 0 2).1 (B + 14 + 2 * s) 3)) (B + 14 + 2 * s) 4 = (nb_cpy M ((B + 14 + 2 * s) + 1) 0 ((A + 14 + 2 * s) + 1) 0 2).1 (B + 14 + 2 * s) 4 := nb_rdw (Or.inr (by decide)) (nb_rdw (Or.inr (by decide)) (nb_rdw (Or.inr (by decide)) (nb_rd_1 _ _ _)))
  refine nb_Wg (q_sv_take_4 _ _ _ (by omega) (by omega)) ?_
  simp only [E12]
  clear E12
  have W13 : nb_Lay (nb_wr (nb_wr (nb_wr (nb_wr (nb_cpy M ((B + 14 + 2 * s) + 1) 0 ((A + 14 + 2 * s) + 1) 0 2) (A + 14 + 2 * s) 1 ((nb_cpy M ((B + 14 + 2 * s) + 1) 0 ((A + 14 + 2 * s) + 1) 0 2).1 (B + 14 + 2 * s) 1)) (A + 14 + 2 * s) 2 ((nb_cpy M ((B + 14 + 2 * s) + 1) 0 ((A + 14 + 2 * s) + 1) 0 2).1 (B + 14 + 2 * s) 2)) (A + 14 + 2 * s) 3 ((nb_cpy M ((B + 14 + 2 * s) + 1) 0 ((A + 14 + 2 * s) + 1) 0 2).1 (B + 14 + 2 * s) 3)) (A + 14 + 2 * s) 4 ((nb_cpy M ((B + 14 + 2 * s) + 1) 0 ((A + 14 + 2 * s) + 1) 0 2).1 (B + 14 + 2 * s) 4)) := W11.wr (fun w => (nb_nsv (A := A) (i := s) hA (by omega) (by omega) (by omega)))
  refine nb_Gr ?_
  have E14 : nb_rd (nb_wr (nb_wr (nb_wr (nb_wr (nb_cpy M ((B + 14 + 2 * s) + 1) 0 ((A + 14 + 2 * s) + 1) 0 2) (A + 14 + 2 * s) 1 ((nb_cpy M ((B + 14 + 2 * s) + 1) 0 ((A + 14 + 2 * s) + 1) 0 2).1 (B + 14 + 2 * s) 1)) (A + 14 + 2 * s) 2 ((nb_cpy M ((B + 14 + 2 * s) + 1) 0 ((A + 14 + 2 * s) + 1) 0 2).1 (B + 14 + 2 * s) 2)) (A + 14 + 2 * s) 3 ((nb_cpy M ((B + 14 + 2 * s) + 1) 0 ((A + 14 + 2 * s) + 1) 0 2).1 (B + 14 + 2 * s) 3)) (A + 14 + 2 * s) 4 ((nb_cpy M ((B + 14 + 2 * s) + 1) 0 ((A + 14 + 2 * s) + 1) 0 2).1 (B + 14 + 2 * s) 4)) (B + 14 + 2 * s) 5 = (nb_cpy M ((B + 14 + 2 * s) + 1) 0 ((A + 14 + 2 * s) + 1) 0 2).1 (B + 14 + 2 * s) 5 := nb_rdw (Or.inr (by decide)) (nb_rdw (Or.inr (by decide)) (nb_rdw (Or.inr (by decide)) (nb_rdw (Or.inr (by decide)) (nb_rd_1 _ _ _))))
  refine nb_Wg (q_sv_take_5 _ _ _ (by omega) (by omega)) ?_
  simp only [E14]
  clear E14
  have W15 : nb_Lay (nb_wr (nb_wr (nb_wr (nb_wr (nb_wr (nb_cpy M ((B + 14 + 2 * s) + 1) 0 ((A + 14 + 2 * s) + 1) 0 2) (A + 14 + 2 * s) 1 ((nb_cpy M ((B + 14 + 2 * s) + 1) 0 ((A + 14 + 2 * s) + 1) 0 2).1 (B + 14 + 2 * s) 1)) (A + 14 + 2 * s) 2 ((nb_cpy M ((B + 14 + 2 * s) + 1) 0 ((A + 14 + 2 * s) + 1) 0 2).1 (B + 14 + 2 * s) 2)) (A + 14 + 2 * s) 3 ((nb_cpy M ((B + 14 + 2 * s) + 1) 0 ((A + 14 + 2 * s) + 1) 0 2).1 (B + 14 + 2 * s) 3)) (A + 14 + 2 * s) 4 ((nb_cpy M ((B + 14 + 2 * s) + 1) 0 ((A + 14 + 2 * s) + 1) 0 2).1 (B + 14 + 2 * s) 4)) (A + 14 + 2 * s) 5 ((nb_cpy M ((B + 14 + 2 * s) + 1) 0 ((A + 14 + 2 * s) + 1) 0 2).1 (B + 14 + 2 * s) 5)) := W13.wr (fun w => (nb_nsv (A := A) (i := s) hA (by omega) (by omega) (by omega)))
  refine nb_Gr ?_
  have E16 : nb_rd (nb_wr (nb_wr (nb_wr (nb_wr (nb_wr (nb_cpy M ((B + 14 + 2 * s) + 1) 0 ((A + 14 + 2 * s) + 1) 0 2) (A + 14 + 2 * s) 1 ((nb_cpy M ((B + 14 + 2 * s) + 1) 0 ((A + 14 + 2 * s) + 1) 0 2).1 (B + 14 + 2 * s) 1)) (A + 14 + 2 * s) 2 ((nb_cpy M ((B + 14 + 2 * s) + 1) 0 ((A + 14 + 2 * s) + 1) 0 2).1 (B + 14 + 2 * s) 2)) (A + 14 + 2 * s) 3 ((nb_cpy M ((B + 14 + 2 * s) + 1) 0 ((A + 14 + 2 * s) + 1) 0 2).1 (B + 14 + 2 * s) 3)) (A + 14 + 2 * s) 4 ((nb_cpy M ((B + 14 + 2 * s) + 1) 0 ((A + 14 + 2 * s) + 1) 0 2).1 (B + 14 + 2 * s) 4)) (A + 14 + 2 * s) 5 ((nb_cpy M ((B + 14 + 2 * s) + 1) 0 ((A + 14 + 2 * s) + 1) 0 2).1 (B + 14 + 2 * s) 5)) (B + 14 + 2 * s) 6 = (nb_cpy M ((B + 14 + 2 * s) + 1) 0 ((A + 14 + 2 * s) + 1) 0 2).1 (B + 14 + 2 * s) 6 := nb_rdw (Or.inr (by decide)) (nb_rdw (Or.inr (by decide)) (nb_rdw (Or.inr (by decide)) (nb_rdw (Or.inr (by decide)) (nb_rdw (Or.inr (by decide)) (nb_rd_1 _ _ _)))))
  refine nb_Wg (q_sv_take_6 _ _ _ (by omega) (by omega)) ?_
  simp only [E16]
  clear E16
  have W17 : nb_Lay (nb_wr (nb_wr (nb_wr (nb_wr (nb_wr (nb_wr (nb_cpy M ((B + 14 + 2 * s) + 1) 0 ((A + 14 + 2 * s) + 1) 0 2) (A + 14 + 2 * s) 1 ((nb_cpy M ((B + 14 + 2 * s) + 1) 0 ((A + 14 + 2 * s) + 1) 0 2).1 (B + 14 + 2 * s) 1)) (A + 14 + 2 * s) 2 ((nb_cpy M ((B + 14 + 2 * s) + 1) 0 ((A + 14 + 2 * s) + 1) 0 2).1 (B + 14 + 2 * s) 2)) (A + 14 + 2 * s) 3 ((nb_cpy M ((B + 14 + 2 * s) + 1) 0 ((A + 14 + 2 * s) + 1) 0 2).1 (B + 14 + 2 * s) 3)) (A + 14 + 2 * s) 4 ((nb_cpy M ((B + 14 + 2 * s) + 1) 0 ((A + 14 + 2 * s) + 1) 0 2).1 (B + 14 + 2 * s) 4)) (A + 14 + 2 * s) 5 ((nb_cpy M ((B + 14 + 2 * s) + 1) 0 ((A + 14 + 2 * s) + 1) 0 2).1 (B + 14 + 2 * s) 5)) (A + 14 + 2 * s) 6 ((nb_cpy M ((B + 14 + 2 * s) + 1) 0 ((A + 14 + 2 * s) + 1) 0 2).1 (B + 14 + 2 * s) 6)) := W15.wr (fun w => (nb_nsv (A := A) (i := s) hA (by omega) (by omega) (by omega)))
  refine nb_Gr ?_
  have E18 : nb_rd (nb_wr (nb_wr (nb_wr (nb_wr (nb_wr (nb_wr (nb_cpy M ((B + 14 + 2 * s) + 1) 0 ((A + 14 + 2 * s) + 1) 0 2) (A + 14 + 2 * s) 1 ((nb_cpy M ((B + 14 + 2 * s) + 1) 0 ((A + 14 + 2 * s) + 1) 0 2).1 (B + 14 + 2 * s) 1)) (A + 14 + 2 * s) 2 ((nb_cpy M ((B + 14 + 2 * s) + 1) 0 ((A + 14 + 2 * s) + 1) 0 2).1 (B + 14 + 2 * s) 2)) (A + 14 + 2 * s) 3 ((nb_cpy M ((B + 14 + 2 * s) + 1) 0 ((A + 14 + 2 * s) + 1) 0 2).1 (B + 14 + 2 * s) 3)) (A + 14 + 2 * s) 4 ((nb_cpy M ((B + 14 + 2 * s) + 1) 0 ((A + 14 + 2 * s) + 1) 0 2).1 (B + 14 + 2 * s) 4)) (A + 14 + 2 * s) 5 ((nb_cpy M ((B + 14 + 2 * s) + 1) 0 ((A + 14 + 2 * s) + 1) 0 2).1 (B + 14 + 2 * s) 5)) (A + 14 + 2 * s) 6 ((nb_cpy M ((B + 14 + 2 * s) + 1) 0 ((A + 14 + 2 * s) + 1) 0 2).1 (B + 14 + 2 * s) 6)) (B + 14 + 2 * s) 7 = (nb_cpy M ((B + 14 + 2 * s) + 1) 0 ((A + 14 + 2 * s) + 1) 0 2).1 (B + 14 + 2 * s) 7 := nb_rdw (Or.inr (by decide)) (nb_rdw (Or.inr (by decide)) (nb_rdw (Or.inr (by decide)) (nb_rdw (Or.inr (by decide)) (nb_rdw (Or.inr (by decide)) (nb_rdw (Or.inr (by decide)) (nb_rd_1 _ _ _))))))
  refine nb_Wg (q_sv_take_7 _ _ _ (by omega) (by omega)) ?_
  simp only [E18]
  clear E18
  have W19 : nb_Lay (nb_wr (nb_wr (nb_wr (nb_wr (nb_wr (nb_wr (nb_wr (nb_cpy M ((B + 14 + 2 * s) + 1) 0 ((A + 14 + 2 * s) + 1) 0 2) (A + 14 + 2 * s) 1 ((nb_cpy M ((B + 14 + 2 * s) + 1) 0 ((A + 14 + 2 * s) + 1) 0 2).1 (B + 14 + 2 * s) 1)) (A + 14 + 2 * s) 2 ((nb_cpy M ((B + 14 + 2 * s) + 1) 0 ((A + 14 + 2 * s) + 1) 0 2).1 (B + 14 + 2 * s) 2)) (A + 14 + 2 * s) 3 ((nb_cpy M ((B + 14 + 2 * s) + 1) 0 ((A + 14 + 2 * s) + 1) 0 2).1 (B + 14 + 2 * s) 3)) (A + 14 + 2 * s) 4 ((nb_cpy M ((B + 14 + 2 * s) + 1) 0 ((A + 14 + 2 * s) + 1) 0 2).1 (B + 14 + 2 * s) 4)) (A + 14 + 2 * s) 5 ((nb_cpy M ((B + 14 + 2 * s) + 1) 0 ((A + 14 + 2 * s) + 1) 0 2).1 (B + 14 + 2 * s) 5)) (A + 14 + 2 * s) 6 ((nb_cpy M ((B + 14 + 2 * s) + 1) 0 ((A + 14 + 2 * s) + 1) 0 2).1 (B + 14 + 2 * s) 6)) (A + 14 + 2 * s) 7 ((nb_cpy M ((B + 14 + 2 * s) + 1) 0 ((A + 14 + 2 * s) + 1) 0 2).1 (B + 14 + 2 * s) 7)) := W17.wr (fun w => (nb_nsv (A := A) (i := s) hA (by omega) (by omega) (by omega)))
  refine nb_Gr ?_
  refine nb_Wg (q_sv_take_8 _ _ _) ?_
  refine nb_Gs ?_
  exact nb_Hu H

theorem w_sv_take_h {A Ho s : Int} {M : nb_M} {Q : List nb_V → nb_M → Prop} (W : nb_Lay M) (hA : nb_sc A) (hHo : nb_hs Ho) (hs : 0 ≤ s ∧ s < 3) (H : (Ho + 30 + 2 * s) + 1 ≠ (A + 14 + 2 * s) + 1 ∧ Q [] (nb_wr (nb_wr (nb_wr (nb_wr (nb_wr (nb_wr (nb_wr (nb_cpy M ((Ho + 30 + 2 * s) + 1) 0 ((A + 14 + 2 * s) + 1) 0 2) (A + 14 + 2 * s) 1 ((nb_cpy M ((Ho + 30 + 2 * s) + 1) 0 ((A + 14 + 2 * s) + 1) 0 2).1 (Ho + 30 + 2 * s) 1)) (A + 14 + 2 * s) 2 ((nb_cpy M ((Ho + 30 + 2 * s) + 1) 0 ((A + 14 + 2 * s) + 1) 0 2).1 (Ho + 30 + 2 * s) 2)) (A + 14 + 2 * s) 3 ((nb_cpy M ((Ho + 30 + 2 * s) + 1) 0 ((A + 14 + 2 * s) + 1) 0 2).1 (Ho + 30 + 2 * s) 3)) (A + 14 + 2 * s) 4 ((nb_cpy M ((Ho + 30 + 2 * s) + 1) 0 ((A + 14 + 2 * s) + 1) 0 2).1 (Ho + 30 + 2 * s) 4)) (A + 14 + 2 * s) 5 ((nb_cpy M ((Ho + 30 + 2 * s) + 1) 0 ((A + 14 + 2 * s) + 1) 0 2).1 (Ho + 30 + 2 * s) 5)) (A + 14 + 2 * s) 6 ((nb_cpy M ((Ho + 30 + 2 * s) + 1) 0 ((A + 14 + 2 * s) + 1) 0 2).1 (Ho + 30 + 2 * s) 6)) (A + 14 + 2 * s) 7 ((nb_cpy M ((Ho + 30 + 2 * s) + 1) 0 ((A + 14 + 2 * s) + 1) 0 2).1 (Ho + 30 + 2 * s) 7))) :
    nb_W 273 0 [(16, A + 14 + 2 * s), (16, Ho + 30 + 2 * s)] [] M Q := by
  replace H := nb_Hw H
  have uhA := hA
  unfold nb_sc at uhA
  have uhHo := hHo
  unfold nb_hs at uhHo
  obtain ⟨p0_, H⟩ := H
  replace H := nb_Hw H
  have E1 : nb_rd M (Ho + 30 + 2 * s) 0 = (Ho + 30 + 2 * s) + 1 := W.hv0 (H := Ho) (i := s) hHo (by omega) (by omega)
  have E2 : nb_rd M (A + 14 + 2 * s) 0 = (A + 14 + 2 * s) + 1 := W.sv0 (A := A) (i := s) hA (by omega) (by omega)
  have N3 : nb_ln M ((Ho + 30 + 2 * s) + 1) = 2 := W.hnf (H := Ho) (i := s) hHo (by omega) (by omega)
  have N4 : nb_ln M ((A + 14 + 2 * s) + 1) = 2 := W.snf (A := A) (i := s) hA (by omega) (by omega)
  refine nb_Wg (q_sv_take_0 _ _ _ (by omega) (by omega)) ?_
  simp only [E1, E2]
  rw [if_pos (by rw [N3, N4]; omega)]
  have W5 : nb_Lay (nb_cpy M ((Ho + 30 + 2 * s) + 1) 0 ((A + 14 + 2 * s) + 1) 0 2) := W.cpy (fun j w => (nb_nsf (A := A) (i := s) hA (by omega) (by omega)))
  refine nb_Gp ?_
  show nb_W 273 1 [(16, A + 14 + 2 * s), (16, Ho + 30 + 2 * s)] [] (nb_cpy M ((Ho + 30 + 2 * s) + 1) 0 ((A + 14 + 2 * s) + 1) 0 2) _
  have E6 : nb_rd (nb_cpy M ((Ho + 30 + 2 * s) + 1) 0 ((A + 14 + 2 * s) + 1) 0 2) (Ho + 30 + 2 * s) 1 = (nb_cpy M ((Ho + 30 + 2 * s) + 1) 0 ((A + 14 + 2 * s) + 1) 0 2).1 (Ho + 30 + 2 * s) 1 := nb_rd_1 _ _ _
  refine nb_Wg (q_sv_take_1 _ _ _ (by omega) (by omega)) ?_
  simp only [E6]
  clear E6
  have W7 : nb_Lay (nb_wr (nb_cpy M ((Ho + 30 + 2 * s) + 1) 0 ((A + 14 + 2 * s) + 1) 0 2) (A + 14 + 2 * s) 1 ((nb_cpy M ((Ho + 30 + 2 * s) + 1) 0 ((A + 14 + 2 * s) + 1) 0 2).1 (Ho + 30 + 2 * s) 1)) := W5.wr (fun w => (nb_nsv (A := A) (i := s) hA (by omega) (by omega) (by omega)))
  refine nb_Gr ?_
  have E8 : nb_rd (nb_wr (nb_cpy M ((Ho + 30 + 2 * s) + 1) 0 ((A + 14 + 2 * s) + 1) 0 2) (A + 14 + 2 * s) 1 ((nb_cpy M ((Ho + 30 + 2 * s) + 1) 0 ((A + 14 + 2 * s) + 1) 0 2).1 (Ho + 30 + 2 * s) 1)) (Ho + 30 + 2 * s) 2 = (nb_cpy M ((Ho + 30 + 2 * s) + 1) 0 ((A + 14 + 2 * s) + 1) 0 2).1 (Ho + 30 + 2 * s) 2 := nb_rdw (Or.inr (by decide)) (nb_rd_1 _ _ _)
  refine nb_Wg (q_sv_take_2 _ _ _ (by omega) (by omega)) ?_
  simp only [E8]
  clear E8
  have W9 : nb_Lay (nb_wr (nb_wr (nb_cpy M ((Ho + 30 + 2 * s) + 1) 0 ((A + 14 + 2 * s) + 1) 0 2) (A + 14 + 2 * s) 1 ((nb_cpy M ((Ho + 30 + 2 * s) + 1) 0 ((A + 14 + 2 * s) + 1) 0 2).1 (Ho + 30 + 2 * s) 1)) (A + 14 + 2 * s) 2 ((nb_cpy M ((Ho + 30 + 2 * s) + 1) 0 ((A + 14 + 2 * s) + 1) 0 2).1 (Ho + 30 + 2 * s) 2)) := W7.wr (fun w => (nb_nsv (A := A) (i := s) hA (by omega) (by omega) (by omega)))
  refine nb_Gr ?_
  have E10 : nb_rd (nb_wr (nb_wr (nb_cpy M ((Ho + 30 + 2 * s) + 1) 0 ((A + 14 + 2 * s) + 1) 0 2) (A + 14 + 2 * s) 1 ((nb_cpy M ((Ho + 30 + 2 * s) + 1) 0 ((A + 14 + 2 * s) + 1) 0 2).1 (Ho + 30 + 2 * s) 1)) (A + 14 + 2 * s) 2 ((nb_cpy M ((Ho + 30 + 2 * s) + 1) 0 ((A + 14 + 2 * s) + 1) 0 2).1 (Ho + 30 + 2 * s) 2)) (Ho + 30 + 2 * s) 3 = (nb_cpy M ((Ho + 30 + 2 * s) + 1) 0 ((A + 14 + 2 * s) + 1) 0 2).1 (Ho + 30 + 2 * s) 3 := nb_rdw (Or.inr (by decide)) (nb_rdw (Or.inr (by decide)) (nb_rd_1 _ _ _))
  refine nb_Wg (q_sv_take_3 _ _ _ (by omega) (by omega)) ?_
  simp only [E10]
  clear E10
  have W11 : nb_Lay (nb_wr (nb_wr (nb_wr (nb_cpy M ((Ho + 30 + 2 * s) + 1) 0 ((A + 14 + 2 * s) + 1) 0 2) (A + 14 + 2 * s) 1 ((nb_cpy M ((Ho + 30 + 2 * s) + 1) 0 ((A + 14 + 2 * s) + 1) 0 2).1 (Ho + 30 + 2 * s) 1)) (A + 14 + 2 * s) 2 ((nb_cpy M ((Ho + 30 + 2 * s) + 1) 0 ((A + 14 + 2 * s) + 1) 0 2).1 (Ho + 30 + 2 * s) 2)) (A + 14 + 2 * s) 3 ((nb_cpy M ((Ho + 30 + 2 * s) + 1) 0 ((A + 14 + 2 * s) + 1) 0 2).1 (Ho + 30 + 2 * s) 3)) := W9.wr (fun w => (nb_nsv (A := A) (i := s) hA (by omega) (by omega) (by omega)))
  refine nb_Gr ?_
  have E12 : nb_rd (nb_wr (nb_wr (nb_wr (nb_cpy M ((Ho + 30 + 2 * s) + 1) 0 ((A + 14 + 2 * s) + 1) 0 2) (A + 14 + 2 * s) 1 ((nb_cpy M ((Ho + 30 + 2 * s) + 1) 0 ((A + 14 + 2 * s) + 1) 0 2).1 (Ho + 30 + 2 * s) 1)) (A + 14 + 2 * s) 2 ((nb_cpy M ((Ho + 30 + 2 * s) + 1) 0 ((A + 14 + 2 * s) + 1) 0 2).1 (Ho + 30 + 2 * s) 2)) (A + 14 + 2 * s) 3 ((nb_cpy M ((Ho + 30 + 2 * s) + 1) 0 ((A + 14 + 2 * s) + 1) 0 2).1 (Ho + 30 + 2 * s) 3)) (Ho + 30 + 2 * s) 4 = (nb_cpy M ((Ho + 30 + 2 * s) + 1) 0 ((A + 14 + 2 * s) + 1) 0 2).1 (Ho + 30 + 2 * s) 4 := nb_rdw (Or.inr (by decide)) (nb_rdw (Or.inr (by decide)) (nb_rdw (Or.inr (by decide)) (nb_rd_1 _ _ _)))
  refine nb_Wg (q_sv_take_4 _ _ _ (by omega) (by omega)) ?_
  simp only [E12]
  clear E12
  have W13 : nb_Lay (nb_wr (nb_wr (nb_wr (nb_wr (nb_cpy M ((Ho + 30 + 2 * s) + 1) 0 ((A + 14 + 2 * s) + 1) 0 2) (A + 14 + 2 * s) 1 ((nb_cpy M ((Ho + 30 + 2 * s) + 1) 0 ((A + 14 + 2 * s) + 1) 0 2).1 (Ho + 30 + 2 * s) 1)) (A + 14 + 2 * s) 2 ((nb_cpy M ((Ho + 30 + 2 * s) + 1) 0 ((A + 14 + 2 * s) + 1) 0 2).1 (Ho + 30 + 2 * s) 2)) (A + 14 + 2 * s) 3 ((nb_cpy M ((Ho + 30 + 2 * s) + 1) 0 ((A + 14 + 2 * s) + 1) 0 2).1 (Ho + 30 + 2 * s) 3)) (A + 14 + 2 * s) 4 ((nb_cpy M ((Ho + 30 + 2 * s) + 1) 0 ((A + 14 + 2 * s) + 1) 0 2).1 (Ho + 30 + 2 * s) 4)) := W11.wr (fun w => (nb_nsv (A := A) (i := s) hA (by omega) (by omega) (by omega)))
  refine nb_Gr ?_
  have E14 : nb_rd (nb_wr (nb_wr (nb_wr (nb_wr (nb_cpy M ((Ho + 30 + 2 * s) + 1) 0 ((A + 14 + 2 * s) + 1) 0 2) (A + 14 + 2 * s) 1 ((nb_cpy M ((Ho + 30 + 2 * s) + 1) 0 ((A + 14 + 2 * s) + 1) 0 2).1 (Ho + 30 + 2 * s) 1)) (A + 14 + 2 * s) 2 ((nb_cpy M ((Ho + 30 + 2 * s) + 1) 0 ((A + 14 + 2 * s) + 1) 0 2).1 (Ho + 30 + 2 * s) 2)) (A + 14 + 2 * s) 3 ((nb_cpy M ((Ho + 30 + 2 * s) + 1) 0 ((A + 14 + 2 * s) + 1) 0 2).1 (Ho + 30 + 2 * s) 3)) (A + 14 + 2 * s) 4 ((nb_cpy M ((Ho + 30 + 2 * s) + 1) 0 ((A + 14 + 2 * s) + 1) 0 2).1 (Ho + 30 + 2 * s) 4)) (Ho + 30 + 2 * s) 5 = (nb_cpy M ((Ho + 30 + 2 * s) + 1) 0 ((A + 14 + 2 * s) + 1) 0 2).1 (Ho + 30 + 2 * s) 5 := nb_rdw (Or.inr (by decide)) (nb_rdw (Or.inr (by decide)) (nb_rdw (Or.inr (by decide)) (nb_rdw (Or.inr (by decide)) (nb_rd_1 _ _ _))))
  refine nb_Wg (q_sv_take_5 _ _ _ (by omega) (by omega)) ?_
  simp only [E14]
  clear E14
  have W15 : nb_Lay (nb_wr (nb_wr (nb_wr (nb_wr (nb_wr (nb_cpy M ((Ho + 30 + 2 * s) + 1) 0 ((A + 14 + 2 * s) + 1) 0 2) (A + 14 + 2 * s) 1 ((nb_cpy M ((Ho + 30 + 2 * s) + 1) 0 ((A + 14 + 2 * s) + 1) 0 2).1 (Ho + 30 + 2 * s) 1)) (A + 14 + 2 * s) 2 ((nb_cpy M ((Ho + 30 + 2 * s) + 1) 0 ((A + 14 + 2 * s) + 1) 0 2).1 (Ho + 30 + 2 * s) 2)) (A + 14 + 2 * s) 3 ((nb_cpy M ((Ho + 30 + 2 * s) + 1) 0 ((A + 14 + 2 * s) + 1) 0 2).1 (Ho + 30 + 2 * s) 3)) (A + 14 + 2 * s) 4 ((nb_cpy M ((Ho + 30 + 2 * s) + 1) 0 ((A + 14 + 2 * s) + 1) 0 2).1 (Ho + 30 + 2 * s) 4)) (A + 14 + 2 * s) 5 ((nb_cpy M ((Ho + 30 + 2 * s) + 1) 0 ((A + 14 + 2 * s) + 1) 0 2).1 (Ho + 30 + 2 * s) 5)) := W13.wr (fun w => (nb_nsv (A := A) (i := s) hA (by omega) (by omega) (by omega)))
  refine nb_Gr ?_
  have E16 : nb_rd (nb_wr (nb_wr (nb_wr (nb_wr (nb_wr (nb_cpy M ((Ho + 30 + 2 * s) + 1) 0 ((A + 14 + 2 * s) + 1) 0 2) (A + 14 + 2 * s) 1 ((nb_cpy M ((Ho + 30 + 2 * s) + 1) 0 ((A + 14 + 2 * s) + 1) 0 2).1 (Ho + 30 + 2 * s) 1)) (A + 14 + 2 * s) 2 ((nb_cpy M ((Ho + 30 + 2 * s) + 1) 0 ((A + 14 + 2 * s) + 1) 0 2).1 (Ho + 30 + 2 * s) 2)) (A + 14 + 2 * s) 3 ((nb_cpy M ((Ho + 30 + 2 * s) + 1) 0 ((A + 14 + 2 * s) + 1) 0 2).1 (Ho + 30 + 2 * s) 3)) (A + 14 + 2 * s) 4 ((nb_cpy M ((Ho + 30 + 2 * s) + 1) 0 ((A + 14 + 2 * s) + 1) 0 2).1 (Ho + 30 + 2 * s) 4)) (A + 14 + 2 * s) 5 ((nb_cpy M ((Ho + 30 + 2 * s) + 1) 0 ((A + 14 + 2 * s) + 1) 0 2).1 (Ho + 30 + 2 * s) 5)) (Ho + 30 + 2 * s) 6 = (nb_cpy M ((Ho + 30 + 2 * s) + 1) 0 ((A + 14 + 2 * s) + 1) 0 2).1 (Ho + 30 + 2 * s) 6 := nb_rdw (Or.inr (by decide)) (nb_rdw (Or.inr (by decide)) (nb_rdw (Or.inr (by decide)) (nb_rdw (Or.inr (by decide)) (nb_rdw (Or.inr (by decide)) (nb_rd_1 _ _ _)))))
  refine nb_Wg (q_sv_take_6 _ _ _ (by omega) (by omega)) ?_
  simp only [E16]
  clear E16
  have W17 : nb_Lay (nb_wr (nb_wr (nb_wr (nb_wr (nb_wr (nb_wr (nb_cpy M ((Ho + 30 + 2 * s) + 1) 0 ((A + 14 + 2 * s) + 1) 0 2) (A + 14 + 2 * s) 1 ((nb_cpy M ((Ho + 30 + 2 * s) + 1) 0 ((A + 14 + 2 * s) + 1) 0 2).1 (Ho + 30 + 2 * s) 1)) (A + 14 + 2 * s) 2 ((nb_cpy M ((Ho + 30 + 2 * s) + 1) 0 ((A + 14 + 2 * s) + 1) 0 2).1 (Ho + 30 + 2 * s) 2)) (A + 14 + 2 * s) 3 ((nb_cpy M ((Ho + 30 + 2 * s) + 1) 0 ((A + 14 + 2 * s) + 1) 0 2).1 (Ho + 30 + 2 * s) 3)) (A + 14 + 2 * s) 4 ((nb_cpy M ((Ho + 30 + 2 * s) + 1) 0 ((A + 14 + 2 * s) + 1) 0 2).1 (Ho + 30 + 2 * s) 4)) (A + 14 + 2 * s) 5 ((nb_cpy M ((Ho + 30 + 2 * s) + 1) 0 ((A + 14 + 2 * s) + 1) 0 2).1 (Ho + 30 + 2 * s) 5)) (A + 14 + 2 * s) 6 ((nb_cpy M ((Ho + 30 + 2 * s) + 1) 0 ((A + 14 + 2 * s) + 1) 0 2).1 (Ho + 30 + 2 * s) 6)) := W15.wr (fun w => (nb_nsv (A := A) (i := s) hA (by omega) (by omega) (by omega)))
  refine nb_Gr ?_
  have E18 : nb_rd (nb_wr (nb_wr (nb_wr (nb_wr (nb_wr (nb_wr (nb_cpy M ((Ho + 30 + 2 * s) + 1) 0 ((A + 14 + 2 * s) + 1) 0 2) (A + 14 + 2 * s) 1 ((nb_cpy M ((Ho + 30 + 2 * s) + 1) 0 ((A + 14 + 2 * s) + 1) 0 2).1 (Ho + 30 + 2 * s) 1)) (A + 14 + 2 * s) 2 ((nb_cpy M ((Ho + 30 + 2 * s) + 1) 0 ((A + 14 + 2 * s) + 1) 0 2).1 (Ho + 30 + 2 * s) 2)) (A + 14 + 2 * s) 3 ((nb_cpy M ((Ho + 30 + 2 * s) + 1) 0 ((A + 14 + 2 * s) + 1) 0 2).1 (Ho + 30 + 2 * s) 3)) (A + 14 + 2 * s) 4 ((nb_cpy M ((Ho + 30 + 2 * s) + 1) 0 ((A + 14 + 2 * s) + 1) 0 2).1 (Ho + 30 + 2 * s) 4)) (A + 14 + 2 * s) 5 ((nb_cpy M ((Ho + 30 + 2 * s) + 1) 0 ((A + 14 + 2 * s) + 1) 0 2).1 (Ho + 30 + 2 * s) 5)) (A + 14 + 2 * s) 6 ((nb_cpy M ((Ho + 30 + 2 * s) + 1) 0 ((A + 14 + 2 * s) + 1) 0 2).1 (Ho + 30 + 2 * s) 6)) (Ho + 30 + 2 * s) 7 = (nb_cpy M ((Ho + 30 + 2 * s) + 1) 0 ((A + 14 + 2 * s) + 1) 0 2).1 (Ho + 30 + 2 * s) 7 := nb_rdw (Or.inr (by decide)) (nb_rdw (Or.inr (by decide)) (nb_rdw (Or.inr (by decide)) (nb_rdw (Or.inr (by decide)) (nb_rdw (Or.inr (by decide)) (nb_rdw (Or.inr (by decide)) (nb_rd_1 _ _ _))))))
  refine nb_Wg (q_sv_take_7 _ _ _ (by omega) (by omega)) ?_
  simp only [E18]
  clear E18
  have W19 : nb_Lay (nb_wr (nb_wr (nb_wr (nb_wr (nb_wr (nb_wr (nb_wr (nb_cpy M ((Ho + 30 + 2 * s) + 1) 0 ((A + 14 + 2 * s) + 1) 0 2) (A + 14 + 2 * s) 1 ((nb_cpy M ((Ho + 30 + 2 * s) + 1) 0 ((A + 14 + 2 * s) + 1) 0 2).1 (Ho + 30 + 2 * s) 1)) (A + 14 + 2 * s) 2 ((nb_cpy M ((Ho + 30 + 2 * s) + 1) 0 ((A + 14 + 2 * s) + 1) 0 2).1 (Ho + 30 + 2 * s) 2)) (A + 14 + 2 * s) 3 ((nb_cpy M ((Ho + 30 + 2 * s) + 1) 0 ((A + 14 + 2 * s) + 1) 0 2).1 (Ho + 30 + 2 * s) 3)) (A + 14 + 2 * s) 4 ((nb_cpy M ((Ho + 30 + 2 * s) + 1) 0 ((A + 14 + 2 * s) + 1) 0 2).1 (Ho + 30 + 2 * s) 4)) (A + 14 + 2 * s) 5 ((nb_cpy M ((Ho + 30 + 2 * s) + 1) 0 ((A + 14 + 2 * s) + 1) 0 2).1 (Ho + 30 + 2 * s) 5)) (A + 14 + 2 * s) 6 ((nb_cpy M ((Ho + 30 + 2 * s) + 1) 0 ((A + 14 + 2 * s) + 1) 0 2).1 (Ho + 30 + 2 * s) 6)) (A + 14 + 2 * s) 7 ((nb_cpy M ((Ho + 30 + 2 * s) + 1) 0 ((A + 14 + 2 * s) + 1) 0 2).1 (Ho + 30 + 2 * s) 7)) := W17.wr (fun w => (nb_nsv (A := A) (i := s) hA (by omega) (by omega) (by omega)))
  refine nb_Gr ?_
  refine nb_Wg (q_sv_take_8 _ _ _) ?_
  refine nb_Gs ?_
  exact nb_Hu H

theorem w_sc_take_0 {A B : Int} {v2 : nb_V} {M : nb_M} {Q : List nb_V → nb_M → Prop} (W : nb_Lay M) (hA : nb_sc A) (hB : nb_sc B) (hAB : A ≠ B) (H : nb_W 255 7 [(15, A), (15, B), (0, 0)] [] (nb_wr (nb_wr (nb_wr (nb_wr (nb_wr (nb_wr M A 3 (M.1 B 3)) A 4 (M.1 B 4)) A 5 (M.1 B 5)) A 6 (M.1 B 6)) A 7 (M.1 B 7)) A 8 (M.1 B 8)) Q) :
    nb_W 255 0 [(15, A), (15, B), v2] [] M Q := by
  replace H := nb_Hw H
  have uhA := hA
  unfold nb_sc at uhA
  have uhB := hB
  unfold nb_sc at uhB
  have E1 : nb_rd M B 3 = M.1 B 3 := nb_rd_1 _ _ _
  refine nb_Wg (q_sc_take_0 _ _ _ _ (by omega) (by omega)) ?_
  simp only [E1]
  clear E1
  have W2 : nb_Lay (nb_wr M A 3 (M.1 B 3)) := W.wr (fun w => (nb_nss (A := A) hA (by omega)))
  refine nb_Gr ?_
  have E3 : nb_rd (nb_wr M A 3 (M.1 B 3)) B 4 = M.1 B 4 := nb_rdw (Or.inr (by decide)) (nb_rd_1 _ _ _)
  refine nb_Wg (q_sc_take_1 _ _ _ _ (by omega) (by omega)) ?_
  simp only [E3]
  clear E3
  have W4 : nb_Lay (nb_wr (nb_wr M A 3 (M.1 B 3)) A 4 (M.1 B 4)) := W2.wr (fun w => (nb_nss (A := A) hA (by omega)))
  refine nb_Gr ?_
  have E5 : nb_rd (nb_wr (nb_wr M A 3 (M.1 B 3)) A 4 (M.1 B 4)) B 5 = M.1 B 5 := nb_rdw (Or.inr (by decide)) (nb_rdw (Or.inr (by decide)) (nb_rd_1 _ _ _))
  refine nb_Wg (q_sc_take_2 _ _ _ _ (by omega) (by omega)) ?_
  simp only [E5]
  clear E5
  have W6 : nb_Lay (nb_wr (nb_wr (nb_wr M A 3 (M.1 B 3)) A 4 (M.1 B 4)) A 5 (M.1 B 5)) := W4.wr (fun w => (nb_nss (A := A) hA (by omega)))
  refine nb_Gr ?_
  have E7 : nb_rd (nb_wr (nb_wr (nb_wr M A 3 (M.1 B 3)) A 4 (M.1 B 4)) A 5 (M.1 B 5)) B 6 = M.1 B 6 := nb_rdw (Or.inr (by decide)) (nb_rdw (Or.inr (by decide)) (nb_rdw (Or.inr (by decide)) (nb_rd_1 _ _ _)))
  refine nb_Wg (q_sc_take_3 _ _ _ _ (by omega) (by omega)) ?_
  simp only [E7]
  clear E7
  have W8 : nb_Lay (nb_wr (nb_wr (nb_wr (nb_wr M A 3 (M.1 B 3)) A 4 (M.1 B 4)) A 5 (M.1 B 5)) A 6 (M.1 B 6)) := W6.wr (fun w => (nb_nss (A := A) hA (by omega)))
  refine nb_Gr ?_
  have E9 : nb_rd (nb_wr (nb_wr (nb_wr (nb_wr M A 3 (M.1 B 3)) A 4 (M.1 B 4)) A 5 (M.1 B 5)) A 6 (M.1 B 6)) B 7 = M.1 B 7 := nb_rdw (Or.inr (by decide)) (nb_rdw (Or.inr (by decide)) (nb_rdw (Or.inr (by decide)) (nb_rdw (Or.inr (by decide)) (nb_rd_1 _ _ _))))
  refine nb_Wg (q_sc_take_4 _ _ _ _ (by omega) (by omega)) ?_
  simp only [E9]
  clear E9
  have W10 : nb_Lay (nb_wr (nb_wr (nb_wr (nb_wr (nb_wr M A 3 (M.1 B 3)) A 4 (M.1 B 4)) A 5 (M.1 B 5)) A 6 (M.1 B 6)) A 7 (M.1 B 7)) := W8.wr (fun w => (nb_nss (A := A) hA (by omega)))
  refine nb_Gr ?_
  have E11 : nb_rd (nb_wr (nb_wr (nb_wr (nb_wr (nb_wr M A 3 (M.1 B 3)) A 4 (M.1 B 4)) A 5 (M.1 B 5)) A 6 (M.1 B 6)) A 7 (M.1 B 7)) B 8 = M.1 B 8 := nb_rdw (Or.inr (by decide)) (nb_rdw (Or.inr (by decide)) (nb_rdw (Or.inr (by decide)) (nb_rdw (Or.inr (by decide)) (nb_rdw (Or.inr (by decide)) (nb_rd_1 _ _ _)))))
  refine nb_Wg (q_sc_take_5 _ _ _ _ (by omega) (by omega)) ?_
  simp only [E11]
  clear E11
  have W12 : nb_Lay (nb_wr (nb_wr (nb_wr (nb_wr (nb_wr (nb_wr M A 3 (M.1 B 3)) A 4 (M.1 B 4)) A 5 (M.1 B 5)) A 6 (M.1 B 6)) A 7 (M.1 B 7)) A 8 (M.1 B 8)) := W10.wr (fun w => (nb_nss (A := A) hA (by omega)))
  refine nb_Gr ?_
  refine nb_Wg (q_sc_take_6 _ _ _ _) ?_
  refine nb_Gr ?_
  exact nb_Hu H

theorem w_sc_take_7 {A B l2 : Int} {M : nb_M} {Q : List nb_V → nb_M → Prop} (W : nb_Lay M) (hA : nb_sc A) (hB : nb_sc B) (hAB : A ≠ B) (b0_ : 0 ≤ l2 ∧ l2 ≤ 10) (H : 0 ≤ M.1 A 4 ∧ M.1 A 4 ≤ 10 ∧ (l2 < M.1 A 4 → nb_W 215 0 [(11, A + 4 + l2), (11, B + 4 + l2)] [] M (fun r M9 => r = [] ∧ nb_Lay M9 ∧ nb_W 255 7 [(15, A), (15, B), (0, l2 + 1)] [] M9 Q)) ∧ (M.1 A 4 ≤ l2 → nb_W 255 11 [(15, A), (15, B), (0, 0)] [] M Q)) :
    nb_W 255 7 [(15, A), (15, B), (0, l2)] [] M Q := by
  replace H := nb_Hw H
  have uhA := hA
  unfold nb_sc at uhA
  have uhB := hB
  unfold nb_sc at uhB
  obtain ⟨p0_, p1_, H⟩ := H
  replace H := nb_Hw H
  have E1 : nb_rd M A 4 = M.1 A 4 := nb_rd_1 _ _ _
  refine nb_Wg (q_sc_take_7 _ _ _ _ (by omega)) ?_
  simp only [E1]
  clear E1
  refine nb_Gi (fun c12 => ?_) (fun c12 => ?_)
  · have H := nb_Hw ((nb_Hu H).1 c12)
    refine nb_Gr ?_
    have E2 : nb_rd M A 0 = A + 1 := W.s0 (A := A) hA
    have N3 : nb_ln M (A + 1) = 10 := W.sn1 (A := A) hA
    have E4 : nb_rd M (A + 1) l2 = A + 4 + l2 := W.sg (A := A) (i := l2) hA (by omega) (by omega)
    have E5 : nb_rd M B 0 = B + 1 := W.s0 (A := B) hB
    have N6 : nb_ln M (B + 1) = 10 := W.sn1 (A := B) hB
    have E7 : nb_rd M (B + 1) l2 = B + 4 + l2 := W.sg (A := B) (i := l2) hB (by omega) (by omega)
    refine nb_Wg (q_sc_take_8 _ _ _ _ (by omega) (by rw [E2]; first | done | omega) (by omega) (by rw [E2, N3]; first | done | omega) (by omega) (by rw [E5]; first | done | omega) (by rw [E5, N6]; first | done | omega) (by rw [E2, E4]; first | done | omega)) ?_
    simp only [E2, E4, E5, E7]
    clear E2 N3 E4 E5 N6 E7
    refine nb_Gb ?_
    refine nb_W.imp (nb_Hu H) (fun r M9 H => ?_)
    obtain ⟨rfl, W10, H⟩ := H
    replace H := nb_Hw H
    show nb_W 255 9 [(15, A), (15, B), (0, l2)] [] M9 _
    have E11 : nb_add l2 1 = l2 + 1 := nb_add_eq (by omega) (by omega)
    refine nb_Wg (q_sc_take_9 _ _ _ _) ?_
    simp only [E11]
    clear E11
    refine nb_Gr ?_
    exact nb_Hu H
  · have H := nb_Hw ((nb_Hu H).2 (by omega))
    have c12 : M.1 A 4 ≤ l2 := by omega
    refine nb_Gr ?_
    refine nb_Wg (q_sc_take_10 _ _ _ _) ?_
    refine nb_Gr ?_
    exact nb_Hu H

theorem w_sc_take_11 {A B l2 : Int} {M : nb_M} {Q : List nb_V → nb_M → Prop} (W : nb_Lay M) (hA : nb_sc A) (hB : nb_sc B) (hAB : A ≠ B) (b0_ : 0 ≤ l2 ∧ l2 ≤ 4) (H : 0 ≤ M.1 A 5 ∧ M.1 A 5 ≤ 4 ∧ (l2 < M.1 A 5 → nb_W 273 0 [(16, A + 14 + 2 * l2), (16, B + 14 + 2 * l2)] [] M (fun r M9 => r = [] ∧ nb_Lay M9 ∧ nb_W 255 11 [(15, A), (15, B), (0, l2 + 1)] [] M9 Q)) ∧ (M.1 A 5 ≤ l2 → B + 3 ≠ A + 3 ∧ Q [] (nb_cpy M (B + 3) 0 (A + 3) 0 10))) :
    nb_W 255 11 [(15, A), (15, B), (0, l2)] [] M Q := by
  replace H := nb_Hw H
  have uhA := hA
  unfold nb_sc at uhA
  have uhB := hB
  unfold nb_sc at uhB
  obtain ⟨p0_, p1_, H⟩ := H
  replace H := nb_Hw H
  have E1 : nb_rd M A 5 = M.1 A 5 := nb_rd_1 _ _ _
  refine nb_Wg (q_sc_take_11 _ _ _ _ (by omega)) ?_
  simp only [E1]
  clear E1
  refine nb_Gi (fun c17 => ?_) (fun c17 => ?_)
  · have H := nb_Hw ((nb_Hu H).1 c17)
    refine nb_Gr ?_
    have E2 : nb_rd M A 1 = A + 2 := W.s1 (A := A) hA
    have N3 : nb_ln M (A + 2) = 4 := W.sn2 (A := A) hA
    have E4 : nb_rd M (A + 2) l2 = A + 14 + 2 * l2 := W.sv (A := A) (i := l2) hA (by omega) (by omega)
    have E5 : nb_rd M B 1 = B + 2 := W.s1 (A := B) hB
    have N6 : nb_ln M (B + 2) = 4 := W.sn2 (A := B) hB
    have E7 : nb_rd M (B + 2) l2 = B + 14 + 2 * l2 := W.sv (A := B) (i := l2) hB (by omega) (by omega)
    refine nb_Wg (q_sc_take_12 _ _ _ _ (by omega) (by rw [E2]; first | done | omega) (by omega) (by rw [E2, N3]; first | done | omega) (by omega) (by rw [E5]; first | done | omega) (by rw [E5, N6]; first | done | omega) (by rw [E2, E4]; first | done | omega)) ?_
    simp only [E2, E4, E5, E7]
    clear E2 N3 E4 E5 N6 E7
    refine nb_Gb ?_
    refine nb_W.imp (nb_Hu H) (fun r M9 H => ?_)
    obtain ⟨rfl, W10, H⟩ := H
    replace H := nb_Hw H
    show nb_W 255 13 [(15, A), (15, B), (0, l2)] [] M9 _
    have E11 : nb_add l2 1 = l2 + 1 := nb_add_eq (by omega) (by omega)
    refine nb_Wg (q_sc_take_13 _ _ _ _) ?_
    simp only [E11]
    clear E11
    refine nb_Gr ?_
    exact nb_Hu H
  · have H := nb_Hw ((nb_Hu H).2 (by omega))
    have c17 : M.1 A 5 ≤ l2 := by omega
    refine nb_Gr ?_
    obtain ⟨p0_, H⟩ := H
    replace H := nb_Hw H
    have E12 : nb_rd M B 2 = B + 3 := W.s2 (A := B) hB
    have E13 : nb_rd M A 2 = A + 3 := W.s2 (A := A) hA
    have N14 : nb_ln M (B + 3) = 10 := W.sn3 (A := B) hB
    have N15 : nb_ln M (A + 3) = 10 := W.sn3 (A := A) hA
    refine nb_Wg (q_sc_take_14 _ _ _ _ (by omega) (by omega)) ?_
    simp only [E12, E13]
    rw [if_pos (by rw [N14, N15]; omega)]
    have W16 : nb_Lay (nb_cpy M (B + 3) 0 (A + 3) 0 10) := W.cpy (fun j w => (nb_nsr (A := A) hA))
    refine nb_Gp ?_
    show nb_W 255 15 [(15, A), (15, B), (0, l2)] [] (nb_cpy M (B + 3) 0 (A + 3) 0 10) _
    refine nb_Wg (q_sc_take_15 _ _ _ _) ?_
    refine nb_Gs ?_
    exact nb_Hu H

theorem w_sc_open_0 {A Ho : Int} {v2 : nb_V} {M : nb_M} {Q : List nb_V → nb_M → Prop} (W : nb_Lay M) (hA : nb_sc A) (hHo : nb_hs Ho) (H : nb_W 254 7 [(15, A), (12, Ho), (0, 0)] [] (nb_wr (nb_wr (nb_wr (nb_wr (nb_wr (nb_wr M A 3 Ho) A 4 (M.1 Ho 13)) A 5 (M.1 Ho 12)) A 6 0) A 7 0) A 8 (M.1 Ho 10)) Q) :
    nb_W 254 0 [(15, A), (12, Ho), v2] [] M Q := by
  replace H := nb_Hw H
  have uhA := hA
  unfold nb_sc at uhA
  have uhHo := hHo
  unfold nb_hs at uhHo
  refine nb_Wg (q_sc_open_0 _ _ _ _ (by omega)) ?_
  have W1 : nb_Lay (nb_wr M A 3 Ho) := W.wr (fun w => (nb_nss (A := A) hA (by omega)))
  refine nb_Gr ?_
  have E2 : nb_rd (nb_wr M A 3 Ho) Ho 13 = M.1 Ho 13 := nb_rdw (Or.inr (by decide)) (nb_rd_1 _ _ _)
  refine nb_Wg (q_sc_open_1 _ _ _ _ (by omega) (by omega)) ?_
  simp only [E2]
  clear E2
  have W3 : nb_Lay (nb_wr (nb_wr M A 3 Ho) A 4 (M.1 Ho 13)) := W1.wr (fun w => (nb_nss (A := A) hA (by omega)))
  refine nb_Gr ?_
  have E4 : nb_rd (nb_wr (nb_wr M A 3 Ho) A 4 (M.1 Ho 13)) Ho 12 = M.1 Ho 12 := nb_rdw (Or.inr (by decide)) (nb_rdw (Or.inr (by decide)) (nb_rd_1 _ _ _))
  refine nb_Wg (q_sc_open_2 _ _ _ _ (by omega) (by omega)) ?_
  simp only [E4]
  clear E4
  have W5 : nb_Lay (nb_wr (nb_wr (nb_wr M A 3 Ho) A 4 (M.1 Ho 13)) A 5 (M.1 Ho 12)) := W3.wr (fun w => (nb_nss (A := A) hA (by omega)))
  refine nb_Gr ?_
  refine nb_Wg (q_sc_open_3 _ _ _ _ (by omega)) ?_
  have W6 : nb_Lay (nb_wr (nb_wr (nb_wr (nb_wr M A 3 Ho) A 4 (M.1 Ho 13)) A 5 (M.1 Ho 12)) A 6 0) := W5.wr (fun w => (nb_nss (A := A) hA (by omega)))
  refine nb_Gr ?_
  refine nb_Wg (q_sc_open_4 _ _ _ _ (by omega)) ?_
  have W7 : nb_Lay (nb_wr (nb_wr (nb_wr (nb_wr (nb_wr M A 3 Ho) A 4 (M.1 Ho 13)) A 5 (M.1 Ho 12)) A 6 0) A 7 0) := W6.wr (fun w => (nb_nss (A := A) hA (by omega)))
  refine nb_Gr ?_
  have E8 : nb_rd (nb_wr (nb_wr (nb_wr (nb_wr (nb_wr M A 3 Ho) A 4 (M.1 Ho 13)) A 5 (M.1 Ho 12)) A 6 0) A 7 0) Ho 10 = M.1 Ho 10 := nb_rdw (Or.inr (by decide)) (nb_rdw (Or.inr (by decide)) (nb_rdw (Or.inr (by decide)) (nb_rdw (Or.inr (by decide)) (nb_rdw (Or.inr (by decide)) (nb_rd_1 _ _ _)))))
  refine nb_Wg (q_sc_open_5 _ _ _ _ (by omega) (by omega)) ?_
  simp only [E8]
  clear E8
  have W9 : nb_Lay (nb_wr (nb_wr (nb_wr (nb_wr (nb_wr (nb_wr M A 3 Ho) A 4 (M.1 Ho 13)) A 5 (M.1 Ho 12)) A 6 0) A 7 0) A 8 (M.1 Ho 10)) := W7.wr (fun w => (nb_nss (A := A) hA (by omega)))
  refine nb_Gr ?_
  refine nb_Wg (q_sc_open_6 _ _ _ _) ?_
  refine nb_Gr ?_
  exact nb_Hu H

theorem w_sc_open_7 {A Ho l2 : Int} {M : nb_M} {Q : List nb_V → nb_M → Prop} (W : nb_Lay M) (hA : nb_sc A) (hHo : nb_hs Ho) (b0_ : 0 ≤ l2 ∧ l2 ≤ 10) (H : 0 ≤ M.1 A 4 ∧ M.1 A 4 ≤ 10 ∧ (l2 < M.1 A 4 → nb_W 215 0 [(11, A + 4 + l2), (11, Ho + 20 + l2)] [] M (fun r M9 => r = [] ∧ nb_Lay M9 ∧ nb_W 254 7 [(15, A), (12, Ho), (0, l2 + 1)] [] M9 Q)) ∧ (M.1 A 4 ≤ l2 → nb_W 254 11 [(15, A), (12, Ho), (0, 0)] [] M Q)) :
    nb_W 254 7 [(15, A), (12, Ho), (0, l2)] [] M Q := by
  replace H := nb_Hw H
  have uhA := hA
  unfold nb_sc at uhA
  have uhHo := hHo
  unfold nb_hs at uhHo
  obtain ⟨p0_, p1_, H⟩ := H
  replace H := nb_Hw H
  have E1 : nb_rd M A 4 = M.1 A 4 := nb_rd_1 _ _ _
  refine nb_Wg (q_sc_open_7 _ _ _ _ (by omega)) ?_
  simp only [E1]
  clear E1
  refine nb_Gi (fun c12 => ?_) (fun c12 => ?_)
  · have H := nb_Hw ((nb_Hu H).1 c12)
    refine nb_Gr ?_
    have E2 : nb_rd M A 0 = A + 1 := W.s0 (A := A) hA
    have N3 : nb_ln M (A + 1) = 10 := W.sn1 (A := A) hA
    have E4 : nb_rd M (A + 1) l2 = A + 4 + l2 := W.sg (A := A) (i := l2) hA (by omega) (by omega)
    have E5 : nb_rd M Ho 4 = Ho + 15 := W.h4 (H := Ho) hHo
    have N6 : nb_ln M (Ho + 15) = 10 := W.hn15 (H := Ho) hHo
    have E7 : nb_rd M (Ho + 15) l2 = Ho + 20 + l2 := W.hg (H := Ho) (i := l2) hHo (by omega) (by omega)
    refine nb_Wg (q_sc_open_8 _ _ _ _ (by omega) (by rw [E2]; first | done | omega) (by omega) (by rw [E2, N3]; first | done | omega) (by omega) (by rw [E5]; first | done | omega) (by rw [E5, N6]; first | done | omega) (by rw [E2, E4]; first | done | omega)) ?_
    simp only [E2, E4, E5, E7]
    clear E2 N3 E4 E5 N6 E7
    refine nb_Gb ?_
    refine nb_W.imp (nb_Hu H) (fun r M9 H => ?_)
    obtain ⟨rfl, W10, H⟩ := H
    replace H := nb_Hw H
    show nb_W 254 9 [(15, A), (12, Ho), (0, l2)] [] M9 _
    have E11 : nb_add l2 1 = l2 + 1 := nb_add_eq (by omega) (by omega)
    refine nb_Wg (q_sc_open_9 _ _ _ _) ?_
    simp only [E11]
    clear E11
    refine nb_Gr ?_
    exact nb_Hu H
  · have H := nb_Hw ((nb_Hu H).2 (by omega))
    have c12 : M.1 A 4 ≤ l2 := by omega
    refine nb_Gr ?_
    refine nb_Wg (q_sc_open_10 _ _ _ _) ?_
    refine nb_Gr ?_
    exact nb_Hu H

theorem w_sc_open_11 {A Ho l2 : Int} {M : nb_M} {Q : List nb_V → nb_M → Prop} (W : nb_Lay M) (hA : nb_sc A) (hHo : nb_hs Ho) (b0_ : 0 ≤ l2 ∧ l2 ≤ 3) (H : 0 ≤ M.1 A 5 ∧ M.1 A 5 ≤ 3 ∧ (l2 < M.1 A 5 → nb_W 273 0 [(16, A + 14 + 2 * l2), (16, Ho + 30 + 2 * l2)] [] M (fun r M9 => r = [] ∧ nb_Lay M9 ∧ nb_W 254 11 [(15, A), (12, Ho), (0, l2 + 1)] [] M9 Q)) ∧ (M.1 A 5 ≤ l2 → Q [] M)) :
    nb_W 254 11 [(15, A), (12, Ho), (0, l2)] [] M Q := by
  replace H := nb_Hw H
  have uhA := hA
  unfold nb_sc at uhA
  have uhHo := hHo
  unfold nb_hs at uhHo
  obtain ⟨p0_, p1_, H⟩ := H
  replace H := nb_Hw H
  have E1 : nb_rd M A 5 = M.1 A 5 := nb_rd_1 _ _ _
  refine nb_Wg (q_sc_open_11 _ _ _ _ (by omega)) ?_
  simp only [E1]
  clear E1
  refine nb_Gi (fun c12 => ?_) (fun c12 => ?_)
  · have H := nb_Hw ((nb_Hu H).1 c12)
    refine nb_Gr ?_
    have E2 : nb_rd M A 1 = A + 2 := W.s1 (A := A) hA
    have N3 : nb_ln M (A + 2) = 4 := W.sn2 (A := A) hA
    have E4 : nb_rd M (A + 2) l2 = A + 14 + 2 * l2 := W.sv (A := A) (i := l2) hA (by omega) (by omega)
    have E5 : nb_rd M Ho 5 = Ho + 16 := W.h5 (H := Ho) hHo
    have N6 : nb_ln M (Ho + 16) = 3 := W.hn16 (H := Ho) hHo
    have E7 : nb_rd M (Ho + 16) l2 = Ho + 30 + 2 * l2 := W.hv (H := Ho) (i := l2) hHo (by omega) (by omega)
    refine nb_Wg (q_sc_open_12 _ _ _ _ (by omega) (by rw [E2]; first | done | omega) (by omega) (by rw [E2, N3]; first | done | omega) (by omega) (by rw [E5]; first | done | omega) (by rw [E5, N6]; first | done | omega) (by rw [E2, E4]; first | done | omega)) ?_
    simp only [E2, E4, E5, E7]
    clear E2 N3 E4 E5 N6 E7
    refine nb_Gb ?_
    refine nb_W.imp (nb_Hu H) (fun r M9 H => ?_)
    obtain ⟨rfl, W10, H⟩ := H
    replace H := nb_Hw H
    show nb_W 254 13 [(15, A), (12, Ho), (0, l2)] [] M9 _
    have E11 : nb_add l2 1 = l2 + 1 := nb_add_eq (by omega) (by omega)
    refine nb_Wg (q_sc_open_13 _ _ _ _) ?_
    simp only [E11]
    clear E11
    refine nb_Gr ?_
    exact nb_Hu H
  · have H := nb_Hw ((nb_Hu H).2 (by omega))
    have c12 : M.1 A 5 ≤ l2 := by omega
    refine nb_Gr ?_
    refine nb_Wg (q_sc_open_14 _ _ _ _) ?_
    refine nb_Gs ?_
    exact nb_Hu H
