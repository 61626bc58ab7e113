/-! rules, printed by wip/gen -/
theorem w_h_timeBehind_0 {Ho l1 l2 : Int} {v3 v4 v5 v6 : nb_V} {M : nb_M} {Q : List nb_V → nb_M → Prop} (W : nb_Lay M) (hHo : nb_hs Ho) (H : nb_W 220 1 [(12, Ho), (0, l1), (0, l2), (0, 0), (0, 0), v5, v6] [] M Q) :
    nb_W 220 0 [(12, Ho), (0, l1), (0, l2), v3, v4, v5, v6] [] M Q := by
  replace H := nb_Hw H
  have uhHo := hHo
  unfold nb_hs at uhHo
  refine nb_Wg (q_h_timeBehind_0 _ _ _ _ _ _ _ _) ?_
  refine nb_Gr ?_
  exact nb_Hu H

theorem w_h_timeBehind_1 {Ho l1 l2 l3 l4 : Int} {v5 v6 : nb_V} {M : nb_M} {Q : List nb_V → nb_M → Prop} (W : nb_Lay M) (hHo : nb_hs Ho) (b0_ : (-1) ≤ l1 ∧ l1 ≤ 9) (b1_ : 0 ≤ l2 ∧ l2 ≤ 9) (b2_ : 0 ≤ l4 ∧ l4 ≤ 5) (H : 0 ≤ M.1 Ho 11 ∧ M.1 Ho 11 ≤ 5 ∧ (l4 < M.1 Ho 11 → (0 < M.1 (Ho + 5 + l2) l4 → (l1 < 0 → -2147483648 ≤ M.1 (Ho + 5 + l2) l4 - 1 ∧ M.1 (Ho + 5 + l2) l4 - 1 ≤ 2147483647 ∧ -2147483648 ≤ (M.1 (Ho + 5 + l2) l4 - 1) * (M.1 (Ho + 2) l4) ∧ (M.1 (Ho + 5 + l2) l4 - 1) * (M.1 (Ho + 2) l4) ≤ 2147483647 ∧ -2147483648 ≤ M.1 (Ho + 1) l4 + ((M.1 (Ho + 5 + l2) l4 - 1) * (M.1 (Ho + 2) l4)) ∧ M.1 (Ho + 1) l4 + ((M.1 (Ho + 5 + l2) l4 - 1) * (M.1 (Ho + 2) l4)) ≤ 2147483647 ∧ -2147483648 ≤ l3 + (M.1 (Ho + 1) l4 + ((M.1 (Ho + 5 + l2) l4 - 1) * (M.1 (Ho + 2) l4))) ∧ l3 + (M.1 (Ho + 1) l4 + ((M.1 (Ho + 5 + l2) l4 - 1) * (M.1 (Ho + 2) l4))) ≤ 2147483647 ∧ nb_W 220 12 [(12, Ho), (0, l1), (0, l2), (0, l3 + (M.1 (Ho + 1) l4 + ((M.1 (Ho + 5 + l2) l4 - 1) * (M.1 (Ho + 2) l4)))), (0, l4), (0, M.1 (Ho + 5 + l2) l4), (0, 0)] [] M Q) ∧ (0 ≤ l1 → (l1 < M.1 Ho 13 → (0 < M.1 (Ho + 5 + l1) l4 → -2147483648 ≤ M.1 (Ho + 5 + l2) l4 - 1 ∧ M.1 (Ho + 5 + l2) l4 - 1 ≤ 2147483647 ∧ -2147483648 ≤ (M.1 (Ho + 5 + l2) l4 - 1) * (M.1 (Ho + 2) l4) ∧ (M.1 (Ho + 5 + l2) l4 - 1) * (M.1 (Ho + 2) l4) ≤ 2147483647 ∧ -2147483648 ≤ M.1 (Ho + 2) l4 + ((M.1 (Ho + 5 + l2) l4 - 1) * (M.1 (Ho + 2) l4)) ∧ M.1 (Ho + 2) l4 + ((M.1 (Ho + 5 + l2) l4 - 1) * (M.1 (Ho + 2) l4)) ≤ 2147483647 ∧ -2147483648 ≤ l3 + (M.1 (Ho + 2) l4 + ((M.1 (Ho + 5 + l2) l4 - 1) * (M.1 (Ho + 2) l4))) ∧ l3 + (M.1 (Ho + 2) l4 + ((M.1 (Ho + 5 + l2) l4 - 1) * (M.1 (Ho + 2) l4))) ≤ 2147483647 ∧ nb_W 220 12 [(12, Ho), (0, l1), (0, l2), (0, l3 + (M.1 (Ho + 2) l4 + ((M.1 (Ho + 5 + l2) l4 - 1) * (M.1 (Ho + 2) l4)))), (0, l4), (0, M.1 (Ho + 5 + l2) l4), (0, 1)] [] M Q) ∧ (M.1 (Ho + 5 + l1) l4 ≤ 0 → -2147483648 ≤ M.1 (Ho + 5 + l2) l4 - 1 ∧ M.1 (Ho + 5 + l2) l4 - 1 ≤ 2147483647 ∧ -2147483648 ≤ (M.1 (Ho + 5 + l2) l4 - 1) * (M.1 (Ho + 2) l4) ∧ (M.1 (Ho + 5 + l2) l4 - 1) * (M.1 (Ho + 2) l4) ≤ 2147483647 ∧ -2147483648 ≤ M.1 (Ho + 1) l4 + ((M.1 (Ho + 5 + l2) l4 - 1) * (M.1 (Ho + 2) l4)) ∧ M.1 (Ho + 1) l4 + ((M.1 (Ho + 5 + l2) l4 - 1) * (M.1 (Ho + 2) l4)) ≤ 2147483647 ∧ -2147483648 ≤ l3 + (M.1 (Ho + 1) l4 + ((M.1 (Ho + 5 + l2) l4 - 1) * (M.1 (Ho + 2) l4))) ∧ l3 + (M.1 (Ho + 1) l4 + ((M.1 (Ho + 5 + l2) l4 - 1) * (M.1 (Ho + 2) l4))) ≤ 2147483647 ∧ nb_W 220 12 [(12, Ho), (0, l1), (0, l2), (0, l3 + (M.1 (Ho + 1) l4 + ((M.1 (Ho + 5 + l2) l4 - 1) * (M.1 (Ho + 2) l4)))), (0, l4), (0, M.1 (Ho + 5 + l2) l4), (0, 0)] [] M Q)) ∧ (M.1 Ho 13 ≤ l1 → -2147483648 ≤ M.1 (Ho + 5 + l2) l4 - 1 ∧ M.1 (Ho + 5 + l2) l4 - 1 ≤ 2147483647 ∧ -2147483648 ≤ (M.1 (Ho + 5 + l2) l4 - 1) * (M.1 (Ho + 2) l4) ∧ (M.1 (Ho + 5 + l2) l4 - 1) * (M.1 (Ho + 2) l4) ≤ 2147483647 ∧ -2147483648 ≤ M.1 (Ho + 1) l4 + ((M.1 (Ho + 5 + l2) l4 - 1) * (M.1 (Ho + 2) l4)) ∧ M.1 (Ho + 1) l4 + ((M.1 (Ho + 5 + l2) l4 - 1) * (M.1 (Ho + 2) l4)) ≤ 2147483647 ∧ -2147483648 ≤ l3 + (M.1 (Ho + 1) l4 + ((M.1 (Ho + 5 + l2) l4 - 1) * (M.1 (Ho + 2) l4))) ∧ l3 + (M.1 (Ho + 1) l4 + ((M.1 (Ho + 5 + l2) l4 - 1) * (M.1 (Ho + 2) l4))) ≤ 2147483647 ∧ nb_W 220 12 [(12, Ho), (0, l1), (0, l2), (0, l3 + (M.1 (Ho + 1) l4 + ((M.1 (Ho + 5 + l2) l4 - 1) * (M.1 (Ho + 2) l4)))), (0, l4), (0, M.1 (Ho + 5 + l2) l4), (0, 0)] [] M Q))) ∧ (M.1 (Ho + 5 + l2) l4 ≤ 0 → nb_W 220 12 [(12, Ho), (0, l1), (0, l2), (0, l3), (0, l4), (0, M.1 (Ho + 5 + l2) l4), v6] [] M Q)) ∧ (M.1 Ho 11 ≤ l4 → Q [(0, l3)] M)) :
    nb_W 220 1 [(12, Ho), (0, l1), (0, l2), (0, l3), (0, l4), v5, v6] [] M Q := by
  replace H := nb_Hw H
  have uhHo := hHo
  unfold nb_hs at uhHo
  obtain ⟨p0_, p1_, H⟩ := H
  replace H := nb_Hw H
  have E1 : nb_rd M Ho 11 = M.1 Ho 11 := nb_rd_1 _ _ _
  refine nb_Wg (q_h_timeBehind_1 _ _ _ _ _ _ _ _ (by omega)) ?_
  simp only [E1]
  clear E1
  refine nb_Gi (fun c57 => ?_) (fun c57 => ?_)
  · have H := nb_Hw ((nb_Hu H).1 c57)
    refine nb_Gr ?_
    have E2 : nb_rd M Ho 3 = Ho + 4 := W.h3 (H := Ho) hHo
    have N3 : nb_ln M (Ho + 4) = 10 := W.hn4 (H := Ho) hHo
    have E4 : nb_rd M (Ho + 4) l2 = Ho + 5 + l2 := W.hl (H := Ho) (i := l2) hHo (by omega) (by omega)
    have N5 : nb_ln M (Ho + 5 + l2) = 5 := W.hnl (H := Ho) (i := l2) hHo (by omega) (by omega)
    have E6 : nb_rd M (Ho + 5 + l2) l4 = M.1 (Ho + 5 + l2) l4 := nb_rd_1 _ _ _
    refine nb_Wg (q_h_timeBehind_2 _ _ _ _ _ _ _ _ (by omega) (by rw [E2]; first | done | omega) (by omega) (by rw [E2, N3]; first | done | omega) (by rw [E2, E4]; first | done | omega) (by omega) (by rw [E2, E4, N5]; first | done | omega)) ?_
    simp only [E2, E4, E6]
    clear E2 N3 E4 N5 E6
    refine nb_Gi (fun c56 => ?_) (fun c56 => ?_)
    · have H := nb_Hw ((nb_Hu H).1 c56)
      refine nb_Gr ?_
      refine nb_Wg (q_h_timeBehind_3 _ _ _ _ _ _ _ _) ?_
      refine nb_Gi (fun c55 => ?_) (fun c55 => ?_)
      · have H := nb_Hw ((nb_Hu H).1 c55)
        refine nb_Gr ?_
        refine nb_Wg (q_h_timeBehind_7 _ _ _ _ _ _ _ _) ?_
        refine nb_Gr ?_
        refine nb_Wg (q_h_timeBehind_8 _ _ _ _ _ _ _ _ _) ?_
        refine nb_Gt (by decide) ?_
        refine nb_Gr ?_
        have E7 : nb_rd M Ho 0 = Ho + 1 := W.h0 (H := Ho) hHo
        have N8 : nb_ln M (Ho + 1) = 5 := W.hn1 (H := Ho) hHo
        have E9 : nb_rd M (Ho + 1) l4 = M.1 (Ho + 1) l4 := nb_rd_1 _ _ _
        refine nb_Wg (q_h_timeBehind_10 _ _ _ _ _ _ _ _ _ (by omega) (by rw [E7]; first | done | omega) (by omega) (by rw [E7, N8]; first | done | omega)) ?_
        simp only [E7, E9]
        clear E7 N8 E9
        refine nb_Gr ?_
        obtain ⟨p0_, p1_, p2_, p3_, p4_, p5_, p6_, p7_, H⟩ := H
        replace H := nb_Hw H
        have E10 : nb_sub (M.1 (Ho + 5 + l2) l4) 1 = M.1 (Ho + 5 + l2) l4 - 1 := nb_sub_eq (by omega) (by omega)
        have E11 : nb_rd M Ho 1 = Ho + 2 := W.h1 (H := Ho) hHo
        have N12 : nb_ln M (Ho + 2) = 5 := W.hn2 (H := Ho) hHo
        have E13 : nb_rd M (Ho + 2) l4 = M.1 (Ho + 2) l4 := nb_rd_1 _ _ _
        have E14 : nb_mul (M.1 (Ho + 5 + l2) l4 - 1) (M.1 (Ho + 2) l4) = (M.1 (Ho + 5 + l2) l4 - 1) * (M.1 (Ho + 2) l4) := (nb_mul_eq (x := M.1 (Ho + 5 + l2) l4 - 1) (y := M.1 (Ho + 2) l4) (by omega) (by omega)).trans (by omega)
        have E15 : nb_add (M.1 (Ho + 1) l4) ((M.1 (Ho + 5 + l2) l4 - 1) * (M.1 (Ho + 2) l4)) = M.1 (Ho + 1) l4 + ((M.1 (Ho + 5 + l2) l4 - 1) * (M.1 (Ho + 2) l4)) := nb_add_eq (by omega) (by omega)
        have E16 : nb_add l3 (M.1 (Ho + 1) l4 + ((M.1 (Ho + 5 + l2) l4 - 1) * (M.1 (Ho + 2) l4))) = l3 + (M.1 (Ho + 1) l4 + ((M.1 (Ho + 5 + l2) l4 - 1) * (M.1 (Ho + 2) l4))) := nb_add_eq (by omega) (by omega)
        refine nb_Wg (q_h_timeBehind_11 _ _ _ _ _ _ _ _ _ _ (by omega) (by rw [E11]; first | done | omega) (by omega) (by rw [E11, N12]; first | done | omega)) ?_
        simp only [E10, E11, E13, E14, E15, E16]
        clear E10 E11 N12 E13 E14 E15 E16
        refine nb_Gr ?_
        exact nb_Hu H
      · have H := nb_Hw ((nb_Hu H).2 (by omega))
        have c55 : 0 ≤ l1 := by omega
        refine nb_Gr ?_
        have E17 : nb_rd M Ho 13 = M.1 Ho 13 := nb_rd_1 _ _ _
        refine nb_Wg (q_h_timeBehind_4 _ _ _ _ _ _ _ _ (by omega)) ?_
        simp only [E17]
        clear E17
        refine nb_Gi (fun c54 => ?_) (fun c54 => ?_)
        · have H := nb_Hw ((nb_Hu H).1 c54)
          refine nb_Gr ?_
          have E18 : nb_rd M Ho 3 = Ho + 4 := W.h3 (H := Ho) hHo
          have N19 : nb_ln M (Ho + 4) = 10 := W.hn4 (H := Ho) hHo
          have E20 : nb_rd M (Ho + 4) l1 = Ho + 5 + l1 := W.hl (H := Ho) (i := l1) hHo (by omega) (by omega)
          have N21 : nb_ln M (Ho + 5 + l1) = 5 := W.hnl (H := Ho) (i := l1) hHo (by omega) (by omega)
          have E22 : nb_rd M (Ho + 5 + l1) l4 = M.1 (Ho + 5 + l1) l4 := nb_rd_1 _ _ _
          refine nb_Wg (q_h_timeBehind_5 _ _ _ _ _ _ _ _ (by omega) (by rw [E18]; first | done | omega) (by omega) (by rw [E18, N19]; first | done | omega) (by rw [E18, E20]; first | done | omega) (by omega) (by rw [E18, E20, N21]; first | done | omega)) ?_
          simp only [E18, E20, E22]
          clear E18 N19 E20 N21 E22
          refine nb_Gi (fun c43 => ?_) (fun c43 => ?_)
          · have H := nb_Hw ((nb_Hu H).1 c43)
            refine nb_Gr ?_
            refine nb_Wg (q_h_timeBehind_6 _ _ _ _ _ _ _ _) ?_
            refine nb_Gr ?_
            refine nb_Wg (q_h_timeBehind_8 _ _ _ _ _ _ _ _ _) ?_
            refine nb_Gf (by decide) ?_
            refine nb_Gr ?_
            have E23 : nb_rd M Ho 1 = Ho + 2 := W.h1 (H := Ho) hHo
            have N24 : nb_ln M (Ho + 2) = 5 := W.hn2 (H := Ho) hHo
            have E25 : nb_rd M (Ho + 2) l4 = M.1 (Ho + 2) l4 := nb_rd_1 _ _ _
            refine nb_Wg (q_h_timeBehind_9 _ _ _ _ _ _ _ _ _ (by omega) (by rw [E23]; first | done | omega) (by omega) (by rw [E23, N24]; first | done | omega)) ?_
            simp only [E23, E25]
            clear E23 N24 E25
            refine nb_Gr ?_
            obtain ⟨p0_, p1_, p2_, p3_, p4_, p5_, p6_, p7_, H⟩ := H
            replace H := nb_Hw H
            have E26 : nb_sub (M.1 (Ho + 5 + l2) l4) 1 = M.1 (Ho + 5 + l2) l4 - 1 := nb_sub_eq (by omega) (by omega)
            have E27 : nb_rd M Ho 1 = Ho + 2 := W.h1 (H := Ho) hHo
            have N28 : nb_ln M (Ho + 2) = 5 := W.hn2 (H := Ho) hHo
            have E29 : nb_rd M (Ho + 2) l4 = M.1 (Ho + 2) l4 := nb_rd_1 _ _ _
            have E30 : nb_mul (M.1 (Ho + 5 + l2) l4 - 1) (M.1 (Ho + 2) l4) = (M.1 (Ho + 5 + l2) l4 - 1) * (M.1 (Ho + 2) l4) := (nb_mul_eq (x := M.1 (Ho + 5 + l2) l4 - 1) (y := M.1 (Ho + 2) l4) (by omega) (by omega)).trans (by omega)
            have E31 : nb_add (M.1 (Ho + 2) l4) ((M.1 (Ho + 5 + l2) l4 - 1) * (M.1 (Ho + 2) l4)) = M.1 (Ho + 2) l4 + ((M.1 (Ho + 5 + l2) l4 - 1) * (M.1 (Ho + 2) l4)) := nb_add_eq (by omega) (by omega)
            have E32 : nb_add l3 (M.1 (Ho + 2) l4 + ((M.1 (Ho + 5 + l2) l4 - 1) * (M.1 (Ho + 2) l4))) = l3 + (M.1 (Ho + 2) l4 + ((M.1 (Ho + 5 + l2) l4 - 1) * (M.1 (Ho + 2) l4))) := nb_add_eq (by omega) (by omega)
            refine nb_Wg (q_h_timeBehind_11 _ _ _ _ _ _ _ _ _ _ (by omega) (by rw [E27]; first | done | omega) (by omega) (by rw [E27, N28]; first | done | omega)) ?_
            simp only [E26, E27, E29, E30, E31, E32]
            clear E26 E27 N28 E29 E30 E31 E32
            refine nb_Gr ?_
            exact nb_Hu H
          · have H := nb_Hw ((nb_Hu H).2 (by omega))
            have c43 : M.1 (Ho + 5 + l1) l4 ≤ 0 := by omega
            refine nb_Gr ?_
            refine nb_Wg (q_h_timeBehind_7 _ _ _ _ _ _ _ _) ?_
            refine nb_Gr ?_
            refine nb_Wg (q_h_timeBehind_8 _ _ _ _ _ _ _ _ _) ?_
            refine nb_Gt (by decide) ?_
            refine nb_Gr ?_
            have E33 : nb_rd M Ho 0 = Ho + 1 := W.h0 (H := Ho) hHo
            have N34 : nb_ln M (Ho + 1) = 5 := W.hn1 (H := Ho) hHo
            have E35 : nb_rd M (Ho + 1) l4 = M.1 (Ho + 1) l4 := nb_rd_1 _ _ _
            refine nb_Wg (q_h_timeBehind_10 _ _ _ _ _ _ _ _ _ (by omega) (by rw [E33]; first | done | omega) (by omega) (by rw [E33, N34]; first | done | omega)) ?_
            simp only [E33, E35]
            clear E33 N34 E35
            refine nb_Gr ?_
            obtain ⟨p0_, p1_, p2_, p3_, p4_, p5_, p6_, p7_, H⟩ := H
            replace H := nb_Hw H
            have E36 : nb_sub (M.1 (Ho + 5 + l2) l4) 1 = M.1 (Ho + 5 + l2) l4 - 1 := nb_sub_eq (by omega) (by omega)
            have E37 : nb_rd M Ho 1 = Ho + 2 := W.h1 (H := Ho) hHo
            have N38 : nb_ln M (Ho + 2) = 5 := W.hn2 (H := Ho) hHo
            have E39 : nb_rd M (Ho + 2) l4 = M.1 (Ho + 2) l4 := nb_rd_1 _ _ _
            have E40 : nb_mul (M.1 (Ho + 5 + l2) l4 - 1) (M.1 (Ho + 2) l4) = (M.1 (Ho + 5 + l2) l4 - 1) * (M.1 (Ho + 2) l4) := (nb_mul_eq (x := M.1 (Ho + 5 + l2) l4 - 1) (y := M.1 (Ho + 2) l4) (by omega) (by omega)).trans (by omega)
            have E41 : nb_add (M.1 (Ho + 1) l4) ((M.1 (Ho + 5 + l2) l4 - 1) * (M.1 (Ho + 2) l4)) = M.1 (Ho + 1) l4 + ((M.1 (Ho + 5 + l2) l4 - 1) * (M.1 (Ho + 2) l4)) := nb_add_eq (by omega) (by omega)
            have E42 : nb_add l3 (M.1 (Ho + 1) l4 + ((M.1 (Ho + 5 + l2) l4 - 1) * (M.1 (Ho + 2) l4))) = l3 + (M.1 (Ho + 1) l4 + ((M.1 (Ho + 5 + l2) l4 - 1) * (M.1 (Ho + 2) l4))) := nb_add_eq (by omega) (by omega)
            refine nb_Wg (q_h_timeBehind_11 _ _ _ _ _ _ _ _ _ _ (by omega) (by rw [E37]; first | done | omega) (by omega) (by rw [E37, N38]; first | done | omega)) ?_
            simp only [E36, E37, E39, E40, E41, E42]
            clear E36 E37 N38 E39 E40 E41 E42
            refine nb_Gr ?_
            exact nb_Hu H
        · have H := nb_Hw ((nb_Hu H).2 (by omega))
          have c54 : M.1 Ho 13 ≤ l1 := by omega
          refine nb_Gr ?_
          refine nb_Wg (q_h_timeBehind_7 _ _ _ _ _ _ _ _) ?_
          refine nb_Gr ?_
          refine nb_Wg (q_h_timeBehind_8 _ _ _ _ _ _ _ _ _) ?_
          refine nb_Gt (by decide) ?_
          refine nb_Gr ?_
          have E44 : nb_rd M Ho 0 = Ho + 1 := W.h0 (H := Ho) hHo
          have N45 : nb_ln M (Ho + 1) = 5 := W.hn1 (H := Ho) hHo
          have E46 : nb_rd M (Ho + 1) l4 = M.1 (Ho + 1) l4 := nb_rd_1 _ _ _
          refine nb_Wg (q_h_timeBehind_10 _ _ _ _ _ _ _ _ _ (by omega) (by rw [E44]; first | done | omega) (by omega) (by rw [E44, N45]; first | done | omega)) ?_
          simp only [E44, E46]
          clear E44 N45 E46
          refine nb_Gr ?_
          obtain ⟨p0_, p1_, p2_, p3_, p4_, p5_, p6_, p7_, H⟩ := H
          replace H := nb_Hw H
          have E47 : nb_sub (M.1 (Ho + 5 + l2) l4) 1 = M.1 (Ho + 5 + l2) l4 - 1 := nb_sub_eq (by omega) (by omega)
          have E48 : nb_rd M Ho 1 = Ho + 2 := W.h1 (H := Ho) hHo
          have N49 : nb_ln M (Ho + 2) = 5 := W.hn2 (H := Ho) hHo
          have E50 : nb_rd M (Ho + 2) l4 = M.1 (Ho + 2) l4 := nb_rd_1 _ _ _
          have E51 : nb_mul (M.1 (Ho + 5 + l2) l4 - 1) (M.1 (Ho + 2) l4) = (M.1 (Ho + 5 + l2) l4 - 1) * (M.1 (Ho + 2) l4) := (nb_mul_eq (x := M.1 (Ho + 5 + l2) l4 - 1) (y := M.1 (Ho + 2) l4) (by omega) (by omega)).trans (by omega)
          have E52 : nb_add (M.1 (Ho + 1) l4) ((M.1 (Ho + 5 + l2) l4 - 1) * (M.1 (Ho + 2) l4)) = M.1 (Ho + 1) l4 + ((M.1 (Ho + 5 + l2) l4 - 1) * (M.1 (Ho + 2) l4)) := nb_add_eq (by omega) (by omega)
          have E53 : nb_add l3 (M.1 (Ho + 1) l4 + ((M.1 (Ho + 5 + l2) l4 - 1) * (M.1 (Ho + 2) l4))) = l3 + (M.1 (Ho + 1) l4 + ((M.1 (Ho + 5 + l2) l4 - 1) * (M.1 (Ho + 2) l4))) := nb_add_eq (by omega) (by omega)
          refine nb_Wg (q_h_timeBehind_11 _ _ _ _ _ _ _ _ _ _ (by omega) (by rw [E48]; first | done | omega) (by omega) (by rw [E48, N49]; first | done | omega)) ?_
          simp only [E47, E48, E50, E51, E52, E53]
          clear E47 E48 N49 E50 E51 E52 E53
          refine nb_Gr ?_
          exact nb_Hu H
    · have H := nb_Hw ((nb_Hu H).2 (by omega))
      have c56 : M.1 (Ho + 5 + l2) l4 ≤ 0 := by omega
      refine nb_Gr ?_
      exact nb_Hu H
  · have H := nb_Hw ((nb_Hu H).2 (by omega))
    have c57 : M.1 Ho 11 ≤ l4 := by omega
    refine nb_Gr ?_
    refine nb_Wg (q_h_timeBehind_13 _ _ _ _ _ _ _ _) ?_
    refine nb_Gs ?_
    exact nb_Hu H

theorem w_h_timeBehind_12 {Ho l1 l2 l3 l4 : Int} {v5 v6 : nb_V} {M : nb_M} {Q : List nb_V → nb_M → Prop} (W : nb_Lay M) (hHo : nb_hs Ho) (b0_ : 0 ≤ l4 ∧ l4 ≤ 5) (H : nb_W 220 1 [(12, Ho), (0, l1), (0, l2), (0, l3), (0, l4 + 1), v5, v6] [] M Q) :
    nb_W 220 12 [(12, Ho), (0, l1), (0, l2), (0, l3), (0, l4), v5, v6] [] M Q := by
  replace H := nb_Hw H
  have uhHo := hHo
  unfold nb_hs at uhHo
  have E1 : nb_add l4 1 = l4 + 1 := nb_add_eq (by omega) (by omega)
  refine nb_Wg (q_h_timeBehind_12 _ _ _ _ _ _ _ _) ?_
  simp only [E1]
  clear E1
  refine nb_Gr ?_
  exact nb_Hu H

theorem w_h_priceOf_0 {Ho l1 : Int} {v2 v3 : nb_V} {M : nb_M} {Q : List nb_V → nb_M → Prop} (W : nb_Lay M) (hHo : nb_hs Ho) (H : nb_W 221 1 [(12, Ho), (0, l1), (0, 0), (0, 0)] [] M Q) :
    nb_W 221 0 [(12, Ho), (0, l1), v2, v3] [] M Q := by
  replace H := nb_Hw H
  have uhHo := hHo
  unfold nb_hs at uhHo
  refine nb_Wg (q_h_priceOf_0 _ _ _ _ _) ?_
  refine nb_Gr ?_
  exact nb_Hu H

theorem w_h_priceOf_1 {Ho l1 l2 l3 : Int} {M : nb_M} {Q : List nb_V → nb_M → Prop} (W : nb_Lay M) (hHo : nb_hs Ho) (b0_ : 0 ≤ l1 ∧ l1 ≤ 9) (b1_ : 0 ≤ l3 ∧ l3 ≤ 5) (H : 0 ≤ M.1 Ho 11 ∧ M.1 Ho 11 ≤ 5 ∧ (l3 < M.1 Ho 11 → -2147483648 ≤ (M.1 (Ho + 5 + l1) l3) * (M.1 (Ho + 3) l3) ∧ (M.1 (Ho + 5 + l1) l3) * (M.1 (Ho + 3) l3) ≤ 2147483647 ∧ -2147483648 ≤ l2 + ((M.1 (Ho + 5 + l1) l3) * (M.1 (Ho + 3) l3)) ∧ l2 + ((M.1 (Ho + 5 + l1) l3) * (M.1 (Ho + 3) l3)) ≤ 2147483647 ∧ nb_W 221 1 [(12, Ho), (0, l1), (0, l2 + ((M.1 (Ho + 5 + l1) l3) * (M.1 (Ho + 3) l3))), (0, l3 + 1)] [] M Q) ∧ (M.1 Ho 11 ≤ l3 → Q [(0, l2)] M)) :
    nb_W 221 1 [(12, Ho), (0, l1), (0, l2), (0, l3)] [] M Q := by
  replace H := nb_Hw H
  have uhHo := hHo
  unfold nb_hs at uhHo
  obtain ⟨p0_, p1_, H⟩ := H
  replace H := nb_Hw H
  have E1 : nb_rd M Ho 11 = M.1 Ho 11 := nb_rd_1 _ _ _
  refine nb_Wg (q_h_priceOf_1 _ _ _ _ _ (by omega)) ?_
  simp only [E1]
  clear E1
  refine nb_Gi (fun c13 => ?_) (fun c13 => ?_)
  · have H := nb_Hw ((nb_Hu H).1 c13)
    refine nb_Gr ?_
    obtain ⟨p0_, p1_, p2_, p3_, H⟩ := H
    replace H := nb_Hw H
    have E2 : nb_rd M Ho 3 = Ho + 4 := W.h3 (H := Ho) hHo
    have N3 : nb_ln M (Ho + 4) = 10 := W.hn4 (H := Ho) hHo
    have E4 : nb_rd M (Ho + 4) l1 = Ho + 5 + l1 := W.hl (H := Ho) (i := l1) hHo (by omega) (by omega)
    have N5 : nb_ln M (Ho + 5 + l1) = 5 := W.hnl (H := Ho) (i := l1) hHo (by omega) (by omega)
    have E6 : nb_rd M (Ho + 5 + l1) l3 = M.1 (Ho + 5 + l1) l3 := nb_rd_1 _ _ _
    have E7 : nb_rd M Ho 2 = Ho + 3 := W.h2 (H := Ho) hHo
    have N8 : nb_ln M (Ho + 3) = 5 := W.hn3 (H := Ho) hHo
    have E9 : nb_rd M (Ho + 3) l3 = M.1 (Ho + 3) l3 := nb_rd_1 _ _ _
    have E10 : nb_mul (M.1 (Ho + 5 + l1) l3) (M.1 (Ho + 3) l3) = (M.1 (Ho + 5 + l1) l3) * (M.1 (Ho + 3) l3) := (nb_mul_eq (x := M.1 (Ho + 5 + l1) l3) (y := M.1 (Ho + 3) l3) (by omega) (by omega)).trans (by omega)
    have E11 : nb_add l2 ((M.1 (Ho + 5 + l1) l3) * (M.1 (Ho + 3) l3)) = l2 + ((M.1 (Ho + 5 + l1) l3) * (M.1 (Ho + 3) l3)) := nb_add_eq (by omega) (by omega)
    have E12 : nb_add l3 1 = l3 + 1 := nb_add_eq (by omega) (by omega)
    refine nb_Wg (q_h_priceOf_2 _ _ _ _ _ (by omega) (by rw [E2]; first | done | omega) (by omega) (by rw [E2, N3]; first | done | omega) (by rw [E2, E4]; first | done | omega) (by omega) (by rw [E2, E4, N5]; first | done | omega) (by rw [E7]; first | done | omega) (by rw [E7, N8]; first | done | omega)) ?_
    simp only [E2, E4, E6, E7, E9, E10, E11, E12]
    clear E2 N3 E4 N5 E6 E7 N8 E9 E10 E11 E12
    refine nb_Gr ?_
    exact nb_Hu H
  · have H := nb_Hw ((nb_Hu H).2 (by omega))
    have c13 : M.1 Ho 11 ≤ l3 := by omega
    refine nb_Gr ?_
    refine nb_Wg (q_h_priceOf_3 _ _ _ _ _) ?_
    refine nb_Gs ?_
    exact nb_Hu H

theorem w_h_cameAhead_0 {Ho l1 l2 : Int} {v3 v4 : nb_V} {M : nb_M} {Q : List nb_V → nb_M → Prop} (W : nb_Lay M) (hHo : nb_hs Ho) (b0_ : 0 ≤ l1 ∧ l1 ≤ 9) (b1_ : 0 ≤ l2 ∧ l2 ≤ 9) (H : (M.1 (Ho + 20 + l1) 2 < M.1 (Ho + 20 + l2) 2 → Q [(0, 1)] M) ∧ (M.1 (Ho + 20 + l2) 2 ≤ M.1 (Ho + 20 + l1) 2 → (M.1 (Ho + 20 + l1) 2 = M.1 (Ho + 20 + l2) 2 → (l1 < l2 → Q [(0, 1)] M) ∧ (l2 ≤ l1 → Q [(0, 0)] M)) ∧ (M.1 (Ho + 20 + l1) 2 ≠ M.1 (Ho + 20 + l2) 2 → Q [(0, 0)] M))) :
    nb_W 222 0 [(12, Ho), (0, l1), (0, l2), v3, v4] [] M Q := by
  replace H := nb_Hw H
  have uhHo := hHo
  unfold nb_hs at uhHo
  have E1 : nb_rd M Ho 4 = Ho + 15 := W.h4 (H := Ho) hHo
  have N2 : nb_ln M (Ho + 15) = 10 := W.hn15 (H := Ho) hHo
  have E3 : nb_rd M (Ho + 15) l1 = Ho + 20 + l1 := W.hg (H := Ho) (i := l1) hHo (by omega) (by omega)
  have E4 : nb_rd M (Ho + 20 + l1) 2 = M.1 (Ho + 20 + l1) 2 := nb_rd_1 _ _ _
  have E5 : nb_rd M Ho 4 = Ho + 15 := W.h4 (H := Ho) hHo
  have N6 : nb_ln M (Ho + 15) = 10 := W.hn15 (H := Ho) hHo
  have E7 : nb_rd M (Ho + 15) l2 = Ho + 20 + l2 := W.hg (H := Ho) (i := l2) hHo (by omega) (by omega)
  have E8 : nb_rd M (Ho + 20 + l2) 2 = M.1 (Ho + 20 + l2) 2 := nb_rd_1 _ _ _
  refine nb_Wg (q_h_cameAhead_0 _ _ _ _ _ _ (by omega) (by rw [E1]; first | done | omega) (by omega) (by rw [E1, N2]; first | done | omega) (by rw [E1, E3]; first | done | omega) (by omega) (by rw [E5, N6]; first | done | omega) (by rw [E5, E7]; first | done | omega)) ?_
  simp only [E1, E3, E4, E5, E7, E8]
  clear E1 N2 E3 E4 E5 N6 E7 E8
  refine nb_Gi (fun c15 => ?_) (fun c15 => ?_)
  · have H := nb_Hw ((nb_Hu H).1 c15)
    refine nb_Gr ?_
    refine nb_Wg (q_h_cameAhead_3 _ _ _ _ _ _) ?_
    refine nb_Gr ?_
    have E9 : nb_i2z 1 = 1 := by decide
    refine nb_Wg (q_h_cameAhead_5 _ _ _ _ _ _ _) ?_
    simp only [E9]
    clear E9
    refine nb_Gs ?_
    exact nb_Hu H
  · have H := nb_Hw ((nb_Hu H).2 (by omega))
    have c15 : M.1 (Ho + 20 + l2) 2 ≤ M.1 (Ho + 20 + l1) 2 := by omega
    refine nb_Gr ?_
    refine nb_Wg (q_h_cameAhead_1 _ _ _ _ _ _) ?_
    refine nb_Gi (fun c14 => ?_) (fun c14 => ?_)
    · have H := nb_Hw ((nb_Hu H).1 c14)
      refine nb_Gr ?_
      refine nb_Wg (q_h_cameAhead_2 _ _ _ _ _ _) ?_
      refine nb_Gi (fun c12 => ?_) (fun c12 => ?_)
      · have H := nb_Hw ((nb_Hu H).1 c12)
        refine nb_Gr ?_
        refine nb_Wg (q_h_cameAhead_3 _ _ _ _ _ _) ?_
        refine nb_Gr ?_
        have E10 : nb_i2z 1 = 1 := by decide
        refine nb_Wg (q_h_cameAhead_5 _ _ _ _ _ _ _) ?_
        simp only [E10]
        clear E10
        refine nb_Gs ?_
        exact nb_Hu H
      · have H := nb_Hw ((nb_Hu H).2 (by omega))
        have c12 : l2 ≤ l1 := by omega
        refine nb_Gr ?_
        refine nb_Wg (q_h_cameAhead_4 _ _ _ _ _ _) ?_
        refine nb_Gr ?_
        have E11 : nb_i2z 0 = 0 := by decide
        refine nb_Wg (q_h_cameAhead_5 _ _ _ _ _ _ _) ?_
        simp only [E11]
        clear E11
        refine nb_Gs ?_
        exact nb_Hu H
    · have H := nb_Hw ((nb_Hu H).2 (by omega))
      have c14 : M.1 (Ho + 20 + l1) 2 ≠ M.1 (Ho + 20 + l2) 2 := by omega
      refine nb_Gr ?_
      refine nb_Wg (q_h_cameAhead_4 _ _ _ _ _ _) ?_
      refine nb_Gr ?_
      have E13 : nb_i2z 0 = 0 := by decide
      refine nb_Wg (q_h_cameAhead_5 _ _ _ _ _ _ _) ?_
      simp only [E13]
      clear E13
      refine nb_Gs ?_
      exact nb_Hu H

theorem w_sv_rank_0 {v g : Int} {v2 : nb_V} {M : nb_M} {Q : List nb_V → nb_M → Prop} (hv : v ≠ 0) (hg : g ≠ 0) (b0_ : 0 ≤ M.1 v 2 ∧ M.1 v 2 ≤ 19) (b1_ : 0 ≤ M.1 g 3 ∧ M.1 g 3 ≤ 19) (b2_ : 0 ≤ M.1 g 5 ∧ M.1 g 5 ≤ 99) (H : (M.1 v 1 = 0 → (M.1 g 3 - (M.1 v 2) < 0 → Q [(0, 20 + M.1 g 3)] M) ∧ (0 ≤ M.1 g 3 - (M.1 v 2) → Q [(0, M.1 g 3 - (M.1 v 2))] M)) ∧ (M.1 v 1 = 1 → (0 < M.1 g 3 - (M.1 v 2) → Q [(0, 2 * (M.1 g 3 - (M.1 v 2)) + 1)] M) ∧ (M.1 g 3 - (M.1 v 2) ≤ 0 → Q [(0, (-2) * (M.1 g 3 - (M.1 v 2)))] M)) ∧ (M.1 v 1 = 2 → Q [(0, -(M.1 g 5))] M) ∧ (M.1 v 1 = 3 → Q [(0, M.1 g 7)] M) ∧ (M.1 v 1 ≠ 0 → M.1 v 1 ≠ 1 → M.1 v 1 ≠ 2 → M.1 v 1 ≠ 3 → (M.1 g 0 = 3 → Q [(0, 0)] M) ∧ (M.1 g 0 ≠ 3 → Q [(0, 1)] M))) :
    nb_W 278 0 [(16, v), (11, g), v2] [] M Q := by
  replace H := nb_Hw H
  have E1 : nb_rd M g 3 = M.1 g 3 := nb_rd_1 _ _ _
  have E2 : nb_rd M v 2 = M.1 v 2 := nb_rd_1 _ _ _
  have E3 : nb_sub (M.1 g 3) (M.1 v 2) = M.1 g 3 - (M.1 v 2) := nb_sub_eq (by omega) (by omega)
  have E4 : nb_rd M v 1 = M.1 v 1 := nb_rd_1 _ _ _
  refine nb_Wg (q_sv_rank_0 _ _ _ _ (by omega) (by omega)) ?_
  simp only [E1, E2, E3, E4]
  clear E1 E2 E3 E4
  refine nb_Gi (fun c8 => ?_) (fun c8 => ?_)
  · have H := nb_Hw ((nb_Hu H).1 c8)
    refine nb_Gr ?_
    refine nb_Wg (q_sv_rank_1 _ _ _ _) ?_
    refine nb_Gi (fun c7 => ?_) (fun c7 => ?_)
    · have H := nb_Hw ((nb_Hu H).1 c7)
      refine nb_Gr ?_
      have E5 : nb_rd M g 3 = M.1 g 3 := nb_rd_1 _ _ _
      have E6 : nb_add 20 (M.1 g 3) = 20 + M.1 g 3 := (nb_add_eq (x := 20) (y := M.1 g 3) (by omega) (by omega)).trans (by omega)
      refine nb_Wg (q_sv_rank_3 _ _ _ _ (by omega)) ?_
      simp only [E5, E6]
      clear E5 E6
      refine nb_Gr ?_
      refine nb_Wg (q_sv_rank_4 _ _ _ _ _) ?_
      refine nb_Gs ?_
      exact nb_Hu H
    · have H := nb_Hw ((nb_Hu H).2 (by omega))
      have c7 : 0 ≤ M.1 g 3 - (M.1 v 2) := by omega
      refine nb_Gr ?_
      refine nb_Wg (q_sv_rank_2 _ _ _ _) ?_
      refine nb_Gr ?_
      refine nb_Wg (q_sv_rank_4 _ _ _ _ _) ?_
      refine nb_Gs ?_
      exact nb_Hu H
  refine nb_Gi (fun c13 => ?_) (fun c13 => ?_)
  · have H := nb_Hw ((nb_Hu H).2.1 c13)
    refine nb_Gr ?_
    refine nb_Wg (q_sv_rank_5 _ _ _ _) ?_
    refine nb_Gi (fun c12 => ?_) (fun c12 => ?_)
    · have H := nb_Hw ((nb_Hu H).1 c12)
      refine nb_Gr ?_
      have E9 : nb_mul 2 (M.1 g 3 - (M.1 v 2)) = 2 * (M.1 g 3 - (M.1 v 2)) := nb_mul_eq (by omega) (by omega)
      have E10 : nb_add (2 * (M.1 g 3 - (M.1 v 2))) 1 = 2 * (M.1 g 3 - (M.1 v 2)) + 1 := nb_add_eq (by omega) (by omega)
      refine nb_Wg (q_sv_rank_6 _ _ _ _) ?_
      simp only [E9, E10]
      clear E9 E10
      refine nb_Gr ?_
      refine nb_Wg (q_sv_rank_8 _ _ _ _ _) ?_
      refine nb_Gs ?_
      exact nb_Hu H
    · have H := nb_Hw ((nb_Hu H).2 (by omega))
      have c12 : M.1 g 3 - (M.1 v 2) ≤ 0 := by omega
      refine nb_Gr ?_
      have E11 : nb_mul (-2) (M.1 g 3 - (M.1 v 2)) = (-2) * (M.1 g 3 - (M.1 v 2)) := nb_mul_eq (by omega) (by omega)
      refine nb_Wg (q_sv_rank_7 _ _ _ _) ?_
      simp only [E11]
      clear E11
      refine nb_Gr ?_
      refine nb_Wg (q_sv_rank_8 _ _ _ _ _) ?_
      refine nb_Gs ?_
      exact nb_Hu H
  refine nb_Gi (fun c16 => ?_) (fun c16 => ?_)
  · have H := nb_Hw ((nb_Hu H).2.2.1 c16)
    refine nb_Gr ?_
    have E14 : nb_rd M g 5 = M.1 g 5 := nb_rd_1 _ _ _
    have E15 : nb_neg (M.1 g 5) = -(M.1 g 5) := nb_neg_eq (by omega) (by omega)
    refine nb_Wg (q_sv_rank_9 _ _ _ _ (by omega)) ?_
    simp only [E14, E15]
    clear E14 E15
    refine nb_Gs ?_
    exact nb_Hu H
  refine nb_Gi (fun c18 => ?_) (fun c18 => ?_)
  · have H := nb_Hw ((nb_Hu H).2.2.2.1 c18)
    refine nb_Gr ?_
    have E17 : nb_rd M g 7 = M.1 g 7 := nb_rd_1 _ _ _
    refine nb_Wg (q_sv_rank_10 _ _ _ _ (by omega)) ?_
    simp only [E17]
    clear E17
    refine nb_Gs ?_
    exact nb_Hu H
  have H := nb_Hw ((nb_Hu H).2.2.2.2 (by omega) (by omega) (by omega) (by omega))
  refine nb_Gr ?_
  have E19 : nb_rd M g 0 = M.1 g 0 := nb_rd_1 _ _ _
  refine nb_Wg (q_sv_rank_11 _ _ _ _ (by omega)) ?_
  simp only [E19]
  clear E19
  refine nb_Gi (fun c20 => ?_) (fun c20 => ?_)
  · have H := nb_Hw ((nb_Hu H).1 c20)
    refine nb_Gr ?_
    refine nb_Wg (q_sv_rank_12 _ _ _ _) ?_
    refine nb_Gr ?_
    refine nb_Wg (q_sv_rank_14 _ _ _ _ _) ?_
    refine nb_Gs ?_
    exact nb_Hu H
  · have H := nb_Hw ((nb_Hu H).2 (by omega))
    have c20 : M.1 g 0 ≠ 3 := by omega
    refine nb_Gr ?_
    refine nb_Wg (q_sv_rank_13 _ _ _ _) ?_
    refine nb_Gr ?_
    refine nb_Wg (q_sv_rank_14 _ _ _ _ _) ?_
    refine nb_Gs ?_
    exact nb_Hu H

theorem w_sv_freeHand_0 {v l1 : Int} {v2 : nb_V} {M : nb_M} {Q : List nb_V → nb_M → Prop} (hv : v ≠ 0) (hvf : M.1 v 0 = v + 1) (hvl : nb_ln M (v + 1) = 2) (hv1 : v + 1 ≠ 0) (H : nb_W 275 1 [(16, v), (0, l1), (0, 0)] [] M Q) :
    nb_W 275 0 [(16, v), (0, l1), v2] [] M Q := by
  replace H := nb_Hw H
  refine nb_Wg (q_sv_freeHand_0 _ _ _ _) ?_
  refine nb_Gr ?_
  exact nb_Hu H

theorem w_sv_freeHand_1 {v l1 l2 : Int} {M : nb_M} {Q : List nb_V → nb_M → Prop} (hv : v ≠ 0) (hvf : M.1 v 0 = v + 1) (hvl : nb_ln M (v + 1) = 2) (hv1 : v + 1 ≠ 0) (b0_ : 0 ≤ l2 ∧ l2 ≤ 2) (H : (l2 < 2 → (l2 < M.1 v 6 → (l1 < M.1 (v + 1) l2 → nb_W 275 1 [(16, v), (0, l1), (0, l2 + 1)] [] M Q) ∧ (M.1 (v + 1) l2 ≤ l1 → Q [(0, l2)] M)) ∧ (M.1 v 6 ≤ l2 → Q [(0, (-1))] M)) ∧ (2 ≤ l2 → Q [(0, (-1))] M)) :
    nb_W 275 1 [(16, v), (0, l1), (0, l2)] [] M Q := by
  replace H := nb_Hw H
  refine nb_Wg (q_sv_freeHand_1 _ _ _ _) ?_
  refine nb_Gi (fun c8 => ?_) (fun c8 => ?_)
  · have H := nb_Hw ((nb_Hu H).1 c8)
    refine nb_Gr ?_
    have E1 : nb_rd M v 6 = M.1 v 6 := nb_rd_1 _ _ _
    refine nb_Wg (q_sv_freeHand_2 _ _ _ _ (by omega)) ?_
    simp only [E1]
    clear E1
    refine nb_Gi (fun c7 => ?_) (fun c7 => ?_)
    · have H := nb_Hw ((nb_Hu H).1 c7)
      refine nb_Gr ?_
      have E2 : nb_rd M v 0 = v + 1 := hvf
      have N3 : nb_ln M (v + 1) = 2 := hvl
      have E4 : nb_rd M (v + 1) l2 = M.1 (v + 1) l2 := nb_rd_1 _ _ _
      refine nb_Wg (q_sv_freeHand_3 _ _ _ _ (by omega) (by rw [E2]; first | done | omega) (by omega) (by rw [E2, N3]; first | done | omega)) ?_
      simp only [E2, E4]
      clear E2 N3 E4
      refine nb_Gi (fun c6 => ?_) (fun c6 => ?_)
      · have H := nb_Hw ((nb_Hu H).1 c6)
        refine nb_Gr ?_
        have E5 : nb_add l2 1 = l2 + 1 := nb_add_eq (by omega) (by omega)
        refine nb_Wg (q_sv_freeHand_5 _ _ _ _) ?_
        simp only [E5]
        clear E5
        refine nb_Gr ?_
        exact nb_Hu H
      · have H := nb_Hw ((nb_Hu H).2 (by omega))
        have c6 : M.1 (v + 1) l2 ≤ l1 := by omega
        refine nb_Gr ?_
        refine nb_Wg (q_sv_freeHand_4 _ _ _ _) ?_
        refine nb_Gs ?_
        exact nb_Hu H
    · have H := nb_Hw ((nb_Hu H).2 (by omega))
      have c7 : M.1 v 6 ≤ l2 := by omega
      refine nb_Gr ?_
      refine nb_Wg (q_sv_freeHand_6 _ _ _ _) ?_
      refine nb_Gs ?_
      exact nb_Hu H
  · have H := nb_Hw ((nb_Hu H).2 (by omega))
    have c8 : 2 ≤ l2 := by omega
    refine nb_Gr ?_
    refine nb_Wg (q_sv_freeHand_6 _ _ _ _) ?_
    refine nb_Gs ?_
    exact nb_Hu H
