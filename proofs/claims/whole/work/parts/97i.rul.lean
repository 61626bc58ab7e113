/-! rules, printed by wip/gen -/
theorem w_c_letCosts_0 {l1 l2 Ho : Int} {v3 v4 : nb_V} {M : nb_M} {Q : List nb_V → nb_M → Prop} (W : nb_Lay M) (hHo : nb_hs Ho) (hx2 : M.1 2 2 = Ho) (H : (l1 < 0 → (nb_Lay (nb_wr M 2 15 1) → Q [(0, (-1000))] (nb_wr M 2 15 1))) ∧ (0 ≤ l1 → 0 ≤ M.1 Ho 13 ∧ M.1 Ho 13 ≤ 10 ∧ (l1 < M.1 Ho 13 → (l2 < 0 → (nb_Lay (nb_wr M 2 15 1) → Q [(0, (-1000))] (nb_wr M 2 15 1))) ∧ (0 ≤ l2 → (l2 < M.1 Ho 13 → (l1 = l2 → (nb_Lay (nb_wr M 2 15 1) → Q [(0, (-1000))] (nb_wr M 2 15 1))) ∧ (l1 ≠ l2 → (M.1 (88 + l1) 8 = 1 → (M.1 (88 + l2) 8 = 1 → (M.1 (88 + l2) 7 < M.1 (88 + l1) 7 → (nb_Lay (nb_wr (nb_wr (nb_wr M 2 15 0) 2 15 0) 2 15 5) → Q [(0, (-1000))] (nb_wr (nb_wr (nb_wr M 2 15 0) 2 15 0) 2 15 5))) ∧ (M.1 (88 + l1) 7 ≤ M.1 (88 + l2) 7 → nb_W 24 0 [(19, 2)] [] (nb_wr (nb_wr (nb_wr M 2 15 0) 2 15 0) 2 15 0) (fun r M55 => r = [(15, 106)] ∧ nb_Lay M55 ∧ M55.1 2 2 = Ho ∧ nb_W 266 0 [(15, 106), (0, l1), (98, 0)] [] M55 (fun r M59 => ∃ x58 : Int, r = [(0, x58)] ∧ nb_Lay M59 ∧ M59.1 2 2 = Ho ∧ nb_W 23 0 [(19, 2)] [] M59 (fun r M63 => r = [(15, 106)] ∧ nb_Lay M63 ∧ M63.1 2 2 = Ho ∧ l1 < 10 ∧ l2 < 10 ∧ -2147483648 ≤ M63.1 (110 + l2) 7 + 1 ∧ M63.1 (110 + l2) 7 + 1 ≤ 2147483647 ∧ nb_W 257 0 [(15, 106), (0, M63.1 106 8), (98, 0), (98, 0)] [] (nb_wr M63 (110 + l1) 7 (M63.1 (110 + l2) 7 + 1)) (fun r M77 => r = [] ∧ nb_Lay M77 ∧ M77.1 2 2 = Ho ∧ nb_W 266 0 [(15, 106), (0, l1), (98, 0)] [] M77 (fun r M81 => ∃ x80 : Int, r = [(0, x80)] ∧ nb_Lay M81 ∧ M81.1 2 2 = Ho ∧ -2147483648 ≤ x80 - x58 ∧ x80 - x58 ≤ 2147483647 ∧ (nb_Lay M81 → Q [(0, x80 - x58)] M81)))))))) ∧ (M.1 (88 + l2) 8 ≠ 1 → (nb_Lay (nb_wr (nb_wr M 2 15 0) 2 15 5) → Q [(0, (-1000))] (nb_wr (nb_wr M 2 15 0) 2 15 5)))) ∧ (M.1 (88 + l1) 8 ≠ 1 → (nb_Lay (nb_wr (nb_wr M 2 15 0) 2 15 5) → Q [(0, (-1000))] (nb_wr (nb_wr M 2 15 0) 2 15 5))))) ∧ (M.1 Ho 13 ≤ l2 → (nb_Lay (nb_wr M 2 15 1) → Q [(0, (-1000))] (nb_wr M 2 15 1))))) ∧ (M.1 Ho 13 ≤ l1 → (nb_Lay (nb_wr M 2 15 1) → Q [(0, (-1000))] (nb_wr M 2 15 1))))) :
    nb_W 47 0 [(19, 2), (0, l1), (0, l2), v3, v4] [] M Q := by
  replace H := nb_Hw H
  have uhHo := hHo
  unfold nb_hs at uhHo
  refine nb_Wg (q_c_letCosts_0 _ _ _ _ _ _ (by omega)) ?_
  refine nb_Gb ?_
  refine nb_Wg (q_c_mayLet_0 _ _ _ _ (by omega)) ?_
  refine nb_Gb ?_
  refine nb_Wg (q_c_areTwo_0 _ _ _ _ (by omega)) ?_
  refine nb_Gb ?_
  refine nb_Wg (q_c_isPerson_0 _ _ _) ?_
  refine nb_Gi (fun c110 => ?_) (fun c110 => ?_)
  · have H := nb_Hw ((nb_Hu H).1 c110)
    refine nb_Gr ?_
    refine nb_Wg (q_c_isPerson_3 _ _ _) ?_
    refine nb_Gr ?_
    have E1 : nb_i2z 0 = 0 := by decide
    refine nb_Wg (q_c_isPerson_4 _ _ _ _) ?_
    simp only [E1]
    clear E1
    refine nb_Gs ?_
    show nb_W 10 1 [(19, 2), (0, l1), (0, l2)] [(0, 0)] M _
    refine nb_Wg (q_c_areTwo_1 _ _ _ _ _) ?_
    refine nb_Gt (by decide) ?_
    refine nb_Gr ?_
    refine nb_Wg (q_c_areTwo_6 _ _ _ _) ?_
    refine nb_Gr ?_
    have E2 : nb_i2z 0 = 0 := by decide
    refine nb_Wg (q_c_areTwo_7 _ _ _ _ _) ?_
    simp only [E2]
    clear E2
    refine nb_Gs ?_
    show nb_W 48 1 [(19, 2), (0, l1), (0, l2)] [(0, 0), (19, 2)] M _
    refine nb_Wg (q_c_mayLet_1 _ _ _ _ _ _ (by omega)) ?_
    refine nb_Gb ?_
    refine nb_Wg (q_c_granted_0 _ _ _ _) ?_
    refine nb_Gt (by decide) ?_
    refine nb_Gr ?_
    refine nb_Wg (q_c_granted_2 _ _ _ _ _) ?_
    refine nb_Gr ?_
    refine nb_Wg (q_c_granted_3 _ _ _ _ _ _ (by omega)) ?_
    have W3 : nb_Lay (nb_wr M 2 15 1) := W.wr (fun w => (nb_nlit (by decide) (by decide)))
    refine nb_Gr ?_
    have E4 : nb_i2z 0 = 0 := by decide
    refine nb_Wg (q_c_granted_4 _ _ _ _) ?_
    simp only [E4]
    clear E4
    refine nb_Gs ?_
    show nb_W 48 2 [(19, 2), (0, l1), (0, l2)] [(0, 0)] (nb_wr M 2 15 1) _
    refine nb_Wg (q_c_mayLet_2 _ _ _ _ _) ?_
    refine nb_Gt (by decide) ?_
    refine nb_Gr ?_
    refine nb_Wg (q_c_mayLet_17 _ _ _ _) ?_
    refine nb_Gr ?_
    have E5 : nb_i2z 0 = 0 := by decide
    refine nb_Wg (q_c_mayLet_18 _ _ _ _ _) ?_
    simp only [E5]
    clear E5
    refine nb_Gs ?_
    show nb_W 47 1 [(19, 2), (0, l1), (0, l2), v3, v4] [(0, 0)] (nb_wr M 2 15 1) _
    refine nb_Wg (q_c_letCosts_1 _ _ _ _ _ _ _) ?_
    refine nb_Gt (by decide) ?_
    refine nb_Gr ?_
    refine nb_Wg (q_c_letCosts_2 _ _ _ _ _ _) ?_
    refine nb_Gs ?_
    exact nb_Hu H W3
  · have H := nb_Hw ((nb_Hu H).2 (by omega))
    have c110 : 0 ≤ l1 := by omega
    refine nb_Gr ?_
    obtain ⟨p0_, p1_, H⟩ := H
    replace H := nb_Hw H
    have E6 : nb_rd M 2 2 = Ho := hx2
    have E7 : nb_rd M Ho 13 = M.1 Ho 13 := nb_rd_1 _ _ _
    refine nb_Wg (q_c_isPerson_1 _ _ _ (by omega) (by rw [E6]; first | done | omega)) ?_
    simp only [E6, E7]
    clear E6 E7
    refine nb_Gi (fun c109 => ?_) (fun c109 => ?_)
    · have H := nb_Hw ((nb_Hu H).1 c109)
      refine nb_Gr ?_
      refine nb_Wg (q_c_isPerson_2 _ _ _) ?_
      refine nb_Gr ?_
      have E8 : nb_i2z 1 = 1 := by decide
      refine nb_Wg (q_c_isPerson_4 _ _ _ _) ?_
      simp only [E8]
      clear E8
      refine nb_Gs ?_
      show nb_W 10 1 [(19, 2), (0, l1), (0, l2)] [(0, 1)] M _
      refine nb_Wg (q_c_areTwo_1 _ _ _ _ _) ?_
      refine nb_Gf (by decide) ?_
      refine nb_Gr ?_
      refine nb_Wg (q_c_areTwo_2 _ _ _ _ (by omega)) ?_
      refine nb_Gb ?_
      refine nb_Wg (q_c_isPerson_0 _ _ _) ?_
      refine nb_Gi (fun c103 => ?_) (fun c103 => ?_)
      · have H := nb_Hw ((nb_Hu H).1 c103)
        refine nb_Gr ?_
        refine nb_Wg (q_c_isPerson_3 _ _ _) ?_
        refine nb_Gr ?_
        have E9 : nb_i2z 0 = 0 := by decide
        refine nb_Wg (q_c_isPerson_4 _ _ _ _) ?_
        simp only [E9]
        clear E9
        refine nb_Gs ?_
        show nb_W 10 3 [(19, 2), (0, l1), (0, l2)] [(0, 0)] M _
        refine nb_Wg (q_c_areTwo_3 _ _ _ _ _) ?_
        refine nb_Gt (by decide) ?_
        refine nb_Gr ?_
        refine nb_Wg (q_c_areTwo_6 _ _ _ _) ?_
        refine nb_Gr ?_
        have E10 : nb_i2z 0 = 0 := by decide
        refine nb_Wg (q_c_areTwo_7 _ _ _ _ _) ?_
        simp only [E10]
        clear E10
        refine nb_Gs ?_
        show nb_W 48 1 [(19, 2), (0, l1), (0, l2)] [(0, 0), (19, 2)] M _
        refine nb_Wg (q_c_mayLet_1 _ _ _ _ _ _ (by omega)) ?_
        refine nb_Gb ?_
        refine nb_Wg (q_c_granted_0 _ _ _ _) ?_
        refine nb_Gt (by decide) ?_
        refine nb_Gr ?_
        refine nb_Wg (q_c_granted_2 _ _ _ _ _) ?_
        refine nb_Gr ?_
        refine nb_Wg (q_c_granted_3 _ _ _ _ _ _ (by omega)) ?_
        have W11 : nb_Lay (nb_wr M 2 15 1) := W.wr (fun w => (nb_nlit (by decide) (by decide)))
        refine nb_Gr ?_
        have E12 : nb_i2z 0 = 0 := by decide
        refine nb_Wg (q_c_granted_4 _ _ _ _) ?_
        simp only [E12]
        clear E12
        refine nb_Gs ?_
        show nb_W 48 2 [(19, 2), (0, l1), (0, l2)] [(0, 0)] (nb_wr M 2 15 1) _
        refine nb_Wg (q_c_mayLet_2 _ _ _ _ _) ?_
        refine nb_Gt (by decide) ?_
        refine nb_Gr ?_
        refine nb_Wg (q_c_mayLet_17 _ _ _ _) ?_
        refine nb_Gr ?_
        have E13 : nb_i2z 0 = 0 := by decide
        refine nb_Wg (q_c_mayLet_18 _ _ _ _ _) ?_
        simp only [E13]
        clear E13
        refine nb_Gs ?_
        show nb_W 47 1 [(19, 2), (0, l1), (0, l2), v3, v4] [(0, 0)] (nb_wr M 2 15 1) _
        refine nb_Wg (q_c_letCosts_1 _ _ _ _ _ _ _) ?_
        refine nb_Gt (by decide) ?_
        refine nb_Gr ?_
        refine nb_Wg (q_c_letCosts_2 _ _ _ _ _ _) ?_
        refine nb_Gs ?_
        exact nb_Hu H W11
      · have H := nb_Hw ((nb_Hu H).2 (by omega))
        have c103 : 0 ≤ l2 := by omega
        refine nb_Gr ?_
        have E14 : nb_rd M 2 2 = Ho := hx2
        have E15 : nb_rd M Ho 13 = M.1 Ho 13 := nb_rd_1 _ _ _
        refine nb_Wg (q_c_isPerson_1 _ _ _ (by omega) (by rw [E14]; first | done | omega)) ?_
        simp only [E14, E15]
        clear E14 E15
        refine nb_Gi (fun c102 => ?_) (fun c102 => ?_)
        · have H := nb_Hw ((nb_Hu H).1 c102)
          refine nb_Gr ?_
          refine nb_Wg (q_c_isPerson_2 _ _ _) ?_
          refine nb_Gr ?_
          have E16 : nb_i2z 1 = 1 := by decide
          refine nb_Wg (q_c_isPerson_4 _ _ _ _) ?_
          simp only [E16]
          clear E16
          refine nb_Gs ?_
          show nb_W 10 3 [(19, 2), (0, l1), (0, l2)] [(0, 1)] M _
          refine nb_Wg (q_c_areTwo_3 _ _ _ _ _) ?_
          refine nb_Gf (by decide) ?_
          refine nb_Gr ?_
          refine nb_Wg (q_c_areTwo_4 _ _ _ _) ?_
          refine nb_Gi (fun c96 => ?_) (fun c96 => ?_)
          · have H := nb_Hw ((nb_Hu H).1 c96)
            refine nb_Gr ?_
            refine nb_Wg (q_c_areTwo_6 _ _ _ _) ?_
            refine nb_Gr ?_
            have E17 : nb_i2z 0 = 0 := by decide
            refine nb_Wg (q_c_areTwo_7 _ _ _ _ _) ?_
            simp only [E17]
            clear E17
            refine nb_Gs ?_
            show nb_W 48 1 [(19, 2), (0, l1), (0, l2)] [(0, 0), (19, 2)] M _
            refine nb_Wg (q_c_mayLet_1 _ _ _ _ _ _ (by omega)) ?_
            refine nb_Gb ?_
            refine nb_Wg (q_c_granted_0 _ _ _ _) ?_
            refine nb_Gt (by decide) ?_
            refine nb_Gr ?_
            refine nb_Wg (q_c_granted_2 _ _ _ _ _) ?_
            refine nb_Gr ?_
            refine nb_Wg (q_c_granted_3 _ _ _ _ _ _ (by omega)) ?_
            have W18 : nb_Lay (nb_wr M 2 15 1) := W.wr (fun w => (nb_nlit (by decide) (by decide)))
            refine nb_Gr ?_
            have E19 : nb_i2z 0 = 0 := by decide
            refine nb_Wg (q_c_granted_4 _ _ _ _) ?_
            simp only [E19]
            clear E19
            refine nb_Gs ?_
            show nb_W 48 2 [(19, 2), (0, l1), (0, l2)] [(0, 0)] (nb_wr M 2 15 1) _
            refine nb_Wg (q_c_mayLet_2 _ _ _ _ _) ?_
            refine nb_Gt (by decide) ?_
            refine nb_Gr ?_
            refine nb_Wg (q_c_mayLet_17 _ _ _ _) ?_
            refine nb_Gr ?_
            have E20 : nb_i2z 0 = 0 := by decide
            refine nb_Wg (q_c_mayLet_18 _ _ _ _ _) ?_
            simp only [E20]
            clear E20
            refine nb_Gs ?_
            show nb_W 47 1 [(19, 2), (0, l1), (0, l2), v3, v4] [(0, 0)] (nb_wr M 2 15 1) _
            refine nb_Wg (q_c_letCosts_1 _ _ _ _ _ _ _) ?_
            refine nb_Gt (by decide) ?_
            refine nb_Gr ?_
            refine nb_Wg (q_c_letCosts_2 _ _ _ _ _ _) ?_
            refine nb_Gs ?_
            exact nb_Hu H W18
          · have H := nb_Hw ((nb_Hu H).2 (by omega))
            have c96 : l1 ≠ l2 := by omega
            refine nb_Gr ?_
            refine nb_Wg (q_c_areTwo_5 _ _ _ _) ?_
            refine nb_Gr ?_
            have E21 : nb_i2z 1 = 1 := by decide
            refine nb_Wg (q_c_areTwo_7 _ _ _ _ _) ?_
            simp only [E21]
            clear E21
            refine nb_Gs ?_
            show nb_W 48 1 [(19, 2), (0, l1), (0, l2)] [(0, 1), (19, 2)] M _
            refine nb_Wg (q_c_mayLet_1 _ _ _ _ _ _ (by omega)) ?_
            refine nb_Gb ?_
            refine nb_Wg (q_c_granted_0 _ _ _ _) ?_
            refine nb_Gf (by decide) ?_
            refine nb_Gr ?_
            refine nb_Wg (q_c_granted_1 _ _ _ _ _) ?_
            refine nb_Gr ?_
            refine nb_Wg (q_c_granted_3 _ _ _ _ _ _ (by omega)) ?_
            have W22 : nb_Lay (nb_wr M 2 15 0) := W.wr (fun w => (nb_nlit (by decide) (by decide)))
            refine nb_Gr ?_
            have E23 : nb_i2z 1 = 1 := by decide
            refine nb_Wg (q_c_granted_4 _ _ _ _) ?_
            simp only [E23]
            clear E23
            refine nb_Gs ?_
            show nb_W 48 2 [(19, 2), (0, l1), (0, l2)] [(0, 1)] (nb_wr M 2 15 0) _
            refine nb_Wg (q_c_mayLet_2 _ _ _ _ _) ?_
            refine nb_Gf (by decide) ?_
            refine nb_Gr ?_
            refine nb_Wg (q_c_mayLet_3 _ _ _ _ (by omega)) ?_
            refine nb_Gb ?_
            have E24 : nb_rd (nb_wr M 2 15 0) 2 5 = 84 := W22.c5
            have E25 : nb_rd (nb_wr M 2 15 0) 84 0 = 85 := W22.s0 (A := 84) nb_sc84
            have N26 : nb_ln (nb_wr M 2 15 0) 85 = 10 := W22.sn1 (A := 84) nb_sc84
            have E27 : nb_rd (nb_wr M 2 15 0) 85 l1 = 88 + l1 := W22.sg (A := 84) (i := l1) nb_sc84 (by omega) (by omega)
            have E28 : nb_rd (nb_wr M 2 15 0) (88 + l1) 8 = M.1 (88 + l1) 8 := nb_rdw (Or.inr (by decide)) (nb_rd_1 _ _ _)
            refine nb_Wg (q_c_isWaiting_0 _ _ _ (by omega) (by rw [E24]; first | done | omega) (by rw [E24, E25]; first | done | omega) (by omega) (by rw [E24, E25, N26]; first | done | omega) (by rw [E24, E25, E27]; first | done | omega)) ?_
            simp only [E24, E25, E27, E28]
            clear E24 E25 N26 E27 E28
            refine nb_Gi (fun c95 => ?_) (fun c95 => ?_)
            · have H := nb_Hw ((nb_Hu H).1 c95)
              refine nb_Gr ?_
              refine nb_Wg (q_c_isWaiting_1 _ _ _) ?_
              refine nb_Gr ?_
              have E29 : nb_i2z 1 = 1 := by decide
              refine nb_Wg (q_c_isWaiting_3 _ _ _ _) ?_
              simp only [E29]
              clear E29
              refine nb_Gs ?_
              show nb_W 48 4 [(19, 2), (0, l1), (0, l2)] [(0, 1), (19, 2)] (nb_wr M 2 15 0) _
              refine nb_Wg (q_c_mayLet_4 _ _ _ _ _ _) ?_
              refine nb_Gf (by decide) ?_
              refine nb_Gr ?_
              refine nb_Wg (q_c_mayLet_5 _ _ _ _ _ (by omega)) ?_
              refine nb_Gb ?_
              have E30 : nb_rd (nb_wr M 2 15 0) 2 5 = 84 := W22.c5
              have E31 : nb_rd (nb_wr M 2 15 0) 84 0 = 85 := W22.s0 (A := 84) nb_sc84
              have N32 : nb_ln (nb_wr M 2 15 0) 85 = 10 := W22.sn1 (A := 84) nb_sc84
              have E33 : nb_rd (nb_wr M 2 15 0) 85 l2 = 88 + l2 := W22.sg (A := 84) (i := l2) nb_sc84 (by omega) (by omega)
              have E34 : nb_rd (nb_wr M 2 15 0) (88 + l2) 8 = M.1 (88 + l2) 8 := nb_rdw (Or.inr (by decide)) (nb_rd_1 _ _ _)
              refine nb_Wg (q_c_isWaiting_0 _ _ _ (by omega) (by rw [E30]; first | done | omega) (by rw [E30, E31]; first | done | omega) (by omega) (by rw [E30, E31, N32]; first | done | omega) (by rw [E30, E31, E33]; first | done | omega)) ?_
              simp only [E30, E31, E33, E34]
              clear E30 E31 N32 E33 E34
              refine nb_Gi (fun c90 => ?_) (fun c90 => ?_)
              · have H := nb_Hw ((nb_Hu H).1 c90)
                refine nb_Gr ?_
                refine nb_Wg (q_c_isWaiting_1 _ _ _) ?_
                refine nb_Gr ?_
                have E35 : nb_i2z 1 = 1 := by decide
                refine nb_Wg (q_c_isWaiting_3 _ _ _ _) ?_
                simp only [E35]
                clear E35
                refine nb_Gs ?_
                show nb_W 48 6 [(19, 2), (0, l1), (0, l2)] [(0, 1), (19, 2)] (nb_wr M 2 15 0) _
                refine nb_Wg (q_c_mayLet_6 _ _ _ _ _ _) ?_
                refine nb_Gf (by decide) ?_
                refine nb_Gr ?_
                refine nb_Wg (q_c_mayLet_7 _ _ _ _ _) ?_
                refine nb_Gr ?_
                refine nb_Wg (q_c_mayLet_9 _ _ _ _ _ _ (by omega)) ?_
                refine nb_Gb ?_
                refine nb_Wg (q_c_granted_0 _ _ _ _) ?_
                refine nb_Gf (by decide) ?_
                refine nb_Gr ?_
                refine nb_Wg (q_c_granted_1 _ _ _ _ _) ?_
                refine nb_Gr ?_
                refine nb_Wg (q_c_granted_3 _ _ _ _ _ _ (by omega)) ?_
                have W36 : nb_Lay (nb_wr (nb_wr M 2 15 0) 2 15 0) := W22.wr (fun w => (nb_nlit (by decide) (by decide)))
                refine nb_Gr ?_
                have E37 : nb_i2z 1 = 1 := by decide
                refine nb_Wg (q_c_granted_4 _ _ _ _) ?_
                simp only [E37]
                clear E37
                refine nb_Gs ?_
                show nb_W 48 10 [(19, 2), (0, l1), (0, l2)] [(0, 1)] (nb_wr (nb_wr M 2 15 0) 2 15 0) _
                refine nb_Wg (q_c_mayLet_10 _ _ _ _ _) ?_
                refine nb_Gf (by decide) ?_
                refine nb_Gr ?_
                have E38 : nb_rd (nb_wr (nb_wr M 2 15 0) 2 15 0) 2 5 = 84 := W36.c5
                have E39 : nb_rd (nb_wr (nb_wr M 2 15 0) 2 15 0) 84 0 = 85 := W36.s0 (A := 84) nb_sc84
                have N40 : nb_ln (nb_wr (nb_wr M 2 15 0) 2 15 0) 85 = 10 := W36.sn1 (A := 84) nb_sc84
                have E41 : nb_rd (nb_wr (nb_wr M 2 15 0) 2 15 0) 85 l1 = 88 + l1 := W36.sg (A := 84) (i := l1) nb_sc84 (by omega) (by omega)
                have E42 : nb_rd (nb_wr (nb_wr M 2 15 0) 2 15 0) (88 + l1) 7 = M.1 (88 + l1) 7 := nb_rdw (Or.inr (by decide)) (nb_rdw (Or.inr (by decide)) (nb_rd_1 _ _ _))
                have E43 : nb_rd (nb_wr (nb_wr M 2 15 0) 2 15 0) 2 5 = 84 := W36.c5
                have E44 : nb_rd (nb_wr (nb_wr M 2 15 0) 2 15 0) 84 0 = 85 := W36.s0 (A := 84) nb_sc84
                have N45 : nb_ln (nb_wr (nb_wr M 2 15 0) 2 15 0) 85 = 10 := W36.sn1 (A := 84) nb_sc84
                have E46 : nb_rd (nb_wr (nb_wr M 2 15 0) 2 15 0) 85 l2 = 88 + l2 := W36.sg (A := 84) (i := l2) nb_sc84 (by omega) (by omega)
                have E47 : nb_rd (nb_wr (nb_wr M 2 15 0) 2 15 0) (88 + l2) 7 = M.1 (88 + l2) 7 := nb_rdw (Or.inr (by decide)) (nb_rdw (Or.inr (by decide)) (nb_rd_1 _ _ _))
                refine nb_Wg (q_c_mayLet_11 _ _ _ _ (by omega) (by rw [E38]; first | done | omega) (by rw [E38, E39]; first | done | omega) (by omega) (by rw [E38, E39, N40]; first | done | omega) (by rw [E38, E39, E41]; first | done | omega) (by omega) (by rw [E43, E44, N45]; first | done | omega) (by rw [E43, E44, E46]; first | done | omega)) ?_
                simp only [E38, E39, E41, E42, E43, E44, E46, E47]
                clear E38 E39 N40 E41 E42 E43 E44 N45 E46 E47
                refine nb_Gi (fun c85 => ?_) (fun c85 => ?_)
                · have H := nb_Hw ((nb_Hu H).1 c85)
                  refine nb_Gr ?_
                  refine nb_Wg (q_c_mayLet_13 _ _ _ _ _) ?_
                  refine nb_Gr ?_
                  refine nb_Wg (q_c_mayLet_14 _ _ _ _ _ _ (by omega)) ?_
                  refine nb_Gb ?_
                  refine nb_Wg (q_c_granted_0 _ _ _ _) ?_
                  refine nb_Gt (by decide) ?_
                  refine nb_Gr ?_
                  refine nb_Wg (q_c_granted_2 _ _ _ _ _) ?_
                  refine nb_Gr ?_
                  refine nb_Wg (q_c_granted_3 _ _ _ _ _ _ (by omega)) ?_
                  have W48 : nb_Lay (nb_wr (nb_wr (nb_wr M 2 15 0) 2 15 0) 2 15 5) := W36.wr (fun w => (nb_nlit (by decide) (by decide)))
                  refine nb_Gr ?_
                  have E49 : nb_i2z 0 = 0 := by decide
                  refine nb_Wg (q_c_granted_4 _ _ _ _) ?_
                  simp only [E49]
                  clear E49
                  refine nb_Gs ?_
                  show nb_W 48 15 [(19, 2), (0, l1), (0, l2)] [(0, 0)] (nb_wr (nb_wr (nb_wr M 2 15 0) 2 15 0) 2 15 5) _
                  refine nb_Wg (q_c_mayLet_15 _ _ _ _ _) ?_
                  refine nb_Gt (by decide) ?_
                  refine nb_Gr ?_
                  refine nb_Wg (q_c_mayLet_17 _ _ _ _) ?_
                  refine nb_Gr ?_
                  have E50 : nb_i2z 0 = 0 := by decide
                  refine nb_Wg (q_c_mayLet_18 _ _ _ _ _) ?_
                  simp only [E50]
                  clear E50
                  refine nb_Gs ?_
                  show nb_W 47 1 [(19, 2), (0, l1), (0, l2), v3, v4] [(0, 0)] (nb_wr (nb_wr (nb_wr M 2 15 0) 2 15 0) 2 15 5) _
                  refine nb_Wg (q_c_letCosts_1 _ _ _ _ _ _ _) ?_
                  refine nb_Gt (by decide) ?_
                  refine nb_Gr ?_
                  refine nb_Wg (q_c_letCosts_2 _ _ _ _ _ _) ?_
                  refine nb_Gs ?_
                  exact nb_Hu H W48
                · have H := nb_Hw ((nb_Hu H).2 (by omega))
                  have c85 : M.1 (88 + l1) 7 ≤ M.1 (88 + l2) 7 := by omega
                  refine nb_Gr ?_
                  refine nb_Wg (q_c_mayLet_12 _ _ _ _ _) ?_
                  refine nb_Gr ?_
                  refine nb_Wg (q_c_mayLet_14 _ _ _ _ _ _ (by omega)) ?_
                  refine nb_Gb ?_
                  refine nb_Wg (q_c_granted_0 _ _ _ _) ?_
                  refine nb_Gf (by decide) ?_
                  refine nb_Gr ?_
                  refine nb_Wg (q_c_granted_1 _ _ _ _ _) ?_
                  refine nb_Gr ?_
                  refine nb_Wg (q_c_granted_3 _ _ _ _ _ _ (by omega)) ?_
                  have W51 : nb_Lay (nb_wr (nb_wr (nb_wr M 2 15 0) 2 15 0) 2 15 0) := W36.wr (fun w => (nb_nlit (by decide) (by decide)))
                  refine nb_Gr ?_
                  have E52 : nb_i2z 1 = 1 := by decide
                  refine nb_Wg (q_c_granted_4 _ _ _ _) ?_
                  simp only [E52]
                  clear E52
                  refine nb_Gs ?_
                  show nb_W 48 15 [(19, 2), (0, l1), (0, l2)] [(0, 1)] (nb_wr (nb_wr (nb_wr M 2 15 0) 2 15 0) 2 15 0) _
                  refine nb_Wg (q_c_mayLet_15 _ _ _ _ _) ?_
                  refine nb_Gf (by decide) ?_
                  refine nb_Gr ?_
                  refine nb_Wg (q_c_mayLet_16 _ _ _ _) ?_
                  refine nb_Gr ?_
                  have E53 : nb_i2z 1 = 1 := by decide
                  refine nb_Wg (q_c_mayLet_18 _ _ _ _ _) ?_
                  simp only [E53]
                  clear E53
                  refine nb_Gs ?_
                  show nb_W 47 1 [(19, 2), (0, l1), (0, l2), v3, v4] [(0, 1)] (nb_wr (nb_wr (nb_wr M 2 15 0) 2 15 0) 2 15 0) _
                  refine nb_Wg (q_c_letCosts_1 _ _ _ _ _ _ _) ?_
                  refine nb_Gf (by decide) ?_
                  refine nb_Gr ?_
                  refine nb_Wg (q_c_letCosts_3 _ _ _ _ _ _ (by omega)) ?_
                  refine nb_Gb ?_
                  refine nb_W.imp (nb_Hu H) (fun r M55 H => ?_)
                  obtain ⟨rfl, W56, g57, H⟩ := H
                  replace H := nb_Hw H
                  show nb_W 47 4 [(19, 2), (0, l1), (0, l2), v3, v4] [(15, 106)] M55 _
                  refine nb_Wg (q_c_letCosts_4 _ _ _ _ _ _ _ (by omega)) ?_
                  refine nb_Gb ?_
                  refine nb_W.imp (nb_Hu H) (fun r M59 H => ?_)
                  obtain ⟨x58, rfl, W60, g61, H⟩ := H
                  replace H := nb_Hw H
                  show nb_W 47 5 [(19, 2), (0, l1), (0, l2), v3, v4] [(0, x58)] M59 _
                  refine nb_Wg (q_c_letCosts_5 _ _ _ _ _ _ _ (by omega)) ?_
                  refine nb_Gb ?_
                  refine nb_W.imp (nb_Hu H) (fun r M63 H => ?_)
                  obtain ⟨rfl, W64, g65, H⟩ := H
                  replace H := nb_Hw H
                  show nb_W 47 6 [(19, 2), (0, l1), (0, l2), (0, x58), v4] [(15, 106)] M63 _
                  refine nb_Wg (q_c_letCosts_6 _ _ _ _ _ _ _) ?_
                  refine nb_Gb ?_
                  obtain ⟨p0_, p1_, p2_, p3_, H⟩ := H
                  replace H := nb_Hw H
                  have E66 : nb_rd M63 106 0 = 107 := W64.s0 (A := 106) nb_sc106
                  have N67 : nb_ln M63 107 = 10 := W64.sn1 (A := 106) nb_sc106
                  have E68 : nb_rd M63 107 l1 = 110 + l1 := W64.sg (A := 106) (i := l1) nb_sc106 (by omega) (by omega)
                  have E69 : nb_rd M63 106 0 = 107 := W64.s0 (A := 106) nb_sc106
                  have N70 : nb_ln M63 107 = 10 := W64.sn1 (A := 106) nb_sc106
                  have E71 : nb_rd M63 107 l2 = 110 + l2 := W64.sg (A := 106) (i := l2) nb_sc106 (by omega) (by omega)
                  have E72 : nb_rd M63 (110 + l2) 7 = M63.1 (110 + l2) 7 := nb_rd_1 _ _ _
                  have E73 : nb_add (M63.1 (110 + l2) 7) 1 = M63.1 (110 + l2) 7 + 1 := nb_add_eq (by omega) (by omega)
                  refine nb_Wg (q_c_letFirst_0 _ _ _ _ (by omega) (by rw [E66]; first | done | omega) (by omega) (by rw [E66, N67]; first | done | omega) (by omega) (by rw [E69, N70]; first | done | omega) (by rw [E69, E71]; first | done | omega) (by rw [E66, E68]; first | done | omega)) ?_
                  simp only [E66, E68, E69, E71, E72, E73]
                  clear E66 N67 E68 E69 N70 E71 E72 E73
                  have W74 : nb_Lay (nb_wr M63 (110 + l1) 7 (M63.1 (110 + l2) 7 + 1)) := W64.wr (fun w => (nb_nsg (A := 106) (i := l1) nb_sc106 (by omega) (by omega)))
                  refine nb_Gr ?_
                  refine nb_Wg (q_c_letFirst_1 _ _ _ _) ?_
                  refine nb_Gs ?_
                  show nb_W 47 7 [(19, 2), (0, l1), (0, l2), (0, x58), (15, 106)] [] (nb_wr M63 (110 + l1) 7 (M63.1 (110 + l2) 7 + 1)) _
                  have E75 : nb_rd (nb_wr M63 (110 + l1) 7 (M63.1 (110 + l2) 7 + 1)) 106 8 = M63.1 106 8 := nb_rdw (Or.inr (by decide)) (nb_rd_1 _ _ _)
                  refine nb_Wg (q_c_letCosts_7 _ _ _ _ _ _ (by omega)) ?_
                  simp only [E75]
                  clear E75
                  refine nb_Gb ?_
                  refine nb_W.imp (nb_Hu H) (fun r M77 H => ?_)
                  obtain ⟨rfl, W78, g79, H⟩ := H
                  replace H := nb_Hw H
                  show nb_W 47 8 [(19, 2), (0, l1), (0, l2), (0, x58), (15, 106)] [] M77 _
                  refine nb_Wg (q_c_letCosts_8 _ _ _ _ _ _ (by omega)) ?_
                  refine nb_Gb ?_
                  refine nb_W.imp (nb_Hu H) (fun r M81 H => ?_)
                  obtain ⟨x80, rfl, W82, g83, H⟩ := H
                  replace H := nb_Hw H
                  show nb_W 47 9 [(19, 2), (0, l1), (0, l2), (0, x58), (15, 106)] [(0, x80)] M81 _
                  obtain ⟨p0_, p1_, H⟩ := H
                  replace H := nb_Hw H
                  have E84 : nb_sub x80 x58 = x80 - x58 := nb_sub_eq (by omega) (by omega)
                  refine nb_Wg (q_c_letCosts_9 _ _ _ _ _ _ _) ?_
                  simp only [E84]
                  clear E84
                  refine nb_Gs ?_
                  exact nb_Hu H W82
              · have H := nb_Hw ((nb_Hu H).2 (by omega))
                have c90 : M.1 (88 + l2) 8 ≠ 1 := by omega
                refine nb_Gr ?_
                refine nb_Wg (q_c_isWaiting_2 _ _ _) ?_
                refine nb_Gr ?_
                have E86 : nb_i2z 0 = 0 := by decide
                refine nb_Wg (q_c_isWaiting_3 _ _ _ _) ?_
                simp only [E86]
                clear E86
                refine nb_Gs ?_
                show nb_W 48 6 [(19, 2), (0, l1), (0, l2)] [(0, 0), (19, 2)] (nb_wr M 2 15 0) _
                refine nb_Wg (q_c_mayLet_6 _ _ _ _ _ _) ?_
                refine nb_Gt (by decide) ?_
                refine nb_Gr ?_
                refine nb_Wg (q_c_mayLet_8 _ _ _ _ _) ?_
                refine nb_Gr ?_
                refine nb_Wg (q_c_mayLet_9 _ _ _ _ _ _ (by omega)) ?_
                refine nb_Gb ?_
                refine nb_Wg (q_c_granted_0 _ _ _ _) ?_
                refine nb_Gt (by decide) ?_
                refine nb_Gr ?_
                refine nb_Wg (q_c_granted_2 _ _ _ _ _) ?_
                refine nb_Gr ?_
                refine nb_Wg (q_c_granted_3 _ _ _ _ _ _ (by omega)) ?_
                have W87 : nb_Lay (nb_wr (nb_wr M 2 15 0) 2 15 5) := W22.wr (fun w => (nb_nlit (by decide) (by decide)))
                refine nb_Gr ?_
                have E88 : nb_i2z 0 = 0 := by decide
                refine nb_Wg (q_c_granted_4 _ _ _ _) ?_
                simp only [E88]
                clear E88
                refine nb_Gs ?_
                show nb_W 48 10 [(19, 2), (0, l1), (0, l2)] [(0, 0)] (nb_wr (nb_wr M 2 15 0) 2 15 5) _
                refine nb_Wg (q_c_mayLet_10 _ _ _ _ _) ?_
                refine nb_Gt (by decide) ?_
                refine nb_Gr ?_
                refine nb_Wg (q_c_mayLet_17 _ _ _ _) ?_
                refine nb_Gr ?_
                have E89 : nb_i2z 0 = 0 := by decide
                refine nb_Wg (q_c_mayLet_18 _ _ _ _ _) ?_
                simp only [E89]
                clear E89
                refine nb_Gs ?_
                show nb_W 47 1 [(19, 2), (0, l1), (0, l2), v3, v4] [(0, 0)] (nb_wr (nb_wr M 2 15 0) 2 15 5) _
                refine nb_Wg (q_c_letCosts_1 _ _ _ _ _ _ _) ?_
                refine nb_Gt (by decide) ?_
                refine nb_Gr ?_
                refine nb_Wg (q_c_letCosts_2 _ _ _ _ _ _) ?_
                refine nb_Gs ?_
                exact nb_Hu H W87
            · have H := nb_Hw ((nb_Hu H).2 (by omega))
              have c95 : M.1 (88 + l1) 8 ≠ 1 := by omega
              refine nb_Gr ?_
              refine nb_Wg (q_c_isWaiting_2 _ _ _) ?_
              refine nb_Gr ?_
              have E91 : nb_i2z 0 = 0 := by decide
              refine nb_Wg (q_c_isWaiting_3 _ _ _ _) ?_
              simp only [E91]
              clear E91
              refine nb_Gs ?_
              show nb_W 48 4 [(19, 2), (0, l1), (0, l2)] [(0, 0), (19, 2)] (nb_wr M 2 15 0) _
              refine nb_Wg (q_c_mayLet_4 _ _ _ _ _ _) ?_
              refine nb_Gt (by decide) ?_
              refine nb_Gr ?_
              refine nb_Wg (q_c_mayLet_8 _ _ _ _ _) ?_
              refine nb_Gr ?_
              refine nb_Wg (q_c_mayLet_9 _ _ _ _ _ _ (by omega)) ?_
              refine nb_Gb ?_
              refine nb_Wg (q_c_granted_0 _ _ _ _) ?_
              refine nb_Gt (by decide) ?_
              refine nb_Gr ?_
              refine nb_Wg (q_c_granted_2 _ _ _ _ _) ?_
              refine nb_Gr ?_
              refine nb_Wg (q_c_granted_3 _ _ _ _ _ _ (by omega)) ?_
              have W92 : nb_Lay (nb_wr (nb_wr M 2 15 0) 2 15 5) := W22.wr (fun w => (nb_nlit (by decide) (by decide)))
              refine nb_Gr ?_
              have E93 : nb_i2z 0 = 0 := by decide
              refine nb_Wg (q_c_granted_4 _ _ _ _) ?_
              simp only [E93]
              clear E93
              refine nb_Gs ?_
              show nb_W 48 10 [(19, 2), (0, l1), (0, l2)] [(0, 0)] (nb_wr (nb_wr M 2 15 0) 2 15 5) _
              refine nb_Wg (q_c_mayLet_10 _ _ _ _ _) ?_
              refine nb_Gt (by decide) ?_
              refine nb_Gr ?_
              refine nb_Wg (q_c_mayLet_17 _ _ _ _) ?_
              refine nb_Gr ?_
              have E94 : nb_i2z 0 = 0 := by decide
              refine nb_Wg (q_c_mayLet_18 _ _ _ _ _) ?_
              simp only [E94]
              clear E94
              refine nb_Gs ?_
              show nb_W 47 1 [(19, 2), (0, l1), (0, l2), v3, v4] [(0, 0)] (nb_wr (nb_wr M 2 15 0) 2 15 5) _
              refine nb_Wg (q_c_letCosts_1 _ _ _ _ _ _ _) ?_
              refine nb_Gt (by decide) ?_
              refine nb_Gr ?_
              refine nb_Wg (q_c_letCosts_2 _ _ _ _ _ _) ?_
              refine nb_Gs ?_
              exact nb_Hu H W92
        · have H := nb_Hw ((nb_Hu H).2 (by omega))
          have c102 : M.1 Ho 13 ≤ l2 := by omega
          refine nb_Gr ?_
          refine nb_Wg (q_c_isPerson_3 _ _ _) ?_
          refine nb_Gr ?_
          have E97 : nb_i2z 0 = 0 := by decide
          refine nb_Wg (q_c_isPerson_4 _ _ _ _) ?_
          simp only [E97]
          clear E97
          refine nb_Gs ?_
          show nb_W 10 3 [(19, 2), (0, l1), (0, l2)] [(0, 0)] M _
          refine nb_Wg (q_c_areTwo_3 _ _ _ _ _) ?_
          refine nb_Gt (by decide) ?_
          refine nb_Gr ?_
          refine nb_Wg (q_c_areTwo_6 _ _ _ _) ?_
          refine nb_Gr ?_
          have E98 : nb_i2z 0 = 0 := by decide
          refine nb_Wg (q_c_areTwo_7 _ _ _ _ _) ?_
          simp only [E98]
          clear E98
          refine nb_Gs ?_
          show nb_W 48 1 [(19, 2), (0, l1), (0, l2)] [(0, 0), (19, 2)] M _
          refine nb_Wg (q_c_mayLet_1 _ _ _ _ _ _ (by omega)) ?_
          refine nb_Gb ?_
          refine nb_Wg (q_c_granted_0 _ _ _ _) ?_
          refine nb_Gt (by decide) ?_
          refine nb_Gr ?_
          refine nb_Wg (q_c_granted_2 _ _ _ _ _) ?_
          refine nb_Gr ?_
          refine nb_Wg (q_c_granted_3 _ _ _ _ _ _ (by omega)) ?_
          have W99 : nb_Lay (nb_wr M 2 15 1) := W.wr (fun w => (nb_nlit (by decide) (by decide)))
          refine nb_Gr ?_
          have E100 : nb_i2z 0 = 0 := by decide
          refine nb_Wg (q_c_granted_4 _ _ _ _) ?_
          simp only [E100]
          clear E100
          refine nb_Gs ?_
          show nb_W 48 2 [(19, 2), (0, l1), (0, l2)] [(0, 0)] (nb_wr M 2 15 1) _
          refine nb_Wg (q_c_mayLet_2 _ _ _ _ _) ?_
          refine nb_Gt (by decide) ?_
          refine nb_Gr ?_
          refine nb_Wg (q_c_mayLet_17 _ _ _ _) ?_
          refine nb_Gr ?_
          have E101 : nb_i2z 0 = 0 := by decide
          refine nb_Wg (q_c_mayLet_18 _ _ _ _ _) ?_
          simp only [E101]
          clear E101
          refine nb_Gs ?_
          show nb_W 47 1 [(19, 2), (0, l1), (0, l2), v3, v4] [(0, 0)] (nb_wr M 2 15 1) _
          refine nb_Wg (q_c_letCosts_1 _ _ _ _ _ _ _) ?_
          refine nb_Gt (by decide) ?_
          refine nb_Gr ?_
          refine nb_Wg (q_c_letCosts_2 _ _ _ _ _ _) ?_
          refine nb_Gs ?_
          exact nb_Hu H W99
    · have H := nb_Hw ((nb_Hu H).2 (by omega))
      have c109 : M.1 Ho 13 ≤ l1 := by omega
      refine nb_Gr ?_
      refine nb_Wg (q_c_isPerson_3 _ _ _) ?_
      refine nb_Gr ?_
      have E104 : nb_i2z 0 = 0 := by decide
      refine nb_Wg (q_c_isPerson_4 _ _ _ _) ?_
      simp only [E104]
      clear E104
      refine nb_Gs ?_
      show nb_W 10 1 [(19, 2), (0, l1), (0, l2)] [(0, 0)] M _
      refine nb_Wg (q_c_areTwo_1 _ _ _ _ _) ?_
      refine nb_Gt (by decide) ?_
      refine nb_Gr ?_
      refine nb_Wg (q_c_areTwo_6 _ _ _ _) ?_
      refine nb_Gr ?_
      have E105 : nb_i2z 0 = 0 := by decide
      refine nb_Wg (q_c_areTwo_7 _ _ _ _ _) ?_
      simp only [E105]
      clear E105
      refine nb_Gs ?_
      show nb_W 48 1 [(19, 2), (0, l1), (0, l2)] [(0, 0), (19, 2)] M _
      refine nb_Wg (q_c_mayLet_1 _ _ _ _ _ _ (by omega)) ?_
      refine nb_Gb ?_
      refine nb_Wg (q_c_granted_0 _ _ _ _) ?_
      refine nb_Gt (by decide) ?_
      refine nb_Gr ?_
      refine nb_Wg (q_c_granted_2 _ _ _ _ _) ?_
      refine nb_Gr ?_
      refine nb_Wg (q_c_granted_3 _ _ _ _ _ _ (by omega)) ?_
      have W106 : nb_Lay (nb_wr M 2 15 1) := W.wr (fun w => (nb_nlit (by decide) (by decide)))
      refine nb_Gr ?_
      have E107 : nb_i2z 0 = 0 := by decide
      refine nb_Wg (q_c_granted_4 _ _ _ _) ?_
      simp only [E107]
      clear E107
      refine nb_Gs ?_
      show nb_W 48 2 [(19, 2), (0, l1), (0, l2)] [(0, 0)] (nb_wr M 2 15 1) _
      refine nb_Wg (q_c_mayLet_2 _ _ _ _ _) ?_
      refine nb_Gt (by decide) ?_
      refine nb_Gr ?_
      refine nb_Wg (q_c_mayLet_17 _ _ _ _) ?_
      refine nb_Gr ?_
      have E108 : nb_i2z 0 = 0 := by decide
      refine nb_Wg (q_c_mayLet_18 _ _ _ _ _) ?_
      simp only [E108]
      clear E108
      refine nb_Gs ?_
      show nb_W 47 1 [(19, 2), (0, l1), (0, l2), v3, v4] [(0, 0)] (nb_wr M 2 15 1) _
      refine nb_Wg (q_c_letCosts_1 _ _ _ _ _ _ _) ?_
      refine nb_Gt (by decide) ?_
      refine nb_Gr ?_
      refine nb_Wg (q_c_letCosts_2 _ _ _ _ _ _) ?_
      refine nb_Gs ?_
      exact nb_Hu H W106

theorem w_c_by_0 {l1 l2 l3 Ho : Int} {M : nb_M} {Q : List nb_V → nb_M → Prop} (W : nb_Lay M) (hHo : nb_hs Ho) (hx2 : M.1 2 2 = Ho) (H : 0 ≤ M.1 Ho 13 ∧ M.1 Ho 13 ≤ 10 ∧ (0 < M.1 Ho 13 → (l3 < 0 → (nb_Lay (nb_wr M 2 15 1) → Q [(0, (-1))] (nb_wr M 2 15 1))) ∧ (0 ≤ l3 → (l3 < 6 → (l1 < 0 → (nb_Lay (nb_wr M 2 15 1) → Q [(0, (-1))] (nb_wr M 2 15 1))) ∧ (0 ≤ l1 → (l1 < 5 → nb_W 34 0 [(19, 2), (0, l1), (0, l2), (0, l3), (98, 0), (98, 0)] [] (nb_wr M 2 15 0) (fun r M13 => ∃ x12 : Int, r = [(0, x12)] ∧ nb_Lay M13 ∧ M13.1 2 2 = Ho ∧ (nb_Lay M13 → Q [(0, x12)] M13))) ∧ (5 ≤ l1 → (nb_Lay (nb_wr M 2 15 1) → Q [(0, (-1))] (nb_wr M 2 15 1))))) ∧ (6 ≤ l3 → (nb_Lay (nb_wr M 2 15 1) → Q [(0, (-1))] (nb_wr M 2 15 1))))) ∧ (M.1 Ho 13 ≤ 0 → (nb_Lay (nb_wr M 2 15 1) → Q [(0, (-1))] (nb_wr M 2 15 1)))) :
    nb_W 33 0 [(19, 2), (0, l1), (0, l2), (0, l3)] [] M Q := by
  replace H := nb_Hw H
  have uhHo := hHo
  unfold nb_hs at uhHo
  refine nb_Wg (q_c_by_0 _ _ _ _ _ (by omega)) ?_
  refine nb_Gb ?_
  refine nb_Wg (q_c_isSum_0 _ _ _ (by omega)) ?_
  refine nb_Gb ?_
  obtain ⟨p0_, p1_, H⟩ := H
  replace H := nb_Hw H
  have E1 : nb_rd M 2 2 = Ho := hx2
  have E2 : nb_rd M Ho 13 = M.1 Ho 13 := nb_rd_1 _ _ _
  refine nb_Wg (q_c_isOpen_0 _ _ (by omega) (by rw [E1]; first | done | omega)) ?_
  simp only [E1, E2]
  clear E1 E2
  refine nb_Gi (fun c29 => ?_) (fun c29 => ?_)
  · have H := nb_Hw ((nb_Hu H).1 c29)
    refine nb_Gr ?_
    refine nb_Wg (q_c_isOpen_1 _ _) ?_
    refine nb_Gr ?_
    have E3 : nb_i2z 1 = 1 := by decide
    refine nb_Wg (q_c_isOpen_3 _ _ _) ?_
    simp only [E3]
    clear E3
    refine nb_Gs ?_
    show nb_W 13 1 [(19, 2), (0, l3)] [(0, 1)] M _
    refine nb_Wg (q_c_isSum_1 _ _ _ _) ?_
    refine nb_Gf (by decide) ?_
    refine nb_Gr ?_
    refine nb_Wg (q_c_isSum_2 _ _ _) ?_
    refine nb_Gi (fun c24 => ?_) (fun c24 => ?_)
    · have H := nb_Hw ((nb_Hu H).1 c24)
      refine nb_Gr ?_
      refine nb_Wg (q_c_isSum_5 _ _ _) ?_
      refine nb_Gr ?_
      have E4 : nb_i2z 0 = 0 := by decide
      refine nb_Wg (q_c_isSum_6 _ _ _ _) ?_
      simp only [E4]
      clear E4
      refine nb_Gs ?_
      show nb_W 33 1 [(19, 2), (0, l1), (0, l2), (0, l3)] [(0, 0), (19, 2)] M _
      refine nb_Wg (q_c_by_1 _ _ _ _ _ _ _) ?_
      refine nb_Gt (by decide) ?_
      refine nb_Gr ?_
      refine nb_Wg (q_c_by_5 _ _ _ _ _ _) ?_
      refine nb_Gr ?_
      refine nb_Wg (q_c_by_6 _ _ _ _ _ _ _ (by omega)) ?_
      refine nb_Gb ?_
      refine nb_Wg (q_c_granted_0 _ _ _ _) ?_
      refine nb_Gt (by decide) ?_
      refine nb_Gr ?_
      refine nb_Wg (q_c_granted_2 _ _ _ _ _) ?_
      refine nb_Gr ?_
      refine nb_Wg (q_c_granted_3 _ _ _ _ _ _ (by omega)) ?_
      have W5 : nb_Lay (nb_wr M 2 15 1) := W.wr (fun w => (nb_nlit (by decide) (by decide)))
      refine nb_Gr ?_
      have E6 : nb_i2z 0 = 0 := by decide
      refine nb_Wg (q_c_granted_4 _ _ _ _) ?_
      simp only [E6]
      clear E6
      refine nb_Gs ?_
      show nb_W 33 7 [(19, 2), (0, l1), (0, l2), (0, l3)] [(0, 0)] (nb_wr M 2 15 1) _
      refine nb_Wg (q_c_by_7 _ _ _ _ _ _) ?_
      refine nb_Gt (by decide) ?_
      refine nb_Gr ?_
      refine nb_Wg (q_c_by_8 _ _ _ _ _) ?_
      refine nb_Gs ?_
      exact nb_Hu H W5
    · have H := nb_Hw ((nb_Hu H).2 (by omega))
      have c24 : 0 ≤ l3 := by omega
      refine nb_Gr ?_
      refine nb_Wg (q_c_isSum_3 _ _ _) ?_
      refine nb_Gi (fun c23 => ?_) (fun c23 => ?_)
      · have H := nb_Hw ((nb_Hu H).1 c23)
        refine nb_Gr ?_
        refine nb_Wg (q_c_isSum_4 _ _ _) ?_
        refine nb_Gr ?_
        have E7 : nb_i2z 1 = 1 := by decide
        refine nb_Wg (q_c_isSum_6 _ _ _ _) ?_
        simp only [E7]
        clear E7
        refine nb_Gs ?_
        show nb_W 33 1 [(19, 2), (0, l1), (0, l2), (0, l3)] [(0, 1), (19, 2)] M _
        refine nb_Wg (q_c_by_1 _ _ _ _ _ _ _) ?_
        refine nb_Gf (by decide) ?_
        refine nb_Gr ?_
        refine nb_Wg (q_c_by_2 _ _ _ _ _ _) ?_
        refine nb_Gi (fun c19 => ?_) (fun c19 => ?_)
        · have H := nb_Hw ((nb_Hu H).1 c19)
          refine nb_Gr ?_
          refine nb_Wg (q_c_by_5 _ _ _ _ _ _) ?_
          refine nb_Gr ?_
          refine nb_Wg (q_c_by_6 _ _ _ _ _ _ _ (by omega)) ?_
          refine nb_Gb ?_
          refine nb_Wg (q_c_granted_0 _ _ _ _) ?_
          refine nb_Gt (by decide) ?_
          refine nb_Gr ?_
          refine nb_Wg (q_c_granted_2 _ _ _ _ _) ?_
          refine nb_Gr ?_
          refine nb_Wg (q_c_granted_3 _ _ _ _ _ _ (by omega)) ?_
          have W8 : nb_Lay (nb_wr M 2 15 1) := W.wr (fun w => (nb_nlit (by decide) (by decide)))
          refine nb_Gr ?_
          have E9 : nb_i2z 0 = 0 := by decide
          refine nb_Wg (q_c_granted_4 _ _ _ _) ?_
          simp only [E9]
          clear E9
          refine nb_Gs ?_
          show nb_W 33 7 [(19, 2), (0, l1), (0, l2), (0, l3)] [(0, 0)] (nb_wr M 2 15 1) _
          refine nb_Wg (q_c_by_7 _ _ _ _ _ _) ?_
          refine nb_Gt (by decide) ?_
          refine nb_Gr ?_
          refine nb_Wg (q_c_by_8 _ _ _ _ _) ?_
          refine nb_Gs ?_
          exact nb_Hu H W8
        · have H := nb_Hw ((nb_Hu H).2 (by omega))
          have c19 : 0 ≤ l1 := by omega
          refine nb_Gr ?_
          refine nb_Wg (q_c_by_3 _ _ _ _ _ _) ?_
          refine nb_Gi (fun c18 => ?_) (fun c18 => ?_)
          · have H := nb_Hw ((nb_Hu H).1 c18)
            refine nb_Gr ?_
            refine nb_Wg (q_c_by_4 _ _ _ _ _ _) ?_
            refine nb_Gr ?_
            refine nb_Wg (q_c_by_6 _ _ _ _ _ _ _ (by omega)) ?_
            refine nb_Gb ?_
            refine nb_Wg (q_c_granted_0 _ _ _ _) ?_
            refine nb_Gf (by decide) ?_
            refine nb_Gr ?_
            refine nb_Wg (q_c_granted_1 _ _ _ _ _) ?_
            refine nb_Gr ?_
            refine nb_Wg (q_c_granted_3 _ _ _ _ _ _ (by omega)) ?_
            have W10 : nb_Lay (nb_wr M 2 15 0) := W.wr (fun w => (nb_nlit (by decide) (by decide)))
            refine nb_Gr ?_
            have E11 : nb_i2z 1 = 1 := by decide
            refine nb_Wg (q_c_granted_4 _ _ _ _) ?_
            simp only [E11]
            clear E11
            refine nb_Gs ?_
            show nb_W 33 7 [(19, 2), (0, l1), (0, l2), (0, l3)] [(0, 1)] (nb_wr M 2 15 0) _
            refine nb_Wg (q_c_by_7 _ _ _ _ _ _) ?_
            refine nb_Gf (by decide) ?_
            refine nb_Gr ?_
            refine nb_Wg (q_c_by_9 _ _ _ _ _ (by omega)) ?_
            refine nb_Gb ?_
            refine nb_W.imp (nb_Hu H) (fun r M13 H => ?_)
            obtain ⟨x12, rfl, W14, g15, H⟩ := H
            replace H := nb_Hw H
            show nb_W 33 10 [(19, 2), (0, l1), (0, l2), (0, l3)] [(0, x12)] M13 _
            refine nb_Wg (q_c_by_10 _ _ _ _ _ _) ?_
            refine nb_Gs ?_
            exact nb_Hu H W14
          · have H := nb_Hw ((nb_Hu H).2 (by omega))
            have c18 : 5 ≤ l1 := by omega
            refine nb_Gr ?_
            refine nb_Wg (q_c_by_5 _ _ _ _ _ _) ?_
            refine nb_Gr ?_
            refine nb_Wg (q_c_by_6 _ _ _ _ _ _ _ (by omega)) ?_
            refine nb_Gb ?_
            refine nb_Wg (q_c_granted_0 _ _ _ _) ?_
            refine nb_Gt (by decide) ?_
            refine nb_Gr ?_
            refine nb_Wg (q_c_granted_2 _ _ _ _ _) ?_
            refine nb_Gr ?_
            refine nb_Wg (q_c_granted_3 _ _ _ _ _ _ (by omega)) ?_
            have W16 : nb_Lay (nb_wr M 2 15 1) := W.wr (fun w => (nb_nlit (by decide) (by decide)))
            refine nb_Gr ?_
            have E17 : nb_i2z 0 = 0 := by decide
            refine nb_Wg (q_c_granted_4 _ _ _ _) ?_
            simp only [E17]
            clear E17
            refine nb_Gs ?_
            show nb_W 33 7 [(19, 2), (0, l1), (0, l2), (0, l3)] [(0, 0)] (nb_wr M 2 15 1) _
            refine nb_Wg (q_c_by_7 _ _ _ _ _ _) ?_
            refine nb_Gt (by decide) ?_
            refine nb_Gr ?_
            refine nb_Wg (q_c_by_8 _ _ _ _ _) ?_
            refine nb_Gs ?_
            exact nb_Hu H W16
      · have H := nb_Hw ((nb_Hu H).2 (by omega))
        have c23 : 6 ≤ l3 := by omega
        refine nb_Gr ?_
        refine nb_Wg (q_c_isSum_5 _ _ _) ?_
        refine nb_Gr ?_
        have E20 : nb_i2z 0 = 0 := by decide
        refine nb_Wg (q_c_isSum_6 _ _ _ _) ?_
        simp only [E20]
        clear E20
        refine nb_Gs ?_
        show nb_W 33 1 [(19, 2), (0, l1), (0, l2), (0, l3)] [(0, 0), (19, 2)] M _
        refine nb_Wg (q_c_by_1 _ _ _ _ _ _ _) ?_
        refine nb_Gt (by decide) ?_
        refine nb_Gr ?_
        refine nb_Wg (q_c_by_5 _ _ _ _ _ _) ?_
        refine nb_Gr ?_
        refine nb_Wg (q_c_by_6 _ _ _ _ _ _ _ (by omega)) ?_
        refine nb_Gb ?_
        refine nb_Wg (q_c_granted_0 _ _ _ _) ?_
        refine nb_Gt (by decide) ?_
        refine nb_Gr ?_
        refine nb_Wg (q_c_granted_2 _ _ _ _ _) ?_
        refine nb_Gr ?_
        refine nb_Wg (q_c_granted_3 _ _ _ _ _ _ (by omega)) ?_
        have W21 : nb_Lay (nb_wr M 2 15 1) := W.wr (fun w => (nb_nlit (by decide) (by decide)))
        refine nb_Gr ?_
        have E22 : nb_i2z 0 = 0 := by decide
        refine nb_Wg (q_c_granted_4 _ _ _ _) ?_
        simp only [E22]
        clear E22
        refine nb_Gs ?_
        show nb_W 33 7 [(19, 2), (0, l1), (0, l2), (0, l3)] [(0, 0)] (nb_wr M 2 15 1) _
        refine nb_Wg (q_c_by_7 _ _ _ _ _ _) ?_
        refine nb_Gt (by decide) ?_
        refine nb_Gr ?_
        refine nb_Wg (q_c_by_8 _ _ _ _ _) ?_
        refine nb_Gs ?_
        exact nb_Hu H W21
  · have H := nb_Hw ((nb_Hu H).2 (by omega))
    have c29 : M.1 Ho 13 ≤ 0 := by omega
    refine nb_Gr ?_
    refine nb_Wg (q_c_isOpen_2 _ _) ?_
    refine nb_Gr ?_
    have E25 : nb_i2z 0 = 0 := by decide
    refine nb_Wg (q_c_isOpen_3 _ _ _) ?_
    simp only [E25]
    clear E25
    refine nb_Gs ?_
    show nb_W 13 1 [(19, 2), (0, l3)] [(0, 0)] M _
    refine nb_Wg (q_c_isSum_1 _ _ _ _) ?_
    refine nb_Gt (by decide) ?_
    refine nb_Gr ?_
    refine nb_Wg (q_c_isSum_5 _ _ _) ?_
    refine nb_Gr ?_
    have E26 : nb_i2z 0 = 0 := by decide
    refine nb_Wg (q_c_isSum_6 _ _ _ _) ?_
    simp only [E26]
    clear E26
    refine nb_Gs ?_
    show nb_W 33 1 [(19, 2), (0, l1), (0, l2), (0, l3)] [(0, 0), (19, 2)] M _
    refine nb_Wg (q_c_by_1 _ _ _ _ _ _ _) ?_
    refine nb_Gt (by decide) ?_
    refine nb_Gr ?_
    refine nb_Wg (q_c_by_5 _ _ _ _ _ _) ?_
    refine nb_Gr ?_
    refine nb_Wg (q_c_by_6 _ _ _ _ _ _ _ (by omega)) ?_
    refine nb_Gb ?_
    refine nb_Wg (q_c_granted_0 _ _ _ _) ?_
    refine nb_Gt (by decide) ?_
    refine nb_Gr ?_
    refine nb_Wg (q_c_granted_2 _ _ _ _ _) ?_
    refine nb_Gr ?_
    refine nb_Wg (q_c_granted_3 _ _ _ _ _ _ (by omega)) ?_
    have W27 : nb_Lay (nb_wr M 2 15 1) := W.wr (fun w => (nb_nlit (by decide) (by decide)))
    refine nb_Gr ?_
    have E28 : nb_i2z 0 = 0 := by decide
    refine nb_Wg (q_c_granted_4 _ _ _ _) ?_
    simp only [E28]
    clear E28
    refine nb_Gs ?_
    show nb_W 33 7 [(19, 2), (0, l1), (0, l2), (0, l3)] [(0, 0)] (nb_wr M 2 15 1) _
    refine nb_Wg (q_c_by_7 _ _ _ _ _ _) ?_
    refine nb_Gt (by decide) ?_
    refine nb_Gr ?_
    refine nb_Wg (q_c_by_8 _ _ _ _ _) ?_
    refine nb_Gs ?_
    exact nb_Hu H W27

theorem w_c_totalBy_0 {l1 l2 l3 Ho : Int} {v4 v5 : nb_V} {M : nb_M} {Q : List nb_V → nb_M → Prop} (W : nb_Lay M) (hHo : nb_hs Ho) (hx2 : M.1 2 2 = Ho) (H : nb_W 23 0 [(19, 2)] [] M (fun r M2 => r = [(15, 106)] ∧ nb_Lay M2 ∧ M2.1 2 2 = Ho ∧ nb_W 34 2 [(19, 2), (0, l1), (0, l2), (0, l3), (15, 106), (0, 0)] [] M2 Q)) :
    nb_W 34 0 [(19, 2), (0, l1), (0, l2), (0, l3), v4, v5] [] M Q := by
  replace H := nb_Hw H
  have uhHo := hHo
  unfold nb_hs at uhHo
  refine nb_Wg (q_c_totalBy_0 _ _ _ _ _ _ _ (by omega)) ?_
  refine nb_Gb ?_
  refine nb_W.imp (nb_Hu H) (fun r M2 H => ?_)
  obtain ⟨rfl, W3, g4, H⟩ := H
  replace H := nb_Hw H
  show nb_W 34 1 [(19, 2), (0, l1), (0, l2), (0, l3), v4, v5] [(15, 106)] M2 _
  refine nb_Wg (q_c_totalBy_1 _ _ _ _ _ _ _ _) ?_
  refine nb_Gr ?_
  exact nb_Hu H

theorem w_m_letCosts_0 {l1 l2 : Int} {v3 v4 v5 : nb_V} {M : nb_M} {Q : List nb_V → nb_M → Prop} (W : nb_Lay M) (H : 0 ≤ M.1 603 14 ∧ M.1 603 14 ≤ 1 ∧ (M.1 603 14 = 0 → (nb_Lay (nb_wr (nb_wr (nb_wr M 603 0 0) 603 11 0) 603 11 1) → Q [(0, (-1000))] (nb_wr (nb_wr (nb_wr M 603 0 0) 603 11 0) 603 11 1))) ∧ (M.1 603 14 ≠ 0 → 0 ≤ M.1 606 5 ∧ M.1 606 5 ≤ 10 ∧ (l1 < 0 → (nb_Lay (nb_wr (nb_wr (nb_wr M 603 0 0) 603 11 0) 603 11 1) → Q [(0, (-1000))] (nb_wr (nb_wr (nb_wr M 603 0 0) 603 11 0) 603 11 1))) ∧ (0 ≤ l1 → (M.1 606 5 - 1 < l1 → (nb_Lay (nb_wr (nb_wr (nb_wr M 603 0 0) 603 11 0) 603 11 1) → Q [(0, (-1000))] (nb_wr (nb_wr (nb_wr M 603 0 0) 603 11 0) 603 11 1))) ∧ (l1 ≤ M.1 606 5 - 1 → (l2 < 0 → (nb_Lay (nb_wr (nb_wr (nb_wr M 603 0 0) 603 11 0) 603 11 1) → Q [(0, (-1000))] (nb_wr (nb_wr (nb_wr M 603 0 0) 603 11 0) 603 11 1))) ∧ (0 ≤ l2 → (M.1 606 5 - 1 < l2 → (nb_Lay (nb_wr (nb_wr (nb_wr M 603 0 0) 603 11 0) 603 11 1) → Q [(0, (-1000))] (nb_wr (nb_wr (nb_wr M 603 0 0) 603 11 0) 603 11 1))) ∧ (l2 ≤ M.1 606 5 - 1 → (l1 = l2 → (nb_Lay (nb_wr (nb_wr (nb_wr M 603 0 0) 603 11 0) 603 11 1) → Q [(0, (-1000))] (nb_wr (nb_wr (nb_wr M 603 0 0) 603 11 0) 603 11 1))) ∧ (l1 ≠ l2 → (M.1 608 (12 + 8 * l1) = 1 → (M.1 608 (12 + 8 * l2) = 1 → (M.1 608 (12 + 8 * l2 + 3) < M.1 608 (12 + 8 * l1 + 3) → (nb_Lay (nb_wr (nb_wr (nb_wr M 603 0 0) 603 11 0) 603 11 5) → Q [(0, (-1000))] (nb_wr (nb_wr (nb_wr M 603 0 0) 603 11 0) 603 11 5))) ∧ (M.1 608 (12 + 8 * l1 + 3) ≤ M.1 608 (12 + 8 * l2 + 3) → pu_Rr (M.1 606) ∧ pu_Rc (pu_cpy (M.1 606) (M.1 612) 23 0 18) ∧ pu_Rp (pu_cpy (M.1 606) (M.1 613) 41 0 70) ∧ pu_Rw (M.1 608) ∧ pu_Rk (M.1 608) ∧ 0 ≤ (M.1 606) 4 ∧ (M.1 606) 4 ≤ 4 ∧ 0 ≤ M.1 606 2 ∧ M.1 606 2 ≤ 9000 ∧ l1 ≤ 9 ∧ pu_Rw (pu_eve (M.1 606) (pu_cpy (M.1 606) (M.1 612) 23 0 18) (pu_cpy (M.1 606) (M.1 613) 41 0 70) ((M.1 606) 4) (M.1 606 2) (pu_cpy (M.1 608) (M.1 609) 0 0 108)) ∧ 0 ≤ (M.1 606 2) ∧ (M.1 606 2) ≤ 9000 ∧ -2147483648 ≤ M.1 608 (12 + 8 * l2 + 3) + 1 ∧ M.1 608 (12 + 8 * l2 + 3) + 1 ≤ 2147483647 ∧ pu_Rw (nb_ud (M.1 608) (12 + 8 * l1 + 3) (M.1 608 (12 + 8 * l2 + 3) + 1)) ∧ pu_Rk (nb_ud (M.1 608) (12 + 8 * l1 + 3) (M.1 608 (12 + 8 * l2 + 3) + 1)) ∧ pu_Rw (pu_eve (M.1 606) (pu_cpy (M.1 606) (M.1 612) 23 0 18) (pu_cpy (M.1 606) (M.1 613) 41 0 70) ((M.1 606) 4) (M.1 606 2) (pu_cpy (nb_ud (M.1 608) (12 + 8 * l1 + 3) (M.1 608 (12 + 8 * l2 + 3) + 1)) (pu_eve (M.1 606) (pu_cpy (M.1 606) (M.1 612) 23 0 18) (pu_cpy (M.1 606) (M.1 613) 41 0 70) ((M.1 606) 4) (M.1 606 2) (pu_cpy (M.1 608) (M.1 609) 0 0 108)) 0 0 108)) ∧ -2147483648 ≤ pu_wo (pu_cpy (M.1 606) (M.1 613) 41 0 70) (pu_eve (M.1 606) (pu_cpy (M.1 606) (M.1 612) 23 0 18) (pu_cpy (M.1 606) (M.1 613) 41 0 70) ((M.1 606) 4) (M.1 606 2) (pu_cpy (nb_ud (M.1 608) (12 + 8 * l1 + 3) (M.1 608 (12 + 8 * l2 + 3) + 1)) (pu_eve (M.1 606) (pu_cpy (M.1 606) (M.1 612) 23 0 18) (pu_cpy (M.1 606) (M.1 613) 41 0 70) ((M.1 606) 4) (M.1 606 2) (pu_cpy (M.1 608) (M.1 609) 0 0 108)) 0 0 108)) (M.1 606 2) l1 - (pu_wo (pu_cpy (M.1 606) (M.1 613) 41 0 70) (pu_eve (M.1 606) (pu_cpy (M.1 606) (M.1 612) 23 0 18) (pu_cpy (M.1 606) (M.1 613) 41 0 70) ((M.1 606) 4) (M.1 606 2) (pu_cpy (M.1 608) (M.1 609) 0 0 108)) (M.1 606 2) l1) ∧ pu_wo (pu_cpy (M.1 606) (M.1 613) 41 0 70) (pu_eve (M.1 606) (pu_cpy (M.1 606) (M.1 612) 23 0 18) (pu_cpy (M.1 606) (M.1 613) 41 0 70) ((M.1 606) 4) (M.1 606 2) (pu_cpy (nb_ud (M.1 608) (12 + 8 * l1 + 3) (M.1 608 (12 + 8 * l2 + 3) + 1)) (pu_eve (M.1 606) (pu_cpy (M.1 606) (M.1 612) 23 0 18) (pu_cpy (M.1 606) (M.1 613) 41 0 70) ((M.1 606) 4) (M.1 606 2) (pu_cpy (M.1 608) (M.1 609) 0 0 108)) 0 0 108)) (M.1 606 2) l1 - (pu_wo (pu_cpy (M.1 606) (M.1 613) 41 0 70) (pu_eve (M.1 606) (pu_cpy (M.1 606) (M.1 612) 23 0 18) (pu_cpy (M.1 606) (M.1 613) 41 0 70) ((M.1 606) 4) (M.1 606 2) (pu_cpy (M.1 608) (M.1 609) 0 0 108)) (M.1 606 2) l1) ≤ 2147483647 ∧ (nb_Lay (nb_wr (nb_up (nb_wr (nb_up (nb_wr (nb_up (nb_up (nb_wr (nb_wr (nb_wr M 603 0 0) 603 11 0) 603 25 ((M.1 606) 4)) 612 (pu_cpy (M.1 606) (M.1 612) 23 0 18)) 613 (pu_cpy (M.1 606) (M.1 613) 41 0 70)) 603 26 (M.1 606 2)) 609 (pu_eve (M.1 606) (pu_cpy (M.1 606) (M.1 612) 23 0 18) (pu_cpy (M.1 606) (M.1 613) 41 0 70) ((M.1 606) 4) (M.1 606 2) (pu_cpy (M.1 608) (M.1 609) 0 0 108))) 608 (12 + 8 * l1 + 3) (M.1 608 (12 + 8 * l2 + 3) + 1)) 609 (pu_eve (M.1 606) (pu_cpy (M.1 606) (M.1 612) 23 0 18) (pu_cpy (M.1 606) (M.1 613) 41 0 70) ((M.1 606) 4) (M.1 606 2) (pu_cpy (nb_ud (M.1 608) (12 + 8 * l1 + 3) (M.1 608 (12 + 8 * l2 + 3) + 1)) (pu_eve (M.1 606) (pu_cpy (M.1 606) (M.1 612) 23 0 18) (pu_cpy (M.1 606) (M.1 613) 41 0 70) ((M.1 606) 4) (M.1 606 2) (pu_cpy (M.1 608) (M.1 609) 0 0 108)) 0 0 108))) 608 (12 + 8 * l1 + 3) (M.1 608 (12 + 8 * l1 + 3))) → Q [(0, pu_wo (pu_cpy (M.1 606) (M.1 613) 41 0 70) (pu_eve (M.1 606) (pu_cpy (M.1 606) (M.1 612) 23 0 18) (pu_cpy (M.1 606) (M.1 613) 41 0 70) ((M.1 606) 4) (M.1 606 2) (pu_cpy (nb_ud (M.1 608) (12 + 8 * l1 + 3) (M.1 608 (12 + 8 * l2 + 3) + 1)) (pu_eve (M.1 606) (pu_cpy (M.1 606) (M.1 612) 23 0 18) (pu_cpy (M.1 606) (M.1 613) 41 0 70) ((M.1 606) 4) (M.1 606 2) (pu_cpy (M.1 608) (M.1 609) 0 0 108)) 0 0 108)) (M.1 606 2) l1 - (pu_wo (pu_cpy (M.1 606) (M.1 613) 41 0 70) (pu_eve (M.1 606) (pu_cpy (M.1 606) (M.1 612) 23 0 18) (pu_cpy (M.1 606) (M.1 613) 41 0 70) ((M.1 606) 4) (M.1 606 2) (pu_cpy (M.1 608) (M.1 609) 0 0 108)) (M.1 606 2) l1))] (nb_wr (nb_up (nb_wr (nb_up (nb_wr (nb_up (nb_up (nb_wr (nb_wr (nb_wr M 603 0 0) 603 11 0) 603 25 ((M.1 606) 4)) 612 (pu_cpy (M.1 606) (M.1 612) 23 0 18)) 613 (pu_cpy (M.1 606) (M.1 613) 41 0 70)) 603 26 (M.1 606 2)) 609 (pu_eve (M.1 606) (pu_cpy (M.1 606) (M.1 612) 23 0 18) (pu_cpy (M.1 606) (M.1 613) 41 0 70) ((M.1 606) 4) (M.1 606 2) (pu_cpy (M.1 608) (M.1 609) 0 0 108))) 608 (12 + 8 * l1 + 3) (M.1 608 (12 + 8 * l2 + 3) + 1)) 609 (pu_eve (M.1 606) (pu_cpy (M.1 606) (M.1 612) 23 0 18) (pu_cpy (M.1 606) (M.1 613) 41 0 70) ((M.1 606) 4) (M.1 606 2) (pu_cpy (nb_ud (M.1 608) (12 + 8 * l1 + 3) (M.1 608 (12 + 8 * l2 + 3) + 1)) (pu_eve (M.1 606) (pu_cpy (M.1 606) (M.1 612) 23 0 18) (pu_cpy (M.1 606) (M.1 613) 41 0 70) ((M.1 606) 4) (M.1 606 2) (pu_cpy (M.1 608) (M.1 609) 0 0 108)) 0 0 108))) 608 (12 + 8 * l1 + 3) (M.1 608 (12 + 8 * l1 + 3)))))) ∧ (M.1 608 (12 + 8 * l2) ≠ 1 → (nb_Lay (nb_wr (nb_wr (nb_wr M 603 0 0) 603 11 0) 603 11 5) → Q [(0, (-1000))] (nb_wr (nb_wr (nb_wr M 603 0 0) 603 11 0) 603 11 5)))) ∧ (M.1 608 (12 + 8 * l1) ≠ 1 → (nb_Lay (nb_wr (nb_wr (nb_wr M 603 0 0) 603 11 0) 603 11 5) → Q [(0, (-1000))] (nb_wr (nb_wr (nb_wr M 603 0 0) 603 11 0) 603 11 5)))))))))) :
    nb_W 176 0 [(20, 603), (0, l1), (0, l2), v3, v4, v5] [] M Q := by
  replace H := nb_Hw H
  refine nb_Wg (q_m_letCosts_0 _ _ _ _ _ _ _ (by omega)) ?_
  refine nb_Gb ?_
  refine nb_Wg (q_m_good_0 _ _ (by omega)) ?_
  have W1 : nb_Lay (nb_wr M 603 0 0) := W.wr (fun w => (nb_nlit (by decide) (by decide)))
  refine nb_Gr ?_
  refine nb_Wg (q_m_good_1 _ _ (by omega)) ?_
  have W2 : nb_Lay (nb_wr (nb_wr M 603 0 0) 603 11 0) := W1.wr (fun w => (nb_nlit (by decide) (by decide)))
  refine nb_Gr ?_
  refine nb_Wg (q_m_good_2 _ _) ?_
  refine nb_Gs ?_
  show nb_W 176 1 [(20, 603), (0, l1), (0, l2), v3, v4, v5] [] (nb_wr (nb_wr M 603 0 0) 603 11 0) _
  refine nb_Wg (q_m_letCosts_1 _ _ _ _ _ _ _ (by omega)) ?_
  refine nb_Gb ?_
  obtain ⟨p0_, p1_, H⟩ := H
  replace H := nb_Hw H
  have E3 : nb_rd (nb_wr (nb_wr M 603 0 0) 603 11 0) 603 14 = M.1 603 14 := nb_rdw (Or.inr (by decide)) (nb_rdw (Or.inr (by decide)) (nb_rd_1 _ _ _))
  refine nb_Wg (q_m_isPerson_0 _ _ _ (by omega)) ?_
  simp only [E3]
  clear E3
  refine nb_Gi (fun c104 => ?_) (fun c104 => ?_)
  · have H := nb_Hw ((nb_Hu H).1 c104)
    refine nb_Gr ?_
    refine nb_Wg (q_m_isPerson_4 _ _ _) ?_
    refine nb_Gr ?_
    have E4 : nb_i2z 0 = 0 := by decide
    refine nb_Wg (q_m_isPerson_5 _ _ _ _) ?_
    simp only [E4]
    clear E4
    refine nb_Gs ?_
    show nb_W 176 2 [(20, 603), (0, l1), (0, l2), v3, v4, v5] [(0, 0)] (nb_wr (nb_wr M 603 0 0) 603 11 0) _
    refine nb_Wg (q_m_letCosts_2 _ _ _ _ _ _ _ _) ?_
    refine nb_Gt (by decide) ?_
    refine nb_Gr ?_
    refine nb_Wg (q_m_letCosts_6 _ _ _ _ _ _ _ (by omega)) ?_
    refine nb_Gb ?_
    refine nb_Wg (q_m_noLess_0 _ _ _ (by omega)) ?_
    have W5 : nb_Lay (nb_wr (nb_wr (nb_wr M 603 0 0) 603 11 0) 603 11 1) := W2.wr (fun w => (nb_nlit (by decide) (by decide)))
    refine nb_Gr ?_
    refine nb_Wg (q_m_noLess_1 _ _ _) ?_
    refine nb_Gs ?_
    show nb_W 176 7 [(20, 603), (0, l1), (0, l2), v3, v4, v5] [(0, (-1000))] (nb_wr (nb_wr (nb_wr M 603 0 0) 603 11 0) 603 11 1) _
    refine nb_Wg (q_m_letCosts_7 _ _ _ _ _ _ _ _) ?_
    refine nb_Gs ?_
    exact nb_Hu H W5
  · have H := nb_Hw ((nb_Hu H).2 (by omega))
    have c104 : M.1 603 14 ≠ 0 := by omega
    refine nb_Gr ?_
    obtain ⟨p0_, p1_, H⟩ := H
    replace H := nb_Hw H
    have E6 : nb_rd (nb_wr (nb_wr M 603 0 0) 603 11 0) 603 15 = 606 := W2.m15
    have N7 : nb_ln (nb_wr (nb_wr M 603 0 0) 603 11 0) 606 = 347 := W2.lk (by decide) (by decide +kernel)
    have E8 : nb_rd (nb_wr (nb_wr M 603 0 0) 603 11 0) 606 5 = M.1 606 5 := nb_rdw (Or.inl (by decide)) (nb_rdw (Or.inl (by decide)) (nb_rd_1 _ _ _))
    have E9 : nb_sub (M.1 606 5) 1 = M.1 606 5 - 1 := nb_sub_eq (by omega) (by omega)
    refine nb_Wg (q_m_isPerson_1 _ _ _ (by omega) (by rw [E6]; first | done | omega) (by omega) (by rw [E6, N7]; first | done | omega)) ?_
    simp only [E6, E8, E9]
    clear E6 N7 E8 E9
    refine nb_Gb ?_
    refine nb_Wg (q_m_within_0 _ _ _ _) ?_
    refine nb_Gi (fun c103 => ?_) (fun c103 => ?_)
    · have H := nb_Hw ((nb_Hu H).1 c103)
      refine nb_Gr ?_
      refine nb_Wg (q_m_within_3 _ _ _ _) ?_
      refine nb_Gr ?_
      have E10 : nb_i2z 0 = 0 := by decide
      refine nb_Wg (q_m_within_4 _ _ _ _ _) ?_
      simp only [E10]
      clear E10
      refine nb_Gs ?_
      show nb_W 116 2 [(20, 603), (0, l1)] [(0, 0)] (nb_wr (nb_wr M 603 0 0) 603 11 0) _
      refine nb_Wg (q_m_isPerson_2 _ _ _ _) ?_
      refine nb_Gt (by decide) ?_
      refine nb_Gr ?_
      refine nb_Wg (q_m_isPerson_4 _ _ _) ?_
      refine nb_Gr ?_
      have E11 : nb_i2z 0 = 0 := by decide
      refine nb_Wg (q_m_isPerson_5 _ _ _ _) ?_
      simp only [E11]
      clear E11
      refine nb_Gs ?_
      show nb_W 176 2 [(20, 603), (0, l1), (0, l2), v3, v4, v5] [(0, 0)] (nb_wr (nb_wr M 603 0 0) 603 11 0) _
      refine nb_Wg (q_m_letCosts_2 _ _ _ _ _ _ _ _) ?_
      refine nb_Gt (by decide) ?_
      refine nb_Gr ?_
      refine nb_Wg (q_m_letCosts_6 _ _ _ _ _ _ _ (by omega)) ?_
      refine nb_Gb ?_
      refine nb_Wg (q_m_noLess_0 _ _ _ (by omega)) ?_
      have W12 : nb_Lay (nb_wr (nb_wr (nb_wr M 603 0 0) 603 11 0) 603 11 1) := W2.wr (fun w => (nb_nlit (by decide) (by decide)))
      refine nb_Gr ?_
      refine nb_Wg (q_m_noLess_1 _ _ _) ?_
      refine nb_Gs ?_
      show nb_W 176 7 [(20, 603), (0, l1), (0, l2), v3, v4, v5] [(0, (-1000))] (nb_wr (nb_wr (nb_wr M 603 0 0) 603 11 0) 603 11 1) _
      refine nb_Wg (q_m_letCosts_7 _ _ _ _ _ _ _ _) ?_
      refine nb_Gs ?_
      exact nb_Hu H W12
    · have H := nb_Hw ((nb_Hu H).2 (by omega))
      have c103 : 0 ≤ l1 := by omega
      refine nb_Gr ?_
      refine nb_Wg (q_m_within_1 _ _ _ _) ?_
      refine nb_Gi (fun c102 => ?_) (fun c102 => ?_)
      · have H := nb_Hw ((nb_Hu H).1 c102)
        refine nb_Gr ?_
        refine nb_Wg (q_m_within_3 _ _ _ _) ?_
        refine nb_Gr ?_
        have E13 : nb_i2z 0 = 0 := by decide
        refine nb_Wg (q_m_within_4 _ _ _ _ _) ?_
        simp only [E13]
        clear E13
        refine nb_Gs ?_
        show nb_W 116 2 [(20, 603), (0, l1)] [(0, 0)] (nb_wr (nb_wr M 603 0 0) 603 11 0) _
        refine nb_Wg (q_m_isPerson_2 _ _ _ _) ?_
        refine nb_Gt (by decide) ?_
        refine nb_Gr ?_
        refine nb_Wg (q_m_isPerson_4 _ _ _) ?_
        refine nb_Gr ?_
        have E14 : nb_i2z 0 = 0 := by decide
        refine nb_Wg (q_m_isPerson_5 _ _ _ _) ?_
        simp only [E14]
        clear E14
        refine nb_Gs ?_
        show nb_W 176 2 [(20, 603), (0, l1), (0, l2), v3, v4, v5] [(0, 0)] (nb_wr (nb_wr M 603 0 0) 603 11 0) _
        refine nb_Wg (q_m_letCosts_2 _ _ _ _ _ _ _ _) ?_
        refine nb_Gt (by decide) ?_
        refine nb_Gr ?_
        refine nb_Wg (q_m_letCosts_6 _ _ _ _ _ _ _ (by omega)) ?_
        refine nb_Gb ?_
        refine nb_Wg (q_m_noLess_0 _ _ _ (by omega)) ?_
        have W15 : nb_Lay (nb_wr (nb_wr (nb_wr M 603 0 0) 603 11 0) 603 11 1) := W2.wr (fun w => (nb_nlit (by decide) (by decide)))
        refine nb_Gr ?_
        refine nb_Wg (q_m_noLess_1 _ _ _) ?_
        refine nb_Gs ?_
        show nb_W 176 7 [(20, 603), (0, l1), (0, l2), v3, v4, v5] [(0, (-1000))] (nb_wr (nb_wr (nb_wr M 603 0 0) 603 11 0) 603 11 1) _
        refine nb_Wg (q_m_letCosts_7 _ _ _ _ _ _ _ _) ?_
        refine nb_Gs ?_
        exact nb_Hu H W15
      · have H := nb_Hw ((nb_Hu H).2 (by omega))
        have c102 : l1 ≤ M.1 606 5 - 1 := by omega
        refine nb_Gr ?_
        refine nb_Wg (q_m_within_2 _ _ _ _) ?_
        refine nb_Gr ?_
        have E16 : nb_i2z 1 = 1 := by decide
        refine nb_Wg (q_m_within_4 _ _ _ _ _) ?_
        simp only [E16]
        clear E16
        refine nb_Gs ?_
        show nb_W 116 2 [(20, 603), (0, l1)] [(0, 1)] (nb_wr (nb_wr M 603 0 0) 603 11 0) _
        refine nb_Wg (q_m_isPerson_2 _ _ _ _) ?_
        refine nb_Gf (by decide) ?_
        refine nb_Gr ?_
        refine nb_Wg (q_m_isPerson_3 _ _ _) ?_
        refine nb_Gr ?_
        have E17 : nb_i2z 1 = 1 := by decide
        refine nb_Wg (q_m_isPerson_5 _ _ _ _) ?_
        simp only [E17]
        clear E17
        refine nb_Gs ?_
        show nb_W 176 2 [(20, 603), (0, l1), (0, l2), v3, v4, v5] [(0, 1)] (nb_wr (nb_wr M 603 0 0) 603 11 0) _
        refine nb_Wg (q_m_letCosts_2 _ _ _ _ _ _ _ _) ?_
        refine nb_Gf (by decide) ?_
        refine nb_Gr ?_
        refine nb_Wg (q_m_letCosts_3 _ _ _ _ _ _ _ (by omega)) ?_
        refine nb_Gb ?_
        have E18 : nb_rd (nb_wr (nb_wr M 603 0 0) 603 11 0) 603 14 = M.1 603 14 := nb_rdw (Or.inr (by decide)) (nb_rdw (Or.inr (by decide)) (nb_rd_1 _ _ _))
        refine nb_Wg (q_m_isPerson_0 _ _ _ (by omega)) ?_
        simp only [E18]
        clear E18
        refine nb_Gf (by omega) ?_
        refine nb_Gr ?_
        have E19 : nb_rd (nb_wr (nb_wr M 603 0 0) 603 11 0) 603 15 = 606 := W2.m15
        have N20 : nb_ln (nb_wr (nb_wr M 603 0 0) 603 11 0) 606 = 347 := W2.lk (by decide) (by decide +kernel)
        have E21 : nb_rd (nb_wr (nb_wr M 603 0 0) 603 11 0) 606 5 = M.1 606 5 := nb_rdw (Or.inl (by decide)) (nb_rdw (Or.inl (by decide)) (nb_rd_1 _ _ _))
        have E22 : nb_sub (M.1 606 5) 1 = M.1 606 5 - 1 := nb_sub_eq (by omega) (by omega)
        refine nb_Wg (q_m_isPerson_1 _ _ _ (by omega) (by rw [E19]; first | done | omega) (by omega) (by rw [E19, N20]; first | done | omega)) ?_
        simp only [E19, E21, E22]
        clear E19 N20 E21 E22
        refine nb_Gb ?_
        refine nb_Wg (q_m_within_0 _ _ _ _) ?_
        refine nb_Gi (fun c101 => ?_) (fun c101 => ?_)
        · have H := nb_Hw ((nb_Hu H).1 c101)
          refine nb_Gr ?_
          refine nb_Wg (q_m_within_3 _ _ _ _) ?_
          refine nb_Gr ?_
          have E23 : nb_i2z 0 = 0 := by decide
          refine nb_Wg (q_m_within_4 _ _ _ _ _) ?_
          simp only [E23]
          clear E23
          refine nb_Gs ?_
          show nb_W 116 2 [(20, 603), (0, l2)] [(0, 0)] (nb_wr (nb_wr M 603 0 0) 603 11 0) _
          refine nb_Wg (q_m_isPerson_2 _ _ _ _) ?_
          refine nb_Gt (by decide) ?_
          refine nb_Gr ?_
          refine nb_Wg (q_m_isPerson_4 _ _ _) ?_
          refine nb_Gr ?_
          have E24 : nb_i2z 0 = 0 := by decide
          refine nb_Wg (q_m_isPerson_5 _ _ _ _) ?_
          simp only [E24]
          clear E24
          refine nb_Gs ?_
          show nb_W 176 4 [(20, 603), (0, l1), (0, l2), v3, v4, v5] [(0, 0)] (nb_wr (nb_wr M 603 0 0) 603 11 0) _
          refine nb_Wg (q_m_letCosts_4 _ _ _ _ _ _ _ _) ?_
          refine nb_Gt (by decide) ?_
          refine nb_Gr ?_
          refine nb_Wg (q_m_letCosts_6 _ _ _ _ _ _ _ (by omega)) ?_
          refine nb_Gb ?_
          refine nb_Wg (q_m_noLess_0 _ _ _ (by omega)) ?_
          have W25 : nb_Lay (nb_wr (nb_wr (nb_wr M 603 0 0) 603 11 0) 603 11 1) := W2.wr (fun w => (nb_nlit (by decide) (by decide)))
          refine nb_Gr ?_
          refine nb_Wg (q_m_noLess_1 _ _ _) ?_
          refine nb_Gs ?_
          show nb_W 176 7 [(20, 603), (0, l1), (0, l2), v3, v4, v5] [(0, (-1000))] (nb_wr (nb_wr (nb_wr M 603 0 0) 603 11 0) 603 11 1) _
          refine nb_Wg (q_m_letCosts_7 _ _ _ _ _ _ _ _) ?_
          refine nb_Gs ?_
          exact nb_Hu H W25
        · have H := nb_Hw ((nb_Hu H).2 (by omega))
          have c101 : 0 ≤ l2 := by omega
          refine nb_Gr ?_
          refine nb_Wg (q_m_within_1 _ _ _ _) ?_
          refine nb_Gi (fun c100 => ?_) (fun c100 => ?_)
          · have H := nb_Hw ((nb_Hu H).1 c100)
            refine nb_Gr ?_
            refine nb_Wg (q_m_within_3 _ _ _ _) ?_
            refine nb_Gr ?_
            have E26 : nb_i2z 0 = 0 := by decide
            refine nb_Wg (q_m_within_4 _ _ _ _ _) ?_
            simp only [E26]
            clear E26
            refine nb_Gs ?_
            show nb_W 116 2 [(20, 603), (0, l2)] [(0, 0)] (nb_wr (nb_wr M 603 0 0) 603 11 0) _
            refine nb_Wg (q_m_isPerson_2 _ _ _ _) ?_
            refine nb_Gt (by decide) ?_
            refine nb_Gr ?_
            refine nb_Wg (q_m_isPerson_4 _ _ _) ?_
            refine nb_Gr ?_
            have E27 : nb_i2z 0 = 0 := by decide
            refine nb_Wg (q_m_isPerson_5 _ _ _ _) ?_
            simp only [E27]
            clear E27
            refine nb_Gs ?_
            show nb_W 176 4 [(20, 603), (0, l1), (0, l2), v3, v4, v5] [(0, 0)] (nb_wr (nb_wr M 603 0 0) 603 11 0) _
            refine nb_Wg (q_m_letCosts_4 _ _ _ _ _ _ _ _) ?_
            refine nb_Gt (by decide) ?_
            refine nb_Gr ?_
            refine nb_Wg (q_m_letCosts_6 _ _ _ _ _ _ _ (by omega)) ?_
            refine nb_Gb ?_
            refine nb_Wg (q_m_noLess_0 _ _ _ (by omega)) ?_
            have W28 : nb_Lay (nb_wr (nb_wr (nb_wr M 603 0 0) 603 11 0) 603 11 1) := W2.wr (fun w => (nb_nlit (by decide) (by decide)))
            refine nb_Gr ?_
            refine nb_Wg (q_m_noLess_1 _ _ _) ?_
            refine nb_Gs ?_
            show nb_W 176 7 [(20, 603), (0, l1), (0, l2), v3, v4, v5] [(0, (-1000))] (nb_wr (nb_wr (nb_wr M 603 0 0) 603 11 0) 603 11 1) _
            refine nb_Wg (q_m_letCosts_7 _ _ _ _ _ _ _ _) ?_
            refine nb_Gs ?_
            exact nb_Hu H W28
          · have H := nb_Hw ((nb_Hu H).2 (by omega))
            have c100 : l2 ≤ M.1 606 5 - 1 := by omega
            refine nb_Gr ?_
            refine nb_Wg (q_m_within_2 _ _ _ _) ?_
            refine nb_Gr ?_
            have E29 : nb_i2z 1 = 1 := by decide
            refine nb_Wg (q_m_within_4 _ _ _ _ _) ?_
            simp only [E29]
            clear E29
            refine nb_Gs ?_
            show nb_W 116 2 [(20, 603), (0, l2)] [(0, 1)] (nb_wr (nb_wr M 603 0 0) 603 11 0) _
            refine nb_Wg (q_m_isPerson_2 _ _ _ _) ?_
            refine nb_Gf (by decide) ?_
            refine nb_Gr ?_
            refine nb_Wg (q_m_isPerson_3 _ _ _) ?_
            refine nb_Gr ?_
            have E30 : nb_i2z 1 = 1 := by decide
            refine nb_Wg (q_m_isPerson_5 _ _ _ _) ?_
            simp only [E30]
            clear E30
            refine nb_Gs ?_
            show nb_W 176 4 [(20, 603), (0, l1), (0, l2), v3, v4, v5] [(0, 1)] (nb_wr (nb_wr M 603 0 0) 603 11 0) _
            refine nb_Wg (q_m_letCosts_4 _ _ _ _ _ _ _ _) ?_
            refine nb_Gf (by decide) ?_
            refine nb_Gr ?_
            refine nb_Wg (q_m_letCosts_5 _ _ _ _ _ _ _) ?_
            refine nb_Gi (fun c99 => ?_) (fun c99 => ?_)
            · have H := nb_Hw ((nb_Hu H).1 c99)
              refine nb_Gr ?_
              refine nb_Wg (q_m_letCosts_6 _ _ _ _ _ _ _ (by omega)) ?_
              refine nb_Gb ?_
              refine nb_Wg (q_m_noLess_0 _ _ _ (by omega)) ?_
              have W31 : nb_Lay (nb_wr (nb_wr (nb_wr M 603 0 0) 603 11 0) 603 11 1) := W2.wr (fun w => (nb_nlit (by decide) (by decide)))
              refine nb_Gr ?_
              refine nb_Wg (q_m_noLess_1 _ _ _) ?_
              refine nb_Gs ?_
              show nb_W 176 7 [(20, 603), (0, l1), (0, l2), v3, v4, v5] [(0, (-1000))] (nb_wr (nb_wr (nb_wr M 603 0 0) 603 11 0) 603 11 1) _
              refine nb_Wg (q_m_letCosts_7 _ _ _ _ _ _ _ _) ?_
              refine nb_Gs ?_
              exact nb_Hu H W31
            · have H := nb_Hw ((nb_Hu H).2 (by omega))
              have c99 : l1 ≠ l2 := by omega
              refine nb_Gr ?_
              refine nb_Wg (q_m_letCosts_8 _ _ _ _ _ _ _ (by omega)) ?_
              refine nb_Gb ?_
              have E32 : nb_rd (nb_wr (nb_wr M 603 0 0) 603 11 0) 603 17 = 608 := W2.m17
              refine nb_Wg (q_m_canNotLet_0 _ _ _ _ (by omega)) ?_
              simp only [E32]
              clear E32
              refine nb_Gb ?_
              refine nb_Wg (q_m_isWaiting_0 _ _ _) ?_
              refine nb_Gb ?_
              have E33 : nb_mul 8 l1 = 8 * l1 := nb_mul_eq (by omega) (by omega)
              have E34 : nb_add 12 (8 * l1) = 12 + 8 * l1 := (nb_add_eq (x := 12) (y := 8 * l1) (by omega) (by omega)).trans (by omega)
              have E35 : nb_add (12 + 8 * l1) 0 = 12 + 8 * l1 := (nb_add_eq (x := 12 + 8 * l1) (y := 0) (by omega) (by omega)).trans (by omega)
              have N36 : nb_ln (nb_wr (nb_wr M 603 0 0) 603 11 0) 608 = 108 := W2.lk (by decide) (by decide +kernel)
              have E37 : nb_rd (nb_wr (nb_wr M 603 0 0) 603 11 0) 608 (12 + 8 * l1) = M.1 608 (12 + 8 * l1) := nb_rdw (Or.inl (by decide)) (nb_rdw (Or.inl (by decide)) (nb_rd_1 _ _ _))
              refine nb_Wg (q_m_its_0 _ _ _ _ (by omega) (by rw [E33, E34, E35]; first | done | omega) (by rw [E33, E34, E35, N36]; first | done | omega)) ?_
              simp only [E33, E34, E35, E37]
              clear E33 E34 E35 N36 E37
              refine nb_Gs ?_
              show nb_W 126 1 [(3, 608), (0, l1)] [(0, M.1 608 (12 + 8 * l1))] (nb_wr (nb_wr M 603 0 0) 603 11 0) _
              refine nb_Wg (q_m_isWaiting_1 _ _ _ _) ?_
              refine nb_Gi (fun c98 => ?_) (fun c98 => ?_)
              · have H := nb_Hw ((nb_Hu H).1 c98)
                refine nb_Gr ?_
                refine nb_Wg (q_m_isWaiting_2 _ _ _) ?_
                refine nb_Gr ?_
                have E38 : nb_i2z 1 = 1 := by decide
                refine nb_Wg (q_m_isWaiting_4 _ _ _ _) ?_
                simp only [E38]
                clear E38
                refine nb_Gs ?_
                show nb_W 175 1 [(20, 603), (0, l1), (0, l2)] [(0, 1)] (nb_wr (nb_wr M 603 0 0) 603 11 0) _
                refine nb_Wg (q_m_canNotLet_1 _ _ _ _ _) ?_
                refine nb_Gf (by decide) ?_
                refine nb_Gr ?_
                have E39 : nb_rd (nb_wr (nb_wr M 603 0 0) 603 11 0) 603 17 = 608 := W2.m17
                refine nb_Wg (q_m_canNotLet_2 _ _ _ _ (by omega)) ?_
                simp only [E39]
                clear E39
                refine nb_Gb ?_
                refine nb_Wg (q_m_isWaiting_0 _ _ _) ?_
                refine nb_Gb ?_
                have E40 : nb_mul 8 l2 = 8 * l2 := nb_mul_eq (by omega) (by omega)
                have E41 : nb_add 12 (8 * l2) = 12 + 8 * l2 := (nb_add_eq (x := 12) (y := 8 * l2) (by omega) (by omega)).trans (by omega)
                have E42 : nb_add (12 + 8 * l2) 0 = 12 + 8 * l2 := (nb_add_eq (x := 12 + 8 * l2) (y := 0) (by omega) (by omega)).trans (by omega)
                have N43 : nb_ln (nb_wr (nb_wr M 603 0 0) 603 11 0) 608 = 108 := W2.lk (by decide) (by decide +kernel)
                have E44 : nb_rd (nb_wr (nb_wr M 603 0 0) 603 11 0) 608 (12 + 8 * l2) = M.1 608 (12 + 8 * l2) := nb_rdw (Or.inl (by decide)) (nb_rdw (Or.inl (by decide)) (nb_rd_1 _ _ _))
                refine nb_Wg (q_m_its_0 _ _ _ _ (by omega) (by rw [E40, E41, E42]; first | done | omega) (by rw [E40, E41, E42, N43]; first | done | omega)) ?_
                simp only [E40, E41, E42, E44]
                clear E40 E41 E42 N43 E44
                refine nb_Gs ?_
                show nb_W 126 1 [(3, 608), (0, l2)] [(0, M.1 608 (12 + 8 * l2))] (nb_wr (nb_wr M 603 0 0) 603 11 0) _
                refine nb_Wg (q_m_isWaiting_1 _ _ _ _) ?_
                refine nb_Gi (fun c94 => ?_) (fun c94 => ?_)
                · have H := nb_Hw ((nb_Hu H).1 c94)
                  refine nb_Gr ?_
                  refine nb_Wg (q_m_isWaiting_2 _ _ _) ?_
                  refine nb_Gr ?_
                  have E45 : nb_i2z 1 = 1 := by decide
                  refine nb_Wg (q_m_isWaiting_4 _ _ _ _) ?_
                  simp only [E45]
                  clear E45
                  refine nb_Gs ?_
                  show nb_W 175 3 [(20, 603), (0, l1), (0, l2)] [(0, 1)] (nb_wr (nb_wr M 603 0 0) 603 11 0) _
                  refine nb_Wg (q_m_canNotLet_3 _ _ _ _ _) ?_
                  refine nb_Gf (by decide) ?_
                  refine nb_Gr ?_
                  have E46 : nb_rd (nb_wr (nb_wr M 603 0 0) 603 11 0) 603 17 = 608 := W2.m17
                  refine nb_Wg (q_m_canNotLet_4 _ _ _ _ (by omega)) ?_
                  simp only [E46]
                  clear E46
                  refine nb_Gb ?_
                  have E47 : nb_mul 8 l1 = 8 * l1 := nb_mul_eq (by omega) (by omega)
                  have E48 : nb_add 12 (8 * l1) = 12 + 8 * l1 := (nb_add_eq (x := 12) (y := 8 * l1) (by omega) (by omega)).trans (by omega)
                  have E49 : nb_add (12 + 8 * l1) 3 = 12 + 8 * l1 + 3 := nb_add_eq (by omega) (by omega)
                  have N50 : nb_ln (nb_wr (nb_wr M 603 0 0) 603 11 0) 608 = 108 := W2.lk (by decide) (by decide +kernel)
                  have E51 : nb_rd (nb_wr (nb_wr M 603 0 0) 603 11 0) 608 (12 + 8 * l1 + 3) = M.1 608 (12 + 8 * l1 + 3) := nb_rdw (Or.inl (by decide)) (nb_rdw (Or.inl (by decide)) (nb_rd_1 _ _ _))
                  refine nb_Wg (q_m_its_0 _ _ _ _ (by omega) (by rw [E47, E48, E49]; first | done | omega) (by rw [E47, E48, E49, N50]; first | done | omega)) ?_
                  simp only [E47, E48, E49, E51]
                  clear E47 E48 E49 N50 E51
                  refine nb_Gs ?_
                  show nb_W 175 5 [(20, 603), (0, l1), (0, l2)] [(0, M.1 608 (12 + 8 * l1 + 3))] (nb_wr (nb_wr M 603 0 0) 603 11 0) _
                  have E52 : nb_rd (nb_wr (nb_wr M 603 0 0) 603 11 0) 603 17 = 608 := W2.m17
                  refine nb_Wg (q_m_canNotLet_5 _ _ _ _ _ (by omega)) ?_
                  simp only [E52]
                  clear E52
                  refine nb_Gb ?_
                  have E53 : nb_mul 8 l2 = 8 * l2 := nb_mul_eq (by omega) (by omega)
                  have E54 : nb_add 12 (8 * l2) = 12 + 8 * l2 := (nb_add_eq (x := 12) (y := 8 * l2) (by omega) (by omega)).trans (by omega)
                  have E55 : nb_add (12 + 8 * l2) 3 = 12 + 8 * l2 + 3 := nb_add_eq (by omega) (by omega)
                  have N56 : nb_ln (nb_wr (nb_wr M 603 0 0) 603 11 0) 608 = 108 := W2.lk (by decide) (by decide +kernel)
                  have E57 : nb_rd (nb_wr (nb_wr M 603 0 0) 603 11 0) 608 (12 + 8 * l2 + 3) = M.1 608 (12 + 8 * l2 + 3) := nb_rdw (Or.inl (by decide)) (nb_rdw (Or.inl (by decide)) (nb_rd_1 _ _ _))
                  refine nb_Wg (q_m_its_0 _ _ _ _ (by omega) (by rw [E53, E54, E55]; first | done | omega) (by rw [E53, E54, E55, N56]; first | done | omega)) ?_
                  simp only [E53, E54, E55, E57]
                  clear E53 E54 E55 N56 E57
                  refine nb_Gs ?_
                  show nb_W 175 6 [(20, 603), (0, l1), (0, l2)] [(0, M.1 608 (12 + 8 * l2 + 3)), (0, M.1 608 (12 + 8 * l1 + 3))] (nb_wr (nb_wr M 603 0 0) 603 11 0) _
                  refine nb_Wg (q_m_canNotLet_6 _ _ _ _ _ _) ?_
                  refine nb_Gi (fun c90 => ?_) (fun c90 => ?_)
                  · have H := nb_Hw ((nb_Hu H).1 c90)
                    refine nb_Gr ?_
                    refine nb_Wg (q_m_canNotLet_7 _ _ _ _) ?_
                    refine nb_Gr ?_
                    have E58 : nb_i2z 1 = 1 := by decide
                    refine nb_Wg (q_m_canNotLet_9 _ _ _ _ _) ?_
                    simp only [E58]
                    clear E58
                    refine nb_Gs ?_
                    show nb_W 176 9 [(20, 603), (0, l1), (0, l2), v3, v4, v5] [(0, 1)] (nb_wr (nb_wr M 603 0 0) 603 11 0) _
                    refine nb_Wg (q_m_letCosts_9 _ _ _ _ _ _ _ _) ?_
                    refine nb_Gf (by decide) ?_
                    refine nb_Gr ?_
                    refine nb_Wg (q_m_letCosts_10 _ _ _ _ _ _ _ (by omega)) ?_
                    have W59 : nb_Lay (nb_wr (nb_wr (nb_wr M 603 0 0) 603 11 0) 603 11 5) := W2.wr (fun w => (nb_nlit (by decide) (by decide)))
                    refine nb_Gr ?_
                    refine nb_Wg (q_m_letCosts_11 _ _ _ _ _ _ _) ?_
                    refine nb_Gs ?_
                    exact nb_Hu H W59
                  · have H := nb_Hw ((nb_Hu H).2 (by omega))
                    have c90 : M.1 608 (12 + 8 * l1 + 3) ≤ M.1 608 (12 + 8 * l2 + 3) := by omega
                    refine nb_Gr ?_
                    refine nb_Wg (q_m_canNotLet_8 _ _ _ _) ?_
                    refine nb_Gr ?_
                    have E60 : nb_i2z 0 = 0 := by decide
                    refine nb_Wg (q_m_canNotLet_9 _ _ _ _ _) ?_
                    simp only [E60]
                    clear E60
                    refine nb_Gs ?_
                    show nb_W 176 9 [(20, 603), (0, l1), (0, l2), v3, v4, v5] [(0, 0)] (nb_wr (nb_wr M 603 0 0) 603 11 0) _
                    refine nb_Wg (q_m_letCosts_9 _ _ _ _ _ _ _ _) ?_
                    refine nb_Gt (by decide) ?_
                    refine nb_Gr ?_
                    refine nb_Wg (q_m_letCosts_12 _ _ _ _ _ _ _ (by omega)) ?_
                    refine nb_Gb ?_
                    refine nb_Wg (q_m_tellEvening_0 _ _ (by omega)) ?_
                    have W61 : nb_Lay (nb_wr (nb_wr (nb_wr M 603 0 0) 603 11 0) 603 25 ((M.1 606) 4)) := W2.wr (fun w => (nb_nlit (by decide) (by decide)))
                    have W62 : nb_Lay (nb_up (nb_wr (nb_wr (nb_wr M 603 0 0) 603 11 0) 603 25 ((M.1 606) 4)) 612 (pu_cpy (M.1 606) (M.1 612) 23 0 18)) := W61.up (fun i w => (nb_nnum (by decide) (by decide)))
                    have W63 : nb_Lay (nb_up (nb_up (nb_wr (nb_wr (nb_wr M 603 0 0) 603 11 0) 603 25 ((M.1 606) 4)) 612 (pu_cpy (M.1 606) (M.1 612) 23 0 18)) 613 (pu_cpy (M.1 606) (M.1 613) 41 0 70)) := W62.up (fun i w => (nb_nnum (by decide) (by decide)))
                    rw [show nb_R nb_P 121 0 [(20, 603)] [] (nb_wr (nb_wr M 603 0 0) 603 11 0) = some ([], nb_up (nb_up (nb_wr (nb_wr (nb_wr M 603 0 0) 603 11 0) 603 25 ((M.1 606) 4)) 612 (pu_cpy (M.1 606) (M.1 612) 23 0 18)) 613 (pu_cpy (M.1 606) (M.1 613) 41 0 70)) from (sp_m_asTold W2).trans (by first | rfl | simp [nb_wr_up, nb_up_1, nb_up_up, nb_ud])]
                    refine nb_Gp ?_
                    show nb_W 150 1 [(20, 603)] [] (nb_up (nb_up (nb_wr (nb_wr (nb_wr M 603 0 0) 603 11 0) 603 25 ((M.1 606) 4)) 612 (pu_cpy (M.1 606) (M.1 612) 23 0 18)) 613 (pu_cpy (M.1 606) (M.1 613) 41 0 70)) _
                    have E64 : nb_rd (nb_up (nb_up (nb_wr (nb_wr (nb_wr M 603 0 0) 603 11 0) 603 25 ((M.1 606) 4)) 612 (pu_cpy (M.1 606) (M.1 612) 23 0 18)) 613 (pu_cpy (M.1 606) (M.1 613) 41 0 70)) 603 15 = 606 := W63.m15
                    have N65 : nb_ln (nb_up (nb_up (nb_wr (nb_wr (nb_wr M 603 0 0) 603 11 0) 603 25 ((M.1 606) 4)) 612 (pu_cpy (M.1 606) (M.1 612) 23 0 18)) 613 (pu_cpy (M.1 606) (M.1 613) 41 0 70)) 606 = 347 := W63.lk (by decide) (by decide +kernel)
                    have E66 : nb_rd (nb_up (nb_up (nb_wr (nb_wr (nb_wr M 603 0 0) 603 11 0) 603 25 ((M.1 606) 4)) 612 (pu_cpy (M.1 606) (M.1 612) 23 0 18)) 613 (pu_cpy (M.1 606) (M.1 613) 41 0 70)) 606 2 = M.1 606 2 := nb_rdu (by decide) (nb_rdu (by decide) (nb_rdw (Or.inl (by decide)) (nb_rdw (Or.inl (by decide)) (nb_rdw (Or.inl (by decide)) (nb_rd_1 _ _ _)))))
                    refine nb_Wg (q_m_tellEvening_1 _ _ (by omega) (by rw [E64]; first | done | omega) (by omega) (by rw [E64, N65]; first | done | omega)) ?_
                    simp only [E64, E66]
                    clear E64 N65 E66
                    have W67 : nb_Lay (nb_wr (nb_up (nb_up (nb_wr (nb_wr (nb_wr M 603 0 0) 603 11 0) 603 25 ((M.1 606) 4)) 612 (pu_cpy (M.1 606) (M.1 612) 23 0 18)) 613 (pu_cpy (M.1 606) (M.1 613) 41 0 70)) 603 26 (M.1 606 2)) := W63.wr (fun w => (nb_nlit (by decide) (by decide)))
                    refine nb_Gr ?_
                    obtain ⟨p0_, p1_, p2_, p3_, p4_, p5_, p6_, p7_, p8_, H⟩ := H
                    replace H := nb_Hw H
                    refine nb_Wg (q_m_tellEvening_2 _ _ (by omega)) ?_
                    have W68 : nb_Lay (nb_up (nb_wr (nb_up (nb_up (nb_wr (nb_wr (nb_wr M 603 0 0) 603 11 0) 603 25 ((M.1 606) 4)) 612 (pu_cpy (M.1 606) (M.1 612) 23 0 18)) 613 (pu_cpy (M.1 606) (M.1 613) 41 0 70)) 603 26 (M.1 606 2)) 609 (pu_eve (M.1 606) (pu_cpy (M.1 606) (M.1 612) 23 0 18) (pu_cpy (M.1 606) (M.1 613) 41 0 70) ((M.1 606) 4) (M.1 606 2) (pu_cpy (M.1 608) (M.1 609) 0 0 108))) := W67.up (fun i w => (nb_nnum (by decide) (by decide)))
                    rw [show nb_R nb_P 134 0 [(20, 603)] [] (nb_wr (nb_up (nb_up (nb_wr (nb_wr (nb_wr M 603 0 0) 603 11 0) 603 25 ((M.1 606) 4)) 612 (pu_cpy (M.1 606) (M.1 612) 23 0 18)) 613 (pu_cpy (M.1 606) (M.1 613) 41 0 70)) 603 26 (M.1 606 2)) = some ([], nb_up (nb_wr (nb_up (nb_up (nb_wr (nb_wr (nb_wr M 603 0 0) 603 11 0) 603 25 ((M.1 606) 4)) 612 (pu_cpy (M.1 606) (M.1 612) 23 0 18)) 613 (pu_cpy (M.1 606) (M.1 613) 41 0 70)) 603 26 (M.1 606 2)) 609 (pu_eve (M.1 606) (pu_cpy (M.1 606) (M.1 612) 23 0 18) (pu_cpy (M.1 606) (M.1 613) 41 0 70) ((M.1 606) 4) (M.1 606 2) (pu_cpy (M.1 608) (M.1 609) 0 0 108))) from (sp_m_evening W67 (by first | assumption | omega | (simp [nb_wr_up, nb_up_1, nb_ud]; first | assumption | omega)) (by first | assumption | omega | (simp [nb_wr_up, nb_up_1, nb_ud]; first | assumption | omega)) (by first | assumption | omega | (simp [nb_wr_up, nb_up_1, nb_ud]; first | assumption | omega)) (by first | assumption | omega | (simp [nb_wr_up, nb_up_1, nb_ud]; first | assumption | omega)) (by first | assumption | omega | (simp [nb_wr_up, nb_up_1, nb_ud]; first | assumption | omega)) (by first | assumption | omega | (simp [nb_wr_up, nb_up_1, nb_ud]; first | assumption | omega)) (by first | assumption | omega | (simp [nb_wr_up, nb_up_1, nb_ud]; first | assumption | omega))).trans (by first | rfl | simp [nb_wr_up, nb_up_1, nb_up_up, nb_ud])]
                    refine nb_Gp ?_
                    show nb_W 150 3 [(20, 603)] [] (nb_up (nb_wr (nb_up (nb_up (nb_wr (nb_wr (nb_wr M 603 0 0) 603 11 0) 603 25 ((M.1 606) 4)) 612 (pu_cpy (M.1 606) (M.1 612) 23 0 18)) 613 (pu_cpy (M.1 606) (M.1 613) 41 0 70)) 603 26 (M.1 606 2)) 609 (pu_eve (M.1 606) (pu_cpy (M.1 606) (M.1 612) 23 0 18) (pu_cpy (M.1 606) (M.1 613) 41 0 70) ((M.1 606) 4) (M.1 606 2) (pu_cpy (M.1 608) (M.1 609) 0 0 108))) _
                    refine nb_Wg (q_m_tellEvening_3 _ _) ?_
                    refine nb_Gs ?_
                    show nb_W 176 13 [(20, 603), (0, l1), (0, l2), v3, v4, v5] [] (nb_up (nb_wr (nb_up (nb_up (nb_wr (nb_wr (nb_wr M 603 0 0) 603 11 0) 603 25 ((M.1 606) 4)) 612 (pu_cpy (M.1 606) (M.1 612) 23 0 18)) 613 (pu_cpy (M.1 606) (M.1 613) 41 0 70)) 603 26 (M.1 606 2)) 609 (pu_eve (M.1 606) (pu_cpy (M.1 606) (M.1 612) 23 0 18) (pu_cpy (M.1 606) (M.1 613) 41 0 70) ((M.1 606) 4) (M.1 606 2) (pu_cpy (M.1 608) (M.1 609) 0 0 108))) _
                    obtain ⟨p0_, p1_, p2_, p3_, H⟩ := H
                    replace H := nb_Hw H
                    refine nb_Wg (q_m_letCosts_13 _ _ _ _ _ _ _ (by omega)) ?_
                    rw [show nb_R nb_P 136 0 [(20, 603), (0, l1), (98, 0)] [] (nb_up (nb_wr (nb_up (nb_up (nb_wr (nb_wr (nb_wr M 603 0 0) 603 11 0) 603 25 ((M.1 606) 4)) 612 (pu_cpy (M.1 606) (M.1 612) 23 0 18)) 613 (pu_cpy (M.1 606) (M.1 613) 41 0 70)) 603 26 (M.1 606 2)) 609 (pu_eve (M.1 606) (pu_cpy (M.1 606) (M.1 612) 23 0 18) (pu_cpy (M.1 606) (M.1 613) 41 0 70) ((M.1 606) 4) (M.1 606 2) (pu_cpy (M.1 608) (M.1 609) 0 0 108))) = some ([(0, pu_wo (pu_cpy (M.1 606) (M.1 613) 41 0 70) (pu_eve (M.1 606) (pu_cpy (M.1 606) (M.1 612) 23 0 18) (pu_cpy (M.1 606) (M.1 613) 41 0 70) ((M.1 606) 4) (M.1 606 2) (pu_cpy (M.1 608) (M.1 609) 0 0 108)) (M.1 606 2) l1)], nb_up (nb_wr (nb_up (nb_up (nb_wr (nb_wr (nb_wr M 603 0 0) 603 11 0) 603 25 ((M.1 606) 4)) 612 (pu_cpy (M.1 606) (M.1 612) 23 0 18)) 613 (pu_cpy (M.1 606) (M.1 613) 41 0 70)) 603 26 (M.1 606 2)) 609 (pu_eve (M.1 606) (pu_cpy (M.1 606) (M.1 612) 23 0 18) (pu_cpy (M.1 606) (M.1 613) 41 0 70) ((M.1 606) 4) (M.1 606 2) (pu_cpy (M.1 608) (M.1 609) 0 0 108))) from (sp_m_waitOf W68 (by omega) (by first | assumption | omega | (simp [nb_wr_up, nb_up_1, nb_ud]; first | assumption | omega)) (by first | assumption | omega | (simp [nb_wr_up, nb_up_1, nb_ud]; first | assumption | omega)) (by first | assumption | omega | (simp [nb_wr_up, nb_up_1, nb_ud]; first | assumption | omega))).trans (by first | rfl | simp [nb_wr_up, nb_up_1, nb_up_up, nb_ud])]
                    refine nb_Gp ?_
                    show nb_W 176 14 [(20, 603), (0, l1), (0, l2), v3, v4, v5] [(0, pu_wo (pu_cpy (M.1 606) (M.1 613) 41 0 70) (pu_eve (M.1 606) (pu_cpy (M.1 606) (M.1 612) 23 0 18) (pu_cpy (M.1 606) (M.1 613) 41 0 70) ((M.1 606) 4) (M.1 606 2) (pu_cpy (M.1 608) (M.1 609) 0 0 108)) (M.1 606 2) l1)] (nb_up (nb_wr (nb_up (nb_up (nb_wr (nb_wr (nb_wr M 603 0 0) 603 11 0) 603 25 ((M.1 606) 4)) 612 (pu_cpy (M.1 606) (M.1 612) 23 0 18)) 613 (pu_cpy (M.1 606) (M.1 613) 41 0 70)) 603 26 (M.1 606 2)) 609 (pu_eve (M.1 606) (pu_cpy (M.1 606) (M.1 612) 23 0 18) (pu_cpy (M.1 606) (M.1 613) 41 0 70) ((M.1 606) 4) (M.1 606 2) (pu_cpy (M.1 608) (M.1 609) 0 0 108))) _
                    have E69 : nb_mul 8 l1 = 8 * l1 := nb_mul_eq (by omega) (by omega)
                    have E70 : nb_add 12 (8 * l1) = 12 + 8 * l1 := (nb_add_eq (x := 12) (y := 8 * l1) (by omega) (by omega)).trans (by omega)
                    have E71 : nb_add (12 + 8 * l1) 3 = 12 + 8 * l1 + 3 := nb_add_eq (by omega) (by omega)
                    have E72 : nb_rd (nb_up (nb_wr (nb_up (nb_up (nb_wr (nb_wr (nb_wr M 603 0 0) 603 11 0) 603 25 ((M.1 606) 4)) 612 (pu_cpy (M.1 606) (M.1 612) 23 0 18)) 613 (pu_cpy (M.1 606) (M.1 613) 41 0 70)) 603 26 (M.1 606 2)) 609 (pu_eve (M.1 606) (pu_cpy (M.1 606) (M.1 612) 23 0 18) (pu_cpy (M.1 606) (M.1 613) 41 0 70) ((M.1 606) 4) (M.1 606 2) (pu_cpy (M.1 608) (M.1 609) 0 0 108))) 603 17 = 608 := W68.m17
                    have N73 : nb_ln (nb_up (nb_wr (nb_up (nb_up (nb_wr (nb_wr (nb_wr M 603 0 0) 603 11 0) 603 25 ((M.1 606) 4)) 612 (pu_cpy (M.1 606) (M.1 612) 23 0 18)) 613 (pu_cpy (M.1 606) (M.1 613) 41 0 70)) 603 26 (M.1 606 2)) 609 (pu_eve (M.1 606) (pu_cpy (M.1 606) (M.1 612) 23 0 18) (pu_cpy (M.1 606) (M.1 613) 41 0 70) ((M.1 606) 4) (M.1 606 2) (pu_cpy (M.1 608) (M.1 609) 0 0 108))) 608 = 108 := W68.lk (by decide) (by decide +kernel)
                    have E74 : nb_rd (nb_up (nb_wr (nb_up (nb_up (nb_wr (nb_wr (nb_wr M 603 0 0) 603 11 0) 603 25 ((M.1 606) 4)) 612 (pu_cpy (M.1 606) (M.1 612) 23 0 18)) 613 (pu_cpy (M.1 606) (M.1 613) 41 0 70)) 603 26 (M.1 606 2)) 609 (pu_eve (M.1 606) (pu_cpy (M.1 606) (M.1 612) 23 0 18) (pu_cpy (M.1 606) (M.1 613) 41 0 70) ((M.1 606) 4) (M.1 606 2) (pu_cpy (M.1 608) (M.1 609) 0 0 108))) 608 (12 + 8 * l1 + 3) = M.1 608 (12 + 8 * l1 + 3) := nb_rdu (by decide) (nb_rdw (Or.inl (by decide)) (nb_rdu (by decide) (nb_rdu (by decide) (nb_rdw (Or.inl (by decide)) (nb_rdw (Or.inl (by decide)) (nb_rdw (Or.inl (by decide)) (nb_rd_1 _ _ _)))))))
                    have E75 : nb_rd (nb_up (nb_wr (nb_up (nb_up (nb_wr (nb_wr (nb_wr M 603 0 0) 603 11 0) 603 25 ((M.1 606) 4)) 612 (pu_cpy (M.1 606) (M.1 612) 23 0 18)) 613 (pu_cpy (M.1 606) (M.1 613) 41 0 70)) 603 26 (M.1 606 2)) 609 (pu_eve (M.1 606) (pu_cpy (M.1 606) (M.1 612) 23 0 18) (pu_cpy (M.1 606) (M.1 613) 41 0 70) ((M.1 606) 4) (M.1 606 2) (pu_cpy (M.1 608) (M.1 609) 0 0 108))) 603 17 = 608 := W68.m17
                    have E76 : nb_rd (nb_up (nb_wr (nb_up (nb_up (nb_wr (nb_wr (nb_wr M 603 0 0) 603 11 0) 603 25 ((M.1 606) 4)) 612 (pu_cpy (M.1 606) (M.1 612) 23 0 18)) 613 (pu_cpy (M.1 606) (M.1 613) 41 0 70)) 603 26 (M.1 606 2)) 609 (pu_eve (M.1 606) (pu_cpy (M.1 606) (M.1 612) 23 0 18) (pu_cpy (M.1 606) (M.1 613) 41 0 70) ((M.1 606) 4) (M.1 606 2) (pu_cpy (M.1 608) (M.1 609) 0 0 108))) 603 17 = 608 := W68.m17
                    refine nb_Wg (q_m_letCosts_14 _ _ _ _ _ _ _ _ (by omega) (by rw [E72]; first | done | omega) (by rw [E69, E70, E71]; first | done | omega) (by rw [E69, E70, E71, E72, N73]; first | done | omega)) ?_
                    simp only [E69, E70, E71, E72, E74, E75, E76]
                    clear E69 E70 E71 E72 N73 E74 E75 E76
                    refine nb_Gb ?_
                    have E77 : nb_mul 8 l2 = 8 * l2 := nb_mul_eq (by omega) (by omega)
                    have E78 : nb_add 12 (8 * l2) = 12 + 8 * l2 := (nb_add_eq (x := 12) (y := 8 * l2) (by omega) (by omega)).trans (by omega)
                    have E79 : nb_add (12 + 8 * l2) 3 = 12 + 8 * l2 + 3 := nb_add_eq (by omega) (by omega)
                    have N80 : nb_ln (nb_up (nb_wr (nb_up (nb_up (nb_wr (nb_wr (nb_wr M 603 0 0) 603 11 0) 603 25 ((M.1 606) 4)) 612 (pu_cpy (M.1 606) (M.1 612) 23 0 18)) 613 (pu_cpy (M.1 606) (M.1 613) 41 0 70)) 603 26 (M.1 606 2)) 609 (pu_eve (M.1 606) (pu_cpy (M.1 606) (M.1 612) 23 0 18) (pu_cpy (M.1 606) (M.1 613) 41 0 70) ((M.1 606) 4) (M.1 606 2) (pu_cpy (M.1 608) (M.1 609) 0 0 108))) 608 = 108 := W68.lk (by decide) (by decide +kernel)
                    have E81 : nb_rd (nb_up (nb_wr (nb_up (nb_up (nb_wr (nb_wr (nb_wr M 603 0 0) 603 11 0) 603 25 ((M.1 606) 4)) 612 (pu_cpy (M.1 606) (M.1 612) 23 0 18)) 613 (pu_cpy (M.1 606) (M.1 613) 41 0 70)) 603 26 (M.1 606 2)) 609 (pu_eve (M.1 606) (pu_cpy (M.1 606) (M.1 612) 23 0 18) (pu_cpy (M.1 606) (M.1 613) 41 0 70) ((M.1 606) 4) (M.1 606 2) (pu_cpy (M.1 608) (M.1 609) 0 0 108))) 608 (12 + 8 * l2 + 3) = M.1 608 (12 + 8 * l2 + 3) := nb_rdu (by decide) (nb_rdw (Or.inl (by decide)) (nb_rdu (by decide) (nb_rdu (by decide) (nb_rdw (Or.inl (by decide)) (nb_rdw (Or.inl (by decide)) (nb_rdw (Or.inl (by decide)) (nb_rd_1 _ _ _)))))))
                    refine nb_Wg (q_m_its_0 _ _ _ _ (by omega) (by rw [E77, E78, E79]; first | done | omega) (by rw [E77, E78, E79, N80]; first | done | omega)) ?_
                    simp only [E77, E78, E79, E81]
                    clear E77 E78 E79 N80 E81
                    refine nb_Gs ?_
                    show nb_W 176 15 [(20, 603), (0, l1), (0, l2), (0, pu_wo (pu_cpy (M.1 606) (M.1 613) 41 0 70) (pu_eve (M.1 606) (pu_cpy (M.1 606) (M.1 612) 23 0 18) (pu_cpy (M.1 606) (M.1 613) 41 0 70) ((M.1 606) 4) (M.1 606 2) (pu_cpy (M.1 608) (M.1 609) 0 0 108)) (M.1 606 2) l1), (0, 12 + 8 * l1 + 3), (0, M.1 608 (12 + 8 * l1 + 3))] [(0, M.1 608 (12 + 8 * l2 + 3)), (0, 12 + 8 * l1 + 3), (3, 608)] (nb_up (nb_wr (nb_up (nb_up (nb_wr (nb_wr (nb_wr M 603 0 0) 603 11 0) 603 25 ((M.1 606) 4)) 612 (pu_cpy (M.1 606) (M.1 612) 23 0 18)) 613 (pu_cpy (M.1 606) (M.1 613) 41 0 70)) 603 26 (M.1 606 2)) 609 (pu_eve (M.1 606) (pu_cpy (M.1 606) (M.1 612) 23 0 18) (pu_cpy (M.1 606) (M.1 613) 41 0 70) ((M.1 606) 4) (M.1 606 2) (pu_cpy (M.1 608) (M.1 609) 0 0 108))) _
                    obtain ⟨p0_, p1_, H⟩ := H
                    replace H := nb_Hw H
                    have E82 : nb_add (M.1 608 (12 + 8 * l2 + 3)) 1 = M.1 608 (12 + 8 * l2 + 3) + 1 := nb_add_eq (by omega) (by omega)
                    have N83 : nb_ln (nb_up (nb_wr (nb_up (nb_up (nb_wr (nb_wr (nb_wr M 603 0 0) 603 11 0) 603 25 ((M.1 606) 4)) 612 (pu_cpy (M.1 606) (M.1 612) 23 0 18)) 613 (pu_cpy (M.1 606) (M.1 613) 41 0 70)) 603 26 (M.1 606 2)) 609 (pu_eve (M.1 606) (pu_cpy (M.1 606) (M.1 612) 23 0 18) (pu_cpy (M.1 606) (M.1 613) 41 0 70) ((M.1 606) 4) (M.1 606 2) (pu_cpy (M.1 608) (M.1 609) 0 0 108))) 608 = 108 := W68.lk (by decide) (by decide +kernel)
                    refine nb_Wg (q_m_letCosts_15 _ _ _ _ _ _ _ _ _ _ (by omega) (by omega) (by omega) (by rw [N83]; first | done | omega)) ?_
                    simp only [E82]
                    clear E82 N83
                    have W84 : nb_Lay (nb_wr (nb_up (nb_wr (nb_up (nb_up (nb_wr (nb_wr (nb_wr M 603 0 0) 603 11 0) 603 25 ((M.1 606) 4)) 612 (pu_cpy (M.1 606) (M.1 612) 23 0 18)) 613 (pu_cpy (M.1 606) (M.1 613) 41 0 70)) 603 26 (M.1 606 2)) 609 (pu_eve (M.1 606) (pu_cpy (M.1 606) (M.1 612) 23 0 18) (pu_cpy (M.1 606) (M.1 613) 41 0 70) ((M.1 606) 4) (M.1 606 2) (pu_cpy (M.1 608) (M.1 609) 0 0 108))) 608 (12 + 8 * l1 + 3) (M.1 608 (12 + 8 * l2 + 3) + 1)) := W68.wr (fun w => (nb_nnum (by decide) (by decide)))
                    refine nb_Gr ?_
                    obtain ⟨p0_, p1_, H⟩ := H
                    replace H := nb_Hw H
                    refine nb_Wg (q_m_letCosts_16 _ _ _ _ _ _ _ (by omega)) ?_
                    have W85 : nb_Lay (nb_up (nb_wr (nb_up (nb_wr (nb_up (nb_up (nb_wr (nb_wr (nb_wr M 603 0 0) 603 11 0) 603 25 ((M.1 606) 4)) 612 (pu_cpy (M.1 606) (M.1 612) 23 0 18)) 613 (pu_cpy (M.1 606) (M.1 613) 41 0 70)) 603 26 (M.1 606 2)) 609 (pu_eve (M.1 606) (pu_cpy (M.1 606) (M.1 612) 23 0 18) (pu_cpy (M.1 606) (M.1 613) 41 0 70) ((M.1 606) 4) (M.1 606 2) (pu_cpy (M.1 608) (M.1 609) 0 0 108))) 608 (12 + 8 * l1 + 3) (M.1 608 (12 + 8 * l2 + 3) + 1)) 609 (pu_eve (M.1 606) (pu_cpy (M.1 606) (M.1 612) 23 0 18) (pu_cpy (M.1 606) (M.1 613) 41 0 70) ((M.1 606) 4) (M.1 606 2) (pu_cpy (nb_ud (M.1 608) (12 + 8 * l1 + 3) (M.1 608 (12 + 8 * l2 + 3) + 1)) (pu_eve (M.1 606) (pu_cpy (M.1 606) (M.1 612) 23 0 18) (pu_cpy (M.1 606) (M.1 613) 41 0 70) ((M.1 606) 4) (M.1 606 2) (pu_cpy (M.1 608) (M.1 609) 0 0 108)) 0 0 108))) := W84.up (fun i w => (nb_nnum (by decide) (by decide)))
                    rw [show nb_R nb_P 134 0 [(20, 603)] [] (nb_wr (nb_up (nb_wr (nb_up (nb_up (nb_wr (nb_wr (nb_wr M 603 0 0) 603 11 0) 603 25 ((M.1 606) 4)) 612 (pu_cpy (M.1 606) (M.1 612) 23 0 18)) 613 (pu_cpy (M.1 606) (M.1 613) 41 0 70)) 603 26 (M.1 606 2)) 609 (pu_eve (M.1 606) (pu_cpy (M.1 606) (M.1 612) 23 0 18) (pu_cpy (M.1 606) (M.1 613) 41 0 70) ((M.1 606) 4) (M.1 606 2) (pu_cpy (M.1 608) (M.1 609) 0 0 108))) 608 (12 + 8 * l1 + 3) (M.1 608 (12 + 8 * l2 + 3) + 1)) = some ([], nb_up (nb_wr (nb_up (nb_wr (nb_up (nb_up (nb_wr (nb_wr (nb_wr M 603 0 0) 603 11 0) 603 25 ((M.1 606) 4)) 612 (pu_cpy (M.1 606) (M.1 612) 23 0 18)) 613 (pu_cpy (M.1 606) (M.1 613) 41 0 70)) 603 26 (M.1 606 2)) 609 (pu_eve (M.1 606) (pu_cpy (M.1 606) (M.1 612) 23 0 18) (pu_cpy (M.1 606) (M.1 613) 41 0 70) ((M.1 606) 4) (M.1 606 2) (pu_cpy (M.1 608) (M.1 609) 0 0 108))) 608 (12 + 8 * l1 + 3) (M.1 608 (12 + 8 * l2 + 3) + 1)) 609 (pu_eve (M.1 606) (pu_cpy (M.1 606) (M.1 612) 23 0 18) (pu_cpy (M.1 606) (M.1 613) 41 0 70) ((M.1 606) 4) (M.1 606 2) (pu_cpy (nb_ud (M.1 608) (12 + 8 * l1 + 3) (M.1 608 (12 + 8 * l2 + 3) + 1)) (pu_eve (M.1 606) (pu_cpy (M.1 606) (M.1 612) 23 0 18) (pu_cpy (M.1 606) (M.1 613) 41 0 70) ((M.1 606) 4) (M.1 606 2) (pu_cpy (M.1 608) (M.1 609) 0 0 108)) 0 0 108))) from (sp_m_evening W84 (by first | assumption | omega | (simp [nb_wr_up, nb_up_1, nb_ud]; first | assumption | omega)) (by first | assumption | omega | (simp [nb_wr_up, nb_up_1, nb_ud]; first | assumption | omega)) (by first | assumption | omega | (simp [nb_wr_up, nb_up_1, nb_ud]; first | assumption | omega)) (by first | assumption | omega | (simp [nb_wr_up, nb_up_1, nb_ud]; first | assumption | omega)) (by first | assumption | omega | (simp [nb_wr_up, nb_up_1, nb_ud]; first | assumption | omega)) (by first | assumption | omega | (simp [nb_wr_up, nb_up_1, nb_ud]; first | assumption | omega)) (by first | assumption | omega | (simp [nb_wr_up, nb_up_1, nb_ud]; first | assumption | omega))).trans (by first | rfl | simp [nb_wr_up, nb_up_1, nb_up_up, nb_ud])]
                    refine nb_Gp ?_
                    show nb_W 176 17 [(20, 603), (0, l1), (0, l2), (0, pu_wo (pu_cpy (M.1 606) (M.1 613) 41 0 70) (pu_eve (M.1 606) (pu_cpy (M.1 606) (M.1 612) 23 0 18) (pu_cpy (M.1 606) (M.1 613) 41 0 70) ((M.1 606) 4) (M.1 606 2) (pu_cpy (M.1 608) (M.1 609) 0 0 108)) (M.1 606 2) l1), (0, 12 + 8 * l1 + 3), (0, M.1 608 (12 + 8 * l1 + 3))] [] (nb_up (nb_wr (nb_up (nb_wr (nb_up (nb_up (nb_wr (nb_wr (nb_wr M 603 0 0) 603 11 0) 603 25 ((M.1 606) 4)) 612 (pu_cpy (M.1 606) (M.1 612) 23 0 18)) 613 (pu_cpy (M.1 606) (M.1 613) 41 0 70)) 603 26 (M.1 606 2)) 609 (pu_eve (M.1 606) (pu_cpy (M.1 606) (M.1 612) 23 0 18) (pu_cpy (M.1 606) (M.1 613) 41 0 70) ((M.1 606) 4) (M.1 606 2) (pu_cpy (M.1 608) (M.1 609) 0 0 108))) 608 (12 + 8 * l1 + 3) (M.1 608 (12 + 8 * l2 + 3) + 1)) 609 (pu_eve (M.1 606) (pu_cpy (M.1 606) (M.1 612) 23 0 18) (pu_cpy (M.1 606) (M.1 613) 41 0 70) ((M.1 606) 4) (M.1 606 2) (pu_cpy (nb_ud (M.1 608) (12 + 8 * l1 + 3) (M.1 608 (12 + 8 * l2 + 3) + 1)) (pu_eve (M.1 606) (pu_cpy (M.1 606) (M.1 612) 23 0 18) (pu_cpy (M.1 606) (M.1 613) 41 0 70) ((M.1 606) 4) (M.1 606 2) (pu_cpy (M.1 608) (M.1 609) 0 0 108)) 0 0 108))) _
                    have E86 : nb_rd (nb_up (nb_wr (nb_up (nb_wr (nb_up (nb_up (nb_wr (nb_wr (nb_wr M 603 0 0) 603 11 0) 603 25 ((M.1 606) 4)) 612 (pu_cpy (M.1 606) (M.1 612) 23 0 18)) 613 (pu_cpy (M.1 606) (M.1 613) 41 0 70)) 603 26 (M.1 606 2)) 609 (pu_eve (M.1 606) (pu_cpy (M.1 606) (M.1 612) 23 0 18) (pu_cpy (M.1 606) (M.1 613) 41 0 70) ((M.1 606) 4) (M.1 606 2) (pu_cpy (M.1 608) (M.1 609) 0 0 108))) 608 (12 + 8 * l1 + 3) (M.1 608 (12 + 8 * l2 + 3) + 1)) 609 (pu_eve (M.1 606) (pu_cpy (M.1 606) (M.1 612) 23 0 18) (pu_cpy (M.1 606) (M.1 613) 41 0 70) ((M.1 606) 4) (M.1 606 2) (pu_cpy (nb_ud (M.1 608) (12 + 8 * l1 + 3) (M.1 608 (12 + 8 * l2 + 3) + 1)) (pu_eve (M.1 606) (pu_cpy (M.1 606) (M.1 612) 23 0 18) (pu_cpy (M.1 606) (M.1 613) 41 0 70) ((M.1 606) 4) (M.1 606 2) (pu_cpy (M.1 608) (M.1 609) 0 0 108)) 0 0 108))) 603 17 = 608 := W85.m17
                    have N87 : nb_ln (nb_up (nb_wr (nb_up (nb_wr (nb_up (nb_up (nb_wr (nb_wr (nb_wr M 603 0 0) 603 11 0) 603 25 ((M.1 606) 4)) 612 (pu_cpy (M.1 606) (M.1 612) 23 0 18)) 613 (pu_cpy (M.1 606) (M.1 613) 41 0 70)) 603 26 (M.1 606 2)) 609 (pu_eve (M.1 606) (pu_cpy (M.1 606) (M.1 612) 23 0 18) (pu_cpy (M.1 606) (M.1 613) 41 0 70) ((M.1 606) 4) (M.1 606 2) (pu_cpy (M.1 608) (M.1 609) 0 0 108))) 608 (12 + 8 * l1 + 3) (M.1 608 (12 + 8 * l2 + 3) + 1)) 609 (pu_eve (M.1 606) (pu_cpy (M.1 606) (M.1 612) 23 0 18) (pu_cpy (M.1 606) (M.1 613) 41 0 70) ((M.1 606) 4) (M.1 606 2) (pu_cpy (nb_ud (M.1 608) (12 + 8 * l1 + 3) (M.1 608 (12 + 8 * l2 + 3) + 1)) (pu_eve (M.1 606) (pu_cpy (M.1 606) (M.1 612) 23 0 18) (pu_cpy (M.1 606) (M.1 613) 41 0 70) ((M.1 606) 4) (M.1 606 2) (pu_cpy (M.1 608) (M.1 609) 0 0 108)) 0 0 108))) 608 = 108 := W85.lk (by decide) (by decide +kernel)
                    refine nb_Wg (q_m_letCosts_17 _ _ _ _ _ _ _ (by omega) (by rw [E86]; first | done | omega) (by rw [E86]; first | done | omega) (by omega) (by rw [E86, N87]; first | done | omega)) ?_
                    simp only [E86]
                    clear E86 N87
                    have W88 : nb_Lay (nb_wr (nb_up (nb_wr (nb_up (nb_wr (nb_up (nb_up (nb_wr (nb_wr (nb_wr M 603 0 0) 603 11 0) 603 25 ((M.1 606) 4)) 612 (pu_cpy (M.1 606) (M.1 612) 23 0 18)) 613 (pu_cpy (M.1 606) (M.1 613) 41 0 70)) 603 26 (M.1 606 2)) 609 (pu_eve (M.1 606) (pu_cpy (M.1 606) (M.1 612) 23 0 18) (pu_cpy (M.1 606) (M.1 613) 41 0 70) ((M.1 606) 4) (M.1 606 2) (pu_cpy (M.1 608) (M.1 609) 0 0 108))) 608 (12 + 8 * l1 + 3) (M.1 608 (12 + 8 * l2 + 3) + 1)) 609 (pu_eve (M.1 606) (pu_cpy (M.1 606) (M.1 612) 23 0 18) (pu_cpy (M.1 606) (M.1 613) 41 0 70) ((M.1 606) 4) (M.1 606 2) (pu_cpy (nb_ud (M.1 608) (12 + 8 * l1 + 3) (M.1 608 (12 + 8 * l2 + 3) + 1)) (pu_eve (M.1 606) (pu_cpy (M.1 606) (M.1 612) 23 0 18) (pu_cpy (M.1 606) (M.1 613) 41 0 70) ((M.1 606) 4) (M.1 606 2) (pu_cpy (M.1 608) (M.1 609) 0 0 108)) 0 0 108))) 608 (12 + 8 * l1 + 3) (M.1 608 (12 + 8 * l1 + 3))) := W85.wr (fun w => (nb_nnum (by decide) (by decide)))
                    refine nb_Gr ?_
                    obtain ⟨p0_, H⟩ := H
                    replace H := nb_Hw H
                    refine nb_Wg (q_m_letCosts_18 _ _ _ _ _ _ _ (by omega)) ?_
                    rw [show nb_R nb_P 136 0 [(20, 603), (0, l1), (98, 0)] [] (nb_wr (nb_up (nb_wr (nb_up (nb_wr (nb_up (nb_up (nb_wr (nb_wr (nb_wr M 603 0 0) 603 11 0) 603 25 ((M.1 606) 4)) 612 (pu_cpy (M.1 606) (M.1 612) 23 0 18)) 613 (pu_cpy (M.1 606) (M.1 613) 41 0 70)) 603 26 (M.1 606 2)) 609 (pu_eve (M.1 606) (pu_cpy (M.1 606) (M.1 612) 23 0 18) (pu_cpy (M.1 606) (M.1 613) 41 0 70) ((M.1 606) 4) (M.1 606 2) (pu_cpy (M.1 608) (M.1 609) 0 0 108))) 608 (12 + 8 * l1 + 3) (M.1 608 (12 + 8 * l2 + 3) + 1)) 609 (pu_eve (M.1 606) (pu_cpy (M.1 606) (M.1 612) 23 0 18) (pu_cpy (M.1 606) (M.1 613) 41 0 70) ((M.1 606) 4) (M.1 606 2) (pu_cpy (nb_ud (M.1 608) (12 + 8 * l1 + 3) (M.1 608 (12 + 8 * l2 + 3) + 1)) (pu_eve (M.1 606) (pu_cpy (M.1 606) (M.1 612) 23 0 18) (pu_cpy (M.1 606) (M.1 613) 41 0 70) ((M.1 606) 4) (M.1 606 2) (pu_cpy (M.1 608) (M.1 609) 0 0 108)) 0 0 108))) 608 (12 + 8 * l1 + 3) (M.1 608 (12 + 8 * l1 + 3))) = some ([(0, pu_wo (pu_cpy (M.1 606) (M.1 613) 41 0 70) (pu_eve (M.1 606) (pu_cpy (M.1 606) (M.1 612) 23 0 18) (pu_cpy (M.1 606) (M.1 613) 41 0 70) ((M.1 606) 4) (M.1 606 2) (pu_cpy (nb_ud (M.1 608) (12 + 8 * l1 + 3) (M.1 608 (12 + 8 * l2 + 3) + 1)) (pu_eve (M.1 606) (pu_cpy (M.1 606) (M.1 612) 23 0 18) (pu_cpy (M.1 606) (M.1 613) 41 0 70) ((M.1 606) 4) (M.1 606 2) (pu_cpy (M.1 608) (M.1 609) 0 0 108)) 0 0 108)) (M.1 606 2) l1)], nb_wr (nb_up (nb_wr (nb_up (nb_wr (nb_up (nb_up (nb_wr (nb_wr (nb_wr M 603 0 0) 603 11 0) 603 25 ((M.1 606) 4)) 612 (pu_cpy (M.1 606) (M.1 612) 23 0 18)) 613 (pu_cpy (M.1 606) (M.1 613) 41 0 70)) 603 26 (M.1 606 2)) 609 (pu_eve (M.1 606) (pu_cpy (M.1 606) (M.1 612) 23 0 18) (pu_cpy (M.1 606) (M.1 613) 41 0 70) ((M.1 606) 4) (M.1 606 2) (pu_cpy (M.1 608) (M.1 609) 0 0 108))) 608 (12 + 8 * l1 + 3) (M.1 608 (12 + 8 * l2 + 3) + 1)) 609 (pu_eve (M.1 606) (pu_cpy (M.1 606) (M.1 612) 23 0 18) (pu_cpy (M.1 606) (M.1 613) 41 0 70) ((M.1 606) 4) (M.1 606 2) (pu_cpy (nb_ud (M.1 608) (12 + 8 * l1 + 3) (M.1 608 (12 + 8 * l2 + 3) + 1)) (pu_eve (M.1 606) (pu_cpy (M.1 606) (M.1 612) 23 0 18) (pu_cpy (M.1 606) (M.1 613) 41 0 70) ((M.1 606) 4) (M.1 606 2) (pu_cpy (M.1 608) (M.1 609) 0 0 108)) 0 0 108))) 608 (12 + 8 * l1 + 3) (M.1 608 (12 + 8 * l1 + 3))) from (sp_m_waitOf W88 (by omega) (by first | assumption | omega | (simp [nb_wr_up, nb_up_1, nb_ud]; first | assumption | omega)) (by first | assumption | omega | (simp [nb_wr_up, nb_up_1, nb_ud]; first | assumption | omega)) (by first | assumption | omega | (simp [nb_wr_up, nb_up_1, nb_ud]; first | assumption | omega))).trans (by first | rfl | simp [nb_wr_up, nb_up_1, nb_up_up, nb_ud])]
                    refine nb_Gp ?_
                    show nb_W 176 19 [(20, 603), (0, l1), (0, l2), (0, pu_wo (pu_cpy (M.1 606) (M.1 613) 41 0 70) (pu_eve (M.1 606) (pu_cpy (M.1 606) (M.1 612) 23 0 18) (pu_cpy (M.1 606) (M.1 613) 41 0 70) ((M.1 606) 4) (M.1 606 2) (pu_cpy (M.1 608) (M.1 609) 0 0 108)) (M.1 606 2) l1), (0, 12 + 8 * l1 + 3), (0, M.1 608 (12 + 8 * l1 + 3))] [(0, pu_wo (pu_cpy (M.1 606) (M.1 613) 41 0 70) (pu_eve (M.1 606) (pu_cpy (M.1 606) (M.1 612) 23 0 18) (pu_cpy (M.1 606) (M.1 613) 41 0 70) ((M.1 606) 4) (M.1 606 2) (pu_cpy (nb_ud (M.1 608) (12 + 8 * l1 + 3) (M.1 608 (12 + 8 * l2 + 3) + 1)) (pu_eve (M.1 606) (pu_cpy (M.1 606) (M.1 612) 23 0 18) (pu_cpy (M.1 606) (M.1 613) 41 0 70) ((M.1 606) 4) (M.1 606 2) (pu_cpy (M.1 608) (M.1 609) 0 0 108)) 0 0 108)) (M.1 606 2) l1)] (nb_wr (nb_up (nb_wr (nb_up (nb_wr (nb_up (nb_up (nb_wr (nb_wr (nb_wr M 603 0 0) 603 11 0) 603 25 ((M.1 606) 4)) 612 (pu_cpy (M.1 606) (M.1 612) 23 0 18)) 613 (pu_cpy (M.1 606) (M.1 613) 41 0 70)) 603 26 (M.1 606 2)) 609 (pu_eve (M.1 606) (pu_cpy (M.1 606) (M.1 612) 23 0 18) (pu_cpy (M.1 606) (M.1 613) 41 0 70) ((M.1 606) 4) (M.1 606 2) (pu_cpy (M.1 608) (M.1 609) 0 0 108))) 608 (12 + 8 * l1 + 3) (M.1 608 (12 + 8 * l2 + 3) + 1)) 609 (pu_eve (M.1 606) (pu_cpy (M.1 606) (M.1 612) 23 0 18) (pu_cpy (M.1 606) (M.1 613) 41 0 70) ((M.1 606) 4) (M.1 606 2) (pu_cpy (nb_ud (M.1 608) (12 + 8 * l1 + 3) (M.1 608 (12 + 8 * l2 + 3) + 1)) (pu_eve (M.1 606) (pu_cpy (M.1 606) (M.1 612) 23 0 18) (pu_cpy (M.1 606) (M.1 613) 41 0 70) ((M.1 606) 4) (M.1 606 2) (pu_cpy (M.1 608) (M.1 609) 0 0 108)) 0 0 108))) 608 (12 + 8 * l1 + 3) (M.1 608 (12 + 8 * l1 + 3))) _
                    obtain ⟨p0_, p1_, H⟩ := H
                    replace H := nb_Hw H
                    have E89 : nb_sub (pu_wo (pu_cpy (M.1 606) (M.1 613) 41 0 70) (pu_eve (M.1 606) (pu_cpy (M.1 606) (M.1 612) 23 0 18) (pu_cpy (M.1 606) (M.1 613) 41 0 70) ((M.1 606) 4) (M.1 606 2) (pu_cpy (nb_ud (M.1 608) (12 + 8 * l1 + 3) (M.1 608 (12 + 8 * l2 + 3) + 1)) (pu_eve (M.1 606) (pu_cpy (M.1 606) (M.1 612) 23 0 18) (pu_cpy (M.1 606) (M.1 613) 41 0 70) ((M.1 606) 4) (M.1 606 2) (pu_cpy (M.1 608) (M.1 609) 0 0 108)) 0 0 108)) (M.1 606 2) l1) (pu_wo (pu_cpy (M.1 606) (M.1 613) 41 0 70) (pu_eve (M.1 606) (pu_cpy (M.1 606) (M.1 612) 23 0 18) (pu_cpy (M.1 606) (M.1 613) 41 0 70) ((M.1 606) 4) (M.1 606 2) (pu_cpy (M.1 608) (M.1 609) 0 0 108)) (M.1 606 2) l1) = pu_wo (pu_cpy (M.1 606) (M.1 613) 41 0 70) (pu_eve (M.1 606) (pu_cpy (M.1 606) (M.1 612) 23 0 18) (pu_cpy (M.1 606) (M.1 613) 41 0 70) ((M.1 606) 4) (M.1 606 2) (pu_cpy (nb_ud (M.1 608) (12 + 8 * l1 + 3) (M.1 608 (12 + 8 * l2 + 3) + 1)) (pu_eve (M.1 606) (pu_cpy (M.1 606) (M.1 612) 23 0 18) (pu_cpy (M.1 606) (M.1 613) 41 0 70) ((M.1 606) 4) (M.1 606 2) (pu_cpy (M.1 608) (M.1 609) 0 0 108)) 0 0 108)) (M.1 606 2) l1 - (pu_wo (pu_cpy (M.1 606) (M.1 613) 41 0 70) (pu_eve (M.1 606) (pu_cpy (M.1 606) (M.1 612) 23 0 18) (pu_cpy (M.1 606) (M.1 613) 41 0 70) ((M.1 606) 4) (M.1 606 2) (pu_cpy (M.1 608) (M.1 609) 0 0 108)) (M.1 606 2) l1) := nb_sub_eq (by omega) (by omega)
                    refine nb_Wg (q_m_letCosts_19 _ _ _ _ _ _ _ _) ?_
                    simp only [E89]
                    clear E89
                    refine nb_Gs ?_
                    exact nb_Hu H W88
                · have H := nb_Hw ((nb_Hu H).2 (by omega))
                  have c94 : M.1 608 (12 + 8 * l2) ≠ 1 := by omega
                  refine nb_Gr ?_
                  refine nb_Wg (q_m_isWaiting_3 _ _ _) ?_
                  refine nb_Gr ?_
                  have E91 : nb_i2z 0 = 0 := by decide
                  refine nb_Wg (q_m_isWaiting_4 _ _ _ _) ?_
                  simp only [E91]
                  clear E91
                  refine nb_Gs ?_
                  show nb_W 175 3 [(20, 603), (0, l1), (0, l2)] [(0, 0)] (nb_wr (nb_wr M 603 0 0) 603 11 0) _
                  refine nb_Wg (q_m_canNotLet_3 _ _ _ _ _) ?_
                  refine nb_Gt (by decide) ?_
                  refine nb_Gr ?_
                  refine nb_Wg (q_m_canNotLet_7 _ _ _ _) ?_
                  refine nb_Gr ?_
                  have E92 : nb_i2z 1 = 1 := by decide
                  refine nb_Wg (q_m_canNotLet_9 _ _ _ _ _) ?_
                  simp only [E92]
                  clear E92
                  refine nb_Gs ?_
                  show nb_W 176 9 [(20, 603), (0, l1), (0, l2), v3, v4, v5] [(0, 1)] (nb_wr (nb_wr M 603 0 0) 603 11 0) _
                  refine nb_Wg (q_m_letCosts_9 _ _ _ _ _ _ _ _) ?_
                  refine nb_Gf (by decide) ?_
                  refine nb_Gr ?_
                  refine nb_Wg (q_m_letCosts_10 _ _ _ _ _ _ _ (by omega)) ?_
                  have W93 : nb_Lay (nb_wr (nb_wr (nb_wr M 603 0 0) 603 11 0) 603 11 5) := W2.wr (fun w => (nb_nlit (by decide) (by decide)))
                  refine nb_Gr ?_
                  refine nb_Wg (q_m_letCosts_11 _ _ _ _ _ _ _) ?_
                  refine nb_Gs ?_
                  exact nb_Hu H W93
              · have H := nb_Hw ((nb_Hu H).2 (by omega))
                have c98 : M.1 608 (12 + 8 * l1) ≠ 1 := by omega
                refine nb_Gr ?_
                refine nb_Wg (q_m_isWaiting_3 _ _ _) ?_
                refine nb_Gr ?_
                have E95 : nb_i2z 0 = 0 := by decide
                refine nb_Wg (q_m_isWaiting_4 _ _ _ _) ?_
                simp only [E95]
                clear E95
                refine nb_Gs ?_
                show nb_W 175 1 [(20, 603), (0, l1), (0, l2)] [(0, 0)] (nb_wr (nb_wr M 603 0 0) 603 11 0) _
                refine nb_Wg (q_m_canNotLet_1 _ _ _ _ _) ?_
                refine nb_Gt (by decide) ?_
                refine nb_Gr ?_
                refine nb_Wg (q_m_canNotLet_7 _ _ _ _) ?_
                refine nb_Gr ?_
                have E96 : nb_i2z 1 = 1 := by decide
                refine nb_Wg (q_m_canNotLet_9 _ _ _ _ _) ?_
                simp only [E96]
                clear E96
                refine nb_Gs ?_
                show nb_W 176 9 [(20, 603), (0, l1), (0, l2), v3, v4, v5] [(0, 1)] (nb_wr (nb_wr M 603 0 0) 603 11 0) _
                refine nb_Wg (q_m_letCosts_9 _ _ _ _ _ _ _ _) ?_
                refine nb_Gf (by decide) ?_
                refine nb_Gr ?_
                refine nb_Wg (q_m_letCosts_10 _ _ _ _ _ _ _ (by omega)) ?_
                have W97 : nb_Lay (nb_wr (nb_wr (nb_wr M 603 0 0) 603 11 0) 603 11 5) := W2.wr (fun w => (nb_nlit (by decide) (by decide)))
                refine nb_Gr ?_
                refine nb_Wg (q_m_letCosts_11 _ _ _ _ _ _ _) ?_
                refine nb_Gs ?_
                exact nb_Hu H W97
