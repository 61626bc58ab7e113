/-! rules, printed by wip/gen -/
theorem w_c_liars_0 {Ho : Int} {M : nb_M} {Q : List nb_V → nb_M → Prop} (W : nb_Lay M) (hHo : nb_hs Ho) (hx2 : M.1 2 2 = Ho) (H : 0 ≤ M.1 Ho 13 ∧ M.1 Ho 13 ≤ 10 ∧ (0 < M.1 Ho 13 → nb_W 280 0 [(17, 142), (12, Ho), (98, 0), (98, 0), (98, 0), (98, 0)] [] (nb_wr M 2 15 0) (fun r M9 => ∃ x8 : Int, r = [(0, x8)] ∧ nb_Lay M9 ∧ M9.1 2 2 = Ho ∧ (nb_Lay M9 → Q [(0, x8)] M9))) ∧ (M.1 Ho 13 ≤ 0 → (nb_Lay (nb_wr M 2 15 1) → Q [(0, (-1))] (nb_wr M 2 15 1)))) :
    nb_W 60 0 [(19, 2)] [] M Q := by
  replace H := nb_Hw H
  have uhHo := hHo
  unfold nb_hs at uhHo
  refine nb_Wg (q_c_liars_0 _ _ (by omega)) ?_
  refine nb_Gb ?_
  obtain ⟨p0_, p1_, H⟩ := H
  replace H := nb_Hw H
  have E1 : nb_rd M 2 2 = Ho := hx2
  have E2 : nb_rd M Ho 13 = M.1 Ho 13 := nb_rd_1 _ _ _
  refine nb_Wg (q_c_isOpen_0 _ _ (by omega) (by rw [E1]; first | done | omega)) ?_
  simp only [E1, E2]
  clear E1 E2
  refine nb_Gi (fun c15 => ?_) (fun c15 => ?_)
  · have H := nb_Hw ((nb_Hu H).1 c15)
    refine nb_Gr ?_
    refine nb_Wg (q_c_isOpen_1 _ _) ?_
    refine nb_Gr ?_
    have E3 : nb_i2z 1 = 1 := by decide
    refine nb_Wg (q_c_isOpen_3 _ _ _) ?_
    simp only [E3]
    clear E3
    refine nb_Gs ?_
    show nb_W 60 1 [(19, 2)] [(0, 1), (19, 2)] M _
    refine nb_Wg (q_c_liars_1 _ _ _ _ (by omega)) ?_
    refine nb_Gb ?_
    refine nb_Wg (q_c_granted_0 _ _ _ _) ?_
    refine nb_Gf (by decide) ?_
    refine nb_Gr ?_
    refine nb_Wg (q_c_granted_1 _ _ _ _ _) ?_
    refine nb_Gr ?_
    refine nb_Wg (q_c_granted_3 _ _ _ _ _ _ (by omega)) ?_
    have W4 : nb_Lay (nb_wr M 2 15 0) := W.wr (fun w => (nb_nlit (by decide) (by decide)))
    refine nb_Gr ?_
    have E5 : nb_i2z 1 = 1 := by decide
    refine nb_Wg (q_c_granted_4 _ _ _ _) ?_
    simp only [E5]
    clear E5
    refine nb_Gs ?_
    show nb_W 60 2 [(19, 2)] [(0, 1)] (nb_wr M 2 15 0) _
    refine nb_Wg (q_c_liars_2 _ _ _) ?_
    refine nb_Gf (by decide) ?_
    refine nb_Gr ?_
    have E6 : nb_rd (nb_wr M 2 15 0) 2 13 = 142 := W4.c13
    have E7 : nb_rd (nb_wr M 2 15 0) 2 2 = Ho := nb_rdw (Or.inr (by decide)) (hx2)
    refine nb_Wg (q_c_liars_3 _ _ (by omega) (by rw [E6]; first | done | omega)) ?_
    simp only [E6, E7]
    clear E6 E7
    refine nb_Gb ?_
    refine nb_W.imp (nb_Hu H) (fun r M9 H => ?_)
    obtain ⟨x8, rfl, W10, g11, H⟩ := H
    replace H := nb_Hw H
    show nb_W 60 4 [(19, 2)] [(0, x8)] M9 _
    refine nb_Wg (q_c_liars_4 _ _ _) ?_
    refine nb_Gr ?_
    refine nb_Wg (q_c_liars_6 _ _ _) ?_
    refine nb_Gs ?_
    exact nb_Hu H W10
  · have H := nb_Hw ((nb_Hu H).2 (by omega))
    have c15 : M.1 Ho 13 ≤ 0 := by omega
    refine nb_Gr ?_
    refine nb_Wg (q_c_isOpen_2 _ _) ?_
    refine nb_Gr ?_
    have E12 : nb_i2z 0 = 0 := by decide
    refine nb_Wg (q_c_isOpen_3 _ _ _) ?_
    simp only [E12]
    clear E12
    refine nb_Gs ?_
    show nb_W 60 1 [(19, 2)] [(0, 0), (19, 2)] M _
    refine nb_Wg (q_c_liars_1 _ _ _ _ (by omega)) ?_
    refine nb_Gb ?_
    refine nb_Wg (q_c_granted_0 _ _ _ _) ?_
    refine nb_Gt (by decide) ?_
    refine nb_Gr ?_
    refine nb_Wg (q_c_granted_2 _ _ _ _ _) ?_
    refine nb_Gr ?_
    refine nb_Wg (q_c_granted_3 _ _ _ _ _ _ (by omega)) ?_
    have W13 : nb_Lay (nb_wr M 2 15 1) := W.wr (fun w => (nb_nlit (by decide) (by decide)))
    refine nb_Gr ?_
    have E14 : nb_i2z 0 = 0 := by decide
    refine nb_Wg (q_c_granted_4 _ _ _ _) ?_
    simp only [E14]
    clear E14
    refine nb_Gs ?_
    show nb_W 60 2 [(19, 2)] [(0, 0)] (nb_wr M 2 15 1) _
    refine nb_Wg (q_c_liars_2 _ _ _) ?_
    refine nb_Gt (by decide) ?_
    refine nb_Gr ?_
    refine nb_Wg (q_c_liars_5 _ _) ?_
    refine nb_Gr ?_
    refine nb_Wg (q_c_liars_6 _ _ _) ?_
    refine nb_Gs ?_
    exact nb_Hu H W13

theorem w_c_surely_0 {l1 l2 Ho : Int} {M : nb_M} {Q : List nb_V → nb_M → Prop} (W : nb_Lay M) (hHo : nb_hs Ho) (hx2 : M.1 2 2 = Ho) (H : (l1 < 0 → (nb_Lay (nb_wr M 2 15 1) → Q [(0, (-1))] (nb_wr M 2 15 1))) ∧ (0 ≤ l1 → 0 ≤ M.1 Ho 13 ∧ M.1 Ho 13 ≤ 10 ∧ (l1 < M.1 Ho 13 → (l2 < 0 → (nb_Lay (nb_wr M 2 15 1) → Q [(0, (-1))] (nb_wr M 2 15 1))) ∧ (0 ≤ l2 → (l2 < M.1 Ho 13 → (l1 = l2 → (nb_Lay (nb_wr M 2 15 1) → Q [(0, (-1))] (nb_wr M 2 15 1))) ∧ (l1 ≠ l2 → nb_W 281 0 [(17, 142), (12, Ho), (0, l1), (0, l2)] [] (nb_wr M 2 15 0) (fun r M24 => ∃ x23 : Int, r = [(0, x23)] ∧ nb_Lay M24 ∧ M24.1 2 2 = Ho ∧ (x23 = 0 → (nb_Lay M24 → Q [(0, 0)] M24)) ∧ (x23 ≠ 0 → (nb_Lay M24 → Q [(0, 1)] M24))))) ∧ (M.1 Ho 13 ≤ l2 → (nb_Lay (nb_wr M 2 15 1) → Q [(0, (-1))] (nb_wr M 2 15 1))))) ∧ (M.1 Ho 13 ≤ l1 → (nb_Lay (nb_wr M 2 15 1) → Q [(0, (-1))] (nb_wr M 2 15 1))))) :
    nb_W 61 0 [(19, 2), (0, l1), (0, l2)] [] M Q := by
  replace H := nb_Hw H
  have uhHo := hHo
  unfold nb_hs at uhHo
  refine nb_Wg (q_c_surely_0 _ _ _ _ (by omega)) ?_
  refine nb_Gb ?_
  refine nb_Wg (q_c_areTwo_0 _ _ _ _ (by omega)) ?_
  refine nb_Gb ?_
  refine nb_Wg (q_c_isPerson_0 _ _ _) ?_
  refine nb_Gi (fun c40 => ?_) (fun c40 => ?_)
  · have H := nb_Hw ((nb_Hu H).1 c40)
    refine nb_Gr ?_
    refine nb_Wg (q_c_isPerson_3 _ _ _) ?_
    refine nb_Gr ?_
    have E1 : nb_i2z 0 = 0 := by decide
    refine nb_Wg (q_c_isPerson_4 _ _ _ _) ?_
    simp only [E1]
    clear E1
    refine nb_Gs ?_
    show nb_W 10 1 [(19, 2), (0, l1), (0, l2)] [(0, 0)] M _
    refine nb_Wg (q_c_areTwo_1 _ _ _ _ _) ?_
    refine nb_Gt (by decide) ?_
    refine nb_Gr ?_
    refine nb_Wg (q_c_areTwo_6 _ _ _ _) ?_
    refine nb_Gr ?_
    have E2 : nb_i2z 0 = 0 := by decide
    refine nb_Wg (q_c_areTwo_7 _ _ _ _ _) ?_
    simp only [E2]
    clear E2
    refine nb_Gs ?_
    show nb_W 61 1 [(19, 2), (0, l1), (0, l2)] [(0, 0), (19, 2)] M _
    refine nb_Wg (q_c_surely_1 _ _ _ _ _ _ (by omega)) ?_
    refine nb_Gb ?_
    refine nb_Wg (q_c_granted_0 _ _ _ _) ?_
    refine nb_Gt (by decide) ?_
    refine nb_Gr ?_
    refine nb_Wg (q_c_granted_2 _ _ _ _ _) ?_
    refine nb_Gr ?_
    refine nb_Wg (q_c_granted_3 _ _ _ _ _ _ (by omega)) ?_
    have W3 : nb_Lay (nb_wr M 2 15 1) := W.wr (fun w => (nb_nlit (by decide) (by decide)))
    refine nb_Gr ?_
    have E4 : nb_i2z 0 = 0 := by decide
    refine nb_Wg (q_c_granted_4 _ _ _ _) ?_
    simp only [E4]
    clear E4
    refine nb_Gs ?_
    show nb_W 61 2 [(19, 2), (0, l1), (0, l2)] [(0, 0)] (nb_wr M 2 15 1) _
    refine nb_Wg (q_c_surely_2 _ _ _ _ _) ?_
    refine nb_Gt (by decide) ?_
    refine nb_Gr ?_
    refine nb_Wg (q_c_surely_3 _ _ _ _) ?_
    refine nb_Gs ?_
    exact nb_Hu H W3
  · have H := nb_Hw ((nb_Hu H).2 (by omega))
    have c40 : 0 ≤ l1 := by omega
    refine nb_Gr ?_
    obtain ⟨p0_, p1_, H⟩ := H
    replace H := nb_Hw H
    have E5 : nb_rd M 2 2 = Ho := hx2
    have E6 : nb_rd M Ho 13 = M.1 Ho 13 := nb_rd_1 _ _ _
    refine nb_Wg (q_c_isPerson_1 _ _ _ (by omega) (by rw [E5]; first | done | omega)) ?_
    simp only [E5, E6]
    clear E5 E6
    refine nb_Gi (fun c39 => ?_) (fun c39 => ?_)
    · have H := nb_Hw ((nb_Hu H).1 c39)
      refine nb_Gr ?_
      refine nb_Wg (q_c_isPerson_2 _ _ _) ?_
      refine nb_Gr ?_
      have E7 : nb_i2z 1 = 1 := by decide
      refine nb_Wg (q_c_isPerson_4 _ _ _ _) ?_
      simp only [E7]
      clear E7
      refine nb_Gs ?_
      show nb_W 10 1 [(19, 2), (0, l1), (0, l2)] [(0, 1)] M _
      refine nb_Wg (q_c_areTwo_1 _ _ _ _ _) ?_
      refine nb_Gf (by decide) ?_
      refine nb_Gr ?_
      refine nb_Wg (q_c_areTwo_2 _ _ _ _ (by omega)) ?_
      refine nb_Gb ?_
      refine nb_Wg (q_c_isPerson_0 _ _ _) ?_
      refine nb_Gi (fun c34 => ?_) (fun c34 => ?_)
      · have H := nb_Hw ((nb_Hu H).1 c34)
        refine nb_Gr ?_
        refine nb_Wg (q_c_isPerson_3 _ _ _) ?_
        refine nb_Gr ?_
        have E8 : nb_i2z 0 = 0 := by decide
        refine nb_Wg (q_c_isPerson_4 _ _ _ _) ?_
        simp only [E8]
        clear E8
        refine nb_Gs ?_
        show nb_W 10 3 [(19, 2), (0, l1), (0, l2)] [(0, 0)] M _
        refine nb_Wg (q_c_areTwo_3 _ _ _ _ _) ?_
        refine nb_Gt (by decide) ?_
        refine nb_Gr ?_
        refine nb_Wg (q_c_areTwo_6 _ _ _ _) ?_
        refine nb_Gr ?_
        have E9 : nb_i2z 0 = 0 := by decide
        refine nb_Wg (q_c_areTwo_7 _ _ _ _ _) ?_
        simp only [E9]
        clear E9
        refine nb_Gs ?_
        show nb_W 61 1 [(19, 2), (0, l1), (0, l2)] [(0, 0), (19, 2)] M _
        refine nb_Wg (q_c_surely_1 _ _ _ _ _ _ (by omega)) ?_
        refine nb_Gb ?_
        refine nb_Wg (q_c_granted_0 _ _ _ _) ?_
        refine nb_Gt (by decide) ?_
        refine nb_Gr ?_
        refine nb_Wg (q_c_granted_2 _ _ _ _ _) ?_
        refine nb_Gr ?_
        refine nb_Wg (q_c_granted_3 _ _ _ _ _ _ (by omega)) ?_
        have W10 : nb_Lay (nb_wr M 2 15 1) := W.wr (fun w => (nb_nlit (by decide) (by decide)))
        refine nb_Gr ?_
        have E11 : nb_i2z 0 = 0 := by decide
        refine nb_Wg (q_c_granted_4 _ _ _ _) ?_
        simp only [E11]
        clear E11
        refine nb_Gs ?_
        show nb_W 61 2 [(19, 2), (0, l1), (0, l2)] [(0, 0)] (nb_wr M 2 15 1) _
        refine nb_Wg (q_c_surely_2 _ _ _ _ _) ?_
        refine nb_Gt (by decide) ?_
        refine nb_Gr ?_
        refine nb_Wg (q_c_surely_3 _ _ _ _) ?_
        refine nb_Gs ?_
        exact nb_Hu H W10
      · have H := nb_Hw ((nb_Hu H).2 (by omega))
        have c34 : 0 ≤ l2 := by omega
        refine nb_Gr ?_
        have E12 : nb_rd M 2 2 = Ho := hx2
        have E13 : nb_rd M Ho 13 = M.1 Ho 13 := nb_rd_1 _ _ _
        refine nb_Wg (q_c_isPerson_1 _ _ _ (by omega) (by rw [E12]; first | done | omega)) ?_
        simp only [E12, E13]
        clear E12 E13
        refine nb_Gi (fun c33 => ?_) (fun c33 => ?_)
        · have H := nb_Hw ((nb_Hu H).1 c33)
          refine nb_Gr ?_
          refine nb_Wg (q_c_isPerson_2 _ _ _) ?_
          refine nb_Gr ?_
          have E14 : nb_i2z 1 = 1 := by decide
          refine nb_Wg (q_c_isPerson_4 _ _ _ _) ?_
          simp only [E14]
          clear E14
          refine nb_Gs ?_
          show nb_W 10 3 [(19, 2), (0, l1), (0, l2)] [(0, 1)] M _
          refine nb_Wg (q_c_areTwo_3 _ _ _ _ _) ?_
          refine nb_Gf (by decide) ?_
          refine nb_Gr ?_
          refine nb_Wg (q_c_areTwo_4 _ _ _ _) ?_
          refine nb_Gi (fun c28 => ?_) (fun c28 => ?_)
          · have H := nb_Hw ((nb_Hu H).1 c28)
            refine nb_Gr ?_
            refine nb_Wg (q_c_areTwo_6 _ _ _ _) ?_
            refine nb_Gr ?_
            have E15 : nb_i2z 0 = 0 := by decide
            refine nb_Wg (q_c_areTwo_7 _ _ _ _ _) ?_
            simp only [E15]
            clear E15
            refine nb_Gs ?_
            show nb_W 61 1 [(19, 2), (0, l1), (0, l2)] [(0, 0), (19, 2)] M _
            refine nb_Wg (q_c_surely_1 _ _ _ _ _ _ (by omega)) ?_
            refine nb_Gb ?_
            refine nb_Wg (q_c_granted_0 _ _ _ _) ?_
            refine nb_Gt (by decide) ?_
            refine nb_Gr ?_
            refine nb_Wg (q_c_granted_2 _ _ _ _ _) ?_
            refine nb_Gr ?_
            refine nb_Wg (q_c_granted_3 _ _ _ _ _ _ (by omega)) ?_
            have W16 : nb_Lay (nb_wr M 2 15 1) := W.wr (fun w => (nb_nlit (by decide) (by decide)))
            refine nb_Gr ?_
            have E17 : nb_i2z 0 = 0 := by decide
            refine nb_Wg (q_c_granted_4 _ _ _ _) ?_
            simp only [E17]
            clear E17
            refine nb_Gs ?_
            show nb_W 61 2 [(19, 2), (0, l1), (0, l2)] [(0, 0)] (nb_wr M 2 15 1) _
            refine nb_Wg (q_c_surely_2 _ _ _ _ _) ?_
            refine nb_Gt (by decide) ?_
            refine nb_Gr ?_
            refine nb_Wg (q_c_surely_3 _ _ _ _) ?_
            refine nb_Gs ?_
            exact nb_Hu H W16
          · have H := nb_Hw ((nb_Hu H).2 (by omega))
            have c28 : l1 ≠ l2 := by omega
            refine nb_Gr ?_
            refine nb_Wg (q_c_areTwo_5 _ _ _ _) ?_
            refine nb_Gr ?_
            have E18 : nb_i2z 1 = 1 := by decide
            refine nb_Wg (q_c_areTwo_7 _ _ _ _ _) ?_
            simp only [E18]
            clear E18
            refine nb_Gs ?_
            show nb_W 61 1 [(19, 2), (0, l1), (0, l2)] [(0, 1), (19, 2)] M _
            refine nb_Wg (q_c_surely_1 _ _ _ _ _ _ (by omega)) ?_
            refine nb_Gb ?_
            refine nb_Wg (q_c_granted_0 _ _ _ _) ?_
            refine nb_Gf (by decide) ?_
            refine nb_Gr ?_
            refine nb_Wg (q_c_granted_1 _ _ _ _ _) ?_
            refine nb_Gr ?_
            refine nb_Wg (q_c_granted_3 _ _ _ _ _ _ (by omega)) ?_
            have W19 : nb_Lay (nb_wr M 2 15 0) := W.wr (fun w => (nb_nlit (by decide) (by decide)))
            refine nb_Gr ?_
            have E20 : nb_i2z 1 = 1 := by decide
            refine nb_Wg (q_c_granted_4 _ _ _ _) ?_
            simp only [E20]
            clear E20
            refine nb_Gs ?_
            show nb_W 61 2 [(19, 2), (0, l1), (0, l2)] [(0, 1)] (nb_wr M 2 15 0) _
            refine nb_Wg (q_c_surely_2 _ _ _ _ _) ?_
            refine nb_Gf (by decide) ?_
            refine nb_Gr ?_
            have E21 : nb_rd (nb_wr M 2 15 0) 2 13 = 142 := W19.c13
            have E22 : nb_rd (nb_wr M 2 15 0) 2 2 = Ho := nb_rdw (Or.inr (by decide)) (hx2)
            refine nb_Wg (q_c_surely_4 _ _ _ _ (by omega) (by rw [E21]; first | done | omega)) ?_
            simp only [E21, E22]
            clear E21 E22
            refine nb_Gb ?_
            refine nb_W.imp (nb_Hu H) (fun r M24 H => ?_)
            obtain ⟨x23, rfl, W25, g26, H⟩ := H
            replace H := nb_Hw H
            show nb_W 61 5 [(19, 2), (0, l1), (0, l2)] [(0, x23)] M24 _
            refine nb_Wg (q_c_surely_5 _ _ _ _ _) ?_
            refine nb_Gi (fun c27 => ?_) (fun c27 => ?_)
            · have H := nb_Hw ((nb_Hu H).1 c27)
              refine nb_Gr ?_
              refine nb_Wg (q_c_surely_7 _ _ _ _) ?_
              refine nb_Gr ?_
              refine nb_Wg (q_c_surely_8 _ _ _ _ _) ?_
              refine nb_Gs ?_
              exact nb_Hu H W25
            · have H := nb_Hw ((nb_Hu H).2 (by omega))
              have c27 : x23 ≠ 0 := by omega
              refine nb_Gr ?_
              refine nb_Wg (q_c_surely_6 _ _ _ _) ?_
              refine nb_Gr ?_
              refine nb_Wg (q_c_surely_8 _ _ _ _ _) ?_
              refine nb_Gs ?_
              exact nb_Hu H W25
        · have H := nb_Hw ((nb_Hu H).2 (by omega))
          have c33 : M.1 Ho 13 ≤ l2 := by omega
          refine nb_Gr ?_
          refine nb_Wg (q_c_isPerson_3 _ _ _) ?_
          refine nb_Gr ?_
          have E29 : nb_i2z 0 = 0 := by decide
          refine nb_Wg (q_c_isPerson_4 _ _ _ _) ?_
          simp only [E29]
          clear E29
          refine nb_Gs ?_
          show nb_W 10 3 [(19, 2), (0, l1), (0, l2)] [(0, 0)] M _
          refine nb_Wg (q_c_areTwo_3 _ _ _ _ _) ?_
          refine nb_Gt (by decide) ?_
          refine nb_Gr ?_
          refine nb_Wg (q_c_areTwo_6 _ _ _ _) ?_
          refine nb_Gr ?_
          have E30 : nb_i2z 0 = 0 := by decide
          refine nb_Wg (q_c_areTwo_7 _ _ _ _ _) ?_
          simp only [E30]
          clear E30
          refine nb_Gs ?_
          show nb_W 61 1 [(19, 2), (0, l1), (0, l2)] [(0, 0), (19, 2)] M _
          refine nb_Wg (q_c_surely_1 _ _ _ _ _ _ (by omega)) ?_
          refine nb_Gb ?_
          refine nb_Wg (q_c_granted_0 _ _ _ _) ?_
          refine nb_Gt (by decide) ?_
          refine nb_Gr ?_
          refine nb_Wg (q_c_granted_2 _ _ _ _ _) ?_
          refine nb_Gr ?_
          refine nb_Wg (q_c_granted_3 _ _ _ _ _ _ (by omega)) ?_
          have W31 : nb_Lay (nb_wr M 2 15 1) := W.wr (fun w => (nb_nlit (by decide) (by decide)))
          refine nb_Gr ?_
          have E32 : nb_i2z 0 = 0 := by decide
          refine nb_Wg (q_c_granted_4 _ _ _ _) ?_
          simp only [E32]
          clear E32
          refine nb_Gs ?_
          show nb_W 61 2 [(19, 2), (0, l1), (0, l2)] [(0, 0)] (nb_wr M 2 15 1) _
          refine nb_Wg (q_c_surely_2 _ _ _ _ _) ?_
          refine nb_Gt (by decide) ?_
          refine nb_Gr ?_
          refine nb_Wg (q_c_surely_3 _ _ _ _) ?_
          refine nb_Gs ?_
          exact nb_Hu H W31
    · have H := nb_Hw ((nb_Hu H).2 (by omega))
      have c39 : M.1 Ho 13 ≤ l1 := by omega
      refine nb_Gr ?_
      refine nb_Wg (q_c_isPerson_3 _ _ _) ?_
      refine nb_Gr ?_
      have E35 : nb_i2z 0 = 0 := by decide
      refine nb_Wg (q_c_isPerson_4 _ _ _ _) ?_
      simp only [E35]
      clear E35
      refine nb_Gs ?_
      show nb_W 10 1 [(19, 2), (0, l1), (0, l2)] [(0, 0)] M _
      refine nb_Wg (q_c_areTwo_1 _ _ _ _ _) ?_
      refine nb_Gt (by decide) ?_
      refine nb_Gr ?_
      refine nb_Wg (q_c_areTwo_6 _ _ _ _) ?_
      refine nb_Gr ?_
      have E36 : nb_i2z 0 = 0 := by decide
      refine nb_Wg (q_c_areTwo_7 _ _ _ _ _) ?_
      simp only [E36]
      clear E36
      refine nb_Gs ?_
      show nb_W 61 1 [(19, 2), (0, l1), (0, l2)] [(0, 0), (19, 2)] M _
      refine nb_Wg (q_c_surely_1 _ _ _ _ _ _ (by omega)) ?_
      refine nb_Gb ?_
      refine nb_Wg (q_c_granted_0 _ _ _ _) ?_
      refine nb_Gt (by decide) ?_
      refine nb_Gr ?_
      refine nb_Wg (q_c_granted_2 _ _ _ _ _) ?_
      refine nb_Gr ?_
      refine nb_Wg (q_c_granted_3 _ _ _ _ _ _ (by omega)) ?_
      have W37 : nb_Lay (nb_wr M 2 15 1) := W.wr (fun w => (nb_nlit (by decide) (by decide)))
      refine nb_Gr ?_
      have E38 : nb_i2z 0 = 0 := by decide
      refine nb_Wg (q_c_granted_4 _ _ _ _) ?_
      simp only [E38]
      clear E38
      refine nb_Gs ?_
      show nb_W 61 2 [(19, 2), (0, l1), (0, l2)] [(0, 0)] (nb_wr M 2 15 1) _
      refine nb_Wg (q_c_surely_2 _ _ _ _ _) ?_
      refine nb_Gt (by decide) ?_
      refine nb_Gr ?_
      refine nb_Wg (q_c_surely_3 _ _ _ _) ?_
      refine nb_Gs ?_
      exact nb_Hu H W37

theorem w_tl_fewestLiars_0 {Ho : Int} {v2 v3 v4 v5 : nb_V} {M : nb_M} {Q : List nb_V → nb_M → Prop} (W : nb_Lay M) (hHo : nb_hs Ho) (H : nb_W 280 1 [(17, 142), (12, Ho), (0, 0), (0, 0), v4, v5] [] M Q) :
    nb_W 280 0 [(17, 142), (12, Ho), v2, v3, v4, v5] [] M Q := by
  replace H := nb_Hw H
  have uhHo := hHo
  unfold nb_hs at uhHo
  refine nb_Wg (q_tl_fewestLiars_0 _ _ _ _ _ _ _) ?_
  refine nb_Gr ?_
  exact nb_Hu H

theorem w_tl_fewestLiars_1 {Ho l2 l3 : Int} {v4 v5 : nb_V} {M : nb_M} {Q : List nb_V → nb_M → Prop} (W : nb_Lay M) (hHo : nb_hs Ho) (b0_ : 0 ≤ l3 ∧ l3 ≤ 8) (H : 0 ≤ M.1 Ho 15 ∧ M.1 Ho 15 ≤ 8 ∧ (l3 < M.1 Ho 15 → nb_W 280 1 [(17, 142), (12, Ho), (0, nb_or l2 (nb_shl 1 (M.1 (Ho + 17) l3))), (0, l3 + 1), v4, v5] [] M Q) ∧ (M.1 Ho 15 ≤ l3 → nb_W 280 4 [(17, 142), (12, Ho), (0, l2), (0, l2), (0, 0), v5] [] M Q)) :
    nb_W 280 1 [(17, 142), (12, Ho), (0, l2), (0, l3), v4, v5] [] M Q := by
  replace H := nb_Hw H
  have uhHo := hHo
  unfold nb_hs at uhHo
  obtain ⟨p0_, p1_, H⟩ := H
  replace H := nb_Hw H
  have E1 : nb_rd M Ho 15 = M.1 Ho 15 := nb_rd_1 _ _ _
  refine nb_Wg (q_tl_fewestLiars_1 _ _ _ _ _ _ _ (by omega)) ?_
  simp only [E1]
  clear E1
  refine nb_Gi (fun c6 => ?_) (fun c6 => ?_)
  · have H := nb_Hw ((nb_Hu H).1 c6)
    refine nb_Gr ?_
    have E2 : nb_rd M Ho 6 = Ho + 17 := W.h6 (H := Ho) hHo
    have N3 : nb_ln M (Ho + 17) = 8 := W.hn17 (H := Ho) hHo
    have E4 : nb_rd M (Ho + 17) l3 = M.1 (Ho + 17) l3 := nb_rd_1 _ _ _
    have E5 : nb_add l3 1 = l3 + 1 := nb_add_eq (by omega) (by omega)
    refine nb_Wg (q_tl_fewestLiars_2 _ _ _ _ _ _ _ (by omega) (by rw [E2]; first | done | omega) (by omega) (by rw [E2, N3]; first | done | omega)) ?_
    simp only [E2, E4, E5]
    clear E2 N3 E4 E5
    refine nb_Gr ?_
    exact nb_Hu H
  · have H := nb_Hw ((nb_Hu H).2 (by omega))
    have c6 : M.1 Ho 15 ≤ l3 := by omega
    refine nb_Gr ?_
    refine nb_Wg (q_tl_fewestLiars_3 _ _ _ _ _ _ _) ?_
    refine nb_Gr ?_
    exact nb_Hu H

theorem w_tl_fewestLiars_4 {Ho l2 l3 l4 : Int} {v5 : nb_V} {M : nb_M} {Q : List nb_V → nb_M → Prop} (W : nb_Lay M) (hHo : nb_hs Ho) (b0_ : 0 ≤ l4 ∧ l4 ≤ 1024) (H : (l4 < l2 → (nb_and l4 (nb_xor l2 (-1)) = 0 → 0 ≤ l4 ∧ l4 < 1024 ∧ 0 ≤ l3 ∧ l3 < 1024 ∧ (pu_ones l4 < pu_ones l3 → nb_W 282 0 [(17, 142), (12, Ho), (0, l4), (98, 0), (98, 0)] [] M (fun r M2 => ∃ x1 : Int, r = [(0, x1)] ∧ nb_Lay M2 ∧ (x1 = 0 → nb_W 280 4 [(17, 142), (12, Ho), (0, l2), (0, l3), (0, l4 + 1), (0, 1)] [] M2 Q) ∧ (x1 ≠ 0 → nb_W 280 4 [(17, 142), (12, Ho), (0, l2), (0, l4), (0, l4 + 1), (0, 1)] [] M2 Q))) ∧ (pu_ones l3 ≤ pu_ones l4 → nb_W 280 4 [(17, 142), (12, Ho), (0, l2), (0, l3), (0, l4 + 1), (0, 1)] [] M Q)) ∧ (nb_and l4 (nb_xor l2 (-1)) ≠ 0 → nb_W 280 4 [(17, 142), (12, Ho), (0, l2), (0, l3), (0, l4 + 1), (0, 0)] [] M Q)) ∧ (l2 ≤ l4 → (nb_Lay M → Q [(0, l3)] M))) :
    nb_W 280 4 [(17, 142), (12, Ho), (0, l2), (0, l3), (0, l4), v5] [] M Q := by
  replace H := nb_Hw H
  have uhHo := hHo
  unfold nb_hs at uhHo
  refine nb_Wg (q_tl_fewestLiars_4 _ _ _ _ _ _ _) ?_
  refine nb_Gi (fun c11 => ?_) (fun c11 => ?_)
  · have H := nb_Hw ((nb_Hu H).1 c11)
    refine nb_Gr ?_
    refine nb_Wg (q_tl_fewestLiars_5 _ _ _ _ _ _ _) ?_
    refine nb_Gi (fun c10 => ?_) (fun c10 => ?_)
    · have H := nb_Hw ((nb_Hu H).1 c10)
      refine nb_Gr ?_
      refine nb_Wg (q_tl_fewestLiars_6 _ _ _ _ _ _ _) ?_
      refine nb_Gr ?_
      refine nb_Wg (q_tl_fewestLiars_8 _ _ _ _ _ _ _ _) ?_
      refine nb_Gf (by decide) ?_
      refine nb_Gr ?_
      obtain ⟨p0_, p1_, H⟩ := H
      replace H := nb_Hw H
      refine nb_Wg (q_tl_fewestLiars_9 _ _ _ _ _ _ _) ?_
      rw [show nb_R nb_P 294 0 [(0, l4)] [] M = some ([(0, pu_ones l4)], M) from sp_bitCount (by omega) (by omega)]
      refine nb_Gp ?_
      show nb_W 280 10 [(17, 142), (12, Ho), (0, l2), (0, l3), (0, l4), (0, 1)] [(0, pu_ones l4)] M _
      obtain ⟨p0_, p1_, H⟩ := H
      replace H := nb_Hw H
      refine nb_Wg (q_tl_fewestLiars_10 _ _ _ _ _ _ _ _) ?_
      rw [show nb_R nb_P 294 0 [(0, l3)] [] M = some ([(0, pu_ones l3)], M) from sp_bitCount (by omega) (by omega)]
      refine nb_Gp ?_
      show nb_W 280 11 [(17, 142), (12, Ho), (0, l2), (0, l3), (0, l4), (0, 1)] [(0, pu_ones l3), (0, pu_ones l4)] M _
      refine nb_Wg (q_tl_fewestLiars_11 _ _ _ _ _ _ _ _ _) ?_
      refine nb_Gi (fun c8 => ?_) (fun c8 => ?_)
      · have H := nb_Hw ((nb_Hu H).1 c8)
        refine nb_Gr ?_
        refine nb_Wg (q_tl_fewestLiars_12 _ _ _ _ _ _ _ (by omega)) ?_
        refine nb_Gb ?_
        refine nb_W.imp (nb_Hu H) (fun r M2 H => ?_)
        obtain ⟨x1, rfl, W3, H⟩ := H
        replace H := nb_Hw H
        show nb_W 280 13 [(17, 142), (12, Ho), (0, l2), (0, l3), (0, l4), (0, 1)] [(0, x1)] M2 _
        refine nb_Wg (q_tl_fewestLiars_13 _ _ _ _ _ _ _ _) ?_
        refine nb_Gi (fun c6 => ?_) (fun c6 => ?_)
        · have H := nb_Hw ((nb_Hu H).1 c6)
          refine nb_Gr ?_
          have E4 : nb_add l4 1 = l4 + 1 := nb_add_eq (by omega) (by omega)
          refine nb_Wg (q_tl_fewestLiars_15 _ _ _ _ _ _ _) ?_
          simp only [E4]
          clear E4
          refine nb_Gr ?_
          exact nb_Hu H
        · have H := nb_Hw ((nb_Hu H).2 (by omega))
          have c6 : x1 ≠ 0 := by omega
          refine nb_Gr ?_
          refine nb_Wg (q_tl_fewestLiars_14 _ _ _ _ _ _ _) ?_
          refine nb_Gr ?_
          have E5 : nb_add l4 1 = l4 + 1 := nb_add_eq (by omega) (by omega)
          refine nb_Wg (q_tl_fewestLiars_15 _ _ _ _ _ _ _) ?_
          simp only [E5]
          clear E5
          refine nb_Gr ?_
          exact nb_Hu H
      · have H := nb_Hw ((nb_Hu H).2 (by omega))
        have c8 : pu_ones l3 ≤ pu_ones l4 := by omega
        refine nb_Gr ?_
        have E7 : nb_add l4 1 = l4 + 1 := nb_add_eq (by omega) (by omega)
        refine nb_Wg (q_tl_fewestLiars_15 _ _ _ _ _ _ _) ?_
        simp only [E7]
        clear E7
        refine nb_Gr ?_
        exact nb_Hu H
    · have H := nb_Hw ((nb_Hu H).2 (by omega))
      have c10 : nb_and l4 (nb_xor l2 (-1)) ≠ 0 := by omega
      refine nb_Gr ?_
      refine nb_Wg (q_tl_fewestLiars_7 _ _ _ _ _ _ _) ?_
      refine nb_Gr ?_
      refine nb_Wg (q_tl_fewestLiars_8 _ _ _ _ _ _ _ _) ?_
      refine nb_Gt (by decide) ?_
      refine nb_Gr ?_
      have E9 : nb_add l4 1 = l4 + 1 := nb_add_eq (by omega) (by omega)
      refine nb_Wg (q_tl_fewestLiars_15 _ _ _ _ _ _ _) ?_
      simp only [E9]
      clear E9
      refine nb_Gr ?_
      exact nb_Hu H
  · have H := nb_Hw ((nb_Hu H).2 (by omega))
    have c11 : l2 ≤ l4 := by omega
    refine nb_Gr ?_
    refine nb_Wg (q_tl_fewestLiars_16 _ _ _ _ _ _ _) ?_
    refine nb_Gs ?_
    exact nb_Hu H W

theorem w_tl_follows_0 {Ho l2 l3 : Int} {M : nb_M} {Q : List nb_V → nb_M → Prop} (W : nb_Lay M) (hHo : nb_hs Ho) (H : nb_W 280 0 [(17, 142), (12, Ho), (98, 0), (98, 0), (98, 0), (98, 0)] [] M (fun r M2 => ∃ x1 : Int, r = [(0, x1)] ∧ nb_Lay M2 ∧ nb_W 282 0 [(17, 142), (12, Ho), (0, x1), (98, 0), (98, 0)] [] M2 (fun r M5 => ∃ x4 : Int, r = [(0, x4)] ∧ nb_Lay M5 ∧ 0 ≤ l2 ∧ l2 < 10 ∧ (nb_and (nb_shr (M5.1 143 l2) l3) 1 = 1 → (nb_Lay M5 → Q [(0, 1)] M5)) ∧ (nb_and (nb_shr (M5.1 143 l2) l3) 1 ≠ 1 → (nb_Lay M5 → Q [(0, 0)] M5))))) :
    nb_W 281 0 [(17, 142), (12, Ho), (0, l2), (0, l3)] [] M Q := by
  replace H := nb_Hw H
  have uhHo := hHo
  unfold nb_hs at uhHo
  refine nb_Wg (q_tl_follows_0 _ _ _ _ _ (by omega)) ?_
  refine nb_Gb ?_
  refine nb_W.imp (nb_Hu H) (fun r M2 H => ?_)
  obtain ⟨x1, rfl, W3, H⟩ := H
  replace H := nb_Hw H
  show nb_W 281 1 [(17, 142), (12, Ho), (0, l2), (0, l3)] [(0, x1), (12, Ho), (17, 142)] M2 _
  refine nb_Wg (q_tl_follows_1 _ _ _ _ _ _ _ _ (by omega)) ?_
  refine nb_Gb ?_
  refine nb_W.imp (nb_Hu H) (fun r M5 H => ?_)
  obtain ⟨x4, rfl, W6, H⟩ := H
  replace H := nb_Hw H
  show nb_W 281 2 [(17, 142), (12, Ho), (0, l2), (0, l3)] [(0, x4)] M5 _
  obtain ⟨p0_, p1_, H⟩ := H
  replace H := nb_Hw H
  have E7 : nb_rd M5 142 0 = 143 := W6.l0
  have N8 : nb_ln M5 143 = 10 := W6.lk (by decide) (by decide +kernel)
  have E9 : nb_rd M5 143 l2 = M5.1 143 l2 := nb_rd_1 _ _ _
  refine nb_Wg (q_tl_follows_2 _ _ _ _ _ _ (by omega) (by rw [E7]; first | done | omega) (by omega) (by rw [E7, N8]; first | done | omega)) ?_
  simp only [E7, E9]
  clear E7 N8 E9
  refine nb_Gi (fun c12 => ?_) (fun c12 => ?_)
  · have H := nb_Hw ((nb_Hu H).1 c12)
    refine nb_Gr ?_
    refine nb_Wg (q_tl_follows_3 _ _ _ _ _) ?_
    refine nb_Gr ?_
    have E10 : nb_i2z 1 = 1 := by decide
    refine nb_Wg (q_tl_follows_5 _ _ _ _ _ _) ?_
    simp only [E10]
    clear E10
    refine nb_Gs ?_
    exact nb_Hu H W6
  · have H := nb_Hw ((nb_Hu H).2 (by omega))
    have c12 : nb_and (nb_shr (M5.1 143 l2) l3) 1 ≠ 1 := by omega
    refine nb_Gr ?_
    refine nb_Wg (q_tl_follows_4 _ _ _ _ _) ?_
    refine nb_Gr ?_
    have E11 : nb_i2z 0 = 0 := by decide
    refine nb_Wg (q_tl_follows_5 _ _ _ _ _ _) ?_
    simp only [E11]
    clear E11
    refine nb_Gs ?_
    exact nb_Hu H W6

theorem w_tl_agreeWithout_0 {Ho l2 : Int} {v3 v4 : nb_V} {M : nb_M} {Q : List nb_V → nb_M → Prop} (W : nb_Lay M) (hHo : nb_hs Ho) (H : nb_W 295 0 [(3, 143), (0, 0), (98, 0), (98, 0)] [] M (fun r M3 => r = [] ∧ nb_Lay M3 ∧ nb_W 282 2 [(17, 142), (12, Ho), (0, l2), (0, 0), v4] [] M3 Q)) :
    nb_W 282 0 [(17, 142), (12, Ho), (0, l2), v3, v4] [] M Q := by
  replace H := nb_Hw H
  have uhHo := hHo
  unfold nb_hs at uhHo
  have E1 : nb_rd M 142 0 = 143 := W.l0
  refine nb_Wg (q_tl_agreeWithout_0 _ _ _ _ _ _ (by omega)) ?_
  simp only [E1]
  clear E1
  refine nb_Gb ?_
  refine nb_W.imp (nb_Hu H) (fun r M3 H => ?_)
  obtain ⟨rfl, W4, H⟩ := H
  replace H := nb_Hw H
  show nb_W 282 1 [(17, 142), (12, Ho), (0, l2), v3, v4] [] M3 _
  refine nb_Wg (q_tl_agreeWithout_1 _ _ _ _ _ _) ?_
  refine nb_Gr ?_
  exact nb_Hu H

theorem w_tl_agreeWithout_2 {Ho l2 l3 : Int} {v4 : nb_V} {M : nb_M} {Q : List nb_V → nb_M → Prop} (W : nb_Lay M) (hHo : nb_hs Ho) (b0_ : 0 ≤ l3 ∧ l3 ≤ 8) (H : 0 ≤ M.1 Ho 15 ∧ M.1 Ho 15 ≤ 8 ∧ (l3 < M.1 Ho 15 → (nb_and (nb_shr l2 (M.1 (Ho + 17) l3)) 1 = 0 → 0 ≤ M.1 (Ho + 18) l3 ∧ M.1 (Ho + 18) l3 < 10 ∧ nb_W 282 2 [(17, 142), (12, Ho), (0, l2), (0, l3 + 1), v4] [] (nb_wr M 143 (M.1 (Ho + 18) l3) (nb_or (M.1 143 (M.1 (Ho + 18) l3)) (nb_shl 1 (M.1 (Ho + 19) l3)))) Q) ∧ (nb_and (nb_shr l2 (M.1 (Ho + 17) l3)) 1 ≠ 0 → nb_W 282 2 [(17, 142), (12, Ho), (0, l2), (0, l3 + 1), v4] [] M Q)) ∧ (M.1 Ho 15 ≤ l3 → nb_W 282 7 [(17, 142), (12, Ho), nb_clr ((0, l2)), (0, 0), v4] [] M Q)) :
    nb_W 282 2 [(17, 142), (12, Ho), (0, l2), (0, l3), v4] [] M Q := by
  replace H := nb_Hw H
  have uhHo := hHo
  unfold nb_hs at uhHo
  obtain ⟨p0_, p1_, H⟩ := H
  replace H := nb_Hw H
  have E1 : nb_rd M Ho 15 = M.1 Ho 15 := nb_rd_1 _ _ _
  refine nb_Wg (q_tl_agreeWithout_2 _ _ _ _ _ _ (by omega)) ?_
  simp only [E1]
  clear E1
  refine nb_Gi (fun c19 => ?_) (fun c19 => ?_)
  · have H := nb_Hw ((nb_Hu H).1 c19)
    refine nb_Gr ?_
    have E2 : nb_rd M Ho 6 = Ho + 17 := W.h6 (H := Ho) hHo
    have N3 : nb_ln M (Ho + 17) = 8 := W.hn17 (H := Ho) hHo
    have E4 : nb_rd M (Ho + 17) l3 = M.1 (Ho + 17) l3 := nb_rd_1 _ _ _
    refine nb_Wg (q_tl_agreeWithout_3 _ _ _ _ _ _ (by omega) (by rw [E2]; first | done | omega) (by omega) (by rw [E2, N3]; first | done | omega)) ?_
    simp only [E2, E4]
    clear E2 N3 E4
    refine nb_Gi (fun c18 => ?_) (fun c18 => ?_)
    · have H := nb_Hw ((nb_Hu H).1 c18)
      refine nb_Gr ?_
      obtain ⟨p0_, p1_, H⟩ := H
      replace H := nb_Hw H
      have E5 : nb_rd M 142 0 = 143 := W.l0
      have E6 : nb_rd M Ho 7 = Ho + 18 := W.h7 (H := Ho) hHo
      have N7 : nb_ln M (Ho + 18) = 8 := W.hn18 (H := Ho) hHo
      have E8 : nb_rd M (Ho + 18) l3 = M.1 (Ho + 18) l3 := nb_rd_1 _ _ _
      have N9 : nb_ln M 143 = 10 := W.lk (by decide) (by decide +kernel)
      have E10 : nb_rd M 143 (M.1 (Ho + 18) l3) = M.1 143 (M.1 (Ho + 18) l3) := nb_rd_1 _ _ _
      have E11 : nb_rd M Ho 8 = Ho + 19 := W.h8 (H := Ho) hHo
      have N12 : nb_ln M (Ho + 19) = 8 := W.hn19 (H := Ho) hHo
      have E13 : nb_rd M (Ho + 19) l3 = M.1 (Ho + 19) l3 := nb_rd_1 _ _ _
      have N14 : nb_ln M 143 = 10 := W.lk (by decide) (by decide +kernel)
      refine nb_Wg (q_tl_agreeWithout_4 _ _ _ _ _ _ (by omega) (by omega) (by rw [E6]; first | done | omega) (by omega) (by rw [E6, N7]; first | done | omega) (by rw [E5]; first | done | omega) (by rw [E6, E8]; first | done | omega) (by rw [E6, E8, E5, N9]; first | done | omega) (by rw [E11]; first | done | omega) (by rw [E11, N12]; first | done | omega) (by rw [E5]; first | done | omega)) ?_
      simp only [E5, E6, E8, E10, E11, E13]
      clear E5 E6 N7 E8 N9 E10 E11 N12 E13 N14
      have W15 : nb_Lay (nb_wr M 143 (M.1 (Ho + 18) l3) (nb_or (M.1 143 (M.1 (Ho + 18) l3)) (nb_shl 1 (M.1 (Ho + 19) l3)))) := W.wr (fun w => (nb_nnum (by decide) (by decide)))
      refine nb_Gr ?_
      have E16 : nb_add l3 1 = l3 + 1 := nb_add_eq (by omega) (by omega)
      refine nb_Wg (q_tl_agreeWithout_5 _ _ _ _ _ _) ?_
      simp only [E16]
      clear E16
      refine nb_Gr ?_
      exact nb_Hu H
    · have H := nb_Hw ((nb_Hu H).2 (by omega))
      have c18 : nb_and (nb_shr l2 (M.1 (Ho + 17) l3)) 1 ≠ 0 := by omega
      refine nb_Gr ?_
      have E17 : nb_add l3 1 = l3 + 1 := nb_add_eq (by omega) (by omega)
      refine nb_Wg (q_tl_agreeWithout_5 _ _ _ _ _ _) ?_
      simp only [E17]
      clear E17
      refine nb_Gr ?_
      exact nb_Hu H
  · have H := nb_Hw ((nb_Hu H).2 (by omega))
    have c19 : M.1 Ho 15 ≤ l3 := by omega
    refine nb_Gr ?_
    refine nb_Wg (q_tl_agreeWithout_6 _ _ _ _ _ _) ?_
    refine nb_Gr ?_
    exact nb_Hu H

theorem w_tl_agreeWithout_7 {l3 : Int} {v1 v2 v4 : nb_V} {M : nb_M} {Q : List nb_V → nb_M → Prop} (W : nb_Lay M)  (b0_ : 0 ≤ l3 ∧ l3 ≤ 10) (H : (l3 < 10 → nb_W 282 9 [(17, 142), v1, v2, (0, l3), (0, 0)] [] M Q) ∧ (10 ≤ l3 → nb_W 282 15 [(17, 142), v1, nb_clr v2, (0, 0), v4] [] M Q)) :
    nb_W 282 7 [(17, 142), v1, v2, (0, l3), v4] [] M Q := by
  replace H := nb_Hw H
  refine nb_Wg (q_tl_agreeWithout_7 _ _ _ _ _ _) ?_
  refine nb_Gi (fun c1 => ?_) (fun c1 => ?_)
  · have H := nb_Hw ((nb_Hu H).1 c1)
    refine nb_Gr ?_
    refine nb_Wg (q_tl_agreeWithout_8 _ _ _ _ _ _) ?_
    refine nb_Gr ?_
    exact nb_Hu H
  · have H := nb_Hw ((nb_Hu H).2 (by omega))
    have c1 : 10 ≤ l3 := by omega
    refine nb_Gr ?_
    refine nb_Wg (q_tl_agreeWithout_14 _ _ _ _ _ _) ?_
    refine nb_Gr ?_
    exact nb_Hu H

theorem w_tl_agreeWithout_9 {l3 l4 : Int} {v1 v2 : nb_V} {M : nb_M} {Q : List nb_V → nb_M → Prop} (W : nb_Lay M)  (b0_ : 0 ≤ l3 ∧ l3 ≤ 9) (b1_ : 0 ≤ l4 ∧ l4 ≤ 10) (H : (l4 < 10 → (nb_and (nb_shr (M.1 143 l4) l3) 1 = 1 → nb_W 282 9 [(17, 142), v1, v2, (0, l3), (0, l4 + 1)] [] (nb_wr M 143 l4 (nb_or (M.1 143 l4) (M.1 143 l3))) Q) ∧ (nb_and (nb_shr (M.1 143 l4) l3) 1 ≠ 1 → nb_W 282 9 [(17, 142), v1, v2, (0, l3), (0, l4 + 1)] [] M Q)) ∧ (10 ≤ l4 → nb_W 282 7 [(17, 142), v1, nb_clr v2, (0, l3 + 1), (0, l4)] [] M Q)) :
    nb_W 282 9 [(17, 142), v1, v2, (0, l3), (0, l4)] [] M Q := by
  replace H := nb_Hw H
  refine nb_Wg (q_tl_agreeWithout_9 _ _ _ _ _ _) ?_
  refine nb_Gi (fun c16 => ?_) (fun c16 => ?_)
  · have H := nb_Hw ((nb_Hu H).1 c16)
    refine nb_Gr ?_
    have E1 : nb_rd M 142 0 = 143 := W.l0
    have N2 : nb_ln M 143 = 10 := W.lk (by decide) (by decide +kernel)
    have E3 : nb_rd M 143 l4 = M.1 143 l4 := nb_rd_1 _ _ _
    refine nb_Wg (q_tl_agreeWithout_10 _ _ _ _ _ _ (by omega) (by rw [E1]; first | done | omega) (by omega) (by rw [E1, N2]; first | done | omega)) ?_
    simp only [E1, E3]
    clear E1 N2 E3
    refine nb_Gi (fun c14 => ?_) (fun c14 => ?_)
    · have H := nb_Hw ((nb_Hu H).1 c14)
      refine nb_Gr ?_
      have E4 : nb_rd M 142 0 = 143 := W.l0
      have N5 : nb_ln M 143 = 10 := W.lk (by decide) (by decide +kernel)
      have E6 : nb_rd M 143 l4 = M.1 143 l4 := nb_rd_1 _ _ _
      have E7 : nb_rd M 142 0 = 143 := W.l0
      have N8 : nb_ln M 143 = 10 := W.lk (by decide) (by decide +kernel)
      have E9 : nb_rd M 143 l3 = M.1 143 l3 := nb_rd_1 _ _ _
      have N10 : nb_ln M 143 = 10 := W.lk (by decide) (by decide +kernel)
      refine nb_Wg (q_tl_agreeWithout_11 _ _ _ _ _ _ (by omega) (by rw [E4]; first | done | omega) (by omega) (by rw [E4, N5]; first | done | omega) (by omega) (by rw [E7, N8]; first | done | omega) (by rw [E4]; first | done | omega)) ?_
      simp only [E4, E6, E7, E9]
      clear E4 N5 E6 E7 N8 E9 N10
      have W11 : nb_Lay (nb_wr M 143 l4 (nb_or (M.1 143 l4) (M.1 143 l3))) := W.wr (fun w => (nb_nnum (by decide) (by decide)))
      refine nb_Gr ?_
      have E12 : nb_add l4 1 = l4 + 1 := nb_add_eq (by omega) (by omega)
      refine nb_Wg (q_tl_agreeWithout_12 _ _ _ _ _ _) ?_
      simp only [E12]
      clear E12
      refine nb_Gr ?_
      exact nb_Hu H
    · have H := nb_Hw ((nb_Hu H).2 (by omega))
      have c14 : nb_and (nb_shr (M.1 143 l4) l3) 1 ≠ 1 := by omega
      refine nb_Gr ?_
      have E13 : nb_add l4 1 = l4 + 1 := nb_add_eq (by omega) (by omega)
      refine nb_Wg (q_tl_agreeWithout_12 _ _ _ _ _ _) ?_
      simp only [E13]
      clear E13
      refine nb_Gr ?_
      exact nb_Hu H
  · have H := nb_Hw ((nb_Hu H).2 (by omega))
    have c16 : 10 ≤ l4 := by omega
    refine nb_Gr ?_
    have E15 : nb_add l3 1 = l3 + 1 := nb_add_eq (by omega) (by omega)
    refine nb_Wg (q_tl_agreeWithout_13 _ _ _ _ _ _) ?_
    simp only [E15]
    clear E15
    refine nb_Gr ?_
    exact nb_Hu H

theorem w_tl_agreeWithout_15 {l3 : Int} {v1 v2 v4 : nb_V} {M : nb_M} {Q : List nb_V → nb_M → Prop} (W : nb_Lay M)  (b0_ : 0 ≤ l3 ∧ l3 ≤ 10) (H : (l3 < 10 → (nb_and (nb_shr (M.1 143 l3) l3) 1 = 1 → (nb_Lay M → Q [(0, 0)] M)) ∧ (nb_and (nb_shr (M.1 143 l3) l3) 1 ≠ 1 → nb_W 282 15 [(17, 142), v1, nb_clr v2, (0, l3 + 1), v4] [] M Q)) ∧ (10 ≤ l3 → (nb_Lay M → Q [(0, 1)] M))) :
    nb_W 282 15 [(17, 142), v1, v2, (0, l3), v4] [] M Q := by
  replace H := nb_Hw H
  refine nb_Wg (q_tl_agreeWithout_15 _ _ _ _ _ _) ?_
  refine nb_Gi (fun c6 => ?_) (fun c6 => ?_)
  · have H := nb_Hw ((nb_Hu H).1 c6)
    refine nb_Gr ?_
    have E1 : nb_rd M 142 0 = 143 := W.l0
    have N2 : nb_ln M 143 = 10 := W.lk (by decide) (by decide +kernel)
    have E3 : nb_rd M 143 l3 = M.1 143 l3 := nb_rd_1 _ _ _
    refine nb_Wg (q_tl_agreeWithout_16 _ _ _ _ _ _ (by omega) (by rw [E1]; first | done | omega) (by omega) (by rw [E1, N2]; first | done | omega)) ?_
    simp only [E1, E3]
    clear E1 N2 E3
    refine nb_Gi (fun c5 => ?_) (fun c5 => ?_)
    · have H := nb_Hw ((nb_Hu H).1 c5)
      refine nb_Gr ?_
      refine nb_Wg (q_tl_agreeWithout_17 _ _ _ _ _ _) ?_
      refine nb_Gs ?_
      exact nb_Hu H W
    · have H := nb_Hw ((nb_Hu H).2 (by omega))
      have c5 : nb_and (nb_shr (M.1 143 l3) l3) 1 ≠ 1 := by omega
      refine nb_Gr ?_
      have E4 : nb_add l3 1 = l3 + 1 := nb_add_eq (by omega) (by omega)
      refine nb_Wg (q_tl_agreeWithout_18 _ _ _ _ _ _) ?_
      simp only [E4]
      clear E4
      refine nb_Gr ?_
      exact nb_Hu H
  · have H := nb_Hw ((nb_Hu H).2 (by omega))
    have c6 : 10 ≤ l3 := by omega
    refine nb_Gr ?_
    refine nb_Wg (q_tl_agreeWithout_19 _ _ _ _ _ _) ?_
    refine nb_Gs ?_
    exact nb_Hu H W

theorem w_m_liars_0 {M : nb_M} {Q : List nb_V → nb_M → Prop} (W : nb_Lay M) (H : 0 ≤ M.1 603 14 ∧ M.1 603 14 ≤ 1 ∧ (M.1 603 14 = 0 → (nb_Lay (nb_wr (nb_wr (nb_wr M 603 0 0) 603 11 0) 603 11 1) → Q [(0, (-1))] (nb_wr (nb_wr (nb_wr M 603 0 0) 603 11 0) 603 11 1))) ∧ (M.1 603 14 ≠ 0 → nb_W 196 0 [(20, 603), (98, 0), (98, 0)] [] (nb_wr (nb_wr M 603 0 0) 603 11 0) (fun r M6 => ∃ x5 : Int, r = [(0, x5)] ∧ nb_Lay M6 ∧ (nb_Lay M6 → Q [(0, x5)] M6)))) :
    nb_W 197 0 [(20, 603)] [] M Q := by
  replace H := nb_Hw H
  refine nb_Wg (q_m_liars_0 _ _ (by omega)) ?_
  refine nb_Gb ?_
  refine nb_Wg (q_m_good_0 _ _ (by omega)) ?_
  have W1 : nb_Lay (nb_wr M 603 0 0) := W.wr (fun w => (nb_nlit (by decide) (by decide)))
  refine nb_Gr ?_
  refine nb_Wg (q_m_good_1 _ _ (by omega)) ?_
  have W2 : nb_Lay (nb_wr (nb_wr M 603 0 0) 603 11 0) := W1.wr (fun w => (nb_nlit (by decide) (by decide)))
  refine nb_Gr ?_
  refine nb_Wg (q_m_good_2 _ _) ?_
  refine nb_Gs ?_
  show nb_W 197 1 [(20, 603)] [] (nb_wr (nb_wr M 603 0 0) 603 11 0) _
  obtain ⟨p0_, p1_, H⟩ := H
  replace H := nb_Hw H
  have E3 : nb_rd (nb_wr (nb_wr M 603 0 0) 603 11 0) 603 14 = M.1 603 14 := nb_rdw (Or.inr (by decide)) (nb_rdw (Or.inr (by decide)) (nb_rd_1 _ _ _))
  refine nb_Wg (q_m_liars_1 _ _ (by omega)) ?_
  simp only [E3]
  clear E3
  refine nb_Gi (fun c8 => ?_) (fun c8 => ?_)
  · have H := nb_Hw ((nb_Hu H).1 c8)
    refine nb_Gr ?_
    refine nb_Wg (q_m_liars_4 _ _ (by omega)) ?_
    refine nb_Gb ?_
    refine nb_Wg (q_m_no_0 _ _ _ (by omega)) ?_
    have W4 : nb_Lay (nb_wr (nb_wr (nb_wr M 603 0 0) 603 11 0) 603 11 1) := W2.wr (fun w => (nb_nlit (by decide) (by decide)))
    refine nb_Gr ?_
    refine nb_Wg (q_m_no_1 _ _ _) ?_
    refine nb_Gs ?_
    show nb_W 197 5 [(20, 603)] [(0, (-1))] (nb_wr (nb_wr (nb_wr M 603 0 0) 603 11 0) 603 11 1) _
    refine nb_Wg (q_m_liars_5 _ _ _) ?_
    refine nb_Gs ?_
    exact nb_Hu H W4
  · have H := nb_Hw ((nb_Hu H).2 (by omega))
    have c8 : M.1 603 14 ≠ 0 := by omega
    refine nb_Gr ?_
    refine nb_Wg (q_m_liars_2 _ _ (by omega)) ?_
    refine nb_Gb ?_
    refine nb_W.imp (nb_Hu H) (fun r M6 H => ?_)
    obtain ⟨x5, rfl, W7, H⟩ := H
    replace H := nb_Hw H
    show nb_W 197 3 [(20, 603)] [(0, x5)] M6 _
    refine nb_Wg (q_m_liars_3 _ _ _) ?_
    refine nb_Gr ?_
    refine nb_Wg (q_m_liars_5 _ _ _) ?_
    refine nb_Gs ?_
    exact nb_Hu H W7

theorem w_m_surely_0 {l1 l2 : Int} {M : nb_M} {Q : List nb_V → nb_M → Prop} (W : nb_Lay M) (H : 0 ≤ M.1 603 14 ∧ M.1 603 14 ≤ 1 ∧ (M.1 603 14 = 0 → (nb_Lay (nb_wr (nb_wr (nb_wr M 603 0 0) 603 11 0) 603 11 1) → Q [(0, (-1))] (nb_wr (nb_wr (nb_wr M 603 0 0) 603 11 0) 603 11 1))) ∧ (M.1 603 14 ≠ 0 → 0 ≤ M.1 606 5 ∧ M.1 606 5 ≤ 10 ∧ (l1 < 0 → (nb_Lay (nb_wr (nb_wr (nb_wr M 603 0 0) 603 11 0) 603 11 1) → Q [(0, (-1))] (nb_wr (nb_wr (nb_wr M 603 0 0) 603 11 0) 603 11 1))) ∧ (0 ≤ l1 → (M.1 606 5 - 1 < l1 → (nb_Lay (nb_wr (nb_wr (nb_wr M 603 0 0) 603 11 0) 603 11 1) → Q [(0, (-1))] (nb_wr (nb_wr (nb_wr M 603 0 0) 603 11 0) 603 11 1))) ∧ (l1 ≤ M.1 606 5 - 1 → (l2 < 0 → (nb_Lay (nb_wr (nb_wr (nb_wr M 603 0 0) 603 11 0) 603 11 1) → Q [(0, (-1))] (nb_wr (nb_wr (nb_wr M 603 0 0) 603 11 0) 603 11 1))) ∧ (0 ≤ l2 → (M.1 606 5 - 1 < l2 → (nb_Lay (nb_wr (nb_wr (nb_wr M 603 0 0) 603 11 0) 603 11 1) → Q [(0, (-1))] (nb_wr (nb_wr (nb_wr M 603 0 0) 603 11 0) 603 11 1))) ∧ (l2 ≤ M.1 606 5 - 1 → (l1 = l2 → (nb_Lay (nb_wr (nb_wr (nb_wr M 603 0 0) 603 11 0) 603 11 1) → Q [(0, (-1))] (nb_wr (nb_wr (nb_wr M 603 0 0) 603 11 0) 603 11 1))) ∧ (l1 ≠ l2 → nb_W 196 0 [(20, 603), (98, 0), (98, 0)] [] (nb_wr (nb_wr M 603 0 0) 603 11 0) (fun r M33 => ∃ x32 : Int, r = [(0, x32)] ∧ nb_Lay M33 ∧ nb_W 195 0 [(20, 603), (0, x32), (98, 0), (98, 0), (98, 0)] [] M33 (fun r M36 => ∃ x35 : Int, r = [(0, x35)] ∧ nb_Lay M36 ∧ -2147483648 ≤ 10 * l1 ∧ 10 * l1 ≤ 2147483647 ∧ -2147483648 ≤ 10 * l1 + l2 ∧ 10 * l1 + l2 ≤ 2147483647 ∧ 0 ≤ 10 * l1 + l2 ∧ 10 * l1 + l2 < 100 ∧ (M36.1 618 (10 * l1 + l2) = 0 → (nb_Lay M36 → Q [(0, 0)] M36)) ∧ (M36.1 618 (10 * l1 + l2) ≠ 0 → (nb_Lay M36 → Q [(0, 1)] M36))))))))))) :
    nb_W 198 0 [(20, 603), (0, l1), (0, l2)] [] M Q := by
  replace H := nb_Hw H
  refine nb_Wg (q_m_surely_0 _ _ _ _ (by omega)) ?_
  refine nb_Gb ?_
  refine nb_Wg (q_m_good_0 _ _ (by omega)) ?_
  have W1 : nb_Lay (nb_wr M 603 0 0) := W.wr (fun w => (nb_nlit (by decide) (by decide)))
  refine nb_Gr ?_
  refine nb_Wg (q_m_good_1 _ _ (by omega)) ?_
  have W2 : nb_Lay (nb_wr (nb_wr M 603 0 0) 603 11 0) := W1.wr (fun w => (nb_nlit (by decide) (by decide)))
  refine nb_Gr ?_
  refine nb_Wg (q_m_good_2 _ _) ?_
  refine nb_Gs ?_
  show nb_W 198 1 [(20, 603), (0, l1), (0, l2)] [] (nb_wr (nb_wr M 603 0 0) 603 11 0) _
  refine nb_Wg (q_m_surely_1 _ _ _ _ (by omega)) ?_
  refine nb_Gb ?_
  obtain ⟨p0_, p1_, H⟩ := H
  replace H := nb_Hw H
  have E3 : nb_rd (nb_wr (nb_wr M 603 0 0) 603 11 0) 603 14 = M.1 603 14 := nb_rdw (Or.inr (by decide)) (nb_rdw (Or.inr (by decide)) (nb_rd_1 _ _ _))
  refine nb_Wg (q_m_isPerson_0 _ _ _ (by omega)) ?_
  simp only [E3]
  clear E3
  refine nb_Gi (fun c49 => ?_) (fun c49 => ?_)
  · have H := nb_Hw ((nb_Hu H).1 c49)
    refine nb_Gr ?_
    refine nb_Wg (q_m_isPerson_4 _ _ _) ?_
    refine nb_Gr ?_
    have E4 : nb_i2z 0 = 0 := by decide
    refine nb_Wg (q_m_isPerson_5 _ _ _ _) ?_
    simp only [E4]
    clear E4
    refine nb_Gs ?_
    show nb_W 198 2 [(20, 603), (0, l1), (0, l2)] [(0, 0)] (nb_wr (nb_wr M 603 0 0) 603 11 0) _
    refine nb_Wg (q_m_surely_2 _ _ _ _ _) ?_
    refine nb_Gt (by decide) ?_
    refine nb_Gr ?_
    refine nb_Wg (q_m_surely_6 _ _ _ _ (by omega)) ?_
    refine nb_Gb ?_
    refine nb_Wg (q_m_no_0 _ _ _ (by omega)) ?_
    have W5 : nb_Lay (nb_wr (nb_wr (nb_wr M 603 0 0) 603 11 0) 603 11 1) := W2.wr (fun w => (nb_nlit (by decide) (by decide)))
    refine nb_Gr ?_
    refine nb_Wg (q_m_no_1 _ _ _) ?_
    refine nb_Gs ?_
    show nb_W 198 7 [(20, 603), (0, l1), (0, l2)] [(0, (-1))] (nb_wr (nb_wr (nb_wr M 603 0 0) 603 11 0) 603 11 1) _
    refine nb_Wg (q_m_surely_7 _ _ _ _ _) ?_
    refine nb_Gs ?_
    exact nb_Hu H W5
  · have H := nb_Hw ((nb_Hu H).2 (by omega))
    have c49 : M.1 603 14 ≠ 0 := by omega
    refine nb_Gr ?_
    obtain ⟨p0_, p1_, H⟩ := H
    replace H := nb_Hw H
    have E6 : nb_rd (nb_wr (nb_wr M 603 0 0) 603 11 0) 603 15 = 606 := W2.m15
    have N7 : nb_ln (nb_wr (nb_wr M 603 0 0) 603 11 0) 606 = 347 := W2.lk (by decide) (by decide +kernel)
    have E8 : nb_rd (nb_wr (nb_wr M 603 0 0) 603 11 0) 606 5 = M.1 606 5 := nb_rdw (Or.inl (by decide)) (nb_rdw (Or.inl (by decide)) (nb_rd_1 _ _ _))
    have E9 : nb_sub (M.1 606 5) 1 = M.1 606 5 - 1 := nb_sub_eq (by omega) (by omega)
    refine nb_Wg (q_m_isPerson_1 _ _ _ (by omega) (by rw [E6]; first | done | omega) (by omega) (by rw [E6, N7]; first | done | omega)) ?_
    simp only [E6, E8, E9]
    clear E6 N7 E8 E9
    refine nb_Gb ?_
    refine nb_Wg (q_m_within_0 _ _ _ _) ?_
    refine nb_Gi (fun c48 => ?_) (fun c48 => ?_)
    · have H := nb_Hw ((nb_Hu H).1 c48)
      refine nb_Gr ?_
      refine nb_Wg (q_m_within_3 _ _ _ _) ?_
      refine nb_Gr ?_
      have E10 : nb_i2z 0 = 0 := by decide
      refine nb_Wg (q_m_within_4 _ _ _ _ _) ?_
      simp only [E10]
      clear E10
      refine nb_Gs ?_
      show nb_W 116 2 [(20, 603), (0, l1)] [(0, 0)] (nb_wr (nb_wr M 603 0 0) 603 11 0) _
      refine nb_Wg (q_m_isPerson_2 _ _ _ _) ?_
      refine nb_Gt (by decide) ?_
      refine nb_Gr ?_
      refine nb_Wg (q_m_isPerson_4 _ _ _) ?_
      refine nb_Gr ?_
      have E11 : nb_i2z 0 = 0 := by decide
      refine nb_Wg (q_m_isPerson_5 _ _ _ _) ?_
      simp only [E11]
      clear E11
      refine nb_Gs ?_
      show nb_W 198 2 [(20, 603), (0, l1), (0, l2)] [(0, 0)] (nb_wr (nb_wr M 603 0 0) 603 11 0) _
      refine nb_Wg (q_m_surely_2 _ _ _ _ _) ?_
      refine nb_Gt (by decide) ?_
      refine nb_Gr ?_
      refine nb_Wg (q_m_surely_6 _ _ _ _ (by omega)) ?_
      refine nb_Gb ?_
      refine nb_Wg (q_m_no_0 _ _ _ (by omega)) ?_
      have W12 : nb_Lay (nb_wr (nb_wr (nb_wr M 603 0 0) 603 11 0) 603 11 1) := W2.wr (fun w => (nb_nlit (by decide) (by decide)))
      refine nb_Gr ?_
      refine nb_Wg (q_m_no_1 _ _ _) ?_
      refine nb_Gs ?_
      show nb_W 198 7 [(20, 603), (0, l1), (0, l2)] [(0, (-1))] (nb_wr (nb_wr (nb_wr M 603 0 0) 603 11 0) 603 11 1) _
      refine nb_Wg (q_m_surely_7 _ _ _ _ _) ?_
      refine nb_Gs ?_
      exact nb_Hu H W12
    · have H := nb_Hw ((nb_Hu H).2 (by omega))
      have c48 : 0 ≤ l1 := by omega
      refine nb_Gr ?_
      refine nb_Wg (q_m_within_1 _ _ _ _) ?_
      refine nb_Gi (fun c47 => ?_) (fun c47 => ?_)
      · have H := nb_Hw ((nb_Hu H).1 c47)
        refine nb_Gr ?_
        refine nb_Wg (q_m_within_3 _ _ _ _) ?_
        refine nb_Gr ?_
        have E13 : nb_i2z 0 = 0 := by decide
        refine nb_Wg (q_m_within_4 _ _ _ _ _) ?_
        simp only [E13]
        clear E13
        refine nb_Gs ?_
        show nb_W 116 2 [(20, 603), (0, l1)] [(0, 0)] (nb_wr (nb_wr M 603 0 0) 603 11 0) _
        refine nb_Wg (q_m_isPerson_2 _ _ _ _) ?_
        refine nb_Gt (by decide) ?_
        refine nb_Gr ?_
        refine nb_Wg (q_m_isPerson_4 _ _ _) ?_
        refine nb_Gr ?_
        have E14 : nb_i2z 0 = 0 := by decide
        refine nb_Wg (q_m_isPerson_5 _ _ _ _) ?_
        simp only [E14]
        clear E14
        refine nb_Gs ?_
        show nb_W 198 2 [(20, 603), (0, l1), (0, l2)] [(0, 0)] (nb_wr (nb_wr M 603 0 0) 603 11 0) _
        refine nb_Wg (q_m_surely_2 _ _ _ _ _) ?_
        refine nb_Gt (by decide) ?_
        refine nb_Gr ?_
        refine nb_Wg (q_m_surely_6 _ _ _ _ (by omega)) ?_
        refine nb_Gb ?_
        refine nb_Wg (q_m_no_0 _ _ _ (by omega)) ?_
        have W15 : nb_Lay (nb_wr (nb_wr (nb_wr M 603 0 0) 603 11 0) 603 11 1) := W2.wr (fun w => (nb_nlit (by decide) (by decide)))
        refine nb_Gr ?_
        refine nb_Wg (q_m_no_1 _ _ _) ?_
        refine nb_Gs ?_
        show nb_W 198 7 [(20, 603), (0, l1), (0, l2)] [(0, (-1))] (nb_wr (nb_wr (nb_wr M 603 0 0) 603 11 0) 603 11 1) _
        refine nb_Wg (q_m_surely_7 _ _ _ _ _) ?_
        refine nb_Gs ?_
        exact nb_Hu H W15
      · have H := nb_Hw ((nb_Hu H).2 (by omega))
        have c47 : l1 ≤ M.1 606 5 - 1 := by omega
        refine nb_Gr ?_
        refine nb_Wg (q_m_within_2 _ _ _ _) ?_
        refine nb_Gr ?_
        have E16 : nb_i2z 1 = 1 := by decide
        refine nb_Wg (q_m_within_4 _ _ _ _ _) ?_
        simp only [E16]
        clear E16
        refine nb_Gs ?_
        show nb_W 116 2 [(20, 603), (0, l1)] [(0, 1)] (nb_wr (nb_wr M 603 0 0) 603 11 0) _
        refine nb_Wg (q_m_isPerson_2 _ _ _ _) ?_
        refine nb_Gf (by decide) ?_
        refine nb_Gr ?_
        refine nb_Wg (q_m_isPerson_3 _ _ _) ?_
        refine nb_Gr ?_
        have E17 : nb_i2z 1 = 1 := by decide
        refine nb_Wg (q_m_isPerson_5 _ _ _ _) ?_
        simp only [E17]
        clear E17
        refine nb_Gs ?_
        show nb_W 198 2 [(20, 603), (0, l1), (0, l2)] [(0, 1)] (nb_wr (nb_wr M 603 0 0) 603 11 0) _
        refine nb_Wg (q_m_surely_2 _ _ _ _ _) ?_
        refine nb_Gf (by decide) ?_
        refine nb_Gr ?_
        refine nb_Wg (q_m_surely_3 _ _ _ _ (by omega)) ?_
        refine nb_Gb ?_
        have E18 : nb_rd (nb_wr (nb_wr M 603 0 0) 603 11 0) 603 14 = M.1 603 14 := nb_rdw (Or.inr (by decide)) (nb_rdw (Or.inr (by decide)) (nb_rd_1 _ _ _))
        refine nb_Wg (q_m_isPerson_0 _ _ _ (by omega)) ?_
        simp only [E18]
        clear E18
        refine nb_Gf (by omega) ?_
        refine nb_Gr ?_
        have E19 : nb_rd (nb_wr (nb_wr M 603 0 0) 603 11 0) 603 15 = 606 := W2.m15
        have N20 : nb_ln (nb_wr (nb_wr M 603 0 0) 603 11 0) 606 = 347 := W2.lk (by decide) (by decide +kernel)
        have E21 : nb_rd (nb_wr (nb_wr M 603 0 0) 603 11 0) 606 5 = M.1 606 5 := nb_rdw (Or.inl (by decide)) (nb_rdw (Or.inl (by decide)) (nb_rd_1 _ _ _))
        have E22 : nb_sub (M.1 606 5) 1 = M.1 606 5 - 1 := nb_sub_eq (by omega) (by omega)
        refine nb_Wg (q_m_isPerson_1 _ _ _ (by omega) (by rw [E19]; first | done | omega) (by omega) (by rw [E19, N20]; first | done | omega)) ?_
        simp only [E19, E21, E22]
        clear E19 N20 E21 E22
        refine nb_Gb ?_
        refine nb_Wg (q_m_within_0 _ _ _ _) ?_
        refine nb_Gi (fun c46 => ?_) (fun c46 => ?_)
        · have H := nb_Hw ((nb_Hu H).1 c46)
          refine nb_Gr ?_
          refine nb_Wg (q_m_within_3 _ _ _ _) ?_
          refine nb_Gr ?_
          have E23 : nb_i2z 0 = 0 := by decide
          refine nb_Wg (q_m_within_4 _ _ _ _ _) ?_
          simp only [E23]
          clear E23
          refine nb_Gs ?_
          show nb_W 116 2 [(20, 603), (0, l2)] [(0, 0)] (nb_wr (nb_wr M 603 0 0) 603 11 0) _
          refine nb_Wg (q_m_isPerson_2 _ _ _ _) ?_
          refine nb_Gt (by decide) ?_
          refine nb_Gr ?_
          refine nb_Wg (q_m_isPerson_4 _ _ _) ?_
          refine nb_Gr ?_
          have E24 : nb_i2z 0 = 0 := by decide
          refine nb_Wg (q_m_isPerson_5 _ _ _ _) ?_
          simp only [E24]
          clear E24
          refine nb_Gs ?_
          show nb_W 198 4 [(20, 603), (0, l1), (0, l2)] [(0, 0)] (nb_wr (nb_wr M 603 0 0) 603 11 0) _
          refine nb_Wg (q_m_surely_4 _ _ _ _ _) ?_
          refine nb_Gt (by decide) ?_
          refine nb_Gr ?_
          refine nb_Wg (q_m_surely_6 _ _ _ _ (by omega)) ?_
          refine nb_Gb ?_
          refine nb_Wg (q_m_no_0 _ _ _ (by omega)) ?_
          have W25 : nb_Lay (nb_wr (nb_wr (nb_wr M 603 0 0) 603 11 0) 603 11 1) := W2.wr (fun w => (nb_nlit (by decide) (by decide)))
          refine nb_Gr ?_
          refine nb_Wg (q_m_no_1 _ _ _) ?_
          refine nb_Gs ?_
          show nb_W 198 7 [(20, 603), (0, l1), (0, l2)] [(0, (-1))] (nb_wr (nb_wr (nb_wr M 603 0 0) 603 11 0) 603 11 1) _
          refine nb_Wg (q_m_surely_7 _ _ _ _ _) ?_
          refine nb_Gs ?_
          exact nb_Hu H W25
        · have H := nb_Hw ((nb_Hu H).2 (by omega))
          have c46 : 0 ≤ l2 := by omega
          refine nb_Gr ?_
          refine nb_Wg (q_m_within_1 _ _ _ _) ?_
          refine nb_Gi (fun c45 => ?_) (fun c45 => ?_)
          · have H := nb_Hw ((nb_Hu H).1 c45)
            refine nb_Gr ?_
            refine nb_Wg (q_m_within_3 _ _ _ _) ?_
            refine nb_Gr ?_
            have E26 : nb_i2z 0 = 0 := by decide
            refine nb_Wg (q_m_within_4 _ _ _ _ _) ?_
            simp only [E26]
            clear E26
            refine nb_Gs ?_
            show nb_W 116 2 [(20, 603), (0, l2)] [(0, 0)] (nb_wr (nb_wr M 603 0 0) 603 11 0) _
            refine nb_Wg (q_m_isPerson_2 _ _ _ _) ?_
            refine nb_Gt (by decide) ?_
            refine nb_Gr ?_
            refine nb_Wg (q_m_isPerson_4 _ _ _) ?_
            refine nb_Gr ?_
            have E27 : nb_i2z 0 = 0 := by decide
            refine nb_Wg (q_m_isPerson_5 _ _ _ _) ?_
            simp only [E27]
            clear E27
            refine nb_Gs ?_
            show nb_W 198 4 [(20, 603), (0, l1), (0, l2)] [(0, 0)] (nb_wr (nb_wr M 603 0 0) 603 11 0) _
            refine nb_Wg (q_m_surely_4 _ _ _ _ _) ?_
            refine nb_Gt (by decide) ?_
            refine nb_Gr ?_
            refine nb_Wg (q_m_surely_6 _ _ _ _ (by omega)) ?_
            refine nb_Gb ?_
            refine nb_Wg (q_m_no_0 _ _ _ (by omega)) ?_
            have W28 : nb_Lay (nb_wr (nb_wr (nb_wr M 603 0 0) 603 11 0) 603 11 1) := W2.wr (fun w => (nb_nlit (by decide) (by decide)))
            refine nb_Gr ?_
            refine nb_Wg (q_m_no_1 _ _ _) ?_
            refine nb_Gs ?_
            show nb_W 198 7 [(20, 603), (0, l1), (0, l2)] [(0, (-1))] (nb_wr (nb_wr (nb_wr M 603 0 0) 603 11 0) 603 11 1) _
            refine nb_Wg (q_m_surely_7 _ _ _ _ _) ?_
            refine nb_Gs ?_
            exact nb_Hu H W28
          · have H := nb_Hw ((nb_Hu H).2 (by omega))
            have c45 : l2 ≤ M.1 606 5 - 1 := by omega
            refine nb_Gr ?_
            refine nb_Wg (q_m_within_2 _ _ _ _) ?_
            refine nb_Gr ?_
            have E29 : nb_i2z 1 = 1 := by decide
            refine nb_Wg (q_m_within_4 _ _ _ _ _) ?_
            simp only [E29]
            clear E29
            refine nb_Gs ?_
            show nb_W 116 2 [(20, 603), (0, l2)] [(0, 1)] (nb_wr (nb_wr M 603 0 0) 603 11 0) _
            refine nb_Wg (q_m_isPerson_2 _ _ _ _) ?_
            refine nb_Gf (by decide) ?_
            refine nb_Gr ?_
            refine nb_Wg (q_m_isPerson_3 _ _ _) ?_
            refine nb_Gr ?_
            have E30 : nb_i2z 1 = 1 := by decide
            refine nb_Wg (q_m_isPerson_5 _ _ _ _) ?_
            simp only [E30]
            clear E30
            refine nb_Gs ?_
            show nb_W 198 4 [(20, 603), (0, l1), (0, l2)] [(0, 1)] (nb_wr (nb_wr M 603 0 0) 603 11 0) _
            refine nb_Wg (q_m_surely_4 _ _ _ _ _) ?_
            refine nb_Gf (by decide) ?_
            refine nb_Gr ?_
            refine nb_Wg (q_m_surely_5 _ _ _ _) ?_
            refine nb_Gi (fun c44 => ?_) (fun c44 => ?_)
            · have H := nb_Hw ((nb_Hu H).1 c44)
              refine nb_Gr ?_
              refine nb_Wg (q_m_surely_6 _ _ _ _ (by omega)) ?_
              refine nb_Gb ?_
              refine nb_Wg (q_m_no_0 _ _ _ (by omega)) ?_
              have W31 : nb_Lay (nb_wr (nb_wr (nb_wr M 603 0 0) 603 11 0) 603 11 1) := W2.wr (fun w => (nb_nlit (by decide) (by decide)))
              refine nb_Gr ?_
              refine nb_Wg (q_m_no_1 _ _ _) ?_
              refine nb_Gs ?_
              show nb_W 198 7 [(20, 603), (0, l1), (0, l2)] [(0, (-1))] (nb_wr (nb_wr (nb_wr M 603 0 0) 603 11 0) 603 11 1) _
              refine nb_Wg (q_m_surely_7 _ _ _ _ _) ?_
              refine nb_Gs ?_
              exact nb_Hu H W31
            · have H := nb_Hw ((nb_Hu H).2 (by omega))
              have c44 : l1 ≠ l2 := by omega
              refine nb_Gr ?_
              refine nb_Wg (q_m_surely_8 _ _ _ _ (by omega)) ?_
              refine nb_Gb ?_
              refine nb_W.imp (nb_Hu H) (fun r M33 H => ?_)
              obtain ⟨x32, rfl, W34, H⟩ := H
              replace H := nb_Hw H
              show nb_W 198 9 [(20, 603), (0, l1), (0, l2)] [(0, x32), (20, 603)] M33 _
              refine nb_Wg (q_m_surely_9 _ _ _ _ _ _ (by omega)) ?_
              refine nb_Gb ?_
              refine nb_W.imp (nb_Hu H) (fun r M36 H => ?_)
              obtain ⟨x35, rfl, W37, H⟩ := H
              replace H := nb_Hw H
              show nb_W 198 10 [(20, 603), (0, l1), (0, l2)] [(0, x35)] M36 _
              obtain ⟨p0_, p1_, p2_, p3_, p4_, p5_, H⟩ := H
              replace H := nb_Hw H
              have E38 : nb_rd M36 603 34 = 618 := W37.m34
              have E39 : nb_mul 10 l1 = 10 * l1 := nb_mul_eq (by omega) (by omega)
              have E40 : nb_add (10 * l1) l2 = 10 * l1 + l2 := nb_add_eq (by omega) (by omega)
              have N41 : nb_ln M36 618 = 100 := W37.lk (by decide) (by decide +kernel)
              have E42 : nb_rd M36 618 (10 * l1 + l2) = M36.1 618 (10 * l1 + l2) := nb_rd_1 _ _ _
              refine nb_Wg (q_m_surely_10 _ _ _ _ _ (by omega) (by rw [E38]; first | done | omega) (by rw [E39, E40]; first | done | omega) (by rw [E39, E40, E38, N41]; first | done | omega)) ?_
              simp only [E38, E39, E40, E42]
              clear E38 E39 E40 N41 E42
              refine nb_Gi (fun c43 => ?_) (fun c43 => ?_)
              · have H := nb_Hw ((nb_Hu H).1 c43)
                refine nb_Gr ?_
                refine nb_Wg (q_m_surely_12 _ _ _ _) ?_
                refine nb_Gr ?_
                refine nb_Wg (q_m_surely_13 _ _ _ _ _) ?_
                refine nb_Gs ?_
                exact nb_Hu H W37
              · have H := nb_Hw ((nb_Hu H).2 (by omega))
                have c43 : M36.1 618 (10 * l1 + l2) ≠ 0 := by omega
                refine nb_Gr ?_
                refine nb_Wg (q_m_surely_11 _ _ _ _) ?_
                refine nb_Gr ?_
                refine nb_Wg (q_m_surely_13 _ _ _ _ _) ?_
                refine nb_Gs ?_
                exact nb_Hu H W37

theorem w_m_liarsOf_0 {v1 v2 : nb_V} {M : nb_M} {Q : List nb_V → nb_M → Prop} (W : nb_Lay M) (H : 0 ≤ M.1 606 5 ∧ M.1 606 5 ≤ 10 ∧ -2147483648 ≤ nb_shl 1 (M.1 606 5) - 1 ∧ nb_shl 1 (M.1 606 5) - 1 ≤ 2147483647 ∧ nb_W 196 2 [(20, 603), (0, nb_shl 1 (M.1 606 5) - 1), (0, 0)] [] M Q) :
    nb_W 196 0 [(20, 603), v1, v2] [] M Q := by
  replace H := nb_Hw H
  refine nb_Wg (q_m_liarsOf_0 _ _ _ _ (by omega)) ?_
  refine nb_Gb ?_
  obtain ⟨p0_, p1_, p2_, p3_, H⟩ := H
  replace H := nb_Hw H
  have E1 : nb_rd M 603 15 = 606 := W.m15
  have N2 : nb_ln M 606 = 347 := W.lk (by decide) (by decide +kernel)
  have E3 : nb_rd M 606 5 = M.1 606 5 := nb_rd_1 _ _ _
  have E4 : nb_sub (nb_shl 1 (M.1 606 5)) 1 = nb_shl 1 (M.1 606 5) - 1 := nb_sub_eq (by omega) (by omega)
  refine nb_Wg (q_m_allPeople_0 _ _ (by omega) (by rw [E1]; first | done | omega) (by omega) (by rw [E1, N2]; first | done | omega)) ?_
  simp only [E1, E3, E4]
  clear E1 N2 E3 E4
  refine nb_Gs ?_
  show nb_W 196 1 [(20, 603), v1, v2] [(0, nb_shl 1 (M.1 606 5) - 1)] M _
  refine nb_Wg (q_m_liarsOf_1 _ _ _ _ _) ?_
  refine nb_Gr ?_
  exact nb_Hu H

theorem w_m_liarsOf_2 {l1 l2 : Int} {M : nb_M} {Q : List nb_V → nb_M → Prop} (W : nb_Lay M)  (b0_ : 0 ≤ l2 ∧ l2 ≤ 1024) (H : 0 ≤ M.1 606 5 ∧ M.1 606 5 ≤ 10 ∧ -2147483648 ≤ nb_shl 1 (M.1 606 5) - 1 ∧ nb_shl 1 (M.1 606 5) - 1 ≤ 2147483647 ∧ (nb_shl 1 (M.1 606 5) - 1 < l2 → (nb_Lay M → Q [(0, l1)] M)) ∧ (l2 ≤ nb_shl 1 (M.1 606 5) - 1 → (pu_ones l2 < pu_ones l1 → nb_W 195 0 [(20, 603), (0, l2), (98, 0), (98, 0), (98, 0)] [] M (fun r M6 => ∃ x5 : Int, r = [(0, x5)] ∧ nb_Lay M6 ∧ (x5 = 0 → nb_W 196 2 [(20, 603), (0, l1), (0, l2 + 1)] [] M6 Q) ∧ (x5 ≠ 0 → nb_W 196 2 [(20, 603), (0, l2), (0, l2 + 1)] [] M6 Q))) ∧ (pu_ones l1 ≤ pu_ones l2 → nb_W 196 2 [(20, 603), (0, l1), (0, l2 + 1)] [] M Q))) :
    nb_W 196 2 [(20, 603), (0, l1), (0, l2)] [] M Q := by
  replace H := nb_Hw H
  refine nb_Wg (q_m_liarsOf_2 _ _ _ _ (by omega)) ?_
  refine nb_Gb ?_
  obtain ⟨p0_, p1_, p2_, p3_, H⟩ := H
  replace H := nb_Hw H
  have E1 : nb_rd M 603 15 = 606 := W.m15
  have N2 : nb_ln M 606 = 347 := W.lk (by decide) (by decide +kernel)
  have E3 : nb_rd M 606 5 = M.1 606 5 := nb_rd_1 _ _ _
  have E4 : nb_sub (nb_shl 1 (M.1 606 5)) 1 = nb_shl 1 (M.1 606 5) - 1 := nb_sub_eq (by omega) (by omega)
  refine nb_Wg (q_m_allPeople_0 _ _ (by omega) (by rw [E1]; first | done | omega) (by omega) (by rw [E1, N2]; first | done | omega)) ?_
  simp only [E1, E3, E4]
  clear E1 N2 E3 E4
  refine nb_Gs ?_
  show nb_W 196 3 [(20, 603), (0, l1), (0, l2)] [(0, nb_shl 1 (M.1 606 5) - 1), (0, l2)] M _
  refine nb_Wg (q_m_liarsOf_3 _ _ _ _ _ _) ?_
  refine nb_Gi (fun c13 => ?_) (fun c13 => ?_)
  · have H := nb_Hw ((nb_Hu H).1 c13)
    refine nb_Gr ?_
    refine nb_Wg (q_m_liarsOf_11 _ _ _ _) ?_
    refine nb_Gs ?_
    exact nb_Hu H W
  · have H := nb_Hw ((nb_Hu H).2 (by omega))
    have c13 : l2 ≤ nb_shl 1 (M.1 606 5) - 1 := by omega
    refine nb_Gr ?_
    refine nb_Wg (q_m_liarsOf_4 _ _ _ _) ?_
    rw [show nb_R nb_P 85 0 [(0, l2), (98, 0), (98, 0)] [] M = some ([(0, pu_ones l2)], M) from sp_m_ones]
    refine nb_Gp ?_
    show nb_W 196 5 [(20, 603), (0, l1), (0, l2)] [(0, pu_ones l2)] M _
    refine nb_Wg (q_m_liarsOf_5 _ _ _ _ _) ?_
    rw [show nb_R nb_P 85 0 [(0, l1), (98, 0), (98, 0)] [] M = some ([(0, pu_ones l1)], M) from sp_m_ones]
    refine nb_Gp ?_
    show nb_W 196 6 [(20, 603), (0, l1), (0, l2)] [(0, pu_ones l1), (0, pu_ones l2)] M _
    refine nb_Wg (q_m_liarsOf_6 _ _ _ _ _ _) ?_
    refine nb_Gi (fun c12 => ?_) (fun c12 => ?_)
    · have H := nb_Hw ((nb_Hu H).1 c12)
      refine nb_Gr ?_
      refine nb_Wg (q_m_liarsOf_7 _ _ _ _ (by omega)) ?_
      refine nb_Gb ?_
      refine nb_W.imp (nb_Hu H) (fun r M6 H => ?_)
      obtain ⟨x5, rfl, W7, H⟩ := H
      replace H := nb_Hw H
      show nb_W 196 8 [(20, 603), (0, l1), (0, l2)] [(0, x5)] M6 _
      refine nb_Wg (q_m_liarsOf_8 _ _ _ _ _) ?_
      refine nb_Gi (fun c10 => ?_) (fun c10 => ?_)
      · have H := nb_Hw ((nb_Hu H).1 c10)
        refine nb_Gr ?_
        have E8 : nb_add l2 1 = l2 + 1 := nb_add_eq (by omega) (by omega)
        refine nb_Wg (q_m_liarsOf_10 _ _ _ _) ?_
        simp only [E8]
        clear E8
        refine nb_Gr ?_
        exact nb_Hu H
      · have H := nb_Hw ((nb_Hu H).2 (by omega))
        have c10 : x5 ≠ 0 := by omega
        refine nb_Gr ?_
        refine nb_Wg (q_m_liarsOf_9 _ _ _ _) ?_
        refine nb_Gr ?_
        have E9 : nb_add l2 1 = l2 + 1 := nb_add_eq (by omega) (by omega)
        refine nb_Wg (q_m_liarsOf_10 _ _ _ _) ?_
        simp only [E9]
        clear E9
        refine nb_Gr ?_
        exact nb_Hu H
    · have H := nb_Hw ((nb_Hu H).2 (by omega))
      have c12 : pu_ones l1 ≤ pu_ones l2 := by omega
      refine nb_Gr ?_
      have E11 : nb_add l2 1 = l2 + 1 := nb_add_eq (by omega) (by omega)
      refine nb_Wg (q_m_liarsOf_10 _ _ _ _) ?_
      simp only [E11]
      clear E11
      refine nb_Gr ?_
      exact nb_Hu H

theorem w_m_layTellings_0 {l1 : Int} {v2 v3 v4 : nb_V} {M : nb_M} {Q : List nb_V → nb_M → Prop} (W : nb_Lay M) (H : nb_W 195 1 [(20, 603), (0, l1), (0, 0), v3, v4] [] M Q) :
    nb_W 195 0 [(20, 603), (0, l1), v2, v3, v4] [] M Q := by
  replace H := nb_Hw H
  refine nb_Wg (q_m_layTellings_0 _ _ _ _ _ _) ?_
  refine nb_Gr ?_
  exact nb_Hu H

theorem w_m_layTellings_1 {l1 l2 : Int} {v3 v4 : nb_V} {M : nb_M} {Q : List nb_V → nb_M → Prop} (W : nb_Lay M)  (b0_ : 0 ≤ l2 ∧ l2 ≤ 100) (H : (l2 < 100 → nb_W 195 1 [(20, 603), (0, l1), (0, l2 + 1), v3, v4] [] (nb_wr M 618 l2 0) Q) ∧ (100 ≤ l2 → nb_W 195 5 [(20, 603), (0, l1), (0, 0), v3, v4] [] M Q)) :
    nb_W 195 1 [(20, 603), (0, l1), (0, l2), v3, v4] [] M Q := by
  replace H := nb_Hw H
  refine nb_Wg (q_m_layTellings_1 _ _ _ _ _ _) ?_
  refine nb_Gi (fun c6 => ?_) (fun c6 => ?_)
  · have H := nb_Hw ((nb_Hu H).1 c6)
    refine nb_Gr ?_
    have E1 : nb_rd M 603 34 = 618 := W.m34
    have N2 : nb_ln M 618 = 100 := W.lk (by decide) (by decide +kernel)
    have E3 : nb_i2z 0 = 0 := by decide
    refine nb_Wg (q_m_layTellings_2 _ _ _ _ _ _ (by omega) (by rw [E1]; first | done | omega) (by rw [E1]; first | done | omega) (by omega) (by rw [E1, N2]; first | done | omega)) ?_
    simp only [E1, E3]
    clear E1 N2 E3
    have W4 : nb_Lay (nb_wr M 618 l2 0) := W.wr (fun w => (nb_nnum (by decide) (by decide)))
    refine nb_Gr ?_
    have E5 : nb_add l2 1 = l2 + 1 := nb_add_eq (by omega) (by omega)
    refine nb_Wg (q_m_layTellings_3 _ _ _ _ _ _) ?_
    simp only [E5]
    clear E5
    refine nb_Gr ?_
    exact nb_Hu H
  · have H := nb_Hw ((nb_Hu H).2 (by omega))
    have c6 : 100 ≤ l2 := by omega
    refine nb_Gr ?_
    refine nb_Wg (q_m_layTellings_4 _ _ _ _ _ _) ?_
    refine nb_Gr ?_
    exact nb_Hu H

theorem w_m_layTellings_5 {l1 l2 : Int} {v3 v4 : nb_V} {M : nb_M} {Q : List nb_V → nb_M → Prop} (W : nb_Lay M)  (b0_ : 0 ≤ l2 ∧ l2 ≤ 8) (H : 0 ≤ M.1 606 7 ∧ M.1 606 7 ≤ 8 ∧ (l2 < M.1 606 7 → (nb_and (nb_shr l1 (M.1 606 (161 + 3 * l2))) 1 = 1 → nb_W 195 5 [(20, 603), (0, l1), (0, l2 + 1), v3, v4] [] M Q) ∧ (nb_and (nb_shr l1 (M.1 606 (161 + 3 * l2))) 1 ≠ 1 → -2147483648 ≤ 10 * (M.1 606 (161 + 3 * l2 + 1)) ∧ 10 * (M.1 606 (161 + 3 * l2 + 1)) ≤ 2147483647 ∧ -2147483648 ≤ 10 * (M.1 606 (161 + 3 * l2 + 1)) + (M.1 606 (161 + 3 * l2 + 2)) ∧ 10 * (M.1 606 (161 + 3 * l2 + 1)) + (M.1 606 (161 + 3 * l2 + 2)) ≤ 2147483647 ∧ 0 ≤ 10 * (M.1 606 (161 + 3 * l2 + 1)) + (M.1 606 (161 + 3 * l2 + 2)) ∧ 10 * (M.1 606 (161 + 3 * l2 + 1)) + (M.1 606 (161 + 3 * l2 + 2)) < 100 ∧ nb_W 195 5 [(20, 603), (0, l1), (0, l2 + 1), v3, v4] [] (nb_wr M 618 (10 * (M.1 606 (161 + 3 * l2 + 1)) + (M.1 606 (161 + 3 * l2 + 2))) 1) Q)) ∧ (M.1 606 7 ≤ l2 → nb_W 195 11 [(20, 603), nb_clr ((0, l1)), (0, 0), v3, v4] [] M Q)) :
    nb_W 195 5 [(20, 603), (0, l1), (0, l2), v3, v4] [] M Q := by
  replace H := nb_Hw H
  obtain ⟨p0_, p1_, H⟩ := H
  replace H := nb_Hw H
  have E1 : nb_rd M 603 15 = 606 := W.m15
  have N2 : nb_ln M 606 = 347 := W.lk (by decide) (by decide +kernel)
  have E3 : nb_rd M 606 7 = M.1 606 7 := nb_rd_1 _ _ _
  refine nb_Wg (q_m_layTellings_5 _ _ _ _ _ _ (by omega) (by rw [E1]; first | done | omega) (by omega) (by rw [E1, N2]; first | done | omega)) ?_
  simp only [E1, E3]
  clear E1 N2 E3
  refine nb_Gi (fun c32 => ?_) (fun c32 => ?_)
  · have H := nb_Hw ((nb_Hu H).1 c32)
    refine nb_Gr ?_
    have E4 : nb_rd M 603 15 = 606 := W.m15
    have E5 : nb_mul 3 l2 = 3 * l2 := nb_mul_eq (by omega) (by omega)
    have E6 : nb_add 161 (3 * l2) = 161 + 3 * l2 := (nb_add_eq (x := 161) (y := 3 * l2) (by omega) (by omega)).trans (by omega)
    have N7 : nb_ln M 606 = 347 := W.lk (by decide) (by decide +kernel)
    have E8 : nb_rd M 606 (161 + 3 * l2) = M.1 606 (161 + 3 * l2) := nb_rd_1 _ _ _
    refine nb_Wg (q_m_layTellings_6 _ _ _ _ _ _ (by omega) (by rw [E4]; first | done | omega) (by rw [E5, E6]; first | done | omega) (by rw [E5, E6, E4, N7]; first | done | omega)) ?_
    simp only [E4, E5, E6, E8]
    clear E4 E5 E6 N7 E8
    refine nb_Gb ?_
    refine nb_Wg (q_m_hasBit_0 _ _ _) ?_
    refine nb_Gi (fun c31 => ?_) (fun c31 => ?_)
    · have H := nb_Hw ((nb_Hu H).1 c31)
      refine nb_Gr ?_
      refine nb_Wg (q_m_hasBit_1 _ _ _) ?_
      refine nb_Gr ?_
      have E9 : nb_i2z 1 = 1 := by decide
      refine nb_Wg (q_m_hasBit_3 _ _ _ _) ?_
      simp only [E9]
      clear E9
      refine nb_Gs ?_
      show nb_W 195 7 [(20, 603), (0, l1), (0, l2), v3, v4] [(0, 1)] M _
      refine nb_Wg (q_m_layTellings_7 _ _ _ _ _ _ _) ?_
      refine nb_Gf (by decide) ?_
      refine nb_Gr ?_
      have E10 : nb_add l2 1 = l2 + 1 := nb_add_eq (by omega) (by omega)
      refine nb_Wg (q_m_layTellings_9 _ _ _ _ _ _) ?_
      simp only [E10]
      clear E10
      refine nb_Gr ?_
      exact nb_Hu H
    · have H := nb_Hw ((nb_Hu H).2 (by omega))
      have c31 : nb_and (nb_shr l1 (M.1 606 (161 + 3 * l2))) 1 ≠ 1 := by omega
      refine nb_Gr ?_
      refine nb_Wg (q_m_hasBit_2 _ _ _) ?_
      refine nb_Gr ?_
      have E11 : nb_i2z 0 = 0 := by decide
      refine nb_Wg (q_m_hasBit_3 _ _ _ _) ?_
      simp only [E11]
      clear E11
      refine nb_Gs ?_
      show nb_W 195 7 [(20, 603), (0, l1), (0, l2), v3, v4] [(0, 0)] M _
      refine nb_Wg (q_m_layTellings_7 _ _ _ _ _ _ _) ?_
      refine nb_Gt (by decide) ?_
      refine nb_Gr ?_
      obtain ⟨p0_, p1_, p2_, p3_, p4_, p5_, H⟩ := H
      replace H := nb_Hw H
      have E12 : nb_rd M 603 34 = 618 := W.m34
      have E13 : nb_rd M 603 15 = 606 := W.m15
      have E14 : nb_mul 3 l2 = 3 * l2 := nb_mul_eq (by omega) (by omega)
      have E15 : nb_add 161 (3 * l2) = 161 + 3 * l2 := (nb_add_eq (x := 161) (y := 3 * l2) (by omega) (by omega)).trans (by omega)
      have E16 : nb_add (161 + 3 * l2) 1 = 161 + 3 * l2 + 1 := nb_add_eq (by omega) (by omega)
      have N17 : nb_ln M 606 = 347 := W.lk (by decide) (by decide +kernel)
      have E18 : nb_rd M 606 (161 + 3 * l2 + 1) = M.1 606 (161 + 3 * l2 + 1) := nb_rd_1 _ _ _
      have E19 : nb_mul 10 (M.1 606 (161 + 3 * l2 + 1)) = 10 * (M.1 606 (161 + 3 * l2 + 1)) := nb_mul_eq (by omega) (by omega)
      have E20 : nb_rd M 603 15 = 606 := W.m15
      have E21 : nb_mul 3 l2 = 3 * l2 := nb_mul_eq (by omega) (by omega)
      have E22 : nb_add 161 (3 * l2) = 161 + 3 * l2 := (nb_add_eq (x := 161) (y := 3 * l2) (by omega) (by omega)).trans (by omega)
      have E23 : nb_add (161 + 3 * l2) 2 = 161 + 3 * l2 + 2 := nb_add_eq (by omega) (by omega)
      have N24 : nb_ln M 606 = 347 := W.lk (by decide) (by decide +kernel)
      have E25 : nb_rd M 606 (161 + 3 * l2 + 2) = M.1 606 (161 + 3 * l2 + 2) := nb_rd_1 _ _ _
      have E26 : nb_add (10 * (M.1 606 (161 + 3 * l2 + 1))) (M.1 606 (161 + 3 * l2 + 2)) = 10 * (M.1 606 (161 + 3 * l2 + 1)) + (M.1 606 (161 + 3 * l2 + 2)) := nb_add_eq (by omega) (by omega)
      have N27 : nb_ln M 618 = 100 := W.lk (by decide) (by decide +kernel)
      have E28 : nb_i2z 1 = 1 := by decide
      refine nb_Wg (q_m_layTellings_8 _ _ _ _ _ _ (by omega) (by rw [E13]; first | done | omega) (by rw [E14, E15, E16]; first | done | omega) (by rw [E14, E15, E16, E13, N17]; first | done | omega) (by rw [E21, E22, E23]; first | done | omega) (by rw [E21, E22, E23, E20, N24]; first | done | omega) (by rw [E12]; first | done | omega) (by rw [E12]; first | done | omega) (by rw [E13, E14, E15, E16, E18, E19, E23, E25, E26]; first | done | omega) (by rw [E13, E14, E15, E16, E18, E19, E23, E25, E26, E12, N27]; first | done | omega)) ?_
      simp only [E12, E13, E14, E15, E16, E18, E19, E20, E21, E22, E23, E25, E26, E28]
      clear E12 E13 E14 E15 E16 N17 E18 E19 E20 E21 E22 E23 N24 E25 E26 N27 E28
      have W29 : nb_Lay (nb_wr M 618 (10 * (M.1 606 (161 + 3 * l2 + 1)) + (M.1 606 (161 + 3 * l2 + 2))) 1) := W.wr (fun w => (nb_nnum (by decide) (by decide)))
      refine nb_Gr ?_
      have E30 : nb_add l2 1 = l2 + 1 := nb_add_eq (by omega) (by omega)
      refine nb_Wg (q_m_layTellings_9 _ _ _ _ _ _) ?_
      simp only [E30]
      clear E30
      refine nb_Gr ?_
      exact nb_Hu H
  · have H := nb_Hw ((nb_Hu H).2 (by omega))
    have c32 : M.1 606 7 ≤ l2 := by omega
    refine nb_Gr ?_
    refine nb_Wg (q_m_layTellings_10 _ _ _ _ _ _) ?_
    refine nb_Gr ?_
    exact nb_Hu H

theorem w_m_layTellings_11 {l2 : Int} {v1 v3 v4 : nb_V} {M : nb_M} {Q : List nb_V → nb_M → Prop} (W : nb_Lay M)  (b0_ : 0 ≤ l2 ∧ l2 ≤ 10) (H : (l2 < 10 → nb_W 195 13 [(20, 603), v1, (0, l2), (0, 0), v4] [] M Q) ∧ (10 ≤ l2 → nb_W 195 26 [(20, 603), nb_clr v1, (0, 1), (0, 0), v4] [] M Q)) :
    nb_W 195 11 [(20, 603), v1, (0, l2), v3, v4] [] M Q := by
  replace H := nb_Hw H
  refine nb_Wg (q_m_layTellings_11 _ _ _ _ _ _) ?_
  refine nb_Gi (fun c1 => ?_) (fun c1 => ?_)
  · have H := nb_Hw ((nb_Hu H).1 c1)
    refine nb_Gr ?_
    refine nb_Wg (q_m_layTellings_12 _ _ _ _ _ _) ?_
    refine nb_Gr ?_
    exact nb_Hu H
  · have H := nb_Hw ((nb_Hu H).2 (by omega))
    have c1 : 10 ≤ l2 := by omega
    refine nb_Gr ?_
    refine nb_Wg (q_m_layTellings_25 _ _ _ _ _ _) ?_
    refine nb_Gr ?_
    exact nb_Hu H

theorem w_m_layTellings_13 {l2 l3 : Int} {v1 v4 : nb_V} {M : nb_M} {Q : List nb_V → nb_M → Prop} (W : nb_Lay M)  (b0_ : 0 ≤ l2 ∧ l2 ≤ 9) (b1_ : 0 ≤ l3 ∧ l3 ≤ 10) (H : (l3 < 10 → nb_W 195 15 [(20, 603), v1, (0, l2), (0, l3), (0, 0)] [] M Q) ∧ (10 ≤ l3 → nb_W 195 11 [(20, 603), nb_clr v1, (0, l2 + 1), (0, l3), v4] [] M Q)) :
    nb_W 195 13 [(20, 603), v1, (0, l2), (0, l3), v4] [] M Q := by
  replace H := nb_Hw H
  refine nb_Wg (q_m_layTellings_13 _ _ _ _ _ _) ?_
  refine nb_Gi (fun c2 => ?_) (fun c2 => ?_)
  · have H := nb_Hw ((nb_Hu H).1 c2)
    refine nb_Gr ?_
    refine nb_Wg (q_m_layTellings_14 _ _ _ _ _ _) ?_
    refine nb_Gr ?_
    exact nb_Hu H
  · have H := nb_Hw ((nb_Hu H).2 (by omega))
    have c2 : 10 ≤ l3 := by omega
    refine nb_Gr ?_
    have E1 : nb_add l2 1 = l2 + 1 := nb_add_eq (by omega) (by omega)
    refine nb_Wg (q_m_layTellings_24 _ _ _ _ _ _) ?_
    simp only [E1]
    clear E1
    refine nb_Gr ?_
    exact nb_Hu H

theorem w_m_layTellings_15 {l2 l3 l4 : Int} {v1 : nb_V} {M : nb_M} {Q : List nb_V → nb_M → Prop} (W : nb_Lay M)  (b0_ : 0 ≤ l2 ∧ l2 ≤ 9) (b1_ : 0 ≤ l3 ∧ l3 ≤ 9) (b2_ : 0 ≤ l4 ∧ l4 ≤ 10) (H : (l4 < 10 → (M.1 618 (10 * l3 + l4) = 0 → (M.1 618 (10 * l3 + l2) = 0 → nb_W 195 15 [(20, 603), v1, (0, l2), (0, l3), (0, l4 + 1)] [] (nb_wr M 618 (10 * l3 + l4) 0) Q) ∧ (M.1 618 (10 * l3 + l2) ≠ 0 → (M.1 618 (10 * l2 + l4) = 0 → nb_W 195 15 [(20, 603), v1, (0, l2), (0, l3), (0, l4 + 1)] [] (nb_wr M 618 (10 * l3 + l4) 0) Q) ∧ (M.1 618 (10 * l2 + l4) ≠ 0 → nb_W 195 15 [(20, 603), v1, (0, l2), (0, l3), (0, l4 + 1)] [] (nb_wr M 618 (10 * l3 + l4) 1) Q))) ∧ (M.1 618 (10 * l3 + l4) ≠ 0 → nb_W 195 15 [(20, 603), v1, (0, l2), (0, l3), (0, l4 + 1)] [] (nb_wr M 618 (10 * l3 + l4) 1) Q)) ∧ (10 ≤ l4 → nb_W 195 13 [(20, 603), v1, (0, l2), (0, l3 + 1), (0, l4)] [] M Q)) :
    nb_W 195 15 [(20, 603), v1, (0, l2), (0, l3), (0, l4)] [] M Q := by
  replace H := nb_Hw H
  refine nb_Wg (q_m_layTellings_15 _ _ _ _ _ _) ?_
  refine nb_Gi (fun c39 => ?_) (fun c39 => ?_)
  · have H := nb_Hw ((nb_Hu H).1 c39)
    refine nb_Gr ?_
    have E1 : nb_rd M 603 34 = 618 := W.m34
    have E2 : nb_mul 10 l3 = 10 * l3 := nb_mul_eq (by omega) (by omega)
    have E3 : nb_add (10 * l3) l4 = 10 * l3 + l4 := nb_add_eq (by omega) (by omega)
    have E4 : nb_rd M 603 34 = 618 := W.m34
    have E5 : nb_mul 10 l3 = 10 * l3 := nb_mul_eq (by omega) (by omega)
    have E6 : nb_add (10 * l3) l4 = 10 * l3 + l4 := nb_add_eq (by omega) (by omega)
    have N7 : nb_ln M 618 = 100 := W.lk (by decide) (by decide +kernel)
    have E8 : nb_rd M 618 (10 * l3 + l4) = M.1 618 (10 * l3 + l4) := nb_rd_1 _ _ _
    refine nb_Wg (q_m_layTellings_16 _ _ _ _ _ _ (by omega) (by rw [E4]; first | done | omega) (by rw [E5, E6]; first | done | omega) (by rw [E5, E6, E4, N7]; first | done | omega)) ?_
    simp only [E1, E2, E3, E4, E5, E6, E8]
    clear E1 E2 E3 E4 E5 E6 N7 E8
    refine nb_Gi (fun c37 => ?_) (fun c37 => ?_)
    · have H := nb_Hw ((nb_Hu H).1 c37)
      refine nb_Gr ?_
      have E9 : nb_rd M 603 34 = 618 := W.m34
      have E10 : nb_mul 10 l3 = 10 * l3 := nb_mul_eq (by omega) (by omega)
      have E11 : nb_add (10 * l3) l2 = 10 * l3 + l2 := nb_add_eq (by omega) (by omega)
      have N12 : nb_ln M 618 = 100 := W.lk (by decide) (by decide +kernel)
      have E13 : nb_rd M 618 (10 * l3 + l2) = M.1 618 (10 * l3 + l2) := nb_rd_1 _ _ _
      refine nb_Wg (q_m_layTellings_17 _ _ _ _ _ _ _ _ (by omega) (by rw [E9]; first | done | omega) (by rw [E10, E11]; first | done | omega) (by rw [E10, E11, E9, N12]; first | done | omega)) ?_
      simp only [E9, E10, E11, E13]
      clear E9 E10 E11 N12 E13
      refine nb_Gi (fun c32 => ?_) (fun c32 => ?_)
      · have H := nb_Hw ((nb_Hu H).1 c32)
        refine nb_Gr ?_
        refine nb_Wg (q_m_layTellings_20 _ _ _ _ _ _ _ _) ?_
        refine nb_Gr ?_
        have N14 : nb_ln M 618 = 100 := W.lk (by decide) (by decide +kernel)
        have E15 : nb_i2z 0 = 0 := by decide
        refine nb_Wg (q_m_layTellings_21 _ _ _ _ _ _ _ _ _ (by omega) (by omega) (by omega) (by rw [N14]; first | done | omega)) ?_
        simp only [E15]
        clear N14 E15
        have W16 : nb_Lay (nb_wr M 618 (10 * l3 + l4) 0) := W.wr (fun w => (nb_nnum (by decide) (by decide)))
        refine nb_Gr ?_
        have E17 : nb_add l4 1 = l4 + 1 := nb_add_eq (by omega) (by omega)
        refine nb_Wg (q_m_layTellings_22 _ _ _ _ _ _) ?_
        simp only [E17]
        clear E17
        refine nb_Gr ?_
        exact nb_Hu H
      · have H := nb_Hw ((nb_Hu H).2 (by omega))
        have c32 : M.1 618 (10 * l3 + l2) ≠ 0 := by omega
        refine nb_Gr ?_
        have E18 : nb_rd M 603 34 = 618 := W.m34
        have E19 : nb_mul 10 l2 = 10 * l2 := nb_mul_eq (by omega) (by omega)
        have E20 : nb_add (10 * l2) l4 = 10 * l2 + l4 := nb_add_eq (by omega) (by omega)
        have N21 : nb_ln M 618 = 100 := W.lk (by decide) (by decide +kernel)
        have E22 : nb_rd M 618 (10 * l2 + l4) = M.1 618 (10 * l2 + l4) := nb_rd_1 _ _ _
        refine nb_Wg (q_m_layTellings_18 _ _ _ _ _ _ _ _ (by omega) (by rw [E18]; first | done | omega) (by rw [E19, E20]; first | done | omega) (by rw [E19, E20, E18, N21]; first | done | omega)) ?_
        simp only [E18, E19, E20, E22]
        clear E18 E19 E20 N21 E22
        refine nb_Gi (fun c31 => ?_) (fun c31 => ?_)
        · have H := nb_Hw ((nb_Hu H).1 c31)
          refine nb_Gr ?_
          refine nb_Wg (q_m_layTellings_20 _ _ _ _ _ _ _ _) ?_
          refine nb_Gr ?_
          have N23 : nb_ln M 618 = 100 := W.lk (by decide) (by decide +kernel)
          have E24 : nb_i2z 0 = 0 := by decide
          refine nb_Wg (q_m_layTellings_21 _ _ _ _ _ _ _ _ _ (by omega) (by omega) (by omega) (by rw [N23]; first | done | omega)) ?_
          simp only [E24]
          clear N23 E24
          have W25 : nb_Lay (nb_wr M 618 (10 * l3 + l4) 0) := W.wr (fun w => (nb_nnum (by decide) (by decide)))
          refine nb_Gr ?_
          have E26 : nb_add l4 1 = l4 + 1 := nb_add_eq (by omega) (by omega)
          refine nb_Wg (q_m_layTellings_22 _ _ _ _ _ _) ?_
          simp only [E26]
          clear E26
          refine nb_Gr ?_
          exact nb_Hu H
        · have H := nb_Hw ((nb_Hu H).2 (by omega))
          have c31 : M.1 618 (10 * l2 + l4) ≠ 0 := by omega
          refine nb_Gr ?_
          refine nb_Wg (q_m_layTellings_19 _ _ _ _ _ _ _ _) ?_
          refine nb_Gr ?_
          have N27 : nb_ln M 618 = 100 := W.lk (by decide) (by decide +kernel)
          have E28 : nb_i2z 1 = 1 := by decide
          refine nb_Wg (q_m_layTellings_21 _ _ _ _ _ _ _ _ _ (by omega) (by omega) (by omega) (by rw [N27]; first | done | omega)) ?_
          simp only [E28]
          clear N27 E28
          have W29 : nb_Lay (nb_wr M 618 (10 * l3 + l4) 1) := W.wr (fun w => (nb_nnum (by decide) (by decide)))
          refine nb_Gr ?_
          have E30 : nb_add l4 1 = l4 + 1 := nb_add_eq (by omega) (by omega)
          refine nb_Wg (q_m_layTellings_22 _ _ _ _ _ _) ?_
          simp only [E30]
          clear E30
          refine nb_Gr ?_
          exact nb_Hu H
    · have H := nb_Hw ((nb_Hu H).2 (by omega))
      have c37 : M.1 618 (10 * l3 + l4) ≠ 0 := by omega
      refine nb_Gr ?_
      refine nb_Wg (q_m_layTellings_19 _ _ _ _ _ _ _ _) ?_
      refine nb_Gr ?_
      have N33 : nb_ln M 618 = 100 := W.lk (by decide) (by decide +kernel)
      have E34 : nb_i2z 1 = 1 := by decide
      refine nb_Wg (q_m_layTellings_21 _ _ _ _ _ _ _ _ _ (by omega) (by omega) (by omega) (by rw [N33]; first | done | omega)) ?_
      simp only [E34]
      clear N33 E34
      have W35 : nb_Lay (nb_wr M 618 (10 * l3 + l4) 1) := W.wr (fun w => (nb_nnum (by decide) (by decide)))
      refine nb_Gr ?_
      have E36 : nb_add l4 1 = l4 + 1 := nb_add_eq (by omega) (by omega)
      refine nb_Wg (q_m_layTellings_22 _ _ _ _ _ _) ?_
      simp only [E36]
      clear E36
      refine nb_Gr ?_
      exact nb_Hu H
  · have H := nb_Hw ((nb_Hu H).2 (by omega))
    have c39 : 10 ≤ l4 := by omega
    refine nb_Gr ?_
    have E38 : nb_add l3 1 = l3 + 1 := nb_add_eq (by omega) (by omega)
    refine nb_Wg (q_m_layTellings_23 _ _ _ _ _ _) ?_
    simp only [E38]
    clear E38
    refine nb_Gr ?_
    exact nb_Hu H

theorem w_m_layTellings_26 {l2 l3 : Int} {v1 v4 : nb_V} {M : nb_M} {Q : List nb_V → nb_M → Prop} (W : nb_Lay M)  (b0_ : 0 ≤ l3 ∧ l3 ≤ 10) (b1_ : 0 ≤ l2 ∧ l2 ≤ 1) (H : (l3 < 10 → (l2 = 0 → nb_W 195 26 [(20, 603), nb_clr v1, (0, 0), (0, l3 + 1), v4] [] M Q) ∧ (l2 ≠ 0 → (M.1 618 (11 * l3) = 0 → nb_W 195 26 [(20, 603), nb_clr v1, (0, 1), (0, l3 + 1), v4] [] M Q) ∧ (M.1 618 (11 * l3) ≠ 0 → nb_W 195 26 [(20, 603), nb_clr v1, (0, 0), (0, l3 + 1), v4] [] M Q))) ∧ (10 ≤ l3 → (nb_Lay M → Q [(0, l2)] M))) :
    nb_W 195 26 [(20, 603), v1, (0, l2), (0, l3), v4] [] M Q := by
  replace H := nb_Hw H
  refine nb_Wg (q_m_layTellings_26 _ _ _ _ _ _) ?_
  refine nb_Gi (fun c11 => ?_) (fun c11 => ?_)
  · have H := nb_Hw ((nb_Hu H).1 c11)
    refine nb_Gr ?_
    refine nb_Wg (q_m_layTellings_27 _ _ _ _ _ _) ?_
    refine nb_Gi (fun c9 => ?_) (fun c9 => ?_)
    · have H := nb_Hw ((nb_Hu H).1 c9)
      refine nb_Gr ?_
      refine nb_Wg (q_m_layTellings_30 _ _ _ _ _ _) ?_
      refine nb_Gr ?_
      have E1 : nb_add l3 1 = l3 + 1 := nb_add_eq (by omega) (by omega)
      refine nb_Wg (q_m_layTellings_31 _ _ _ _ _ _ _) ?_
      simp only [E1]
      clear E1
      refine nb_Gr ?_
      exact nb_Hu H
    · have H := nb_Hw ((nb_Hu H).2 (by omega))
      have c9 : l2 ≠ 0 := by omega
      refine nb_Gr ?_
      have E2 : nb_rd M 603 34 = 618 := W.m34
      have E3 : nb_mul 11 l3 = 11 * l3 := nb_mul_eq (by omega) (by omega)
      have N4 : nb_ln M 618 = 100 := W.lk (by decide) (by decide +kernel)
      have E5 : nb_rd M 618 (11 * l3) = M.1 618 (11 * l3) := nb_rd_1 _ _ _
      refine nb_Wg (q_m_layTellings_28 _ _ _ _ _ _ (by omega) (by rw [E2]; first | done | omega) (by rw [E3]; first | done | omega) (by rw [E3, E2, N4]; first | done | omega)) ?_
      simp only [E2, E3, E5]
      clear E2 E3 N4 E5
      refine nb_Gi (fun c8 => ?_) (fun c8 => ?_)
      · have H := nb_Hw ((nb_Hu H).1 c8)
        refine nb_Gr ?_
        refine nb_Wg (q_m_layTellings_29 _ _ _ _ _ _) ?_
        refine nb_Gr ?_
        have E6 : nb_add l3 1 = l3 + 1 := nb_add_eq (by omega) (by omega)
        refine nb_Wg (q_m_layTellings_31 _ _ _ _ _ _ _) ?_
        simp only [E6]
        clear E6
        refine nb_Gr ?_
        exact nb_Hu H
      · have H := nb_Hw ((nb_Hu H).2 (by omega))
        have c8 : M.1 618 (11 * l3) ≠ 0 := by omega
        refine nb_Gr ?_
        refine nb_Wg (q_m_layTellings_30 _ _ _ _ _ _) ?_
        refine nb_Gr ?_
        have E7 : nb_add l3 1 = l3 + 1 := nb_add_eq (by omega) (by omega)
        refine nb_Wg (q_m_layTellings_31 _ _ _ _ _ _ _) ?_
        simp only [E7]
        clear E7
        refine nb_Gr ?_
        exact nb_Hu H
  · have H := nb_Hw ((nb_Hu H).2 (by omega))
    have c11 : 10 ≤ l3 := by omega
    refine nb_Gr ?_
    have E10 : nb_i2z l2 = l2 := nb_i2z_eq (by omega)
    refine nb_Wg (q_m_layTellings_32 _ _ _ _ _ _) ?_
    simp only [E10]
    clear E10
    refine nb_Gs ?_
    exact nb_Hu H W

