/-! rules, printed by wip/gen -/
theorem w_c_person_0 {l1 l2 Ho : Int} {v3 : nb_V} {M : nb_M} {Q : List nb_V → nb_M → Prop} (W : nb_Lay M) (hHo : nb_hs Ho) (hx2 : M.1 2 2 = Ho) (H : (l1 < 0 → (nb_Lay (nb_wr M 2 15 1) → Q [(0, (-1))] (nb_wr M 2 15 1))) ∧ (0 ≤ l1 → 0 ≤ M.1 Ho 13 ∧ M.1 Ho 13 ≤ 10 ∧ (l1 < M.1 Ho 13 → (l2 < 0 → (nb_Lay (nb_wr M 2 15 1) → Q [(0, (-1))] (nb_wr M 2 15 1))) ∧ (0 ≤ l2 → (5 < l2 → (nb_Lay (nb_wr M 2 15 1) → Q [(0, (-1))] (nb_wr M 2 15 1))) ∧ (l2 ≤ 5 → (l2 = 0 → (M.1 (88 + l1) 8 = 2 → (M.1 84 7 < M.1 (88 + l1) 10 → (nb_Lay (nb_wr M 2 15 0) → Q [(0, M.1 (88 + l1) 8)] (nb_wr M 2 15 0))) ∧ (M.1 (88 + l1) 10 ≤ M.1 84 7 → (nb_Lay (nb_wr M 2 15 0) → Q [(0, 3)] (nb_wr M 2 15 0)))) ∧ (M.1 (88 + l1) 8 ≠ 2 → (nb_Lay (nb_wr M 2 15 0) → Q [(0, M.1 (88 + l1) 8)] (nb_wr M 2 15 0)))) ∧ (l2 = 1 → (nb_Lay (nb_wr M 2 15 0) → Q [(0, M.1 (88 + l1) 3)] (nb_wr M 2 15 0))) ∧ (l2 = 2 → (nb_Lay (nb_wr M 2 15 0) → Q [(0, M.1 (88 + l1) 5)] (nb_wr M 2 15 0))) ∧ (l2 = 3 → (nb_Lay (nb_wr M 2 15 0) → Q [(0, M.1 (88 + l1) 7)] (nb_wr M 2 15 0))) ∧ (l2 = 4 → (nb_Lay (nb_wr M 2 15 0) → Q [(0, M.1 (88 + l1) 9)] (nb_wr M 2 15 0))) ∧ (l2 ≠ 0 → l2 ≠ 1 → l2 ≠ 2 → l2 ≠ 3 → l2 ≠ 4 → (nb_Lay (nb_wr M 2 15 0) → Q [(0, M.1 (88 + l1) 10)] (nb_wr M 2 15 0)))))) ∧ (M.1 Ho 13 ≤ l1 → (nb_Lay (nb_wr M 2 15 1) → Q [(0, (-1))] (nb_wr M 2 15 1))))) :
    nb_W 16 0 [(19, 2), (0, l1), (0, l2), v3] [] M Q := by
  replace H := nb_Hw H
  have uhHo := hHo
  unfold nb_hs at uhHo
  refine nb_Wg (q_c_person_0 _ _ _ _ _ (by omega)) ?_
  refine nb_Gb ?_
  refine nb_Wg (q_c_isPerson_0 _ _ _) ?_
  refine nb_Gi (fun c41 => ?_) (fun c41 => ?_)
  · have H := nb_Hw ((nb_Hu H).1 c41)
    refine nb_Gr ?_
    refine nb_Wg (q_c_isPerson_3 _ _ _) ?_
    refine nb_Gr ?_
    have E1 : nb_i2z 0 = 0 := by decide
    refine nb_Wg (q_c_isPerson_4 _ _ _ _) ?_
    simp only [E1]
    clear E1
    refine nb_Gs ?_
    show nb_W 16 1 [(19, 2), (0, l1), (0, l2), v3] [(0, 0), (19, 2)] M _
    refine nb_Wg (q_c_person_1 _ _ _ _ _ _ _) ?_
    refine nb_Gt (by decide) ?_
    refine nb_Gr ?_
    refine nb_Wg (q_c_person_5 _ _ _ _ _ _) ?_
    refine nb_Gr ?_
    refine nb_Wg (q_c_person_6 _ _ _ _ _ _ _ (by omega)) ?_
    refine nb_Gb ?_
    refine nb_Wg (q_c_granted_0 _ _ _ _) ?_
    refine nb_Gt (by decide) ?_
    refine nb_Gr ?_
    refine nb_Wg (q_c_granted_2 _ _ _ _ _) ?_
    refine nb_Gr ?_
    refine nb_Wg (q_c_granted_3 _ _ _ _ _ _ (by omega)) ?_
    have W2 : nb_Lay (nb_wr M 2 15 1) := W.wr (fun w => (nb_nlit (by decide) (by decide)))
    refine nb_Gr ?_
    have E3 : nb_i2z 0 = 0 := by decide
    refine nb_Wg (q_c_granted_4 _ _ _ _) ?_
    simp only [E3]
    clear E3
    refine nb_Gs ?_
    show nb_W 16 7 [(19, 2), (0, l1), (0, l2), v3] [(0, 0)] (nb_wr M 2 15 1) _
    refine nb_Wg (q_c_person_7 _ _ _ _ _ _) ?_
    refine nb_Gt (by decide) ?_
    refine nb_Gr ?_
    refine nb_Wg (q_c_person_8 _ _ _ _ _) ?_
    refine nb_Gs ?_
    exact nb_Hu H W2
  · have H := nb_Hw ((nb_Hu H).2 (by omega))
    have c41 : 0 ≤ l1 := by omega
    refine nb_Gr ?_
    obtain ⟨p0_, p1_, H⟩ := H
    replace H := nb_Hw H
    have E4 : nb_rd M 2 2 = Ho := hx2
    have E5 : nb_rd M Ho 13 = M.1 Ho 13 := nb_rd_1 _ _ _
    refine nb_Wg (q_c_isPerson_1 _ _ _ (by omega) (by rw [E4]; first | done | omega)) ?_
    simp only [E4, E5]
    clear E4 E5
    refine nb_Gi (fun c40 => ?_) (fun c40 => ?_)
    · have H := nb_Hw ((nb_Hu H).1 c40)
      refine nb_Gr ?_
      refine nb_Wg (q_c_isPerson_2 _ _ _) ?_
      refine nb_Gr ?_
      have E6 : nb_i2z 1 = 1 := by decide
      refine nb_Wg (q_c_isPerson_4 _ _ _ _) ?_
      simp only [E6]
      clear E6
      refine nb_Gs ?_
      show nb_W 16 1 [(19, 2), (0, l1), (0, l2), v3] [(0, 1), (19, 2)] M _
      refine nb_Wg (q_c_person_1 _ _ _ _ _ _ _) ?_
      refine nb_Gf (by decide) ?_
      refine nb_Gr ?_
      refine nb_Wg (q_c_person_2 _ _ _ _ _ _) ?_
      refine nb_Gi (fun c36 => ?_) (fun c36 => ?_)
      · have H := nb_Hw ((nb_Hu H).1 c36)
        refine nb_Gr ?_
        refine nb_Wg (q_c_person_5 _ _ _ _ _ _) ?_
        refine nb_Gr ?_
        refine nb_Wg (q_c_person_6 _ _ _ _ _ _ _ (by omega)) ?_
        refine nb_Gb ?_
        refine nb_Wg (q_c_granted_0 _ _ _ _) ?_
        refine nb_Gt (by decide) ?_
        refine nb_Gr ?_
        refine nb_Wg (q_c_granted_2 _ _ _ _ _) ?_
        refine nb_Gr ?_
        refine nb_Wg (q_c_granted_3 _ _ _ _ _ _ (by omega)) ?_
        have W7 : nb_Lay (nb_wr M 2 15 1) := W.wr (fun w => (nb_nlit (by decide) (by decide)))
        refine nb_Gr ?_
        have E8 : nb_i2z 0 = 0 := by decide
        refine nb_Wg (q_c_granted_4 _ _ _ _) ?_
        simp only [E8]
        clear E8
        refine nb_Gs ?_
        show nb_W 16 7 [(19, 2), (0, l1), (0, l2), v3] [(0, 0)] (nb_wr M 2 15 1) _
        refine nb_Wg (q_c_person_7 _ _ _ _ _ _) ?_
        refine nb_Gt (by decide) ?_
        refine nb_Gr ?_
        refine nb_Wg (q_c_person_8 _ _ _ _ _) ?_
        refine nb_Gs ?_
        exact nb_Hu H W7
      · have H := nb_Hw ((nb_Hu H).2 (by omega))
        have c36 : 0 ≤ l2 := by omega
        refine nb_Gr ?_
        refine nb_Wg (q_c_person_3 _ _ _ _ _ _) ?_
        refine nb_Gi (fun c35 => ?_) (fun c35 => ?_)
        · have H := nb_Hw ((nb_Hu H).1 c35)
          refine nb_Gr ?_
          refine nb_Wg (q_c_person_5 _ _ _ _ _ _) ?_
          refine nb_Gr ?_
          refine nb_Wg (q_c_person_6 _ _ _ _ _ _ _ (by omega)) ?_
          refine nb_Gb ?_
          refine nb_Wg (q_c_granted_0 _ _ _ _) ?_
          refine nb_Gt (by decide) ?_
          refine nb_Gr ?_
          refine nb_Wg (q_c_granted_2 _ _ _ _ _) ?_
          refine nb_Gr ?_
          refine nb_Wg (q_c_granted_3 _ _ _ _ _ _ (by omega)) ?_
          have W9 : nb_Lay (nb_wr M 2 15 1) := W.wr (fun w => (nb_nlit (by decide) (by decide)))
          refine nb_Gr ?_
          have E10 : nb_i2z 0 = 0 := by decide
          refine nb_Wg (q_c_granted_4 _ _ _ _) ?_
          simp only [E10]
          clear E10
          refine nb_Gs ?_
          show nb_W 16 7 [(19, 2), (0, l1), (0, l2), v3] [(0, 0)] (nb_wr M 2 15 1) _
          refine nb_Wg (q_c_person_7 _ _ _ _ _ _) ?_
          refine nb_Gt (by decide) ?_
          refine nb_Gr ?_
          refine nb_Wg (q_c_person_8 _ _ _ _ _) ?_
          refine nb_Gs ?_
          exact nb_Hu H W9
        · have H := nb_Hw ((nb_Hu H).2 (by omega))
          have c35 : l2 ≤ 5 := by omega
          refine nb_Gr ?_
          refine nb_Wg (q_c_person_4 _ _ _ _ _ _) ?_
          refine nb_Gr ?_
          refine nb_Wg (q_c_person_6 _ _ _ _ _ _ _ (by omega)) ?_
          refine nb_Gb ?_
          refine nb_Wg (q_c_granted_0 _ _ _ _) ?_
          refine nb_Gf (by decide) ?_
          refine nb_Gr ?_
          refine nb_Wg (q_c_granted_1 _ _ _ _ _) ?_
          refine nb_Gr ?_
          refine nb_Wg (q_c_granted_3 _ _ _ _ _ _ (by omega)) ?_
          have W11 : nb_Lay (nb_wr M 2 15 0) := W.wr (fun w => (nb_nlit (by decide) (by decide)))
          refine nb_Gr ?_
          have E12 : nb_i2z 1 = 1 := by decide
          refine nb_Wg (q_c_granted_4 _ _ _ _) ?_
          simp only [E12]
          clear E12
          refine nb_Gs ?_
          show nb_W 16 7 [(19, 2), (0, l1), (0, l2), v3] [(0, 1)] (nb_wr M 2 15 0) _
          refine nb_Wg (q_c_person_7 _ _ _ _ _ _) ?_
          refine nb_Gf (by decide) ?_
          refine nb_Gr ?_
          have E13 : nb_rd (nb_wr M 2 15 0) 2 5 = 84 := W11.c5
          have E14 : nb_rd (nb_wr M 2 15 0) 84 0 = 85 := W11.s0 (A := 84) nb_sc84
          have N15 : nb_ln (nb_wr M 2 15 0) 85 = 10 := W11.sn1 (A := 84) nb_sc84
          have E16 : nb_rd (nb_wr M 2 15 0) 85 l1 = 88 + l1 := W11.sg (A := 84) (i := l1) nb_sc84 (by omega) (by omega)
          refine nb_Wg (q_c_person_9 _ _ _ _ _ (by omega) (by rw [E13]; first | done | omega) (by rw [E13, E14]; first | done | omega) (by omega) (by rw [E13, E14, N15]; first | done | omega)) ?_
          simp only [E13, E14, E16]
          clear E13 E14 N15 E16
          refine nb_Gi (fun c25 => ?_) (fun c25 => ?_)
          · have H := nb_Hw ((nb_Hu H).1 c25)
            refine nb_Gr ?_
            have E17 : nb_rd (nb_wr M 2 15 0) (88 + l1) 8 = M.1 (88 + l1) 8 := nb_rdw (Or.inr (by decide)) (nb_rd_1 _ _ _)
            refine nb_Wg (q_c_person_10 _ _ _ _ _ (by omega)) ?_
            simp only [E17]
            clear E17
            refine nb_Gi (fun c24 => ?_) (fun c24 => ?_)
            · have H := nb_Hw ((nb_Hu H).1 c24)
              refine nb_Gr ?_
              have E18 : nb_rd (nb_wr M 2 15 0) (88 + l1) 10 = M.1 (88 + l1) 10 := nb_rdw (Or.inr (by decide)) (nb_rd_1 _ _ _)
              have E19 : nb_rd (nb_wr M 2 15 0) 2 5 = 84 := W11.c5
              have E20 : nb_rd (nb_wr M 2 15 0) 84 7 = M.1 84 7 := nb_rdw (Or.inl (by decide)) (nb_rd_1 _ _ _)
              refine nb_Wg (q_c_person_11 _ _ _ _ _ (by omega) (by omega) (by rw [E19]; first | done | omega)) ?_
              simp only [E18, E19, E20]
              clear E18 E19 E20
              refine nb_Gi (fun c22 => ?_) (fun c22 => ?_)
              · have H := nb_Hw ((nb_Hu H).1 c22)
                refine nb_Gr ?_
                have E21 : nb_rd (nb_wr M 2 15 0) (88 + l1) 8 = M.1 (88 + l1) 8 := nb_rdw (Or.inr (by decide)) (nb_rd_1 _ _ _)
                refine nb_Wg (q_c_person_13 _ _ _ _ _ (by omega)) ?_
                simp only [E21]
                clear E21
                refine nb_Gr ?_
                refine nb_Wg (q_c_person_14 _ _ _ _ _ _) ?_
                refine nb_Gs ?_
                exact nb_Hu H W11
              · have H := nb_Hw ((nb_Hu H).2 (by omega))
                have c22 : M.1 (88 + l1) 10 ≤ M.1 84 7 := by omega
                refine nb_Gr ?_
                refine nb_Wg (q_c_person_12 _ _ _ _ _) ?_
                refine nb_Gr ?_
                refine nb_Wg (q_c_person_14 _ _ _ _ _ _) ?_
                refine nb_Gs ?_
                exact nb_Hu H W11
            · have H := nb_Hw ((nb_Hu H).2 (by omega))
              have c24 : M.1 (88 + l1) 8 ≠ 2 := by omega
              refine nb_Gr ?_
              have E23 : nb_rd (nb_wr M 2 15 0) (88 + l1) 8 = M.1 (88 + l1) 8 := nb_rdw (Or.inr (by decide)) (nb_rd_1 _ _ _)
              refine nb_Wg (q_c_person_13 _ _ _ _ _ (by omega)) ?_
              simp only [E23]
              clear E23
              refine nb_Gr ?_
              refine nb_Wg (q_c_person_14 _ _ _ _ _ _) ?_
              refine nb_Gs ?_
              exact nb_Hu H W11
          refine nb_Gi (fun c27 => ?_) (fun c27 => ?_)
          · have H := nb_Hw ((nb_Hu H).2.1 c27)
            refine nb_Gr ?_
            have E26 : nb_rd (nb_wr M 2 15 0) (88 + l1) 3 = M.1 (88 + l1) 3 := nb_rdw (Or.inr (by decide)) (nb_rd_1 _ _ _)
            refine nb_Wg (q_c_person_15 _ _ _ _ _ (by omega)) ?_
            simp only [E26]
            clear E26
            refine nb_Gs ?_
            exact nb_Hu H W11
          refine nb_Gi (fun c29 => ?_) (fun c29 => ?_)
          · have H := nb_Hw ((nb_Hu H).2.2.1 c29)
            refine nb_Gr ?_
            have E28 : nb_rd (nb_wr M 2 15 0) (88 + l1) 5 = M.1 (88 + l1) 5 := nb_rdw (Or.inr (by decide)) (nb_rd_1 _ _ _)
            refine nb_Wg (q_c_person_16 _ _ _ _ _ (by omega)) ?_
            simp only [E28]
            clear E28
            refine nb_Gs ?_
            exact nb_Hu H W11
          refine nb_Gi (fun c31 => ?_) (fun c31 => ?_)
          · have H := nb_Hw ((nb_Hu H).2.2.2.1 c31)
            refine nb_Gr ?_
            have E30 : nb_rd (nb_wr M 2 15 0) (88 + l1) 7 = M.1 (88 + l1) 7 := nb_rdw (Or.inr (by decide)) (nb_rd_1 _ _ _)
            refine nb_Wg (q_c_person_17 _ _ _ _ _ (by omega)) ?_
            simp only [E30]
            clear E30
            refine nb_Gs ?_
            exact nb_Hu H W11
          refine nb_Gi (fun c33 => ?_) (fun c33 => ?_)
          · have H := nb_Hw ((nb_Hu H).2.2.2.2.1 c33)
            refine nb_Gr ?_
            have E32 : nb_rd (nb_wr M 2 15 0) (88 + l1) 9 = M.1 (88 + l1) 9 := nb_rdw (Or.inr (by decide)) (nb_rd_1 _ _ _)
            refine nb_Wg (q_c_person_18 _ _ _ _ _ (by omega)) ?_
            simp only [E32]
            clear E32
            refine nb_Gs ?_
            exact nb_Hu H W11
          have H := nb_Hw ((nb_Hu H).2.2.2.2.2 (by omega) (by omega) (by omega) (by omega) (by omega))
          refine nb_Gr ?_
          have E34 : nb_rd (nb_wr M 2 15 0) (88 + l1) 10 = M.1 (88 + l1) 10 := nb_rdw (Or.inr (by decide)) (nb_rd_1 _ _ _)
          refine nb_Wg (q_c_person_19 _ _ _ _ _ (by omega)) ?_
          simp only [E34]
          clear E34
          refine nb_Gs ?_
          exact nb_Hu H W11
    · have H := nb_Hw ((nb_Hu H).2 (by omega))
      have c40 : M.1 Ho 13 ≤ l1 := by omega
      refine nb_Gr ?_
      refine nb_Wg (q_c_isPerson_3 _ _ _) ?_
      refine nb_Gr ?_
      have E37 : nb_i2z 0 = 0 := by decide
      refine nb_Wg (q_c_isPerson_4 _ _ _ _) ?_
      simp only [E37]
      clear E37
      refine nb_Gs ?_
      show nb_W 16 1 [(19, 2), (0, l1), (0, l2), v3] [(0, 0), (19, 2)] M _
      refine nb_Wg (q_c_person_1 _ _ _ _ _ _ _) ?_
      refine nb_Gt (by decide) ?_
      refine nb_Gr ?_
      refine nb_Wg (q_c_person_5 _ _ _ _ _ _) ?_
      refine nb_Gr ?_
      refine nb_Wg (q_c_person_6 _ _ _ _ _ _ _ (by omega)) ?_
      refine nb_Gb ?_
      refine nb_Wg (q_c_granted_0 _ _ _ _) ?_
      refine nb_Gt (by decide) ?_
      refine nb_Gr ?_
      refine nb_Wg (q_c_granted_2 _ _ _ _ _) ?_
      refine nb_Gr ?_
      refine nb_Wg (q_c_granted_3 _ _ _ _ _ _ (by omega)) ?_
      have W38 : nb_Lay (nb_wr M 2 15 1) := W.wr (fun w => (nb_nlit (by decide) (by decide)))
      refine nb_Gr ?_
      have E39 : nb_i2z 0 = 0 := by decide
      refine nb_Wg (q_c_granted_4 _ _ _ _) ?_
      simp only [E39]
      clear E39
      refine nb_Gs ?_
      show nb_W 16 7 [(19, 2), (0, l1), (0, l2), v3] [(0, 0)] (nb_wr M 2 15 1) _
      refine nb_Wg (q_c_person_7 _ _ _ _ _ _) ?_
      refine nb_Gt (by decide) ?_
      refine nb_Gr ?_
      refine nb_Wg (q_c_person_8 _ _ _ _ _) ?_
      refine nb_Gs ?_
      exact nb_Hu H W38

theorem w_c_waiting_0 {Ho : Int} {M : nb_M} {Q : List nb_V → nb_M → Prop} (W : nb_Lay M) (hHo : nb_hs Ho) (hx2 : M.1 2 2 = Ho) (H : 0 ≤ M.1 Ho 13 ∧ M.1 Ho 13 ≤ 10 ∧ (0 < M.1 Ho 13 → nb_W 265 0 [(15, 84), (0, 1), (98, 0), (98, 0)] [] (nb_wr M 2 15 0) (fun r M8 => ∃ x7 : Int, r = [(0, x7)] ∧ nb_Lay M8 ∧ M8.1 2 2 = Ho ∧ (nb_Lay M8 → Q [(0, x7)] M8))) ∧ (M.1 Ho 13 ≤ 0 → (nb_Lay (nb_wr M 2 15 1) → Q [(0, (-1))] (nb_wr M 2 15 1)))) :
    nb_W 19 0 [(19, 2)] [] M Q := by
  replace H := nb_Hw H
  have uhHo := hHo
  unfold nb_hs at uhHo
  refine nb_Wg (q_c_waiting_0 _ _ (by omega)) ?_
  refine nb_Gb ?_
  obtain ⟨p0_, p1_, H⟩ := H
  replace H := nb_Hw H
  have E1 : nb_rd M 2 2 = Ho := hx2
  have E2 : nb_rd M Ho 13 = M.1 Ho 13 := nb_rd_1 _ _ _
  refine nb_Wg (q_c_isOpen_0 _ _ (by omega) (by rw [E1]; first | done | omega)) ?_
  simp only [E1, E2]
  clear E1 E2
  refine nb_Gi (fun c14 => ?_) (fun c14 => ?_)
  · have H := nb_Hw ((nb_Hu H).1 c14)
    refine nb_Gr ?_
    refine nb_Wg (q_c_isOpen_1 _ _) ?_
    refine nb_Gr ?_
    have E3 : nb_i2z 1 = 1 := by decide
    refine nb_Wg (q_c_isOpen_3 _ _ _) ?_
    simp only [E3]
    clear E3
    refine nb_Gs ?_
    show nb_W 19 1 [(19, 2)] [(0, 1), (19, 2)] M _
    refine nb_Wg (q_c_waiting_1 _ _ _ _ (by omega)) ?_
    refine nb_Gb ?_
    refine nb_Wg (q_c_granted_0 _ _ _ _) ?_
    refine nb_Gf (by decide) ?_
    refine nb_Gr ?_
    refine nb_Wg (q_c_granted_1 _ _ _ _ _) ?_
    refine nb_Gr ?_
    refine nb_Wg (q_c_granted_3 _ _ _ _ _ _ (by omega)) ?_
    have W4 : nb_Lay (nb_wr M 2 15 0) := W.wr (fun w => (nb_nlit (by decide) (by decide)))
    refine nb_Gr ?_
    have E5 : nb_i2z 1 = 1 := by decide
    refine nb_Wg (q_c_granted_4 _ _ _ _) ?_
    simp only [E5]
    clear E5
    refine nb_Gs ?_
    show nb_W 19 2 [(19, 2)] [(0, 1)] (nb_wr M 2 15 0) _
    refine nb_Wg (q_c_waiting_2 _ _ _) ?_
    refine nb_Gf (by decide) ?_
    refine nb_Gr ?_
    have E6 : nb_rd (nb_wr M 2 15 0) 2 5 = 84 := W4.c5
    refine nb_Wg (q_c_waiting_3 _ _ (by omega) (by rw [E6]; first | done | omega)) ?_
    simp only [E6]
    clear E6
    refine nb_Gb ?_
    refine nb_W.imp (nb_Hu H) (fun r M8 H => ?_)
    obtain ⟨x7, rfl, W9, g10, H⟩ := H
    replace H := nb_Hw H
    show nb_W 19 4 [(19, 2)] [(0, x7)] M8 _
    refine nb_Wg (q_c_waiting_4 _ _ _) ?_
    refine nb_Gr ?_
    refine nb_Wg (q_c_waiting_6 _ _ _) ?_
    refine nb_Gs ?_
    exact nb_Hu H W9
  · have H := nb_Hw ((nb_Hu H).2 (by omega))
    have c14 : M.1 Ho 13 ≤ 0 := by omega
    refine nb_Gr ?_
    refine nb_Wg (q_c_isOpen_2 _ _) ?_
    refine nb_Gr ?_
    have E11 : nb_i2z 0 = 0 := by decide
    refine nb_Wg (q_c_isOpen_3 _ _ _) ?_
    simp only [E11]
    clear E11
    refine nb_Gs ?_
    show nb_W 19 1 [(19, 2)] [(0, 0), (19, 2)] M _
    refine nb_Wg (q_c_waiting_1 _ _ _ _ (by omega)) ?_
    refine nb_Gb ?_
    refine nb_Wg (q_c_granted_0 _ _ _ _) ?_
    refine nb_Gt (by decide) ?_
    refine nb_Gr ?_
    refine nb_Wg (q_c_granted_2 _ _ _ _ _) ?_
    refine nb_Gr ?_
    refine nb_Wg (q_c_granted_3 _ _ _ _ _ _ (by omega)) ?_
    have W12 : nb_Lay (nb_wr M 2 15 1) := W.wr (fun w => (nb_nlit (by decide) (by decide)))
    refine nb_Gr ?_
    have E13 : nb_i2z 0 = 0 := by decide
    refine nb_Wg (q_c_granted_4 _ _ _ _) ?_
    simp only [E13]
    clear E13
    refine nb_Gs ?_
    show nb_W 19 2 [(19, 2)] [(0, 0)] (nb_wr M 2 15 1) _
    refine nb_Wg (q_c_waiting_2 _ _ _) ?_
    refine nb_Gt (by decide) ?_
    refine nb_Gr ?_
    refine nb_Wg (q_c_waiting_5 _ _) ?_
    refine nb_Gr ?_
    refine nb_Wg (q_c_waiting_6 _ _ _) ?_
    refine nb_Gs ?_
    exact nb_Hu H W12

theorem w_c_next_0 {l1 Ho : Int} {M : nb_M} {Q : List nb_V → nb_M → Prop} (W : nb_Lay M) (hHo : nb_hs Ho) (hx2 : M.1 2 2 = Ho) (H : (l1 < 0 → (nb_Lay (nb_wr M 2 15 1) → Q [(0, (-1))] (nb_wr M 2 15 1))) ∧ (0 ≤ l1 → 0 ≤ M.1 Ho 12 ∧ M.1 Ho 12 ≤ 3 ∧ (l1 < M.1 Ho 12 → nb_W 262 0 [(15, 84), (0, l1), (98, 0), (98, 0), (98, 0), (98, 0), (98, 0), (98, 0)] [] (nb_wr M 2 15 0) (fun r M11 => ∃ x10 : Int, r = [(0, x10)] ∧ nb_Lay M11 ∧ M11.1 2 2 = Ho ∧ (nb_Lay M11 → Q [(0, x10)] M11))) ∧ (M.1 Ho 12 ≤ l1 → (nb_Lay (nb_wr M 2 15 1) → Q [(0, (-1))] (nb_wr M 2 15 1))))) :
    nb_W 20 0 [(19, 2), (0, l1)] [] M Q := by
  replace H := nb_Hw H
  have uhHo := hHo
  unfold nb_hs at uhHo
  refine nb_Wg (q_c_next_0 _ _ _ (by omega)) ?_
  refine nb_Gb ?_
  refine nb_Wg (q_c_isStaff_0 _ _ _) ?_
  refine nb_Gi (fun c18 => ?_) (fun c18 => ?_)
  · have H := nb_Hw ((nb_Hu H).1 c18)
    refine nb_Gr ?_
    refine nb_Wg (q_c_isStaff_3 _ _ _) ?_
    refine nb_Gr ?_
    have E1 : nb_i2z 0 = 0 := by decide
    refine nb_Wg (q_c_isStaff_4 _ _ _ _) ?_
    simp only [E1]
    clear E1
    refine nb_Gs ?_
    show nb_W 20 1 [(19, 2), (0, l1)] [(0, 0), (19, 2)] M _
    refine nb_Wg (q_c_next_1 _ _ _ _ _ (by omega)) ?_
    refine nb_Gb ?_
    refine nb_Wg (q_c_granted_0 _ _ _ _) ?_
    refine nb_Gt (by decide) ?_
    refine nb_Gr ?_
    refine nb_Wg (q_c_granted_2 _ _ _ _ _) ?_
    refine nb_Gr ?_
    refine nb_Wg (q_c_granted_3 _ _ _ _ _ _ (by omega)) ?_
    have W2 : nb_Lay (nb_wr M 2 15 1) := W.wr (fun w => (nb_nlit (by decide) (by decide)))
    refine nb_Gr ?_
    have E3 : nb_i2z 0 = 0 := by decide
    refine nb_Wg (q_c_granted_4 _ _ _ _) ?_
    simp only [E3]
    clear E3
    refine nb_Gs ?_
    show nb_W 20 2 [(19, 2), (0, l1)] [(0, 0)] (nb_wr M 2 15 1) _
    refine nb_Wg (q_c_next_2 _ _ _ _) ?_
    refine nb_Gt (by decide) ?_
    refine nb_Gr ?_
    refine nb_Wg (q_c_next_5 _ _ _) ?_
    refine nb_Gr ?_
    refine nb_Wg (q_c_next_6 _ _ _ _) ?_
    refine nb_Gs ?_
    exact nb_Hu H W2
  · have H := nb_Hw ((nb_Hu H).2 (by omega))
    have c18 : 0 ≤ l1 := by omega
    refine nb_Gr ?_
    obtain ⟨p0_, p1_, H⟩ := H
    replace H := nb_Hw H
    have E4 : nb_rd M 2 2 = Ho := hx2
    have E5 : nb_rd M Ho 12 = M.1 Ho 12 := nb_rd_1 _ _ _
    refine nb_Wg (q_c_isStaff_1 _ _ _ (by omega) (by rw [E4]; first | done | omega)) ?_
    simp only [E4, E5]
    clear E4 E5
    refine nb_Gi (fun c17 => ?_) (fun c17 => ?_)
    · have H := nb_Hw ((nb_Hu H).1 c17)
      refine nb_Gr ?_
      refine nb_Wg (q_c_isStaff_2 _ _ _) ?_
      refine nb_Gr ?_
      have E6 : nb_i2z 1 = 1 := by decide
      refine nb_Wg (q_c_isStaff_4 _ _ _ _) ?_
      simp only [E6]
      clear E6
      refine nb_Gs ?_
      show nb_W 20 1 [(19, 2), (0, l1)] [(0, 1), (19, 2)] M _
      refine nb_Wg (q_c_next_1 _ _ _ _ _ (by omega)) ?_
      refine nb_Gb ?_
      refine nb_Wg (q_c_granted_0 _ _ _ _) ?_
      refine nb_Gf (by decide) ?_
      refine nb_Gr ?_
      refine nb_Wg (q_c_granted_1 _ _ _ _ _) ?_
      refine nb_Gr ?_
      refine nb_Wg (q_c_granted_3 _ _ _ _ _ _ (by omega)) ?_
      have W7 : nb_Lay (nb_wr M 2 15 0) := W.wr (fun w => (nb_nlit (by decide) (by decide)))
      refine nb_Gr ?_
      have E8 : nb_i2z 1 = 1 := by decide
      refine nb_Wg (q_c_granted_4 _ _ _ _) ?_
      simp only [E8]
      clear E8
      refine nb_Gs ?_
      show nb_W 20 2 [(19, 2), (0, l1)] [(0, 1)] (nb_wr M 2 15 0) _
      refine nb_Wg (q_c_next_2 _ _ _ _) ?_
      refine nb_Gf (by decide) ?_
      refine nb_Gr ?_
      have E9 : nb_rd (nb_wr M 2 15 0) 2 5 = 84 := W7.c5
      refine nb_Wg (q_c_next_3 _ _ _ (by omega) (by rw [E9]; first | done | omega)) ?_
      simp only [E9]
      clear E9
      refine nb_Gb ?_
      refine nb_W.imp (nb_Hu H) (fun r M11 H => ?_)
      obtain ⟨x10, rfl, W12, g13, H⟩ := H
      replace H := nb_Hw H
      show nb_W 20 4 [(19, 2), (0, l1)] [(0, x10)] M11 _
      refine nb_Wg (q_c_next_4 _ _ _ _) ?_
      refine nb_Gr ?_
      refine nb_Wg (q_c_next_6 _ _ _ _) ?_
      refine nb_Gs ?_
      exact nb_Hu H W12
    · have H := nb_Hw ((nb_Hu H).2 (by omega))
      have c17 : M.1 Ho 12 ≤ l1 := by omega
      refine nb_Gr ?_
      refine nb_Wg (q_c_isStaff_3 _ _ _) ?_
      refine nb_Gr ?_
      have E14 : nb_i2z 0 = 0 := by decide
      refine nb_Wg (q_c_isStaff_4 _ _ _ _) ?_
      simp only [E14]
      clear E14
      refine nb_Gs ?_
      show nb_W 20 1 [(19, 2), (0, l1)] [(0, 0), (19, 2)] M _
      refine nb_Wg (q_c_next_1 _ _ _ _ _ (by omega)) ?_
      refine nb_Gb ?_
      refine nb_Wg (q_c_granted_0 _ _ _ _) ?_
      refine nb_Gt (by decide) ?_
      refine nb_Gr ?_
      refine nb_Wg (q_c_granted_2 _ _ _ _ _) ?_
      refine nb_Gr ?_
      refine nb_Wg (q_c_granted_3 _ _ _ _ _ _ (by omega)) ?_
      have W15 : nb_Lay (nb_wr M 2 15 1) := W.wr (fun w => (nb_nlit (by decide) (by decide)))
      refine nb_Gr ?_
      have E16 : nb_i2z 0 = 0 := by decide
      refine nb_Wg (q_c_granted_4 _ _ _ _) ?_
      simp only [E16]
      clear E16
      refine nb_Gs ?_
      show nb_W 20 2 [(19, 2), (0, l1)] [(0, 0)] (nb_wr M 2 15 1) _
      refine nb_Wg (q_c_next_2 _ _ _ _) ?_
      refine nb_Gt (by decide) ?_
      refine nb_Gr ?_
      refine nb_Wg (q_c_next_5 _ _ _) ?_
      refine nb_Gr ?_
      refine nb_Wg (q_c_next_6 _ _ _ _) ?_
      refine nb_Gs ?_
      exact nb_Hu H W15

theorem w_c_time_0 {l1 l2 Ho : Int} {M : nb_M} {Q : List nb_V → nb_M → Prop} (W : nb_Lay M) (hHo : nb_hs Ho) (hx2 : M.1 2 2 = Ho) (H : (l1 < 0 → (nb_Lay (nb_wr M 2 15 1) → Q [(0, (-1))] (nb_wr M 2 15 1))) ∧ (0 ≤ l1 → 0 ≤ M.1 Ho 12 ∧ M.1 Ho 12 ≤ 3 ∧ (l1 < M.1 Ho 12 → (l2 < 0 → (nb_Lay (nb_wr M 2 15 1) → Q [(0, (-1))] (nb_wr M 2 15 1))) ∧ (0 ≤ l2 → 0 ≤ M.1 Ho 13 ∧ M.1 Ho 13 ≤ 10 ∧ (l2 < M.1 Ho 13 → nb_W 220 0 [(12, Ho), (0, M.1 (98 + 2 * l1) 7), (0, l2), (98, 0), (98, 0), (98, 0), (98, 0)] [] (nb_wr M 2 15 0) (fun r M22 => ∃ x21 : Int, r = [(0, x21)] ∧ nb_Lay M22 ∧ M22.1 2 2 = Ho ∧ (nb_Lay M22 → Q [(0, x21)] M22))) ∧ (M.1 Ho 13 ≤ l2 → (nb_Lay (nb_wr M 2 15 1) → Q [(0, (-1))] (nb_wr M 2 15 1))))) ∧ (M.1 Ho 12 ≤ l1 → (nb_Lay (nb_wr M 2 15 1) → Q [(0, (-1))] (nb_wr M 2 15 1))))) :
    nb_W 21 0 [(19, 2), (0, l1), (0, l2)] [] M Q := by
  replace H := nb_Hw H
  have uhHo := hHo
  unfold nb_hs at uhHo
  refine nb_Wg (q_c_time_0 _ _ _ _ (by omega)) ?_
  refine nb_Gb ?_
  refine nb_Wg (q_c_isStaff_0 _ _ _) ?_
  refine nb_Gi (fun c34 => ?_) (fun c34 => ?_)
  · have H := nb_Hw ((nb_Hu H).1 c34)
    refine nb_Gr ?_
    refine nb_Wg (q_c_isStaff_3 _ _ _) ?_
    refine nb_Gr ?_
    have E1 : nb_i2z 0 = 0 := by decide
    refine nb_Wg (q_c_isStaff_4 _ _ _ _) ?_
    simp only [E1]
    clear E1
    refine nb_Gs ?_
    show nb_W 21 1 [(19, 2), (0, l1), (0, l2)] [(0, 0), (19, 2)] M _
    refine nb_Wg (q_c_time_1 _ _ _ _ _ _) ?_
    refine nb_Gt (by decide) ?_
    refine nb_Gr ?_
    refine nb_Wg (q_c_time_5 _ _ _ _ _) ?_
    refine nb_Gr ?_
    refine nb_Wg (q_c_time_6 _ _ _ _ _ _ (by omega)) ?_
    refine nb_Gb ?_
    refine nb_Wg (q_c_granted_0 _ _ _ _) ?_
    refine nb_Gt (by decide) ?_
    refine nb_Gr ?_
    refine nb_Wg (q_c_granted_2 _ _ _ _ _) ?_
    refine nb_Gr ?_
    refine nb_Wg (q_c_granted_3 _ _ _ _ _ _ (by omega)) ?_
    have W2 : nb_Lay (nb_wr M 2 15 1) := W.wr (fun w => (nb_nlit (by decide) (by decide)))
    refine nb_Gr ?_
    have E3 : nb_i2z 0 = 0 := by decide
    refine nb_Wg (q_c_granted_4 _ _ _ _) ?_
    simp only [E3]
    clear E3
    refine nb_Gs ?_
    show nb_W 21 7 [(19, 2), (0, l1), (0, l2)] [(0, 0)] (nb_wr M 2 15 1) _
    refine nb_Wg (q_c_time_7 _ _ _ _ _) ?_
    refine nb_Gt (by decide) ?_
    refine nb_Gr ?_
    refine nb_Wg (q_c_time_8 _ _ _ _) ?_
    refine nb_Gs ?_
    exact nb_Hu H W2
  · have H := nb_Hw ((nb_Hu H).2 (by omega))
    have c34 : 0 ≤ l1 := by omega
    refine nb_Gr ?_
    obtain ⟨p0_, p1_, H⟩ := H
    replace H := nb_Hw H
    have E4 : nb_rd M 2 2 = Ho := hx2
    have E5 : nb_rd M Ho 12 = M.1 Ho 12 := nb_rd_1 _ _ _
    refine nb_Wg (q_c_isStaff_1 _ _ _ (by omega) (by rw [E4]; first | done | omega)) ?_
    simp only [E4, E5]
    clear E4 E5
    refine nb_Gi (fun c33 => ?_) (fun c33 => ?_)
    · have H := nb_Hw ((nb_Hu H).1 c33)
      refine nb_Gr ?_
      refine nb_Wg (q_c_isStaff_2 _ _ _) ?_
      refine nb_Gr ?_
      have E6 : nb_i2z 1 = 1 := by decide
      refine nb_Wg (q_c_isStaff_4 _ _ _ _) ?_
      simp only [E6]
      clear E6
      refine nb_Gs ?_
      show nb_W 21 1 [(19, 2), (0, l1), (0, l2)] [(0, 1), (19, 2)] M _
      refine nb_Wg (q_c_time_1 _ _ _ _ _ _) ?_
      refine nb_Gf (by decide) ?_
      refine nb_Gr ?_
      refine nb_Wg (q_c_time_2 _ _ _ _ _ (by omega)) ?_
      refine nb_Gb ?_
      refine nb_Wg (q_c_isPerson_0 _ _ _) ?_
      refine nb_Gi (fun c29 => ?_) (fun c29 => ?_)
      · have H := nb_Hw ((nb_Hu H).1 c29)
        refine nb_Gr ?_
        refine nb_Wg (q_c_isPerson_3 _ _ _) ?_
        refine nb_Gr ?_
        have E7 : nb_i2z 0 = 0 := by decide
        refine nb_Wg (q_c_isPerson_4 _ _ _ _) ?_
        simp only [E7]
        clear E7
        refine nb_Gs ?_
        show nb_W 21 3 [(19, 2), (0, l1), (0, l2)] [(0, 0), (19, 2)] M _
        refine nb_Wg (q_c_time_3 _ _ _ _ _ _) ?_
        refine nb_Gt (by decide) ?_
        refine nb_Gr ?_
        refine nb_Wg (q_c_time_5 _ _ _ _ _) ?_
        refine nb_Gr ?_
        refine nb_Wg (q_c_time_6 _ _ _ _ _ _ (by omega)) ?_
        refine nb_Gb ?_
        refine nb_Wg (q_c_granted_0 _ _ _ _) ?_
        refine nb_Gt (by decide) ?_
        refine nb_Gr ?_
        refine nb_Wg (q_c_granted_2 _ _ _ _ _) ?_
        refine nb_Gr ?_
        refine nb_Wg (q_c_granted_3 _ _ _ _ _ _ (by omega)) ?_
        have W8 : nb_Lay (nb_wr M 2 15 1) := W.wr (fun w => (nb_nlit (by decide) (by decide)))
        refine nb_Gr ?_
        have E9 : nb_i2z 0 = 0 := by decide
        refine nb_Wg (q_c_granted_4 _ _ _ _) ?_
        simp only [E9]
        clear E9
        refine nb_Gs ?_
        show nb_W 21 7 [(19, 2), (0, l1), (0, l2)] [(0, 0)] (nb_wr M 2 15 1) _
        refine nb_Wg (q_c_time_7 _ _ _ _ _) ?_
        refine nb_Gt (by decide) ?_
        refine nb_Gr ?_
        refine nb_Wg (q_c_time_8 _ _ _ _) ?_
        refine nb_Gs ?_
        exact nb_Hu H W8
      · have H := nb_Hw ((nb_Hu H).2 (by omega))
        have c29 : 0 ≤ l2 := by omega
        refine nb_Gr ?_
        obtain ⟨p0_, p1_, H⟩ := H
        replace H := nb_Hw H
        have E10 : nb_rd M 2 2 = Ho := hx2
        have E11 : nb_rd M Ho 13 = M.1 Ho 13 := nb_rd_1 _ _ _
        refine nb_Wg (q_c_isPerson_1 _ _ _ (by omega) (by rw [E10]; first | done | omega)) ?_
        simp only [E10, E11]
        clear E10 E11
        refine nb_Gi (fun c28 => ?_) (fun c28 => ?_)
        · have H := nb_Hw ((nb_Hu H).1 c28)
          refine nb_Gr ?_
          refine nb_Wg (q_c_isPerson_2 _ _ _) ?_
          refine nb_Gr ?_
          have E12 : nb_i2z 1 = 1 := by decide
          refine nb_Wg (q_c_isPerson_4 _ _ _ _) ?_
          simp only [E12]
          clear E12
          refine nb_Gs ?_
          show nb_W 21 3 [(19, 2), (0, l1), (0, l2)] [(0, 1), (19, 2)] M _
          refine nb_Wg (q_c_time_3 _ _ _ _ _ _) ?_
          refine nb_Gf (by decide) ?_
          refine nb_Gr ?_
          refine nb_Wg (q_c_time_4 _ _ _ _ _) ?_
          refine nb_Gr ?_
          refine nb_Wg (q_c_time_6 _ _ _ _ _ _ (by omega)) ?_
          refine nb_Gb ?_
          refine nb_Wg (q_c_granted_0 _ _ _ _) ?_
          refine nb_Gf (by decide) ?_
          refine nb_Gr ?_
          refine nb_Wg (q_c_granted_1 _ _ _ _ _) ?_
          refine nb_Gr ?_
          refine nb_Wg (q_c_granted_3 _ _ _ _ _ _ (by omega)) ?_
          have W13 : nb_Lay (nb_wr M 2 15 0) := W.wr (fun w => (nb_nlit (by decide) (by decide)))
          refine nb_Gr ?_
          have E14 : nb_i2z 1 = 1 := by decide
          refine nb_Wg (q_c_granted_4 _ _ _ _) ?_
          simp only [E14]
          clear E14
          refine nb_Gs ?_
          show nb_W 21 7 [(19, 2), (0, l1), (0, l2)] [(0, 1)] (nb_wr M 2 15 0) _
          refine nb_Wg (q_c_time_7 _ _ _ _ _) ?_
          refine nb_Gf (by decide) ?_
          refine nb_Gr ?_
          have E15 : nb_rd (nb_wr M 2 15 0) 2 2 = Ho := nb_rdw (Or.inr (by decide)) (hx2)
          have E16 : nb_rd (nb_wr M 2 15 0) 2 5 = 84 := W13.c5
          have E17 : nb_rd (nb_wr M 2 15 0) 84 1 = 86 := W13.s1 (A := 84) nb_sc84
          have N18 : nb_ln (nb_wr M 2 15 0) 86 = 4 := W13.sn2 (A := 84) nb_sc84
          have E19 : nb_rd (nb_wr M 2 15 0) 86 l1 = 98 + 2 * l1 := W13.sv (A := 84) (i := l1) nb_sc84 (by omega) (by omega)
          have E20 : nb_rd (nb_wr M 2 15 0) (98 + 2 * l1) 7 = M.1 (98 + 2 * l1) 7 := nb_rdw (Or.inr (by decide)) (nb_rd_1 _ _ _)
          refine nb_Wg (q_c_time_9 _ _ _ _ (by omega) (by rw [E16]; first | done | omega) (by rw [E16, E17]; first | done | omega) (by omega) (by rw [E16, E17, N18]; first | done | omega) (by rw [E16, E17, E19]; first | done | omega) (by rw [E15]; first | done | omega)) ?_
          simp only [E15, E16, E17, E19, E20]
          clear E15 E16 E17 N18 E19 E20
          refine nb_Gb ?_
          refine nb_W.imp (nb_Hu H) (fun r M22 H => ?_)
          obtain ⟨x21, rfl, W23, g24, H⟩ := H
          replace H := nb_Hw H
          show nb_W 21 10 [(19, 2), (0, l1), (0, l2)] [(0, x21)] M22 _
          refine nb_Wg (q_c_time_10 _ _ _ _ _) ?_
          refine nb_Gs ?_
          exact nb_Hu H W23
        · have H := nb_Hw ((nb_Hu H).2 (by omega))
          have c28 : M.1 Ho 13 ≤ l2 := by omega
          refine nb_Gr ?_
          refine nb_Wg (q_c_isPerson_3 _ _ _) ?_
          refine nb_Gr ?_
          have E25 : nb_i2z 0 = 0 := by decide
          refine nb_Wg (q_c_isPerson_4 _ _ _ _) ?_
          simp only [E25]
          clear E25
          refine nb_Gs ?_
          show nb_W 21 3 [(19, 2), (0, l1), (0, l2)] [(0, 0), (19, 2)] M _
          refine nb_Wg (q_c_time_3 _ _ _ _ _ _) ?_
          refine nb_Gt (by decide) ?_
          refine nb_Gr ?_
          refine nb_Wg (q_c_time_5 _ _ _ _ _) ?_
          refine nb_Gr ?_
          refine nb_Wg (q_c_time_6 _ _ _ _ _ _ (by omega)) ?_
          refine nb_Gb ?_
          refine nb_Wg (q_c_granted_0 _ _ _ _) ?_
          refine nb_Gt (by decide) ?_
          refine nb_Gr ?_
          refine nb_Wg (q_c_granted_2 _ _ _ _ _) ?_
          refine nb_Gr ?_
          refine nb_Wg (q_c_granted_3 _ _ _ _ _ _ (by omega)) ?_
          have W26 : nb_Lay (nb_wr M 2 15 1) := W.wr (fun w => (nb_nlit (by decide) (by decide)))
          refine nb_Gr ?_
          have E27 : nb_i2z 0 = 0 := by decide
          refine nb_Wg (q_c_granted_4 _ _ _ _) ?_
          simp only [E27]
          clear E27
          refine nb_Gs ?_
          show nb_W 21 7 [(19, 2), (0, l1), (0, l2)] [(0, 0)] (nb_wr M 2 15 1) _
          refine nb_Wg (q_c_time_7 _ _ _ _ _) ?_
          refine nb_Gt (by decide) ?_
          refine nb_Gr ?_
          refine nb_Wg (q_c_time_8 _ _ _ _) ?_
          refine nb_Gs ?_
          exact nb_Hu H W26
    · have H := nb_Hw ((nb_Hu H).2 (by omega))
      have c33 : M.1 Ho 12 ≤ l1 := by omega
      refine nb_Gr ?_
      refine nb_Wg (q_c_isStaff_3 _ _ _) ?_
      refine nb_Gr ?_
      have E30 : nb_i2z 0 = 0 := by decide
      refine nb_Wg (q_c_isStaff_4 _ _ _ _) ?_
      simp only [E30]
      clear E30
      refine nb_Gs ?_
      show nb_W 21 1 [(19, 2), (0, l1), (0, l2)] [(0, 0), (19, 2)] M _
      refine nb_Wg (q_c_time_1 _ _ _ _ _ _) ?_
      refine nb_Gt (by decide) ?_
      refine nb_Gr ?_
      refine nb_Wg (q_c_time_5 _ _ _ _ _) ?_
      refine nb_Gr ?_
      refine nb_Wg (q_c_time_6 _ _ _ _ _ _ (by omega)) ?_
      refine nb_Gb ?_
      refine nb_Wg (q_c_granted_0 _ _ _ _) ?_
      refine nb_Gt (by decide) ?_
      refine nb_Gr ?_
      refine nb_Wg (q_c_granted_2 _ _ _ _ _) ?_
      refine nb_Gr ?_
      refine nb_Wg (q_c_granted_3 _ _ _ _ _ _ (by omega)) ?_
      have W31 : nb_Lay (nb_wr M 2 15 1) := W.wr (fun w => (nb_nlit (by decide) (by decide)))
      refine nb_Gr ?_
      have E32 : nb_i2z 0 = 0 := by decide
      refine nb_Wg (q_c_granted_4 _ _ _ _) ?_
      simp only [E32]
      clear E32
      refine nb_Gs ?_
      show nb_W 21 7 [(19, 2), (0, l1), (0, l2)] [(0, 0)] (nb_wr M 2 15 1) _
      refine nb_Wg (q_c_time_7 _ _ _ _ _) ?_
      refine nb_Gt (by decide) ?_
      refine nb_Gr ?_
      refine nb_Wg (q_c_time_8 _ _ _ _) ?_
      refine nb_Gs ?_
      exact nb_Hu H W31

theorem w_c_costs_0 {l1 Ho : Int} {M : nb_M} {Q : List nb_V → nb_M → Prop} (W : nb_Lay M) (hHo : nb_hs Ho) (hx2 : M.1 2 2 = Ho) (H : (l1 < 0 → (nb_Lay (nb_wr M 2 15 1) → Q [(0, (-1))] (nb_wr M 2 15 1))) ∧ (0 ≤ l1 → 0 ≤ M.1 Ho 13 ∧ M.1 Ho 13 ≤ 10 ∧ (l1 < M.1 Ho 13 → nb_W 221 0 [(12, Ho), (0, l1), (98, 0), (98, 0)] [] (nb_wr M 2 15 0) (fun r M11 => ∃ x10 : Int, r = [(0, x10)] ∧ nb_Lay M11 ∧ M11.1 2 2 = Ho ∧ (nb_Lay M11 → Q [(0, x10)] M11))) ∧ (M.1 Ho 13 ≤ l1 → (nb_Lay (nb_wr M 2 15 1) → Q [(0, (-1))] (nb_wr M 2 15 1))))) :
    nb_W 22 0 [(19, 2), (0, l1)] [] M Q := by
  replace H := nb_Hw H
  have uhHo := hHo
  unfold nb_hs at uhHo
  refine nb_Wg (q_c_costs_0 _ _ _ (by omega)) ?_
  refine nb_Gb ?_
  refine nb_Wg (q_c_isPerson_0 _ _ _) ?_
  refine nb_Gi (fun c18 => ?_) (fun c18 => ?_)
  · have H := nb_Hw ((nb_Hu H).1 c18)
    refine nb_Gr ?_
    refine nb_Wg (q_c_isPerson_3 _ _ _) ?_
    refine nb_Gr ?_
    have E1 : nb_i2z 0 = 0 := by decide
    refine nb_Wg (q_c_isPerson_4 _ _ _ _) ?_
    simp only [E1]
    clear E1
    refine nb_Gs ?_
    show nb_W 22 1 [(19, 2), (0, l1)] [(0, 0), (19, 2)] M _
    refine nb_Wg (q_c_costs_1 _ _ _ _ _ (by omega)) ?_
    refine nb_Gb ?_
    refine nb_Wg (q_c_granted_0 _ _ _ _) ?_
    refine nb_Gt (by decide) ?_
    refine nb_Gr ?_
    refine nb_Wg (q_c_granted_2 _ _ _ _ _) ?_
    refine nb_Gr ?_
    refine nb_Wg (q_c_granted_3 _ _ _ _ _ _ (by omega)) ?_
    have W2 : nb_Lay (nb_wr M 2 15 1) := W.wr (fun w => (nb_nlit (by decide) (by decide)))
    refine nb_Gr ?_
    have E3 : nb_i2z 0 = 0 := by decide
    refine nb_Wg (q_c_granted_4 _ _ _ _) ?_
    simp only [E3]
    clear E3
    refine nb_Gs ?_
    show nb_W 22 2 [(19, 2), (0, l1)] [(0, 0)] (nb_wr M 2 15 1) _
    refine nb_Wg (q_c_costs_2 _ _ _ _) ?_
    refine nb_Gt (by decide) ?_
    refine nb_Gr ?_
    refine nb_Wg (q_c_costs_5 _ _ _) ?_
    refine nb_Gr ?_
    refine nb_Wg (q_c_costs_6 _ _ _ _) ?_
    refine nb_Gs ?_
    exact nb_Hu H W2
  · have H := nb_Hw ((nb_Hu H).2 (by omega))
    have c18 : 0 ≤ l1 := by omega
    refine nb_Gr ?_
    obtain ⟨p0_, p1_, H⟩ := H
    replace H := nb_Hw H
    have E4 : nb_rd M 2 2 = Ho := hx2
    have E5 : nb_rd M Ho 13 = M.1 Ho 13 := nb_rd_1 _ _ _
    refine nb_Wg (q_c_isPerson_1 _ _ _ (by omega) (by rw [E4]; first | done | omega)) ?_
    simp only [E4, E5]
    clear E4 E5
    refine nb_Gi (fun c17 => ?_) (fun c17 => ?_)
    · have H := nb_Hw ((nb_Hu H).1 c17)
      refine nb_Gr ?_
      refine nb_Wg (q_c_isPerson_2 _ _ _) ?_
      refine nb_Gr ?_
      have E6 : nb_i2z 1 = 1 := by decide
      refine nb_Wg (q_c_isPerson_4 _ _ _ _) ?_
      simp only [E6]
      clear E6
      refine nb_Gs ?_
      show nb_W 22 1 [(19, 2), (0, l1)] [(0, 1), (19, 2)] M _
      refine nb_Wg (q_c_costs_1 _ _ _ _ _ (by omega)) ?_
      refine nb_Gb ?_
      refine nb_Wg (q_c_granted_0 _ _ _ _) ?_
      refine nb_Gf (by decide) ?_
      refine nb_Gr ?_
      refine nb_Wg (q_c_granted_1 _ _ _ _ _) ?_
      refine nb_Gr ?_
      refine nb_Wg (q_c_granted_3 _ _ _ _ _ _ (by omega)) ?_
      have W7 : nb_Lay (nb_wr M 2 15 0) := W.wr (fun w => (nb_nlit (by decide) (by decide)))
      refine nb_Gr ?_
      have E8 : nb_i2z 1 = 1 := by decide
      refine nb_Wg (q_c_granted_4 _ _ _ _) ?_
      simp only [E8]
      clear E8
      refine nb_Gs ?_
      show nb_W 22 2 [(19, 2), (0, l1)] [(0, 1)] (nb_wr M 2 15 0) _
      refine nb_Wg (q_c_costs_2 _ _ _ _) ?_
      refine nb_Gf (by decide) ?_
      refine nb_Gr ?_
      have E9 : nb_rd (nb_wr M 2 15 0) 2 2 = Ho := nb_rdw (Or.inr (by decide)) (hx2)
      refine nb_Wg (q_c_costs_3 _ _ _ (by omega) (by rw [E9]; first | done | omega)) ?_
      simp only [E9]
      clear E9
      refine nb_Gb ?_
      refine nb_W.imp (nb_Hu H) (fun r M11 H => ?_)
      obtain ⟨x10, rfl, W12, g13, H⟩ := H
      replace H := nb_Hw H
      show nb_W 22 4 [(19, 2), (0, l1)] [(0, x10)] M11 _
      refine nb_Wg (q_c_costs_4 _ _ _ _) ?_
      refine nb_Gr ?_
      refine nb_Wg (q_c_costs_6 _ _ _ _) ?_
      refine nb_Gs ?_
      exact nb_Hu H W12
    · have H := nb_Hw ((nb_Hu H).2 (by omega))
      have c17 : M.1 Ho 13 ≤ l1 := by omega
      refine nb_Gr ?_
      refine nb_Wg (q_c_isPerson_3 _ _ _) ?_
      refine nb_Gr ?_
      have E14 : nb_i2z 0 = 0 := by decide
      refine nb_Wg (q_c_isPerson_4 _ _ _ _) ?_
      simp only [E14]
      clear E14
      refine nb_Gs ?_
      show nb_W 22 1 [(19, 2), (0, l1)] [(0, 0), (19, 2)] M _
      refine nb_Wg (q_c_costs_1 _ _ _ _ _ (by omega)) ?_
      refine nb_Gb ?_
      refine nb_Wg (q_c_granted_0 _ _ _ _) ?_
      refine nb_Gt (by decide) ?_
      refine nb_Gr ?_
      refine nb_Wg (q_c_granted_2 _ _ _ _ _) ?_
      refine nb_Gr ?_
      refine nb_Wg (q_c_granted_3 _ _ _ _ _ _ (by omega)) ?_
      have W15 : nb_Lay (nb_wr M 2 15 1) := W.wr (fun w => (nb_nlit (by decide) (by decide)))
      refine nb_Gr ?_
      have E16 : nb_i2z 0 = 0 := by decide
      refine nb_Wg (q_c_granted_4 _ _ _ _) ?_
      simp only [E16]
      clear E16
      refine nb_Gs ?_
      show nb_W 22 2 [(19, 2), (0, l1)] [(0, 0)] (nb_wr M 2 15 1) _
      refine nb_Wg (q_c_costs_2 _ _ _ _) ?_
      refine nb_Gt (by decide) ?_
      refine nb_Gr ?_
      refine nb_Wg (q_c_costs_5 _ _ _) ?_
      refine nb_Gr ?_
      refine nb_Wg (q_c_costs_6 _ _ _ _) ?_
      refine nb_Gs ?_
      exact nb_Hu H W15

theorem w_c_told_0 {l1 l2 Ho : Int} {v3 : nb_V} {M : nb_M} {Q : List nb_V → nb_M → Prop} (W : nb_Lay M) (hHo : nb_hs Ho) (hx2 : M.1 2 2 = Ho) (H : (l1 < 0 → (nb_Lay (nb_wr M 2 15 1) → Q [(0, (-1))] (nb_wr M 2 15 1))) ∧ (0 ≤ l1 → 0 ≤ M.1 Ho 13 ∧ M.1 Ho 13 ≤ 10 ∧ (l1 < M.1 Ho 13 → (l2 < 0 → (nb_Lay (nb_wr M 2 15 1) → Q [(0, (-1))] (nb_wr M 2 15 1))) ∧ (0 ≤ l2 → (6 < l2 → (nb_Lay (nb_wr M 2 15 1) → Q [(0, (-1))] (nb_wr M 2 15 1))) ∧ (l2 ≤ 6 → (l2 = 0 → (nb_Lay (nb_wr M 2 15 0) → Q [(0, M.1 (Ho + 20 + l1) 0)] (nb_wr M 2 15 0))) ∧ (l2 = 1 → (nb_Lay (nb_wr M 2 15 0) → Q [(0, M.1 (Ho + 20 + l1) 1)] (nb_wr M 2 15 0))) ∧ (l2 = 2 → (nb_Lay (nb_wr M 2 15 0) → Q [(0, M.1 (Ho + 20 + l1) 2)] (nb_wr M 2 15 0))) ∧ (l2 = 3 → (nb_Lay (nb_wr M 2 15 0) → Q [(0, M.1 (Ho + 20 + l1) 3)] (nb_wr M 2 15 0))) ∧ (l2 = 4 → (nb_Lay (nb_wr M 2 15 0) → Q [(0, M.1 (Ho + 20 + l1) 4)] (nb_wr M 2 15 0))) ∧ (l2 = 5 → (nb_Lay (nb_wr M 2 15 0) → Q [(0, M.1 (Ho + 20 + l1) 5)] (nb_wr M 2 15 0))) ∧ (l2 ≠ 0 → l2 ≠ 1 → l2 ≠ 2 → l2 ≠ 3 → l2 ≠ 4 → l2 ≠ 5 → (nb_Lay (nb_wr M 2 15 0) → Q [(0, M.1 (Ho + 20 + l1) 6)] (nb_wr M 2 15 0)))))) ∧ (M.1 Ho 13 ≤ l1 → (nb_Lay (nb_wr M 2 15 1) → Q [(0, (-1))] (nb_wr M 2 15 1))))) :
    nb_W 73 0 [(19, 2), (0, l1), (0, l2), v3] [] M Q := by
  replace H := nb_Hw H
  have uhHo := hHo
  unfold nb_hs at uhHo
  refine nb_Wg (q_c_told_0 _ _ _ _ _ (by omega)) ?_
  refine nb_Gb ?_
  refine nb_Wg (q_c_isPerson_0 _ _ _) ?_
  refine nb_Gi (fun c36 => ?_) (fun c36 => ?_)
  · have H := nb_Hw ((nb_Hu H).1 c36)
    refine nb_Gr ?_
    refine nb_Wg (q_c_isPerson_3 _ _ _) ?_
    refine nb_Gr ?_
    have E1 : nb_i2z 0 = 0 := by decide
    refine nb_Wg (q_c_isPerson_4 _ _ _ _) ?_
    simp only [E1]
    clear E1
    refine nb_Gs ?_
    show nb_W 73 1 [(19, 2), (0, l1), (0, l2), v3] [(0, 0), (19, 2)] M _
    refine nb_Wg (q_c_told_1 _ _ _ _ _ _ _) ?_
    refine nb_Gt (by decide) ?_
    refine nb_Gr ?_
    refine nb_Wg (q_c_told_5 _ _ _ _ _ _) ?_
    refine nb_Gr ?_
    refine nb_Wg (q_c_told_6 _ _ _ _ _ _ _ (by omega)) ?_
    refine nb_Gb ?_
    refine nb_Wg (q_c_granted_0 _ _ _ _) ?_
    refine nb_Gt (by decide) ?_
    refine nb_Gr ?_
    refine nb_Wg (q_c_granted_2 _ _ _ _ _) ?_
    refine nb_Gr ?_
    refine nb_Wg (q_c_granted_3 _ _ _ _ _ _ (by omega)) ?_
    have W2 : nb_Lay (nb_wr M 2 15 1) := W.wr (fun w => (nb_nlit (by decide) (by decide)))
    refine nb_Gr ?_
    have E3 : nb_i2z 0 = 0 := by decide
    refine nb_Wg (q_c_granted_4 _ _ _ _) ?_
    simp only [E3]
    clear E3
    refine nb_Gs ?_
    show nb_W 73 7 [(19, 2), (0, l1), (0, l2), v3] [(0, 0)] (nb_wr M 2 15 1) _
    refine nb_Wg (q_c_told_7 _ _ _ _ _ _) ?_
    refine nb_Gt (by decide) ?_
    refine nb_Gr ?_
    refine nb_Wg (q_c_told_8 _ _ _ _ _) ?_
    refine nb_Gs ?_
    exact nb_Hu H W2
  · have H := nb_Hw ((nb_Hu H).2 (by omega))
    have c36 : 0 ≤ l1 := by omega
    refine nb_Gr ?_
    obtain ⟨p0_, p1_, H⟩ := H
    replace H := nb_Hw H
    have E4 : nb_rd M 2 2 = Ho := hx2
    have E5 : nb_rd M Ho 13 = M.1 Ho 13 := nb_rd_1 _ _ _
    refine nb_Wg (q_c_isPerson_1 _ _ _ (by omega) (by rw [E4]; first | done | omega)) ?_
    simp only [E4, E5]
    clear E4 E5
    refine nb_Gi (fun c35 => ?_) (fun c35 => ?_)
    · have H := nb_Hw ((nb_Hu H).1 c35)
      refine nb_Gr ?_
      refine nb_Wg (q_c_isPerson_2 _ _ _) ?_
      refine nb_Gr ?_
      have E6 : nb_i2z 1 = 1 := by decide
      refine nb_Wg (q_c_isPerson_4 _ _ _ _) ?_
      simp only [E6]
      clear E6
      refine nb_Gs ?_
      show nb_W 73 1 [(19, 2), (0, l1), (0, l2), v3] [(0, 1), (19, 2)] M _
      refine nb_Wg (q_c_told_1 _ _ _ _ _ _ _) ?_
      refine nb_Gf (by decide) ?_
      refine nb_Gr ?_
      refine nb_Wg (q_c_told_2 _ _ _ _ _ _) ?_
      refine nb_Gi (fun c31 => ?_) (fun c31 => ?_)
      · have H := nb_Hw ((nb_Hu H).1 c31)
        refine nb_Gr ?_
        refine nb_Wg (q_c_told_5 _ _ _ _ _ _) ?_
        refine nb_Gr ?_
        refine nb_Wg (q_c_told_6 _ _ _ _ _ _ _ (by omega)) ?_
        refine nb_Gb ?_
        refine nb_Wg (q_c_granted_0 _ _ _ _) ?_
        refine nb_Gt (by decide) ?_
        refine nb_Gr ?_
        refine nb_Wg (q_c_granted_2 _ _ _ _ _) ?_
        refine nb_Gr ?_
        refine nb_Wg (q_c_granted_3 _ _ _ _ _ _ (by omega)) ?_
        have W7 : nb_Lay (nb_wr M 2 15 1) := W.wr (fun w => (nb_nlit (by decide) (by decide)))
        refine nb_Gr ?_
        have E8 : nb_i2z 0 = 0 := by decide
        refine nb_Wg (q_c_granted_4 _ _ _ _) ?_
        simp only [E8]
        clear E8
        refine nb_Gs ?_
        show nb_W 73 7 [(19, 2), (0, l1), (0, l2), v3] [(0, 0)] (nb_wr M 2 15 1) _
        refine nb_Wg (q_c_told_7 _ _ _ _ _ _) ?_
        refine nb_Gt (by decide) ?_
        refine nb_Gr ?_
        refine nb_Wg (q_c_told_8 _ _ _ _ _) ?_
        refine nb_Gs ?_
        exact nb_Hu H W7
      · have H := nb_Hw ((nb_Hu H).2 (by omega))
        have c31 : 0 ≤ l2 := by omega
        refine nb_Gr ?_
        refine nb_Wg (q_c_told_3 _ _ _ _ _ _) ?_
        refine nb_Gi (fun c30 => ?_) (fun c30 => ?_)
        · have H := nb_Hw ((nb_Hu H).1 c30)
          refine nb_Gr ?_
          refine nb_Wg (q_c_told_5 _ _ _ _ _ _) ?_
          refine nb_Gr ?_
          refine nb_Wg (q_c_told_6 _ _ _ _ _ _ _ (by omega)) ?_
          refine nb_Gb ?_
          refine nb_Wg (q_c_granted_0 _ _ _ _) ?_
          refine nb_Gt (by decide) ?_
          refine nb_Gr ?_
          refine nb_Wg (q_c_granted_2 _ _ _ _ _) ?_
          refine nb_Gr ?_
          refine nb_Wg (q_c_granted_3 _ _ _ _ _ _ (by omega)) ?_
          have W9 : nb_Lay (nb_wr M 2 15 1) := W.wr (fun w => (nb_nlit (by decide) (by decide)))
          refine nb_Gr ?_
          have E10 : nb_i2z 0 = 0 := by decide
          refine nb_Wg (q_c_granted_4 _ _ _ _) ?_
          simp only [E10]
          clear E10
          refine nb_Gs ?_
          show nb_W 73 7 [(19, 2), (0, l1), (0, l2), v3] [(0, 0)] (nb_wr M 2 15 1) _
          refine nb_Wg (q_c_told_7 _ _ _ _ _ _) ?_
          refine nb_Gt (by decide) ?_
          refine nb_Gr ?_
          refine nb_Wg (q_c_told_8 _ _ _ _ _) ?_
          refine nb_Gs ?_
          exact nb_Hu H W9
        · have H := nb_Hw ((nb_Hu H).2 (by omega))
          have c30 : l2 ≤ 6 := by omega
          refine nb_Gr ?_
          refine nb_Wg (q_c_told_4 _ _ _ _ _ _) ?_
          refine nb_Gr ?_
          refine nb_Wg (q_c_told_6 _ _ _ _ _ _ _ (by omega)) ?_
          refine nb_Gb ?_
          refine nb_Wg (q_c_granted_0 _ _ _ _) ?_
          refine nb_Gf (by decide) ?_
          refine nb_Gr ?_
          refine nb_Wg (q_c_granted_1 _ _ _ _ _) ?_
          refine nb_Gr ?_
          refine nb_Wg (q_c_granted_3 _ _ _ _ _ _ (by omega)) ?_
          have W11 : nb_Lay (nb_wr M 2 15 0) := W.wr (fun w => (nb_nlit (by decide) (by decide)))
          refine nb_Gr ?_
          have E12 : nb_i2z 1 = 1 := by decide
          refine nb_Wg (q_c_granted_4 _ _ _ _) ?_
          simp only [E12]
          clear E12
          refine nb_Gs ?_
          show nb_W 73 7 [(19, 2), (0, l1), (0, l2), v3] [(0, 1)] (nb_wr M 2 15 0) _
          refine nb_Wg (q_c_told_7 _ _ _ _ _ _) ?_
          refine nb_Gf (by decide) ?_
          refine nb_Gr ?_
          have E13 : nb_rd (nb_wr M 2 15 0) 2 2 = Ho := nb_rdw (Or.inr (by decide)) (hx2)
          have E14 : nb_rd (nb_wr M 2 15 0) Ho 4 = Ho + 15 := W11.h4 (H := Ho) hHo
          have N15 : nb_ln (nb_wr M 2 15 0) (Ho + 15) = 10 := W11.hn15 (H := Ho) hHo
          have E16 : nb_rd (nb_wr M 2 15 0) (Ho + 15) l1 = Ho + 20 + l1 := W11.hg (H := Ho) (i := l1) hHo (by omega) (by omega)
          refine nb_Wg (q_c_told_9 _ _ _ _ _ (by omega) (by rw [E13]; first | done | omega) (by rw [E13, E14]; first | done | omega) (by omega) (by rw [E13, E14, N15]; first | done | omega)) ?_
          simp only [E13, E14, E16]
          clear E13 E14 N15 E16
          refine nb_Gi (fun c18 => ?_) (fun c18 => ?_)
          · have H := nb_Hw ((nb_Hu H).1 c18)
            refine nb_Gr ?_
            have E17 : nb_rd (nb_wr M 2 15 0) (Ho + 20 + l1) 0 = M.1 (Ho + 20 + l1) 0 := nb_rdw (Or.inr (by decide)) (nb_rd_1 _ _ _)
            refine nb_Wg (q_c_told_10 _ _ _ _ _ (by omega)) ?_
            simp only [E17]
            clear E17
            refine nb_Gs ?_
            exact nb_Hu H W11
          refine nb_Gi (fun c20 => ?_) (fun c20 => ?_)
          · have H := nb_Hw ((nb_Hu H).2.1 c20)
            refine nb_Gr ?_
            have E19 : nb_rd (nb_wr M 2 15 0) (Ho + 20 + l1) 1 = M.1 (Ho + 20 + l1) 1 := nb_rdw (Or.inr (by decide)) (nb_rd_1 _ _ _)
            refine nb_Wg (q_c_told_11 _ _ _ _ _ (by omega)) ?_
            simp only [E19]
            clear E19
            refine nb_Gs ?_
            exact nb_Hu H W11
          refine nb_Gi (fun c22 => ?_) (fun c22 => ?_)
          · have H := nb_Hw ((nb_Hu H).2.2.1 c22)
            refine nb_Gr ?_
            have E21 : nb_rd (nb_wr M 2 15 0) (Ho + 20 + l1) 2 = M.1 (Ho + 20 + l1) 2 := nb_rdw (Or.inr (by decide)) (nb_rd_1 _ _ _)
            refine nb_Wg (q_c_told_12 _ _ _ _ _ (by omega)) ?_
            simp only [E21]
            clear E21
            refine nb_Gs ?_
            exact nb_Hu H W11
          refine nb_Gi (fun c24 => ?_) (fun c24 => ?_)
          · have H := nb_Hw ((nb_Hu H).2.2.2.1 c24)
            refine nb_Gr ?_
            have E23 : nb_rd (nb_wr M 2 15 0) (Ho + 20 + l1) 3 = M.1 (Ho + 20 + l1) 3 := nb_rdw (Or.inr (by decide)) (nb_rd_1 _ _ _)
            refine nb_Wg (q_c_told_13 _ _ _ _ _ (by omega)) ?_
            simp only [E23]
            clear E23
            refine nb_Gs ?_
            exact nb_Hu H W11
          refine nb_Gi (fun c26 => ?_) (fun c26 => ?_)
          · have H := nb_Hw ((nb_Hu H).2.2.2.2.1 c26)
            refine nb_Gr ?_
            have E25 : nb_rd (nb_wr M 2 15 0) (Ho + 20 + l1) 4 = M.1 (Ho + 20 + l1) 4 := nb_rdw (Or.inr (by decide)) (nb_rd_1 _ _ _)
            refine nb_Wg (q_c_told_14 _ _ _ _ _ (by omega)) ?_
            simp only [E25]
            clear E25
            refine nb_Gs ?_
            exact nb_Hu H W11
          refine nb_Gi (fun c28 => ?_) (fun c28 => ?_)
          · have H := nb_Hw ((nb_Hu H).2.2.2.2.2.1 c28)
            refine nb_Gr ?_
            have E27 : nb_rd (nb_wr M 2 15 0) (Ho + 20 + l1) 5 = M.1 (Ho + 20 + l1) 5 := nb_rdw (Or.inr (by decide)) (nb_rd_1 _ _ _)
            refine nb_Wg (q_c_told_15 _ _ _ _ _ (by omega)) ?_
            simp only [E27]
            clear E27
            refine nb_Gs ?_
            exact nb_Hu H W11
          have H := nb_Hw ((nb_Hu H).2.2.2.2.2.2 (by omega) (by omega) (by omega) (by omega) (by omega) (by omega))
          refine nb_Gr ?_
          have E29 : nb_rd (nb_wr M 2 15 0) (Ho + 20 + l1) 6 = M.1 (Ho + 20 + l1) 6 := nb_rdw (Or.inr (by decide)) (nb_rd_1 _ _ _)
          refine nb_Wg (q_c_told_16 _ _ _ _ _ (by omega)) ?_
          simp only [E29]
          clear E29
          refine nb_Gs ?_
          exact nb_Hu H W11
    · have H := nb_Hw ((nb_Hu H).2 (by omega))
      have c35 : M.1 Ho 13 ≤ l1 := by omega
      refine nb_Gr ?_
      refine nb_Wg (q_c_isPerson_3 _ _ _) ?_
      refine nb_Gr ?_
      have E32 : nb_i2z 0 = 0 := by decide
      refine nb_Wg (q_c_isPerson_4 _ _ _ _) ?_
      simp only [E32]
      clear E32
      refine nb_Gs ?_
      show nb_W 73 1 [(19, 2), (0, l1), (0, l2), v3] [(0, 0), (19, 2)] M _
      refine nb_Wg (q_c_told_1 _ _ _ _ _ _ _) ?_
      refine nb_Gt (by decide) ?_
      refine nb_Gr ?_
      refine nb_Wg (q_c_told_5 _ _ _ _ _ _) ?_
      refine nb_Gr ?_
      refine nb_Wg (q_c_told_6 _ _ _ _ _ _ _ (by omega)) ?_
      refine nb_Gb ?_
      refine nb_Wg (q_c_granted_0 _ _ _ _) ?_
      refine nb_Gt (by decide) ?_
      refine nb_Gr ?_
      refine nb_Wg (q_c_granted_2 _ _ _ _ _) ?_
      refine nb_Gr ?_
      refine nb_Wg (q_c_granted_3 _ _ _ _ _ _ (by omega)) ?_
      have W33 : nb_Lay (nb_wr M 2 15 1) := W.wr (fun w => (nb_nlit (by decide) (by decide)))
      refine nb_Gr ?_
      have E34 : nb_i2z 0 = 0 := by decide
      refine nb_Wg (q_c_granted_4 _ _ _ _) ?_
      simp only [E34]
      clear E34
      refine nb_Gs ?_
      show nb_W 73 7 [(19, 2), (0, l1), (0, l2), v3] [(0, 0)] (nb_wr M 2 15 1) _
      refine nb_Wg (q_c_told_7 _ _ _ _ _ _) ?_
      refine nb_Gt (by decide) ?_
      refine nb_Gr ?_
      refine nb_Wg (q_c_told_8 _ _ _ _ _) ?_
      refine nb_Gs ?_
      exact nb_Hu H W33

theorem w_c_wants_0 {l1 l2 Ho : Int} {M : nb_M} {Q : List nb_V → nb_M → Prop} (W : nb_Lay M) (hHo : nb_hs Ho) (hx2 : M.1 2 2 = Ho) (H : (l1 < 0 → (nb_Lay (nb_wr M 2 15 1) → Q [(0, (-1))] (nb_wr M 2 15 1))) ∧ (0 ≤ l1 → 0 ≤ M.1 Ho 13 ∧ M.1 Ho 13 ≤ 10 ∧ (l1 < M.1 Ho 13 → (l2 < 0 → (nb_Lay (nb_wr M 2 15 1) → Q [(0, (-1))] (nb_wr M 2 15 1))) ∧ (0 ≤ l2 → 0 ≤ M.1 Ho 11 ∧ M.1 Ho 11 ≤ 5 ∧ (l2 < M.1 Ho 11 → (nb_Lay (nb_wr M 2 15 0) → Q [(0, M.1 (Ho + 5 + l1) l2)] (nb_wr M 2 15 0))) ∧ (M.1 Ho 11 ≤ l2 → (nb_Lay (nb_wr M 2 15 1) → Q [(0, (-1))] (nb_wr M 2 15 1))))) ∧ (M.1 Ho 13 ≤ l1 → (nb_Lay (nb_wr M 2 15 1) → Q [(0, (-1))] (nb_wr M 2 15 1))))) :
    nb_W 74 0 [(19, 2), (0, l1), (0, l2)] [] M Q := by
  replace H := nb_Hw H
  have uhHo := hHo
  unfold nb_hs at uhHo
  refine nb_Wg (q_c_wants_0 _ _ _ _ (by omega)) ?_
  refine nb_Gb ?_
  refine nb_Wg (q_c_isPerson_0 _ _ _) ?_
  refine nb_Gi (fun c27 => ?_) (fun c27 => ?_)
  · have H := nb_Hw ((nb_Hu H).1 c27)
    refine nb_Gr ?_
    refine nb_Wg (q_c_isPerson_3 _ _ _) ?_
    refine nb_Gr ?_
    have E1 : nb_i2z 0 = 0 := by decide
    refine nb_Wg (q_c_isPerson_4 _ _ _ _) ?_
    simp only [E1]
    clear E1
    refine nb_Gs ?_
    show nb_W 74 1 [(19, 2), (0, l1), (0, l2)] [(0, 0), (19, 2)] M _
    refine nb_Wg (q_c_wants_1 _ _ _ _ _ _) ?_
    refine nb_Gt (by decide) ?_
    refine nb_Gr ?_
    refine nb_Wg (q_c_wants_5 _ _ _ _ _) ?_
    refine nb_Gr ?_
    refine nb_Wg (q_c_wants_6 _ _ _ _ _ _ (by omega)) ?_
    refine nb_Gb ?_
    refine nb_Wg (q_c_granted_0 _ _ _ _) ?_
    refine nb_Gt (by decide) ?_
    refine nb_Gr ?_
    refine nb_Wg (q_c_granted_2 _ _ _ _ _) ?_
    refine nb_Gr ?_
    refine nb_Wg (q_c_granted_3 _ _ _ _ _ _ (by omega)) ?_
    have W2 : nb_Lay (nb_wr M 2 15 1) := W.wr (fun w => (nb_nlit (by decide) (by decide)))
    refine nb_Gr ?_
    have E3 : nb_i2z 0 = 0 := by decide
    refine nb_Wg (q_c_granted_4 _ _ _ _) ?_
    simp only [E3]
    clear E3
    refine nb_Gs ?_
    show nb_W 74 7 [(19, 2), (0, l1), (0, l2)] [(0, 0)] (nb_wr M 2 15 1) _
    refine nb_Wg (q_c_wants_7 _ _ _ _ _) ?_
    refine nb_Gt (by decide) ?_
    refine nb_Gr ?_
    refine nb_Wg (q_c_wants_8 _ _ _ _) ?_
    refine nb_Gs ?_
    exact nb_Hu H W2
  · have H := nb_Hw ((nb_Hu H).2 (by omega))
    have c27 : 0 ≤ l1 := by omega
    refine nb_Gr ?_
    obtain ⟨p0_, p1_, H⟩ := H
    replace H := nb_Hw H
    have E4 : nb_rd M 2 2 = Ho := hx2
    have E5 : nb_rd M Ho 13 = M.1 Ho 13 := nb_rd_1 _ _ _
    refine nb_Wg (q_c_isPerson_1 _ _ _ (by omega) (by rw [E4]; first | done | omega)) ?_
    simp only [E4, E5]
    clear E4 E5
    refine nb_Gi (fun c26 => ?_) (fun c26 => ?_)
    · have H := nb_Hw ((nb_Hu H).1 c26)
      refine nb_Gr ?_
      refine nb_Wg (q_c_isPerson_2 _ _ _) ?_
      refine nb_Gr ?_
      have E6 : nb_i2z 1 = 1 := by decide
      refine nb_Wg (q_c_isPerson_4 _ _ _ _) ?_
      simp only [E6]
      clear E6
      refine nb_Gs ?_
      show nb_W 74 1 [(19, 2), (0, l1), (0, l2)] [(0, 1), (19, 2)] M _
      refine nb_Wg (q_c_wants_1 _ _ _ _ _ _) ?_
      refine nb_Gf (by decide) ?_
      refine nb_Gr ?_
      refine nb_Wg (q_c_wants_2 _ _ _ _ _) ?_
      refine nb_Gi (fun c22 => ?_) (fun c22 => ?_)
      · have H := nb_Hw ((nb_Hu H).1 c22)
        refine nb_Gr ?_
        refine nb_Wg (q_c_wants_5 _ _ _ _ _) ?_
        refine nb_Gr ?_
        refine nb_Wg (q_c_wants_6 _ _ _ _ _ _ (by omega)) ?_
        refine nb_Gb ?_
        refine nb_Wg (q_c_granted_0 _ _ _ _) ?_
        refine nb_Gt (by decide) ?_
        refine nb_Gr ?_
        refine nb_Wg (q_c_granted_2 _ _ _ _ _) ?_
        refine nb_Gr ?_
        refine nb_Wg (q_c_granted_3 _ _ _ _ _ _ (by omega)) ?_
        have W7 : nb_Lay (nb_wr M 2 15 1) := W.wr (fun w => (nb_nlit (by decide) (by decide)))
        refine nb_Gr ?_
        have E8 : nb_i2z 0 = 0 := by decide
        refine nb_Wg (q_c_granted_4 _ _ _ _) ?_
        simp only [E8]
        clear E8
        refine nb_Gs ?_
        show nb_W 74 7 [(19, 2), (0, l1), (0, l2)] [(0, 0)] (nb_wr M 2 15 1) _
        refine nb_Wg (q_c_wants_7 _ _ _ _ _) ?_
        refine nb_Gt (by decide) ?_
        refine nb_Gr ?_
        refine nb_Wg (q_c_wants_8 _ _ _ _) ?_
        refine nb_Gs ?_
        exact nb_Hu H W7
      · have H := nb_Hw ((nb_Hu H).2 (by omega))
        have c22 : 0 ≤ l2 := by omega
        refine nb_Gr ?_
        obtain ⟨p0_, p1_, H⟩ := H
        replace H := nb_Hw H
        have E9 : nb_rd M 2 2 = Ho := hx2
        have E10 : nb_rd M Ho 11 = M.1 Ho 11 := nb_rd_1 _ _ _
        refine nb_Wg (q_c_wants_3 _ _ _ _ _ (by omega) (by rw [E9]; first | done | omega)) ?_
        simp only [E9, E10]
        clear E9 E10
        refine nb_Gi (fun c21 => ?_) (fun c21 => ?_)
        · have H := nb_Hw ((nb_Hu H).1 c21)
          refine nb_Gr ?_
          refine nb_Wg (q_c_wants_4 _ _ _ _ _) ?_
          refine nb_Gr ?_
          refine nb_Wg (q_c_wants_6 _ _ _ _ _ _ (by omega)) ?_
          refine nb_Gb ?_
          refine nb_Wg (q_c_granted_0 _ _ _ _) ?_
          refine nb_Gf (by decide) ?_
          refine nb_Gr ?_
          refine nb_Wg (q_c_granted_1 _ _ _ _ _) ?_
          refine nb_Gr ?_
          refine nb_Wg (q_c_granted_3 _ _ _ _ _ _ (by omega)) ?_
          have W11 : nb_Lay (nb_wr M 2 15 0) := W.wr (fun w => (nb_nlit (by decide) (by decide)))
          refine nb_Gr ?_
          have E12 : nb_i2z 1 = 1 := by decide
          refine nb_Wg (q_c_granted_4 _ _ _ _) ?_
          simp only [E12]
          clear E12
          refine nb_Gs ?_
          show nb_W 74 7 [(19, 2), (0, l1), (0, l2)] [(0, 1)] (nb_wr M 2 15 0) _
          refine nb_Wg (q_c_wants_7 _ _ _ _ _) ?_
          refine nb_Gf (by decide) ?_
          refine nb_Gr ?_
          have E13 : nb_rd (nb_wr M 2 15 0) 2 2 = Ho := nb_rdw (Or.inr (by decide)) (hx2)
          have E14 : nb_rd (nb_wr M 2 15 0) Ho 3 = Ho + 4 := W11.h3 (H := Ho) hHo
          have N15 : nb_ln (nb_wr M 2 15 0) (Ho + 4) = 10 := W11.hn4 (H := Ho) hHo
          have E16 : nb_rd (nb_wr M 2 15 0) (Ho + 4) l1 = Ho + 5 + l1 := W11.hl (H := Ho) (i := l1) hHo (by omega) (by omega)
          have N17 : nb_ln (nb_wr M 2 15 0) (Ho + 5 + l1) = 5 := W11.hnl (H := Ho) (i := l1) hHo (by omega) (by omega)
          have E18 : nb_rd (nb_wr M 2 15 0) (Ho + 5 + l1) l2 = M.1 (Ho + 5 + l1) l2 := nb_rdw (Or.inl (by omega)) (nb_rd_1 _ _ _)
          refine nb_Wg (q_c_wants_9 _ _ _ _ (by omega) (by rw [E13]; first | done | omega) (by rw [E13, E14]; first | done | omega) (by omega) (by rw [E13, E14, N15]; first | done | omega) (by rw [E13, E14, E16]; first | done | omega) (by omega) (by rw [E13, E14, E16, N17]; first | done | omega)) ?_
          simp only [E13, E14, E16, E18]
          clear E13 E14 N15 E16 N17 E18
          refine nb_Gs ?_
          exact nb_Hu H W11
        · have H := nb_Hw ((nb_Hu H).2 (by omega))
          have c21 : M.1 Ho 11 ≤ l2 := by omega
          refine nb_Gr ?_
          refine nb_Wg (q_c_wants_5 _ _ _ _ _) ?_
          refine nb_Gr ?_
          refine nb_Wg (q_c_wants_6 _ _ _ _ _ _ (by omega)) ?_
          refine nb_Gb ?_
          refine nb_Wg (q_c_granted_0 _ _ _ _) ?_
          refine nb_Gt (by decide) ?_
          refine nb_Gr ?_
          refine nb_Wg (q_c_granted_2 _ _ _ _ _) ?_
          refine nb_Gr ?_
          refine nb_Wg (q_c_granted_3 _ _ _ _ _ _ (by omega)) ?_
          have W19 : nb_Lay (nb_wr M 2 15 1) := W.wr (fun w => (nb_nlit (by decide) (by decide)))
          refine nb_Gr ?_
          have E20 : nb_i2z 0 = 0 := by decide
          refine nb_Wg (q_c_granted_4 _ _ _ _) ?_
          simp only [E20]
          clear E20
          refine nb_Gs ?_
          show nb_W 74 7 [(19, 2), (0, l1), (0, l2)] [(0, 0)] (nb_wr M 2 15 1) _
          refine nb_Wg (q_c_wants_7 _ _ _ _ _) ?_
          refine nb_Gt (by decide) ?_
          refine nb_Gr ?_
          refine nb_Wg (q_c_wants_8 _ _ _ _) ?_
          refine nb_Gs ?_
          exact nb_Hu H W19
    · have H := nb_Hw ((nb_Hu H).2 (by omega))
      have c26 : M.1 Ho 13 ≤ l1 := by omega
      refine nb_Gr ?_
      refine nb_Wg (q_c_isPerson_3 _ _ _) ?_
      refine nb_Gr ?_
      have E23 : nb_i2z 0 = 0 := by decide
      refine nb_Wg (q_c_isPerson_4 _ _ _ _) ?_
      simp only [E23]
      clear E23
      refine nb_Gs ?_
      show nb_W 74 1 [(19, 2), (0, l1), (0, l2)] [(0, 0), (19, 2)] M _
      refine nb_Wg (q_c_wants_1 _ _ _ _ _ _) ?_
      refine nb_Gt (by decide) ?_
      refine nb_Gr ?_
      refine nb_Wg (q_c_wants_5 _ _ _ _ _) ?_
      refine nb_Gr ?_
      refine nb_Wg (q_c_wants_6 _ _ _ _ _ _ (by omega)) ?_
      refine nb_Gb ?_
      refine nb_Wg (q_c_granted_0 _ _ _ _) ?_
      refine nb_Gt (by decide) ?_
      refine nb_Gr ?_
      refine nb_Wg (q_c_granted_2 _ _ _ _ _) ?_
      refine nb_Gr ?_
      refine nb_Wg (q_c_granted_3 _ _ _ _ _ _ (by omega)) ?_
      have W24 : nb_Lay (nb_wr M 2 15 1) := W.wr (fun w => (nb_nlit (by decide) (by decide)))
      refine nb_Gr ?_
      have E25 : nb_i2z 0 = 0 := by decide
      refine nb_Wg (q_c_granted_4 _ _ _ _) ?_
      simp only [E25]
      clear E25
      refine nb_Gs ?_
      show nb_W 74 7 [(19, 2), (0, l1), (0, l2)] [(0, 0)] (nb_wr M 2 15 1) _
      refine nb_Wg (q_c_wants_7 _ _ _ _ _) ?_
      refine nb_Gt (by decide) ?_
      refine nb_Gr ?_
      refine nb_Wg (q_c_wants_8 _ _ _ _) ?_
      refine nb_Gs ?_
      exact nb_Hu H W24

theorem w_c_size_0 {l1 Ho : Int} {M : nb_M} {Q : List nb_V → nb_M → Prop} (W : nb_Lay M) (hHo : nb_hs Ho) (hx2 : M.1 2 2 = Ho) (H : (l1 = 0 → (nb_Lay M → Q [(0, M.1 Ho 9)] M)) ∧ (l1 = 1 → (nb_Lay M → Q [(0, M.1 Ho 10)] M)) ∧ (l1 = 2 → 0 ≤ M.1 Ho 11 ∧ M.1 Ho 11 ≤ 5 ∧ (nb_Lay M → Q [(0, M.1 Ho 11)] M)) ∧ (l1 = 3 → 0 ≤ M.1 Ho 12 ∧ M.1 Ho 12 ≤ 3 ∧ (nb_Lay M → Q [(0, M.1 Ho 12)] M)) ∧ (l1 = 4 → 0 ≤ M.1 Ho 13 ∧ M.1 Ho 13 ≤ 10 ∧ (nb_Lay M → Q [(0, M.1 Ho 13)] M)) ∧ (l1 = 5 → (nb_Lay M → Q [(0, M.1 Ho 14)] M)) ∧ (l1 = 6 → (nb_Lay M → Q [(0, M.1 Ho 15)] M)) ∧ (l1 = 7 → (nb_Lay M → Q [(0, M.1 84 7)] M)) ∧ (l1 = 8 → (nb_Lay M → Q [(0, M.1 2 9)] M)) ∧ (l1 = 9 → (nb_Lay M → Q [(0, M.1 2 11)] M)) ∧ (l1 = 10 → (nb_Lay M → Q [(0, M.1 2 1)] M)) ∧ (l1 ≠ 0 → l1 ≠ 1 → l1 ≠ 2 → l1 ≠ 3 → l1 ≠ 4 → l1 ≠ 5 → l1 ≠ 6 → l1 ≠ 7 → l1 ≠ 8 → l1 ≠ 9 → l1 ≠ 10 → (nb_Lay M → Q [(0, (-1))] M))) :
    nb_W 75 0 [(19, 2), (0, l1)] [] M Q := by
  replace H := nb_Hw H
  have uhHo := hHo
  unfold nb_hs at uhHo
  refine nb_Wg (q_c_size_0 _ _ _) ?_
  refine nb_Gi (fun c3 => ?_) (fun c3 => ?_)
  · have H := nb_Hw ((nb_Hu H).1 c3)
    refine nb_Gr ?_
    have E1 : nb_rd M 2 2 = Ho := hx2
    have E2 : nb_rd M Ho 9 = M.1 Ho 9 := nb_rd_1 _ _ _
    refine nb_Wg (q_c_size_1 _ _ _ (by omega) (by rw [E1]; first | done | omega)) ?_
    simp only [E1, E2]
    clear E1 E2
    refine nb_Gs ?_
    exact nb_Hu H W
  refine nb_Gi (fun c6 => ?_) (fun c6 => ?_)
  · have H := nb_Hw ((nb_Hu H).2.1 c6)
    refine nb_Gr ?_
    have E4 : nb_rd M 2 2 = Ho := hx2
    have E5 : nb_rd M Ho 10 = M.1 Ho 10 := nb_rd_1 _ _ _
    refine nb_Wg (q_c_size_2 _ _ _ (by omega) (by rw [E4]; first | done | omega)) ?_
    simp only [E4, E5]
    clear E4 E5
    refine nb_Gs ?_
    exact nb_Hu H W
  refine nb_Gi (fun c9 => ?_) (fun c9 => ?_)
  · have H := nb_Hw ((nb_Hu H).2.2.1 c9)
    refine nb_Gr ?_
    obtain ⟨p0_, p1_, H⟩ := H
    replace H := nb_Hw H
    have E7 : nb_rd M 2 2 = Ho := hx2
    have E8 : nb_rd M Ho 11 = M.1 Ho 11 := nb_rd_1 _ _ _
    refine nb_Wg (q_c_size_3 _ _ _ (by omega) (by rw [E7]; first | done | omega)) ?_
    simp only [E7, E8]
    clear E7 E8
    refine nb_Gs ?_
    exact nb_Hu H W
  refine nb_Gi (fun c12 => ?_) (fun c12 => ?_)
  · have H := nb_Hw ((nb_Hu H).2.2.2.1 c12)
    refine nb_Gr ?_
    obtain ⟨p0_, p1_, H⟩ := H
    replace H := nb_Hw H
    have E10 : nb_rd M 2 2 = Ho := hx2
    have E11 : nb_rd M Ho 12 = M.1 Ho 12 := nb_rd_1 _ _ _
    refine nb_Wg (q_c_size_4 _ _ _ (by omega) (by rw [E10]; first | done | omega)) ?_
    simp only [E10, E11]
    clear E10 E11
    refine nb_Gs ?_
    exact nb_Hu H W
  refine nb_Gi (fun c15 => ?_) (fun c15 => ?_)
  · have H := nb_Hw ((nb_Hu H).2.2.2.2.1 c15)
    refine nb_Gr ?_
    obtain ⟨p0_, p1_, H⟩ := H
    replace H := nb_Hw H
    have E13 : nb_rd M 2 2 = Ho := hx2
    have E14 : nb_rd M Ho 13 = M.1 Ho 13 := nb_rd_1 _ _ _
    refine nb_Wg (q_c_size_5 _ _ _ (by omega) (by rw [E13]; first | done | omega)) ?_
    simp only [E13, E14]
    clear E13 E14
    refine nb_Gs ?_
    exact nb_Hu H W
  refine nb_Gi (fun c18 => ?_) (fun c18 => ?_)
  · have H := nb_Hw ((nb_Hu H).2.2.2.2.2.1 c18)
    refine nb_Gr ?_
    have E16 : nb_rd M 2 2 = Ho := hx2
    have E17 : nb_rd M Ho 14 = M.1 Ho 14 := nb_rd_1 _ _ _
    refine nb_Wg (q_c_size_6 _ _ _ (by omega) (by rw [E16]; first | done | omega)) ?_
    simp only [E16, E17]
    clear E16 E17
    refine nb_Gs ?_
    exact nb_Hu H W
  refine nb_Gi (fun c21 => ?_) (fun c21 => ?_)
  · have H := nb_Hw ((nb_Hu H).2.2.2.2.2.2.1 c21)
    refine nb_Gr ?_
    have E19 : nb_rd M 2 2 = Ho := hx2
    have E20 : nb_rd M Ho 15 = M.1 Ho 15 := nb_rd_1 _ _ _
    refine nb_Wg (q_c_size_7 _ _ _ (by omega) (by rw [E19]; first | done | omega)) ?_
    simp only [E19, E20]
    clear E19 E20
    refine nb_Gs ?_
    exact nb_Hu H W
  refine nb_Gi (fun c24 => ?_) (fun c24 => ?_)
  · have H := nb_Hw ((nb_Hu H).2.2.2.2.2.2.2.1 c24)
    refine nb_Gr ?_
    have E22 : nb_rd M 2 5 = 84 := W.c5
    have E23 : nb_rd M 84 7 = M.1 84 7 := nb_rd_1 _ _ _
    refine nb_Wg (q_c_size_8 _ _ _ (by omega) (by rw [E22]; first | done | omega)) ?_
    simp only [E22, E23]
    clear E22 E23
    refine nb_Gs ?_
    exact nb_Hu H W
  refine nb_Gi (fun c26 => ?_) (fun c26 => ?_)
  · have H := nb_Hw ((nb_Hu H).2.2.2.2.2.2.2.2.1 c26)
    refine nb_Gr ?_
    have E25 : nb_rd M 2 9 = M.1 2 9 := nb_rd_1 _ _ _
    refine nb_Wg (q_c_size_9 _ _ _ (by omega)) ?_
    simp only [E25]
    clear E25
    refine nb_Gs ?_
    exact nb_Hu H W
  refine nb_Gi (fun c28 => ?_) (fun c28 => ?_)
  · have H := nb_Hw ((nb_Hu H).2.2.2.2.2.2.2.2.2.1 c28)
    refine nb_Gr ?_
    have E27 : nb_rd M 2 11 = M.1 2 11 := nb_rd_1 _ _ _
    refine nb_Wg (q_c_size_10 _ _ _ (by omega)) ?_
    simp only [E27]
    clear E27
    refine nb_Gs ?_
    exact nb_Hu H W
  refine nb_Gi (fun c30 => ?_) (fun c30 => ?_)
  · have H := nb_Hw ((nb_Hu H).2.2.2.2.2.2.2.2.2.2.1 c30)
    refine nb_Gr ?_
    have E29 : nb_rd M 2 1 = M.1 2 1 := nb_rd_1 _ _ _
    refine nb_Wg (q_c_size_11 _ _ _ (by omega)) ?_
    simp only [E29]
    clear E29
    refine nb_Gs ?_
    exact nb_Hu H W
  have H := nb_Hw ((nb_Hu H).2.2.2.2.2.2.2.2.2.2.2 (by omega) (by omega) (by omega) (by omega) (by omega) (by omega) (by omega) (by omega) (by omega) (by omega) (by omega))
  refine nb_Gr ?_
  refine nb_Wg (q_c_size_12 _ _ _) ?_
  refine nb_Gs ?_
  exact nb_Hu H W

theorem w_c_trouble_0 {Ho : Int} {M : nb_M} {Q : List nb_V → nb_M → Prop} (W : nb_Lay M) (hHo : nb_hs Ho) (hx2 : M.1 2 2 = Ho) (H : (nb_Lay M → Q [(0, M.1 2 15)] M)) :
    nb_W 76 0 [(19, 2)] [] M Q := by
  replace H := nb_Hw H
  have uhHo := hHo
  unfold nb_hs at uhHo
  have E1 : nb_rd M 2 15 = M.1 2 15 := nb_rd_1 _ _ _
  refine nb_Wg (q_c_trouble_0 _ _ (by omega)) ?_
  simp only [E1]
  clear E1
  refine nb_Gs ?_
  exact nb_Hu H W

theorem w_c_fault_0 {Ho : Int} {M : nb_M} {Q : List nb_V → nb_M → Prop} (W : nb_Lay M) (hHo : nb_hs Ho) (hx2 : M.1 2 2 = Ho) (H : (nb_Lay M → Q [(0, M.1 2 16)] M)) :
    nb_W 5 0 [(19, 2)] [] M Q := by
  replace H := nb_Hw H
  have uhHo := hHo
  unfold nb_hs at uhHo
  have E1 : nb_rd M 2 16 = M.1 2 16 := nb_rd_1 _ _ _
  refine nb_Wg (q_c_fault_0 _ _ (by omega)) ?_
  simp only [E1]
  clear E1
  refine nb_Gs ?_
  exact nb_Hu H W

theorem w_c_where_0 {Ho : Int} {M : nb_M} {Q : List nb_V → nb_M → Prop} (W : nb_Lay M) (hHo : nb_hs Ho) (hx2 : M.1 2 2 = Ho) (H : (M.1 2 15 = 4 → (nb_Lay M → Q [(0, M.1 2 17)] M)) ∧ (M.1 2 15 ≠ 4 → (nb_Lay M → Q [(0, (-1))] M))) :
    nb_W 6 0 [(19, 2)] [] M Q := by
  replace H := nb_Hw H
  have uhHo := hHo
  unfold nb_hs at uhHo
  have E1 : nb_rd M 2 15 = M.1 2 15 := nb_rd_1 _ _ _
  refine nb_Wg (q_c_where_0 _ _ (by omega)) ?_
  simp only [E1]
  clear E1
  refine nb_Gi (fun c3 => ?_) (fun c3 => ?_)
  · have H := nb_Hw ((nb_Hu H).1 c3)
    refine nb_Gr ?_
    have E2 : nb_rd M 2 17 = M.1 2 17 := nb_rd_1 _ _ _
    refine nb_Wg (q_c_where_1 _ _ (by omega)) ?_
    simp only [E2]
    clear E2
    refine nb_Gr ?_
    refine nb_Wg (q_c_where_3 _ _ _) ?_
    refine nb_Gs ?_
    exact nb_Hu H W
  · have H := nb_Hw ((nb_Hu H).2 (by omega))
    have c3 : M.1 2 15 ≠ 4 := by omega
    refine nb_Gr ?_
    refine nb_Wg (q_c_where_2 _ _) ?_
    refine nb_Gr ?_
    refine nb_Wg (q_c_where_3 _ _ _) ?_
    refine nb_Gs ?_
    exact nb_Hu H W
