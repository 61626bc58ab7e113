/-! rules, printed by wip/gen -/
theorem w_m_person_0 {l1 l2 : Int} {v3 : nb_V} {M : nb_M} {Q : List nb_V → nb_M → Prop} (W : nb_Lay M) (H : 0 ≤ M.1 603 14 ∧ M.1 603 14 ≤ 1 ∧ (M.1 603 14 = 0 → (nb_Lay (nb_wr (nb_wr (nb_wr M 603 0 0) 603 11 0) 603 11 1) → Q [(0, (-1))] (nb_wr (nb_wr (nb_wr M 603 0 0) 603 11 0) 603 11 1))) ∧ (M.1 603 14 ≠ 0 → 0 ≤ M.1 606 5 ∧ M.1 606 5 ≤ 10 ∧ (l1 < 0 → (nb_Lay (nb_wr (nb_wr (nb_wr M 603 0 0) 603 11 0) 603 11 1) → Q [(0, (-1))] (nb_wr (nb_wr (nb_wr M 603 0 0) 603 11 0) 603 11 1))) ∧ (0 ≤ l1 → (M.1 606 5 - 1 < l1 → (nb_Lay (nb_wr (nb_wr (nb_wr M 603 0 0) 603 11 0) 603 11 1) → Q [(0, (-1))] (nb_wr (nb_wr (nb_wr M 603 0 0) 603 11 0) 603 11 1))) ∧ (l1 ≤ M.1 606 5 - 1 → (l2 = 0 → (M.1 608 (12 + 8 * l1) = 2 → (M.1 608 0 < M.1 608 (12 + 8 * l1 + 5) → (nb_Lay (nb_wr (nb_wr M 603 0 0) 603 11 0) → Q [(0, M.1 608 (12 + 8 * l1))] (nb_wr (nb_wr M 603 0 0) 603 11 0))) ∧ (M.1 608 (12 + 8 * l1 + 5) ≤ M.1 608 0 → (nb_Lay (nb_wr (nb_wr M 603 0 0) 603 11 0) → Q [(0, 3)] (nb_wr (nb_wr M 603 0 0) 603 11 0)))) ∧ (M.1 608 (12 + 8 * l1) ≠ 2 → (nb_Lay (nb_wr (nb_wr M 603 0 0) 603 11 0) → Q [(0, M.1 608 (12 + 8 * l1))] (nb_wr (nb_wr M 603 0 0) 603 11 0)))) ∧ (l2 = 1 → (nb_Lay (nb_wr (nb_wr M 603 0 0) 603 11 0) → Q [(0, M.1 608 (12 + 8 * l1 + 1))] (nb_wr (nb_wr M 603 0 0) 603 11 0))) ∧ (l2 = 2 → (nb_Lay (nb_wr (nb_wr M 603 0 0) 603 11 0) → Q [(0, M.1 608 (12 + 8 * l1 + 2))] (nb_wr (nb_wr M 603 0 0) 603 11 0))) ∧ (l2 = 3 → (nb_Lay (nb_wr (nb_wr M 603 0 0) 603 11 0) → Q [(0, M.1 608 (12 + 8 * l1 + 3))] (nb_wr (nb_wr M 603 0 0) 603 11 0))) ∧ (l2 = 4 → (nb_Lay (nb_wr (nb_wr M 603 0 0) 603 11 0) → Q [(0, M.1 608 (12 + 8 * l1 + 4))] (nb_wr (nb_wr M 603 0 0) 603 11 0))) ∧ (l2 = 5 → (nb_Lay (nb_wr (nb_wr M 603 0 0) 603 11 0) → Q [(0, M.1 608 (12 + 8 * l1 + 5))] (nb_wr (nb_wr M 603 0 0) 603 11 0))) ∧ (l2 ≠ 0 → l2 ≠ 1 → l2 ≠ 2 → l2 ≠ 3 → l2 ≠ 4 → l2 ≠ 5 → (nb_Lay (nb_wr (nb_wr (nb_wr M 603 0 0) 603 11 0) 603 11 1) → Q [(0, (-1))] (nb_wr (nb_wr (nb_wr M 603 0 0) 603 11 0) 603 11 1))))))) :
    nb_W 142 0 [(20, 603), (0, l1), (0, l2), v3] [] M Q := by
  replace H := nb_Hw H
  refine nb_Wg (q_m_person_0 _ _ _ _ _ (by omega)) ?_
  refine nb_Gb ?_
  refine nb_Wg (q_m_good_0 _ _ (by omega)) ?_
  have W1 : nb_Lay (nb_wr M 603 0 0) := W.wr (fun w => (nb_nlit (by decide) (by decide)))
  refine nb_Gr ?_
  refine nb_Wg (q_m_good_1 _ _ (by omega)) ?_
  have W2 : nb_Lay (nb_wr (nb_wr M 603 0 0) 603 11 0) := W1.wr (fun w => (nb_nlit (by decide) (by decide)))
  refine nb_Gr ?_
  refine nb_Wg (q_m_good_2 _ _) ?_
  refine nb_Gs ?_
  show nb_W 142 1 [(20, 603), (0, l1), (0, l2), v3] [] (nb_wr (nb_wr M 603 0 0) 603 11 0) _
  refine nb_Wg (q_m_person_1 _ _ _ _ _ (by omega)) ?_
  refine nb_Gb ?_
  obtain ⟨p0_, p1_, H⟩ := H
  replace H := nb_Hw H
  have E3 : nb_rd (nb_wr (nb_wr M 603 0 0) 603 11 0) 603 14 = M.1 603 14 := nb_rdw (Or.inr (by decide)) (nb_rdw (Or.inr (by decide)) (nb_rd_1 _ _ _))
  refine nb_Wg (q_m_isPerson_0 _ _ _ (by omega)) ?_
  simp only [E3]
  clear E3
  refine nb_Gi (fun c70 => ?_) (fun c70 => ?_)
  · have H := nb_Hw ((nb_Hu H).1 c70)
    refine nb_Gr ?_
    refine nb_Wg (q_m_isPerson_4 _ _ _) ?_
    refine nb_Gr ?_
    have E4 : nb_i2z 0 = 0 := by decide
    refine nb_Wg (q_m_isPerson_5 _ _ _ _) ?_
    simp only [E4]
    clear E4
    refine nb_Gs ?_
    show nb_W 142 2 [(20, 603), (0, l1), (0, l2), v3] [(0, 0)] (nb_wr (nb_wr M 603 0 0) 603 11 0) _
    refine nb_Wg (q_m_person_2 _ _ _ _ _ _) ?_
    refine nb_Gt (by decide) ?_
    refine nb_Gr ?_
    refine nb_Wg (q_m_person_3 _ _ _ _ _ (by omega)) ?_
    refine nb_Gb ?_
    refine nb_Wg (q_m_no_0 _ _ _ (by omega)) ?_
    have W5 : nb_Lay (nb_wr (nb_wr (nb_wr M 603 0 0) 603 11 0) 603 11 1) := W2.wr (fun w => (nb_nlit (by decide) (by decide)))
    refine nb_Gr ?_
    refine nb_Wg (q_m_no_1 _ _ _) ?_
    refine nb_Gs ?_
    show nb_W 142 4 [(20, 603), (0, l1), (0, l2), v3] [(0, (-1))] (nb_wr (nb_wr (nb_wr M 603 0 0) 603 11 0) 603 11 1) _
    refine nb_Wg (q_m_person_4 _ _ _ _ _ _) ?_
    refine nb_Gs ?_
    exact nb_Hu H W5
  · have H := nb_Hw ((nb_Hu H).2 (by omega))
    have c70 : M.1 603 14 ≠ 0 := by omega
    refine nb_Gr ?_
    obtain ⟨p0_, p1_, H⟩ := H
    replace H := nb_Hw H
    have E6 : nb_rd (nb_wr (nb_wr M 603 0 0) 603 11 0) 603 15 = 606 := W2.m15
    have N7 : nb_ln (nb_wr (nb_wr M 603 0 0) 603 11 0) 606 = 347 := W2.lk (by decide) (by decide +kernel)
    have E8 : nb_rd (nb_wr (nb_wr M 603 0 0) 603 11 0) 606 5 = M.1 606 5 := nb_rdw (Or.inl (by decide)) (nb_rdw (Or.inl (by decide)) (nb_rd_1 _ _ _))
    have E9 : nb_sub (M.1 606 5) 1 = M.1 606 5 - 1 := nb_sub_eq (by omega) (by omega)
    refine nb_Wg (q_m_isPerson_1 _ _ _ (by omega) (by rw [E6]; first | done | omega) (by omega) (by rw [E6, N7]; first | done | omega)) ?_
    simp only [E6, E8, E9]
    clear E6 N7 E8 E9
    refine nb_Gb ?_
    refine nb_Wg (q_m_within_0 _ _ _ _) ?_
    refine nb_Gi (fun c69 => ?_) (fun c69 => ?_)
    · have H := nb_Hw ((nb_Hu H).1 c69)
      refine nb_Gr ?_
      refine nb_Wg (q_m_within_3 _ _ _ _) ?_
      refine nb_Gr ?_
      have E10 : nb_i2z 0 = 0 := by decide
      refine nb_Wg (q_m_within_4 _ _ _ _ _) ?_
      simp only [E10]
      clear E10
      refine nb_Gs ?_
      show nb_W 116 2 [(20, 603), (0, l1)] [(0, 0)] (nb_wr (nb_wr M 603 0 0) 603 11 0) _
      refine nb_Wg (q_m_isPerson_2 _ _ _ _) ?_
      refine nb_Gt (by decide) ?_
      refine nb_Gr ?_
      refine nb_Wg (q_m_isPerson_4 _ _ _) ?_
      refine nb_Gr ?_
      have E11 : nb_i2z 0 = 0 := by decide
      refine nb_Wg (q_m_isPerson_5 _ _ _ _) ?_
      simp only [E11]
      clear E11
      refine nb_Gs ?_
      show nb_W 142 2 [(20, 603), (0, l1), (0, l2), v3] [(0, 0)] (nb_wr (nb_wr M 603 0 0) 603 11 0) _
      refine nb_Wg (q_m_person_2 _ _ _ _ _ _) ?_
      refine nb_Gt (by decide) ?_
      refine nb_Gr ?_
      refine nb_Wg (q_m_person_3 _ _ _ _ _ (by omega)) ?_
      refine nb_Gb ?_
      refine nb_Wg (q_m_no_0 _ _ _ (by omega)) ?_
      have W12 : nb_Lay (nb_wr (nb_wr (nb_wr M 603 0 0) 603 11 0) 603 11 1) := W2.wr (fun w => (nb_nlit (by decide) (by decide)))
      refine nb_Gr ?_
      refine nb_Wg (q_m_no_1 _ _ _) ?_
      refine nb_Gs ?_
      show nb_W 142 4 [(20, 603), (0, l1), (0, l2), v3] [(0, (-1))] (nb_wr (nb_wr (nb_wr M 603 0 0) 603 11 0) 603 11 1) _
      refine nb_Wg (q_m_person_4 _ _ _ _ _ _) ?_
      refine nb_Gs ?_
      exact nb_Hu H W12
    · have H := nb_Hw ((nb_Hu H).2 (by omega))
      have c69 : 0 ≤ l1 := by omega
      refine nb_Gr ?_
      refine nb_Wg (q_m_within_1 _ _ _ _) ?_
      refine nb_Gi (fun c68 => ?_) (fun c68 => ?_)
      · have H := nb_Hw ((nb_Hu H).1 c68)
        refine nb_Gr ?_
        refine nb_Wg (q_m_within_3 _ _ _ _) ?_
        refine nb_Gr ?_
        have E13 : nb_i2z 0 = 0 := by decide
        refine nb_Wg (q_m_within_4 _ _ _ _ _) ?_
        simp only [E13]
        clear E13
        refine nb_Gs ?_
        show nb_W 116 2 [(20, 603), (0, l1)] [(0, 0)] (nb_wr (nb_wr M 603 0 0) 603 11 0) _
        refine nb_Wg (q_m_isPerson_2 _ _ _ _) ?_
        refine nb_Gt (by decide) ?_
        refine nb_Gr ?_
        refine nb_Wg (q_m_isPerson_4 _ _ _) ?_
        refine nb_Gr ?_
        have E14 : nb_i2z 0 = 0 := by decide
        refine nb_Wg (q_m_isPerson_5 _ _ _ _) ?_
        simp only [E14]
        clear E14
        refine nb_Gs ?_
        show nb_W 142 2 [(20, 603), (0, l1), (0, l2), v3] [(0, 0)] (nb_wr (nb_wr M 603 0 0) 603 11 0) _
        refine nb_Wg (q_m_person_2 _ _ _ _ _ _) ?_
        refine nb_Gt (by decide) ?_
        refine nb_Gr ?_
        refine nb_Wg (q_m_person_3 _ _ _ _ _ (by omega)) ?_
        refine nb_Gb ?_
        refine nb_Wg (q_m_no_0 _ _ _ (by omega)) ?_
        have W15 : nb_Lay (nb_wr (nb_wr (nb_wr M 603 0 0) 603 11 0) 603 11 1) := W2.wr (fun w => (nb_nlit (by decide) (by decide)))
        refine nb_Gr ?_
        refine nb_Wg (q_m_no_1 _ _ _) ?_
        refine nb_Gs ?_
        show nb_W 142 4 [(20, 603), (0, l1), (0, l2), v3] [(0, (-1))] (nb_wr (nb_wr (nb_wr M 603 0 0) 603 11 0) 603 11 1) _
        refine nb_Wg (q_m_person_4 _ _ _ _ _ _) ?_
        refine nb_Gs ?_
        exact nb_Hu H W15
      · have H := nb_Hw ((nb_Hu H).2 (by omega))
        have c68 : l1 ≤ M.1 606 5 - 1 := by omega
        refine nb_Gr ?_
        refine nb_Wg (q_m_within_2 _ _ _ _) ?_
        refine nb_Gr ?_
        have E16 : nb_i2z 1 = 1 := by decide
        refine nb_Wg (q_m_within_4 _ _ _ _ _) ?_
        simp only [E16]
        clear E16
        refine nb_Gs ?_
        show nb_W 116 2 [(20, 603), (0, l1)] [(0, 1)] (nb_wr (nb_wr M 603 0 0) 603 11 0) _
        refine nb_Wg (q_m_isPerson_2 _ _ _ _) ?_
        refine nb_Gf (by decide) ?_
        refine nb_Gr ?_
        refine nb_Wg (q_m_isPerson_3 _ _ _) ?_
        refine nb_Gr ?_
        have E17 : nb_i2z 1 = 1 := by decide
        refine nb_Wg (q_m_isPerson_5 _ _ _ _) ?_
        simp only [E17]
        clear E17
        refine nb_Gs ?_
        show nb_W 142 2 [(20, 603), (0, l1), (0, l2), v3] [(0, 1)] (nb_wr (nb_wr M 603 0 0) 603 11 0) _
        refine nb_Wg (q_m_person_2 _ _ _ _ _ _) ?_
        refine nb_Gf (by decide) ?_
        refine nb_Gr ?_
        have E18 : nb_mul 8 l1 = 8 * l1 := nb_mul_eq (by omega) (by omega)
        have E19 : nb_add 12 (8 * l1) = 12 + 8 * l1 := (nb_add_eq (x := 12) (y := 8 * l1) (by omega) (by omega)).trans (by omega)
        refine nb_Wg (q_m_person_5 _ _ _ _ _) ?_
        simp only [E18, E19]
        clear E18 E19
        refine nb_Gi (fun c41 => ?_) (fun c41 => ?_)
        · have H := nb_Hw ((nb_Hu H).1 c41)
          refine nb_Gr ?_
          have E20 : nb_rd (nb_wr (nb_wr M 603 0 0) 603 11 0) 603 17 = 608 := W2.m17
          have E21 : nb_add (12 + 8 * l1) 0 = 12 + 8 * l1 := (nb_add_eq (x := 12 + 8 * l1) (y := 0) (by omega) (by omega)).trans (by omega)
          have N22 : nb_ln (nb_wr (nb_wr M 603 0 0) 603 11 0) 608 = 108 := W2.lk (by decide) (by decide +kernel)
          have E23 : nb_rd (nb_wr (nb_wr M 603 0 0) 603 11 0) 608 (12 + 8 * l1) = M.1 608 (12 + 8 * l1) := nb_rdw (Or.inl (by decide)) (nb_rdw (Or.inl (by decide)) (nb_rd_1 _ _ _))
          refine nb_Wg (q_m_person_6 _ _ _ _ _ (by omega) (by rw [E20]; first | done | omega) (by rw [E21]; first | done | omega) (by rw [E21, E20, N22]; first | done | omega)) ?_
          simp only [E20, E21, E23]
          clear E20 E21 N22 E23
          refine nb_Gi (fun c40 => ?_) (fun c40 => ?_)
          · have H := nb_Hw ((nb_Hu H).1 c40)
            refine nb_Gr ?_
            have E24 : nb_rd (nb_wr (nb_wr M 603 0 0) 603 11 0) 603 17 = 608 := W2.m17
            have E25 : nb_add (12 + 8 * l1) 5 = 12 + 8 * l1 + 5 := nb_add_eq (by omega) (by omega)
            have N26 : nb_ln (nb_wr (nb_wr M 603 0 0) 603 11 0) 608 = 108 := W2.lk (by decide) (by decide +kernel)
            have E27 : nb_rd (nb_wr (nb_wr M 603 0 0) 603 11 0) 608 (12 + 8 * l1 + 5) = M.1 608 (12 + 8 * l1 + 5) := nb_rdw (Or.inl (by decide)) (nb_rdw (Or.inl (by decide)) (nb_rd_1 _ _ _))
            have E28 : nb_rd (nb_wr (nb_wr M 603 0 0) 603 11 0) 603 17 = 608 := W2.m17
            have N29 : nb_ln (nb_wr (nb_wr M 603 0 0) 603 11 0) 608 = 108 := W2.lk (by decide) (by decide +kernel)
            have E30 : nb_rd (nb_wr (nb_wr M 603 0 0) 603 11 0) 608 0 = M.1 608 0 := nb_rdw (Or.inl (by decide)) (nb_rdw (Or.inl (by decide)) (nb_rd_1 _ _ _))
            refine nb_Wg (q_m_person_7 _ _ _ _ _ (by omega) (by rw [E24]; first | done | omega) (by rw [E25]; first | done | omega) (by rw [E25, E24, N26]; first | done | omega) (by omega) (by rw [E28, N29]; first | done | omega)) ?_
            simp only [E24, E25, E27, E28, E30]
            clear E24 E25 N26 E27 E28 N29 E30
            refine nb_Gi (fun c35 => ?_) (fun c35 => ?_)
            · have H := nb_Hw ((nb_Hu H).1 c35)
              refine nb_Gr ?_
              have E31 : nb_rd (nb_wr (nb_wr M 603 0 0) 603 11 0) 603 17 = 608 := W2.m17
              have E32 : nb_add (12 + 8 * l1) 0 = 12 + 8 * l1 := (nb_add_eq (x := 12 + 8 * l1) (y := 0) (by omega) (by omega)).trans (by omega)
              have N33 : nb_ln (nb_wr (nb_wr M 603 0 0) 603 11 0) 608 = 108 := W2.lk (by decide) (by decide +kernel)
              have E34 : nb_rd (nb_wr (nb_wr M 603 0 0) 603 11 0) 608 (12 + 8 * l1) = M.1 608 (12 + 8 * l1) := nb_rdw (Or.inl (by decide)) (nb_rdw (Or.inl (by decide)) (nb_rd_1 _ _ _))
              refine nb_Wg (q_m_person_9 _ _ _ _ _ (by omega) (by rw [E31]; first | done | omega) (by rw [E32]; first | done | omega) (by rw [E32, E31, N33]; first | done | omega)) ?_
              simp only [E31, E32, E34]
              clear E31 E32 N33 E34
              refine nb_Gr ?_
              refine nb_Wg (q_m_person_10 _ _ _ _ _ _) ?_
              refine nb_Gs ?_
              exact nb_Hu H W2
            · have H := nb_Hw ((nb_Hu H).2 (by omega))
              have c35 : M.1 608 (12 + 8 * l1 + 5) ≤ M.1 608 0 := by omega
              refine nb_Gr ?_
              refine nb_Wg (q_m_person_8 _ _ _ _ _) ?_
              refine nb_Gr ?_
              refine nb_Wg (q_m_person_10 _ _ _ _ _ _) ?_
              refine nb_Gs ?_
              exact nb_Hu H W2
          · have H := nb_Hw ((nb_Hu H).2 (by omega))
            have c40 : M.1 608 (12 + 8 * l1) ≠ 2 := by omega
            refine nb_Gr ?_
            have E36 : nb_rd (nb_wr (nb_wr M 603 0 0) 603 11 0) 603 17 = 608 := W2.m17
            have E37 : nb_add (12 + 8 * l1) 0 = 12 + 8 * l1 := (nb_add_eq (x := 12 + 8 * l1) (y := 0) (by omega) (by omega)).trans (by omega)
            have N38 : nb_ln (nb_wr (nb_wr M 603 0 0) 603 11 0) 608 = 108 := W2.lk (by decide) (by decide +kernel)
            have E39 : nb_rd (nb_wr (nb_wr M 603 0 0) 603 11 0) 608 (12 + 8 * l1) = M.1 608 (12 + 8 * l1) := nb_rdw (Or.inl (by decide)) (nb_rdw (Or.inl (by decide)) (nb_rd_1 _ _ _))
            refine nb_Wg (q_m_person_9 _ _ _ _ _ (by omega) (by rw [E36]; first | done | omega) (by rw [E37]; first | done | omega) (by rw [E37, E36, N38]; first | done | omega)) ?_
            simp only [E36, E37, E39]
            clear E36 E37 N38 E39
            refine nb_Gr ?_
            refine nb_Wg (q_m_person_10 _ _ _ _ _ _) ?_
            refine nb_Gs ?_
            exact nb_Hu H W2
        refine nb_Gi (fun c46 => ?_) (fun c46 => ?_)
        · have H := nb_Hw ((nb_Hu H).2.1 c46)
          refine nb_Gr ?_
          have E42 : nb_rd (nb_wr (nb_wr M 603 0 0) 603 11 0) 603 17 = 608 := W2.m17
          have E43 : nb_add (12 + 8 * l1) 1 = 12 + 8 * l1 + 1 := nb_add_eq (by omega) (by omega)
          have N44 : nb_ln (nb_wr (nb_wr M 603 0 0) 603 11 0) 608 = 108 := W2.lk (by decide) (by decide +kernel)
          have E45 : nb_rd (nb_wr (nb_wr M 603 0 0) 603 11 0) 608 (12 + 8 * l1 + 1) = M.1 608 (12 + 8 * l1 + 1) := nb_rdw (Or.inl (by decide)) (nb_rdw (Or.inl (by decide)) (nb_rd_1 _ _ _))
          refine nb_Wg (q_m_person_11 _ _ _ _ _ (by omega) (by rw [E42]; first | done | omega) (by rw [E43]; first | done | omega) (by rw [E43, E42, N44]; first | done | omega)) ?_
          simp only [E42, E43, E45]
          clear E42 E43 N44 E45
          refine nb_Gs ?_
          exact nb_Hu H W2
        refine nb_Gi (fun c51 => ?_) (fun c51 => ?_)
        · have H := nb_Hw ((nb_Hu H).2.2.1 c51)
          refine nb_Gr ?_
          have E47 : nb_rd (nb_wr (nb_wr M 603 0 0) 603 11 0) 603 17 = 608 := W2.m17
          have E48 : nb_add (12 + 8 * l1) 2 = 12 + 8 * l1 + 2 := nb_add_eq (by omega) (by omega)
          have N49 : nb_ln (nb_wr (nb_wr M 603 0 0) 603 11 0) 608 = 108 := W2.lk (by decide) (by decide +kernel)
          have E50 : nb_rd (nb_wr (nb_wr M 603 0 0) 603 11 0) 608 (12 + 8 * l1 + 2) = M.1 608 (12 + 8 * l1 + 2) := nb_rdw (Or.inl (by decide)) (nb_rdw (Or.inl (by decide)) (nb_rd_1 _ _ _))
          refine nb_Wg (q_m_person_12 _ _ _ _ _ (by omega) (by rw [E47]; first | done | omega) (by rw [E48]; first | done | omega) (by rw [E48, E47, N49]; first | done | omega)) ?_
          simp only [E47, E48, E50]
          clear E47 E48 N49 E50
          refine nb_Gs ?_
          exact nb_Hu H W2
        refine nb_Gi (fun c56 => ?_) (fun c56 => ?_)
        · have H := nb_Hw ((nb_Hu H).2.2.2.1 c56)
          refine nb_Gr ?_
          have E52 : nb_rd (nb_wr (nb_wr M 603 0 0) 603 11 0) 603 17 = 608 := W2.m17
          have E53 : nb_add (12 + 8 * l1) 3 = 12 + 8 * l1 + 3 := nb_add_eq (by omega) (by omega)
          have N54 : nb_ln (nb_wr (nb_wr M 603 0 0) 603 11 0) 608 = 108 := W2.lk (by decide) (by decide +kernel)
          have E55 : nb_rd (nb_wr (nb_wr M 603 0 0) 603 11 0) 608 (12 + 8 * l1 + 3) = M.1 608 (12 + 8 * l1 + 3) := nb_rdw (Or.inl (by decide)) (nb_rdw (Or.inl (by decide)) (nb_rd_1 _ _ _))
          refine nb_Wg (q_m_person_13 _ _ _ _ _ (by omega) (by rw [E52]; first | done | omega) (by rw [E53]; first | done | omega) (by rw [E53, E52, N54]; first | done | omega)) ?_
          simp only [E52, E53, E55]
          clear E52 E53 N54 E55
          refine nb_Gs ?_
          exact nb_Hu H W2
        refine nb_Gi (fun c61 => ?_) (fun c61 => ?_)
        · have H := nb_Hw ((nb_Hu H).2.2.2.2.1 c61)
          refine nb_Gr ?_
          have E57 : nb_rd (nb_wr (nb_wr M 603 0 0) 603 11 0) 603 17 = 608 := W2.m17
          have E58 : nb_add (12 + 8 * l1) 4 = 12 + 8 * l1 + 4 := nb_add_eq (by omega) (by omega)
          have N59 : nb_ln (nb_wr (nb_wr M 603 0 0) 603 11 0) 608 = 108 := W2.lk (by decide) (by decide +kernel)
          have E60 : nb_rd (nb_wr (nb_wr M 603 0 0) 603 11 0) 608 (12 + 8 * l1 + 4) = M.1 608 (12 + 8 * l1 + 4) := nb_rdw (Or.inl (by decide)) (nb_rdw (Or.inl (by decide)) (nb_rd_1 _ _ _))
          refine nb_Wg (q_m_person_14 _ _ _ _ _ (by omega) (by rw [E57]; first | done | omega) (by rw [E58]; first | done | omega) (by rw [E58, E57, N59]; first | done | omega)) ?_
          simp only [E57, E58, E60]
          clear E57 E58 N59 E60
          refine nb_Gs ?_
          exact nb_Hu H W2
        refine nb_Gi (fun c66 => ?_) (fun c66 => ?_)
        · have H := nb_Hw ((nb_Hu H).2.2.2.2.2.1 c66)
          refine nb_Gr ?_
          have E62 : nb_rd (nb_wr (nb_wr M 603 0 0) 603 11 0) 603 17 = 608 := W2.m17
          have E63 : nb_add (12 + 8 * l1) 5 = 12 + 8 * l1 + 5 := nb_add_eq (by omega) (by omega)
          have N64 : nb_ln (nb_wr (nb_wr M 603 0 0) 603 11 0) 608 = 108 := W2.lk (by decide) (by decide +kernel)
          have E65 : nb_rd (nb_wr (nb_wr M 603 0 0) 603 11 0) 608 (12 + 8 * l1 + 5) = M.1 608 (12 + 8 * l1 + 5) := nb_rdw (Or.inl (by decide)) (nb_rdw (Or.inl (by decide)) (nb_rd_1 _ _ _))
          refine nb_Wg (q_m_person_15 _ _ _ _ _ (by omega) (by rw [E62]; first | done | omega) (by rw [E63]; first | done | omega) (by rw [E63, E62, N64]; first | done | omega)) ?_
          simp only [E62, E63, E65]
          clear E62 E63 N64 E65
          refine nb_Gs ?_
          exact nb_Hu H W2
        have H := nb_Hw ((nb_Hu H).2.2.2.2.2.2 (by omega) (by omega) (by omega) (by omega) (by omega) (by omega))
        refine nb_Gr ?_
        refine nb_Wg (q_m_person_16 _ _ _ _ _ (by omega)) ?_
        refine nb_Gb ?_
        refine nb_Wg (q_m_no_0 _ _ _ (by omega)) ?_
        have W67 : nb_Lay (nb_wr (nb_wr (nb_wr M 603 0 0) 603 11 0) 603 11 1) := W2.wr (fun w => (nb_nlit (by decide) (by decide)))
        refine nb_Gr ?_
        refine nb_Wg (q_m_no_1 _ _ _) ?_
        refine nb_Gs ?_
        show nb_W 142 17 [(20, 603), (0, l1), (0, l2), (0, 12 + 8 * l1)] [(0, (-1))] (nb_wr (nb_wr (nb_wr M 603 0 0) 603 11 0) 603 11 1) _
        refine nb_Wg (q_m_person_17 _ _ _ _ _ _) ?_
        refine nb_Gs ?_
        exact nb_Hu H W67

theorem w_m_waiting_0 {M : nb_M} {Q : List nb_V → nb_M → Prop} (W : nb_Lay M) (H : 0 ≤ M.1 603 14 ∧ M.1 603 14 ≤ 1 ∧ (M.1 603 14 = 0 → (nb_Lay (nb_wr (nb_wr (nb_wr M 603 0 0) 603 11 0) 603 11 1) → Q [(0, (-1))] (nb_wr (nb_wr (nb_wr M 603 0 0) 603 11 0) 603 11 1))) ∧ (M.1 603 14 ≠ 0 → pu_Rr (M.1 606) ∧ (nb_Lay (nb_wr (nb_wr M 603 0 0) 603 11 0) → Q [(0, pu_cnt (M.1 608) 1 ((M.1 606) 5).toNat)] (nb_wr (nb_wr M 603 0 0) 603 11 0)))) :
    nb_W 146 0 [(20, 603)] [] M Q := by
  replace H := nb_Hw H
  refine nb_Wg (q_m_waiting_0 _ _ (by omega)) ?_
  refine nb_Gb ?_
  refine nb_Wg (q_m_good_0 _ _ (by omega)) ?_
  have W1 : nb_Lay (nb_wr M 603 0 0) := W.wr (fun w => (nb_nlit (by decide) (by decide)))
  refine nb_Gr ?_
  refine nb_Wg (q_m_good_1 _ _ (by omega)) ?_
  have W2 : nb_Lay (nb_wr (nb_wr M 603 0 0) 603 11 0) := W1.wr (fun w => (nb_nlit (by decide) (by decide)))
  refine nb_Gr ?_
  refine nb_Wg (q_m_good_2 _ _) ?_
  refine nb_Gs ?_
  show nb_W 146 1 [(20, 603)] [] (nb_wr (nb_wr M 603 0 0) 603 11 0) _
  obtain ⟨p0_, p1_, H⟩ := H
  replace H := nb_Hw H
  have E3 : nb_rd (nb_wr (nb_wr M 603 0 0) 603 11 0) 603 14 = M.1 603 14 := nb_rdw (Or.inr (by decide)) (nb_rdw (Or.inr (by decide)) (nb_rd_1 _ _ _))
  refine nb_Wg (q_m_waiting_1 _ _ (by omega)) ?_
  simp only [E3]
  clear E3
  refine nb_Gi (fun c6 => ?_) (fun c6 => ?_)
  · have H := nb_Hw ((nb_Hu H).1 c6)
    refine nb_Gr ?_
    refine nb_Wg (q_m_waiting_4 _ _ (by omega)) ?_
    refine nb_Gb ?_
    refine nb_Wg (q_m_no_0 _ _ _ (by omega)) ?_
    have W4 : nb_Lay (nb_wr (nb_wr (nb_wr M 603 0 0) 603 11 0) 603 11 1) := W2.wr (fun w => (nb_nlit (by decide) (by decide)))
    refine nb_Gr ?_
    refine nb_Wg (q_m_no_1 _ _ _) ?_
    refine nb_Gs ?_
    show nb_W 146 5 [(20, 603)] [(0, (-1))] (nb_wr (nb_wr (nb_wr M 603 0 0) 603 11 0) 603 11 1) _
    refine nb_Wg (q_m_waiting_5 _ _ _) ?_
    refine nb_Gs ?_
    exact nb_Hu H W4
  · have H := nb_Hw ((nb_Hu H).2 (by omega))
    have c6 : M.1 603 14 ≠ 0 := by omega
    refine nb_Gr ?_
    obtain ⟨p0_, H⟩ := H
    replace H := nb_Hw H
    have E5 : nb_rd (nb_wr (nb_wr M 603 0 0) 603 11 0) 603 17 = 608 := W2.m17
    refine nb_Wg (q_m_waiting_2 _ _ (by omega)) ?_
    simp only [E5]
    clear E5
    rw [show nb_R nb_P 145 0 [(20, 603), (3, 608), (98, 0), (98, 0)] [] (nb_wr (nb_wr M 603 0 0) 603 11 0) = some ([(0, pu_cnt (M.1 608) 1 ((M.1 606) 5).toNat)], nb_wr (nb_wr M 603 0 0) 603 11 0) from (sp_m_manyWaiting W2 (by decide) (by decide) (W2.lk (by decide) (by decide +kernel)) (by first | assumption | omega | (simp [nb_wr_up, nb_up_1, nb_ud]; first | assumption | omega))).trans (by first | rfl | simp [nb_wr_up, nb_up_1, nb_up_up, nb_ud])]
    refine nb_Gp ?_
    show nb_W 146 3 [(20, 603)] [(0, pu_cnt (M.1 608) 1 ((M.1 606) 5).toNat)] (nb_wr (nb_wr M 603 0 0) 603 11 0) _
    refine nb_Wg (q_m_waiting_3 _ _ _) ?_
    refine nb_Gr ?_
    refine nb_Wg (q_m_waiting_5 _ _ _) ?_
    refine nb_Gs ?_
    exact nb_Hu H W2

theorem w_m_next_0 {l1 : Int} {M : nb_M} {Q : List nb_V → nb_M → Prop} (W : nb_Lay M) (H : 0 ≤ M.1 603 14 ∧ M.1 603 14 ≤ 1 ∧ (M.1 603 14 = 0 → (nb_Lay (nb_wr (nb_wr (nb_wr M 603 0 0) 603 11 0) 603 11 1) → Q [(0, (-1))] (nb_wr (nb_wr (nb_wr M 603 0 0) 603 11 0) 603 11 1))) ∧ (M.1 603 14 ≠ 0 → 0 ≤ M.1 606 4 ∧ M.1 606 4 ≤ 3 ∧ (l1 < 0 → (nb_Lay (nb_wr (nb_wr (nb_wr M 603 0 0) 603 11 0) 603 11 1) → Q [(0, (-1))] (nb_wr (nb_wr (nb_wr M 603 0 0) 603 11 0) 603 11 1))) ∧ (0 ≤ l1 → (M.1 606 4 - 1 < l1 → (nb_Lay (nb_wr (nb_wr (nb_wr M 603 0 0) 603 11 0) 603 11 1) → Q [(0, (-1))] (nb_wr (nb_wr (nb_wr M 603 0 0) 603 11 0) 603 11 1))) ∧ (l1 ≤ M.1 606 4 - 1 → pu_Rr (M.1 606) ∧ pu_Rw (M.1 608) ∧ l1 ≤ 3 ∧ (nb_Lay (nb_up (nb_up (nb_wr (nb_wr (nb_wr M 603 0 0) 603 11 0) 603 25 ((M.1 606) 4)) 612 (pu_cpy (M.1 606) (M.1 612) 23 0 18)) 613 (pu_cpy (M.1 606) (M.1 613) 41 0 70)) → Q [(0, pu_nf ((M.1 606) 5) (pu_cpy (M.1 606) (M.1 612) 23 0 18) (pu_cpy (M.1 606) (M.1 613) 41 0 70) (M.1 608) l1)] (nb_up (nb_up (nb_wr (nb_wr (nb_wr M 603 0 0) 603 11 0) 603 25 ((M.1 606) 4)) 612 (pu_cpy (M.1 606) (M.1 612) 23 0 18)) 613 (pu_cpy (M.1 606) (M.1 613) 41 0 70))))))) :
    nb_W 147 0 [(20, 603), (0, l1)] [] M Q := by
  replace H := nb_Hw H
  refine nb_Wg (q_m_next_0 _ _ _ (by omega)) ?_
  refine nb_Gb ?_
  refine nb_Wg (q_m_good_0 _ _ (by omega)) ?_
  have W1 : nb_Lay (nb_wr M 603 0 0) := W.wr (fun w => (nb_nlit (by decide) (by decide)))
  refine nb_Gr ?_
  refine nb_Wg (q_m_good_1 _ _ (by omega)) ?_
  have W2 : nb_Lay (nb_wr (nb_wr M 603 0 0) 603 11 0) := W1.wr (fun w => (nb_nlit (by decide) (by decide)))
  refine nb_Gr ?_
  refine nb_Wg (q_m_good_2 _ _) ?_
  refine nb_Gs ?_
  show nb_W 147 1 [(20, 603), (0, l1)] [] (nb_wr (nb_wr M 603 0 0) 603 11 0) _
  refine nb_Wg (q_m_next_1 _ _ _ (by omega)) ?_
  refine nb_Gb ?_
  obtain ⟨p0_, p1_, H⟩ := H
  replace H := nb_Hw H
  have E3 : nb_rd (nb_wr (nb_wr M 603 0 0) 603 11 0) 603 14 = M.1 603 14 := nb_rdw (Or.inr (by decide)) (nb_rdw (Or.inr (by decide)) (nb_rd_1 _ _ _))
  refine nb_Wg (q_m_isStaff_0 _ _ _ (by omega)) ?_
  simp only [E3]
  clear E3
  refine nb_Gi (fun c24 => ?_) (fun c24 => ?_)
  · have H := nb_Hw ((nb_Hu H).1 c24)
    refine nb_Gr ?_
    refine nb_Wg (q_m_isStaff_4 _ _ _) ?_
    refine nb_Gr ?_
    have E4 : nb_i2z 0 = 0 := by decide
    refine nb_Wg (q_m_isStaff_5 _ _ _ _) ?_
    simp only [E4]
    clear E4
    refine nb_Gs ?_
    show nb_W 147 2 [(20, 603), (0, l1)] [(0, 0)] (nb_wr (nb_wr M 603 0 0) 603 11 0) _
    refine nb_Wg (q_m_next_2 _ _ _ _) ?_
    refine nb_Gt (by decide) ?_
    refine nb_Gr ?_
    refine nb_Wg (q_m_next_3 _ _ _ (by omega)) ?_
    refine nb_Gb ?_
    refine nb_Wg (q_m_no_0 _ _ _ (by omega)) ?_
    have W5 : nb_Lay (nb_wr (nb_wr (nb_wr M 603 0 0) 603 11 0) 603 11 1) := W2.wr (fun w => (nb_nlit (by decide) (by decide)))
    refine nb_Gr ?_
    refine nb_Wg (q_m_no_1 _ _ _) ?_
    refine nb_Gs ?_
    show nb_W 147 4 [(20, 603), (0, l1)] [(0, (-1))] (nb_wr (nb_wr (nb_wr M 603 0 0) 603 11 0) 603 11 1) _
    refine nb_Wg (q_m_next_4 _ _ _ _) ?_
    refine nb_Gs ?_
    exact nb_Hu H W5
  · have H := nb_Hw ((nb_Hu H).2 (by omega))
    have c24 : M.1 603 14 ≠ 0 := by omega
    refine nb_Gr ?_
    obtain ⟨p0_, p1_, H⟩ := H
    replace H := nb_Hw H
    have E6 : nb_rd (nb_wr (nb_wr M 603 0 0) 603 11 0) 603 15 = 606 := W2.m15
    have N7 : nb_ln (nb_wr (nb_wr M 603 0 0) 603 11 0) 606 = 347 := W2.lk (by decide) (by decide +kernel)
    have E8 : nb_rd (nb_wr (nb_wr M 603 0 0) 603 11 0) 606 4 = M.1 606 4 := nb_rdw (Or.inl (by decide)) (nb_rdw (Or.inl (by decide)) (nb_rd_1 _ _ _))
    have E9 : nb_sub (M.1 606 4) 1 = M.1 606 4 - 1 := nb_sub_eq (by omega) (by omega)
    refine nb_Wg (q_m_isStaff_1 _ _ _ (by omega) (by rw [E6]; first | done | omega) (by omega) (by rw [E6, N7]; first | done | omega)) ?_
    simp only [E6, E8, E9]
    clear E6 N7 E8 E9
    refine nb_Gb ?_
    refine nb_Wg (q_m_within_0 _ _ _ _) ?_
    refine nb_Gi (fun c23 => ?_) (fun c23 => ?_)
    · have H := nb_Hw ((nb_Hu H).1 c23)
      refine nb_Gr ?_
      refine nb_Wg (q_m_within_3 _ _ _ _) ?_
      refine nb_Gr ?_
      have E10 : nb_i2z 0 = 0 := by decide
      refine nb_Wg (q_m_within_4 _ _ _ _ _) ?_
      simp only [E10]
      clear E10
      refine nb_Gs ?_
      show nb_W 117 2 [(20, 603), (0, l1)] [(0, 0)] (nb_wr (nb_wr M 603 0 0) 603 11 0) _
      refine nb_Wg (q_m_isStaff_2 _ _ _ _) ?_
      refine nb_Gt (by decide) ?_
      refine nb_Gr ?_
      refine nb_Wg (q_m_isStaff_4 _ _ _) ?_
      refine nb_Gr ?_
      have E11 : nb_i2z 0 = 0 := by decide
      refine nb_Wg (q_m_isStaff_5 _ _ _ _) ?_
      simp only [E11]
      clear E11
      refine nb_Gs ?_
      show nb_W 147 2 [(20, 603), (0, l1)] [(0, 0)] (nb_wr (nb_wr M 603 0 0) 603 11 0) _
      refine nb_Wg (q_m_next_2 _ _ _ _) ?_
      refine nb_Gt (by decide) ?_
      refine nb_Gr ?_
      refine nb_Wg (q_m_next_3 _ _ _ (by omega)) ?_
      refine nb_Gb ?_
      refine nb_Wg (q_m_no_0 _ _ _ (by omega)) ?_
      have W12 : nb_Lay (nb_wr (nb_wr (nb_wr M 603 0 0) 603 11 0) 603 11 1) := W2.wr (fun w => (nb_nlit (by decide) (by decide)))
      refine nb_Gr ?_
      refine nb_Wg (q_m_no_1 _ _ _) ?_
      refine nb_Gs ?_
      show nb_W 147 4 [(20, 603), (0, l1)] [(0, (-1))] (nb_wr (nb_wr (nb_wr M 603 0 0) 603 11 0) 603 11 1) _
      refine nb_Wg (q_m_next_4 _ _ _ _) ?_
      refine nb_Gs ?_
      exact nb_Hu H W12
    · have H := nb_Hw ((nb_Hu H).2 (by omega))
      have c23 : 0 ≤ l1 := by omega
      refine nb_Gr ?_
      refine nb_Wg (q_m_within_1 _ _ _ _) ?_
      refine nb_Gi (fun c22 => ?_) (fun c22 => ?_)
      · have H := nb_Hw ((nb_Hu H).1 c22)
        refine nb_Gr ?_
        refine nb_Wg (q_m_within_3 _ _ _ _) ?_
        refine nb_Gr ?_
        have E13 : nb_i2z 0 = 0 := by decide
        refine nb_Wg (q_m_within_4 _ _ _ _ _) ?_
        simp only [E13]
        clear E13
        refine nb_Gs ?_
        show nb_W 117 2 [(20, 603), (0, l1)] [(0, 0)] (nb_wr (nb_wr M 603 0 0) 603 11 0) _
        refine nb_Wg (q_m_isStaff_2 _ _ _ _) ?_
        refine nb_Gt (by decide) ?_
        refine nb_Gr ?_
        refine nb_Wg (q_m_isStaff_4 _ _ _) ?_
        refine nb_Gr ?_
        have E14 : nb_i2z 0 = 0 := by decide
        refine nb_Wg (q_m_isStaff_5 _ _ _ _) ?_
        simp only [E14]
        clear E14
        refine nb_Gs ?_
        show nb_W 147 2 [(20, 603), (0, l1)] [(0, 0)] (nb_wr (nb_wr M 603 0 0) 603 11 0) _
        refine nb_Wg (q_m_next_2 _ _ _ _) ?_
        refine nb_Gt (by decide) ?_
        refine nb_Gr ?_
        refine nb_Wg (q_m_next_3 _ _ _ (by omega)) ?_
        refine nb_Gb ?_
        refine nb_Wg (q_m_no_0 _ _ _ (by omega)) ?_
        have W15 : nb_Lay (nb_wr (nb_wr (nb_wr M 603 0 0) 603 11 0) 603 11 1) := W2.wr (fun w => (nb_nlit (by decide) (by decide)))
        refine nb_Gr ?_
        refine nb_Wg (q_m_no_1 _ _ _) ?_
        refine nb_Gs ?_
        show nb_W 147 4 [(20, 603), (0, l1)] [(0, (-1))] (nb_wr (nb_wr (nb_wr M 603 0 0) 603 11 0) 603 11 1) _
        refine nb_Wg (q_m_next_4 _ _ _ _) ?_
        refine nb_Gs ?_
        exact nb_Hu H W15
      · have H := nb_Hw ((nb_Hu H).2 (by omega))
        have c22 : l1 ≤ M.1 606 4 - 1 := by omega
        refine nb_Gr ?_
        refine nb_Wg (q_m_within_2 _ _ _ _) ?_
        refine nb_Gr ?_
        have E16 : nb_i2z 1 = 1 := by decide
        refine nb_Wg (q_m_within_4 _ _ _ _ _) ?_
        simp only [E16]
        clear E16
        refine nb_Gs ?_
        show nb_W 117 2 [(20, 603), (0, l1)] [(0, 1)] (nb_wr (nb_wr M 603 0 0) 603 11 0) _
        refine nb_Wg (q_m_isStaff_2 _ _ _ _) ?_
        refine nb_Gf (by decide) ?_
        refine nb_Gr ?_
        refine nb_Wg (q_m_isStaff_3 _ _ _) ?_
        refine nb_Gr ?_
        have E17 : nb_i2z 1 = 1 := by decide
        refine nb_Wg (q_m_isStaff_5 _ _ _ _) ?_
        simp only [E17]
        clear E17
        refine nb_Gs ?_
        show nb_W 147 2 [(20, 603), (0, l1)] [(0, 1)] (nb_wr (nb_wr M 603 0 0) 603 11 0) _
        refine nb_Wg (q_m_next_2 _ _ _ _) ?_
        refine nb_Gf (by decide) ?_
        refine nb_Gr ?_
        refine nb_Wg (q_m_next_5 _ _ _ (by omega)) ?_
        have W18 : nb_Lay (nb_wr (nb_wr (nb_wr M 603 0 0) 603 11 0) 603 25 ((M.1 606) 4)) := W2.wr (fun w => (nb_nlit (by decide) (by decide)))
        have W19 : nb_Lay (nb_up (nb_wr (nb_wr (nb_wr M 603 0 0) 603 11 0) 603 25 ((M.1 606) 4)) 612 (pu_cpy (M.1 606) (M.1 612) 23 0 18)) := W18.up (fun i w => (nb_nnum (by decide) (by decide)))
        have W20 : nb_Lay (nb_up (nb_up (nb_wr (nb_wr (nb_wr M 603 0 0) 603 11 0) 603 25 ((M.1 606) 4)) 612 (pu_cpy (M.1 606) (M.1 612) 23 0 18)) 613 (pu_cpy (M.1 606) (M.1 613) 41 0 70)) := W19.up (fun i w => (nb_nnum (by decide) (by decide)))
        rw [show nb_R nb_P 121 0 [(20, 603)] [] (nb_wr (nb_wr M 603 0 0) 603 11 0) = some ([], nb_up (nb_up (nb_wr (nb_wr (nb_wr M 603 0 0) 603 11 0) 603 25 ((M.1 606) 4)) 612 (pu_cpy (M.1 606) (M.1 612) 23 0 18)) 613 (pu_cpy (M.1 606) (M.1 613) 41 0 70)) from (sp_m_asTold W2).trans (by first | rfl | simp [nb_wr_up, nb_up_1, nb_up_up, nb_ud])]
        refine nb_Gp ?_
        show nb_W 147 6 [(20, 603), (0, l1)] [] (nb_up (nb_up (nb_wr (nb_wr (nb_wr M 603 0 0) 603 11 0) 603 25 ((M.1 606) 4)) 612 (pu_cpy (M.1 606) (M.1 612) 23 0 18)) 613 (pu_cpy (M.1 606) (M.1 613) 41 0 70)) _
        obtain ⟨p0_, p1_, p2_, H⟩ := H
        replace H := nb_Hw H
        have E21 : nb_rd (nb_up (nb_up (nb_wr (nb_wr (nb_wr M 603 0 0) 603 11 0) 603 25 ((M.1 606) 4)) 612 (pu_cpy (M.1 606) (M.1 612) 23 0 18)) 613 (pu_cpy (M.1 606) (M.1 613) 41 0 70)) 603 17 = 608 := W20.m17
        refine nb_Wg (q_m_next_6 _ _ _ (by omega)) ?_
        simp only [E21]
        clear E21
        rw [show nb_R nb_P 131 0 [(20, 603), (3, 608), (0, l1), (98, 0), (98, 0), (98, 0), (98, 0)] [] (nb_up (nb_up (nb_wr (nb_wr (nb_wr M 603 0 0) 603 11 0) 603 25 ((M.1 606) 4)) 612 (pu_cpy (M.1 606) (M.1 612) 23 0 18)) 613 (pu_cpy (M.1 606) (M.1 613) 41 0 70)) = some ([(0, pu_nf ((M.1 606) 5) (pu_cpy (M.1 606) (M.1 612) 23 0 18) (pu_cpy (M.1 606) (M.1 613) 41 0 70) (M.1 608) l1)], nb_up (nb_up (nb_wr (nb_wr (nb_wr M 603 0 0) 603 11 0) 603 25 ((M.1 606) 4)) 612 (pu_cpy (M.1 606) (M.1 612) 23 0 18)) 613 (pu_cpy (M.1 606) (M.1 613) 41 0 70)) from (sp_m_nextFor W20 (by decide) (by decide) (W20.lk (by decide) (by decide +kernel)) (by first | assumption | omega | (simp [nb_wr_up, nb_up_1, nb_ud]; first | assumption | omega)) (by first | assumption | omega | (simp [nb_wr_up, nb_up_1, nb_ud]; first | assumption | omega)) (by omega)).trans (by first | rfl | simp [nb_wr_up, nb_up_1, nb_up_up, nb_ud])]
        refine nb_Gp ?_
        show nb_W 147 7 [(20, 603), (0, l1)] [(0, pu_nf ((M.1 606) 5) (pu_cpy (M.1 606) (M.1 612) 23 0 18) (pu_cpy (M.1 606) (M.1 613) 41 0 70) (M.1 608) l1)] (nb_up (nb_up (nb_wr (nb_wr (nb_wr M 603 0 0) 603 11 0) 603 25 ((M.1 606) 4)) 612 (pu_cpy (M.1 606) (M.1 612) 23 0 18)) 613 (pu_cpy (M.1 606) (M.1 613) 41 0 70)) _
        refine nb_Wg (q_m_next_7 _ _ _ _) ?_
        refine nb_Gs ?_
        exact nb_Hu H W20

theorem w_m_time_0 {l1 l2 : Int} {M : nb_M} {Q : List nb_V → nb_M → Prop} (W : nb_Lay M) (H : 0 ≤ M.1 603 14 ∧ M.1 603 14 ≤ 1 ∧ (M.1 603 14 = 0 → (nb_Lay (nb_wr (nb_wr (nb_wr M 603 0 0) 603 11 0) 603 11 1) → Q [(0, (-1))] (nb_wr (nb_wr (nb_wr M 603 0 0) 603 11 0) 603 11 1))) ∧ (M.1 603 14 ≠ 0 → 0 ≤ M.1 606 4 ∧ M.1 606 4 ≤ 3 ∧ (l1 < 0 → (nb_Lay (nb_wr (nb_wr (nb_wr M 603 0 0) 603 11 0) 603 11 1) → Q [(0, (-1))] (nb_wr (nb_wr (nb_wr M 603 0 0) 603 11 0) 603 11 1))) ∧ (0 ≤ l1 → (M.1 606 4 - 1 < l1 → (nb_Lay (nb_wr (nb_wr (nb_wr M 603 0 0) 603 11 0) 603 11 1) → Q [(0, (-1))] (nb_wr (nb_wr (nb_wr M 603 0 0) 603 11 0) 603 11 1))) ∧ (l1 ≤ M.1 606 4 - 1 → 0 ≤ M.1 606 5 ∧ M.1 606 5 ≤ 10 ∧ (l2 < 0 → (nb_Lay (nb_wr (nb_wr (nb_wr M 603 0 0) 603 11 0) 603 11 1) → Q [(0, (-1))] (nb_wr (nb_wr (nb_wr M 603 0 0) 603 11 0) 603 11 1))) ∧ (0 ≤ l2 → (M.1 606 5 - 1 < l2 → (nb_Lay (nb_wr (nb_wr (nb_wr M 603 0 0) 603 11 0) 603 11 1) → Q [(0, (-1))] (nb_wr (nb_wr (nb_wr M 603 0 0) 603 11 0) 603 11 1))) ∧ (l2 ≤ M.1 606 5 - 1 → -2147483648 ≤ M.1 608 (92 + 4 * l1 + 3) - 1 ∧ M.1 608 (92 + 4 * l1 + 3) - 1 ≤ 2147483647 ∧ pu_Rr (M.1 606) ∧ -1 ≤ M.1 608 (92 + 4 * l1 + 3) - 1 ∧ M.1 608 (92 + 4 * l1 + 3) - 1 ≤ 9 ∧ l2 ≤ 9 ∧ (nb_Lay (nb_wr (nb_wr M 603 0 0) 603 11 0) → Q [(0, pu_tb (M.1 606) (M.1 608 (92 + 4 * l1 + 3) - 1) l2)] (nb_wr (nb_wr M 603 0 0) 603 11 0)))))))) :
    nb_W 148 0 [(20, 603), (0, l1), (0, l2)] [] M Q := by
  replace H := nb_Hw H
  refine nb_Wg (q_m_time_0 _ _ _ _ (by omega)) ?_
  refine nb_Gb ?_
  refine nb_Wg (q_m_good_0 _ _ (by omega)) ?_
  have W1 : nb_Lay (nb_wr M 603 0 0) := W.wr (fun w => (nb_nlit (by decide) (by decide)))
  refine nb_Gr ?_
  refine nb_Wg (q_m_good_1 _ _ (by omega)) ?_
  have W2 : nb_Lay (nb_wr (nb_wr M 603 0 0) 603 11 0) := W1.wr (fun w => (nb_nlit (by decide) (by decide)))
  refine nb_Gr ?_
  refine nb_Wg (q_m_good_2 _ _) ?_
  refine nb_Gs ?_
  show nb_W 148 1 [(20, 603), (0, l1), (0, l2)] [] (nb_wr (nb_wr M 603 0 0) 603 11 0) _
  refine nb_Wg (q_m_time_1 _ _ _ _ (by omega)) ?_
  refine nb_Gb ?_
  obtain ⟨p0_, p1_, H⟩ := H
  replace H := nb_Hw H
  have E3 : nb_rd (nb_wr (nb_wr M 603 0 0) 603 11 0) 603 14 = M.1 603 14 := nb_rdw (Or.inr (by decide)) (nb_rdw (Or.inr (by decide)) (nb_rd_1 _ _ _))
  refine nb_Wg (q_m_isStaff_0 _ _ _ (by omega)) ?_
  simp only [E3]
  clear E3
  refine nb_Gi (fun c42 => ?_) (fun c42 => ?_)
  · have H := nb_Hw ((nb_Hu H).1 c42)
    refine nb_Gr ?_
    refine nb_Wg (q_m_isStaff_4 _ _ _) ?_
    refine nb_Gr ?_
    have E4 : nb_i2z 0 = 0 := by decide
    refine nb_Wg (q_m_isStaff_5 _ _ _ _) ?_
    simp only [E4]
    clear E4
    refine nb_Gs ?_
    show nb_W 148 2 [(20, 603), (0, l1), (0, l2)] [(0, 0)] (nb_wr (nb_wr M 603 0 0) 603 11 0) _
    refine nb_Wg (q_m_time_2 _ _ _ _ _) ?_
    refine nb_Gt (by decide) ?_
    refine nb_Gr ?_
    refine nb_Wg (q_m_time_7 _ _ _ _ (by omega)) ?_
    refine nb_Gb ?_
    refine nb_Wg (q_m_no_0 _ _ _ (by omega)) ?_
    have W5 : nb_Lay (nb_wr (nb_wr (nb_wr M 603 0 0) 603 11 0) 603 11 1) := W2.wr (fun w => (nb_nlit (by decide) (by decide)))
    refine nb_Gr ?_
    refine nb_Wg (q_m_no_1 _ _ _) ?_
    refine nb_Gs ?_
    show nb_W 148 8 [(20, 603), (0, l1), (0, l2)] [(0, (-1))] (nb_wr (nb_wr (nb_wr M 603 0 0) 603 11 0) 603 11 1) _
    refine nb_Wg (q_m_time_8 _ _ _ _ _) ?_
    refine nb_Gs ?_
    exact nb_Hu H W5
  · have H := nb_Hw ((nb_Hu H).2 (by omega))
    have c42 : M.1 603 14 ≠ 0 := by omega
    refine nb_Gr ?_
    obtain ⟨p0_, p1_, H⟩ := H
    replace H := nb_Hw H
    have E6 : nb_rd (nb_wr (nb_wr M 603 0 0) 603 11 0) 603 15 = 606 := W2.m15
    have N7 : nb_ln (nb_wr (nb_wr M 603 0 0) 603 11 0) 606 = 347 := W2.lk (by decide) (by decide +kernel)
    have E8 : nb_rd (nb_wr (nb_wr M 603 0 0) 603 11 0) 606 4 = M.1 606 4 := nb_rdw (Or.inl (by decide)) (nb_rdw (Or.inl (by decide)) (nb_rd_1 _ _ _))
    have E9 : nb_sub (M.1 606 4) 1 = M.1 606 4 - 1 := nb_sub_eq (by omega) (by omega)
    refine nb_Wg (q_m_isStaff_1 _ _ _ (by omega) (by rw [E6]; first | done | omega) (by omega) (by rw [E6, N7]; first | done | omega)) ?_
    simp only [E6, E8, E9]
    clear E6 N7 E8 E9
    refine nb_Gb ?_
    refine nb_Wg (q_m_within_0 _ _ _ _) ?_
    refine nb_Gi (fun c41 => ?_) (fun c41 => ?_)
    · have H := nb_Hw ((nb_Hu H).1 c41)
      refine nb_Gr ?_
      refine nb_Wg (q_m_within_3 _ _ _ _) ?_
      refine nb_Gr ?_
      have E10 : nb_i2z 0 = 0 := by decide
      refine nb_Wg (q_m_within_4 _ _ _ _ _) ?_
      simp only [E10]
      clear E10
      refine nb_Gs ?_
      show nb_W 117 2 [(20, 603), (0, l1)] [(0, 0)] (nb_wr (nb_wr M 603 0 0) 603 11 0) _
      refine nb_Wg (q_m_isStaff_2 _ _ _ _) ?_
      refine nb_Gt (by decide) ?_
      refine nb_Gr ?_
      refine nb_Wg (q_m_isStaff_4 _ _ _) ?_
      refine nb_Gr ?_
      have E11 : nb_i2z 0 = 0 := by decide
      refine nb_Wg (q_m_isStaff_5 _ _ _ _) ?_
      simp only [E11]
      clear E11
      refine nb_Gs ?_
      show nb_W 148 2 [(20, 603), (0, l1), (0, l2)] [(0, 0)] (nb_wr (nb_wr M 603 0 0) 603 11 0) _
      refine nb_Wg (q_m_time_2 _ _ _ _ _) ?_
      refine nb_Gt (by decide) ?_
      refine nb_Gr ?_
      refine nb_Wg (q_m_time_7 _ _ _ _ (by omega)) ?_
      refine nb_Gb ?_
      refine nb_Wg (q_m_no_0 _ _ _ (by omega)) ?_
      have W12 : nb_Lay (nb_wr (nb_wr (nb_wr M 603 0 0) 603 11 0) 603 11 1) := W2.wr (fun w => (nb_nlit (by decide) (by decide)))
      refine nb_Gr ?_
      refine nb_Wg (q_m_no_1 _ _ _) ?_
      refine nb_Gs ?_
      show nb_W 148 8 [(20, 603), (0, l1), (0, l2)] [(0, (-1))] (nb_wr (nb_wr (nb_wr M 603 0 0) 603 11 0) 603 11 1) _
      refine nb_Wg (q_m_time_8 _ _ _ _ _) ?_
      refine nb_Gs ?_
      exact nb_Hu H W12
    · have H := nb_Hw ((nb_Hu H).2 (by omega))
      have c41 : 0 ≤ l1 := by omega
      refine nb_Gr ?_
      refine nb_Wg (q_m_within_1 _ _ _ _) ?_
      refine nb_Gi (fun c40 => ?_) (fun c40 => ?_)
      · have H := nb_Hw ((nb_Hu H).1 c40)
        refine nb_Gr ?_
        refine nb_Wg (q_m_within_3 _ _ _ _) ?_
        refine nb_Gr ?_
        have E13 : nb_i2z 0 = 0 := by decide
        refine nb_Wg (q_m_within_4 _ _ _ _ _) ?_
        simp only [E13]
        clear E13
        refine nb_Gs ?_
        show nb_W 117 2 [(20, 603), (0, l1)] [(0, 0)] (nb_wr (nb_wr M 603 0 0) 603 11 0) _
        refine nb_Wg (q_m_isStaff_2 _ _ _ _) ?_
        refine nb_Gt (by decide) ?_
        refine nb_Gr ?_
        refine nb_Wg (q_m_isStaff_4 _ _ _) ?_
        refine nb_Gr ?_
        have E14 : nb_i2z 0 = 0 := by decide
        refine nb_Wg (q_m_isStaff_5 _ _ _ _) ?_
        simp only [E14]
        clear E14
        refine nb_Gs ?_
        show nb_W 148 2 [(20, 603), (0, l1), (0, l2)] [(0, 0)] (nb_wr (nb_wr M 603 0 0) 603 11 0) _
        refine nb_Wg (q_m_time_2 _ _ _ _ _) ?_
        refine nb_Gt (by decide) ?_
        refine nb_Gr ?_
        refine nb_Wg (q_m_time_7 _ _ _ _ (by omega)) ?_
        refine nb_Gb ?_
        refine nb_Wg (q_m_no_0 _ _ _ (by omega)) ?_
        have W15 : nb_Lay (nb_wr (nb_wr (nb_wr M 603 0 0) 603 11 0) 603 11 1) := W2.wr (fun w => (nb_nlit (by decide) (by decide)))
        refine nb_Gr ?_
        refine nb_Wg (q_m_no_1 _ _ _) ?_
        refine nb_Gs ?_
        show nb_W 148 8 [(20, 603), (0, l1), (0, l2)] [(0, (-1))] (nb_wr (nb_wr (nb_wr M 603 0 0) 603 11 0) 603 11 1) _
        refine nb_Wg (q_m_time_8 _ _ _ _ _) ?_
        refine nb_Gs ?_
        exact nb_Hu H W15
      · have H := nb_Hw ((nb_Hu H).2 (by omega))
        have c40 : l1 ≤ M.1 606 4 - 1 := by omega
        refine nb_Gr ?_
        refine nb_Wg (q_m_within_2 _ _ _ _) ?_
        refine nb_Gr ?_
        have E16 : nb_i2z 1 = 1 := by decide
        refine nb_Wg (q_m_within_4 _ _ _ _ _) ?_
        simp only [E16]
        clear E16
        refine nb_Gs ?_
        show nb_W 117 2 [(20, 603), (0, l1)] [(0, 1)] (nb_wr (nb_wr M 603 0 0) 603 11 0) _
        refine nb_Wg (q_m_isStaff_2 _ _ _ _) ?_
        refine nb_Gf (by decide) ?_
        refine nb_Gr ?_
        refine nb_Wg (q_m_isStaff_3 _ _ _) ?_
        refine nb_Gr ?_
        have E17 : nb_i2z 1 = 1 := by decide
        refine nb_Wg (q_m_isStaff_5 _ _ _ _) ?_
        simp only [E17]
        clear E17
        refine nb_Gs ?_
        show nb_W 148 2 [(20, 603), (0, l1), (0, l2)] [(0, 1)] (nb_wr (nb_wr M 603 0 0) 603 11 0) _
        refine nb_Wg (q_m_time_2 _ _ _ _ _) ?_
        refine nb_Gf (by decide) ?_
        refine nb_Gr ?_
        refine nb_Wg (q_m_time_3 _ _ _ _ (by omega)) ?_
        refine nb_Gb ?_
        have E18 : nb_rd (nb_wr (nb_wr M 603 0 0) 603 11 0) 603 14 = M.1 603 14 := nb_rdw (Or.inr (by decide)) (nb_rdw (Or.inr (by decide)) (nb_rd_1 _ _ _))
        refine nb_Wg (q_m_isPerson_0 _ _ _ (by omega)) ?_
        simp only [E18]
        clear E18
        refine nb_Gf (by omega) ?_
        refine nb_Gr ?_
        obtain ⟨p0_, p1_, H⟩ := H
        replace H := nb_Hw H
        have E19 : nb_rd (nb_wr (nb_wr M 603 0 0) 603 11 0) 603 15 = 606 := W2.m15
        have N20 : nb_ln (nb_wr (nb_wr M 603 0 0) 603 11 0) 606 = 347 := W2.lk (by decide) (by decide +kernel)
        have E21 : nb_rd (nb_wr (nb_wr M 603 0 0) 603 11 0) 606 5 = M.1 606 5 := nb_rdw (Or.inl (by decide)) (nb_rdw (Or.inl (by decide)) (nb_rd_1 _ _ _))
        have E22 : nb_sub (M.1 606 5) 1 = M.1 606 5 - 1 := nb_sub_eq (by omega) (by omega)
        refine nb_Wg (q_m_isPerson_1 _ _ _ (by omega) (by rw [E19]; first | done | omega) (by omega) (by rw [E19, N20]; first | done | omega)) ?_
        simp only [E19, E21, E22]
        clear E19 N20 E21 E22
        refine nb_Gb ?_
        refine nb_Wg (q_m_within_0 _ _ _ _) ?_
        refine nb_Gi (fun c39 => ?_) (fun c39 => ?_)
        · have H := nb_Hw ((nb_Hu H).1 c39)
          refine nb_Gr ?_
          refine nb_Wg (q_m_within_3 _ _ _ _) ?_
          refine nb_Gr ?_
          have E23 : nb_i2z 0 = 0 := by decide
          refine nb_Wg (q_m_within_4 _ _ _ _ _) ?_
          simp only [E23]
          clear E23
          refine nb_Gs ?_
          show nb_W 116 2 [(20, 603), (0, l2)] [(0, 0)] (nb_wr (nb_wr M 603 0 0) 603 11 0) _
          refine nb_Wg (q_m_isPerson_2 _ _ _ _) ?_
          refine nb_Gt (by decide) ?_
          refine nb_Gr ?_
          refine nb_Wg (q_m_isPerson_4 _ _ _) ?_
          refine nb_Gr ?_
          have E24 : nb_i2z 0 = 0 := by decide
          refine nb_Wg (q_m_isPerson_5 _ _ _ _) ?_
          simp only [E24]
          clear E24
          refine nb_Gs ?_
          show nb_W 148 4 [(20, 603), (0, l1), (0, l2)] [(0, 0)] (nb_wr (nb_wr M 603 0 0) 603 11 0) _
          refine nb_Wg (q_m_time_4 _ _ _ _ _) ?_
          refine nb_Gt (by decide) ?_
          refine nb_Gr ?_
          refine nb_Wg (q_m_time_7 _ _ _ _ (by omega)) ?_
          refine nb_Gb ?_
          refine nb_Wg (q_m_no_0 _ _ _ (by omega)) ?_
          have W25 : nb_Lay (nb_wr (nb_wr (nb_wr M 603 0 0) 603 11 0) 603 11 1) := W2.wr (fun w => (nb_nlit (by decide) (by decide)))
          refine nb_Gr ?_
          refine nb_Wg (q_m_no_1 _ _ _) ?_
          refine nb_Gs ?_
          show nb_W 148 8 [(20, 603), (0, l1), (0, l2)] [(0, (-1))] (nb_wr (nb_wr (nb_wr M 603 0 0) 603 11 0) 603 11 1) _
          refine nb_Wg (q_m_time_8 _ _ _ _ _) ?_
          refine nb_Gs ?_
          exact nb_Hu H W25
        · have H := nb_Hw ((nb_Hu H).2 (by omega))
          have c39 : 0 ≤ l2 := by omega
          refine nb_Gr ?_
          refine nb_Wg (q_m_within_1 _ _ _ _) ?_
          refine nb_Gi (fun c38 => ?_) (fun c38 => ?_)
          · have H := nb_Hw ((nb_Hu H).1 c38)
            refine nb_Gr ?_
            refine nb_Wg (q_m_within_3 _ _ _ _) ?_
            refine nb_Gr ?_
            have E26 : nb_i2z 0 = 0 := by decide
            refine nb_Wg (q_m_within_4 _ _ _ _ _) ?_
            simp only [E26]
            clear E26
            refine nb_Gs ?_
            show nb_W 116 2 [(20, 603), (0, l2)] [(0, 0)] (nb_wr (nb_wr M 603 0 0) 603 11 0) _
            refine nb_Wg (q_m_isPerson_2 _ _ _ _) ?_
            refine nb_Gt (by decide) ?_
            refine nb_Gr ?_
            refine nb_Wg (q_m_isPerson_4 _ _ _) ?_
            refine nb_Gr ?_
            have E27 : nb_i2z 0 = 0 := by decide
            refine nb_Wg (q_m_isPerson_5 _ _ _ _) ?_
            simp only [E27]
            clear E27
            refine nb_Gs ?_
            show nb_W 148 4 [(20, 603), (0, l1), (0, l2)] [(0, 0)] (nb_wr (nb_wr M 603 0 0) 603 11 0) _
            refine nb_Wg (q_m_time_4 _ _ _ _ _) ?_
            refine nb_Gt (by decide) ?_
            refine nb_Gr ?_
            refine nb_Wg (q_m_time_7 _ _ _ _ (by omega)) ?_
            refine nb_Gb ?_
            refine nb_Wg (q_m_no_0 _ _ _ (by omega)) ?_
            have W28 : nb_Lay (nb_wr (nb_wr (nb_wr M 603 0 0) 603 11 0) 603 11 1) := W2.wr (fun w => (nb_nlit (by decide) (by decide)))
            refine nb_Gr ?_
            refine nb_Wg (q_m_no_1 _ _ _) ?_
            refine nb_Gs ?_
            show nb_W 148 8 [(20, 603), (0, l1), (0, l2)] [(0, (-1))] (nb_wr (nb_wr (nb_wr M 603 0 0) 603 11 0) 603 11 1) _
            refine nb_Wg (q_m_time_8 _ _ _ _ _) ?_
            refine nb_Gs ?_
            exact nb_Hu H W28
          · have H := nb_Hw ((nb_Hu H).2 (by omega))
            have c38 : l2 ≤ M.1 606 5 - 1 := by omega
            refine nb_Gr ?_
            refine nb_Wg (q_m_within_2 _ _ _ _) ?_
            refine nb_Gr ?_
            have E29 : nb_i2z 1 = 1 := by decide
            refine nb_Wg (q_m_within_4 _ _ _ _ _) ?_
            simp only [E29]
            clear E29
            refine nb_Gs ?_
            show nb_W 116 2 [(20, 603), (0, l2)] [(0, 1)] (nb_wr (nb_wr M 603 0 0) 603 11 0) _
            refine nb_Wg (q_m_isPerson_2 _ _ _ _) ?_
            refine nb_Gf (by decide) ?_
            refine nb_Gr ?_
            refine nb_Wg (q_m_isPerson_3 _ _ _) ?_
            refine nb_Gr ?_
            have E30 : nb_i2z 1 = 1 := by decide
            refine nb_Wg (q_m_isPerson_5 _ _ _ _) ?_
            simp only [E30]
            clear E30
            refine nb_Gs ?_
            show nb_W 148 4 [(20, 603), (0, l1), (0, l2)] [(0, 1)] (nb_wr (nb_wr M 603 0 0) 603 11 0) _
            refine nb_Wg (q_m_time_4 _ _ _ _ _) ?_
            refine nb_Gf (by decide) ?_
            refine nb_Gr ?_
            have E31 : nb_rd (nb_wr (nb_wr M 603 0 0) 603 11 0) 603 17 = 608 := W2.m17
            refine nb_Wg (q_m_time_5 _ _ _ _ (by omega)) ?_
            simp only [E31]
            clear E31
            refine nb_Gb ?_
            obtain ⟨p0_, p1_, p2_, p3_, p4_, p5_, H⟩ := H
            replace H := nb_Hw H
            have E32 : nb_mul 4 l1 = 4 * l1 := nb_mul_eq (by omega) (by omega)
            have E33 : nb_add 92 (4 * l1) = 92 + 4 * l1 := (nb_add_eq (x := 92) (y := 4 * l1) (by omega) (by omega)).trans (by omega)
            have E34 : nb_add (92 + 4 * l1) 3 = 92 + 4 * l1 + 3 := nb_add_eq (by omega) (by omega)
            have N35 : nb_ln (nb_wr (nb_wr M 603 0 0) 603 11 0) 608 = 108 := W2.lk (by decide) (by decide +kernel)
            have E36 : nb_rd (nb_wr (nb_wr M 603 0 0) 603 11 0) 608 (92 + 4 * l1 + 3) = M.1 608 (92 + 4 * l1 + 3) := nb_rdw (Or.inl (by decide)) (nb_rdw (Or.inl (by decide)) (nb_rd_1 _ _ _))
            have E37 : nb_sub (M.1 608 (92 + 4 * l1 + 3)) 1 = M.1 608 (92 + 4 * l1 + 3) - 1 := nb_sub_eq (by omega) (by omega)
            refine nb_Wg (q_m_timeOf_0 _ _ _ _ _ _ (by omega) (by rw [E32, E33, E34]; first | done | omega) (by rw [E32, E33, E34, N35]; first | done | omega) (by omega)) ?_
            simp only [E32, E33, E34, E36, E37]
            clear E32 E33 E34 N35 E36 E37
            rw [show nb_R nb_P 129 0 [(20, 603), (0, M.1 608 (92 + 4 * l1 + 3) - 1), (0, l2), (98, 0), (98, 0), (98, 0), (98, 0)] [] (nb_wr (nb_wr M 603 0 0) 603 11 0) = some ([(0, pu_tb (M.1 606) (M.1 608 (92 + 4 * l1 + 3) - 1) l2)], nb_wr (nb_wr M 603 0 0) 603 11 0) from (sp_m_timeBehind W2 (by first | assumption | omega | (simp [nb_wr_up, nb_up_1, nb_ud]; first | assumption | omega)) (by omega) (by omega)).trans (by first | rfl | simp [nb_wr_up, nb_up_1, nb_up_up, nb_ud])]
            refine nb_Gp ?_
            show nb_W 128 1 [(20, 603), (3, 608), (0, l1), (0, l2), (0, M.1 608 (92 + 4 * l1 + 3) - 1)] [(0, pu_tb (M.1 606) (M.1 608 (92 + 4 * l1 + 3) - 1) l2)] (nb_wr (nb_wr M 603 0 0) 603 11 0) _
            refine nb_Wg (q_m_timeOf_1 _ _ _ _ _ _ _) ?_
            refine nb_Gs ?_
            show nb_W 148 6 [(20, 603), (0, l1), (0, l2)] [(0, pu_tb (M.1 606) (M.1 608 (92 + 4 * l1 + 3) - 1) l2)] (nb_wr (nb_wr M 603 0 0) 603 11 0) _
            refine nb_Wg (q_m_time_6 _ _ _ _ _) ?_
            refine nb_Gr ?_
            refine nb_Wg (q_m_time_8 _ _ _ _ _) ?_
            refine nb_Gs ?_
            exact nb_Hu H W2

theorem w_m_costs_0 {l1 : Int} {M : nb_M} {Q : List nb_V → nb_M → Prop} (W : nb_Lay M) (H : 0 ≤ M.1 603 14 ∧ M.1 603 14 ≤ 1 ∧ (M.1 603 14 = 0 → (nb_Lay (nb_wr (nb_wr (nb_wr M 603 0 0) 603 11 0) 603 11 1) → Q [(0, (-1))] (nb_wr (nb_wr (nb_wr M 603 0 0) 603 11 0) 603 11 1))) ∧ (M.1 603 14 ≠ 0 → 0 ≤ M.1 606 5 ∧ M.1 606 5 ≤ 10 ∧ (l1 < 0 → (nb_Lay (nb_wr (nb_wr (nb_wr M 603 0 0) 603 11 0) 603 11 1) → Q [(0, (-1))] (nb_wr (nb_wr (nb_wr M 603 0 0) 603 11 0) 603 11 1))) ∧ (0 ≤ l1 → (M.1 606 5 - 1 < l1 → (nb_Lay (nb_wr (nb_wr (nb_wr M 603 0 0) 603 11 0) 603 11 1) → Q [(0, (-1))] (nb_wr (nb_wr (nb_wr M 603 0 0) 603 11 0) 603 11 1))) ∧ (l1 ≤ M.1 606 5 - 1 → pu_Rr (M.1 606) ∧ l1 ≤ 9 ∧ (nb_Lay (nb_wr (nb_wr M 603 0 0) 603 11 0) → Q [(0, pu_co (M.1 606) l1)] (nb_wr (nb_wr M 603 0 0) 603 11 0)))))) :
    nb_W 149 0 [(20, 603), (0, l1)] [] M Q := by
  replace H := nb_Hw H
  refine nb_Wg (q_m_costs_0 _ _ _ (by omega)) ?_
  refine nb_Gb ?_
  refine nb_Wg (q_m_good_0 _ _ (by omega)) ?_
  have W1 : nb_Lay (nb_wr M 603 0 0) := W.wr (fun w => (nb_nlit (by decide) (by decide)))
  refine nb_Gr ?_
  refine nb_Wg (q_m_good_1 _ _ (by omega)) ?_
  have W2 : nb_Lay (nb_wr (nb_wr M 603 0 0) 603 11 0) := W1.wr (fun w => (nb_nlit (by decide) (by decide)))
  refine nb_Gr ?_
  refine nb_Wg (q_m_good_2 _ _) ?_
  refine nb_Gs ?_
  show nb_W 149 1 [(20, 603), (0, l1)] [] (nb_wr (nb_wr M 603 0 0) 603 11 0) _
  refine nb_Wg (q_m_costs_1 _ _ _ (by omega)) ?_
  refine nb_Gb ?_
  obtain ⟨p0_, p1_, H⟩ := H
  replace H := nb_Hw H
  have E3 : nb_rd (nb_wr (nb_wr M 603 0 0) 603 11 0) 603 14 = M.1 603 14 := nb_rdw (Or.inr (by decide)) (nb_rdw (Or.inr (by decide)) (nb_rd_1 _ _ _))
  refine nb_Wg (q_m_isPerson_0 _ _ _ (by omega)) ?_
  simp only [E3]
  clear E3
  refine nb_Gi (fun c20 => ?_) (fun c20 => ?_)
  · have H := nb_Hw ((nb_Hu H).1 c20)
    refine nb_Gr ?_
    refine nb_Wg (q_m_isPerson_4 _ _ _) ?_
    refine nb_Gr ?_
    have E4 : nb_i2z 0 = 0 := by decide
    refine nb_Wg (q_m_isPerson_5 _ _ _ _) ?_
    simp only [E4]
    clear E4
    refine nb_Gs ?_
    show nb_W 149 2 [(20, 603), (0, l1)] [(0, 0)] (nb_wr (nb_wr M 603 0 0) 603 11 0) _
    refine nb_Wg (q_m_costs_2 _ _ _ _) ?_
    refine nb_Gt (by decide) ?_
    refine nb_Gr ?_
    refine nb_Wg (q_m_costs_5 _ _ _ (by omega)) ?_
    refine nb_Gb ?_
    refine nb_Wg (q_m_no_0 _ _ _ (by omega)) ?_
    have W5 : nb_Lay (nb_wr (nb_wr (nb_wr M 603 0 0) 603 11 0) 603 11 1) := W2.wr (fun w => (nb_nlit (by decide) (by decide)))
    refine nb_Gr ?_
    refine nb_Wg (q_m_no_1 _ _ _) ?_
    refine nb_Gs ?_
    show nb_W 149 6 [(20, 603), (0, l1)] [(0, (-1))] (nb_wr (nb_wr (nb_wr M 603 0 0) 603 11 0) 603 11 1) _
    refine nb_Wg (q_m_costs_6 _ _ _ _) ?_
    refine nb_Gs ?_
    exact nb_Hu H W5
  · have H := nb_Hw ((nb_Hu H).2 (by omega))
    have c20 : M.1 603 14 ≠ 0 := by omega
    refine nb_Gr ?_
    obtain ⟨p0_, p1_, H⟩ := H
    replace H := nb_Hw H
    have E6 : nb_rd (nb_wr (nb_wr M 603 0 0) 603 11 0) 603 15 = 606 := W2.m15
    have N7 : nb_ln (nb_wr (nb_wr M 603 0 0) 603 11 0) 606 = 347 := W2.lk (by decide) (by decide +kernel)
    have E8 : nb_rd (nb_wr (nb_wr M 603 0 0) 603 11 0) 606 5 = M.1 606 5 := nb_rdw (Or.inl (by decide)) (nb_rdw (Or.inl (by decide)) (nb_rd_1 _ _ _))
    have E9 : nb_sub (M.1 606 5) 1 = M.1 606 5 - 1 := nb_sub_eq (by omega) (by omega)
    refine nb_Wg (q_m_isPerson_1 _ _ _ (by omega) (by rw [E6]; first | done | omega) (by omega) (by rw [E6, N7]; first | done | omega)) ?_
    simp only [E6, E8, E9]
    clear E6 N7 E8 E9
    refine nb_Gb ?_
    refine nb_Wg (q_m_within_0 _ _ _ _) ?_
    refine nb_Gi (fun c19 => ?_) (fun c19 => ?_)
    · have H := nb_Hw ((nb_Hu H).1 c19)
      refine nb_Gr ?_
      refine nb_Wg (q_m_within_3 _ _ _ _) ?_
      refine nb_Gr ?_
      have E10 : nb_i2z 0 = 0 := by decide
      refine nb_Wg (q_m_within_4 _ _ _ _ _) ?_
      simp only [E10]
      clear E10
      refine nb_Gs ?_
      show nb_W 116 2 [(20, 603), (0, l1)] [(0, 0)] (nb_wr (nb_wr M 603 0 0) 603 11 0) _
      refine nb_Wg (q_m_isPerson_2 _ _ _ _) ?_
      refine nb_Gt (by decide) ?_
      refine nb_Gr ?_
      refine nb_Wg (q_m_isPerson_4 _ _ _) ?_
      refine nb_Gr ?_
      have E11 : nb_i2z 0 = 0 := by decide
      refine nb_Wg (q_m_isPerson_5 _ _ _ _) ?_
      simp only [E11]
      clear E11
      refine nb_Gs ?_
      show nb_W 149 2 [(20, 603), (0, l1)] [(0, 0)] (nb_wr (nb_wr M 603 0 0) 603 11 0) _
      refine nb_Wg (q_m_costs_2 _ _ _ _) ?_
      refine nb_Gt (by decide) ?_
      refine nb_Gr ?_
      refine nb_Wg (q_m_costs_5 _ _ _ (by omega)) ?_
      refine nb_Gb ?_
      refine nb_Wg (q_m_no_0 _ _ _ (by omega)) ?_
      have W12 : nb_Lay (nb_wr (nb_wr (nb_wr M 603 0 0) 603 11 0) 603 11 1) := W2.wr (fun w => (nb_nlit (by decide) (by decide)))
      refine nb_Gr ?_
      refine nb_Wg (q_m_no_1 _ _ _) ?_
      refine nb_Gs ?_
      show nb_W 149 6 [(20, 603), (0, l1)] [(0, (-1))] (nb_wr (nb_wr (nb_wr M 603 0 0) 603 11 0) 603 11 1) _
      refine nb_Wg (q_m_costs_6 _ _ _ _) ?_
      refine nb_Gs ?_
      exact nb_Hu H W12
    · have H := nb_Hw ((nb_Hu H).2 (by omega))
      have c19 : 0 ≤ l1 := by omega
      refine nb_Gr ?_
      refine nb_Wg (q_m_within_1 _ _ _ _) ?_
      refine nb_Gi (fun c18 => ?_) (fun c18 => ?_)
      · have H := nb_Hw ((nb_Hu H).1 c18)
        refine nb_Gr ?_
        refine nb_Wg (q_m_within_3 _ _ _ _) ?_
        refine nb_Gr ?_
        have E13 : nb_i2z 0 = 0 := by decide
        refine nb_Wg (q_m_within_4 _ _ _ _ _) ?_
        simp only [E13]
        clear E13
        refine nb_Gs ?_
        show nb_W 116 2 [(20, 603), (0, l1)] [(0, 0)] (nb_wr (nb_wr M 603 0 0) 603 11 0) _
        refine nb_Wg (q_m_isPerson_2 _ _ _ _) ?_
        refine nb_Gt (by decide) ?_
        refine nb_Gr ?_
        refine nb_Wg (q_m_isPerson_4 _ _ _) ?_
        refine nb_Gr ?_
        have E14 : nb_i2z 0 = 0 := by decide
        refine nb_Wg (q_m_isPerson_5 _ _ _ _) ?_
        simp only [E14]
        clear E14
        refine nb_Gs ?_
        show nb_W 149 2 [(20, 603), (0, l1)] [(0, 0)] (nb_wr (nb_wr M 603 0 0) 603 11 0) _
        refine nb_Wg (q_m_costs_2 _ _ _ _) ?_
        refine nb_Gt (by decide) ?_
        refine nb_Gr ?_
        refine nb_Wg (q_m_costs_5 _ _ _ (by omega)) ?_
        refine nb_Gb ?_
        refine nb_Wg (q_m_no_0 _ _ _ (by omega)) ?_
        have W15 : nb_Lay (nb_wr (nb_wr (nb_wr M 603 0 0) 603 11 0) 603 11 1) := W2.wr (fun w => (nb_nlit (by decide) (by decide)))
        refine nb_Gr ?_
        refine nb_Wg (q_m_no_1 _ _ _) ?_
        refine nb_Gs ?_
        show nb_W 149 6 [(20, 603), (0, l1)] [(0, (-1))] (nb_wr (nb_wr (nb_wr M 603 0 0) 603 11 0) 603 11 1) _
        refine nb_Wg (q_m_costs_6 _ _ _ _) ?_
        refine nb_Gs ?_
        exact nb_Hu H W15
      · have H := nb_Hw ((nb_Hu H).2 (by omega))
        have c18 : l1 ≤ M.1 606 5 - 1 := by omega
        refine nb_Gr ?_
        refine nb_Wg (q_m_within_2 _ _ _ _) ?_
        refine nb_Gr ?_
        have E16 : nb_i2z 1 = 1 := by decide
        refine nb_Wg (q_m_within_4 _ _ _ _ _) ?_
        simp only [E16]
        clear E16
        refine nb_Gs ?_
        show nb_W 116 2 [(20, 603), (0, l1)] [(0, 1)] (nb_wr (nb_wr M 603 0 0) 603 11 0) _
        refine nb_Wg (q_m_isPerson_2 _ _ _ _) ?_
        refine nb_Gf (by decide) ?_
        refine nb_Gr ?_
        refine nb_Wg (q_m_isPerson_3 _ _ _) ?_
        refine nb_Gr ?_
        have E17 : nb_i2z 1 = 1 := by decide
        refine nb_Wg (q_m_isPerson_5 _ _ _ _) ?_
        simp only [E17]
        clear E17
        refine nb_Gs ?_
        show nb_W 149 2 [(20, 603), (0, l1)] [(0, 1)] (nb_wr (nb_wr M 603 0 0) 603 11 0) _
        refine nb_Wg (q_m_costs_2 _ _ _ _) ?_
        refine nb_Gf (by decide) ?_
        refine nb_Gr ?_
        obtain ⟨p0_, p1_, H⟩ := H
        replace H := nb_Hw H
        refine nb_Wg (q_m_costs_3 _ _ _ (by omega)) ?_
        rw [show nb_R nb_P 141 0 [(20, 603), (0, l1), (98, 0), (98, 0)] [] (nb_wr (nb_wr M 603 0 0) 603 11 0) = some ([(0, pu_co (M.1 606) l1)], nb_wr (nb_wr M 603 0 0) 603 11 0) from (sp_m_costsOf W2 (by first | assumption | omega | (simp [nb_wr_up, nb_up_1, nb_ud]; first | assumption | omega)) (by omega)).trans (by first | rfl | simp [nb_wr_up, nb_up_1, nb_up_up, nb_ud])]
        refine nb_Gp ?_
        show nb_W 149 4 [(20, 603), (0, l1)] [(0, pu_co (M.1 606) l1)] (nb_wr (nb_wr M 603 0 0) 603 11 0) _
        refine nb_Wg (q_m_costs_4 _ _ _ _) ?_
        refine nb_Gr ?_
        refine nb_Wg (q_m_costs_6 _ _ _ _) ?_
        refine nb_Gs ?_
        exact nb_Hu H W2

theorem w_m_told_0 {l1 l2 : Int} {v3 : nb_V} {M : nb_M} {Q : List nb_V → nb_M → Prop} (W : nb_Lay M) (H : 0 ≤ M.1 603 14 ∧ M.1 603 14 ≤ 1 ∧ (M.1 603 14 = 0 → (nb_Lay (nb_wr (nb_wr (nb_wr M 603 0 0) 603 11 0) 603 11 1) → Q [(0, (-1))] (nb_wr (nb_wr (nb_wr M 603 0 0) 603 11 0) 603 11 1))) ∧ (M.1 603 14 ≠ 0 → 0 ≤ M.1 606 5 ∧ M.1 606 5 ≤ 10 ∧ (l1 < 0 → (nb_Lay (nb_wr (nb_wr (nb_wr M 603 0 0) 603 11 0) 603 11 1) → Q [(0, (-1))] (nb_wr (nb_wr (nb_wr M 603 0 0) 603 11 0) 603 11 1))) ∧ (0 ≤ l1 → (M.1 606 5 - 1 < l1 → (nb_Lay (nb_wr (nb_wr (nb_wr M 603 0 0) 603 11 0) 603 11 1) → Q [(0, (-1))] (nb_wr (nb_wr (nb_wr M 603 0 0) 603 11 0) 603 11 1))) ∧ (l1 ≤ M.1 606 5 - 1 → (l2 < 0 → (nb_Lay (nb_wr (nb_wr (nb_wr M 603 0 0) 603 11 0) 603 11 1) → Q [(0, (-1))] (nb_wr (nb_wr (nb_wr M 603 0 0) 603 11 0) 603 11 1))) ∧ (0 ≤ l2 → (6 < l2 → (nb_Lay (nb_wr (nb_wr (nb_wr M 603 0 0) 603 11 0) 603 11 1) → Q [(0, (-1))] (nb_wr (nb_wr (nb_wr M 603 0 0) 603 11 0) 603 11 1))) ∧ (l2 ≤ 6 → (l2 < 6 → (nb_Lay (nb_wr (nb_wr M 603 0 0) 603 11 0) → Q [(0, M.1 606 (41 + 7 * l1 + l2))] (nb_wr (nb_wr M 603 0 0) 603 11 0))) ∧ (6 ≤ l2 → (M.1 606 (41 + 7 * l1 + l2) = 0 → (nb_Lay (nb_wr (nb_wr M 603 0 0) 603 11 0) → Q [(0, (-2))] (nb_wr (nb_wr M 603 0 0) 603 11 0))) ∧ (M.1 606 (41 + 7 * l1 + l2) ≠ 0 → -2147483648 ≤ M.1 606 (41 + 7 * l1 + l2) - 1 ∧ M.1 606 (41 + 7 * l1 + l2) - 1 ≤ 2147483647 ∧ (nb_Lay (nb_wr (nb_wr M 603 0 0) 603 11 0) → Q [(0, M.1 606 (41 + 7 * l1 + l2) - 1)] (nb_wr (nb_wr M 603 0 0) 603 11 0)))))))))) :
    nb_W 209 0 [(20, 603), (0, l1), (0, l2), v3] [] M Q := by
  replace H := nb_Hw H
  refine nb_Wg (q_m_told_0 _ _ _ _ _ (by omega)) ?_
  refine nb_Gb ?_
  refine nb_Wg (q_m_good_0 _ _ (by omega)) ?_
  have W1 : nb_Lay (nb_wr M 603 0 0) := W.wr (fun w => (nb_nlit (by decide) (by decide)))
  refine nb_Gr ?_
  refine nb_Wg (q_m_good_1 _ _ (by omega)) ?_
  have W2 : nb_Lay (nb_wr (nb_wr M 603 0 0) 603 11 0) := W1.wr (fun w => (nb_nlit (by decide) (by decide)))
  refine nb_Gr ?_
  refine nb_Wg (q_m_good_2 _ _) ?_
  refine nb_Gs ?_
  show nb_W 209 1 [(20, 603), (0, l1), (0, l2), v3] [] (nb_wr (nb_wr M 603 0 0) 603 11 0) _
  refine nb_Wg (q_m_told_1 _ _ _ _ _ (by omega)) ?_
  refine nb_Gb ?_
  obtain ⟨p0_, p1_, H⟩ := H
  replace H := nb_Hw H
  have E3 : nb_rd (nb_wr (nb_wr M 603 0 0) 603 11 0) 603 14 = M.1 603 14 := nb_rdw (Or.inr (by decide)) (nb_rdw (Or.inr (by decide)) (nb_rd_1 _ _ _))
  refine nb_Wg (q_m_isPerson_0 _ _ _ (by omega)) ?_
  simp only [E3]
  clear E3
  refine nb_Gi (fun c36 => ?_) (fun c36 => ?_)
  · have H := nb_Hw ((nb_Hu H).1 c36)
    refine nb_Gr ?_
    refine nb_Wg (q_m_isPerson_4 _ _ _) ?_
    refine nb_Gr ?_
    have E4 : nb_i2z 0 = 0 := by decide
    refine nb_Wg (q_m_isPerson_5 _ _ _ _) ?_
    simp only [E4]
    clear E4
    refine nb_Gs ?_
    show nb_W 209 2 [(20, 603), (0, l1), (0, l2), v3] [(0, 0)] (nb_wr (nb_wr M 603 0 0) 603 11 0) _
    refine nb_Wg (q_m_told_2 _ _ _ _ _ _) ?_
    refine nb_Gt (by decide) ?_
    refine nb_Gr ?_
    refine nb_Wg (q_m_told_5 _ _ _ _ _ (by omega)) ?_
    refine nb_Gb ?_
    refine nb_Wg (q_m_no_0 _ _ _ (by omega)) ?_
    have W5 : nb_Lay (nb_wr (nb_wr (nb_wr M 603 0 0) 603 11 0) 603 11 1) := W2.wr (fun w => (nb_nlit (by decide) (by decide)))
    refine nb_Gr ?_
    refine nb_Wg (q_m_no_1 _ _ _) ?_
    refine nb_Gs ?_
    show nb_W 209 6 [(20, 603), (0, l1), (0, l2), v3] [(0, (-1))] (nb_wr (nb_wr (nb_wr M 603 0 0) 603 11 0) 603 11 1) _
    refine nb_Wg (q_m_told_6 _ _ _ _ _ _) ?_
    refine nb_Gs ?_
    exact nb_Hu H W5
  · have H := nb_Hw ((nb_Hu H).2 (by omega))
    have c36 : M.1 603 14 ≠ 0 := by omega
    refine nb_Gr ?_
    obtain ⟨p0_, p1_, H⟩ := H
    replace H := nb_Hw H
    have E6 : nb_rd (nb_wr (nb_wr M 603 0 0) 603 11 0) 603 15 = 606 := W2.m15
    have N7 : nb_ln (nb_wr (nb_wr M 603 0 0) 603 11 0) 606 = 347 := W2.lk (by decide) (by decide +kernel)
    have E8 : nb_rd (nb_wr (nb_wr M 603 0 0) 603 11 0) 606 5 = M.1 606 5 := nb_rdw (Or.inl (by decide)) (nb_rdw (Or.inl (by decide)) (nb_rd_1 _ _ _))
    have E9 : nb_sub (M.1 606 5) 1 = M.1 606 5 - 1 := nb_sub_eq (by omega) (by omega)
    refine nb_Wg (q_m_isPerson_1 _ _ _ (by omega) (by rw [E6]; first | done | omega) (by omega) (by rw [E6, N7]; first | done | omega)) ?_
    simp only [E6, E8, E9]
    clear E6 N7 E8 E9
    refine nb_Gb ?_
    refine nb_Wg (q_m_within_0 _ _ _ _) ?_
    refine nb_Gi (fun c35 => ?_) (fun c35 => ?_)
    · have H := nb_Hw ((nb_Hu H).1 c35)
      refine nb_Gr ?_
      refine nb_Wg (q_m_within_3 _ _ _ _) ?_
      refine nb_Gr ?_
      have E10 : nb_i2z 0 = 0 := by decide
      refine nb_Wg (q_m_within_4 _ _ _ _ _) ?_
      simp only [E10]
      clear E10
      refine nb_Gs ?_
      show nb_W 116 2 [(20, 603), (0, l1)] [(0, 0)] (nb_wr (nb_wr M 603 0 0) 603 11 0) _
      refine nb_Wg (q_m_isPerson_2 _ _ _ _) ?_
      refine nb_Gt (by decide) ?_
      refine nb_Gr ?_
      refine nb_Wg (q_m_isPerson_4 _ _ _) ?_
      refine nb_Gr ?_
      have E11 : nb_i2z 0 = 0 := by decide
      refine nb_Wg (q_m_isPerson_5 _ _ _ _) ?_
      simp only [E11]
      clear E11
      refine nb_Gs ?_
      show nb_W 209 2 [(20, 603), (0, l1), (0, l2), v3] [(0, 0)] (nb_wr (nb_wr M 603 0 0) 603 11 0) _
      refine nb_Wg (q_m_told_2 _ _ _ _ _ _) ?_
      refine nb_Gt (by decide) ?_
      refine nb_Gr ?_
      refine nb_Wg (q_m_told_5 _ _ _ _ _ (by omega)) ?_
      refine nb_Gb ?_
      refine nb_Wg (q_m_no_0 _ _ _ (by omega)) ?_
      have W12 : nb_Lay (nb_wr (nb_wr (nb_wr M 603 0 0) 603 11 0) 603 11 1) := W2.wr (fun w => (nb_nlit (by decide) (by decide)))
      refine nb_Gr ?_
      refine nb_Wg (q_m_no_1 _ _ _) ?_
      refine nb_Gs ?_
      show nb_W 209 6 [(20, 603), (0, l1), (0, l2), v3] [(0, (-1))] (nb_wr (nb_wr (nb_wr M 603 0 0) 603 11 0) 603 11 1) _
      refine nb_Wg (q_m_told_6 _ _ _ _ _ _) ?_
      refine nb_Gs ?_
      exact nb_Hu H W12
    · have H := nb_Hw ((nb_Hu H).2 (by omega))
      have c35 : 0 ≤ l1 := by omega
      refine nb_Gr ?_
      refine nb_Wg (q_m_within_1 _ _ _ _) ?_
      refine nb_Gi (fun c34 => ?_) (fun c34 => ?_)
      · have H := nb_Hw ((nb_Hu H).1 c34)
        refine nb_Gr ?_
        refine nb_Wg (q_m_within_3 _ _ _ _) ?_
        refine nb_Gr ?_
        have E13 : nb_i2z 0 = 0 := by decide
        refine nb_Wg (q_m_within_4 _ _ _ _ _) ?_
        simp only [E13]
        clear E13
        refine nb_Gs ?_
        show nb_W 116 2 [(20, 603), (0, l1)] [(0, 0)] (nb_wr (nb_wr M 603 0 0) 603 11 0) _
        refine nb_Wg (q_m_isPerson_2 _ _ _ _) ?_
        refine nb_Gt (by decide) ?_
        refine nb_Gr ?_
        refine nb_Wg (q_m_isPerson_4 _ _ _) ?_
        refine nb_Gr ?_
        have E14 : nb_i2z 0 = 0 := by decide
        refine nb_Wg (q_m_isPerson_5 _ _ _ _) ?_
        simp only [E14]
        clear E14
        refine nb_Gs ?_
        show nb_W 209 2 [(20, 603), (0, l1), (0, l2), v3] [(0, 0)] (nb_wr (nb_wr M 603 0 0) 603 11 0) _
        refine nb_Wg (q_m_told_2 _ _ _ _ _ _) ?_
        refine nb_Gt (by decide) ?_
        refine nb_Gr ?_
        refine nb_Wg (q_m_told_5 _ _ _ _ _ (by omega)) ?_
        refine nb_Gb ?_
        refine nb_Wg (q_m_no_0 _ _ _ (by omega)) ?_
        have W15 : nb_Lay (nb_wr (nb_wr (nb_wr M 603 0 0) 603 11 0) 603 11 1) := W2.wr (fun w => (nb_nlit (by decide) (by decide)))
        refine nb_Gr ?_
        refine nb_Wg (q_m_no_1 _ _ _) ?_
        refine nb_Gs ?_
        show nb_W 209 6 [(20, 603), (0, l1), (0, l2), v3] [(0, (-1))] (nb_wr (nb_wr (nb_wr M 603 0 0) 603 11 0) 603 11 1) _
        refine nb_Wg (q_m_told_6 _ _ _ _ _ _) ?_
        refine nb_Gs ?_
        exact nb_Hu H W15
      · have H := nb_Hw ((nb_Hu H).2 (by omega))
        have c34 : l1 ≤ M.1 606 5 - 1 := by omega
        refine nb_Gr ?_
        refine nb_Wg (q_m_within_2 _ _ _ _) ?_
        refine nb_Gr ?_
        have E16 : nb_i2z 1 = 1 := by decide
        refine nb_Wg (q_m_within_4 _ _ _ _ _) ?_
        simp only [E16]
        clear E16
        refine nb_Gs ?_
        show nb_W 116 2 [(20, 603), (0, l1)] [(0, 1)] (nb_wr (nb_wr M 603 0 0) 603 11 0) _
        refine nb_Wg (q_m_isPerson_2 _ _ _ _) ?_
        refine nb_Gf (by decide) ?_
        refine nb_Gr ?_
        refine nb_Wg (q_m_isPerson_3 _ _ _) ?_
        refine nb_Gr ?_
        have E17 : nb_i2z 1 = 1 := by decide
        refine nb_Wg (q_m_isPerson_5 _ _ _ _) ?_
        simp only [E17]
        clear E17
        refine nb_Gs ?_
        show nb_W 209 2 [(20, 603), (0, l1), (0, l2), v3] [(0, 1)] (nb_wr (nb_wr M 603 0 0) 603 11 0) _
        refine nb_Wg (q_m_told_2 _ _ _ _ _ _) ?_
        refine nb_Gf (by decide) ?_
        refine nb_Gr ?_
        refine nb_Wg (q_m_told_3 _ _ _ _ _) ?_
        refine nb_Gb ?_
        refine nb_Wg (q_m_within_0 _ _ _ _) ?_
        refine nb_Gi (fun c33 => ?_) (fun c33 => ?_)
        · have H := nb_Hw ((nb_Hu H).1 c33)
          refine nb_Gr ?_
          refine nb_Wg (q_m_within_3 _ _ _ _) ?_
          refine nb_Gr ?_
          have E18 : nb_i2z 0 = 0 := by decide
          refine nb_Wg (q_m_within_4 _ _ _ _ _) ?_
          simp only [E18]
          clear E18
          refine nb_Gs ?_
          show nb_W 209 4 [(20, 603), (0, l1), (0, l2), v3] [(0, 0)] (nb_wr (nb_wr M 603 0 0) 603 11 0) _
          refine nb_Wg (q_m_told_4 _ _ _ _ _ _) ?_
          refine nb_Gt (by decide) ?_
          refine nb_Gr ?_
          refine nb_Wg (q_m_told_5 _ _ _ _ _ (by omega)) ?_
          refine nb_Gb ?_
          refine nb_Wg (q_m_no_0 _ _ _ (by omega)) ?_
          have W19 : nb_Lay (nb_wr (nb_wr (nb_wr M 603 0 0) 603 11 0) 603 11 1) := W2.wr (fun w => (nb_nlit (by decide) (by decide)))
          refine nb_Gr ?_
          refine nb_Wg (q_m_no_1 _ _ _) ?_
          refine nb_Gs ?_
          show nb_W 209 6 [(20, 603), (0, l1), (0, l2), v3] [(0, (-1))] (nb_wr (nb_wr (nb_wr M 603 0 0) 603 11 0) 603 11 1) _
          refine nb_Wg (q_m_told_6 _ _ _ _ _ _) ?_
          refine nb_Gs ?_
          exact nb_Hu H W19
        · have H := nb_Hw ((nb_Hu H).2 (by omega))
          have c33 : 0 ≤ l2 := by omega
          refine nb_Gr ?_
          refine nb_Wg (q_m_within_1 _ _ _ _) ?_
          refine nb_Gi (fun c32 => ?_) (fun c32 => ?_)
          · have H := nb_Hw ((nb_Hu H).1 c32)
            refine nb_Gr ?_
            refine nb_Wg (q_m_within_3 _ _ _ _) ?_
            refine nb_Gr ?_
            have E20 : nb_i2z 0 = 0 := by decide
            refine nb_Wg (q_m_within_4 _ _ _ _ _) ?_
            simp only [E20]
            clear E20
            refine nb_Gs ?_
            show nb_W 209 4 [(20, 603), (0, l1), (0, l2), v3] [(0, 0)] (nb_wr (nb_wr M 603 0 0) 603 11 0) _
            refine nb_Wg (q_m_told_4 _ _ _ _ _ _) ?_
            refine nb_Gt (by decide) ?_
            refine nb_Gr ?_
            refine nb_Wg (q_m_told_5 _ _ _ _ _ (by omega)) ?_
            refine nb_Gb ?_
            refine nb_Wg (q_m_no_0 _ _ _ (by omega)) ?_
            have W21 : nb_Lay (nb_wr (nb_wr (nb_wr M 603 0 0) 603 11 0) 603 11 1) := W2.wr (fun w => (nb_nlit (by decide) (by decide)))
            refine nb_Gr ?_
            refine nb_Wg (q_m_no_1 _ _ _) ?_
            refine nb_Gs ?_
            show nb_W 209 6 [(20, 603), (0, l1), (0, l2), v3] [(0, (-1))] (nb_wr (nb_wr (nb_wr M 603 0 0) 603 11 0) 603 11 1) _
            refine nb_Wg (q_m_told_6 _ _ _ _ _ _) ?_
            refine nb_Gs ?_
            exact nb_Hu H W21
          · have H := nb_Hw ((nb_Hu H).2 (by omega))
            have c32 : l2 ≤ 6 := by omega
            refine nb_Gr ?_
            refine nb_Wg (q_m_within_2 _ _ _ _) ?_
            refine nb_Gr ?_
            have E22 : nb_i2z 1 = 1 := by decide
            refine nb_Wg (q_m_within_4 _ _ _ _ _) ?_
            simp only [E22]
            clear E22
            refine nb_Gs ?_
            show nb_W 209 4 [(20, 603), (0, l1), (0, l2), v3] [(0, 1)] (nb_wr (nb_wr M 603 0 0) 603 11 0) _
            refine nb_Wg (q_m_told_4 _ _ _ _ _ _) ?_
            refine nb_Gf (by decide) ?_
            refine nb_Gr ?_
            have E23 : nb_rd (nb_wr (nb_wr M 603 0 0) 603 11 0) 603 15 = 606 := W2.m15
            have E24 : nb_mul 7 l1 = 7 * l1 := nb_mul_eq (by omega) (by omega)
            have E25 : nb_add 41 (7 * l1) = 41 + 7 * l1 := (nb_add_eq (x := 41) (y := 7 * l1) (by omega) (by omega)).trans (by omega)
            have E26 : nb_add (41 + 7 * l1) l2 = 41 + 7 * l1 + l2 := nb_add_eq (by omega) (by omega)
            have N27 : nb_ln (nb_wr (nb_wr M 603 0 0) 603 11 0) 606 = 347 := W2.lk (by decide) (by decide +kernel)
            have E28 : nb_rd (nb_wr (nb_wr M 603 0 0) 603 11 0) 606 (41 + 7 * l1 + l2) = M.1 606 (41 + 7 * l1 + l2) := nb_rdw (Or.inl (by decide)) (nb_rdw (Or.inl (by decide)) (nb_rd_1 _ _ _))
            refine nb_Wg (q_m_told_7 _ _ _ _ _ (by omega) (by rw [E23]; first | done | omega) (by rw [E24, E25, E26]; first | done | omega) (by rw [E24, E25, E26, E23, N27]; first | done | omega)) ?_
            simp only [E23, E24, E25, E26, E28]
            clear E23 E24 E25 E26 N27 E28
            refine nb_Gi (fun c31 => ?_) (fun c31 => ?_)
            · have H := nb_Hw ((nb_Hu H).1 c31)
              refine nb_Gr ?_
              refine nb_Wg (q_m_told_8 _ _ _ _ _) ?_
              refine nb_Gr ?_
              refine nb_Wg (q_m_told_12 _ _ _ _ _ _) ?_
              refine nb_Gs ?_
              exact nb_Hu H W2
            · have H := nb_Hw ((nb_Hu H).2 (by omega))
              have c31 : 6 ≤ l2 := by omega
              refine nb_Gr ?_
              refine nb_Wg (q_m_told_9 _ _ _ _ _) ?_
              refine nb_Gi (fun c30 => ?_) (fun c30 => ?_)
              · have H := nb_Hw ((nb_Hu H).1 c30)
                refine nb_Gr ?_
                refine nb_Wg (q_m_told_10 _ _ _ _ _) ?_
                refine nb_Gr ?_
                refine nb_Wg (q_m_told_12 _ _ _ _ _ _) ?_
                refine nb_Gs ?_
                exact nb_Hu H W2
              · have H := nb_Hw ((nb_Hu H).2 (by omega))
                have c30 : M.1 606 (41 + 7 * l1 + l2) ≠ 0 := by omega
                refine nb_Gr ?_
                obtain ⟨p0_, p1_, H⟩ := H
                replace H := nb_Hw H
                have E29 : nb_sub (M.1 606 (41 + 7 * l1 + l2)) 1 = M.1 606 (41 + 7 * l1 + l2) - 1 := nb_sub_eq (by omega) (by omega)
                refine nb_Wg (q_m_told_11 _ _ _ _ _) ?_
                simp only [E29]
                clear E29
                refine nb_Gr ?_
                refine nb_Wg (q_m_told_12 _ _ _ _ _ _) ?_
                refine nb_Gs ?_
                exact nb_Hu H W2

theorem w_m_wants_0 {l1 l2 : Int} {M : nb_M} {Q : List nb_V → nb_M → Prop} (W : nb_Lay M) (H : 0 ≤ M.1 603 14 ∧ M.1 603 14 ≤ 1 ∧ (M.1 603 14 = 0 → (nb_Lay (nb_wr (nb_wr (nb_wr M 603 0 0) 603 11 0) 603 11 1) → Q [(0, (-1))] (nb_wr (nb_wr (nb_wr M 603 0 0) 603 11 0) 603 11 1))) ∧ (M.1 603 14 ≠ 0 → 0 ≤ M.1 606 5 ∧ M.1 606 5 ≤ 10 ∧ (l1 < 0 → (nb_Lay (nb_wr (nb_wr (nb_wr M 603 0 0) 603 11 0) 603 11 1) → Q [(0, (-1))] (nb_wr (nb_wr (nb_wr M 603 0 0) 603 11 0) 603 11 1))) ∧ (0 ≤ l1 → (M.1 606 5 - 1 < l1 → (nb_Lay (nb_wr (nb_wr (nb_wr M 603 0 0) 603 11 0) 603 11 1) → Q [(0, (-1))] (nb_wr (nb_wr (nb_wr M 603 0 0) 603 11 0) 603 11 1))) ∧ (l1 ≤ M.1 606 5 - 1 → 0 ≤ M.1 606 3 ∧ M.1 606 3 ≤ 5 ∧ (l2 < 0 → (nb_Lay (nb_wr (nb_wr (nb_wr M 603 0 0) 603 11 0) 603 11 1) → Q [(0, (-1))] (nb_wr (nb_wr (nb_wr M 603 0 0) 603 11 0) 603 11 1))) ∧ (0 ≤ l2 → (M.1 606 3 - 1 < l2 → (nb_Lay (nb_wr (nb_wr (nb_wr M 603 0 0) 603 11 0) 603 11 1) → Q [(0, (-1))] (nb_wr (nb_wr (nb_wr M 603 0 0) 603 11 0) 603 11 1))) ∧ (l2 ≤ M.1 606 3 - 1 → (nb_Lay (nb_wr (nb_wr M 603 0 0) 603 11 0) → Q [(0, M.1 606 (111 + 5 * l1 + l2))] (nb_wr (nb_wr M 603 0 0) 603 11 0)))))))) :
    nb_W 210 0 [(20, 603), (0, l1), (0, l2)] [] M Q := by
  replace H := nb_Hw H
  refine nb_Wg (q_m_wants_0 _ _ _ _ (by omega)) ?_
  refine nb_Gb ?_
  refine nb_Wg (q_m_good_0 _ _ (by omega)) ?_
  have W1 : nb_Lay (nb_wr M 603 0 0) := W.wr (fun w => (nb_nlit (by decide) (by decide)))
  refine nb_Gr ?_
  refine nb_Wg (q_m_good_1 _ _ (by omega)) ?_
  have W2 : nb_Lay (nb_wr (nb_wr M 603 0 0) 603 11 0) := W1.wr (fun w => (nb_nlit (by decide) (by decide)))
  refine nb_Gr ?_
  refine nb_Wg (q_m_good_2 _ _) ?_
  refine nb_Gs ?_
  show nb_W 210 1 [(20, 603), (0, l1), (0, l2)] [] (nb_wr (nb_wr M 603 0 0) 603 11 0) _
  refine nb_Wg (q_m_wants_1 _ _ _ _ (by omega)) ?_
  refine nb_Gb ?_
  obtain ⟨p0_, p1_, H⟩ := H
  replace H := nb_Hw H
  have E3 : nb_rd (nb_wr (nb_wr M 603 0 0) 603 11 0) 603 14 = M.1 603 14 := nb_rdw (Or.inr (by decide)) (nb_rdw (Or.inr (by decide)) (nb_rd_1 _ _ _))
  refine nb_Wg (q_m_isPerson_0 _ _ _ (by omega)) ?_
  simp only [E3]
  clear E3
  refine nb_Gi (fun c41 => ?_) (fun c41 => ?_)
  · have H := nb_Hw ((nb_Hu H).1 c41)
    refine nb_Gr ?_
    refine nb_Wg (q_m_isPerson_4 _ _ _) ?_
    refine nb_Gr ?_
    have E4 : nb_i2z 0 = 0 := by decide
    refine nb_Wg (q_m_isPerson_5 _ _ _ _) ?_
    simp only [E4]
    clear E4
    refine nb_Gs ?_
    show nb_W 210 2 [(20, 603), (0, l1), (0, l2)] [(0, 0)] (nb_wr (nb_wr M 603 0 0) 603 11 0) _
    refine nb_Wg (q_m_wants_2 _ _ _ _ _) ?_
    refine nb_Gt (by decide) ?_
    refine nb_Gr ?_
    refine nb_Wg (q_m_wants_7 _ _ _ _ (by omega)) ?_
    refine nb_Gb ?_
    refine nb_Wg (q_m_no_0 _ _ _ (by omega)) ?_
    have W5 : nb_Lay (nb_wr (nb_wr (nb_wr M 603 0 0) 603 11 0) 603 11 1) := W2.wr (fun w => (nb_nlit (by decide) (by decide)))
    refine nb_Gr ?_
    refine nb_Wg (q_m_no_1 _ _ _) ?_
    refine nb_Gs ?_
    show nb_W 210 8 [(20, 603), (0, l1), (0, l2)] [(0, (-1))] (nb_wr (nb_wr (nb_wr M 603 0 0) 603 11 0) 603 11 1) _
    refine nb_Wg (q_m_wants_8 _ _ _ _ _) ?_
    refine nb_Gs ?_
    exact nb_Hu H W5
  · have H := nb_Hw ((nb_Hu H).2 (by omega))
    have c41 : M.1 603 14 ≠ 0 := by omega
    refine nb_Gr ?_
    obtain ⟨p0_, p1_, H⟩ := H
    replace H := nb_Hw H
    have E6 : nb_rd (nb_wr (nb_wr M 603 0 0) 603 11 0) 603 15 = 606 := W2.m15
    have N7 : nb_ln (nb_wr (nb_wr M 603 0 0) 603 11 0) 606 = 347 := W2.lk (by decide) (by decide +kernel)
    have E8 : nb_rd (nb_wr (nb_wr M 603 0 0) 603 11 0) 606 5 = M.1 606 5 := nb_rdw (Or.inl (by decide)) (nb_rdw (Or.inl (by decide)) (nb_rd_1 _ _ _))
    have E9 : nb_sub (M.1 606 5) 1 = M.1 606 5 - 1 := nb_sub_eq (by omega) (by omega)
    refine nb_Wg (q_m_isPerson_1 _ _ _ (by omega) (by rw [E6]; first | done | omega) (by omega) (by rw [E6, N7]; first | done | omega)) ?_
    simp only [E6, E8, E9]
    clear E6 N7 E8 E9
    refine nb_Gb ?_
    refine nb_Wg (q_m_within_0 _ _ _ _) ?_
    refine nb_Gi (fun c40 => ?_) (fun c40 => ?_)
    · have H := nb_Hw ((nb_Hu H).1 c40)
      refine nb_Gr ?_
      refine nb_Wg (q_m_within_3 _ _ _ _) ?_
      refine nb_Gr ?_
      have E10 : nb_i2z 0 = 0 := by decide
      refine nb_Wg (q_m_within_4 _ _ _ _ _) ?_
      simp only [E10]
      clear E10
      refine nb_Gs ?_
      show nb_W 116 2 [(20, 603), (0, l1)] [(0, 0)] (nb_wr (nb_wr M 603 0 0) 603 11 0) _
      refine nb_Wg (q_m_isPerson_2 _ _ _ _) ?_
      refine nb_Gt (by decide) ?_
      refine nb_Gr ?_
      refine nb_Wg (q_m_isPerson_4 _ _ _) ?_
      refine nb_Gr ?_
      have E11 : nb_i2z 0 = 0 := by decide
      refine nb_Wg (q_m_isPerson_5 _ _ _ _) ?_
      simp only [E11]
      clear E11
      refine nb_Gs ?_
      show nb_W 210 2 [(20, 603), (0, l1), (0, l2)] [(0, 0)] (nb_wr (nb_wr M 603 0 0) 603 11 0) _
      refine nb_Wg (q_m_wants_2 _ _ _ _ _) ?_
      refine nb_Gt (by decide) ?_
      refine nb_Gr ?_
      refine nb_Wg (q_m_wants_7 _ _ _ _ (by omega)) ?_
      refine nb_Gb ?_
      refine nb_Wg (q_m_no_0 _ _ _ (by omega)) ?_
      have W12 : nb_Lay (nb_wr (nb_wr (nb_wr M 603 0 0) 603 11 0) 603 11 1) := W2.wr (fun w => (nb_nlit (by decide) (by decide)))
      refine nb_Gr ?_
      refine nb_Wg (q_m_no_1 _ _ _) ?_
      refine nb_Gs ?_
      show nb_W 210 8 [(20, 603), (0, l1), (0, l2)] [(0, (-1))] (nb_wr (nb_wr (nb_wr M 603 0 0) 603 11 0) 603 11 1) _
      refine nb_Wg (q_m_wants_8 _ _ _ _ _) ?_
      refine nb_Gs ?_
      exact nb_Hu H W12
    · have H := nb_Hw ((nb_Hu H).2 (by omega))
      have c40 : 0 ≤ l1 := by omega
      refine nb_Gr ?_
      refine nb_Wg (q_m_within_1 _ _ _ _) ?_
      refine nb_Gi (fun c39 => ?_) (fun c39 => ?_)
      · have H := nb_Hw ((nb_Hu H).1 c39)
        refine nb_Gr ?_
        refine nb_Wg (q_m_within_3 _ _ _ _) ?_
        refine nb_Gr ?_
        have E13 : nb_i2z 0 = 0 := by decide
        refine nb_Wg (q_m_within_4 _ _ _ _ _) ?_
        simp only [E13]
        clear E13
        refine nb_Gs ?_
        show nb_W 116 2 [(20, 603), (0, l1)] [(0, 0)] (nb_wr (nb_wr M 603 0 0) 603 11 0) _
        refine nb_Wg (q_m_isPerson_2 _ _ _ _) ?_
        refine nb_Gt (by decide) ?_
        refine nb_Gr ?_
        refine nb_Wg (q_m_isPerson_4 _ _ _) ?_
        refine nb_Gr ?_
        have E14 : nb_i2z 0 = 0 := by decide
        refine nb_Wg (q_m_isPerson_5 _ _ _ _) ?_
        simp only [E14]
        clear E14
        refine nb_Gs ?_
        show nb_W 210 2 [(20, 603), (0, l1), (0, l2)] [(0, 0)] (nb_wr (nb_wr M 603 0 0) 603 11 0) _
        refine nb_Wg (q_m_wants_2 _ _ _ _ _) ?_
        refine nb_Gt (by decide) ?_
        refine nb_Gr ?_
        refine nb_Wg (q_m_wants_7 _ _ _ _ (by omega)) ?_
        refine nb_Gb ?_
        refine nb_Wg (q_m_no_0 _ _ _ (by omega)) ?_
        have W15 : nb_Lay (nb_wr (nb_wr (nb_wr M 603 0 0) 603 11 0) 603 11 1) := W2.wr (fun w => (nb_nlit (by decide) (by decide)))
        refine nb_Gr ?_
        refine nb_Wg (q_m_no_1 _ _ _) ?_
        refine nb_Gs ?_
        show nb_W 210 8 [(20, 603), (0, l1), (0, l2)] [(0, (-1))] (nb_wr (nb_wr (nb_wr M 603 0 0) 603 11 0) 603 11 1) _
        refine nb_Wg (q_m_wants_8 _ _ _ _ _) ?_
        refine nb_Gs ?_
        exact nb_Hu H W15
      · have H := nb_Hw ((nb_Hu H).2 (by omega))
        have c39 : l1 ≤ M.1 606 5 - 1 := by omega
        refine nb_Gr ?_
        refine nb_Wg (q_m_within_2 _ _ _ _) ?_
        refine nb_Gr ?_
        have E16 : nb_i2z 1 = 1 := by decide
        refine nb_Wg (q_m_within_4 _ _ _ _ _) ?_
        simp only [E16]
        clear E16
        refine nb_Gs ?_
        show nb_W 116 2 [(20, 603), (0, l1)] [(0, 1)] (nb_wr (nb_wr M 603 0 0) 603 11 0) _
        refine nb_Wg (q_m_isPerson_2 _ _ _ _) ?_
        refine nb_Gf (by decide) ?_
        refine nb_Gr ?_
        refine nb_Wg (q_m_isPerson_3 _ _ _) ?_
        refine nb_Gr ?_
        have E17 : nb_i2z 1 = 1 := by decide
        refine nb_Wg (q_m_isPerson_5 _ _ _ _) ?_
        simp only [E17]
        clear E17
        refine nb_Gs ?_
        show nb_W 210 2 [(20, 603), (0, l1), (0, l2)] [(0, 1)] (nb_wr (nb_wr M 603 0 0) 603 11 0) _
        refine nb_Wg (q_m_wants_2 _ _ _ _ _) ?_
        refine nb_Gf (by decide) ?_
        refine nb_Gr ?_
        refine nb_Wg (q_m_wants_3 _ _ _ _ (by omega)) ?_
        refine nb_Gb ?_
        have E18 : nb_rd (nb_wr (nb_wr M 603 0 0) 603 11 0) 603 14 = M.1 603 14 := nb_rdw (Or.inr (by decide)) (nb_rdw (Or.inr (by decide)) (nb_rd_1 _ _ _))
        refine nb_Wg (q_m_isDrink_0 _ _ _ (by omega)) ?_
        simp only [E18]
        clear E18
        refine nb_Gf (by omega) ?_
        refine nb_Gr ?_
        obtain ⟨p0_, p1_, H⟩ := H
        replace H := nb_Hw H
        have E19 : nb_rd (nb_wr (nb_wr M 603 0 0) 603 11 0) 603 15 = 606 := W2.m15
        have N20 : nb_ln (nb_wr (nb_wr M 603 0 0) 603 11 0) 606 = 347 := W2.lk (by decide) (by decide +kernel)
        have E21 : nb_rd (nb_wr (nb_wr M 603 0 0) 603 11 0) 606 3 = M.1 606 3 := nb_rdw (Or.inl (by decide)) (nb_rdw (Or.inl (by decide)) (nb_rd_1 _ _ _))
        have E22 : nb_sub (M.1 606 3) 1 = M.1 606 3 - 1 := nb_sub_eq (by omega) (by omega)
        refine nb_Wg (q_m_isDrink_1 _ _ _ (by omega) (by rw [E19]; first | done | omega) (by omega) (by rw [E19, N20]; first | done | omega)) ?_
        simp only [E19, E21, E22]
        clear E19 N20 E21 E22
        refine nb_Gb ?_
        refine nb_Wg (q_m_within_0 _ _ _ _) ?_
        refine nb_Gi (fun c38 => ?_) (fun c38 => ?_)
        · have H := nb_Hw ((nb_Hu H).1 c38)
          refine nb_Gr ?_
          refine nb_Wg (q_m_within_3 _ _ _ _) ?_
          refine nb_Gr ?_
          have E23 : nb_i2z 0 = 0 := by decide
          refine nb_Wg (q_m_within_4 _ _ _ _ _) ?_
          simp only [E23]
          clear E23
          refine nb_Gs ?_
          show nb_W 119 2 [(20, 603), (0, l2)] [(0, 0)] (nb_wr (nb_wr M 603 0 0) 603 11 0) _
          refine nb_Wg (q_m_isDrink_2 _ _ _ _) ?_
          refine nb_Gt (by decide) ?_
          refine nb_Gr ?_
          refine nb_Wg (q_m_isDrink_4 _ _ _) ?_
          refine nb_Gr ?_
          have E24 : nb_i2z 0 = 0 := by decide
          refine nb_Wg (q_m_isDrink_5 _ _ _ _) ?_
          simp only [E24]
          clear E24
          refine nb_Gs ?_
          show nb_W 210 4 [(20, 603), (0, l1), (0, l2)] [(0, 0)] (nb_wr (nb_wr M 603 0 0) 603 11 0) _
          refine nb_Wg (q_m_wants_4 _ _ _ _ _) ?_
          refine nb_Gt (by decide) ?_
          refine nb_Gr ?_
          refine nb_Wg (q_m_wants_7 _ _ _ _ (by omega)) ?_
          refine nb_Gb ?_
          refine nb_Wg (q_m_no_0 _ _ _ (by omega)) ?_
          have W25 : nb_Lay (nb_wr (nb_wr (nb_wr M 603 0 0) 603 11 0) 603 11 1) := W2.wr (fun w => (nb_nlit (by decide) (by decide)))
          refine nb_Gr ?_
          refine nb_Wg (q_m_no_1 _ _ _) ?_
          refine nb_Gs ?_
          show nb_W 210 8 [(20, 603), (0, l1), (0, l2)] [(0, (-1))] (nb_wr (nb_wr (nb_wr M 603 0 0) 603 11 0) 603 11 1) _
          refine nb_Wg (q_m_wants_8 _ _ _ _ _) ?_
          refine nb_Gs ?_
          exact nb_Hu H W25
        · have H := nb_Hw ((nb_Hu H).2 (by omega))
          have c38 : 0 ≤ l2 := by omega
          refine nb_Gr ?_
          refine nb_Wg (q_m_within_1 _ _ _ _) ?_
          refine nb_Gi (fun c37 => ?_) (fun c37 => ?_)
          · have H := nb_Hw ((nb_Hu H).1 c37)
            refine nb_Gr ?_
            refine nb_Wg (q_m_within_3 _ _ _ _) ?_
            refine nb_Gr ?_
            have E26 : nb_i2z 0 = 0 := by decide
            refine nb_Wg (q_m_within_4 _ _ _ _ _) ?_
            simp only [E26]
            clear E26
            refine nb_Gs ?_
            show nb_W 119 2 [(20, 603), (0, l2)] [(0, 0)] (nb_wr (nb_wr M 603 0 0) 603 11 0) _
            refine nb_Wg (q_m_isDrink_2 _ _ _ _) ?_
            refine nb_Gt (by decide) ?_
            refine nb_Gr ?_
            refine nb_Wg (q_m_isDrink_4 _ _ _) ?_
            refine nb_Gr ?_
            have E27 : nb_i2z 0 = 0 := by decide
            refine nb_Wg (q_m_isDrink_5 _ _ _ _) ?_
            simp only [E27]
            clear E27
            refine nb_Gs ?_
            show nb_W 210 4 [(20, 603), (0, l1), (0, l2)] [(0, 0)] (nb_wr (nb_wr M 603 0 0) 603 11 0) _
            refine nb_Wg (q_m_wants_4 _ _ _ _ _) ?_
            refine nb_Gt (by decide) ?_
            refine nb_Gr ?_
            refine nb_Wg (q_m_wants_7 _ _ _ _ (by omega)) ?_
            refine nb_Gb ?_
            refine nb_Wg (q_m_no_0 _ _ _ (by omega)) ?_
            have W28 : nb_Lay (nb_wr (nb_wr (nb_wr M 603 0 0) 603 11 0) 603 11 1) := W2.wr (fun w => (nb_nlit (by decide) (by decide)))
            refine nb_Gr ?_
            refine nb_Wg (q_m_no_1 _ _ _) ?_
            refine nb_Gs ?_
            show nb_W 210 8 [(20, 603), (0, l1), (0, l2)] [(0, (-1))] (nb_wr (nb_wr (nb_wr M 603 0 0) 603 11 0) 603 11 1) _
            refine nb_Wg (q_m_wants_8 _ _ _ _ _) ?_
            refine nb_Gs ?_
            exact nb_Hu H W28
          · have H := nb_Hw ((nb_Hu H).2 (by omega))
            have c37 : l2 ≤ M.1 606 3 - 1 := by omega
            refine nb_Gr ?_
            refine nb_Wg (q_m_within_2 _ _ _ _) ?_
            refine nb_Gr ?_
            have E29 : nb_i2z 1 = 1 := by decide
            refine nb_Wg (q_m_within_4 _ _ _ _ _) ?_
            simp only [E29]
            clear E29
            refine nb_Gs ?_
            show nb_W 119 2 [(20, 603), (0, l2)] [(0, 1)] (nb_wr (nb_wr M 603 0 0) 603 11 0) _
            refine nb_Wg (q_m_isDrink_2 _ _ _ _) ?_
            refine nb_Gf (by decide) ?_
            refine nb_Gr ?_
            refine nb_Wg (q_m_isDrink_3 _ _ _) ?_
            refine nb_Gr ?_
            have E30 : nb_i2z 1 = 1 := by decide
            refine nb_Wg (q_m_isDrink_5 _ _ _ _) ?_
            simp only [E30]
            clear E30
            refine nb_Gs ?_
            show nb_W 210 4 [(20, 603), (0, l1), (0, l2)] [(0, 1)] (nb_wr (nb_wr M 603 0 0) 603 11 0) _
            refine nb_Wg (q_m_wants_4 _ _ _ _ _) ?_
            refine nb_Gf (by decide) ?_
            refine nb_Gr ?_
            refine nb_Wg (q_m_wants_5 _ _ _ _ (by omega)) ?_
            refine nb_Gb ?_
            have E31 : nb_rd (nb_wr (nb_wr M 603 0 0) 603 11 0) 603 15 = 606 := W2.m15
            have E32 : nb_mul 5 l1 = 5 * l1 := nb_mul_eq (by omega) (by omega)
            have E33 : nb_add 111 (5 * l1) = 111 + 5 * l1 := (nb_add_eq (x := 111) (y := 5 * l1) (by omega) (by omega)).trans (by omega)
            have E34 : nb_add (111 + 5 * l1) l2 = 111 + 5 * l1 + l2 := nb_add_eq (by omega) (by omega)
            have N35 : nb_ln (nb_wr (nb_wr M 603 0 0) 603 11 0) 606 = 347 := W2.lk (by decide) (by decide +kernel)
            have E36 : nb_rd (nb_wr (nb_wr M 603 0 0) 603 11 0) 606 (111 + 5 * l1 + l2) = M.1 606 (111 + 5 * l1 + l2) := nb_rdw (Or.inl (by decide)) (nb_rdw (Or.inl (by decide)) (nb_rd_1 _ _ _))
            refine nb_Wg (q_m_wantsOf_0 _ _ _ _ (by omega) (by rw [E31]; first | done | omega) (by rw [E32, E33, E34]; first | done | omega) (by rw [E32, E33, E34, E31, N35]; first | done | omega)) ?_
            simp only [E31, E32, E33, E34, E36]
            clear E31 E32 E33 E34 N35 E36
            refine nb_Gs ?_
            show nb_W 210 6 [(20, 603), (0, l1), (0, l2)] [(0, M.1 606 (111 + 5 * l1 + l2))] (nb_wr (nb_wr M 603 0 0) 603 11 0) _
            refine nb_Wg (q_m_wants_6 _ _ _ _ _) ?_
            refine nb_Gr ?_
            refine nb_Wg (q_m_wants_8 _ _ _ _ _) ?_
            refine nb_Gs ?_
            exact nb_Hu H W2

theorem w_m_size_0 {l1 : Int} {M : nb_M} {Q : List nb_V → nb_M → Prop} (W : nb_Lay M) (H : (l1 = 10 → (nb_Lay (nb_wr M 603 0 0) → Q [(0, M.1 603 2)] (nb_wr M 603 0 0))) ∧ (l1 ≠ 10 → 0 ≤ M.1 603 14 ∧ M.1 603 14 ≤ 1 ∧ (M.1 603 14 = 0 → (l1 < 0 → (nb_Lay (nb_wr M 603 0 0) → Q [(0, (-1))] (nb_wr M 603 0 0))) ∧ (0 ≤ l1 → (9 < l1 → (nb_Lay (nb_wr M 603 0 0) → Q [(0, (-1))] (nb_wr M 603 0 0))) ∧ (l1 ≤ 9 → (nb_Lay (nb_wr M 603 0 0) → Q [(0, 0)] (nb_wr M 603 0 0))))) ∧ (M.1 603 14 ≠ 0 → (l1 = 0 → 0 ≤ M.1 606 1 ∧ M.1 606 1 ≤ 20 ∧ (nb_Lay (nb_wr M 603 0 0) → Q [(0, M.1 606 1)] (nb_wr M 603 0 0))) ∧ (l1 = 1 → (nb_Lay (nb_wr M 603 0 0) → Q [(0, M.1 606 2)] (nb_wr M 603 0 0))) ∧ (l1 = 2 → 0 ≤ M.1 606 3 ∧ M.1 606 3 ≤ 5 ∧ (nb_Lay (nb_wr M 603 0 0) → Q [(0, M.1 606 3)] (nb_wr M 603 0 0))) ∧ (l1 = 3 → 0 ≤ M.1 606 4 ∧ M.1 606 4 ≤ 3 ∧ (nb_Lay (nb_wr M 603 0 0) → Q [(0, M.1 606 4)] (nb_wr M 603 0 0))) ∧ (l1 = 4 → 0 ≤ M.1 606 5 ∧ M.1 606 5 ≤ 10 ∧ (nb_Lay (nb_wr M 603 0 0) → Q [(0, M.1 606 5)] (nb_wr M 603 0 0))) ∧ (l1 = 5 → (nb_Lay (nb_wr M 603 0 0) → Q [(0, M.1 606 6)] (nb_wr M 603 0 0))) ∧ (l1 = 6 → (nb_Lay (nb_wr M 603 0 0) → Q [(0, M.1 606 7)] (nb_wr M 603 0 0))) ∧ (l1 = 7 → (nb_Lay (nb_wr M 603 0 0) → Q [(0, M.1 608 0)] (nb_wr M 603 0 0))) ∧ (l1 = 8 → (nb_Lay (nb_wr M 603 0 0) → Q [(0, M.1 603 21)] (nb_wr M 603 0 0))) ∧ (l1 = 9 → (nb_Lay (nb_wr M 603 0 0) → Q [(0, M.1 603 22)] (nb_wr M 603 0 0))) ∧ (l1 ≠ 0 → l1 ≠ 1 → l1 ≠ 2 → l1 ≠ 3 → l1 ≠ 4 → l1 ≠ 5 → l1 ≠ 6 → l1 ≠ 7 → l1 ≠ 8 → l1 ≠ 9 → (nb_Lay (nb_wr M 603 0 0) → Q [(0, (-1))] (nb_wr M 603 0 0)))))) :
    nb_W 212 0 [(20, 603), (0, l1)] [] M Q := by
  replace H := nb_Hw H
  refine nb_Wg (q_m_size_0 _ _ _ (by omega)) ?_
  have W1 : nb_Lay (nb_wr M 603 0 0) := W.wr (fun w => (nb_nlit (by decide) (by decide)))
  refine nb_Gr ?_
  refine nb_Wg (q_m_size_1 _ _ _) ?_
  refine nb_Gi (fun c46 => ?_) (fun c46 => ?_)
  · have H := nb_Hw ((nb_Hu H).1 c46)
    refine nb_Gr ?_
    have E2 : nb_rd (nb_wr M 603 0 0) 603 2 = M.1 603 2 := nb_rdw (Or.inr (by decide)) (nb_rd_1 _ _ _)
    refine nb_Wg (q_m_size_2 _ _ _ (by omega)) ?_
    simp only [E2]
    clear E2
    refine nb_Gs ?_
    exact nb_Hu H W1
  · have H := nb_Hw ((nb_Hu H).2 (by omega))
    have c46 : l1 ≠ 10 := by omega
    refine nb_Gr ?_
    obtain ⟨p0_, p1_, H⟩ := H
    replace H := nb_Hw H
    have E3 : nb_rd (nb_wr M 603 0 0) 603 14 = M.1 603 14 := nb_rdw (Or.inr (by decide)) (nb_rd_1 _ _ _)
    refine nb_Wg (q_m_size_3 _ _ _ (by omega)) ?_
    simp only [E3]
    clear E3
    refine nb_Gi (fun c45 => ?_) (fun c45 => ?_)
    · have H := nb_Hw ((nb_Hu H).1 c45)
      refine nb_Gr ?_
      refine nb_Wg (q_m_size_4 _ _ _) ?_
      refine nb_Gb ?_
      refine nb_Wg (q_m_within_0 _ _ _ _) ?_
      refine nb_Gi (fun c8 => ?_) (fun c8 => ?_)
      · have H := nb_Hw ((nb_Hu H).1 c8)
        refine nb_Gr ?_
        refine nb_Wg (q_m_within_3 _ _ _ _) ?_
        refine nb_Gr ?_
        have E4 : nb_i2z 0 = 0 := by decide
        refine nb_Wg (q_m_within_4 _ _ _ _ _) ?_
        simp only [E4]
        clear E4
        refine nb_Gs ?_
        show nb_W 212 5 [(20, 603), (0, l1)] [(0, 0)] (nb_wr M 603 0 0) _
        refine nb_Wg (q_m_size_5 _ _ _ _) ?_
        refine nb_Gt (by decide) ?_
        refine nb_Gr ?_
        refine nb_Wg (q_m_size_7 _ _ _) ?_
        refine nb_Gr ?_
        refine nb_Wg (q_m_size_8 _ _ _ _) ?_
        refine nb_Gs ?_
        exact nb_Hu H W1
      · have H := nb_Hw ((nb_Hu H).2 (by omega))
        have c8 : 0 ≤ l1 := by omega
        refine nb_Gr ?_
        refine nb_Wg (q_m_within_1 _ _ _ _) ?_
        refine nb_Gi (fun c7 => ?_) (fun c7 => ?_)
        · have H := nb_Hw ((nb_Hu H).1 c7)
          refine nb_Gr ?_
          refine nb_Wg (q_m_within_3 _ _ _ _) ?_
          refine nb_Gr ?_
          have E5 : nb_i2z 0 = 0 := by decide
          refine nb_Wg (q_m_within_4 _ _ _ _ _) ?_
          simp only [E5]
          clear E5
          refine nb_Gs ?_
          show nb_W 212 5 [(20, 603), (0, l1)] [(0, 0)] (nb_wr M 603 0 0) _
          refine nb_Wg (q_m_size_5 _ _ _ _) ?_
          refine nb_Gt (by decide) ?_
          refine nb_Gr ?_
          refine nb_Wg (q_m_size_7 _ _ _) ?_
          refine nb_Gr ?_
          refine nb_Wg (q_m_size_8 _ _ _ _) ?_
          refine nb_Gs ?_
          exact nb_Hu H W1
        · have H := nb_Hw ((nb_Hu H).2 (by omega))
          have c7 : l1 ≤ 9 := by omega
          refine nb_Gr ?_
          refine nb_Wg (q_m_within_2 _ _ _ _) ?_
          refine nb_Gr ?_
          have E6 : nb_i2z 1 = 1 := by decide
          refine nb_Wg (q_m_within_4 _ _ _ _ _) ?_
          simp only [E6]
          clear E6
          refine nb_Gs ?_
          show nb_W 212 5 [(20, 603), (0, l1)] [(0, 1)] (nb_wr M 603 0 0) _
          refine nb_Wg (q_m_size_5 _ _ _ _) ?_
          refine nb_Gf (by decide) ?_
          refine nb_Gr ?_
          refine nb_Wg (q_m_size_6 _ _ _) ?_
          refine nb_Gr ?_
          refine nb_Wg (q_m_size_8 _ _ _ _) ?_
          refine nb_Gs ?_
          exact nb_Hu H W1
    · have H := nb_Hw ((nb_Hu H).2 (by omega))
      have c45 : M.1 603 14 ≠ 0 := by omega
      refine nb_Gr ?_
      refine nb_Wg (q_m_size_9 _ _ _) ?_
      refine nb_Gi (fun c12 => ?_) (fun c12 => ?_)
      · have H := nb_Hw ((nb_Hu H).1 c12)
        refine nb_Gr ?_
        obtain ⟨p0_, p1_, H⟩ := H
        replace H := nb_Hw H
        have E9 : nb_rd (nb_wr M 603 0 0) 603 15 = 606 := W1.m15
        have N10 : nb_ln (nb_wr M 603 0 0) 606 = 347 := W1.lk (by decide) (by decide +kernel)
        have E11 : nb_rd (nb_wr M 603 0 0) 606 1 = M.1 606 1 := nb_rdw (Or.inl (by decide)) (nb_rd_1 _ _ _)
        refine nb_Wg (q_m_size_10 _ _ _ (by omega) (by rw [E9]; first | done | omega) (by omega) (by rw [E9, N10]; first | done | omega)) ?_
        simp only [E9, E11]
        clear E9 N10 E11
        refine nb_Gs ?_
        exact nb_Hu H W1
      refine nb_Gi (fun c16 => ?_) (fun c16 => ?_)
      · have H := nb_Hw ((nb_Hu H).2.1 c16)
        refine nb_Gr ?_
        have E13 : nb_rd (nb_wr M 603 0 0) 603 15 = 606 := W1.m15
        have N14 : nb_ln (nb_wr M 603 0 0) 606 = 347 := W1.lk (by decide) (by decide +kernel)
        have E15 : nb_rd (nb_wr M 603 0 0) 606 2 = M.1 606 2 := nb_rdw (Or.inl (by decide)) (nb_rd_1 _ _ _)
        refine nb_Wg (q_m_size_11 _ _ _ (by omega) (by rw [E13]; first | done | omega) (by omega) (by rw [E13, N14]; first | done | omega)) ?_
        simp only [E13, E15]
        clear E13 N14 E15
        refine nb_Gs ?_
        exact nb_Hu H W1
      refine nb_Gi (fun c20 => ?_) (fun c20 => ?_)
      · have H := nb_Hw ((nb_Hu H).2.2.1 c20)
        refine nb_Gr ?_
        obtain ⟨p0_, p1_, H⟩ := H
        replace H := nb_Hw H
        have E17 : nb_rd (nb_wr M 603 0 0) 603 15 = 606 := W1.m15
        have N18 : nb_ln (nb_wr M 603 0 0) 606 = 347 := W1.lk (by decide) (by decide +kernel)
        have E19 : nb_rd (nb_wr M 603 0 0) 606 3 = M.1 606 3 := nb_rdw (Or.inl (by decide)) (nb_rd_1 _ _ _)
        refine nb_Wg (q_m_size_12 _ _ _ (by omega) (by rw [E17]; first | done | omega) (by omega) (by rw [E17, N18]; first | done | omega)) ?_
        simp only [E17, E19]
        clear E17 N18 E19
        refine nb_Gs ?_
        exact nb_Hu H W1
      refine nb_Gi (fun c24 => ?_) (fun c24 => ?_)
      · have H := nb_Hw ((nb_Hu H).2.2.2.1 c24)
        refine nb_Gr ?_
        obtain ⟨p0_, p1_, H⟩ := H
        replace H := nb_Hw H
        have E21 : nb_rd (nb_wr M 603 0 0) 603 15 = 606 := W1.m15
        have N22 : nb_ln (nb_wr M 603 0 0) 606 = 347 := W1.lk (by decide) (by decide +kernel)
        have E23 : nb_rd (nb_wr M 603 0 0) 606 4 = M.1 606 4 := nb_rdw (Or.inl (by decide)) (nb_rd_1 _ _ _)
        refine nb_Wg (q_m_size_13 _ _ _ (by omega) (by rw [E21]; first | done | omega) (by omega) (by rw [E21, N22]; first | done | omega)) ?_
        simp only [E21, E23]
        clear E21 N22 E23
        refine nb_Gs ?_
        exact nb_Hu H W1
      refine nb_Gi (fun c28 => ?_) (fun c28 => ?_)
      · have H := nb_Hw ((nb_Hu H).2.2.2.2.1 c28)
        refine nb_Gr ?_
        obtain ⟨p0_, p1_, H⟩ := H
        replace H := nb_Hw H
        have E25 : nb_rd (nb_wr M 603 0 0) 603 15 = 606 := W1.m15
        have N26 : nb_ln (nb_wr M 603 0 0) 606 = 347 := W1.lk (by decide) (by decide +kernel)
        have E27 : nb_rd (nb_wr M 603 0 0) 606 5 = M.1 606 5 := nb_rdw (Or.inl (by decide)) (nb_rd_1 _ _ _)
        refine nb_Wg (q_m_size_14 _ _ _ (by omega) (by rw [E25]; first | done | omega) (by omega) (by rw [E25, N26]; first | done | omega)) ?_
        simp only [E25, E27]
        clear E25 N26 E27
        refine nb_Gs ?_
        exact nb_Hu H W1
      refine nb_Gi (fun c32 => ?_) (fun c32 => ?_)
      · have H := nb_Hw ((nb_Hu H).2.2.2.2.2.1 c32)
        refine nb_Gr ?_
        have E29 : nb_rd (nb_wr M 603 0 0) 603 15 = 606 := W1.m15
        have N30 : nb_ln (nb_wr M 603 0 0) 606 = 347 := W1.lk (by decide) (by decide +kernel)
        have E31 : nb_rd (nb_wr M 603 0 0) 606 6 = M.1 606 6 := nb_rdw (Or.inl (by decide)) (nb_rd_1 _ _ _)
        refine nb_Wg (q_m_size_15 _ _ _ (by omega) (by rw [E29]; first | done | omega) (by omega) (by rw [E29, N30]; first | done | omega)) ?_
        simp only [E29, E31]
        clear E29 N30 E31
        refine nb_Gs ?_
        exact nb_Hu H W1
      refine nb_Gi (fun c36 => ?_) (fun c36 => ?_)
      · have H := nb_Hw ((nb_Hu H).2.2.2.2.2.2.1 c36)
        refine nb_Gr ?_
        have E33 : nb_rd (nb_wr M 603 0 0) 603 15 = 606 := W1.m15
        have N34 : nb_ln (nb_wr M 603 0 0) 606 = 347 := W1.lk (by decide) (by decide +kernel)
        have E35 : nb_rd (nb_wr M 603 0 0) 606 7 = M.1 606 7 := nb_rdw (Or.inl (by decide)) (nb_rd_1 _ _ _)
        refine nb_Wg (q_m_size_16 _ _ _ (by omega) (by rw [E33]; first | done | omega) (by omega) (by rw [E33, N34]; first | done | omega)) ?_
        simp only [E33, E35]
        clear E33 N34 E35
        refine nb_Gs ?_
        exact nb_Hu H W1
      refine nb_Gi (fun c40 => ?_) (fun c40 => ?_)
      · have H := nb_Hw ((nb_Hu H).2.2.2.2.2.2.2.1 c40)
        refine nb_Gr ?_
        have E37 : nb_rd (nb_wr M 603 0 0) 603 17 = 608 := W1.m17
        have N38 : nb_ln (nb_wr M 603 0 0) 608 = 108 := W1.lk (by decide) (by decide +kernel)
        have E39 : nb_rd (nb_wr M 603 0 0) 608 0 = M.1 608 0 := nb_rdw (Or.inl (by decide)) (nb_rd_1 _ _ _)
        refine nb_Wg (q_m_size_17 _ _ _ (by omega) (by rw [E37]; first | done | omega) (by omega) (by rw [E37, N38]; first | done | omega)) ?_
        simp only [E37, E39]
        clear E37 N38 E39
        refine nb_Gs ?_
        exact nb_Hu H W1
      refine nb_Gi (fun c42 => ?_) (fun c42 => ?_)
      · have H := nb_Hw ((nb_Hu H).2.2.2.2.2.2.2.2.1 c42)
        refine nb_Gr ?_
        have E41 : nb_rd (nb_wr M 603 0 0) 603 21 = M.1 603 21 := nb_rdw (Or.inr (by decide)) (nb_rd_1 _ _ _)
        refine nb_Wg (q_m_size_18 _ _ _ (by omega)) ?_
        simp only [E41]
        clear E41
        refine nb_Gs ?_
        exact nb_Hu H W1
      refine nb_Gi (fun c44 => ?_) (fun c44 => ?_)
      · have H := nb_Hw ((nb_Hu H).2.2.2.2.2.2.2.2.2.1 c44)
        refine nb_Gr ?_
        have E43 : nb_rd (nb_wr M 603 0 0) 603 22 = M.1 603 22 := nb_rdw (Or.inr (by decide)) (nb_rd_1 _ _ _)
        refine nb_Wg (q_m_size_19 _ _ _ (by omega)) ?_
        simp only [E43]
        clear E43
        refine nb_Gs ?_
        exact nb_Hu H W1
      have H := nb_Hw ((nb_Hu H).2.2.2.2.2.2.2.2.2.2 (by omega) (by omega) (by omega) (by omega) (by omega) (by omega) (by omega) (by omega) (by omega) (by omega))
      refine nb_Gr ?_
      refine nb_Wg (q_m_size_20 _ _ _) ?_
      refine nb_Gs ?_
      exact nb_Hu H W1

theorem w_m_trouble_0 {M : nb_M} {Q : List nb_V → nb_M → Prop} (W : nb_Lay M) (H : (nb_Lay (nb_wr M 603 0 0) → Q [(0, M.1 603 11)] (nb_wr M 603 0 0))) :
    nb_W 213 0 [(20, 603)] [] M Q := by
  replace H := nb_Hw H
  refine nb_Wg (q_m_trouble_0 _ _ (by omega)) ?_
  have W1 : nb_Lay (nb_wr M 603 0 0) := W.wr (fun w => (nb_nlit (by decide) (by decide)))
  refine nb_Gr ?_
  have E2 : nb_rd (nb_wr M 603 0 0) 603 11 = M.1 603 11 := nb_rdw (Or.inr (by decide)) (nb_rd_1 _ _ _)
  refine nb_Wg (q_m_trouble_1 _ _ (by omega)) ?_
  simp only [E2]
  clear E2
  refine nb_Gs ?_
  exact nb_Hu H W1

theorem w_m_fault_0 {M : nb_M} {Q : List nb_V → nb_M → Prop} (W : nb_Lay M) (H : (nb_Lay (nb_wr M 603 0 0) → Q [(0, M.1 603 9)] (nb_wr M 603 0 0))) :
    nb_W 114 0 [(20, 603)] [] M Q := by
  replace H := nb_Hw H
  refine nb_Wg (q_m_fault_0 _ _ (by omega)) ?_
  have W1 : nb_Lay (nb_wr M 603 0 0) := W.wr (fun w => (nb_nlit (by decide) (by decide)))
  refine nb_Gr ?_
  have E2 : nb_rd (nb_wr M 603 0 0) 603 9 = M.1 603 9 := nb_rdw (Or.inr (by decide)) (nb_rd_1 _ _ _)
  refine nb_Wg (q_m_fault_1 _ _ (by omega)) ?_
  simp only [E2]
  clear E2
  refine nb_Gs ?_
  exact nb_Hu H W1

theorem w_m_where_0 {M : nb_M} {Q : List nb_V → nb_M → Prop} (W : nb_Lay M) (H : (M.1 603 11 = 4 → (nb_Lay (nb_wr M 603 0 0) → Q [(0, M.1 603 10)] (nb_wr M 603 0 0))) ∧ (M.1 603 11 ≠ 4 → (nb_Lay (nb_wr M 603 0 0) → Q [(0, (-1))] (nb_wr M 603 0 0)))) :
    nb_W 115 0 [(20, 603)] [] M Q := by
  replace H := nb_Hw H
  refine nb_Wg (q_m_where_0 _ _ (by omega)) ?_
  have W1 : nb_Lay (nb_wr M 603 0 0) := W.wr (fun w => (nb_nlit (by decide) (by decide)))
  refine nb_Gr ?_
  have E2 : nb_rd (nb_wr M 603 0 0) 603 11 = M.1 603 11 := nb_rdw (Or.inr (by decide)) (nb_rd_1 _ _ _)
  refine nb_Wg (q_m_where_1 _ _ (by omega)) ?_
  simp only [E2]
  clear E2
  refine nb_Gi (fun c4 => ?_) (fun c4 => ?_)
  · have H := nb_Hw ((nb_Hu H).1 c4)
    refine nb_Gr ?_
    have E3 : nb_rd (nb_wr M 603 0 0) 603 10 = M.1 603 10 := nb_rdw (Or.inr (by decide)) (nb_rd_1 _ _ _)
    refine nb_Wg (q_m_where_2 _ _ (by omega)) ?_
    simp only [E3]
    clear E3
    refine nb_Gr ?_
    refine nb_Wg (q_m_where_4 _ _ _) ?_
    refine nb_Gs ?_
    exact nb_Hu H W1
  · have H := nb_Hw ((nb_Hu H).2 (by omega))
    have c4 : M.1 603 11 ≠ 4 := by omega
    refine nb_Gr ?_
    refine nb_Wg (q_m_where_3 _ _) ?_
    refine nb_Gr ?_
    refine nb_Wg (q_m_where_4 _ _ _) ?_
    refine nb_Gs ?_
    exact nb_Hu H W1
