/-! rules, printed by wip/gen -/
theorem w_m_elbows_0 {l1 : Int} {v2 v3 : nb_V} {M : nb_M} {Q : List nb_V → nb_M → Prop} (W : nb_Lay M) (H : 0 ≤ M.1 603 14 ∧ M.1 603 14 ≤ 1 ∧ (M.1 603 14 = 0 → (nb_Lay (nb_wr (nb_wr (nb_wr M 603 0 0) 603 11 0) 603 11 1) → Q [(0, (-1))] (nb_wr (nb_wr (nb_wr M 603 0 0) 603 11 0) 603 11 1))) ∧ (M.1 603 14 ≠ 0 → 0 ≤ M.1 606 1 ∧ M.1 606 1 ≤ 20 ∧ (l1 < 0 → (nb_Lay (nb_wr (nb_wr (nb_wr M 603 0 0) 603 11 0) 603 11 1) → Q [(0, (-1))] (nb_wr (nb_wr (nb_wr M 603 0 0) 603 11 0) 603 11 1))) ∧ (0 ≤ l1 → (M.1 606 1 - 1 < l1 → (nb_Lay (nb_wr (nb_wr (nb_wr M 603 0 0) 603 11 0) 603 11 1) → Q [(0, (-1))] (nb_wr (nb_wr (nb_wr M 603 0 0) 603 11 0) 603 11 1))) ∧ (l1 ≤ M.1 606 1 - 1 → nb_W 144 6 [(20, 603), (0, l1), (0, 0), (0, 0)] [] (nb_wr (nb_wr M 603 0 0) 603 11 0) Q)))) :
    nb_W 144 0 [(20, 603), (0, l1), v2, v3] [] M Q := by
  replace H := nb_Hw H
  refine nb_Wg (q_m_elbows_0 _ _ _ _ _ (by omega)) ?_
  refine nb_Gb ?_
  refine nb_Wg (q_m_good_0 _ _ (by omega)) ?_
  have W1 : nb_Lay (nb_wr M 603 0 0) := W.wr (fun w => (nb_nlit (by decide) (by decide)))
  refine nb_Gr ?_
  refine nb_Wg (q_m_good_1 _ _ (by omega)) ?_
  have W2 : nb_Lay (nb_wr (nb_wr M 603 0 0) 603 11 0) := W1.wr (fun w => (nb_nlit (by decide) (by decide)))
  refine nb_Gr ?_
  refine nb_Wg (q_m_good_2 _ _) ?_
  refine nb_Gs ?_
  show nb_W 144 1 [(20, 603), (0, l1), v2, v3] [] (nb_wr (nb_wr M 603 0 0) 603 11 0) _
  refine nb_Wg (q_m_elbows_1 _ _ _ _ _ (by omega)) ?_
  refine nb_Gb ?_
  obtain ⟨p0_, p1_, H⟩ := H
  replace H := nb_Hw H
  have E3 : nb_rd (nb_wr (nb_wr M 603 0 0) 603 11 0) 603 14 = M.1 603 14 := nb_rdw (Or.inr (by decide)) (nb_rdw (Or.inr (by decide)) (nb_rd_1 _ _ _))
  refine nb_Wg (q_m_isSpot_0 _ _ _ (by omega)) ?_
  simp only [E3]
  clear E3
  refine nb_Gi (fun c20 => ?_) (fun c20 => ?_)
  · have H := nb_Hw ((nb_Hu H).1 c20)
    refine nb_Gr ?_
    refine nb_Wg (q_m_isSpot_4 _ _ _) ?_
    refine nb_Gr ?_
    have E4 : nb_i2z 0 = 0 := by decide
    refine nb_Wg (q_m_isSpot_5 _ _ _ _) ?_
    simp only [E4]
    clear E4
    refine nb_Gs ?_
    show nb_W 144 2 [(20, 603), (0, l1), v2, v3] [(0, 0)] (nb_wr (nb_wr M 603 0 0) 603 11 0) _
    refine nb_Wg (q_m_elbows_2 _ _ _ _ _ _) ?_
    refine nb_Gt (by decide) ?_
    refine nb_Gr ?_
    refine nb_Wg (q_m_elbows_3 _ _ _ _ _ (by omega)) ?_
    refine nb_Gb ?_
    refine nb_Wg (q_m_no_0 _ _ _ (by omega)) ?_
    have W5 : nb_Lay (nb_wr (nb_wr (nb_wr M 603 0 0) 603 11 0) 603 11 1) := W2.wr (fun w => (nb_nlit (by decide) (by decide)))
    refine nb_Gr ?_
    refine nb_Wg (q_m_no_1 _ _ _) ?_
    refine nb_Gs ?_
    show nb_W 144 4 [(20, 603), (0, l1), v2, v3] [(0, (-1))] (nb_wr (nb_wr (nb_wr M 603 0 0) 603 11 0) 603 11 1) _
    refine nb_Wg (q_m_elbows_4 _ _ _ _ _ _) ?_
    refine nb_Gs ?_
    exact nb_Hu H W5
  · have H := nb_Hw ((nb_Hu H).2 (by omega))
    have c20 : M.1 603 14 ≠ 0 := by omega
    refine nb_Gr ?_
    obtain ⟨p0_, p1_, H⟩ := H
    replace H := nb_Hw H
    have E6 : nb_rd (nb_wr (nb_wr M 603 0 0) 603 11 0) 603 15 = 606 := W2.m15
    have N7 : nb_ln (nb_wr (nb_wr M 603 0 0) 603 11 0) 606 = 347 := W2.lk (by decide) (by decide +kernel)
    have E8 : nb_rd (nb_wr (nb_wr M 603 0 0) 603 11 0) 606 1 = M.1 606 1 := nb_rdw (Or.inl (by decide)) (nb_rdw (Or.inl (by decide)) (nb_rd_1 _ _ _))
    have E9 : nb_sub (M.1 606 1) 1 = M.1 606 1 - 1 := nb_sub_eq (by omega) (by omega)
    refine nb_Wg (q_m_isSpot_1 _ _ _ (by omega) (by rw [E6]; first | done | omega) (by omega) (by rw [E6, N7]; first | done | omega)) ?_
    simp only [E6, E8, E9]
    clear E6 N7 E8 E9
    refine nb_Gb ?_
    refine nb_Wg (q_m_within_0 _ _ _ _) ?_
    refine nb_Gi (fun c19 => ?_) (fun c19 => ?_)
    · have H := nb_Hw ((nb_Hu H).1 c19)
      refine nb_Gr ?_
      refine nb_Wg (q_m_within_3 _ _ _ _) ?_
      refine nb_Gr ?_
      have E10 : nb_i2z 0 = 0 := by decide
      refine nb_Wg (q_m_within_4 _ _ _ _ _) ?_
      simp only [E10]
      clear E10
      refine nb_Gs ?_
      show nb_W 118 2 [(20, 603), (0, l1)] [(0, 0)] (nb_wr (nb_wr M 603 0 0) 603 11 0) _
      refine nb_Wg (q_m_isSpot_2 _ _ _ _) ?_
      refine nb_Gt (by decide) ?_
      refine nb_Gr ?_
      refine nb_Wg (q_m_isSpot_4 _ _ _) ?_
      refine nb_Gr ?_
      have E11 : nb_i2z 0 = 0 := by decide
      refine nb_Wg (q_m_isSpot_5 _ _ _ _) ?_
      simp only [E11]
      clear E11
      refine nb_Gs ?_
      show nb_W 144 2 [(20, 603), (0, l1), v2, v3] [(0, 0)] (nb_wr (nb_wr M 603 0 0) 603 11 0) _
      refine nb_Wg (q_m_elbows_2 _ _ _ _ _ _) ?_
      refine nb_Gt (by decide) ?_
      refine nb_Gr ?_
      refine nb_Wg (q_m_elbows_3 _ _ _ _ _ (by omega)) ?_
      refine nb_Gb ?_
      refine nb_Wg (q_m_no_0 _ _ _ (by omega)) ?_
      have W12 : nb_Lay (nb_wr (nb_wr (nb_wr M 603 0 0) 603 11 0) 603 11 1) := W2.wr (fun w => (nb_nlit (by decide) (by decide)))
      refine nb_Gr ?_
      refine nb_Wg (q_m_no_1 _ _ _) ?_
      refine nb_Gs ?_
      show nb_W 144 4 [(20, 603), (0, l1), v2, v3] [(0, (-1))] (nb_wr (nb_wr (nb_wr M 603 0 0) 603 11 0) 603 11 1) _
      refine nb_Wg (q_m_elbows_4 _ _ _ _ _ _) ?_
      refine nb_Gs ?_
      exact nb_Hu H W12
    · have H := nb_Hw ((nb_Hu H).2 (by omega))
      have c19 : 0 ≤ l1 := by omega
      refine nb_Gr ?_
      refine nb_Wg (q_m_within_1 _ _ _ _) ?_
      refine nb_Gi (fun c18 => ?_) (fun c18 => ?_)
      · have H := nb_Hw ((nb_Hu H).1 c18)
        refine nb_Gr ?_
        refine nb_Wg (q_m_within_3 _ _ _ _) ?_
        refine nb_Gr ?_
        have E13 : nb_i2z 0 = 0 := by decide
        refine nb_Wg (q_m_within_4 _ _ _ _ _) ?_
        simp only [E13]
        clear E13
        refine nb_Gs ?_
        show nb_W 118 2 [(20, 603), (0, l1)] [(0, 0)] (nb_wr (nb_wr M 603 0 0) 603 11 0) _
        refine nb_Wg (q_m_isSpot_2 _ _ _ _) ?_
        refine nb_Gt (by decide) ?_
        refine nb_Gr ?_
        refine nb_Wg (q_m_isSpot_4 _ _ _) ?_
        refine nb_Gr ?_
        have E14 : nb_i2z 0 = 0 := by decide
        refine nb_Wg (q_m_isSpot_5 _ _ _ _) ?_
        simp only [E14]
        clear E14
        refine nb_Gs ?_
        show nb_W 144 2 [(20, 603), (0, l1), v2, v3] [(0, 0)] (nb_wr (nb_wr M 603 0 0) 603 11 0) _
        refine nb_Wg (q_m_elbows_2 _ _ _ _ _ _) ?_
        refine nb_Gt (by decide) ?_
        refine nb_Gr ?_
        refine nb_Wg (q_m_elbows_3 _ _ _ _ _ (by omega)) ?_
        refine nb_Gb ?_
        refine nb_Wg (q_m_no_0 _ _ _ (by omega)) ?_
        have W15 : nb_Lay (nb_wr (nb_wr (nb_wr M 603 0 0) 603 11 0) 603 11 1) := W2.wr (fun w => (nb_nlit (by decide) (by decide)))
        refine nb_Gr ?_
        refine nb_Wg (q_m_no_1 _ _ _) ?_
        refine nb_Gs ?_
        show nb_W 144 4 [(20, 603), (0, l1), v2, v3] [(0, (-1))] (nb_wr (nb_wr (nb_wr M 603 0 0) 603 11 0) 603 11 1) _
        refine nb_Wg (q_m_elbows_4 _ _ _ _ _ _) ?_
        refine nb_Gs ?_
        exact nb_Hu H W15
      · have H := nb_Hw ((nb_Hu H).2 (by omega))
        have c18 : l1 ≤ M.1 606 1 - 1 := by omega
        refine nb_Gr ?_
        refine nb_Wg (q_m_within_2 _ _ _ _) ?_
        refine nb_Gr ?_
        have E16 : nb_i2z 1 = 1 := by decide
        refine nb_Wg (q_m_within_4 _ _ _ _ _) ?_
        simp only [E16]
        clear E16
        refine nb_Gs ?_
        show nb_W 118 2 [(20, 603), (0, l1)] [(0, 1)] (nb_wr (nb_wr M 603 0 0) 603 11 0) _
        refine nb_Wg (q_m_isSpot_2 _ _ _ _) ?_
        refine nb_Gf (by decide) ?_
        refine nb_Gr ?_
        refine nb_Wg (q_m_isSpot_3 _ _ _) ?_
        refine nb_Gr ?_
        have E17 : nb_i2z 1 = 1 := by decide
        refine nb_Wg (q_m_isSpot_5 _ _ _ _) ?_
        simp only [E17]
        clear E17
        refine nb_Gs ?_
        show nb_W 144 2 [(20, 603), (0, l1), v2, v3] [(0, 1)] (nb_wr (nb_wr M 603 0 0) 603 11 0) _
        refine nb_Wg (q_m_elbows_2 _ _ _ _ _ _) ?_
        refine nb_Gf (by decide) ?_
        refine nb_Gr ?_
        refine nb_Wg (q_m_elbows_5 _ _ _ _ _) ?_
        refine nb_Gr ?_
        exact nb_Hu H

theorem w_c_elbows_0 {l1 Ho : Int} {v2 v3 : nb_V} {M : nb_M} {Q : List nb_V → nb_M → Prop} (W : nb_Lay M) (hHo : nb_hs Ho) (hx2 : M.1 2 2 = Ho) (H : (l1 < 0 → (nb_Lay (nb_wr M 2 15 1) → Q [(0, (-1))] (nb_wr M 2 15 1))) ∧ (0 ≤ l1 → 0 ≤ M.1 Ho 9 ∧ M.1 Ho 9 ≤ 20 ∧ (l1 < M.1 Ho 9 → nb_W 18 5 [(19, 2), (0, l1), (0, 0), (0, 0)] [] (nb_wr M 2 15 0) Q) ∧ (M.1 Ho 9 ≤ l1 → (nb_Lay (nb_wr M 2 15 1) → Q [(0, (-1))] (nb_wr M 2 15 1))))) :
    nb_W 18 0 [(19, 2), (0, l1), v2, v3] [] M Q := by
  replace H := nb_Hw H
  have uhHo := hHo
  unfold nb_hs at uhHo
  refine nb_Wg (q_c_elbows_0 _ _ _ _ _ (by omega)) ?_
  refine nb_Gb ?_
  refine nb_Wg (q_c_isPlace_0 _ _ _) ?_
  refine nb_Gi (fun c13 => ?_) (fun c13 => ?_)
  · have H := nb_Hw ((nb_Hu H).1 c13)
    refine nb_Gr ?_
    refine nb_Wg (q_c_isPlace_3 _ _ _) ?_
    refine nb_Gr ?_
    have E1 : nb_i2z 0 = 0 := by decide
    refine nb_Wg (q_c_isPlace_4 _ _ _ _) ?_
    simp only [E1]
    clear E1
    refine nb_Gs ?_
    show nb_W 18 1 [(19, 2), (0, l1), v2, v3] [(0, 0), (19, 2)] M _
    refine nb_Wg (q_c_elbows_1 _ _ _ _ _ _ _ (by omega)) ?_
    refine nb_Gb ?_
    refine nb_Wg (q_c_granted_0 _ _ _ _) ?_
    refine nb_Gt (by decide) ?_
    refine nb_Gr ?_
    refine nb_Wg (q_c_granted_2 _ _ _ _ _) ?_
    refine nb_Gr ?_
    refine nb_Wg (q_c_granted_3 _ _ _ _ _ _ (by omega)) ?_
    have W2 : nb_Lay (nb_wr M 2 15 1) := W.wr (fun w => (nb_nlit (by decide) (by decide)))
    refine nb_Gr ?_
    have E3 : nb_i2z 0 = 0 := by decide
    refine nb_Wg (q_c_granted_4 _ _ _ _) ?_
    simp only [E3]
    clear E3
    refine nb_Gs ?_
    show nb_W 18 2 [(19, 2), (0, l1), v2, v3] [(0, 0)] (nb_wr M 2 15 1) _
    refine nb_Wg (q_c_elbows_2 _ _ _ _ _ _) ?_
    refine nb_Gt (by decide) ?_
    refine nb_Gr ?_
    refine nb_Wg (q_c_elbows_3 _ _ _ _ _) ?_
    refine nb_Gs ?_
    exact nb_Hu H W2
  · have H := nb_Hw ((nb_Hu H).2 (by omega))
    have c13 : 0 ≤ l1 := by omega
    refine nb_Gr ?_
    obtain ⟨p0_, p1_, H⟩ := H
    replace H := nb_Hw H
    have E4 : nb_rd M 2 2 = Ho := hx2
    have E5 : nb_rd M Ho 9 = M.1 Ho 9 := nb_rd_1 _ _ _
    refine nb_Wg (q_c_isPlace_1 _ _ _ (by omega) (by rw [E4]; first | done | omega)) ?_
    simp only [E4, E5]
    clear E4 E5
    refine nb_Gi (fun c12 => ?_) (fun c12 => ?_)
    · have H := nb_Hw ((nb_Hu H).1 c12)
      refine nb_Gr ?_
      refine nb_Wg (q_c_isPlace_2 _ _ _) ?_
      refine nb_Gr ?_
      have E6 : nb_i2z 1 = 1 := by decide
      refine nb_Wg (q_c_isPlace_4 _ _ _ _) ?_
      simp only [E6]
      clear E6
      refine nb_Gs ?_
      show nb_W 18 1 [(19, 2), (0, l1), v2, v3] [(0, 1), (19, 2)] M _
      refine nb_Wg (q_c_elbows_1 _ _ _ _ _ _ _ (by omega)) ?_
      refine nb_Gb ?_
      refine nb_Wg (q_c_granted_0 _ _ _ _) ?_
      refine nb_Gf (by decide) ?_
      refine nb_Gr ?_
      refine nb_Wg (q_c_granted_1 _ _ _ _ _) ?_
      refine nb_Gr ?_
      refine nb_Wg (q_c_granted_3 _ _ _ _ _ _ (by omega)) ?_
      have W7 : nb_Lay (nb_wr M 2 15 0) := W.wr (fun w => (nb_nlit (by decide) (by decide)))
      refine nb_Gr ?_
      have E8 : nb_i2z 1 = 1 := by decide
      refine nb_Wg (q_c_granted_4 _ _ _ _) ?_
      simp only [E8]
      clear E8
      refine nb_Gs ?_
      show nb_W 18 2 [(19, 2), (0, l1), v2, v3] [(0, 1)] (nb_wr M 2 15 0) _
      refine nb_Wg (q_c_elbows_2 _ _ _ _ _ _) ?_
      refine nb_Gf (by decide) ?_
      refine nb_Gr ?_
      refine nb_Wg (q_c_elbows_4 _ _ _ _ _) ?_
      refine nb_Gr ?_
      exact nb_Hu H
    · have H := nb_Hw ((nb_Hu H).2 (by omega))
      have c12 : M.1 Ho 9 ≤ l1 := by omega
      refine nb_Gr ?_
      refine nb_Wg (q_c_isPlace_3 _ _ _) ?_
      refine nb_Gr ?_
      have E9 : nb_i2z 0 = 0 := by decide
      refine nb_Wg (q_c_isPlace_4 _ _ _ _) ?_
      simp only [E9]
      clear E9
      refine nb_Gs ?_
      show nb_W 18 1 [(19, 2), (0, l1), v2, v3] [(0, 0), (19, 2)] M _
      refine nb_Wg (q_c_elbows_1 _ _ _ _ _ _ _ (by omega)) ?_
      refine nb_Gb ?_
      refine nb_Wg (q_c_granted_0 _ _ _ _) ?_
      refine nb_Gt (by decide) ?_
      refine nb_Gr ?_
      refine nb_Wg (q_c_granted_2 _ _ _ _ _) ?_
      refine nb_Gr ?_
      refine nb_Wg (q_c_granted_3 _ _ _ _ _ _ (by omega)) ?_
      have W10 : nb_Lay (nb_wr M 2 15 1) := W.wr (fun w => (nb_nlit (by decide) (by decide)))
      refine nb_Gr ?_
      have E11 : nb_i2z 0 = 0 := by decide
      refine nb_Wg (q_c_granted_4 _ _ _ _) ?_
      simp only [E11]
      clear E11
      refine nb_Gs ?_
      show nb_W 18 2 [(19, 2), (0, l1), v2, v3] [(0, 0)] (nb_wr M 2 15 1) _
      refine nb_Wg (q_c_elbows_2 _ _ _ _ _ _) ?_
      refine nb_Gt (by decide) ?_
      refine nb_Gr ?_
      refine nb_Wg (q_c_elbows_3 _ _ _ _ _) ?_
      refine nb_Gs ?_
      exact nb_Hu H W10

theorem w_m_elbows_6 {l1 l2 l3 : Int} {M : nb_M} {Q : List nb_V → nb_M → Prop} (W : nb_Lay M)  (b0_ : 0 ≤ l2 ∧ l2 ≤ 10) (b1_ : 0 ≤ l3 ∧ l3 ≤ 10) (H : 0 ≤ M.1 606 5 ∧ M.1 606 5 ≤ 10 ∧ (l3 < M.1 606 5 → (M.1 608 (12 + 8 * l3) = 1 → (M.1 608 (12 + 8 * l3 + 1) = l1 → nb_W 144 6 [(20, 603), (0, l1), (0, l2 + 1), (0, l3 + 1)] [] M Q) ∧ (M.1 608 (12 + 8 * l3 + 1) ≠ l1 → nb_W 144 6 [(20, 603), (0, l1), (0, l2), (0, l3 + 1)] [] M Q)) ∧ (M.1 608 (12 + 8 * l3) ≠ 1 → nb_W 144 6 [(20, 603), (0, l1), (0, l2), (0, l3 + 1)] [] M Q)) ∧ (M.1 606 5 ≤ l3 → Q [(0, l2)] M)) :
    nb_W 144 6 [(20, 603), (0, l1), (0, l2), (0, l3)] [] M Q := by
  replace H := nb_Hw H
  obtain ⟨p0_, p1_, H⟩ := H
  replace H := nb_Hw H
  have E1 : nb_rd M 603 15 = 606 := W.m15
  have N2 : nb_ln M 606 = 347 := W.lk (by decide) (by decide +kernel)
  have E3 : nb_rd M 606 5 = M.1 606 5 := nb_rd_1 _ _ _
  refine nb_Wg (q_m_elbows_6 _ _ _ _ _ (by omega) (by rw [E1]; first | done | omega) (by omega) (by rw [E1, N2]; first | done | omega)) ?_
  simp only [E1, E3]
  clear E1 N2 E3
  refine nb_Gi (fun c26 => ?_) (fun c26 => ?_)
  · have H := nb_Hw ((nb_Hu H).1 c26)
    refine nb_Gr ?_
    have E4 : nb_rd M 603 17 = 608 := W.m17
    refine nb_Wg (q_m_elbows_7 _ _ _ _ _ (by omega)) ?_
    simp only [E4]
    clear E4
    refine nb_Gb ?_
    refine nb_Wg (q_m_isWaiting_0 _ _ _) ?_
    refine nb_Gb ?_
    have E5 : nb_mul 8 l3 = 8 * l3 := nb_mul_eq (by omega) (by omega)
    have E6 : nb_add 12 (8 * l3) = 12 + 8 * l3 := (nb_add_eq (x := 12) (y := 8 * l3) (by omega) (by omega)).trans (by omega)
    have E7 : nb_add (12 + 8 * l3) 0 = 12 + 8 * l3 := (nb_add_eq (x := 12 + 8 * l3) (y := 0) (by omega) (by omega)).trans (by omega)
    have N8 : nb_ln M 608 = 108 := W.lk (by decide) (by decide +kernel)
    have E9 : nb_rd M 608 (12 + 8 * l3) = M.1 608 (12 + 8 * l3) := nb_rd_1 _ _ _
    refine nb_Wg (q_m_its_0 _ _ _ _ (by omega) (by rw [E5, E6, E7]; first | done | omega) (by rw [E5, E6, E7, N8]; first | done | omega)) ?_
    simp only [E5, E6, E7, E9]
    clear E5 E6 E7 N8 E9
    refine nb_Gs ?_
    show nb_W 126 1 [(3, 608), (0, l3)] [(0, M.1 608 (12 + 8 * l3))] M _
    refine nb_Wg (q_m_isWaiting_1 _ _ _ _) ?_
    refine nb_Gi (fun c25 => ?_) (fun c25 => ?_)
    · have H := nb_Hw ((nb_Hu H).1 c25)
      refine nb_Gr ?_
      refine nb_Wg (q_m_isWaiting_2 _ _ _) ?_
      refine nb_Gr ?_
      have E10 : nb_i2z 1 = 1 := by decide
      refine nb_Wg (q_m_isWaiting_4 _ _ _ _) ?_
      simp only [E10]
      clear E10
      refine nb_Gs ?_
      show nb_W 144 8 [(20, 603), (0, l1), (0, l2), (0, l3)] [(0, 1), (0, l2)] M _
      refine nb_Wg (q_m_elbows_8 _ _ _ _ _ _ _) ?_
      refine nb_Gf (by decide) ?_
      refine nb_Gr ?_
      have E11 : nb_rd M 603 17 = 608 := W.m17
      refine nb_Wg (q_m_elbows_9 _ _ _ _ _ _ (by omega)) ?_
      simp only [E11]
      clear E11
      refine nb_Gb ?_
      have E12 : nb_mul 8 l3 = 8 * l3 := nb_mul_eq (by omega) (by omega)
      have E13 : nb_add 12 (8 * l3) = 12 + 8 * l3 := (nb_add_eq (x := 12) (y := 8 * l3) (by omega) (by omega)).trans (by omega)
      have E14 : nb_add (12 + 8 * l3) 1 = 12 + 8 * l3 + 1 := nb_add_eq (by omega) (by omega)
      have N15 : nb_ln M 608 = 108 := W.lk (by decide) (by decide +kernel)
      have E16 : nb_rd M 608 (12 + 8 * l3 + 1) = M.1 608 (12 + 8 * l3 + 1) := nb_rd_1 _ _ _
      refine nb_Wg (q_m_its_0 _ _ _ _ (by omega) (by rw [E12, E13, E14]; first | done | omega) (by rw [E12, E13, E14, N15]; first | done | omega)) ?_
      simp only [E12, E13, E14, E16]
      clear E12 E13 E14 N15 E16
      refine nb_Gs ?_
      show nb_W 144 10 [(20, 603), (0, l1), (0, l2), (0, l3)] [(0, M.1 608 (12 + 8 * l3 + 1)), (0, l2)] M _
      refine nb_Wg (q_m_elbows_10 _ _ _ _ _ _ _) ?_
      refine nb_Gi (fun c21 => ?_) (fun c21 => ?_)
      · have H := nb_Hw ((nb_Hu H).1 c21)
        refine nb_Gr ?_
        refine nb_Wg (q_m_elbows_11 _ _ _ _ _ _) ?_
        refine nb_Gr ?_
        have E17 : nb_add l2 1 = l2 + 1 := nb_add_eq (by omega) (by omega)
        have E18 : nb_add l3 1 = l3 + 1 := nb_add_eq (by omega) (by omega)
        refine nb_Wg (q_m_elbows_13 _ _ _ _ _ _ _) ?_
        simp only [E17, E18]
        clear E17 E18
        refine nb_Gr ?_
        exact nb_Hu H
      · have H := nb_Hw ((nb_Hu H).2 (by omega))
        have c21 : M.1 608 (12 + 8 * l3 + 1) ≠ l1 := by omega
        refine nb_Gr ?_
        refine nb_Wg (q_m_elbows_12 _ _ _ _ _ _) ?_
        refine nb_Gr ?_
        have E19 : nb_add l2 0 = l2 := (nb_add_eq (x := l2) (y := 0) (by omega) (by omega)).trans (by omega)
        have E20 : nb_add l3 1 = l3 + 1 := nb_add_eq (by omega) (by omega)
        refine nb_Wg (q_m_elbows_13 _ _ _ _ _ _ _) ?_
        simp only [E19, E20]
        clear E19 E20
        refine nb_Gr ?_
        exact nb_Hu H
    · have H := nb_Hw ((nb_Hu H).2 (by omega))
      have c25 : M.1 608 (12 + 8 * l3) ≠ 1 := by omega
      refine nb_Gr ?_
      refine nb_Wg (q_m_isWaiting_3 _ _ _) ?_
      refine nb_Gr ?_
      have E22 : nb_i2z 0 = 0 := by decide
      refine nb_Wg (q_m_isWaiting_4 _ _ _ _) ?_
      simp only [E22]
      clear E22
      refine nb_Gs ?_
      show nb_W 144 8 [(20, 603), (0, l1), (0, l2), (0, l3)] [(0, 0), (0, l2)] M _
      refine nb_Wg (q_m_elbows_8 _ _ _ _ _ _ _) ?_
      refine nb_Gt (by decide) ?_
      refine nb_Gr ?_
      refine nb_Wg (q_m_elbows_12 _ _ _ _ _ _) ?_
      refine nb_Gr ?_
      have E23 : nb_add l2 0 = l2 := (nb_add_eq (x := l2) (y := 0) (by omega) (by omega)).trans (by omega)
      have E24 : nb_add l3 1 = l3 + 1 := nb_add_eq (by omega) (by omega)
      refine nb_Wg (q_m_elbows_13 _ _ _ _ _ _ _) ?_
      simp only [E23, E24]
      clear E23 E24
      refine nb_Gr ?_
      exact nb_Hu H
  · have H := nb_Hw ((nb_Hu H).2 (by omega))
    have c26 : M.1 606 5 ≤ l3 := by omega
    refine nb_Gr ?_
    refine nb_Wg (q_m_elbows_14 _ _ _ _ _) ?_
    refine nb_Gs ?_
    exact nb_Hu H

theorem w_c_elbows_5 {l1 l2 l3 Ho : Int} {M : nb_M} {Q : List nb_V → nb_M → Prop} (W : nb_Lay M) (hHo : nb_hs Ho) (hx2 : M.1 2 2 = Ho) (b0_ : 0 ≤ l2 ∧ l2 ≤ 10) (b1_ : 0 ≤ l3 ∧ l3 ≤ 10) (H : 0 ≤ M.1 Ho 13 ∧ M.1 Ho 13 ≤ 10 ∧ (l3 < M.1 Ho 13 → (M.1 (88 + l3) 8 = 1 → (M.1 (88 + l3) 3 = l1 → nb_W 18 5 [(19, 2), (0, l1), (0, l2 + 1), (0, l3 + 1)] [] M Q) ∧ (M.1 (88 + l3) 3 ≠ l1 → nb_W 18 5 [(19, 2), (0, l1), (0, l2), (0, l3 + 1)] [] M Q)) ∧ (M.1 (88 + l3) 8 ≠ 1 → nb_W 18 5 [(19, 2), (0, l1), (0, l2), (0, l3 + 1)] [] M Q)) ∧ (M.1 Ho 13 ≤ l3 → Q [(0, l2)] M)) :
    nb_W 18 5 [(19, 2), (0, l1), (0, l2), (0, l3)] [] M Q := by
  replace H := nb_Hw H
  have uhHo := hHo
  unfold nb_hs at uhHo
  obtain ⟨p0_, p1_, H⟩ := H
  replace H := nb_Hw H
  have E1 : nb_rd M 2 2 = Ho := hx2
  have E2 : nb_rd M Ho 13 = M.1 Ho 13 := nb_rd_1 _ _ _
  refine nb_Wg (q_c_elbows_5 _ _ _ _ _ (by omega) (by rw [E1]; first | done | omega)) ?_
  simp only [E1, E2]
  clear E1 E2
  refine nb_Gi (fun c21 => ?_) (fun c21 => ?_)
  · have H := nb_Hw ((nb_Hu H).1 c21)
    refine nb_Gr ?_
    refine nb_Wg (q_c_elbows_6 _ _ _ _ _ (by omega)) ?_
    refine nb_Gb ?_
    have E3 : nb_rd M 2 5 = 84 := W.c5
    have E4 : nb_rd M 84 0 = 85 := W.s0 (A := 84) nb_sc84
    have N5 : nb_ln M 85 = 10 := W.sn1 (A := 84) nb_sc84
    have E6 : nb_rd M 85 l3 = 88 + l3 := W.sg (A := 84) (i := l3) nb_sc84 (by omega) (by omega)
    have E7 : nb_rd M (88 + l3) 8 = M.1 (88 + l3) 8 := nb_rd_1 _ _ _
    refine nb_Wg (q_c_isWaiting_0 _ _ _ (by omega) (by rw [E3]; first | done | omega) (by rw [E3, E4]; first | done | omega) (by omega) (by rw [E3, E4, N5]; first | done | omega) (by rw [E3, E4, E6]; first | done | omega)) ?_
    simp only [E3, E4, E6, E7]
    clear E3 E4 N5 E6 E7
    refine nb_Gi (fun c20 => ?_) (fun c20 => ?_)
    · have H := nb_Hw ((nb_Hu H).1 c20)
      refine nb_Gr ?_
      refine nb_Wg (q_c_isWaiting_1 _ _ _) ?_
      refine nb_Gr ?_
      have E8 : nb_i2z 1 = 1 := by decide
      refine nb_Wg (q_c_isWaiting_3 _ _ _ _) ?_
      simp only [E8]
      clear E8
      refine nb_Gs ?_
      show nb_W 18 7 [(19, 2), (0, l1), (0, l2), (0, l3)] [(0, 1)] M _
      refine nb_Wg (q_c_elbows_7 _ _ _ _ _ _) ?_
      refine nb_Gf (by decide) ?_
      refine nb_Gr ?_
      have E9 : nb_rd M 2 5 = 84 := W.c5
      have E10 : nb_rd M 84 0 = 85 := W.s0 (A := 84) nb_sc84
      have N11 : nb_ln M 85 = 10 := W.sn1 (A := 84) nb_sc84
      have E12 : nb_rd M 85 l3 = 88 + l3 := W.sg (A := 84) (i := l3) nb_sc84 (by omega) (by omega)
      have E13 : nb_rd M (88 + l3) 3 = M.1 (88 + l3) 3 := nb_rd_1 _ _ _
      refine nb_Wg (q_c_elbows_8 _ _ _ _ _ (by omega) (by rw [E9]; first | done | omega) (by rw [E9, E10]; first | done | omega) (by omega) (by rw [E9, E10, N11]; first | done | omega) (by rw [E9, E10, E12]; first | done | omega)) ?_
      simp only [E9, E10, E12, E13]
      clear E9 E10 N11 E12 E13
      refine nb_Gi (fun c17 => ?_) (fun c17 => ?_)
      · have H := nb_Hw ((nb_Hu H).1 c17)
        refine nb_Gr ?_
        have E14 : nb_add l2 1 = l2 + 1 := nb_add_eq (by omega) (by omega)
        refine nb_Wg (q_c_elbows_9 _ _ _ _ _) ?_
        simp only [E14]
        clear E14
        refine nb_Gr ?_
        have E15 : nb_add l3 1 = l3 + 1 := nb_add_eq (by omega) (by omega)
        refine nb_Wg (q_c_elbows_10 _ _ _ _ _) ?_
        simp only [E15]
        clear E15
        refine nb_Gr ?_
        exact nb_Hu H
      · have H := nb_Hw ((nb_Hu H).2 (by omega))
        have c17 : M.1 (88 + l3) 3 ≠ l1 := by omega
        refine nb_Gr ?_
        have E16 : nb_add l3 1 = l3 + 1 := nb_add_eq (by omega) (by omega)
        refine nb_Wg (q_c_elbows_10 _ _ _ _ _) ?_
        simp only [E16]
        clear E16
        refine nb_Gr ?_
        exact nb_Hu H
    · have H := nb_Hw ((nb_Hu H).2 (by omega))
      have c20 : M.1 (88 + l3) 8 ≠ 1 := by omega
      refine nb_Gr ?_
      refine nb_Wg (q_c_isWaiting_2 _ _ _) ?_
      refine nb_Gr ?_
      have E18 : nb_i2z 0 = 0 := by decide
      refine nb_Wg (q_c_isWaiting_3 _ _ _ _) ?_
      simp only [E18]
      clear E18
      refine nb_Gs ?_
      show nb_W 18 7 [(19, 2), (0, l1), (0, l2), (0, l3)] [(0, 0)] M _
      refine nb_Wg (q_c_elbows_7 _ _ _ _ _ _) ?_
      refine nb_Gt (by decide) ?_
      refine nb_Gr ?_
      have E19 : nb_add l3 1 = l3 + 1 := nb_add_eq (by omega) (by omega)
      refine nb_Wg (q_c_elbows_10 _ _ _ _ _) ?_
      simp only [E19]
      clear E19
      refine nb_Gr ?_
      exact nb_Hu H
  · have H := nb_Hw ((nb_Hu H).2 (by omega))
    have c21 : M.1 Ho 13 ≤ l3 := by omega
    refine nb_Gr ?_
    refine nb_Wg (q_c_elbows_11 _ _ _ _ _) ?_
    refine nb_Gs ?_
    exact nb_Hu H
