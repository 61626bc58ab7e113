/-! rules, printed by wip/gen -/
theorem w_c_evening_0 {M : nb_M} {Q : List nb_V → nb_M → Prop} (W : nb_Lay M) (H : nb_W 255 0 [(15, 106), (15, 84), (98, 0)] [] M (fun r M4 => r = [] ∧ nb_Lay M4 ∧ nb_W 257 0 [(15, 106), (0, M4.1 106 8), (98, 0), (98, 0)] [] M4 (fun r M10 => r = [] ∧ nb_Lay M10 ∧ Q [(15, 106)] M10))) :
    nb_W 24 0 [(19, 2)] [] M Q := by
  replace H := nb_Hw H
  have E1 : nb_rd M 2 6 = 106 := W.c6
  have E2 : nb_rd M 2 5 = 84 := W.c5
  refine nb_Wg (q_c_evening_0 _ _ (by omega) (by rw [E1]; first | done | omega)) ?_
  simp only [E1, E2]
  clear E1 E2
  refine nb_Gb ?_
  refine nb_W.imp (nb_Hu H) (fun r M4 H => ?_)
  obtain ⟨rfl, W5, H⟩ := H
  replace H := nb_Hw H
  show nb_W 24 1 [(19, 2)] [] M4 _
  have E6 : nb_rd M4 2 6 = 106 := W5.c6
  have E7 : nb_rd M4 2 6 = 106 := W5.c6
  have E8 : nb_rd M4 106 8 = M4.1 106 8 := nb_rd_1 _ _ _
  refine nb_Wg (q_c_evening_1 _ _ (by omega) (by rw [E7]; first | done | omega)) ?_
  simp only [E6, E7, E8]
  clear E6 E7 E8
  refine nb_Gb ?_
  refine nb_W.imp (nb_Hu H) (fun r M10 H => ?_)
  obtain ⟨rfl, W11, H⟩ := H
  replace H := nb_Hw H
  show nb_W 24 2 [(19, 2)] [] M10 _
  have E12 : nb_rd M10 2 6 = 106 := W11.c6
  refine nb_Wg (q_c_evening_2 _ _ (by omega)) ?_
  simp only [E12]
  clear E12
  refine nb_Gs ?_
  exact nb_Hu H

theorem w_c_asNow_0 {M : nb_M} {Q : List nb_V → nb_M → Prop} (W : nb_Lay M) (H : nb_W 255 0 [(15, 106), (15, 84), (98, 0)] [] M (fun r M4 => r = [] ∧ nb_Lay M4 ∧ Q [(15, 106)] M4)) :
    nb_W 23 0 [(19, 2)] [] M Q := by
  replace H := nb_Hw H
  have E1 : nb_rd M 2 6 = 106 := W.c6
  have E2 : nb_rd M 2 5 = 84 := W.c5
  refine nb_Wg (q_c_asNow_0 _ _ (by omega) (by rw [E1]; first | done | omega)) ?_
  simp only [E1, E2]
  clear E1 E2
  refine nb_Gb ?_
  refine nb_W.imp (nb_Hu H) (fun r M4 H => ?_)
  obtain ⟨rfl, W5, H⟩ := H
  replace H := nb_Hw H
  show nb_W 23 1 [(19, 2)] [] M4 _
  have E6 : nb_rd M4 2 6 = 106 := W5.c6
  refine nb_Wg (q_c_asNow_1 _ _ (by omega)) ?_
  simp only [E6]
  clear E6
  refine nb_Gs ?_
  exact nb_Hu H

theorem w_c_fate_0 {l1 Ho : Int} {M : nb_M} {Q : List nb_V → nb_M → Prop} (W : nb_Lay M) (hHo : nb_hs Ho) (hx2 : M.1 2 2 = Ho) (H : (l1 < 0 → Q [(0, (-1))] (nb_wr M 2 15 1)) ∧ (0 ≤ l1 → 0 ≤ M.1 Ho 13 ∧ M.1 Ho 13 ≤ 10 ∧ (l1 < M.1 Ho 13 → nb_W 24 0 [(19, 2)] [] (nb_wr M 2 15 0) (fun r M10 => r = [(15, 106)] ∧ nb_Lay M10 ∧ M10.1 2 2 = Ho ∧ l1 < 10 ∧ (M10.1 (110 + l1) 8 = 2 → Q [(0, 0)] M10) ∧ (M10.1 (110 + l1) 8 = 3 → Q [(0, 1)] M10) ∧ (M10.1 (110 + l1) 8 = 4 → Q [(0, 2)] M10) ∧ (M10.1 (110 + l1) 8 = 5 → Q [(0, 4)] M10) ∧ (M10.1 (110 + l1) 8 ≠ 2 → M10.1 (110 + l1) 8 ≠ 3 → M10.1 (110 + l1) 8 ≠ 4 → M10.1 (110 + l1) 8 ≠ 5 → Q [(0, 3)] M10))) ∧ (M.1 Ho 13 ≤ l1 → Q [(0, (-1))] (nb_wr M 2 15 1)))) :
    nb_W 25 0 [(19, 2), (0, l1)] [] M Q := by
  replace H := nb_Hw H
  have uhHo := hHo
  unfold nb_hs at uhHo
  refine nb_Wg (q_c_fate_0 _ _ _ (by omega)) ?_
  refine nb_Gb ?_
  refine nb_Wg (q_c_isPerson_0 _ _ _) ?_
  refine nb_Gi (fun c25 => ?_) (fun c25 => ?_)
  · have H := nb_Hw ((nb_Hu H).1 c25)
    refine nb_Gr ?_
    refine nb_Wg (q_c_isPerson_3 _ _ _) ?_
    refine nb_Gr ?_
    have E1 : nb_i2z 0 = 0 := by decide
    refine nb_Wg (q_c_isPerson_4 _ _ _ _) ?_
    simp only [E1]
    clear E1
    refine nb_Gs ?_
    show nb_W 25 1 [(19, 2), (0, l1)] [(0, 0), (19, 2)] M _
    refine nb_Wg (q_c_fate_1 _ _ _ _ _ (by omega)) ?_
    refine nb_Gb ?_
    refine nb_Wg (q_c_granted_0 _ _ _ _) ?_
    refine nb_Gt (by decide) ?_
    refine nb_Gr ?_
    refine nb_Wg (q_c_granted_2 _ _ _ _ _) ?_
    refine nb_Gr ?_
    refine nb_Wg (q_c_granted_3 _ _ _ _ _ _ (by omega)) ?_
    have W2 : nb_Lay (nb_wr M 2 15 1) := W.wr (fun w => (nb_nlit (by decide) (by decide)))
    refine nb_Gr ?_
    have E3 : nb_i2z 0 = 0 := by decide
    refine nb_Wg (q_c_granted_4 _ _ _ _) ?_
    simp only [E3]
    clear E3
    refine nb_Gs ?_
    show nb_W 25 2 [(19, 2), (0, l1)] [(0, 0)] (nb_wr M 2 15 1) _
    refine nb_Wg (q_c_fate_2 _ _ _ _) ?_
    refine nb_Gt (by decide) ?_
    refine nb_Gr ?_
    refine nb_Wg (q_c_fate_3 _ _ _) ?_
    refine nb_Gs ?_
    exact nb_Hu H
  · have H := nb_Hw ((nb_Hu H).2 (by omega))
    have c25 : 0 ≤ l1 := by omega
    refine nb_Gr ?_
    obtain ⟨p0_, p1_, H⟩ := H
    replace H := nb_Hw H
    have E4 : nb_rd M 2 2 = Ho := hx2
    have E5 : nb_rd M Ho 13 = M.1 Ho 13 := nb_rd_1 _ _ _
    refine nb_Wg (q_c_isPerson_1 _ _ _ (by omega) (by rw [E4]; first | done | omega)) ?_
    simp only [E4, E5]
    clear E4 E5
    refine nb_Gi (fun c24 => ?_) (fun c24 => ?_)
    · have H := nb_Hw ((nb_Hu H).1 c24)
      refine nb_Gr ?_
      refine nb_Wg (q_c_isPerson_2 _ _ _) ?_
      refine nb_Gr ?_
      have E6 : nb_i2z 1 = 1 := by decide
      refine nb_Wg (q_c_isPerson_4 _ _ _ _) ?_
      simp only [E6]
      clear E6
      refine nb_Gs ?_
      show nb_W 25 1 [(19, 2), (0, l1)] [(0, 1), (19, 2)] M _
      refine nb_Wg (q_c_fate_1 _ _ _ _ _ (by omega)) ?_
      refine nb_Gb ?_
      refine nb_Wg (q_c_granted_0 _ _ _ _) ?_
      refine nb_Gf (by decide) ?_
      refine nb_Gr ?_
      refine nb_Wg (q_c_granted_1 _ _ _ _ _) ?_
      refine nb_Gr ?_
      refine nb_Wg (q_c_granted_3 _ _ _ _ _ _ (by omega)) ?_
      have W7 : nb_Lay (nb_wr M 2 15 0) := W.wr (fun w => (nb_nlit (by decide) (by decide)))
      refine nb_Gr ?_
      have E8 : nb_i2z 1 = 1 := by decide
      refine nb_Wg (q_c_granted_4 _ _ _ _) ?_
      simp only [E8]
      clear E8
      refine nb_Gs ?_
      show nb_W 25 2 [(19, 2), (0, l1)] [(0, 1)] (nb_wr M 2 15 0) _
      refine nb_Wg (q_c_fate_2 _ _ _ _) ?_
      refine nb_Gf (by decide) ?_
      refine nb_Gr ?_
      refine nb_Wg (q_c_fate_4 _ _ _ (by omega)) ?_
      refine nb_Gb ?_
      refine nb_W.imp (nb_Hu H) (fun r M10 H => ?_)
      obtain ⟨rfl, W11, g12, H⟩ := H
      replace H := nb_Hw H
      show nb_W 25 5 [(19, 2), (0, l1)] [(15, 106)] M10 _
      obtain ⟨p0_, H⟩ := H
      replace H := nb_Hw H
      have E13 : nb_rd M10 106 0 = 107 := W11.s0 (A := 106) nb_sc106
      have N14 : nb_ln M10 107 = 10 := W11.sn1 (A := 106) nb_sc106
      have E15 : nb_rd M10 107 l1 = 110 + l1 := W11.sg (A := 106) (i := l1) nb_sc106 (by omega) (by omega)
      have E16 : nb_rd M10 (110 + l1) 8 = M10.1 (110 + l1) 8 := nb_rd_1 _ _ _
      refine nb_Wg (q_c_fate_5 _ _ _ _ (by omega) (by rw [E13]; first | done | omega) (by omega) (by rw [E13, N14]; first | done | omega) (by rw [E13, E15]; first | done | omega)) ?_
      simp only [E13, E15, E16]
      clear E13 N14 E15 E16
      refine nb_Gi (fun c17 => ?_) (fun c17 => ?_)
      · have H := nb_Hw ((nb_Hu H).1 c17)
        refine nb_Gr ?_
        refine nb_Wg (q_c_fate_6 _ _ _) ?_
        refine nb_Gs ?_
        exact nb_Hu H
      refine nb_Gi (fun c18 => ?_) (fun c18 => ?_)
      · have H := nb_Hw ((nb_Hu H).2.1 c18)
        refine nb_Gr ?_
        refine nb_Wg (q_c_fate_7 _ _ _) ?_
        refine nb_Gs ?_
        exact nb_Hu H
      refine nb_Gi (fun c19 => ?_) (fun c19 => ?_)
      · have H := nb_Hw ((nb_Hu H).2.2.1 c19)
        refine nb_Gr ?_
        refine nb_Wg (q_c_fate_8 _ _ _) ?_
        refine nb_Gs ?_
        exact nb_Hu H
      refine nb_Gi (fun c20 => ?_) (fun c20 => ?_)
      · have H := nb_Hw ((nb_Hu H).2.2.2.1 c20)
        refine nb_Gr ?_
        refine nb_Wg (q_c_fate_9 _ _ _) ?_
        refine nb_Gs ?_
        exact nb_Hu H
      have H := nb_Hw ((nb_Hu H).2.2.2.2 (by omega) (by omega) (by omega) (by omega))
      refine nb_Gr ?_
      refine nb_Wg (q_c_fate_10 _ _ _) ?_
      refine nb_Gs ?_
      exact nb_Hu H
    · have H := nb_Hw ((nb_Hu H).2 (by omega))
      have c24 : M.1 Ho 13 ≤ l1 := by omega
      refine nb_Gr ?_
      refine nb_Wg (q_c_isPerson_3 _ _ _) ?_
      refine nb_Gr ?_
      have E21 : nb_i2z 0 = 0 := by decide
      refine nb_Wg (q_c_isPerson_4 _ _ _ _) ?_
      simp only [E21]
      clear E21
      refine nb_Gs ?_
      show nb_W 25 1 [(19, 2), (0, l1)] [(0, 0), (19, 2)] M _
      refine nb_Wg (q_c_fate_1 _ _ _ _ _ (by omega)) ?_
      refine nb_Gb ?_
      refine nb_Wg (q_c_granted_0 _ _ _ _) ?_
      refine nb_Gt (by decide) ?_
      refine nb_Gr ?_
      refine nb_Wg (q_c_granted_2 _ _ _ _ _) ?_
      refine nb_Gr ?_
      refine nb_Wg (q_c_granted_3 _ _ _ _ _ _ (by omega)) ?_
      have W22 : nb_Lay (nb_wr M 2 15 1) := W.wr (fun w => (nb_nlit (by decide) (by decide)))
      refine nb_Gr ?_
      have E23 : nb_i2z 0 = 0 := by decide
      refine nb_Wg (q_c_granted_4 _ _ _ _) ?_
      simp only [E23]
      clear E23
      refine nb_Gs ?_
      show nb_W 25 2 [(19, 2), (0, l1)] [(0, 0)] (nb_wr M 2 15 1) _
      refine nb_Wg (q_c_fate_2 _ _ _ _) ?_
      refine nb_Gt (by decide) ?_
      refine nb_Gr ?_
      refine nb_Wg (q_c_fate_3 _ _ _) ?_
      refine nb_Gs ?_
      exact nb_Hu H
