/-! rules, printed by wip/gen -/
theorem w_c_evening_0 {M : nb_M} {Q : List nb_V → nb_M → Prop} (W : nb_Lay M) (H : nb_W 255 0 [(15, 106), (15, 84), (98, 0)] [] M (fun r M4 => r = [] ∧ nb_Lay M4 ∧ nb_W 257 0 [(15, 106), (0, M4.1 106 8), (98, 0), (98, 0)] [] M4 (fun r M10 => r = [] ∧ nb_Lay M10 ∧ Q [(15, 106)] M10))) :
    nb_W 24 0 [(19, 2)] [] M Q := by
  replace H := nb_Hw H
  have E1 : nb_rd M 2 6 = 106 := W.c6
  have E2 : nb_rd M 2 5 = 84 := W.c5
  refine nb_Wg (q_c_evening_0 _ _ (by omega) (by rw [E1]; first | done | omega)) ?_
  simp only [E1, E2]
  clear E1 E2
  refine nb_Gb ?_
  refine nb_W.imp (nb_Hu H) (fun r M4 H => ?_)
  obtain ⟨rfl, W5, H⟩ := H
  replace H := nb_Hw H
  show nb_W 24 1 [(19, 2)] [] M4 _
  have E6 : nb_rd M4 2 6 = 106 := W5.c6
  have E7 : nb_rd M4 2 6 = 106 := W5.c6
  have E8 : nb_rd M4 106 8 = M4.1 106 8 := nb_rd_1 _ _ _
  refine nb_Wg (q_c_evening_1 _ _ (by omega) (by rw [E7]; first | done | omega)) ?_
  simp only [E6, E7, E8]
  clear E6 E7 E8
  refine nb_Gb ?_
  refine nb_W.imp (nb_Hu H) (fun r M10 H => ?_)
  obtain ⟨rfl, W11, H⟩ := H
  replace H := nb_Hw H
  show nb_W 24 2 [(19, 2)] [] M10 _
  have E12 : nb_rd M10 2 6 = 106 := W11.c6
  refine nb_Wg (q_c_evening_2 _ _ (by omega)) ?_
  simp only [E12]
  clear E12
  refine nb_Gs ?_
  exact nb_Hu H

theorem w_c_asNow_0 {M : nb_M} {Q : List nb_V → nb_M → Prop} (W : nb_Lay M) (H : nb_W 255 0 [(15, 106), (15, 84), (98, 0)] [] M (fun r M4 => r = [] ∧ nb_Lay M4 ∧ Q [(15, 106)] M4)) :
    nb_W 23 0 [(19, 2)] [] M Q := by
  replace H := nb_Hw H
  have E1 : nb_rd M 2 6 = 106 := W.c6
  have E2 : nb_rd M 2 5 = 84 := W.c5
  refine nb_Wg (q_c_asNow_0 _ _ (by omega) (by rw [E1]; first | done | omega)) ?_
  simp only [E1, E2]
  clear E1 E2
  refine nb_Gb ?_
  refine nb_W.imp (nb_Hu H) (fun r M4 H => ?_)
  obtain ⟨rfl, W5, H⟩ := H
  replace H := nb_Hw H
  show nb_W 23 1 [(19, 2)] [] M4 _
  have E6 : nb_rd M4 2 6 = 106 := W5.c6
  refine nb_Wg (q_c_asNow_1 _ _ (by omega)) ?_
  simp only [E6]
  clear E6
  refine nb_Gs ?_
  exact nb_Hu H

theorem w_c_fate_0 {l1 Ho : Int} {M : nb_M} {Q : List nb_V → nb_M → Prop} (W : nb_Lay M) (hHo : nb_hs Ho) (hx2 : M.1 2 2 = Ho) (H : (l1 < 0 → (nb_Lay (nb_wr M 2 15 1) → Q [(0, (-1))] (nb_wr M 2 15 1))) ∧ (0 ≤ l1 → 0 ≤ M.1 Ho 13 ∧ M.1 Ho 13 ≤ 10 ∧ (l1 < M.1 Ho 13 → nb_W 24 0 [(19, 2)] [] (nb_wr M 2 15 0) (fun r M10 => r = [(15, 106)] ∧ nb_Lay M10 ∧ M10.1 2 2 = Ho ∧ l1 < 10 ∧ (M10.1 (110 + l1) 8 = 2 → (nb_Lay M10 → Q [(0, 0)] M10)) ∧ (M10.1 (110 + l1) 8 = 3 → (nb_Lay M10 → Q [(0, 1)] M10)) ∧ (M10.1 (110 + l1) 8 = 4 → (nb_Lay M10 → Q [(0, 2)] M10)) ∧ (M10.1 (110 + l1) 8 = 5 → (nb_Lay M10 → Q [(0, 4)] M10)) ∧ (M10.1 (110 + l1) 8 ≠ 2 → M10.1 (110 + l1) 8 ≠ 3 → M10.1 (110 + l1) 8 ≠ 4 → M10.1 (110 + l1) 8 ≠ 5 → (nb_Lay M10 → Q [(0, 3)] M10)))) ∧ (M.1 Ho 13 ≤ l1 → (nb_Lay (nb_wr M 2 15 1) → Q [(0, (-1))] (nb_wr M 2 15 1))))) :
    nb_W 25 0 [(19, 2), (0, l1)] [] M Q := by
  replace H := nb_Hw H
  have uhHo := hHo
  unfold nb_hs at uhHo
  refine nb_Wg (q_c_fate_0 _ _ _ (by omega)) ?_
  refine nb_Gb ?_
  refine nb_Wg (q_c_isPerson_0 _ _ _) ?_
  refine nb_Gi (fun c25 => ?_) (fun c25 => ?_)
  · have H := nb_Hw ((nb_Hu H).1 c25)
    refine nb_Gr ?_
    refine nb_Wg (q_c_isPerson_3 _ _ _) ?_
    refine nb_Gr ?_
    have E1 : nb_i2z 0 = 0 := by decide
    refine nb_Wg (q_c_isPerson_4 _ _ _ _) ?_
    simp only [E1]
    clear E1
    refine nb_Gs ?_
    show nb_W 25 1 [(19, 2), (0, l1)] [(0, 0), (19, 2)] M _
    refine nb_Wg (q_c_fate_1 _ _ _ _ _ (by omega)) ?_
    refine nb_Gb ?_
    refine nb_Wg (q_c_granted_0 _ _ _ _) ?_
    refine nb_Gt (by decide) ?_
    refine nb_Gr ?_
    refine nb_Wg (q_c_granted_2 _ _ _ _ _) ?_
    refine nb_Gr ?_
    refine nb_Wg (q_c_granted_3 _ _ _ _ _ _ (by omega)) ?_
    have W2 : nb_Lay (nb_wr M 2 15 1) := W.wr (fun w => (nb_nlit (by decide) (by decide)))
    refine nb_Gr ?_
    have E3 : nb_i2z 0 = 0 := by decide
    refine nb_Wg (q_c_granted_4 _ _ _ _) ?_
    simp only [E3]
    clear E3
    refine nb_Gs ?_
    show nb_W 25 2 [(19, 2), (0, l1)] [(0, 0)] (nb_wr M 2 15 1) _
    refine nb_Wg (q_c_fate_2 _ _ _ _) ?_
    refine nb_Gt (by decide) ?_
    refine nb_Gr ?_
    refine nb_Wg (q_c_fate_3 _ _ _) ?_
    refine nb_Gs ?_
    exact nb_Hu H W2
  · have H := nb_Hw ((nb_Hu H).2 (by omega))
    have c25 : 0 ≤ l1 := by omega
    refine nb_Gr ?_
    obtain ⟨p0_, p1_, H⟩ := H
    replace H := nb_Hw H
    have E4 : nb_rd M 2 2 = Ho := hx2
    have E5 : nb_rd M Ho 13 = M.1 Ho 13 := nb_rd_1 _ _ _
    refine nb_Wg (q_c_isPerson_1 _ _ _ (by omega) (by rw [E4]; first | done | omega)) ?_
    simp only [E4, E5]
    clear E4 E5
    refine nb_Gi (fun c24 => ?_) (fun c24 => ?_)
    · have H := nb_Hw ((nb_Hu H).1 c24)
      refine nb_Gr ?_
      refine nb_Wg (q_c_isPerson_2 _ _ _) ?_
      refine nb_Gr ?_
      have E6 : nb_i2z 1 = 1 := by decide
      refine nb_Wg (q_c_isPerson_4 _ _ _ _) ?_
      simp only [E6]
      clear E6
      refine nb_Gs ?_
      show nb_W 25 1 [(19, 2), (0, l1)] [(0, 1), (19, 2)] M _
      refine nb_Wg (q_c_fate_1 _ _ _ _ _ (by omega)) ?_
      refine nb_Gb ?_
      refine nb_Wg (q_c_granted_0 _ _ _ _) ?_
      refine nb_Gf (by decide) ?_
      refine nb_Gr ?_
      refine nb_Wg (q_c_granted_1 _ _ _ _ _) ?_
      refine nb_Gr ?_
      refine nb_Wg (q_c_granted_3 _ _ _ _ _ _ (by omega)) ?_
      have W7 : nb_Lay (nb_wr M 2 15 0) := W.wr (fun w => (nb_nlit (by decide) (by decide)))
      refine nb_Gr ?_
      have E8 : nb_i2z 1 = 1 := by decide
      refine nb_Wg (q_c_granted_4 _ _ _ _) ?_
      simp only [E8]
      clear E8
      refine nb_Gs ?_
      show nb_W 25 2 [(19, 2), (0, l1)] [(0, 1)] (nb_wr M 2 15 0) _
      refine nb_Wg (q_c_fate_2 _ _ _ _) ?_
      refine nb_Gf (by decide) ?_
      refine nb_Gr ?_
      refine nb_Wg (q_c_fate_4 _ _ _ (by omega)) ?_
      refine nb_Gb ?_
      refine nb_W.imp (nb_Hu H) (fun r M10 H => ?_)
      obtain ⟨rfl, W11, g12, H⟩ := H
      replace H := nb_Hw H
      show nb_W 25 5 [(19, 2), (0, l1)] [(15, 106)] M10 _
      obtain ⟨p0_, H⟩ := H
      replace H := nb_Hw H
      have E13 : nb_rd M10 106 0 = 107 := W11.s0 (A := 106) nb_sc106
      have N14 : nb_ln M10 107 = 10 := W11.sn1 (A := 106) nb_sc106
      have E15 : nb_rd M10 107 l1 = 110 + l1 := W11.sg (A := 106) (i := l1) nb_sc106 (by omega) (by omega)
      have E16 : nb_rd M10 (110 + l1) 8 = M10.1 (110 + l1) 8 := nb_rd_1 _ _ _
      refine nb_Wg (q_c_fate_5 _ _ _ _ (by omega) (by rw [E13]; first | done | omega) (by omega) (by rw [E13, N14]; first | done | omega) (by rw [E13, E15]; first | done | omega)) ?_
      simp only [E13, E15, E16]
      clear E13 N14 E15 E16
      refine nb_Gi (fun c17 => ?_) (fun c17 => ?_)
      · have H := nb_Hw ((nb_Hu H).1 c17)
        refine nb_Gr ?_
        refine nb_Wg (q_c_fate_6 _ _ _) ?_
        refine nb_Gs ?_
        exact nb_Hu H W11
      refine nb_Gi (fun c18 => ?_) (fun c18 => ?_)
      · have H := nb_Hw ((nb_Hu H).2.1 c18)
        refine nb_Gr ?_
        refine nb_Wg (q_c_fate_7 _ _ _) ?_
        refine nb_Gs ?_
        exact nb_Hu H W11
      refine nb_Gi (fun c19 => ?_) (fun c19 => ?_)
      · have H := nb_Hw ((nb_Hu H).2.2.1 c19)
        refine nb_Gr ?_
        refine nb_Wg (q_c_fate_8 _ _ _) ?_
        refine nb_Gs ?_
        exact nb_Hu H W11
      refine nb_Gi (fun c20 => ?_) (fun c20 => ?_)
      · have H := nb_Hw ((nb_Hu H).2.2.2.1 c20)
        refine nb_Gr ?_
        refine nb_Wg (q_c_fate_9 _ _ _) ?_
        refine nb_Gs ?_
        exact nb_Hu H W11
      have H := nb_Hw ((nb_Hu H).2.2.2.2 (by omega) (by omega) (by omega) (by omega))
      refine nb_Gr ?_
      refine nb_Wg (q_c_fate_10 _ _ _) ?_
      refine nb_Gs ?_
      exact nb_Hu H W11
    · have H := nb_Hw ((nb_Hu H).2 (by omega))
      have c24 : M.1 Ho 13 ≤ l1 := by omega
      refine nb_Gr ?_
      refine nb_Wg (q_c_isPerson_3 _ _ _) ?_
      refine nb_Gr ?_
      have E21 : nb_i2z 0 = 0 := by decide
      refine nb_Wg (q_c_isPerson_4 _ _ _ _) ?_
      simp only [E21]
      clear E21
      refine nb_Gs ?_
      show nb_W 25 1 [(19, 2), (0, l1)] [(0, 0), (19, 2)] M _
      refine nb_Wg (q_c_fate_1 _ _ _ _ _ (by omega)) ?_
      refine nb_Gb ?_
      refine nb_Wg (q_c_granted_0 _ _ _ _) ?_
      refine nb_Gt (by decide) ?_
      refine nb_Gr ?_
      refine nb_Wg (q_c_granted_2 _ _ _ _ _) ?_
      refine nb_Gr ?_
      refine nb_Wg (q_c_granted_3 _ _ _ _ _ _ (by omega)) ?_
      have W22 : nb_Lay (nb_wr M 2 15 1) := W.wr (fun w => (nb_nlit (by decide) (by decide)))
      refine nb_Gr ?_
      have E23 : nb_i2z 0 = 0 := by decide
      refine nb_Wg (q_c_granted_4 _ _ _ _) ?_
      simp only [E23]
      clear E23
      refine nb_Gs ?_
      show nb_W 25 2 [(19, 2), (0, l1)] [(0, 0)] (nb_wr M 2 15 1) _
      refine nb_Wg (q_c_fate_2 _ _ _ _) ?_
      refine nb_Gt (by decide) ?_
      refine nb_Gr ?_
      refine nb_Wg (q_c_fate_3 _ _ _) ?_
      refine nb_Gs ?_
      exact nb_Hu H W22

theorem w_c_waits_0 {l1 Ho : Int} {M : nb_M} {Q : List nb_V → nb_M → Prop} (W : nb_Lay M) (hHo : nb_hs Ho) (hx2 : M.1 2 2 = Ho) (H : (l1 < 0 → (nb_Lay (nb_wr M 2 15 1) → Q [(0, (-1))] (nb_wr M 2 15 1))) ∧ (0 ≤ l1 → 0 ≤ M.1 Ho 13 ∧ M.1 Ho 13 ≤ 10 ∧ (l1 < M.1 Ho 13 → (M.1 (88 + l1) 8 = 5 → (nb_Lay (nb_wr M 2 15 0) → Q [(0, (-2))] (nb_wr M 2 15 0))) ∧ (M.1 (88 + l1) 8 ≠ 5 → nb_W 24 0 [(19, 2)] [] (nb_wr M 2 15 0) (fun r M15 => r = [(15, 106)] ∧ nb_Lay M15 ∧ M15.1 2 2 = Ho ∧ nb_W 266 0 [(15, 106), (0, l1), (98, 0)] [] M15 (fun r M19 => ∃ x18 : Int, r = [(0, x18)] ∧ nb_Lay M19 ∧ M19.1 2 2 = Ho ∧ (nb_Lay M19 → Q [(0, x18)] M19))))) ∧ (M.1 Ho 13 ≤ l1 → (nb_Lay (nb_wr M 2 15 1) → Q [(0, (-1))] (nb_wr M 2 15 1))))) :
    nb_W 26 0 [(19, 2), (0, l1)] [] M Q := by
  replace H := nb_Hw H
  have uhHo := hHo
  unfold nb_hs at uhHo
  refine nb_Wg (q_c_waits_0 _ _ _ (by omega)) ?_
  refine nb_Gb ?_
  refine nb_Wg (q_c_isPerson_0 _ _ _) ?_
  refine nb_Gi (fun c27 => ?_) (fun c27 => ?_)
  · have H := nb_Hw ((nb_Hu H).1 c27)
    refine nb_Gr ?_
    refine nb_Wg (q_c_isPerson_3 _ _ _) ?_
    refine nb_Gr ?_
    have E1 : nb_i2z 0 = 0 := by decide
    refine nb_Wg (q_c_isPerson_4 _ _ _ _) ?_
    simp only [E1]
    clear E1
    refine nb_Gs ?_
    show nb_W 26 1 [(19, 2), (0, l1)] [(0, 0), (19, 2)] M _
    refine nb_Wg (q_c_waits_1 _ _ _ _ _ (by omega)) ?_
    refine nb_Gb ?_
    refine nb_Wg (q_c_granted_0 _ _ _ _) ?_
    refine nb_Gt (by decide) ?_
    refine nb_Gr ?_
    refine nb_Wg (q_c_granted_2 _ _ _ _ _) ?_
    refine nb_Gr ?_
    refine nb_Wg (q_c_granted_3 _ _ _ _ _ _ (by omega)) ?_
    have W2 : nb_Lay (nb_wr M 2 15 1) := W.wr (fun w => (nb_nlit (by decide) (by decide)))
    refine nb_Gr ?_
    have E3 : nb_i2z 0 = 0 := by decide
    refine nb_Wg (q_c_granted_4 _ _ _ _) ?_
    simp only [E3]
    clear E3
    refine nb_Gs ?_
    show nb_W 26 2 [(19, 2), (0, l1)] [(0, 0)] (nb_wr M 2 15 1) _
    refine nb_Wg (q_c_waits_2 _ _ _ _) ?_
    refine nb_Gt (by decide) ?_
    refine nb_Gr ?_
    refine nb_Wg (q_c_waits_3 _ _ _) ?_
    refine nb_Gs ?_
    exact nb_Hu H W2
  · have H := nb_Hw ((nb_Hu H).2 (by omega))
    have c27 : 0 ≤ l1 := by omega
    refine nb_Gr ?_
    obtain ⟨p0_, p1_, H⟩ := H
    replace H := nb_Hw H
    have E4 : nb_rd M 2 2 = Ho := hx2
    have E5 : nb_rd M Ho 13 = M.1 Ho 13 := nb_rd_1 _ _ _
    refine nb_Wg (q_c_isPerson_1 _ _ _ (by omega) (by rw [E4]; first | done | omega)) ?_
    simp only [E4, E5]
    clear E4 E5
    refine nb_Gi (fun c26 => ?_) (fun c26 => ?_)
    · have H := nb_Hw ((nb_Hu H).1 c26)
      refine nb_Gr ?_
      refine nb_Wg (q_c_isPerson_2 _ _ _) ?_
      refine nb_Gr ?_
      have E6 : nb_i2z 1 = 1 := by decide
      refine nb_Wg (q_c_isPerson_4 _ _ _ _) ?_
      simp only [E6]
      clear E6
      refine nb_Gs ?_
      show nb_W 26 1 [(19, 2), (0, l1)] [(0, 1), (19, 2)] M _
      refine nb_Wg (q_c_waits_1 _ _ _ _ _ (by omega)) ?_
      refine nb_Gb ?_
      refine nb_Wg (q_c_granted_0 _ _ _ _) ?_
      refine nb_Gf (by decide) ?_
      refine nb_Gr ?_
      refine nb_Wg (q_c_granted_1 _ _ _ _ _) ?_
      refine nb_Gr ?_
      refine nb_Wg (q_c_granted_3 _ _ _ _ _ _ (by omega)) ?_
      have W7 : nb_Lay (nb_wr M 2 15 0) := W.wr (fun w => (nb_nlit (by decide) (by decide)))
      refine nb_Gr ?_
      have E8 : nb_i2z 1 = 1 := by decide
      refine nb_Wg (q_c_granted_4 _ _ _ _) ?_
      simp only [E8]
      clear E8
      refine nb_Gs ?_
      show nb_W 26 2 [(19, 2), (0, l1)] [(0, 1)] (nb_wr M 2 15 0) _
      refine nb_Wg (q_c_waits_2 _ _ _ _) ?_
      refine nb_Gf (by decide) ?_
      refine nb_Gr ?_
      have E9 : nb_rd (nb_wr M 2 15 0) 2 5 = 84 := W7.c5
      have E10 : nb_rd (nb_wr M 2 15 0) 84 0 = 85 := W7.s0 (A := 84) nb_sc84
      have N11 : nb_ln (nb_wr M 2 15 0) 85 = 10 := W7.sn1 (A := 84) nb_sc84
      have E12 : nb_rd (nb_wr M 2 15 0) 85 l1 = 88 + l1 := W7.sg (A := 84) (i := l1) nb_sc84 (by omega) (by omega)
      have E13 : nb_rd (nb_wr M 2 15 0) (88 + l1) 8 = M.1 (88 + l1) 8 := nb_rdw (Or.inr (by decide)) (nb_rd_1 _ _ _)
      refine nb_Wg (q_c_waits_4 _ _ _ (by omega) (by rw [E9]; first | done | omega) (by rw [E9, E10]; first | done | omega) (by omega) (by rw [E9, E10, N11]; first | done | omega) (by rw [E9, E10, E12]; first | done | omega)) ?_
      simp only [E9, E10, E12, E13]
      clear E9 E10 N11 E12 E13
      refine nb_Gi (fun c22 => ?_) (fun c22 => ?_)
      · have H := nb_Hw ((nb_Hu H).1 c22)
        refine nb_Gr ?_
        refine nb_Wg (q_c_waits_5 _ _ _) ?_
        refine nb_Gr ?_
        refine nb_Wg (q_c_waits_8 _ _ _ _) ?_
        refine nb_Gs ?_
        exact nb_Hu H W7
      · have H := nb_Hw ((nb_Hu H).2 (by omega))
        have c22 : M.1 (88 + l1) 8 ≠ 5 := by omega
        refine nb_Gr ?_
        refine nb_Wg (q_c_waits_6 _ _ _ (by omega)) ?_
        refine nb_Gb ?_
        refine nb_W.imp (nb_Hu H) (fun r M15 H => ?_)
        obtain ⟨rfl, W16, g17, H⟩ := H
        replace H := nb_Hw H
        show nb_W 26 7 [(19, 2), (0, l1)] [(15, 106)] M15 _
        refine nb_Wg (q_c_waits_7 _ _ _ _ (by omega)) ?_
        refine nb_Gb ?_
        refine nb_W.imp (nb_Hu H) (fun r M19 H => ?_)
        obtain ⟨x18, rfl, W20, g21, H⟩ := H
        replace H := nb_Hw H
        show nb_W 26 8 [(19, 2), (0, l1)] [(0, x18)] M19 _
        refine nb_Wg (q_c_waits_8 _ _ _ _) ?_
        refine nb_Gs ?_
        exact nb_Hu H W20
    · have H := nb_Hw ((nb_Hu H).2 (by omega))
      have c26 : M.1 Ho 13 ≤ l1 := by omega
      refine nb_Gr ?_
      refine nb_Wg (q_c_isPerson_3 _ _ _) ?_
      refine nb_Gr ?_
      have E23 : nb_i2z 0 = 0 := by decide
      refine nb_Wg (q_c_isPerson_4 _ _ _ _) ?_
      simp only [E23]
      clear E23
      refine nb_Gs ?_
      show nb_W 26 1 [(19, 2), (0, l1)] [(0, 0), (19, 2)] M _
      refine nb_Wg (q_c_waits_1 _ _ _ _ _ (by omega)) ?_
      refine nb_Gb ?_
      refine nb_Wg (q_c_granted_0 _ _ _ _) ?_
      refine nb_Gt (by decide) ?_
      refine nb_Gr ?_
      refine nb_Wg (q_c_granted_2 _ _ _ _ _) ?_
      refine nb_Gr ?_
      refine nb_Wg (q_c_granted_3 _ _ _ _ _ _ (by omega)) ?_
      have W24 : nb_Lay (nb_wr M 2 15 1) := W.wr (fun w => (nb_nlit (by decide) (by decide)))
      refine nb_Gr ?_
      have E25 : nb_i2z 0 = 0 := by decide
      refine nb_Wg (q_c_granted_4 _ _ _ _) ?_
      simp only [E25]
      clear E25
      refine nb_Gs ?_
      show nb_W 26 2 [(19, 2), (0, l1)] [(0, 0)] (nb_wr M 2 15 1) _
      refine nb_Wg (q_c_waits_2 _ _ _ _) ?_
      refine nb_Gt (by decide) ?_
      refine nb_Gr ?_
      refine nb_Wg (q_c_waits_3 _ _ _) ?_
      refine nb_Gs ?_
      exact nb_Hu H W24

theorem w_c_whom_0 {l1 Ho : Int} {M : nb_M} {Q : List nb_V → nb_M → Prop} (W : nb_Lay M) (hHo : nb_hs Ho) (hx2 : M.1 2 2 = Ho) (H : (l1 < 0 → (nb_Lay (nb_wr M 2 15 1) → Q [(0, (-1))] (nb_wr M 2 15 1))) ∧ (0 ≤ l1 → 0 ≤ M.1 Ho 13 ∧ M.1 Ho 13 ≤ 10 ∧ (l1 < M.1 Ho 13 → nb_W 24 0 [(19, 2)] [] (nb_wr M 2 15 0) (fun r M10 => r = [(15, 106)] ∧ nb_Lay M10 ∧ M10.1 2 2 = Ho ∧ l1 < 10 ∧ (nb_Lay M10 → Q [(0, M10.1 (110 + l1) 12)] M10))) ∧ (M.1 Ho 13 ≤ l1 → (nb_Lay (nb_wr M 2 15 1) → Q [(0, (-1))] (nb_wr M 2 15 1))))) :
    nb_W 27 0 [(19, 2), (0, l1)] [] M Q := by
  replace H := nb_Hw H
  have uhHo := hHo
  unfold nb_hs at uhHo
  refine nb_Wg (q_c_whom_0 _ _ _ (by omega)) ?_
  refine nb_Gb ?_
  refine nb_Wg (q_c_isPerson_0 _ _ _) ?_
  refine nb_Gi (fun c21 => ?_) (fun c21 => ?_)
  · have H := nb_Hw ((nb_Hu H).1 c21)
    refine nb_Gr ?_
    refine nb_Wg (q_c_isPerson_3 _ _ _) ?_
    refine nb_Gr ?_
    have E1 : nb_i2z 0 = 0 := by decide
    refine nb_Wg (q_c_isPerson_4 _ _ _ _) ?_
    simp only [E1]
    clear E1
    refine nb_Gs ?_
    show nb_W 27 1 [(19, 2), (0, l1)] [(0, 0), (19, 2)] M _
    refine nb_Wg (q_c_whom_1 _ _ _ _ _ (by omega)) ?_
    refine nb_Gb ?_
    refine nb_Wg (q_c_granted_0 _ _ _ _) ?_
    refine nb_Gt (by decide) ?_
    refine nb_Gr ?_
    refine nb_Wg (q_c_granted_2 _ _ _ _ _) ?_
    refine nb_Gr ?_
    refine nb_Wg (q_c_granted_3 _ _ _ _ _ _ (by omega)) ?_
    have W2 : nb_Lay (nb_wr M 2 15 1) := W.wr (fun w => (nb_nlit (by decide) (by decide)))
    refine nb_Gr ?_
    have E3 : nb_i2z 0 = 0 := by decide
    refine nb_Wg (q_c_granted_4 _ _ _ _) ?_
    simp only [E3]
    clear E3
    refine nb_Gs ?_
    show nb_W 27 2 [(19, 2), (0, l1)] [(0, 0)] (nb_wr M 2 15 1) _
    refine nb_Wg (q_c_whom_2 _ _ _ _) ?_
    refine nb_Gt (by decide) ?_
    refine nb_Gr ?_
    refine nb_Wg (q_c_whom_5 _ _ _) ?_
    refine nb_Gr ?_
    refine nb_Wg (q_c_whom_6 _ _ _ _) ?_
    refine nb_Gs ?_
    exact nb_Hu H W2
  · have H := nb_Hw ((nb_Hu H).2 (by omega))
    have c21 : 0 ≤ l1 := by omega
    refine nb_Gr ?_
    obtain ⟨p0_, p1_, H⟩ := H
    replace H := nb_Hw H
    have E4 : nb_rd M 2 2 = Ho := hx2
    have E5 : nb_rd M Ho 13 = M.1 Ho 13 := nb_rd_1 _ _ _
    refine nb_Wg (q_c_isPerson_1 _ _ _ (by omega) (by rw [E4]; first | done | omega)) ?_
    simp only [E4, E5]
    clear E4 E5
    refine nb_Gi (fun c20 => ?_) (fun c20 => ?_)
    · have H := nb_Hw ((nb_Hu H).1 c20)
      refine nb_Gr ?_
      refine nb_Wg (q_c_isPerson_2 _ _ _) ?_
      refine nb_Gr ?_
      have E6 : nb_i2z 1 = 1 := by decide
      refine nb_Wg (q_c_isPerson_4 _ _ _ _) ?_
      simp only [E6]
      clear E6
      refine nb_Gs ?_
      show nb_W 27 1 [(19, 2), (0, l1)] [(0, 1), (19, 2)] M _
      refine nb_Wg (q_c_whom_1 _ _ _ _ _ (by omega)) ?_
      refine nb_Gb ?_
      refine nb_Wg (q_c_granted_0 _ _ _ _) ?_
      refine nb_Gf (by decide) ?_
      refine nb_Gr ?_
      refine nb_Wg (q_c_granted_1 _ _ _ _ _) ?_
      refine nb_Gr ?_
      refine nb_Wg (q_c_granted_3 _ _ _ _ _ _ (by omega)) ?_
      have W7 : nb_Lay (nb_wr M 2 15 0) := W.wr (fun w => (nb_nlit (by decide) (by decide)))
      refine nb_Gr ?_
      have E8 : nb_i2z 1 = 1 := by decide
      refine nb_Wg (q_c_granted_4 _ _ _ _) ?_
      simp only [E8]
      clear E8
      refine nb_Gs ?_
      show nb_W 27 2 [(19, 2), (0, l1)] [(0, 1)] (nb_wr M 2 15 0) _
      refine nb_Wg (q_c_whom_2 _ _ _ _) ?_
      refine nb_Gf (by decide) ?_
      refine nb_Gr ?_
      refine nb_Wg (q_c_whom_3 _ _ _ (by omega)) ?_
      refine nb_Gb ?_
      refine nb_W.imp (nb_Hu H) (fun r M10 H => ?_)
      obtain ⟨rfl, W11, g12, H⟩ := H
      replace H := nb_Hw H
      show nb_W 27 4 [(19, 2), (0, l1)] [(15, 106)] M10 _
      obtain ⟨p0_, H⟩ := H
      replace H := nb_Hw H
      have E13 : nb_rd M10 106 0 = 107 := W11.s0 (A := 106) nb_sc106
      have N14 : nb_ln M10 107 = 10 := W11.sn1 (A := 106) nb_sc106
      have E15 : nb_rd M10 107 l1 = 110 + l1 := W11.sg (A := 106) (i := l1) nb_sc106 (by omega) (by omega)
      have E16 : nb_rd M10 (110 + l1) 12 = M10.1 (110 + l1) 12 := nb_rd_1 _ _ _
      refine nb_Wg (q_c_whom_4 _ _ _ _ (by omega) (by rw [E13]; first | done | omega) (by omega) (by rw [E13, N14]; first | done | omega) (by rw [E13, E15]; first | done | omega)) ?_
      simp only [E13, E15, E16]
      clear E13 N14 E15 E16
      refine nb_Gr ?_
      refine nb_Wg (q_c_whom_6 _ _ _ _) ?_
      refine nb_Gs ?_
      exact nb_Hu H W11
    · have H := nb_Hw ((nb_Hu H).2 (by omega))
      have c20 : M.1 Ho 13 ≤ l1 := by omega
      refine nb_Gr ?_
      refine nb_Wg (q_c_isPerson_3 _ _ _) ?_
      refine nb_Gr ?_
      have E17 : nb_i2z 0 = 0 := by decide
      refine nb_Wg (q_c_isPerson_4 _ _ _ _) ?_
      simp only [E17]
      clear E17
      refine nb_Gs ?_
      show nb_W 27 1 [(19, 2), (0, l1)] [(0, 0), (19, 2)] M _
      refine nb_Wg (q_c_whom_1 _ _ _ _ _ (by omega)) ?_
      refine nb_Gb ?_
      refine nb_Wg (q_c_granted_0 _ _ _ _) ?_
      refine nb_Gt (by decide) ?_
      refine nb_Gr ?_
      refine nb_Wg (q_c_granted_2 _ _ _ _ _) ?_
      refine nb_Gr ?_
      refine nb_Wg (q_c_granted_3 _ _ _ _ _ _ (by omega)) ?_
      have W18 : nb_Lay (nb_wr M 2 15 1) := W.wr (fun w => (nb_nlit (by decide) (by decide)))
      refine nb_Gr ?_
      have E19 : nb_i2z 0 = 0 := by decide
      refine nb_Wg (q_c_granted_4 _ _ _ _) ?_
      simp only [E19]
      clear E19
      refine nb_Gs ?_
      show nb_W 27 2 [(19, 2), (0, l1)] [(0, 0)] (nb_wr M 2 15 1) _
      refine nb_Wg (q_c_whom_2 _ _ _ _) ?_
      refine nb_Gt (by decide) ?_
      refine nb_Gr ?_
      refine nb_Wg (q_c_whom_5 _ _ _) ?_
      refine nb_Gr ?_
      refine nb_Wg (q_c_whom_6 _ _ _ _) ?_
      refine nb_Gs ?_
      exact nb_Hu H W18

theorem w_c_has_0 {l1 Ho : Int} {M : nb_M} {Q : List nb_V → nb_M → Prop} (W : nb_Lay M) (hHo : nb_hs Ho) (hx2 : M.1 2 2 = Ho) (H : (l1 < 0 → (nb_Lay (nb_wr M 2 15 1) → Q [(0, (-1))] (nb_wr M 2 15 1))) ∧ (0 ≤ l1 → 0 ≤ M.1 Ho 13 ∧ M.1 Ho 13 ≤ 10 ∧ (l1 < M.1 Ho 13 → nb_W 24 0 [(19, 2)] [] (nb_wr M 2 15 0) (fun r M10 => r = [(15, 106)] ∧ nb_Lay M10 ∧ M10.1 2 2 = Ho ∧ l1 < 10 ∧ (nb_Lay M10 → Q [(0, M10.1 (110 + l1) 10)] M10))) ∧ (M.1 Ho 13 ≤ l1 → (nb_Lay (nb_wr M 2 15 1) → Q [(0, (-1))] (nb_wr M 2 15 1))))) :
    nb_W 28 0 [(19, 2), (0, l1)] [] M Q := by
  replace H := nb_Hw H
  have uhHo := hHo
  unfold nb_hs at uhHo
  refine nb_Wg (q_c_has_0 _ _ _ (by omega)) ?_
  refine nb_Gb ?_
  refine nb_Wg (q_c_isPerson_0 _ _ _) ?_
  refine nb_Gi (fun c21 => ?_) (fun c21 => ?_)
  · have H := nb_Hw ((nb_Hu H).1 c21)
    refine nb_Gr ?_
    refine nb_Wg (q_c_isPerson_3 _ _ _) ?_
    refine nb_Gr ?_
    have E1 : nb_i2z 0 = 0 := by decide
    refine nb_Wg (q_c_isPerson_4 _ _ _ _) ?_
    simp only [E1]
    clear E1
    refine nb_Gs ?_
    show nb_W 28 1 [(19, 2), (0, l1)] [(0, 0), (19, 2)] M _
    refine nb_Wg (q_c_has_1 _ _ _ _ _ (by omega)) ?_
    refine nb_Gb ?_
    refine nb_Wg (q_c_granted_0 _ _ _ _) ?_
    refine nb_Gt (by decide) ?_
    refine nb_Gr ?_
    refine nb_Wg (q_c_granted_2 _ _ _ _ _) ?_
    refine nb_Gr ?_
    refine nb_Wg (q_c_granted_3 _ _ _ _ _ _ (by omega)) ?_
    have W2 : nb_Lay (nb_wr M 2 15 1) := W.wr (fun w => (nb_nlit (by decide) (by decide)))
    refine nb_Gr ?_
    have E3 : nb_i2z 0 = 0 := by decide
    refine nb_Wg (q_c_granted_4 _ _ _ _) ?_
    simp only [E3]
    clear E3
    refine nb_Gs ?_
    show nb_W 28 2 [(19, 2), (0, l1)] [(0, 0)] (nb_wr M 2 15 1) _
    refine nb_Wg (q_c_has_2 _ _ _ _) ?_
    refine nb_Gt (by decide) ?_
    refine nb_Gr ?_
    refine nb_Wg (q_c_has_5 _ _ _) ?_
    refine nb_Gr ?_
    refine nb_Wg (q_c_has_6 _ _ _ _) ?_
    refine nb_Gs ?_
    exact nb_Hu H W2
  · have H := nb_Hw ((nb_Hu H).2 (by omega))
    have c21 : 0 ≤ l1 := by omega
    refine nb_Gr ?_
    obtain ⟨p0_, p1_, H⟩ := H
    replace H := nb_Hw H
    have E4 : nb_rd M 2 2 = Ho := hx2
    have E5 : nb_rd M Ho 13 = M.1 Ho 13 := nb_rd_1 _ _ _
    refine nb_Wg (q_c_isPerson_1 _ _ _ (by omega) (by rw [E4]; first | done | omega)) ?_
    simp only [E4, E5]
    clear E4 E5
    refine nb_Gi (fun c20 => ?_) (fun c20 => ?_)
    · have H := nb_Hw ((nb_Hu H).1 c20)
      refine nb_Gr ?_
      refine nb_Wg (q_c_isPerson_2 _ _ _) ?_
      refine nb_Gr ?_
      have E6 : nb_i2z 1 = 1 := by decide
      refine nb_Wg (q_c_isPerson_4 _ _ _ _) ?_
      simp only [E6]
      clear E6
      refine nb_Gs ?_
      show nb_W 28 1 [(19, 2), (0, l1)] [(0, 1), (19, 2)] M _
      refine nb_Wg (q_c_has_1 _ _ _ _ _ (by omega)) ?_
      refine nb_Gb ?_
      refine nb_Wg (q_c_granted_0 _ _ _ _) ?_
      refine nb_Gf (by decide) ?_
      refine nb_Gr ?_
      refine nb_Wg (q_c_granted_1 _ _ _ _ _) ?_
      refine nb_Gr ?_
      refine nb_Wg (q_c_granted_3 _ _ _ _ _ _ (by omega)) ?_
      have W7 : nb_Lay (nb_wr M 2 15 0) := W.wr (fun w => (nb_nlit (by decide) (by decide)))
      refine nb_Gr ?_
      have E8 : nb_i2z 1 = 1 := by decide
      refine nb_Wg (q_c_granted_4 _ _ _ _) ?_
      simp only [E8]
      clear E8
      refine nb_Gs ?_
      show nb_W 28 2 [(19, 2), (0, l1)] [(0, 1)] (nb_wr M 2 15 0) _
      refine nb_Wg (q_c_has_2 _ _ _ _) ?_
      refine nb_Gf (by decide) ?_
      refine nb_Gr ?_
      refine nb_Wg (q_c_has_3 _ _ _ (by omega)) ?_
      refine nb_Gb ?_
      refine nb_W.imp (nb_Hu H) (fun r M10 H => ?_)
      obtain ⟨rfl, W11, g12, H⟩ := H
      replace H := nb_Hw H
      show nb_W 28 4 [(19, 2), (0, l1)] [(15, 106)] M10 _
      obtain ⟨p0_, H⟩ := H
      replace H := nb_Hw H
      have E13 : nb_rd M10 106 0 = 107 := W11.s0 (A := 106) nb_sc106
      have N14 : nb_ln M10 107 = 10 := W11.sn1 (A := 106) nb_sc106
      have E15 : nb_rd M10 107 l1 = 110 + l1 := W11.sg (A := 106) (i := l1) nb_sc106 (by omega) (by omega)
      have E16 : nb_rd M10 (110 + l1) 10 = M10.1 (110 + l1) 10 := nb_rd_1 _ _ _
      refine nb_Wg (q_c_has_4 _ _ _ _ (by omega) (by rw [E13]; first | done | omega) (by omega) (by rw [E13, N14]; first | done | omega) (by rw [E13, E15]; first | done | omega)) ?_
      simp only [E13, E15, E16]
      clear E13 N14 E15 E16
      refine nb_Gr ?_
      refine nb_Wg (q_c_has_6 _ _ _ _) ?_
      refine nb_Gs ?_
      exact nb_Hu H W11
    · have H := nb_Hw ((nb_Hu H).2 (by omega))
      have c20 : M.1 Ho 13 ≤ l1 := by omega
      refine nb_Gr ?_
      refine nb_Wg (q_c_isPerson_3 _ _ _) ?_
      refine nb_Gr ?_
      have E17 : nb_i2z 0 = 0 := by decide
      refine nb_Wg (q_c_isPerson_4 _ _ _ _) ?_
      simp only [E17]
      clear E17
      refine nb_Gs ?_
      show nb_W 28 1 [(19, 2), (0, l1)] [(0, 0), (19, 2)] M _
      refine nb_Wg (q_c_has_1 _ _ _ _ _ (by omega)) ?_
      refine nb_Gb ?_
      refine nb_Wg (q_c_granted_0 _ _ _ _) ?_
      refine nb_Gt (by decide) ?_
      refine nb_Gr ?_
      refine nb_Wg (q_c_granted_2 _ _ _ _ _) ?_
      refine nb_Gr ?_
      refine nb_Wg (q_c_granted_3 _ _ _ _ _ _ (by omega)) ?_
      have W18 : nb_Lay (nb_wr M 2 15 1) := W.wr (fun w => (nb_nlit (by decide) (by decide)))
      refine nb_Gr ?_
      have E19 : nb_i2z 0 = 0 := by decide
      refine nb_Wg (q_c_granted_4 _ _ _ _) ?_
      simp only [E19]
      clear E19
      refine nb_Gs ?_
      show nb_W 28 2 [(19, 2), (0, l1)] [(0, 0)] (nb_wr M 2 15 1) _
      refine nb_Wg (q_c_has_2 _ _ _ _) ?_
      refine nb_Gt (by decide) ?_
      refine nb_Gr ?_
      refine nb_Wg (q_c_has_5 _ _ _) ?_
      refine nb_Gr ?_
      refine nb_Wg (q_c_has_6 _ _ _ _) ?_
      refine nb_Gs ?_
      exact nb_Hu H W18

theorem w_c_passed_0 {l1 Ho : Int} {M : nb_M} {Q : List nb_V → nb_M → Prop} (W : nb_Lay M) (hHo : nb_hs Ho) (hx2 : M.1 2 2 = Ho) (H : (l1 < 0 → (nb_Lay (nb_wr M 2 15 1) → Q [(0, (-1))] (nb_wr M 2 15 1))) ∧ (0 ≤ l1 → 0 ≤ M.1 Ho 13 ∧ M.1 Ho 13 ≤ 10 ∧ (l1 < M.1 Ho 13 → nb_W 24 0 [(19, 2)] [] (nb_wr M 2 15 0) (fun r M10 => r = [(15, 106)] ∧ nb_Lay M10 ∧ M10.1 2 2 = Ho ∧ l1 < 10 ∧ (nb_Lay M10 → Q [(0, M10.1 (110 + l1) 13)] M10))) ∧ (M.1 Ho 13 ≤ l1 → (nb_Lay (nb_wr M 2 15 1) → Q [(0, (-1))] (nb_wr M 2 15 1))))) :
    nb_W 29 0 [(19, 2), (0, l1)] [] M Q := by
  replace H := nb_Hw H
  have uhHo := hHo
  unfold nb_hs at uhHo
  refine nb_Wg (q_c_passed_0 _ _ _ (by omega)) ?_
  refine nb_Gb ?_
  refine nb_Wg (q_c_isPerson_0 _ _ _) ?_
  refine nb_Gi (fun c21 => ?_) (fun c21 => ?_)
  · have H := nb_Hw ((nb_Hu H).1 c21)
    refine nb_Gr ?_
    refine nb_Wg (q_c_isPerson_3 _ _ _) ?_
    refine nb_Gr ?_
    have E1 : nb_i2z 0 = 0 := by decide
    refine nb_Wg (q_c_isPerson_4 _ _ _ _) ?_
    simp only [E1]
    clear E1
    refine nb_Gs ?_
    show nb_W 29 1 [(19, 2), (0, l1)] [(0, 0), (19, 2)] M _
    refine nb_Wg (q_c_passed_1 _ _ _ _ _ (by omega)) ?_
    refine nb_Gb ?_
    refine nb_Wg (q_c_granted_0 _ _ _ _) ?_
    refine nb_Gt (by decide) ?_
    refine nb_Gr ?_
    refine nb_Wg (q_c_granted_2 _ _ _ _ _) ?_
    refine nb_Gr ?_
    refine nb_Wg (q_c_granted_3 _ _ _ _ _ _ (by omega)) ?_
    have W2 : nb_Lay (nb_wr M 2 15 1) := W.wr (fun w => (nb_nlit (by decide) (by decide)))
    refine nb_Gr ?_
    have E3 : nb_i2z 0 = 0 := by decide
    refine nb_Wg (q_c_granted_4 _ _ _ _) ?_
    simp only [E3]
    clear E3
    refine nb_Gs ?_
    show nb_W 29 2 [(19, 2), (0, l1)] [(0, 0)] (nb_wr M 2 15 1) _
    refine nb_Wg (q_c_passed_2 _ _ _ _) ?_
    refine nb_Gt (by decide) ?_
    refine nb_Gr ?_
    refine nb_Wg (q_c_passed_5 _ _ _) ?_
    refine nb_Gr ?_
    refine nb_Wg (q_c_passed_6 _ _ _ _) ?_
    refine nb_Gs ?_
    exact nb_Hu H W2
  · have H := nb_Hw ((nb_Hu H).2 (by omega))
    have c21 : 0 ≤ l1 := by omega
    refine nb_Gr ?_
    obtain ⟨p0_, p1_, H⟩ := H
    replace H := nb_Hw H
    have E4 : nb_rd M 2 2 = Ho := hx2
    have E5 : nb_rd M Ho 13 = M.1 Ho 13 := nb_rd_1 _ _ _
    refine nb_Wg (q_c_isPerson_1 _ _ _ (by omega) (by rw [E4]; first | done | omega)) ?_
    simp only [E4, E5]
    clear E4 E5
    refine nb_Gi (fun c20 => ?_) (fun c20 => ?_)
    · have H := nb_Hw ((nb_Hu H).1 c20)
      refine nb_Gr ?_
      refine nb_Wg (q_c_isPerson_2 _ _ _) ?_
      refine nb_Gr ?_
      have E6 : nb_i2z 1 = 1 := by decide
      refine nb_Wg (q_c_isPerson_4 _ _ _ _) ?_
      simp only [E6]
      clear E6
      refine nb_Gs ?_
      show nb_W 29 1 [(19, 2), (0, l1)] [(0, 1), (19, 2)] M _
      refine nb_Wg (q_c_passed_1 _ _ _ _ _ (by omega)) ?_
      refine nb_Gb ?_
      refine nb_Wg (q_c_granted_0 _ _ _ _) ?_
      refine nb_Gf (by decide) ?_
      refine nb_Gr ?_
      refine nb_Wg (q_c_granted_1 _ _ _ _ _) ?_
      refine nb_Gr ?_
      refine nb_Wg (q_c_granted_3 _ _ _ _ _ _ (by omega)) ?_
      have W7 : nb_Lay (nb_wr M 2 15 0) := W.wr (fun w => (nb_nlit (by decide) (by decide)))
      refine nb_Gr ?_
      have E8 : nb_i2z 1 = 1 := by decide
      refine nb_Wg (q_c_granted_4 _ _ _ _) ?_
      simp only [E8]
      clear E8
      refine nb_Gs ?_
      show nb_W 29 2 [(19, 2), (0, l1)] [(0, 1)] (nb_wr M 2 15 0) _
      refine nb_Wg (q_c_passed_2 _ _ _ _) ?_
      refine nb_Gf (by decide) ?_
      refine nb_Gr ?_
      refine nb_Wg (q_c_passed_3 _ _ _ (by omega)) ?_
      refine nb_Gb ?_
      refine nb_W.imp (nb_Hu H) (fun r M10 H => ?_)
      obtain ⟨rfl, W11, g12, H⟩ := H
      replace H := nb_Hw H
      show nb_W 29 4 [(19, 2), (0, l1)] [(15, 106)] M10 _
      obtain ⟨p0_, H⟩ := H
      replace H := nb_Hw H
      have E13 : nb_rd M10 106 0 = 107 := W11.s0 (A := 106) nb_sc106
      have N14 : nb_ln M10 107 = 10 := W11.sn1 (A := 106) nb_sc106
      have E15 : nb_rd M10 107 l1 = 110 + l1 := W11.sg (A := 106) (i := l1) nb_sc106 (by omega) (by omega)
      have E16 : nb_rd M10 (110 + l1) 13 = M10.1 (110 + l1) 13 := nb_rd_1 _ _ _
      refine nb_Wg (q_c_passed_4 _ _ _ _ (by omega) (by rw [E13]; first | done | omega) (by omega) (by rw [E13, N14]; first | done | omega) (by rw [E13, E15]; first | done | omega)) ?_
      simp only [E13, E15, E16]
      clear E13 N14 E15 E16
      refine nb_Gr ?_
      refine nb_Wg (q_c_passed_6 _ _ _ _) ?_
      refine nb_Gs ?_
      exact nb_Hu H W11
    · have H := nb_Hw ((nb_Hu H).2 (by omega))
      have c20 : M.1 Ho 13 ≤ l1 := by omega
      refine nb_Gr ?_
      refine nb_Wg (q_c_isPerson_3 _ _ _) ?_
      refine nb_Gr ?_
      have E17 : nb_i2z 0 = 0 := by decide
      refine nb_Wg (q_c_isPerson_4 _ _ _ _) ?_
      simp only [E17]
      clear E17
      refine nb_Gs ?_
      show nb_W 29 1 [(19, 2), (0, l1)] [(0, 0), (19, 2)] M _
      refine nb_Wg (q_c_passed_1 _ _ _ _ _ (by omega)) ?_
      refine nb_Gb ?_
      refine nb_Wg (q_c_granted_0 _ _ _ _) ?_
      refine nb_Gt (by decide) ?_
      refine nb_Gr ?_
      refine nb_Wg (q_c_granted_2 _ _ _ _ _) ?_
      refine nb_Gr ?_
      refine nb_Wg (q_c_granted_3 _ _ _ _ _ _ (by omega)) ?_
      have W18 : nb_Lay (nb_wr M 2 15 1) := W.wr (fun w => (nb_nlit (by decide) (by decide)))
      refine nb_Gr ?_
      have E19 : nb_i2z 0 = 0 := by decide
      refine nb_Wg (q_c_granted_4 _ _ _ _) ?_
      simp only [E19]
      clear E19
      refine nb_Gs ?_
      show nb_W 29 2 [(19, 2), (0, l1)] [(0, 0)] (nb_wr M 2 15 1) _
      refine nb_Wg (q_c_passed_2 _ _ _ _) ?_
      refine nb_Gt (by decide) ?_
      refine nb_Gr ?_
      refine nb_Wg (q_c_passed_5 _ _ _) ?_
      refine nb_Gr ?_
      refine nb_Wg (q_c_passed_6 _ _ _ _) ?_
      refine nb_Gs ?_
      exact nb_Hu H W18

theorem w_c_pushed_0 {l1 Ho : Int} {M : nb_M} {Q : List nb_V → nb_M → Prop} (W : nb_Lay M) (hHo : nb_hs Ho) (hx2 : M.1 2 2 = Ho) (H : (l1 < 0 → (nb_Lay (nb_wr M 2 15 1) → Q [(0, (-1))] (nb_wr M 2 15 1))) ∧ (0 ≤ l1 → 0 ≤ M.1 Ho 13 ∧ M.1 Ho 13 ≤ 10 ∧ (l1 < M.1 Ho 13 → nb_W 24 0 [(19, 2)] [] (nb_wr M 2 15 0) (fun r M10 => r = [(15, 106)] ∧ nb_Lay M10 ∧ M10.1 2 2 = Ho ∧ l1 < 10 ∧ (nb_Lay M10 → Q [(0, M10.1 (110 + l1) 14)] M10))) ∧ (M.1 Ho 13 ≤ l1 → (nb_Lay (nb_wr M 2 15 1) → Q [(0, (-1))] (nb_wr M 2 15 1))))) :
    nb_W 30 0 [(19, 2), (0, l1)] [] M Q := by
  replace H := nb_Hw H
  have uhHo := hHo
  unfold nb_hs at uhHo
  refine nb_Wg (q_c_pushed_0 _ _ _ (by omega)) ?_
  refine nb_Gb ?_
  refine nb_Wg (q_c_isPerson_0 _ _ _) ?_
  refine nb_Gi (fun c21 => ?_) (fun c21 => ?_)
  · have H := nb_Hw ((nb_Hu H).1 c21)
    refine nb_Gr ?_
    refine nb_Wg (q_c_isPerson_3 _ _ _) ?_
    refine nb_Gr ?_
    have E1 : nb_i2z 0 = 0 := by decide
    refine nb_Wg (q_c_isPerson_4 _ _ _ _) ?_
    simp only [E1]
    clear E1
    refine nb_Gs ?_
    show nb_W 30 1 [(19, 2), (0, l1)] [(0, 0), (19, 2)] M _
    refine nb_Wg (q_c_pushed_1 _ _ _ _ _ (by omega)) ?_
    refine nb_Gb ?_
    refine nb_Wg (q_c_granted_0 _ _ _ _) ?_
    refine nb_Gt (by decide) ?_
    refine nb_Gr ?_
    refine nb_Wg (q_c_granted_2 _ _ _ _ _) ?_
    refine nb_Gr ?_
    refine nb_Wg (q_c_granted_3 _ _ _ _ _ _ (by omega)) ?_
    have W2 : nb_Lay (nb_wr M 2 15 1) := W.wr (fun w => (nb_nlit (by decide) (by decide)))
    refine nb_Gr ?_
    have E3 : nb_i2z 0 = 0 := by decide
    refine nb_Wg (q_c_granted_4 _ _ _ _) ?_
    simp only [E3]
    clear E3
    refine nb_Gs ?_
    show nb_W 30 2 [(19, 2), (0, l1)] [(0, 0)] (nb_wr M 2 15 1) _
    refine nb_Wg (q_c_pushed_2 _ _ _ _) ?_
    refine nb_Gt (by decide) ?_
    refine nb_Gr ?_
    refine nb_Wg (q_c_pushed_5 _ _ _) ?_
    refine nb_Gr ?_
    refine nb_Wg (q_c_pushed_6 _ _ _ _) ?_
    refine nb_Gs ?_
    exact nb_Hu H W2
  · have H := nb_Hw ((nb_Hu H).2 (by omega))
    have c21 : 0 ≤ l1 := by omega
    refine nb_Gr ?_
    obtain ⟨p0_, p1_, H⟩ := H
    replace H := nb_Hw H
    have E4 : nb_rd M 2 2 = Ho := hx2
    have E5 : nb_rd M Ho 13 = M.1 Ho 13 := nb_rd_1 _ _ _
    refine nb_Wg (q_c_isPerson_1 _ _ _ (by omega) (by rw [E4]; first | done | omega)) ?_
    simp only [E4, E5]
    clear E4 E5
    refine nb_Gi (fun c20 => ?_) (fun c20 => ?_)
    · have H := nb_Hw ((nb_Hu H).1 c20)
      refine nb_Gr ?_
      refine nb_Wg (q_c_isPerson_2 _ _ _) ?_
      refine nb_Gr ?_
      have E6 : nb_i2z 1 = 1 := by decide
      refine nb_Wg (q_c_isPerson_4 _ _ _ _) ?_
      simp only [E6]
      clear E6
      refine nb_Gs ?_
      show nb_W 30 1 [(19, 2), (0, l1)] [(0, 1), (19, 2)] M _
      refine nb_Wg (q_c_pushed_1 _ _ _ _ _ (by omega)) ?_
      refine nb_Gb ?_
      refine nb_Wg (q_c_granted_0 _ _ _ _) ?_
      refine nb_Gf (by decide) ?_
      refine nb_Gr ?_
      refine nb_Wg (q_c_granted_1 _ _ _ _ _) ?_
      refine nb_Gr ?_
      refine nb_Wg (q_c_granted_3 _ _ _ _ _ _ (by omega)) ?_
      have W7 : nb_Lay (nb_wr M 2 15 0) := W.wr (fun w => (nb_nlit (by decide) (by decide)))
      refine nb_Gr ?_
      have E8 : nb_i2z 1 = 1 := by decide
      refine nb_Wg (q_c_granted_4 _ _ _ _) ?_
      simp only [E8]
      clear E8
      refine nb_Gs ?_
      show nb_W 30 2 [(19, 2), (0, l1)] [(0, 1)] (nb_wr M 2 15 0) _
      refine nb_Wg (q_c_pushed_2 _ _ _ _) ?_
      refine nb_Gf (by decide) ?_
      refine nb_Gr ?_
      refine nb_Wg (q_c_pushed_3 _ _ _ (by omega)) ?_
      refine nb_Gb ?_
      refine nb_W.imp (nb_Hu H) (fun r M10 H => ?_)
      obtain ⟨rfl, W11, g12, H⟩ := H
      replace H := nb_Hw H
      show nb_W 30 4 [(19, 2), (0, l1)] [(15, 106)] M10 _
      obtain ⟨p0_, H⟩ := H
      replace H := nb_Hw H
      have E13 : nb_rd M10 106 0 = 107 := W11.s0 (A := 106) nb_sc106
      have N14 : nb_ln M10 107 = 10 := W11.sn1 (A := 106) nb_sc106
      have E15 : nb_rd M10 107 l1 = 110 + l1 := W11.sg (A := 106) (i := l1) nb_sc106 (by omega) (by omega)
      have E16 : nb_rd M10 (110 + l1) 14 = M10.1 (110 + l1) 14 := nb_rd_1 _ _ _
      refine nb_Wg (q_c_pushed_4 _ _ _ _ (by omega) (by rw [E13]; first | done | omega) (by omega) (by rw [E13, N14]; first | done | omega) (by rw [E13, E15]; first | done | omega)) ?_
      simp only [E13, E15, E16]
      clear E13 N14 E15 E16
      refine nb_Gr ?_
      refine nb_Wg (q_c_pushed_6 _ _ _ _) ?_
      refine nb_Gs ?_
      exact nb_Hu H W11
    · have H := nb_Hw ((nb_Hu H).2 (by omega))
      have c20 : M.1 Ho 13 ≤ l1 := by omega
      refine nb_Gr ?_
      refine nb_Wg (q_c_isPerson_3 _ _ _) ?_
      refine nb_Gr ?_
      have E17 : nb_i2z 0 = 0 := by decide
      refine nb_Wg (q_c_isPerson_4 _ _ _ _) ?_
      simp only [E17]
      clear E17
      refine nb_Gs ?_
      show nb_W 30 1 [(19, 2), (0, l1)] [(0, 0), (19, 2)] M _
      refine nb_Wg (q_c_pushed_1 _ _ _ _ _ (by omega)) ?_
      refine nb_Gb ?_
      refine nb_Wg (q_c_granted_0 _ _ _ _) ?_
      refine nb_Gt (by decide) ?_
      refine nb_Gr ?_
      refine nb_Wg (q_c_granted_2 _ _ _ _ _) ?_
      refine nb_Gr ?_
      refine nb_Wg (q_c_granted_3 _ _ _ _ _ _ (by omega)) ?_
      have W18 : nb_Lay (nb_wr M 2 15 1) := W.wr (fun w => (nb_nlit (by decide) (by decide)))
      refine nb_Gr ?_
      have E19 : nb_i2z 0 = 0 := by decide
      refine nb_Wg (q_c_granted_4 _ _ _ _) ?_
      simp only [E19]
      clear E19
      refine nb_Gs ?_
      show nb_W 30 2 [(19, 2), (0, l1)] [(0, 0)] (nb_wr M 2 15 1) _
      refine nb_Wg (q_c_pushed_2 _ _ _ _) ?_
      refine nb_Gt (by decide) ?_
      refine nb_Gr ?_
      refine nb_Wg (q_c_pushed_5 _ _ _) ?_
      refine nb_Gr ?_
      refine nb_Wg (q_c_pushed_6 _ _ _ _) ?_
      refine nb_Gs ?_
      exact nb_Hu H W18

theorem w_c_sum_0 {l1 Ho : Int} {M : nb_M} {Q : List nb_V → nb_M → Prop} (W : nb_Lay M) (hHo : nb_hs Ho) (hx2 : M.1 2 2 = Ho) (H : 0 ≤ M.1 Ho 13 ∧ M.1 Ho 13 ≤ 10 ∧ (0 < M.1 Ho 13 → (l1 < 0 → (nb_Lay (nb_wr M 2 15 1) → Q [(0, (-1))] (nb_wr M 2 15 1))) ∧ (0 ≤ l1 → (l1 < 6 → nb_W 24 0 [(19, 2)] [] (nb_wr M 2 15 0) (fun r M11 => r = [(15, 106)] ∧ nb_Lay M11 ∧ M11.1 2 2 = Ho ∧ nb_W 268 0 [(15, 106), (0, l1)] [] M11 (fun r M15 => ∃ x14 : Int, r = [(0, x14)] ∧ nb_Lay M15 ∧ M15.1 2 2 = Ho ∧ (nb_Lay M15 → Q [(0, x14)] M15)))) ∧ (6 ≤ l1 → (nb_Lay (nb_wr M 2 15 1) → Q [(0, (-1))] (nb_wr M 2 15 1))))) ∧ (M.1 Ho 13 ≤ 0 → (nb_Lay (nb_wr M 2 15 1) → Q [(0, (-1))] (nb_wr M 2 15 1)))) :
    nb_W 31 0 [(19, 2), (0, l1)] [] M Q := by
  replace H := nb_Hw H
  have uhHo := hHo
  unfold nb_hs at uhHo
  refine nb_Wg (q_c_sum_0 _ _ _ (by omega)) ?_
  refine nb_Gb ?_
  refine nb_Wg (q_c_isSum_0 _ _ _ (by omega)) ?_
  refine nb_Gb ?_
  obtain ⟨p0_, p1_, H⟩ := H
  replace H := nb_Hw H
  have E1 : nb_rd M 2 2 = Ho := hx2
  have E2 : nb_rd M Ho 13 = M.1 Ho 13 := nb_rd_1 _ _ _
  refine nb_Wg (q_c_isOpen_0 _ _ (by omega) (by rw [E1]; first | done | omega)) ?_
  simp only [E1, E2]
  clear E1 E2
  refine nb_Gi (fun c27 => ?_) (fun c27 => ?_)
  · have H := nb_Hw ((nb_Hu H).1 c27)
    refine nb_Gr ?_
    refine nb_Wg (q_c_isOpen_1 _ _) ?_
    refine nb_Gr ?_
    have E3 : nb_i2z 1 = 1 := by decide
    refine nb_Wg (q_c_isOpen_3 _ _ _) ?_
    simp only [E3]
    clear E3
    refine nb_Gs ?_
    show nb_W 13 1 [(19, 2), (0, l1)] [(0, 1)] M _
    refine nb_Wg (q_c_isSum_1 _ _ _ _) ?_
    refine nb_Gf (by decide) ?_
    refine nb_Gr ?_
    refine nb_Wg (q_c_isSum_2 _ _ _) ?_
    refine nb_Gi (fun c22 => ?_) (fun c22 => ?_)
    · have H := nb_Hw ((nb_Hu H).1 c22)
      refine nb_Gr ?_
      refine nb_Wg (q_c_isSum_5 _ _ _) ?_
      refine nb_Gr ?_
      have E4 : nb_i2z 0 = 0 := by decide
      refine nb_Wg (q_c_isSum_6 _ _ _ _) ?_
      simp only [E4]
      clear E4
      refine nb_Gs ?_
      show nb_W 31 1 [(19, 2), (0, l1)] [(0, 0), (19, 2)] M _
      refine nb_Wg (q_c_sum_1 _ _ _ _ _ (by omega)) ?_
      refine nb_Gb ?_
      refine nb_Wg (q_c_granted_0 _ _ _ _) ?_
      refine nb_Gt (by decide) ?_
      refine nb_Gr ?_
      refine nb_Wg (q_c_granted_2 _ _ _ _ _) ?_
      refine nb_Gr ?_
      refine nb_Wg (q_c_granted_3 _ _ _ _ _ _ (by omega)) ?_
      have W5 : nb_Lay (nb_wr M 2 15 1) := W.wr (fun w => (nb_nlit (by decide) (by decide)))
      refine nb_Gr ?_
      have E6 : nb_i2z 0 = 0 := by decide
      refine nb_Wg (q_c_granted_4 _ _ _ _) ?_
      simp only [E6]
      clear E6
      refine nb_Gs ?_
      show nb_W 31 2 [(19, 2), (0, l1)] [(0, 0)] (nb_wr M 2 15 1) _
      refine nb_Wg (q_c_sum_2 _ _ _ _) ?_
      refine nb_Gt (by decide) ?_
      refine nb_Gr ?_
      refine nb_Wg (q_c_sum_6 _ _ _) ?_
      refine nb_Gr ?_
      refine nb_Wg (q_c_sum_7 _ _ _ _) ?_
      refine nb_Gs ?_
      exact nb_Hu H W5
    · have H := nb_Hw ((nb_Hu H).2 (by omega))
      have c22 : 0 ≤ l1 := by omega
      refine nb_Gr ?_
      refine nb_Wg (q_c_isSum_3 _ _ _) ?_
      refine nb_Gi (fun c21 => ?_) (fun c21 => ?_)
      · have H := nb_Hw ((nb_Hu H).1 c21)
        refine nb_Gr ?_
        refine nb_Wg (q_c_isSum_4 _ _ _) ?_
        refine nb_Gr ?_
        have E7 : nb_i2z 1 = 1 := by decide
        refine nb_Wg (q_c_isSum_6 _ _ _ _) ?_
        simp only [E7]
        clear E7
        refine nb_Gs ?_
        show nb_W 31 1 [(19, 2), (0, l1)] [(0, 1), (19, 2)] M _
        refine nb_Wg (q_c_sum_1 _ _ _ _ _ (by omega)) ?_
        refine nb_Gb ?_
        refine nb_Wg (q_c_granted_0 _ _ _ _) ?_
        refine nb_Gf (by decide) ?_
        refine nb_Gr ?_
        refine nb_Wg (q_c_granted_1 _ _ _ _ _) ?_
        refine nb_Gr ?_
        refine nb_Wg (q_c_granted_3 _ _ _ _ _ _ (by omega)) ?_
        have W8 : nb_Lay (nb_wr M 2 15 0) := W.wr (fun w => (nb_nlit (by decide) (by decide)))
        refine nb_Gr ?_
        have E9 : nb_i2z 1 = 1 := by decide
        refine nb_Wg (q_c_granted_4 _ _ _ _) ?_
        simp only [E9]
        clear E9
        refine nb_Gs ?_
        show nb_W 31 2 [(19, 2), (0, l1)] [(0, 1)] (nb_wr M 2 15 0) _
        refine nb_Wg (q_c_sum_2 _ _ _ _) ?_
        refine nb_Gf (by decide) ?_
        refine nb_Gr ?_
        refine nb_Wg (q_c_sum_3 _ _ _ (by omega)) ?_
        refine nb_Gb ?_
        refine nb_W.imp (nb_Hu H) (fun r M11 H => ?_)
        obtain ⟨rfl, W12, g13, H⟩ := H
        replace H := nb_Hw H
        show nb_W 31 4 [(19, 2), (0, l1)] [(15, 106)] M11 _
        refine nb_Wg (q_c_sum_4 _ _ _ _ (by omega)) ?_
        refine nb_Gb ?_
        refine nb_W.imp (nb_Hu H) (fun r M15 H => ?_)
        obtain ⟨x14, rfl, W16, g17, H⟩ := H
        replace H := nb_Hw H
        show nb_W 31 5 [(19, 2), (0, l1)] [(0, x14)] M15 _
        refine nb_Wg (q_c_sum_5 _ _ _ _) ?_
        refine nb_Gr ?_
        refine nb_Wg (q_c_sum_7 _ _ _ _) ?_
        refine nb_Gs ?_
        exact nb_Hu H W16
      · have H := nb_Hw ((nb_Hu H).2 (by omega))
        have c21 : 6 ≤ l1 := by omega
        refine nb_Gr ?_
        refine nb_Wg (q_c_isSum_5 _ _ _) ?_
        refine nb_Gr ?_
        have E18 : nb_i2z 0 = 0 := by decide
        refine nb_Wg (q_c_isSum_6 _ _ _ _) ?_
        simp only [E18]
        clear E18
        refine nb_Gs ?_
        show nb_W 31 1 [(19, 2), (0, l1)] [(0, 0), (19, 2)] M _
        refine nb_Wg (q_c_sum_1 _ _ _ _ _ (by omega)) ?_
        refine nb_Gb ?_
        refine nb_Wg (q_c_granted_0 _ _ _ _) ?_
        refine nb_Gt (by decide) ?_
        refine nb_Gr ?_
        refine nb_Wg (q_c_granted_2 _ _ _ _ _) ?_
        refine nb_Gr ?_
        refine nb_Wg (q_c_granted_3 _ _ _ _ _ _ (by omega)) ?_
        have W19 : nb_Lay (nb_wr M 2 15 1) := W.wr (fun w => (nb_nlit (by decide) (by decide)))
        refine nb_Gr ?_
        have E20 : nb_i2z 0 = 0 := by decide
        refine nb_Wg (q_c_granted_4 _ _ _ _) ?_
        simp only [E20]
        clear E20
        refine nb_Gs ?_
        show nb_W 31 2 [(19, 2), (0, l1)] [(0, 0)] (nb_wr M 2 15 1) _
        refine nb_Wg (q_c_sum_2 _ _ _ _) ?_
        refine nb_Gt (by decide) ?_
        refine nb_Gr ?_
        refine nb_Wg (q_c_sum_6 _ _ _) ?_
        refine nb_Gr ?_
        refine nb_Wg (q_c_sum_7 _ _ _ _) ?_
        refine nb_Gs ?_
        exact nb_Hu H W19
  · have H := nb_Hw ((nb_Hu H).2 (by omega))
    have c27 : M.1 Ho 13 ≤ 0 := by omega
    refine nb_Gr ?_
    refine nb_Wg (q_c_isOpen_2 _ _) ?_
    refine nb_Gr ?_
    have E23 : nb_i2z 0 = 0 := by decide
    refine nb_Wg (q_c_isOpen_3 _ _ _) ?_
    simp only [E23]
    clear E23
    refine nb_Gs ?_
    show nb_W 13 1 [(19, 2), (0, l1)] [(0, 0)] M _
    refine nb_Wg (q_c_isSum_1 _ _ _ _) ?_
    refine nb_Gt (by decide) ?_
    refine nb_Gr ?_
    refine nb_Wg (q_c_isSum_5 _ _ _) ?_
    refine nb_Gr ?_
    have E24 : nb_i2z 0 = 0 := by decide
    refine nb_Wg (q_c_isSum_6 _ _ _ _) ?_
    simp only [E24]
    clear E24
    refine nb_Gs ?_
    show nb_W 31 1 [(19, 2), (0, l1)] [(0, 0), (19, 2)] M _
    refine nb_Wg (q_c_sum_1 _ _ _ _ _ (by omega)) ?_
    refine nb_Gb ?_
    refine nb_Wg (q_c_granted_0 _ _ _ _) ?_
    refine nb_Gt (by decide) ?_
    refine nb_Gr ?_
    refine nb_Wg (q_c_granted_2 _ _ _ _ _) ?_
    refine nb_Gr ?_
    refine nb_Wg (q_c_granted_3 _ _ _ _ _ _ (by omega)) ?_
    have W25 : nb_Lay (nb_wr M 2 15 1) := W.wr (fun w => (nb_nlit (by decide) (by decide)))
    refine nb_Gr ?_
    have E26 : nb_i2z 0 = 0 := by decide
    refine nb_Wg (q_c_granted_4 _ _ _ _) ?_
    simp only [E26]
    clear E26
    refine nb_Gs ?_
    show nb_W 31 2 [(19, 2), (0, l1)] [(0, 0)] (nb_wr M 2 15 1) _
    refine nb_Wg (q_c_sum_2 _ _ _ _) ?_
    refine nb_Gt (by decide) ?_
    refine nb_Gr ?_
    refine nb_Wg (q_c_sum_6 _ _ _) ?_
    refine nb_Gr ?_
    refine nb_Wg (q_c_sum_7 _ _ _ _) ?_
    refine nb_Gs ?_
    exact nb_Hu H W25

theorem w_c_served_0 {l1 Ho : Int} {v2 : nb_V} {M : nb_M} {Q : List nb_V → nb_M → Prop} (W : nb_Lay M) (hHo : nb_hs Ho) (hx2 : M.1 2 2 = Ho) (H : nb_W 24 0 [(19, 2)] [] M (fun r M2 => r = [(15, 106)] ∧ nb_Lay M2 ∧ M2.1 2 2 = Ho ∧ (l1 < 0 → (nb_Lay (nb_wr M2 2 15 1) → Q [(0, (-1))] (nb_wr M2 2 15 1))) ∧ (0 ≤ l1 → (l1 < M2.1 106 6 → (l1 < 10 → (nb_Lay (nb_wr M2 2 15 0) → Q [(0, M2.1 109 l1)] (nb_wr M2 2 15 0))) ∧ (10 ≤ l1 → (nb_Lay (nb_wr M2 2 15 1) → Q [(0, (-1))] (nb_wr M2 2 15 1)))) ∧ (M2.1 106 6 ≤ l1 → (nb_Lay (nb_wr M2 2 15 1) → Q [(0, (-1))] (nb_wr M2 2 15 1)))))) :
    nb_W 32 0 [(19, 2), (0, l1), v2] [] M Q := by
  replace H := nb_Hw H
  have uhHo := hHo
  unfold nb_hs at uhHo
  refine nb_Wg (q_c_served_0 _ _ _ _ (by omega)) ?_
  refine nb_Gb ?_
  refine nb_W.imp (nb_Hu H) (fun r M2 H => ?_)
  obtain ⟨rfl, W3, g4, H⟩ := H
  replace H := nb_Hw H
  show nb_W 32 1 [(19, 2), (0, l1), v2] [(15, 106)] M2 _
  refine nb_Wg (q_c_served_1 _ _ _ _ _) ?_
  refine nb_Gi (fun c19 => ?_) (fun c19 => ?_)
  · have H := nb_Hw ((nb_Hu H).1 c19)
    refine nb_Gr ?_
    refine nb_Wg (q_c_served_5 _ _ _ _ _) ?_
    refine nb_Gr ?_
    refine nb_Wg (q_c_served_6 _ _ _ _ _ _ (by omega)) ?_
    refine nb_Gb ?_
    refine nb_Wg (q_c_granted_0 _ _ _ _) ?_
    refine nb_Gt (by decide) ?_
    refine nb_Gr ?_
    refine nb_Wg (q_c_granted_2 _ _ _ _ _) ?_
    refine nb_Gr ?_
    refine nb_Wg (q_c_granted_3 _ _ _ _ _ _ (by omega)) ?_
    have W5 : nb_Lay (nb_wr M2 2 15 1) := W3.wr (fun w => (nb_nlit (by decide) (by decide)))
    refine nb_Gr ?_
    have E6 : nb_i2z 0 = 0 := by decide
    refine nb_Wg (q_c_granted_4 _ _ _ _) ?_
    simp only [E6]
    clear E6
    refine nb_Gs ?_
    show nb_W 32 7 [(19, 2), (0, l1), (15, 106)] [(0, 0)] (nb_wr M2 2 15 1) _
    refine nb_Wg (q_c_served_7 _ _ _ _ _) ?_
    refine nb_Gt (by decide) ?_
    refine nb_Gr ?_
    refine nb_Wg (q_c_served_8 _ _ _ _) ?_
    refine nb_Gs ?_
    exact nb_Hu H W5
  · have H := nb_Hw ((nb_Hu H).2 (by omega))
    have c19 : 0 ≤ l1 := by omega
    refine nb_Gr ?_
    have E7 : nb_rd M2 106 6 = M2.1 106 6 := nb_rd_1 _ _ _
    refine nb_Wg (q_c_served_2 _ _ _ _ _ (by omega)) ?_
    simp only [E7]
    clear E7
    refine nb_Gi (fun c18 => ?_) (fun c18 => ?_)
    · have H := nb_Hw ((nb_Hu H).1 c18)
      refine nb_Gr ?_
      refine nb_Wg (q_c_served_3 _ _ _ _ _) ?_
      refine nb_Gi (fun c15 => ?_) (fun c15 => ?_)
      · have H := nb_Hw ((nb_Hu H).1 c15)
        refine nb_Gr ?_
        refine nb_Wg (q_c_served_4 _ _ _ _ _) ?_
        refine nb_Gr ?_
        refine nb_Wg (q_c_served_6 _ _ _ _ _ _ (by omega)) ?_
        refine nb_Gb ?_
        refine nb_Wg (q_c_granted_0 _ _ _ _) ?_
        refine nb_Gf (by decide) ?_
        refine nb_Gr ?_
        refine nb_Wg (q_c_granted_1 _ _ _ _ _) ?_
        refine nb_Gr ?_
        refine nb_Wg (q_c_granted_3 _ _ _ _ _ _ (by omega)) ?_
        have W8 : nb_Lay (nb_wr M2 2 15 0) := W3.wr (fun w => (nb_nlit (by decide) (by decide)))
        refine nb_Gr ?_
        have E9 : nb_i2z 1 = 1 := by decide
        refine nb_Wg (q_c_granted_4 _ _ _ _) ?_
        simp only [E9]
        clear E9
        refine nb_Gs ?_
        show nb_W 32 7 [(19, 2), (0, l1), (15, 106)] [(0, 1)] (nb_wr M2 2 15 0) _
        refine nb_Wg (q_c_served_7 _ _ _ _ _) ?_
        refine nb_Gf (by decide) ?_
        refine nb_Gr ?_
        have E10 : nb_rd (nb_wr M2 2 15 0) 106 2 = 109 := W8.s2 (A := 106) nb_sc106
        have N11 : nb_ln (nb_wr M2 2 15 0) 109 = 10 := W8.sn3 (A := 106) nb_sc106
        have E12 : nb_rd (nb_wr M2 2 15 0) 109 l1 = M2.1 109 l1 := nb_rdw (Or.inl (by decide)) (nb_rd_1 _ _ _)
        refine nb_Wg (q_c_served_9 _ _ _ _ (by omega) (by rw [E10]; first | done | omega) (by omega) (by rw [E10, N11]; first | done | omega)) ?_
        simp only [E10, E12]
        clear E10 N11 E12
        refine nb_Gs ?_
        exact nb_Hu H W8
      · have H := nb_Hw ((nb_Hu H).2 (by omega))
        have c15 : 10 ≤ l1 := by omega
        refine nb_Gr ?_
        refine nb_Wg (q_c_served_5 _ _ _ _ _) ?_
        refine nb_Gr ?_
        refine nb_Wg (q_c_served_6 _ _ _ _ _ _ (by omega)) ?_
        refine nb_Gb ?_
        refine nb_Wg (q_c_granted_0 _ _ _ _) ?_
        refine nb_Gt (by decide) ?_
        refine nb_Gr ?_
        refine nb_Wg (q_c_granted_2 _ _ _ _ _) ?_
        refine nb_Gr ?_
        refine nb_Wg (q_c_granted_3 _ _ _ _ _ _ (by omega)) ?_
        have W13 : nb_Lay (nb_wr M2 2 15 1) := W3.wr (fun w => (nb_nlit (by decide) (by decide)))
        refine nb_Gr ?_
        have E14 : nb_i2z 0 = 0 := by decide
        refine nb_Wg (q_c_granted_4 _ _ _ _) ?_
        simp only [E14]
        clear E14
        refine nb_Gs ?_
        show nb_W 32 7 [(19, 2), (0, l1), (15, 106)] [(0, 0)] (nb_wr M2 2 15 1) _
        refine nb_Wg (q_c_served_7 _ _ _ _ _) ?_
        refine nb_Gt (by decide) ?_
        refine nb_Gr ?_
        refine nb_Wg (q_c_served_8 _ _ _ _) ?_
        refine nb_Gs ?_
        exact nb_Hu H W13
    · have H := nb_Hw ((nb_Hu H).2 (by omega))
      have c18 : M2.1 106 6 ≤ l1 := by omega
      refine nb_Gr ?_
      refine nb_Wg (q_c_served_5 _ _ _ _ _) ?_
      refine nb_Gr ?_
      refine nb_Wg (q_c_served_6 _ _ _ _ _ _ (by omega)) ?_
      refine nb_Gb ?_
      refine nb_Wg (q_c_granted_0 _ _ _ _) ?_
      refine nb_Gt (by decide) ?_
      refine nb_Gr ?_
      refine nb_Wg (q_c_granted_2 _ _ _ _ _) ?_
      refine nb_Gr ?_
      refine nb_Wg (q_c_granted_3 _ _ _ _ _ _ (by omega)) ?_
      have W16 : nb_Lay (nb_wr M2 2 15 1) := W3.wr (fun w => (nb_nlit (by decide) (by decide)))
      refine nb_Gr ?_
      have E17 : nb_i2z 0 = 0 := by decide
      refine nb_Wg (q_c_granted_4 _ _ _ _) ?_
      simp only [E17]
      clear E17
      refine nb_Gs ?_
      show nb_W 32 7 [(19, 2), (0, l1), (15, 106)] [(0, 0)] (nb_wr M2 2 15 1) _
      refine nb_Wg (q_c_served_7 _ _ _ _ _) ?_
      refine nb_Gt (by decide) ?_
      refine nb_Gr ?_
      refine nb_Wg (q_c_served_8 _ _ _ _) ?_
      refine nb_Gs ?_
      exact nb_Hu H W16
