/-! rules, printed by wip/gen -/
theorem w_c_totalBy_2 {l1 l2 l3 l5 Ho : Int} {M : nb_M} {Q : List nb_V → nb_M → Prop} (W : nb_Lay M) (hHo : nb_hs Ho) (hx2 : M.1 2 2 = Ho) (b0_ : 0 ≤ l5 ∧ l5 ≤ 3) (H : 0 ≤ M.1 Ho 12 ∧ M.1 Ho 12 ≤ 3 ∧ (l5 < M.1 Ho 12 → (l2 = 0 → nb_W 34 2 [(19, 2), (0, l1), (0, l2), (0, l3), (15, 106), (0, l5 + 1)] [] (nb_wr M (120 + 2 * l5) 1 l1) Q) ∧ (l2 ≠ 0 → 0 ≤ M.1 Ho 9 ∧ M.1 Ho 9 ≤ 20 ∧ nb_W 34 2 [(19, 2), (0, l1), (0, l2), (0, l3), (15, 106), (0, l5 + 1)] [] (nb_wr (nb_wr (nb_wr M (120 + 2 * l5) 1 l1) (120 + 2 * l5) 3 0) (120 + 2 * l5) 4 (M.1 Ho 9 - 1)) Q)) ∧ (M.1 Ho 12 ≤ l5 → nb_W 257 0 [(15, 106), (0, M.1 106 8), (98, 0), (98, 0)] [] M (fun r M20 => r = [] ∧ nb_Lay M20 ∧ M20.1 2 2 = Ho ∧ nb_W 268 0 [(15, 106), (0, l3)] [] M20 (fun r M24 => ∃ x23 : Int, r = [(0, x23)] ∧ nb_Lay M24 ∧ M24.1 2 2 = Ho ∧ (nb_Lay M24 → Q [(0, x23)] M24))))) :
    nb_W 34 2 [(19, 2), (0, l1), (0, l2), (0, l3), (15, 106), (0, l5)] [] M Q := by
  replace H := nb_Hw H
  have uhHo := hHo
  unfold nb_hs at uhHo
  obtain ⟨p0_, p1_, H⟩ := H
  replace H := nb_Hw H
  have E1 : nb_rd M 2 2 = Ho := hx2
  have E2 : nb_rd M Ho 12 = M.1 Ho 12 := nb_rd_1 _ _ _
  refine nb_Wg (q_c_totalBy_2 _ _ _ _ _ _ _ (by omega) (by rw [E1]; first | done | omega)) ?_
  simp only [E1, E2]
  clear E1 E2
  refine nb_Gi (fun c27 => ?_) (fun c27 => ?_)
  · have H := nb_Hw ((nb_Hu H).1 c27)
    refine nb_Gr ?_
    have E3 : nb_rd M 106 1 = 108 := W.s1 (A := 106) nb_sc106
    have N4 : nb_ln M 108 = 4 := W.sn2 (A := 106) nb_sc106
    have E5 : nb_rd M 108 l5 = 120 + 2 * l5 := W.sv (A := 106) (i := l5) nb_sc106 (by omega) (by omega)
    refine nb_Wg (q_c_totalBy_3 _ _ _ _ _ _ _ (by omega) (by rw [E3]; first | done | omega) (by omega) (by rw [E3, N4]; first | done | omega) (by rw [E3, E5]; first | done | omega)) ?_
    simp only [E3, E5]
    clear E3 N4 E5
    have W6 : nb_Lay (nb_wr M (120 + 2 * l5) 1 l1) := W.wr (fun w => (nb_nsv (A := 106) (i := l5) nb_sc106 (by omega) (by omega) (by omega)))
    refine nb_Gr ?_
    refine nb_Wg (q_c_totalBy_4 _ _ _ _ _ _ _) ?_
    refine nb_Gi (fun c17 => ?_) (fun c17 => ?_)
    · have H := nb_Hw ((nb_Hu H).1 c17)
      refine nb_Gr ?_
      have E7 : nb_add l5 1 = l5 + 1 := nb_add_eq (by omega) (by omega)
      refine nb_Wg (q_c_totalBy_6 _ _ _ _ _ _ _) ?_
      simp only [E7]
      clear E7
      refine nb_Gr ?_
      exact nb_Hu H
    · have H := nb_Hw ((nb_Hu H).2 (by omega))
      have c17 : l2 ≠ 0 := by omega
      refine nb_Gr ?_
      obtain ⟨p0_, p1_, H⟩ := H
      replace H := nb_Hw H
      have E8 : nb_rd (nb_wr M (120 + 2 * l5) 1 l1) 106 1 = 108 := W6.s1 (A := 106) nb_sc106
      have N9 : nb_ln (nb_wr M (120 + 2 * l5) 1 l1) 108 = 4 := W6.sn2 (A := 106) nb_sc106
      have E10 : nb_rd (nb_wr M (120 + 2 * l5) 1 l1) 108 l5 = 120 + 2 * l5 := W6.sv (A := 106) (i := l5) nb_sc106 (by omega) (by omega)
      have E11 : nb_rd (nb_wr M (120 + 2 * l5) 1 l1) 2 2 = Ho := nb_rdw (Or.inr (by decide)) (hx2)
      have E12 : nb_rd (nb_wr M (120 + 2 * l5) 1 l1) Ho 9 = M.1 Ho 9 := nb_rdw (Or.inr (by decide)) (nb_rd_1 _ _ _)
      have E13 : nb_sub (M.1 Ho 9) 1 = M.1 Ho 9 - 1 := nb_sub_eq (by omega) (by omega)
      refine nb_Wg (q_c_totalBy_5 _ _ _ _ _ _ _ (by omega) (by rw [E8]; first | done | omega) (by omega) (by rw [E8, N9]; first | done | omega) (by omega) (by rw [E11]; first | done | omega) (by rw [E8, E10]; first | done | omega)) ?_
      simp only [E8, E10, E11, E12, E13]
      clear E8 N9 E10 E11 E12 E13
      refine nb_Gb ?_
      refine nb_Wg (q_sv_stretch_0 _ _ _ _ (by omega)) ?_
      have W14 : nb_Lay (nb_wr (nb_wr M (120 + 2 * l5) 1 l1) (120 + 2 * l5) 3 0) := W6.wr (fun w => (nb_nsv (A := 106) (i := l5) nb_sc106 (by omega) (by omega) (by omega)))
      refine nb_Gr ?_
      refine nb_Wg (q_sv_stretch_1 _ _ _ _ (by omega)) ?_
      have W15 : nb_Lay (nb_wr (nb_wr (nb_wr M (120 + 2 * l5) 1 l1) (120 + 2 * l5) 3 0) (120 + 2 * l5) 4 (M.1 Ho 9 - 1)) := W14.wr (fun w => (nb_nsv (A := 106) (i := l5) nb_sc106 (by omega) (by omega) (by omega)))
      refine nb_Gr ?_
      refine nb_Wg (q_sv_stretch_2 _ _ _ _) ?_
      refine nb_Gs ?_
      show nb_W 34 6 [(19, 2), (0, l1), (0, l2), (0, l3), (15, 106), (0, l5)] [] (nb_wr (nb_wr (nb_wr M (120 + 2 * l5) 1 l1) (120 + 2 * l5) 3 0) (120 + 2 * l5) 4 (M.1 Ho 9 - 1)) _
      have E16 : nb_add l5 1 = l5 + 1 := nb_add_eq (by omega) (by omega)
      refine nb_Wg (q_c_totalBy_6 _ _ _ _ _ _ _) ?_
      simp only [E16]
      clear E16
      refine nb_Gr ?_
      exact nb_Hu H
  · have H := nb_Hw ((nb_Hu H).2 (by omega))
    have c27 : M.1 Ho 12 ≤ l5 := by omega
    refine nb_Gr ?_
    have E18 : nb_rd M 106 8 = M.1 106 8 := nb_rd_1 _ _ _
    refine nb_Wg (q_c_totalBy_7 _ _ _ _ _ _ _ (by omega)) ?_
    simp only [E18]
    clear E18
    refine nb_Gb ?_
    refine nb_W.imp (nb_Hu H) (fun r M20 H => ?_)
    obtain ⟨rfl, W21, g22, H⟩ := H
    replace H := nb_Hw H
    show nb_W 34 8 [(19, 2), (0, l1), (0, l2), (0, l3), (15, 106), (0, l5)] [] M20 _
    refine nb_Wg (q_c_totalBy_8 _ _ _ _ _ _ _ (by omega)) ?_
    refine nb_Gb ?_
    refine nb_W.imp (nb_Hu H) (fun r M24 H => ?_)
    obtain ⟨x23, rfl, W25, g26, H⟩ := H
    replace H := nb_Hw H
    show nb_W 34 9 [(19, 2), (0, l1), (0, l2), (0, l3), (15, 106), (0, l5)] [(0, x23)] M24 _
    refine nb_Wg (q_c_totalBy_9 _ _ _ _ _ _ _ _) ?_
    refine nb_Gs ?_
    exact nb_Hu H W25

theorem w_c_bestRule_0 {l1 Ho : Int} {v2 v3 v4 v5 : nb_V} {M : nb_M} {Q : List nb_V → nb_M → Prop} (W : nb_Lay M) (hHo : nb_hs Ho) (hx2 : M.1 2 2 = Ho) (H : 0 ≤ M.1 Ho 13 ∧ M.1 Ho 13 ≤ 10 ∧ (0 < M.1 Ho 13 → nb_W 35 5 [(19, 2), (0, l1), (0, 0), (0, 1000000), (0, 0), v5] [] (nb_wr M 2 15 0) Q) ∧ (M.1 Ho 13 ≤ 0 → (nb_Lay (nb_wr M 2 15 1) → Q [(0, (-1))] (nb_wr M 2 15 1)))) :
    nb_W 35 0 [(19, 2), (0, l1), v2, v3, v4, v5] [] M Q := by
  replace H := nb_Hw H
  have uhHo := hHo
  unfold nb_hs at uhHo
  refine nb_Wg (q_c_bestRule_0 _ _ _ _ _ _ _ (by omega)) ?_
  refine nb_Gb ?_
  obtain ⟨p0_, p1_, H⟩ := H
  replace H := nb_Hw H
  have E1 : nb_rd M 2 2 = Ho := hx2
  have E2 : nb_rd M Ho 13 = M.1 Ho 13 := nb_rd_1 _ _ _
  refine nb_Wg (q_c_isOpen_0 _ _ (by omega) (by rw [E1]; first | done | omega)) ?_
  simp only [E1, E2]
  clear E1 E2
  refine nb_Gi (fun c9 => ?_) (fun c9 => ?_)
  · have H := nb_Hw ((nb_Hu H).1 c9)
    refine nb_Gr ?_
    refine nb_Wg (q_c_isOpen_1 _ _) ?_
    refine nb_Gr ?_
    have E3 : nb_i2z 1 = 1 := by decide
    refine nb_Wg (q_c_isOpen_3 _ _ _) ?_
    simp only [E3]
    clear E3
    refine nb_Gs ?_
    show nb_W 35 1 [(19, 2), (0, l1), v2, v3, v4, v5] [(0, 1), (19, 2)] M _
    refine nb_Wg (q_c_bestRule_1 _ _ _ _ _ _ _ _ _ (by omega)) ?_
    refine nb_Gb ?_
    refine nb_Wg (q_c_granted_0 _ _ _ _) ?_
    refine nb_Gf (by decide) ?_
    refine nb_Gr ?_
    refine nb_Wg (q_c_granted_1 _ _ _ _ _) ?_
    refine nb_Gr ?_
    refine nb_Wg (q_c_granted_3 _ _ _ _ _ _ (by omega)) ?_
    have W4 : nb_Lay (nb_wr M 2 15 0) := W.wr (fun w => (nb_nlit (by decide) (by decide)))
    refine nb_Gr ?_
    have E5 : nb_i2z 1 = 1 := by decide
    refine nb_Wg (q_c_granted_4 _ _ _ _) ?_
    simp only [E5]
    clear E5
    refine nb_Gs ?_
    show nb_W 35 2 [(19, 2), (0, l1), v2, v3, v4, v5] [(0, 1)] (nb_wr M 2 15 0) _
    refine nb_Wg (q_c_bestRule_2 _ _ _ _ _ _ _ _) ?_
    refine nb_Gf (by decide) ?_
    refine nb_Gr ?_
    refine nb_Wg (q_c_bestRule_4 _ _ _ _ _ _ _) ?_
    refine nb_Gr ?_
    exact nb_Hu H
  · have H := nb_Hw ((nb_Hu H).2 (by omega))
    have c9 : M.1 Ho 13 ≤ 0 := by omega
    refine nb_Gr ?_
    refine nb_Wg (q_c_isOpen_2 _ _) ?_
    refine nb_Gr ?_
    have E6 : nb_i2z 0 = 0 := by decide
    refine nb_Wg (q_c_isOpen_3 _ _ _) ?_
    simp only [E6]
    clear E6
    refine nb_Gs ?_
    show nb_W 35 1 [(19, 2), (0, l1), v2, v3, v4, v5] [(0, 0), (19, 2)] M _
    refine nb_Wg (q_c_bestRule_1 _ _ _ _ _ _ _ _ _ (by omega)) ?_
    refine nb_Gb ?_
    refine nb_Wg (q_c_granted_0 _ _ _ _) ?_
    refine nb_Gt (by decide) ?_
    refine nb_Gr ?_
    refine nb_Wg (q_c_granted_2 _ _ _ _ _) ?_
    refine nb_Gr ?_
    refine nb_Wg (q_c_granted_3 _ _ _ _ _ _ (by omega)) ?_
    have W7 : nb_Lay (nb_wr M 2 15 1) := W.wr (fun w => (nb_nlit (by decide) (by decide)))
    refine nb_Gr ?_
    have E8 : nb_i2z 0 = 0 := by decide
    refine nb_Wg (q_c_granted_4 _ _ _ _) ?_
    simp only [E8]
    clear E8
    refine nb_Gs ?_
    show nb_W 35 2 [(19, 2), (0, l1), v2, v3, v4, v5] [(0, 0)] (nb_wr M 2 15 1) _
    refine nb_Wg (q_c_bestRule_2 _ _ _ _ _ _ _ _) ?_
    refine nb_Gt (by decide) ?_
    refine nb_Gr ?_
    refine nb_Wg (q_c_bestRule_3 _ _ _ _ _ _ _) ?_
    refine nb_Gs ?_
    exact nb_Hu H W7

theorem w_c_bestRule_5 {l1 l2 l3 l4 Ho : Int} {v5 : nb_V} {M : nb_M} {Q : List nb_V → nb_M → Prop} (W : nb_Lay M) (hHo : nb_hs Ho) (hx2 : M.1 2 2 = Ho) (b0_ : 0 ≤ l4 ∧ l4 ≤ 5) (b1_ : (-200000) ≤ l3 ∧ l3 ≤ 2147483647) (H : (l4 < 5 → (l1 = 0 → nb_W 34 0 [(19, 2), (0, l4), (0, 0), (0, 0), (98, 0), (98, 0)] [] M (fun r M2 => ∃ x1 : Int, r = [(0, x1)] ∧ nb_Lay M2 ∧ M2.1 2 2 = Ho ∧ -2147483648 ≤ -x1 ∧ -x1 ≤ 2147483647 ∧ (-x1 < l3 → nb_W 35 5 [(19, 2), (0, l1), (0, l4), (0, -x1), (0, l4 + 1), (0, -x1)] [] M2 Q) ∧ (l3 ≤ -x1 → nb_W 35 5 [(19, 2), (0, l1), (0, l2), (0, l3), (0, l4 + 1), (0, -x1)] [] M2 Q))) ∧ (l1 ≠ 0 → nb_W 34 0 [(19, 2), (0, l4), (0, 0), (0, 4), (98, 0), (98, 0)] [] M (fun r M10 => ∃ x9 : Int, r = [(0, x9)] ∧ nb_Lay M10 ∧ M10.1 2 2 = Ho ∧ (x9 < l3 → nb_W 35 5 [(19, 2), (0, l1), (0, l4), (0, x9), (0, l4 + 1), (0, x9)] [] M10 Q) ∧ (l3 ≤ x9 → nb_W 35 5 [(19, 2), (0, l1), (0, l2), (0, l3), (0, l4 + 1), (0, x9)] [] M10 Q)))) ∧ (5 ≤ l4 → (nb_Lay M → Q [(0, l2)] M))) :
    nb_W 35 5 [(19, 2), (0, l1), (0, l2), (0, l3), (0, l4), v5] [] M Q := by
  replace H := nb_Hw H
  have uhHo := hHo
  unfold nb_hs at uhHo
  refine nb_Wg (q_c_bestRule_5 _ _ _ _ _ _ _) ?_
  refine nb_Gi (fun c17 => ?_) (fun c17 => ?_)
  · have H := nb_Hw ((nb_Hu H).1 c17)
    refine nb_Gr ?_
    refine nb_Wg (q_c_bestRule_6 _ _ _ _ _ _ _) ?_
    refine nb_Gi (fun c16 => ?_) (fun c16 => ?_)
    · have H := nb_Hw ((nb_Hu H).1 c16)
      refine nb_Gr ?_
      refine nb_Wg (q_c_bestRule_9 _ _ _ _ _ _ _ (by omega)) ?_
      refine nb_Gb ?_
      refine nb_W.imp (nb_Hu H) (fun r M2 H => ?_)
      obtain ⟨x1, rfl, W3, g4, H⟩ := H
      replace H := nb_Hw H
      show nb_W 35 10 [(19, 2), (0, l1), (0, l2), (0, l3), (0, l4), v5] [(0, x1)] M2 _
      obtain ⟨p0_, p1_, H⟩ := H
      replace H := nb_Hw H
      have E5 : nb_neg x1 = -x1 := nb_neg_eq (by omega) (by omega)
      refine nb_Wg (q_c_bestRule_10 _ _ _ _ _ _ _ _) ?_
      simp only [E5]
      clear E5
      refine nb_Gr ?_
      refine nb_Wg (q_c_bestRule_11 _ _ _ _ _ _ _ _) ?_
      refine nb_Gi (fun c8 => ?_) (fun c8 => ?_)
      · have H := nb_Hw ((nb_Hu H).1 c8)
        refine nb_Gr ?_
        refine nb_Wg (q_c_bestRule_12 _ _ _ _ _ _ _) ?_
        refine nb_Gr ?_
        have E6 : nb_add l4 1 = l4 + 1 := nb_add_eq (by omega) (by omega)
        refine nb_Wg (q_c_bestRule_13 _ _ _ _ _ _ _) ?_
        simp only [E6]
        clear E6
        refine nb_Gr ?_
        exact nb_Hu H
      · have H := nb_Hw ((nb_Hu H).2 (by omega))
        have c8 : l3 ≤ -x1 := by omega
        refine nb_Gr ?_
        have E7 : nb_add l4 1 = l4 + 1 := nb_add_eq (by omega) (by omega)
        refine nb_Wg (q_c_bestRule_13 _ _ _ _ _ _ _) ?_
        simp only [E7]
        clear E7
        refine nb_Gr ?_
        exact nb_Hu H
    · have H := nb_Hw ((nb_Hu H).2 (by omega))
      have c16 : l1 ≠ 0 := by omega
      refine nb_Gr ?_
      refine nb_Wg (q_c_bestRule_7 _ _ _ _ _ _ _ (by omega)) ?_
      refine nb_Gb ?_
      refine nb_W.imp (nb_Hu H) (fun r M10 H => ?_)
      obtain ⟨x9, rfl, W11, g12, H⟩ := H
      replace H := nb_Hw H
      show nb_W 35 8 [(19, 2), (0, l1), (0, l2), (0, l3), (0, l4), v5] [(0, x9)] M10 _
      refine nb_Wg (q_c_bestRule_8 _ _ _ _ _ _ _ _) ?_
      refine nb_Gr ?_
      refine nb_Wg (q_c_bestRule_11 _ _ _ _ _ _ _ _) ?_
      refine nb_Gi (fun c15 => ?_) (fun c15 => ?_)
      · have H := nb_Hw ((nb_Hu H).1 c15)
        refine nb_Gr ?_
        refine nb_Wg (q_c_bestRule_12 _ _ _ _ _ _ _) ?_
        refine nb_Gr ?_
        have E13 : nb_add l4 1 = l4 + 1 := nb_add_eq (by omega) (by omega)
        refine nb_Wg (q_c_bestRule_13 _ _ _ _ _ _ _) ?_
        simp only [E13]
        clear E13
        refine nb_Gr ?_
        exact nb_Hu H
      · have H := nb_Hw ((nb_Hu H).2 (by omega))
        have c15 : l3 ≤ x9 := by omega
        refine nb_Gr ?_
        have E14 : nb_add l4 1 = l4 + 1 := nb_add_eq (by omega) (by omega)
        refine nb_Wg (q_c_bestRule_13 _ _ _ _ _ _ _) ?_
        simp only [E14]
        clear E14
        refine nb_Gr ?_
        exact nb_Hu H
  · have H := nb_Hw ((nb_Hu H).2 (by omega))
    have c17 : 5 ≤ l4 := by omega
    refine nb_Gr ?_
    refine nb_Wg (q_c_bestRule_14 _ _ _ _ _ _ _) ?_
    refine nb_Gs ?_
    exact nb_Hu H W

theorem w_c_hand_0 {Ho : Int} {v1 v2 : nb_V} {M : nb_M} {Q : List nb_V → nb_M → Prop} (W : nb_Lay M) (hHo : nb_hs Ho) (hx2 : M.1 2 2 = Ho) (H : 0 ≤ M.1 Ho 13 ∧ M.1 Ho 13 ≤ 10 ∧ (0 < M.1 Ho 13 → nb_W 24 0 [(19, 2)] [] (nb_wr M 2 15 0) (fun r M7 => r = [(15, 106)] ∧ nb_Lay M7 ∧ M7.1 2 2 = Ho ∧ nb_W 268 0 [(15, 106), (0, 0)] [] M7 (fun r M11 => ∃ x10 : Int, r = [(0, x10)] ∧ nb_Lay M11 ∧ M11.1 2 2 = Ho ∧ nb_W 23 0 [(19, 2)] [] M11 (fun r M15 => r = [(15, 106)] ∧ nb_Lay M15 ∧ M15.1 2 2 = Ho ∧ nb_W 256 0 [(15, 106), (98, 0)] [] M15 (fun r M19 => r = [] ∧ nb_Lay M19 ∧ M19.1 2 2 = Ho ∧ nb_W 257 0 [(15, 106), (0, M19.1 106 8), (98, 0), (98, 0)] [] M19 (fun r M24 => r = [] ∧ nb_Lay M24 ∧ M24.1 2 2 = Ho ∧ nb_W 268 0 [(15, 106), (0, 0)] [] M24 (fun r M28 => ∃ x27 : Int, r = [(0, x27)] ∧ nb_Lay M28 ∧ M28.1 2 2 = Ho ∧ -2147483648 ≤ x27 - x10 ∧ x27 - x10 ≤ 2147483647 ∧ (nb_Lay M28 → Q [(0, x27 - x10)] M28)))))))) ∧ (M.1 Ho 13 ≤ 0 → (nb_Lay (nb_wr M 2 15 1) → Q [(0, (-100))] (nb_wr M 2 15 1)))) :
    nb_W 36 0 [(19, 2), v1, v2] [] M Q := by
  replace H := nb_Hw H
  have uhHo := hHo
  unfold nb_hs at uhHo
  refine nb_Wg (q_c_hand_0 _ _ _ _ (by omega)) ?_
  refine nb_Gb ?_
  obtain ⟨p0_, p1_, H⟩ := H
  replace H := nb_Hw H
  have E1 : nb_rd M 2 2 = Ho := hx2
  have E2 : nb_rd M Ho 13 = M.1 Ho 13 := nb_rd_1 _ _ _
  refine nb_Wg (q_c_isOpen_0 _ _ (by omega) (by rw [E1]; first | done | omega)) ?_
  simp only [E1, E2]
  clear E1 E2
  refine nb_Gi (fun c35 => ?_) (fun c35 => ?_)
  · have H := nb_Hw ((nb_Hu H).1 c35)
    refine nb_Gr ?_
    refine nb_Wg (q_c_isOpen_1 _ _) ?_
    refine nb_Gr ?_
    have E3 : nb_i2z 1 = 1 := by decide
    refine nb_Wg (q_c_isOpen_3 _ _ _) ?_
    simp only [E3]
    clear E3
    refine nb_Gs ?_
    show nb_W 36 1 [(19, 2), v1, v2] [(0, 1), (19, 2)] M _
    refine nb_Wg (q_c_hand_1 _ _ _ _ _ _ (by omega)) ?_
    refine nb_Gb ?_
    refine nb_Wg (q_c_granted_0 _ _ _ _) ?_
    refine nb_Gf (by decide) ?_
    refine nb_Gr ?_
    refine nb_Wg (q_c_granted_1 _ _ _ _ _) ?_
    refine nb_Gr ?_
    refine nb_Wg (q_c_granted_3 _ _ _ _ _ _ (by omega)) ?_
    have W4 : nb_Lay (nb_wr M 2 15 0) := W.wr (fun w => (nb_nlit (by decide) (by decide)))
    refine nb_Gr ?_
    have E5 : nb_i2z 1 = 1 := by decide
    refine nb_Wg (q_c_granted_4 _ _ _ _) ?_
    simp only [E5]
    clear E5
    refine nb_Gs ?_
    show nb_W 36 2 [(19, 2), v1, v2] [(0, 1)] (nb_wr M 2 15 0) _
    refine nb_Wg (q_c_hand_2 _ _ _ _ _) ?_
    refine nb_Gf (by decide) ?_
    refine nb_Gr ?_
    refine nb_Wg (q_c_hand_4 _ _ _ _ (by omega)) ?_
    refine nb_Gb ?_
    refine nb_W.imp (nb_Hu H) (fun r M7 H => ?_)
    obtain ⟨rfl, W8, g9, H⟩ := H
    replace H := nb_Hw H
    show nb_W 36 5 [(19, 2), v1, v2] [(15, 106)] M7 _
    refine nb_Wg (q_c_hand_5 _ _ _ _ _ (by omega)) ?_
    refine nb_Gb ?_
    refine nb_W.imp (nb_Hu H) (fun r M11 H => ?_)
    obtain ⟨x10, rfl, W12, g13, H⟩ := H
    replace H := nb_Hw H
    show nb_W 36 6 [(19, 2), v1, v2] [(0, x10)] M11 _
    refine nb_Wg (q_c_hand_6 _ _ _ _ _ (by omega)) ?_
    refine nb_Gb ?_
    refine nb_W.imp (nb_Hu H) (fun r M15 H => ?_)
    obtain ⟨rfl, W16, g17, H⟩ := H
    replace H := nb_Hw H
    show nb_W 36 7 [(19, 2), (0, x10), v2] [(15, 106)] M15 _
    refine nb_Wg (q_c_hand_7 _ _ _ _ _ (by omega)) ?_
    refine nb_Gb ?_
    refine nb_W.imp (nb_Hu H) (fun r M19 H => ?_)
    obtain ⟨rfl, W20, g21, H⟩ := H
    replace H := nb_Hw H
    show nb_W 36 8 [(19, 2), (0, x10), (15, 106)] [] M19 _
    have E22 : nb_rd M19 106 8 = M19.1 106 8 := nb_rd_1 _ _ _
    refine nb_Wg (q_c_hand_8 _ _ _ _ (by omega)) ?_
    simp only [E22]
    clear E22
    refine nb_Gb ?_
    refine nb_W.imp (nb_Hu H) (fun r M24 H => ?_)
    obtain ⟨rfl, W25, g26, H⟩ := H
    replace H := nb_Hw H
    show nb_W 36 9 [(19, 2), (0, x10), (15, 106)] [] M24 _
    refine nb_Wg (q_c_hand_9 _ _ _ _ (by omega)) ?_
    refine nb_Gb ?_
    refine nb_W.imp (nb_Hu H) (fun r M28 H => ?_)
    obtain ⟨x27, rfl, W29, g30, H⟩ := H
    replace H := nb_Hw H
    show nb_W 36 10 [(19, 2), (0, x10), (15, 106)] [(0, x27)] M28 _
    obtain ⟨p0_, p1_, H⟩ := H
    replace H := nb_Hw H
    have E31 : nb_sub x27 x10 = x27 - x10 := nb_sub_eq (by omega) (by omega)
    refine nb_Wg (q_c_hand_10 _ _ _ _ _) ?_
    simp only [E31]
    clear E31
    refine nb_Gs ?_
    exact nb_Hu H W29
  · have H := nb_Hw ((nb_Hu H).2 (by omega))
    have c35 : M.1 Ho 13 ≤ 0 := by omega
    refine nb_Gr ?_
    refine nb_Wg (q_c_isOpen_2 _ _) ?_
    refine nb_Gr ?_
    have E32 : nb_i2z 0 = 0 := by decide
    refine nb_Wg (q_c_isOpen_3 _ _ _) ?_
    simp only [E32]
    clear E32
    refine nb_Gs ?_
    show nb_W 36 1 [(19, 2), v1, v2] [(0, 0), (19, 2)] M _
    refine nb_Wg (q_c_hand_1 _ _ _ _ _ _ (by omega)) ?_
    refine nb_Gb ?_
    refine nb_Wg (q_c_granted_0 _ _ _ _) ?_
    refine nb_Gt (by decide) ?_
    refine nb_Gr ?_
    refine nb_Wg (q_c_granted_2 _ _ _ _ _) ?_
    refine nb_Gr ?_
    refine nb_Wg (q_c_granted_3 _ _ _ _ _ _ (by omega)) ?_
    have W33 : nb_Lay (nb_wr M 2 15 1) := W.wr (fun w => (nb_nlit (by decide) (by decide)))
    refine nb_Gr ?_
    have E34 : nb_i2z 0 = 0 := by decide
    refine nb_Wg (q_c_granted_4 _ _ _ _) ?_
    simp only [E34]
    clear E34
    refine nb_Gs ?_
    show nb_W 36 2 [(19, 2), v1, v2] [(0, 0)] (nb_wr M 2 15 1) _
    refine nb_Wg (q_c_hand_2 _ _ _ _ _) ?_
    refine nb_Gt (by decide) ?_
    refine nb_Gr ?_
    refine nb_Wg (q_c_hand_3 _ _ _ _) ?_
    refine nb_Gs ?_
    exact nb_Hu H W33

theorem w_c_beforehand_0 {l1 Ho : Int} {v2 v3 : nb_V} {M : nb_M} {Q : List nb_V → nb_M → Prop} (W : nb_Lay M) (hHo : nb_hs Ho) (hx2 : M.1 2 2 = Ho) (H : (l1 < 0 → (nb_Lay (nb_wr M 2 15 1) → Q [(0, (-1000))] (nb_wr M 2 15 1))) ∧ (0 ≤ l1 → 0 ≤ M.1 Ho 13 ∧ M.1 Ho 13 ≤ 10 ∧ (l1 < M.1 Ho 13 → (M.1 (88 + l1) 8 = 0 → (M.1 (88 + l1) 6 = (-2) → nb_W 24 0 [(19, 2)] [] (nb_wr (nb_wr (nb_wr M 2 15 0) 2 15 0) 2 15 0) (fun r M27 => r = [(15, 106)] ∧ nb_Lay M27 ∧ M27.1 2 2 = Ho ∧ nb_W 268 0 [(15, 106), (0, 3)] [] M27 (fun r M31 => ∃ x30 : Int, r = [(0, x30)] ∧ nb_Lay M31 ∧ M31.1 2 2 = Ho ∧ nb_W 23 0 [(19, 2)] [] M31 (fun r M35 => r = [(15, 106)] ∧ nb_Lay M35 ∧ M35.1 2 2 = Ho ∧ l1 < 10 ∧ nb_W 257 0 [(15, 106), (0, M35.1 106 8), (98, 0), (98, 0)] [] (nb_wr M35 (110 + l1) 6 (M35.1 (110 + l1) 2)) (fun r M48 => r = [] ∧ nb_Lay M48 ∧ M48.1 2 2 = Ho ∧ nb_W 268 0 [(15, 106), (0, 3)] [] M48 (fun r M52 => ∃ x51 : Int, r = [(0, x51)] ∧ nb_Lay M52 ∧ M52.1 2 2 = Ho ∧ -2147483648 ≤ x30 - x51 ∧ x30 - x51 ≤ 2147483647 ∧ (nb_Lay M52 → Q [(0, x30 - x51)] M52))))))) ∧ (M.1 (88 + l1) 6 ≠ (-2) → (nb_Lay (nb_wr (nb_wr (nb_wr M 2 15 0) 2 15 0) 2 15 5) → Q [(0, (-1000))] (nb_wr (nb_wr (nb_wr M 2 15 0) 2 15 0) 2 15 5)))) ∧ (M.1 (88 + l1) 8 ≠ 0 → (nb_Lay (nb_wr (nb_wr M 2 15 0) 2 15 5) → Q [(0, (-1000))] (nb_wr (nb_wr M 2 15 0) 2 15 5)))) ∧ (M.1 Ho 13 ≤ l1 → (nb_Lay (nb_wr M 2 15 1) → Q [(0, (-1000))] (nb_wr M 2 15 1))))) :
    nb_W 37 0 [(19, 2), (0, l1), v2, v3] [] M Q := by
  replace H := nb_Hw H
  have uhHo := hHo
  unfold nb_hs at uhHo
  refine nb_Wg (q_c_beforehand_0 _ _ _ _ _ (by omega)) ?_
  refine nb_Gb ?_
  refine nb_Wg (q_c_mayStillChange_0 _ _ _ (by omega)) ?_
  refine nb_Gb ?_
  refine nb_Wg (q_c_isPerson_0 _ _ _) ?_
  refine nb_Gi (fun c69 => ?_) (fun c69 => ?_)
  · have H := nb_Hw ((nb_Hu H).1 c69)
    refine nb_Gr ?_
    refine nb_Wg (q_c_isPerson_3 _ _ _) ?_
    refine nb_Gr ?_
    have E1 : nb_i2z 0 = 0 := by decide
    refine nb_Wg (q_c_isPerson_4 _ _ _ _) ?_
    simp only [E1]
    clear E1
    refine nb_Gs ?_
    show nb_W 38 1 [(19, 2), (0, l1)] [(0, 0), (19, 2)] M _
    refine nb_Wg (q_c_mayStillChange_1 _ _ _ _ _ (by omega)) ?_
    refine nb_Gb ?_
    refine nb_Wg (q_c_granted_0 _ _ _ _) ?_
    refine nb_Gt (by decide) ?_
    refine nb_Gr ?_
    refine nb_Wg (q_c_granted_2 _ _ _ _ _) ?_
    refine nb_Gr ?_
    refine nb_Wg (q_c_granted_3 _ _ _ _ _ _ (by omega)) ?_
    have W2 : nb_Lay (nb_wr M 2 15 1) := W.wr (fun w => (nb_nlit (by decide) (by decide)))
    refine nb_Gr ?_
    have E3 : nb_i2z 0 = 0 := by decide
    refine nb_Wg (q_c_granted_4 _ _ _ _) ?_
    simp only [E3]
    clear E3
    refine nb_Gs ?_
    show nb_W 38 2 [(19, 2), (0, l1)] [(0, 0)] (nb_wr M 2 15 1) _
    refine nb_Wg (q_c_mayStillChange_2 _ _ _ _) ?_
    refine nb_Gt (by decide) ?_
    refine nb_Gr ?_
    refine nb_Wg (q_c_mayStillChange_7 _ _ _) ?_
    refine nb_Gr ?_
    have E4 : nb_i2z 0 = 0 := by decide
    refine nb_Wg (q_c_mayStillChange_8 _ _ _ _) ?_
    simp only [E4]
    clear E4
    refine nb_Gs ?_
    show nb_W 37 1 [(19, 2), (0, l1), v2, v3] [(0, 0)] (nb_wr M 2 15 1) _
    refine nb_Wg (q_c_beforehand_1 _ _ _ _ _ _) ?_
    refine nb_Gt (by decide) ?_
    refine nb_Gr ?_
    refine nb_Wg (q_c_beforehand_7 _ _ _ _ _) ?_
    refine nb_Gs ?_
    exact nb_Hu H W2
  · have H := nb_Hw ((nb_Hu H).2 (by omega))
    have c69 : 0 ≤ l1 := by omega
    refine nb_Gr ?_
    obtain ⟨p0_, p1_, H⟩ := H
    replace H := nb_Hw H
    have E5 : nb_rd M 2 2 = Ho := hx2
    have E6 : nb_rd M Ho 13 = M.1 Ho 13 := nb_rd_1 _ _ _
    refine nb_Wg (q_c_isPerson_1 _ _ _ (by omega) (by rw [E5]; first | done | omega)) ?_
    simp only [E5, E6]
    clear E5 E6
    refine nb_Gi (fun c68 => ?_) (fun c68 => ?_)
    · have H := nb_Hw ((nb_Hu H).1 c68)
      refine nb_Gr ?_
      refine nb_Wg (q_c_isPerson_2 _ _ _) ?_
      refine nb_Gr ?_
      have E7 : nb_i2z 1 = 1 := by decide
      refine nb_Wg (q_c_isPerson_4 _ _ _ _) ?_
      simp only [E7]
      clear E7
      refine nb_Gs ?_
      show nb_W 38 1 [(19, 2), (0, l1)] [(0, 1), (19, 2)] M _
      refine nb_Wg (q_c_mayStillChange_1 _ _ _ _ _ (by omega)) ?_
      refine nb_Gb ?_
      refine nb_Wg (q_c_granted_0 _ _ _ _) ?_
      refine nb_Gf (by decide) ?_
      refine nb_Gr ?_
      refine nb_Wg (q_c_granted_1 _ _ _ _ _) ?_
      refine nb_Gr ?_
      refine nb_Wg (q_c_granted_3 _ _ _ _ _ _ (by omega)) ?_
      have W8 : nb_Lay (nb_wr M 2 15 0) := W.wr (fun w => (nb_nlit (by decide) (by decide)))
      refine nb_Gr ?_
      have E9 : nb_i2z 1 = 1 := by decide
      refine nb_Wg (q_c_granted_4 _ _ _ _) ?_
      simp only [E9]
      clear E9
      refine nb_Gs ?_
      show nb_W 38 2 [(19, 2), (0, l1)] [(0, 1)] (nb_wr M 2 15 0) _
      refine nb_Wg (q_c_mayStillChange_2 _ _ _ _) ?_
      refine nb_Gf (by decide) ?_
      refine nb_Gr ?_
      refine nb_Wg (q_c_mayStillChange_3 _ _ _ (by omega)) ?_
      refine nb_Gb ?_
      have E10 : nb_rd (nb_wr M 2 15 0) 2 5 = 84 := W8.c5
      have E11 : nb_rd (nb_wr M 2 15 0) 84 0 = 85 := W8.s0 (A := 84) nb_sc84
      have N12 : nb_ln (nb_wr M 2 15 0) 85 = 10 := W8.sn1 (A := 84) nb_sc84
      have E13 : nb_rd (nb_wr M 2 15 0) 85 l1 = 88 + l1 := W8.sg (A := 84) (i := l1) nb_sc84 (by omega) (by omega)
      have E14 : nb_rd (nb_wr M 2 15 0) (88 + l1) 8 = M.1 (88 + l1) 8 := nb_rdw (Or.inr (by decide)) (nb_rd_1 _ _ _)
      refine nb_Wg (q_c_isAway_0 _ _ _ (by omega) (by rw [E10]; first | done | omega) (by rw [E10, E11]; first | done | omega) (by omega) (by rw [E10, E11, N12]; first | done | omega) (by rw [E10, E11, E13]; first | done | omega)) ?_
      simp only [E10, E11, E13, E14]
      clear E10 E11 N12 E13 E14
      refine nb_Gi (fun c63 => ?_) (fun c63 => ?_)
      · have H := nb_Hw ((nb_Hu H).1 c63)
        refine nb_Gr ?_
        refine nb_Wg (q_c_isAway_1 _ _ _) ?_
        refine nb_Gr ?_
        have E15 : nb_i2z 1 = 1 := by decide
        refine nb_Wg (q_c_isAway_3 _ _ _ _) ?_
        simp only [E15]
        clear E15
        refine nb_Gs ?_
        show nb_W 38 4 [(19, 2), (0, l1)] [(0, 1), (19, 2)] (nb_wr M 2 15 0) _
        refine nb_Wg (q_c_mayStillChange_4 _ _ _ _ _ (by omega)) ?_
        refine nb_Gb ?_
        refine nb_Wg (q_c_granted_0 _ _ _ _) ?_
        refine nb_Gf (by decide) ?_
        refine nb_Gr ?_
        refine nb_Wg (q_c_granted_1 _ _ _ _ _) ?_
        refine nb_Gr ?_
        refine nb_Wg (q_c_granted_3 _ _ _ _ _ _ (by omega)) ?_
        have W16 : nb_Lay (nb_wr (nb_wr M 2 15 0) 2 15 0) := W8.wr (fun w => (nb_nlit (by decide) (by decide)))
        refine nb_Gr ?_
        have E17 : nb_i2z 1 = 1 := by decide
        refine nb_Wg (q_c_granted_4 _ _ _ _) ?_
        simp only [E17]
        clear E17
        refine nb_Gs ?_
        show nb_W 38 5 [(19, 2), (0, l1)] [(0, 1)] (nb_wr (nb_wr M 2 15 0) 2 15 0) _
        refine nb_Wg (q_c_mayStillChange_5 _ _ _ _) ?_
        refine nb_Gf (by decide) ?_
        refine nb_Gr ?_
        refine nb_Wg (q_c_mayStillChange_6 _ _ _) ?_
        refine nb_Gr ?_
        have E18 : nb_i2z 1 = 1 := by decide
        refine nb_Wg (q_c_mayStillChange_8 _ _ _ _) ?_
        simp only [E18]
        clear E18
        refine nb_Gs ?_
        show nb_W 37 1 [(19, 2), (0, l1), v2, v3] [(0, 1)] (nb_wr (nb_wr M 2 15 0) 2 15 0) _
        refine nb_Wg (q_c_beforehand_1 _ _ _ _ _ _) ?_
        refine nb_Gf (by decide) ?_
        refine nb_Gr ?_
        have E19 : nb_rd (nb_wr (nb_wr M 2 15 0) 2 15 0) 2 5 = 84 := W16.c5
        have E20 : nb_rd (nb_wr (nb_wr M 2 15 0) 2 15 0) 84 0 = 85 := W16.s0 (A := 84) nb_sc84
        have N21 : nb_ln (nb_wr (nb_wr M 2 15 0) 2 15 0) 85 = 10 := W16.sn1 (A := 84) nb_sc84
        have E22 : nb_rd (nb_wr (nb_wr M 2 15 0) 2 15 0) 85 l1 = 88 + l1 := W16.sg (A := 84) (i := l1) nb_sc84 (by omega) (by omega)
        have E23 : nb_rd (nb_wr (nb_wr M 2 15 0) 2 15 0) (88 + l1) 6 = M.1 (88 + l1) 6 := nb_rdw (Or.inr (by decide)) (nb_rdw (Or.inr (by decide)) (nb_rd_1 _ _ _))
        refine nb_Wg (q_c_beforehand_2 _ _ _ _ _ (by omega) (by rw [E19]; first | done | omega) (by rw [E19, E20]; first | done | omega) (by omega) (by rw [E19, E20, N21]; first | done | omega) (by rw [E19, E20, E22]; first | done | omega)) ?_
        simp only [E19, E20, E22, E23]
        clear E19 E20 N21 E22 E23
        refine nb_Gi (fun c58 => ?_) (fun c58 => ?_)
        · have H := nb_Hw ((nb_Hu H).1 c58)
          refine nb_Gr ?_
          refine nb_Wg (q_c_beforehand_3 _ _ _ _ _ _) ?_
          refine nb_Gr ?_
          refine nb_Wg (q_c_beforehand_5 _ _ _ _ _ _ _ (by omega)) ?_
          refine nb_Gb ?_
          refine nb_Wg (q_c_granted_0 _ _ _ _) ?_
          refine nb_Gf (by decide) ?_
          refine nb_Gr ?_
          refine nb_Wg (q_c_granted_1 _ _ _ _ _) ?_
          refine nb_Gr ?_
          refine nb_Wg (q_c_granted_3 _ _ _ _ _ _ (by omega)) ?_
          have W24 : nb_Lay (nb_wr (nb_wr (nb_wr M 2 15 0) 2 15 0) 2 15 0) := W16.wr (fun w => (nb_nlit (by decide) (by decide)))
          refine nb_Gr ?_
          have E25 : nb_i2z 1 = 1 := by decide
          refine nb_Wg (q_c_granted_4 _ _ _ _) ?_
          simp only [E25]
          clear E25
          refine nb_Gs ?_
          show nb_W 37 6 [(19, 2), (0, l1), v2, v3] [(0, 1)] (nb_wr (nb_wr (nb_wr M 2 15 0) 2 15 0) 2 15 0) _
          refine nb_Wg (q_c_beforehand_6 _ _ _ _ _ _) ?_
          refine nb_Gf (by decide) ?_
          refine nb_Gr ?_
          refine nb_Wg (q_c_beforehand_8 _ _ _ _ _ (by omega)) ?_
          refine nb_Gb ?_
          refine nb_W.imp (nb_Hu H) (fun r M27 H => ?_)
          obtain ⟨rfl, W28, g29, H⟩ := H
          replace H := nb_Hw H
          show nb_W 37 9 [(19, 2), (0, l1), v2, v3] [(15, 106)] M27 _
          refine nb_Wg (q_c_beforehand_9 _ _ _ _ _ _ (by omega)) ?_
          refine nb_Gb ?_
          refine nb_W.imp (nb_Hu H) (fun r M31 H => ?_)
          obtain ⟨x30, rfl, W32, g33, H⟩ := H
          replace H := nb_Hw H
          show nb_W 37 10 [(19, 2), (0, l1), v2, v3] [(0, x30)] M31 _
          refine nb_Wg (q_c_beforehand_10 _ _ _ _ _ _ (by omega)) ?_
          refine nb_Gb ?_
          refine nb_W.imp (nb_Hu H) (fun r M35 H => ?_)
          obtain ⟨rfl, W36, g37, H⟩ := H
          replace H := nb_Hw H
          show nb_W 37 11 [(19, 2), (0, l1), (0, x30), v3] [(15, 106)] M35 _
          obtain ⟨p0_, H⟩ := H
          replace H := nb_Hw H
          have E38 : nb_rd M35 106 0 = 107 := W36.s0 (A := 106) nb_sc106
          have N39 : nb_ln M35 107 = 10 := W36.sn1 (A := 106) nb_sc106
          have E40 : nb_rd M35 107 l1 = 110 + l1 := W36.sg (A := 106) (i := l1) nb_sc106 (by omega) (by omega)
          have E41 : nb_rd M35 106 0 = 107 := W36.s0 (A := 106) nb_sc106
          have N42 : nb_ln M35 107 = 10 := W36.sn1 (A := 106) nb_sc106
          have E43 : nb_rd M35 107 l1 = 110 + l1 := W36.sg (A := 106) (i := l1) nb_sc106 (by omega) (by omega)
          have E44 : nb_rd M35 (110 + l1) 2 = M35.1 (110 + l1) 2 := nb_rd_1 _ _ _
          refine nb_Wg (q_c_beforehand_11 _ _ _ _ _ _ (by omega) (by rw [E38]; first | done | omega) (by omega) (by rw [E38, N39]; first | done | omega) (by rw [E41, E43]; first | done | omega)) ?_
          simp only [E38, E40, E41, E43, E44]
          clear E38 N39 E40 E41 N42 E43 E44
          have W45 : nb_Lay (nb_wr M35 (110 + l1) 6 (M35.1 (110 + l1) 2)) := W36.wr (fun w => (nb_nsg (A := 106) (i := l1) nb_sc106 (by omega) (by omega)))
          refine nb_Gr ?_
          have E46 : nb_rd (nb_wr M35 (110 + l1) 6 (M35.1 (110 + l1) 2)) 106 8 = M35.1 106 8 := nb_rdw (Or.inr (by decide)) (nb_rd_1 _ _ _)
          refine nb_Wg (q_c_beforehand_12 _ _ _ _ _ (by omega)) ?_
          simp only [E46]
          clear E46
          refine nb_Gb ?_
          refine nb_W.imp (nb_Hu H) (fun r M48 H => ?_)
          obtain ⟨rfl, W49, g50, H⟩ := H
          replace H := nb_Hw H
          show nb_W 37 13 [(19, 2), (0, l1), (0, x30), (15, 106)] [] M48 _
          refine nb_Wg (q_c_beforehand_13 _ _ _ _ _ (by omega)) ?_
          refine nb_Gb ?_
          refine nb_W.imp (nb_Hu H) (fun r M52 H => ?_)
          obtain ⟨x51, rfl, W53, g54, H⟩ := H
          replace H := nb_Hw H
          show nb_W 37 14 [(19, 2), (0, l1), (0, x30), (15, 106)] [(0, x51), (0, x30)] M52 _
          obtain ⟨p0_, p1_, H⟩ := H
          replace H := nb_Hw H
          have E55 : nb_sub x30 x51 = x30 - x51 := nb_sub_eq (by omega) (by omega)
          refine nb_Wg (q_c_beforehand_14 _ _ _ _ _ _ _) ?_
          simp only [E55]
          clear E55
          refine nb_Gs ?_
          exact nb_Hu H W53
        · have H := nb_Hw ((nb_Hu H).2 (by omega))
          have c58 : M.1 (88 + l1) 6 ≠ (-2) := by omega
          refine nb_Gr ?_
          refine nb_Wg (q_c_beforehand_4 _ _ _ _ _ _) ?_
          refine nb_Gr ?_
          refine nb_Wg (q_c_beforehand_5 _ _ _ _ _ _ _ (by omega)) ?_
          refine nb_Gb ?_
          refine nb_Wg (q_c_granted_0 _ _ _ _) ?_
          refine nb_Gt (by decide) ?_
          refine nb_Gr ?_
          refine nb_Wg (q_c_granted_2 _ _ _ _ _) ?_
          refine nb_Gr ?_
          refine nb_Wg (q_c_granted_3 _ _ _ _ _ _ (by omega)) ?_
          have W56 : nb_Lay (nb_wr (nb_wr (nb_wr M 2 15 0) 2 15 0) 2 15 5) := W16.wr (fun w => (nb_nlit (by decide) (by decide)))
          refine nb_Gr ?_
          have E57 : nb_i2z 0 = 0 := by decide
          refine nb_Wg (q_c_granted_4 _ _ _ _) ?_
          simp only [E57]
          clear E57
          refine nb_Gs ?_
          show nb_W 37 6 [(19, 2), (0, l1), v2, v3] [(0, 0)] (nb_wr (nb_wr (nb_wr M 2 15 0) 2 15 0) 2 15 5) _
          refine nb_Wg (q_c_beforehand_6 _ _ _ _ _ _) ?_
          refine nb_Gt (by decide) ?_
          refine nb_Gr ?_
          refine nb_Wg (q_c_beforehand_7 _ _ _ _ _) ?_
          refine nb_Gs ?_
          exact nb_Hu H W56
      · have H := nb_Hw ((nb_Hu H).2 (by omega))
        have c63 : M.1 (88 + l1) 8 ≠ 0 := by omega
        refine nb_Gr ?_
        refine nb_Wg (q_c_isAway_2 _ _ _) ?_
        refine nb_Gr ?_
        have E59 : nb_i2z 0 = 0 := by decide
        refine nb_Wg (q_c_isAway_3 _ _ _ _) ?_
        simp only [E59]
        clear E59
        refine nb_Gs ?_
        show nb_W 38 4 [(19, 2), (0, l1)] [(0, 0), (19, 2)] (nb_wr M 2 15 0) _
        refine nb_Wg (q_c_mayStillChange_4 _ _ _ _ _ (by omega)) ?_
        refine nb_Gb ?_
        refine nb_Wg (q_c_granted_0 _ _ _ _) ?_
        refine nb_Gt (by decide) ?_
        refine nb_Gr ?_
        refine nb_Wg (q_c_granted_2 _ _ _ _ _) ?_
        refine nb_Gr ?_
        refine nb_Wg (q_c_granted_3 _ _ _ _ _ _ (by omega)) ?_
        have W60 : nb_Lay (nb_wr (nb_wr M 2 15 0) 2 15 5) := W8.wr (fun w => (nb_nlit (by decide) (by decide)))
        refine nb_Gr ?_
        have E61 : nb_i2z 0 = 0 := by decide
        refine nb_Wg (q_c_granted_4 _ _ _ _) ?_
        simp only [E61]
        clear E61
        refine nb_Gs ?_
        show nb_W 38 5 [(19, 2), (0, l1)] [(0, 0)] (nb_wr (nb_wr M 2 15 0) 2 15 5) _
        refine nb_Wg (q_c_mayStillChange_5 _ _ _ _) ?_
        refine nb_Gt (by decide) ?_
        refine nb_Gr ?_
        refine nb_Wg (q_c_mayStillChange_7 _ _ _) ?_
        refine nb_Gr ?_
        have E62 : nb_i2z 0 = 0 := by decide
        refine nb_Wg (q_c_mayStillChange_8 _ _ _ _) ?_
        simp only [E62]
        clear E62
        refine nb_Gs ?_
        show nb_W 37 1 [(19, 2), (0, l1), v2, v3] [(0, 0)] (nb_wr (nb_wr M 2 15 0) 2 15 5) _
        refine nb_Wg (q_c_beforehand_1 _ _ _ _ _ _) ?_
        refine nb_Gt (by decide) ?_
        refine nb_Gr ?_
        refine nb_Wg (q_c_beforehand_7 _ _ _ _ _) ?_
        refine nb_Gs ?_
        exact nb_Hu H W60
    · have H := nb_Hw ((nb_Hu H).2 (by omega))
      have c68 : M.1 Ho 13 ≤ l1 := by omega
      refine nb_Gr ?_
      refine nb_Wg (q_c_isPerson_3 _ _ _) ?_
      refine nb_Gr ?_
      have E64 : nb_i2z 0 = 0 := by decide
      refine nb_Wg (q_c_isPerson_4 _ _ _ _) ?_
      simp only [E64]
      clear E64
      refine nb_Gs ?_
      show nb_W 38 1 [(19, 2), (0, l1)] [(0, 0), (19, 2)] M _
      refine nb_Wg (q_c_mayStillChange_1 _ _ _ _ _ (by omega)) ?_
      refine nb_Gb ?_
      refine nb_Wg (q_c_granted_0 _ _ _ _) ?_
      refine nb_Gt (by decide) ?_
      refine nb_Gr ?_
      refine nb_Wg (q_c_granted_2 _ _ _ _ _) ?_
      refine nb_Gr ?_
      refine nb_Wg (q_c_granted_3 _ _ _ _ _ _ (by omega)) ?_
      have W65 : nb_Lay (nb_wr M 2 15 1) := W.wr (fun w => (nb_nlit (by decide) (by decide)))
      refine nb_Gr ?_
      have E66 : nb_i2z 0 = 0 := by decide
      refine nb_Wg (q_c_granted_4 _ _ _ _) ?_
      simp only [E66]
      clear E66
      refine nb_Gs ?_
      show nb_W 38 2 [(19, 2), (0, l1)] [(0, 0)] (nb_wr M 2 15 1) _
      refine nb_Wg (q_c_mayStillChange_2 _ _ _ _) ?_
      refine nb_Gt (by decide) ?_
      refine nb_Gr ?_
      refine nb_Wg (q_c_mayStillChange_7 _ _ _) ?_
      refine nb_Gr ?_
      have E67 : nb_i2z 0 = 0 := by decide
      refine nb_Wg (q_c_mayStillChange_8 _ _ _ _) ?_
      simp only [E67]
      clear E67
      refine nb_Gs ?_
      show nb_W 37 1 [(19, 2), (0, l1), v2, v3] [(0, 0)] (nb_wr M 2 15 1) _
      refine nb_Wg (q_c_beforehand_1 _ _ _ _ _ _) ?_
      refine nb_Gt (by decide) ?_
      refine nb_Gr ?_
      refine nb_Wg (q_c_beforehand_7 _ _ _ _ _) ?_
      refine nb_Gs ?_
      exact nb_Hu H W65

theorem w_c_bestPlace_0 {l1 Ho : Int} {v2 v3 v4 v5 : nb_V} {M : nb_M} {Q : List nb_V → nb_M → Prop} (W : nb_Lay M) (hHo : nb_hs Ho) (hx2 : M.1 2 2 = Ho) (H : (l1 < 0 → (nb_Lay (nb_wr M 2 15 1) → Q [(0, (-1))] (nb_wr M 2 15 1))) ∧ (0 ≤ l1 → 0 ≤ M.1 Ho 13 ∧ M.1 Ho 13 ≤ 10 ∧ (l1 < M.1 Ho 13 → (M.1 (88 + l1) 8 = 0 → nb_W 39 4 [(19, 2), (0, l1), (0, (-2)), (0, 1000000), (0, 0), v5] [] (nb_wr (nb_wr M 2 15 0) 2 15 0) Q) ∧ (M.1 (88 + l1) 8 ≠ 0 → (nb_Lay (nb_wr (nb_wr M 2 15 0) 2 15 5) → Q [(0, (-1))] (nb_wr (nb_wr M 2 15 0) 2 15 5)))) ∧ (M.1 Ho 13 ≤ l1 → (nb_Lay (nb_wr M 2 15 1) → Q [(0, (-1))] (nb_wr M 2 15 1))))) :
    nb_W 39 0 [(19, 2), (0, l1), v2, v3, v4, v5] [] M Q := by
  replace H := nb_Hw H
  have uhHo := hHo
  unfold nb_hs at uhHo
  refine nb_Wg (q_c_bestPlace_0 _ _ _ _ _ _ _ (by omega)) ?_
  refine nb_Gb ?_
  refine nb_Wg (q_c_mayStillChange_0 _ _ _ (by omega)) ?_
  refine nb_Gb ?_
  refine nb_Wg (q_c_isPerson_0 _ _ _) ?_
  refine nb_Gi (fun c29 => ?_) (fun c29 => ?_)
  · have H := nb_Hw ((nb_Hu H).1 c29)
    refine nb_Gr ?_
    refine nb_Wg (q_c_isPerson_3 _ _ _) ?_
    refine nb_Gr ?_
    have E1 : nb_i2z 0 = 0 := by decide
    refine nb_Wg (q_c_isPerson_4 _ _ _ _) ?_
    simp only [E1]
    clear E1
    refine nb_Gs ?_
    show nb_W 38 1 [(19, 2), (0, l1)] [(0, 0), (19, 2)] M _
    refine nb_Wg (q_c_mayStillChange_1 _ _ _ _ _ (by omega)) ?_
    refine nb_Gb ?_
    refine nb_Wg (q_c_granted_0 _ _ _ _) ?_
    refine nb_Gt (by decide) ?_
    refine nb_Gr ?_
    refine nb_Wg (q_c_granted_2 _ _ _ _ _) ?_
    refine nb_Gr ?_
    refine nb_Wg (q_c_granted_3 _ _ _ _ _ _ (by omega)) ?_
    have W2 : nb_Lay (nb_wr M 2 15 1) := W.wr (fun w => (nb_nlit (by decide) (by decide)))
    refine nb_Gr ?_
    have E3 : nb_i2z 0 = 0 := by decide
    refine nb_Wg (q_c_granted_4 _ _ _ _) ?_
    simp only [E3]
    clear E3
    refine nb_Gs ?_
    show nb_W 38 2 [(19, 2), (0, l1)] [(0, 0)] (nb_wr M 2 15 1) _
    refine nb_Wg (q_c_mayStillChange_2 _ _ _ _) ?_
    refine nb_Gt (by decide) ?_
    refine nb_Gr ?_
    refine nb_Wg (q_c_mayStillChange_7 _ _ _) ?_
    refine nb_Gr ?_
    have E4 : nb_i2z 0 = 0 := by decide
    refine nb_Wg (q_c_mayStillChange_8 _ _ _ _) ?_
    simp only [E4]
    clear E4
    refine nb_Gs ?_
    show nb_W 39 1 [(19, 2), (0, l1), v2, v3, v4, v5] [(0, 0)] (nb_wr M 2 15 1) _
    refine nb_Wg (q_c_bestPlace_1 _ _ _ _ _ _ _ _) ?_
    refine nb_Gt (by decide) ?_
    refine nb_Gr ?_
    refine nb_Wg (q_c_bestPlace_2 _ _ _ _ _ _ _) ?_
    refine nb_Gs ?_
    exact nb_Hu H W2
  · have H := nb_Hw ((nb_Hu H).2 (by omega))
    have c29 : 0 ≤ l1 := by omega
    refine nb_Gr ?_
    obtain ⟨p0_, p1_, H⟩ := H
    replace H := nb_Hw H
    have E5 : nb_rd M 2 2 = Ho := hx2
    have E6 : nb_rd M Ho 13 = M.1 Ho 13 := nb_rd_1 _ _ _
    refine nb_Wg (q_c_isPerson_1 _ _ _ (by omega) (by rw [E5]; first | done | omega)) ?_
    simp only [E5, E6]
    clear E5 E6
    refine nb_Gi (fun c28 => ?_) (fun c28 => ?_)
    · have H := nb_Hw ((nb_Hu H).1 c28)
      refine nb_Gr ?_
      refine nb_Wg (q_c_isPerson_2 _ _ _) ?_
      refine nb_Gr ?_
      have E7 : nb_i2z 1 = 1 := by decide
      refine nb_Wg (q_c_isPerson_4 _ _ _ _) ?_
      simp only [E7]
      clear E7
      refine nb_Gs ?_
      show nb_W 38 1 [(19, 2), (0, l1)] [(0, 1), (19, 2)] M _
      refine nb_Wg (q_c_mayStillChange_1 _ _ _ _ _ (by omega)) ?_
      refine nb_Gb ?_
      refine nb_Wg (q_c_granted_0 _ _ _ _) ?_
      refine nb_Gf (by decide) ?_
      refine nb_Gr ?_
      refine nb_Wg (q_c_granted_1 _ _ _ _ _) ?_
      refine nb_Gr ?_
      refine nb_Wg (q_c_granted_3 _ _ _ _ _ _ (by omega)) ?_
      have W8 : nb_Lay (nb_wr M 2 15 0) := W.wr (fun w => (nb_nlit (by decide) (by decide)))
      refine nb_Gr ?_
      have E9 : nb_i2z 1 = 1 := by decide
      refine nb_Wg (q_c_granted_4 _ _ _ _) ?_
      simp only [E9]
      clear E9
      refine nb_Gs ?_
      show nb_W 38 2 [(19, 2), (0, l1)] [(0, 1)] (nb_wr M 2 15 0) _
      refine nb_Wg (q_c_mayStillChange_2 _ _ _ _) ?_
      refine nb_Gf (by decide) ?_
      refine nb_Gr ?_
      refine nb_Wg (q_c_mayStillChange_3 _ _ _ (by omega)) ?_
      refine nb_Gb ?_
      have E10 : nb_rd (nb_wr M 2 15 0) 2 5 = 84 := W8.c5
      have E11 : nb_rd (nb_wr M 2 15 0) 84 0 = 85 := W8.s0 (A := 84) nb_sc84
      have N12 : nb_ln (nb_wr M 2 15 0) 85 = 10 := W8.sn1 (A := 84) nb_sc84
      have E13 : nb_rd (nb_wr M 2 15 0) 85 l1 = 88 + l1 := W8.sg (A := 84) (i := l1) nb_sc84 (by omega) (by omega)
      have E14 : nb_rd (nb_wr M 2 15 0) (88 + l1) 8 = M.1 (88 + l1) 8 := nb_rdw (Or.inr (by decide)) (nb_rd_1 _ _ _)
      refine nb_Wg (q_c_isAway_0 _ _ _ (by omega) (by rw [E10]; first | done | omega) (by rw [E10, E11]; first | done | omega) (by omega) (by rw [E10, E11, N12]; first | done | omega) (by rw [E10, E11, E13]; first | done | omega)) ?_
      simp only [E10, E11, E13, E14]
      clear E10 E11 N12 E13 E14
      refine nb_Gi (fun c23 => ?_) (fun c23 => ?_)
      · have H := nb_Hw ((nb_Hu H).1 c23)
        refine nb_Gr ?_
        refine nb_Wg (q_c_isAway_1 _ _ _) ?_
        refine nb_Gr ?_
        have E15 : nb_i2z 1 = 1 := by decide
        refine nb_Wg (q_c_isAway_3 _ _ _ _) ?_
        simp only [E15]
        clear E15
        refine nb_Gs ?_
        show nb_W 38 4 [(19, 2), (0, l1)] [(0, 1), (19, 2)] (nb_wr M 2 15 0) _
        refine nb_Wg (q_c_mayStillChange_4 _ _ _ _ _ (by omega)) ?_
        refine nb_Gb ?_
        refine nb_Wg (q_c_granted_0 _ _ _ _) ?_
        refine nb_Gf (by decide) ?_
        refine nb_Gr ?_
        refine nb_Wg (q_c_granted_1 _ _ _ _ _) ?_
        refine nb_Gr ?_
        refine nb_Wg (q_c_granted_3 _ _ _ _ _ _ (by omega)) ?_
        have W16 : nb_Lay (nb_wr (nb_wr M 2 15 0) 2 15 0) := W8.wr (fun w => (nb_nlit (by decide) (by decide)))
        refine nb_Gr ?_
        have E17 : nb_i2z 1 = 1 := by decide
        refine nb_Wg (q_c_granted_4 _ _ _ _) ?_
        simp only [E17]
        clear E17
        refine nb_Gs ?_
        show nb_W 38 5 [(19, 2), (0, l1)] [(0, 1)] (nb_wr (nb_wr M 2 15 0) 2 15 0) _
        refine nb_Wg (q_c_mayStillChange_5 _ _ _ _) ?_
        refine nb_Gf (by decide) ?_
        refine nb_Gr ?_
        refine nb_Wg (q_c_mayStillChange_6 _ _ _) ?_
        refine nb_Gr ?_
        have E18 : nb_i2z 1 = 1 := by decide
        refine nb_Wg (q_c_mayStillChange_8 _ _ _ _) ?_
        simp only [E18]
        clear E18
        refine nb_Gs ?_
        show nb_W 39 1 [(19, 2), (0, l1), v2, v3, v4, v5] [(0, 1)] (nb_wr (nb_wr M 2 15 0) 2 15 0) _
        refine nb_Wg (q_c_bestPlace_1 _ _ _ _ _ _ _ _) ?_
        refine nb_Gf (by decide) ?_
        refine nb_Gr ?_
        refine nb_Wg (q_c_bestPlace_3 _ _ _ _ _ _ _) ?_
        refine nb_Gr ?_
        exact nb_Hu H
      · have H := nb_Hw ((nb_Hu H).2 (by omega))
        have c23 : M.1 (88 + l1) 8 ≠ 0 := by omega
        refine nb_Gr ?_
        refine nb_Wg (q_c_isAway_2 _ _ _) ?_
        refine nb_Gr ?_
        have E19 : nb_i2z 0 = 0 := by decide
        refine nb_Wg (q_c_isAway_3 _ _ _ _) ?_
        simp only [E19]
        clear E19
        refine nb_Gs ?_
        show nb_W 38 4 [(19, 2), (0, l1)] [(0, 0), (19, 2)] (nb_wr M 2 15 0) _
        refine nb_Wg (q_c_mayStillChange_4 _ _ _ _ _ (by omega)) ?_
        refine nb_Gb ?_
        refine nb_Wg (q_c_granted_0 _ _ _ _) ?_
        refine nb_Gt (by decide) ?_
        refine nb_Gr ?_
        refine nb_Wg (q_c_granted_2 _ _ _ _ _) ?_
        refine nb_Gr ?_
        refine nb_Wg (q_c_granted_3 _ _ _ _ _ _ (by omega)) ?_
        have W20 : nb_Lay (nb_wr (nb_wr M 2 15 0) 2 15 5) := W8.wr (fun w => (nb_nlit (by decide) (by decide)))
        refine nb_Gr ?_
        have E21 : nb_i2z 0 = 0 := by decide
        refine nb_Wg (q_c_granted_4 _ _ _ _) ?_
        simp only [E21]
        clear E21
        refine nb_Gs ?_
        show nb_W 38 5 [(19, 2), (0, l1)] [(0, 0)] (nb_wr (nb_wr M 2 15 0) 2 15 5) _
        refine nb_Wg (q_c_mayStillChange_5 _ _ _ _) ?_
        refine nb_Gt (by decide) ?_
        refine nb_Gr ?_
        refine nb_Wg (q_c_mayStillChange_7 _ _ _) ?_
        refine nb_Gr ?_
        have E22 : nb_i2z 0 = 0 := by decide
        refine nb_Wg (q_c_mayStillChange_8 _ _ _ _) ?_
        simp only [E22]
        clear E22
        refine nb_Gs ?_
        show nb_W 39 1 [(19, 2), (0, l1), v2, v3, v4, v5] [(0, 0)] (nb_wr (nb_wr M 2 15 0) 2 15 5) _
        refine nb_Wg (q_c_bestPlace_1 _ _ _ _ _ _ _ _) ?_
        refine nb_Gt (by decide) ?_
        refine nb_Gr ?_
        refine nb_Wg (q_c_bestPlace_2 _ _ _ _ _ _ _) ?_
        refine nb_Gs ?_
        exact nb_Hu H W20
    · have H := nb_Hw ((nb_Hu H).2 (by omega))
      have c28 : M.1 Ho 13 ≤ l1 := by omega
      refine nb_Gr ?_
      refine nb_Wg (q_c_isPerson_3 _ _ _) ?_
      refine nb_Gr ?_
      have E24 : nb_i2z 0 = 0 := by decide
      refine nb_Wg (q_c_isPerson_4 _ _ _ _) ?_
      simp only [E24]
      clear E24
      refine nb_Gs ?_
      show nb_W 38 1 [(19, 2), (0, l1)] [(0, 0), (19, 2)] M _
      refine nb_Wg (q_c_mayStillChange_1 _ _ _ _ _ (by omega)) ?_
      refine nb_Gb ?_
      refine nb_Wg (q_c_granted_0 _ _ _ _) ?_
      refine nb_Gt (by decide) ?_
      refine nb_Gr ?_
      refine nb_Wg (q_c_granted_2 _ _ _ _ _) ?_
      refine nb_Gr ?_
      refine nb_Wg (q_c_granted_3 _ _ _ _ _ _ (by omega)) ?_
      have W25 : nb_Lay (nb_wr M 2 15 1) := W.wr (fun w => (nb_nlit (by decide) (by decide)))
      refine nb_Gr ?_
      have E26 : nb_i2z 0 = 0 := by decide
      refine nb_Wg (q_c_granted_4 _ _ _ _) ?_
      simp only [E26]
      clear E26
      refine nb_Gs ?_
      show nb_W 38 2 [(19, 2), (0, l1)] [(0, 0)] (nb_wr M 2 15 1) _
      refine nb_Wg (q_c_mayStillChange_2 _ _ _ _) ?_
      refine nb_Gt (by decide) ?_
      refine nb_Gr ?_
      refine nb_Wg (q_c_mayStillChange_7 _ _ _) ?_
      refine nb_Gr ?_
      have E27 : nb_i2z 0 = 0 := by decide
      refine nb_Wg (q_c_mayStillChange_8 _ _ _ _) ?_
      simp only [E27]
      clear E27
      refine nb_Gs ?_
      show nb_W 39 1 [(19, 2), (0, l1), v2, v3, v4, v5] [(0, 0)] (nb_wr M 2 15 1) _
      refine nb_Wg (q_c_bestPlace_1 _ _ _ _ _ _ _ _) ?_
      refine nb_Gt (by decide) ?_
      refine nb_Gr ?_
      refine nb_Wg (q_c_bestPlace_2 _ _ _ _ _ _ _) ?_
      refine nb_Gs ?_
      exact nb_Hu H W25

theorem w_c_bestPlace_4 {l1 l2 l3 l4 Ho : Int} {v5 : nb_V} {M : nb_M} {Q : List nb_V → nb_M → Prop} (W : nb_Lay M) (hHo : nb_hs Ho) (hx2 : M.1 2 2 = Ho) (b0_ : 0 ≤ l4 ∧ l4 ≤ 20) (b1_ : 0 ≤ l1 ∧ l1 ≤ 9) (H : 0 ≤ M.1 Ho 9 ∧ M.1 Ho 9 ≤ 20 ∧ (l4 < M.1 Ho 9 → nb_W 23 0 [(19, 2)] [] M (fun r M4 => r = [(15, 106)] ∧ nb_Lay M4 ∧ M4.1 2 2 = Ho ∧ nb_W 257 0 [(15, 106), (0, M4.1 106 8), (98, 0), (98, 0)] [] (nb_wr M4 (110 + l1) 3 l4) (fun r M13 => r = [] ∧ nb_Lay M13 ∧ M13.1 2 2 = Ho ∧ nb_W 267 0 [(15, 106), (0, l1)] [] M13 (fun r M17 => ∃ x16 : Int, r = [(0, x16)] ∧ nb_Lay M17 ∧ M17.1 2 2 = Ho ∧ (x16 < l3 → nb_W 267 0 [(15, 106), (0, l1)] [] M17 (fun r M21 => ∃ x20 : Int, r = [(0, x20)] ∧ nb_Lay M21 ∧ M21.1 2 2 = Ho ∧ nb_W 39 4 [(19, 2), (0, l1), (0, l4), (0, x20), (0, l4 + 1), (15, 106)] [] M21 Q)) ∧ (l3 ≤ x16 → nb_W 39 4 [(19, 2), (0, l1), (0, l2), (0, l3), (0, l4 + 1), (15, 106)] [] M17 Q))))) ∧ (M.1 Ho 9 ≤ l4 → (nb_Lay M → Q [(0, l2)] M))) :
    nb_W 39 4 [(19, 2), (0, l1), (0, l2), (0, l3), (0, l4), v5] [] M Q := by
  replace H := nb_Hw H
  have uhHo := hHo
  unfold nb_hs at uhHo
  obtain ⟨p0_, p1_, H⟩ := H
  replace H := nb_Hw H
  have E1 : nb_rd M 2 2 = Ho := hx2
  have E2 : nb_rd M Ho 9 = M.1 Ho 9 := nb_rd_1 _ _ _
  refine nb_Wg (q_c_bestPlace_4 _ _ _ _ _ _ _ (by omega) (by rw [E1]; first | done | omega)) ?_
  simp only [E1, E2]
  clear E1 E2
  refine nb_Gi (fun c27 => ?_) (fun c27 => ?_)
  · have H := nb_Hw ((nb_Hu H).1 c27)
    refine nb_Gr ?_
    refine nb_Wg (q_c_bestPlace_5 _ _ _ _ _ _ _ (by omega)) ?_
    refine nb_Gb ?_
    refine nb_W.imp (nb_Hu H) (fun r M4 H => ?_)
    obtain ⟨rfl, W5, g6, H⟩ := H
    replace H := nb_Hw H
    show nb_W 39 6 [(19, 2), (0, l1), (0, l2), (0, l3), (0, l4), v5] [(15, 106)] M4 _
    have E7 : nb_rd M4 106 0 = 107 := W5.s0 (A := 106) nb_sc106
    have N8 : nb_ln M4 107 = 10 := W5.sn1 (A := 106) nb_sc106
    have E9 : nb_rd M4 107 l1 = 110 + l1 := W5.sg (A := 106) (i := l1) nb_sc106 (by omega) (by omega)
    refine nb_Wg (q_c_bestPlace_6 _ _ _ _ _ _ _ _ (by omega) (by rw [E7]; first | done | omega) (by omega) (by rw [E7, N8]; first | done | omega) (by rw [E7, E9]; first | done | omega)) ?_
    simp only [E7, E9]
    clear E7 N8 E9
    have W10 : nb_Lay (nb_wr M4 (110 + l1) 3 l4) := W5.wr (fun w => (nb_nsg (A := 106) (i := l1) nb_sc106 (by omega) (by omega)))
    refine nb_Gr ?_
    have E11 : nb_rd (nb_wr M4 (110 + l1) 3 l4) 106 8 = M4.1 106 8 := nb_rdw (Or.inr (by decide)) (nb_rd_1 _ _ _)
    refine nb_Wg (q_c_bestPlace_7 _ _ _ _ _ _ _ (by omega)) ?_
    simp only [E11]
    clear E11
    refine nb_Gb ?_
    refine nb_W.imp (nb_Hu H) (fun r M13 H => ?_)
    obtain ⟨rfl, W14, g15, H⟩ := H
    replace H := nb_Hw H
    show nb_W 39 8 [(19, 2), (0, l1), (0, l2), (0, l3), (0, l4), (15, 106)] [] M13 _
    refine nb_Wg (q_c_bestPlace_8 _ _ _ _ _ _ _ (by omega)) ?_
    refine nb_Gb ?_
    refine nb_W.imp (nb_Hu H) (fun r M17 H => ?_)
    obtain ⟨x16, rfl, W18, g19, H⟩ := H
    replace H := nb_Hw H
    show nb_W 39 9 [(19, 2), (0, l1), (0, l2), (0, l3), (0, l4), (15, 106)] [(0, x16)] M17 _
    refine nb_Wg (q_c_bestPlace_9 _ _ _ _ _ _ _ _) ?_
    refine nb_Gi (fun c26 => ?_) (fun c26 => ?_)
    · have H := nb_Hw ((nb_Hu H).1 c26)
      refine nb_Gr ?_
      refine nb_Wg (q_c_bestPlace_10 _ _ _ _ _ _ _ (by omega)) ?_
      refine nb_Gb ?_
      refine nb_W.imp (nb_Hu H) (fun r M21 H => ?_)
      obtain ⟨x20, rfl, W22, g23, H⟩ := H
      replace H := nb_Hw H
      show nb_W 39 11 [(19, 2), (0, l1), (0, l2), (0, l3), (0, l4), (15, 106)] [(0, x20)] M21 _
      refine nb_Wg (q_c_bestPlace_11 _ _ _ _ _ _ _ _) ?_
      refine nb_Gr ?_
      have E24 : nb_add l4 1 = l4 + 1 := nb_add_eq (by omega) (by omega)
      refine nb_Wg (q_c_bestPlace_12 _ _ _ _ _ _ _) ?_
      simp only [E24]
      clear E24
      refine nb_Gr ?_
      exact nb_Hu H
    · have H := nb_Hw ((nb_Hu H).2 (by omega))
      have c26 : l3 ≤ x16 := by omega
      refine nb_Gr ?_
      have E25 : nb_add l4 1 = l4 + 1 := nb_add_eq (by omega) (by omega)
      refine nb_Wg (q_c_bestPlace_12 _ _ _ _ _ _ _) ?_
      simp only [E25]
      clear E25
      refine nb_Gr ?_
      exact nb_Hu H
  · have H := nb_Hw ((nb_Hu H).2 (by omega))
    have c27 : M.1 Ho 9 ≤ l4 := by omega
    refine nb_Gr ?_
    refine nb_Wg (q_c_bestPlace_13 _ _ _ _ _ _ _) ?_
    refine nb_Gs ?_
    exact nb_Hu H W

theorem w_c_bestManner_0 {l1 Ho : Int} {v2 v3 v4 v5 : nb_V} {M : nb_M} {Q : List nb_V → nb_M → Prop} (W : nb_Lay M) (hHo : nb_hs Ho) (hx2 : M.1 2 2 = Ho) (H : (l1 < 0 → (nb_Lay (nb_wr M 2 15 1) → Q [(0, (-1))] (nb_wr M 2 15 1))) ∧ (0 ≤ l1 → 0 ≤ M.1 Ho 13 ∧ M.1 Ho 13 ≤ 10 ∧ (l1 < M.1 Ho 13 → (M.1 (88 + l1) 8 = 0 → nb_W 40 4 [(19, 2), (0, l1), (0, (-2)), (0, 1000000), (0, 0), v5] [] (nb_wr (nb_wr M 2 15 0) 2 15 0) Q) ∧ (M.1 (88 + l1) 8 ≠ 0 → (nb_Lay (nb_wr (nb_wr M 2 15 0) 2 15 5) → Q [(0, (-1))] (nb_wr (nb_wr M 2 15 0) 2 15 5)))) ∧ (M.1 Ho 13 ≤ l1 → (nb_Lay (nb_wr M 2 15 1) → Q [(0, (-1))] (nb_wr M 2 15 1))))) :
    nb_W 40 0 [(19, 2), (0, l1), v2, v3, v4, v5] [] M Q := by
  replace H := nb_Hw H
  have uhHo := hHo
  unfold nb_hs at uhHo
  refine nb_Wg (q_c_bestManner_0 _ _ _ _ _ _ _ (by omega)) ?_
  refine nb_Gb ?_
  refine nb_Wg (q_c_mayStillChange_0 _ _ _ (by omega)) ?_
  refine nb_Gb ?_
  refine nb_Wg (q_c_isPerson_0 _ _ _) ?_
  refine nb_Gi (fun c29 => ?_) (fun c29 => ?_)
  · have H := nb_Hw ((nb_Hu H).1 c29)
    refine nb_Gr ?_
    refine nb_Wg (q_c_isPerson_3 _ _ _) ?_
    refine nb_Gr ?_
    have E1 : nb_i2z 0 = 0 := by decide
    refine nb_Wg (q_c_isPerson_4 _ _ _ _) ?_
    simp only [E1]
    clear E1
    refine nb_Gs ?_
    show nb_W 38 1 [(19, 2), (0, l1)] [(0, 0), (19, 2)] M _
    refine nb_Wg (q_c_mayStillChange_1 _ _ _ _ _ (by omega)) ?_
    refine nb_Gb ?_
    refine nb_Wg (q_c_granted_0 _ _ _ _) ?_
    refine nb_Gt (by decide) ?_
    refine nb_Gr ?_
    refine nb_Wg (q_c_granted_2 _ _ _ _ _) ?_
    refine nb_Gr ?_
    refine nb_Wg (q_c_granted_3 _ _ _ _ _ _ (by omega)) ?_
    have W2 : nb_Lay (nb_wr M 2 15 1) := W.wr (fun w => (nb_nlit (by decide) (by decide)))
    refine nb_Gr ?_
    have E3 : nb_i2z 0 = 0 := by decide
    refine nb_Wg (q_c_granted_4 _ _ _ _) ?_
    simp only [E3]
    clear E3
    refine nb_Gs ?_
    show nb_W 38 2 [(19, 2), (0, l1)] [(0, 0)] (nb_wr M 2 15 1) _
    refine nb_Wg (q_c_mayStillChange_2 _ _ _ _) ?_
    refine nb_Gt (by decide) ?_
    refine nb_Gr ?_
    refine nb_Wg (q_c_mayStillChange_7 _ _ _) ?_
    refine nb_Gr ?_
    have E4 : nb_i2z 0 = 0 := by decide
    refine nb_Wg (q_c_mayStillChange_8 _ _ _ _) ?_
    simp only [E4]
    clear E4
    refine nb_Gs ?_
    show nb_W 40 1 [(19, 2), (0, l1), v2, v3, v4, v5] [(0, 0)] (nb_wr M 2 15 1) _
    refine nb_Wg (q_c_bestManner_1 _ _ _ _ _ _ _ _) ?_
    refine nb_Gt (by decide) ?_
    refine nb_Gr ?_
    refine nb_Wg (q_c_bestManner_2 _ _ _ _ _ _ _) ?_
    refine nb_Gs ?_
    exact nb_Hu H W2
  · have H := nb_Hw ((nb_Hu H).2 (by omega))
    have c29 : 0 ≤ l1 := by omega
    refine nb_Gr ?_
    obtain ⟨p0_, p1_, H⟩ := H
    replace H := nb_Hw H
    have E5 : nb_rd M 2 2 = Ho := hx2
    have E6 : nb_rd M Ho 13 = M.1 Ho 13 := nb_rd_1 _ _ _
    refine nb_Wg (q_c_isPerson_1 _ _ _ (by omega) (by rw [E5]; first | done | omega)) ?_
    simp only [E5, E6]
    clear E5 E6
    refine nb_Gi (fun c28 => ?_) (fun c28 => ?_)
    · have H := nb_Hw ((nb_Hu H).1 c28)
      refine nb_Gr ?_
      refine nb_Wg (q_c_isPerson_2 _ _ _) ?_
      refine nb_Gr ?_
      have E7 : nb_i2z 1 = 1 := by decide
      refine nb_Wg (q_c_isPerson_4 _ _ _ _) ?_
      simp only [E7]
      clear E7
      refine nb_Gs ?_
      show nb_W 38 1 [(19, 2), (0, l1)] [(0, 1), (19, 2)] M _
      refine nb_Wg (q_c_mayStillChange_1 _ _ _ _ _ (by omega)) ?_
      refine nb_Gb ?_
      refine nb_Wg (q_c_granted_0 _ _ _ _) ?_
      refine nb_Gf (by decide) ?_
      refine nb_Gr ?_
      refine nb_Wg (q_c_granted_1 _ _ _ _ _) ?_
      refine nb_Gr ?_
      refine nb_Wg (q_c_granted_3 _ _ _ _ _ _ (by omega)) ?_
      have W8 : nb_Lay (nb_wr M 2 15 0) := W.wr (fun w => (nb_nlit (by decide) (by decide)))
      refine nb_Gr ?_
      have E9 : nb_i2z 1 = 1 := by decide
      refine nb_Wg (q_c_granted_4 _ _ _ _) ?_
      simp only [E9]
      clear E9
      refine nb_Gs ?_
      show nb_W 38 2 [(19, 2), (0, l1)] [(0, 1)] (nb_wr M 2 15 0) _
      refine nb_Wg (q_c_mayStillChange_2 _ _ _ _) ?_
      refine nb_Gf (by decide) ?_
      refine nb_Gr ?_
      refine nb_Wg (q_c_mayStillChange_3 _ _ _ (by omega)) ?_
      refine nb_Gb ?_
      have E10 : nb_rd (nb_wr M 2 15 0) 2 5 = 84 := W8.c5
      have E11 : nb_rd (nb_wr M 2 15 0) 84 0 = 85 := W8.s0 (A := 84) nb_sc84
      have N12 : nb_ln (nb_wr M 2 15 0) 85 = 10 := W8.sn1 (A := 84) nb_sc84
      have E13 : nb_rd (nb_wr M 2 15 0) 85 l1 = 88 + l1 := W8.sg (A := 84) (i := l1) nb_sc84 (by omega) (by omega)
      have E14 : nb_rd (nb_wr M 2 15 0) (88 + l1) 8 = M.1 (88 + l1) 8 := nb_rdw (Or.inr (by decide)) (nb_rd_1 _ _ _)
      refine nb_Wg (q_c_isAway_0 _ _ _ (by omega) (by rw [E10]; first | done | omega) (by rw [E10, E11]; first | done | omega) (by omega) (by rw [E10, E11, N12]; first | done | omega) (by rw [E10, E11, E13]; first | done | omega)) ?_
      simp only [E10, E11, E13, E14]
      clear E10 E11 N12 E13 E14
      refine nb_Gi (fun c23 => ?_) (fun c23 => ?_)
      · have H := nb_Hw ((nb_Hu H).1 c23)
        refine nb_Gr ?_
        refine nb_Wg (q_c_isAway_1 _ _ _) ?_
        refine nb_Gr ?_
        have E15 : nb_i2z 1 = 1 := by decide
        refine nb_Wg (q_c_isAway_3 _ _ _ _) ?_
        simp only [E15]
        clear E15
        refine nb_Gs ?_
        show nb_W 38 4 [(19, 2), (0, l1)] [(0, 1), (19, 2)] (nb_wr M 2 15 0) _
        refine nb_Wg (q_c_mayStillChange_4 _ _ _ _ _ (by omega)) ?_
        refine nb_Gb ?_
        refine nb_Wg (q_c_granted_0 _ _ _ _) ?_
        refine nb_Gf (by decide) ?_
        refine nb_Gr ?_
        refine nb_Wg (q_c_granted_1 _ _ _ _ _) ?_
        refine nb_Gr ?_
        refine nb_Wg (q_c_granted_3 _ _ _ _ _ _ (by omega)) ?_
        have W16 : nb_Lay (nb_wr (nb_wr M 2 15 0) 2 15 0) := W8.wr (fun w => (nb_nlit (by decide) (by decide)))
        refine nb_Gr ?_
        have E17 : nb_i2z 1 = 1 := by decide
        refine nb_Wg (q_c_granted_4 _ _ _ _) ?_
        simp only [E17]
        clear E17
        refine nb_Gs ?_
        show nb_W 38 5 [(19, 2), (0, l1)] [(0, 1)] (nb_wr (nb_wr M 2 15 0) 2 15 0) _
        refine nb_Wg (q_c_mayStillChange_5 _ _ _ _) ?_
        refine nb_Gf (by decide) ?_
        refine nb_Gr ?_
        refine nb_Wg (q_c_mayStillChange_6 _ _ _) ?_
        refine nb_Gr ?_
        have E18 : nb_i2z 1 = 1 := by decide
        refine nb_Wg (q_c_mayStillChange_8 _ _ _ _) ?_
        simp only [E18]
        clear E18
        refine nb_Gs ?_
        show nb_W 40 1 [(19, 2), (0, l1), v2, v3, v4, v5] [(0, 1)] (nb_wr (nb_wr M 2 15 0) 2 15 0) _
        refine nb_Wg (q_c_bestManner_1 _ _ _ _ _ _ _ _) ?_
        refine nb_Gf (by decide) ?_
        refine nb_Gr ?_
        refine nb_Wg (q_c_bestManner_3 _ _ _ _ _ _ _) ?_
        refine nb_Gr ?_
        exact nb_Hu H
      · have H := nb_Hw ((nb_Hu H).2 (by omega))
        have c23 : M.1 (88 + l1) 8 ≠ 0 := by omega
        refine nb_Gr ?_
        refine nb_Wg (q_c_isAway_2 _ _ _) ?_
        refine nb_Gr ?_
        have E19 : nb_i2z 0 = 0 := by decide
        refine nb_Wg (q_c_isAway_3 _ _ _ _) ?_
        simp only [E19]
        clear E19
        refine nb_Gs ?_
        show nb_W 38 4 [(19, 2), (0, l1)] [(0, 0), (19, 2)] (nb_wr M 2 15 0) _
        refine nb_Wg (q_c_mayStillChange_4 _ _ _ _ _ (by omega)) ?_
        refine nb_Gb ?_
        refine nb_Wg (q_c_granted_0 _ _ _ _) ?_
        refine nb_Gt (by decide) ?_
        refine nb_Gr ?_
        refine nb_Wg (q_c_granted_2 _ _ _ _ _) ?_
        refine nb_Gr ?_
        refine nb_Wg (q_c_granted_3 _ _ _ _ _ _ (by omega)) ?_
        have W20 : nb_Lay (nb_wr (nb_wr M 2 15 0) 2 15 5) := W8.wr (fun w => (nb_nlit (by decide) (by decide)))
        refine nb_Gr ?_
        have E21 : nb_i2z 0 = 0 := by decide
        refine nb_Wg (q_c_granted_4 _ _ _ _) ?_
        simp only [E21]
        clear E21
        refine nb_Gs ?_
        show nb_W 38 5 [(19, 2), (0, l1)] [(0, 0)] (nb_wr (nb_wr M 2 15 0) 2 15 5) _
        refine nb_Wg (q_c_mayStillChange_5 _ _ _ _) ?_
        refine nb_Gt (by decide) ?_
        refine nb_Gr ?_
        refine nb_Wg (q_c_mayStillChange_7 _ _ _) ?_
        refine nb_Gr ?_
        have E22 : nb_i2z 0 = 0 := by decide
        refine nb_Wg (q_c_mayStillChange_8 _ _ _ _) ?_
        simp only [E22]
        clear E22
        refine nb_Gs ?_
        show nb_W 40 1 [(19, 2), (0, l1), v2, v3, v4, v5] [(0, 0)] (nb_wr (nb_wr M 2 15 0) 2 15 5) _
        refine nb_Wg (q_c_bestManner_1 _ _ _ _ _ _ _ _) ?_
        refine nb_Gt (by decide) ?_
        refine nb_Gr ?_
        refine nb_Wg (q_c_bestManner_2 _ _ _ _ _ _ _) ?_
        refine nb_Gs ?_
        exact nb_Hu H W20
    · have H := nb_Hw ((nb_Hu H).2 (by omega))
      have c28 : M.1 Ho 13 ≤ l1 := by omega
      refine nb_Gr ?_
      refine nb_Wg (q_c_isPerson_3 _ _ _) ?_
      refine nb_Gr ?_
      have E24 : nb_i2z 0 = 0 := by decide
      refine nb_Wg (q_c_isPerson_4 _ _ _ _) ?_
      simp only [E24]
      clear E24
      refine nb_Gs ?_
      show nb_W 38 1 [(19, 2), (0, l1)] [(0, 0), (19, 2)] M _
      refine nb_Wg (q_c_mayStillChange_1 _ _ _ _ _ (by omega)) ?_
      refine nb_Gb ?_
      refine nb_Wg (q_c_granted_0 _ _ _ _) ?_
      refine nb_Gt (by decide) ?_
      refine nb_Gr ?_
      refine nb_Wg (q_c_granted_2 _ _ _ _ _) ?_
      refine nb_Gr ?_
      refine nb_Wg (q_c_granted_3 _ _ _ _ _ _ (by omega)) ?_
      have W25 : nb_Lay (nb_wr M 2 15 1) := W.wr (fun w => (nb_nlit (by decide) (by decide)))
      refine nb_Gr ?_
      have E26 : nb_i2z 0 = 0 := by decide
      refine nb_Wg (q_c_granted_4 _ _ _ _) ?_
      simp only [E26]
      clear E26
      refine nb_Gs ?_
      show nb_W 38 2 [(19, 2), (0, l1)] [(0, 0)] (nb_wr M 2 15 1) _
      refine nb_Wg (q_c_mayStillChange_2 _ _ _ _) ?_
      refine nb_Gt (by decide) ?_
      refine nb_Gr ?_
      refine nb_Wg (q_c_mayStillChange_7 _ _ _) ?_
      refine nb_Gr ?_
      have E27 : nb_i2z 0 = 0 := by decide
      refine nb_Wg (q_c_mayStillChange_8 _ _ _ _) ?_
      simp only [E27]
      clear E27
      refine nb_Gs ?_
      show nb_W 40 1 [(19, 2), (0, l1), v2, v3, v4, v5] [(0, 0)] (nb_wr M 2 15 1) _
      refine nb_Wg (q_c_bestManner_1 _ _ _ _ _ _ _ _) ?_
      refine nb_Gt (by decide) ?_
      refine nb_Gr ?_
      refine nb_Wg (q_c_bestManner_2 _ _ _ _ _ _ _) ?_
      refine nb_Gs ?_
      exact nb_Hu H W25

theorem w_c_bestManner_4 {l1 l2 l3 l4 Ho : Int} {v5 : nb_V} {M : nb_M} {Q : List nb_V → nb_M → Prop} (W : nb_Lay M) (hHo : nb_hs Ho) (hx2 : M.1 2 2 = Ho) (b0_ : 0 ≤ l4 ∧ l4 ≤ 4) (b1_ : 0 ≤ l1 ∧ l1 ≤ 9) (H : (l4 < 4 → nb_W 23 0 [(19, 2)] [] M (fun r M2 => r = [(15, 106)] ∧ nb_Lay M2 ∧ M2.1 2 2 = Ho ∧ nb_W 216 0 [(11, 110 + l1), (0, l4), (0, 30)] [] M2 (fun r M9 => r = [] ∧ nb_Lay M9 ∧ M9.1 2 2 = Ho ∧ nb_W 257 0 [(15, 106), (0, M9.1 106 8), (98, 0), (98, 0)] [] M9 (fun r M14 => r = [] ∧ nb_Lay M14 ∧ M14.1 2 2 = Ho ∧ nb_W 267 0 [(15, 106), (0, l1)] [] M14 (fun r M18 => ∃ x17 : Int, r = [(0, x17)] ∧ nb_Lay M18 ∧ M18.1 2 2 = Ho ∧ (x17 < l3 → nb_W 267 0 [(15, 106), (0, l1)] [] M18 (fun r M22 => ∃ x21 : Int, r = [(0, x21)] ∧ nb_Lay M22 ∧ M22.1 2 2 = Ho ∧ nb_W 40 4 [(19, 2), (0, l1), (0, l4), (0, x21), (0, l4 + 1), (15, 106)] [] M22 Q)) ∧ (l3 ≤ x17 → nb_W 40 4 [(19, 2), (0, l1), (0, l2), (0, l3), (0, l4 + 1), (15, 106)] [] M18 Q)))))) ∧ (4 ≤ l4 → (nb_Lay M → Q [(0, l2)] M))) :
    nb_W 40 4 [(19, 2), (0, l1), (0, l2), (0, l3), (0, l4), v5] [] M Q := by
  replace H := nb_Hw H
  have uhHo := hHo
  unfold nb_hs at uhHo
  refine nb_Wg (q_c_bestManner_4 _ _ _ _ _ _ _) ?_
  refine nb_Gi (fun c28 => ?_) (fun c28 => ?_)
  · have H := nb_Hw ((nb_Hu H).1 c28)
    refine nb_Gr ?_
    refine nb_Wg (q_c_bestManner_5 _ _ _ _ _ _ _ (by omega)) ?_
    refine nb_Gb ?_
    refine nb_W.imp (nb_Hu H) (fun r M2 H => ?_)
    obtain ⟨rfl, W3, g4, H⟩ := H
    replace H := nb_Hw H
    show nb_W 40 6 [(19, 2), (0, l1), (0, l2), (0, l3), (0, l4), v5] [(15, 106)] M2 _
    have E5 : nb_rd M2 106 0 = 107 := W3.s0 (A := 106) nb_sc106
    have N6 : nb_ln M2 107 = 10 := W3.sn1 (A := 106) nb_sc106
    have E7 : nb_rd M2 107 l1 = 110 + l1 := W3.sg (A := 106) (i := l1) nb_sc106 (by omega) (by omega)
    refine nb_Wg (q_c_bestManner_6 _ _ _ _ _ _ _ _ (by omega) (by rw [E5]; first | done | omega) (by omega) (by rw [E5, N6]; first | done | omega) (by rw [E5, E7]; first | done | omega)) ?_
    simp only [E5, E7]
    clear E5 N6 E7
    refine nb_Gb ?_
    refine nb_W.imp (nb_Hu H) (fun r M9 H => ?_)
    obtain ⟨rfl, W10, g11, H⟩ := H
    replace H := nb_Hw H
    show nb_W 40 7 [(19, 2), (0, l1), (0, l2), (0, l3), (0, l4), (15, 106)] [] M9 _
    have E12 : nb_rd M9 106 8 = M9.1 106 8 := nb_rd_1 _ _ _
    refine nb_Wg (q_c_bestManner_7 _ _ _ _ _ _ _ (by omega)) ?_
    simp only [E12]
    clear E12
    refine nb_Gb ?_
    refine nb_W.imp (nb_Hu H) (fun r M14 H => ?_)
    obtain ⟨rfl, W15, g16, H⟩ := H
    replace H := nb_Hw H
    show nb_W 40 8 [(19, 2), (0, l1), (0, l2), (0, l3), (0, l4), (15, 106)] [] M14 _
    refine nb_Wg (q_c_bestManner_8 _ _ _ _ _ _ _ (by omega)) ?_
    refine nb_Gb ?_
    refine nb_W.imp (nb_Hu H) (fun r M18 H => ?_)
    obtain ⟨x17, rfl, W19, g20, H⟩ := H
    replace H := nb_Hw H
    show nb_W 40 9 [(19, 2), (0, l1), (0, l2), (0, l3), (0, l4), (15, 106)] [(0, x17)] M18 _
    refine nb_Wg (q_c_bestManner_9 _ _ _ _ _ _ _ _) ?_
    refine nb_Gi (fun c27 => ?_) (fun c27 => ?_)
    · have H := nb_Hw ((nb_Hu H).1 c27)
      refine nb_Gr ?_
      refine nb_Wg (q_c_bestManner_10 _ _ _ _ _ _ _ (by omega)) ?_
      refine nb_Gb ?_
      refine nb_W.imp (nb_Hu H) (fun r M22 H => ?_)
      obtain ⟨x21, rfl, W23, g24, H⟩ := H
      replace H := nb_Hw H
      show nb_W 40 11 [(19, 2), (0, l1), (0, l2), (0, l3), (0, l4), (15, 106)] [(0, x21)] M22 _
      refine nb_Wg (q_c_bestManner_11 _ _ _ _ _ _ _ _) ?_
      refine nb_Gr ?_
      have E25 : nb_add l4 1 = l4 + 1 := nb_add_eq (by omega) (by omega)
      refine nb_Wg (q_c_bestManner_12 _ _ _ _ _ _ _) ?_
      simp only [E25]
      clear E25
      refine nb_Gr ?_
      exact nb_Hu H
    · have H := nb_Hw ((nb_Hu H).2 (by omega))
      have c27 : l3 ≤ x17 := by omega
      refine nb_Gr ?_
      have E26 : nb_add l4 1 = l4 + 1 := nb_add_eq (by omega) (by omega)
      refine nb_Wg (q_c_bestManner_12 _ _ _ _ _ _ _) ?_
      simp only [E26]
      clear E26
      refine nb_Gr ?_
      exact nb_Hu H
  · have H := nb_Hw ((nb_Hu H).2 (by omega))
    have c28 : 4 ≤ l4 := by omega
    refine nb_Gr ?_
    refine nb_Wg (q_c_bestManner_13 _ _ _ _ _ _ _) ?_
    refine nb_Gs ?_
    exact nb_Hu H W

theorem w_c_leastLook_0 {l1 Ho : Int} {v2 v3 v4 v5 : nb_V} {M : nb_M} {Q : List nb_V → nb_M → Prop} (W : nb_Lay M) (hHo : nb_hs Ho) (hx2 : M.1 2 2 = Ho) (H : (l1 < 0 → (nb_Lay (nb_wr M 2 15 1) → Q [(0, (-1))] (nb_wr M 2 15 1))) ∧ (0 ≤ l1 → 0 ≤ M.1 Ho 13 ∧ M.1 Ho 13 ≤ 10 ∧ (l1 < M.1 Ho 13 → (M.1 (88 + l1) 8 = 0 → nb_W 46 4 [(19, 2), (0, l1), (0, (-2)), (0, 1000000), (0, 0), v5] [] (nb_wr (nb_wr M 2 15 0) 2 15 0) Q) ∧ (M.1 (88 + l1) 8 ≠ 0 → (nb_Lay (nb_wr (nb_wr M 2 15 0) 2 15 5) → Q [(0, (-1))] (nb_wr (nb_wr M 2 15 0) 2 15 5)))) ∧ (M.1 Ho 13 ≤ l1 → (nb_Lay (nb_wr M 2 15 1) → Q [(0, (-1))] (nb_wr M 2 15 1))))) :
    nb_W 46 0 [(19, 2), (0, l1), v2, v3, v4, v5] [] M Q := by
  replace H := nb_Hw H
  have uhHo := hHo
  unfold nb_hs at uhHo
  refine nb_Wg (q_c_leastLook_0 _ _ _ _ _ _ _ (by omega)) ?_
  refine nb_Gb ?_
  refine nb_Wg (q_c_mayStillChange_0 _ _ _ (by omega)) ?_
  refine nb_Gb ?_
  refine nb_Wg (q_c_isPerson_0 _ _ _) ?_
  refine nb_Gi (fun c29 => ?_) (fun c29 => ?_)
  · have H := nb_Hw ((nb_Hu H).1 c29)
    refine nb_Gr ?_
    refine nb_Wg (q_c_isPerson_3 _ _ _) ?_
    refine nb_Gr ?_
    have E1 : nb_i2z 0 = 0 := by decide
    refine nb_Wg (q_c_isPerson_4 _ _ _ _) ?_
    simp only [E1]
    clear E1
    refine nb_Gs ?_
    show nb_W 38 1 [(19, 2), (0, l1)] [(0, 0), (19, 2)] M _
    refine nb_Wg (q_c_mayStillChange_1 _ _ _ _ _ (by omega)) ?_
    refine nb_Gb ?_
    refine nb_Wg (q_c_granted_0 _ _ _ _) ?_
    refine nb_Gt (by decide) ?_
    refine nb_Gr ?_
    refine nb_Wg (q_c_granted_2 _ _ _ _ _) ?_
    refine nb_Gr ?_
    refine nb_Wg (q_c_granted_3 _ _ _ _ _ _ (by omega)) ?_
    have W2 : nb_Lay (nb_wr M 2 15 1) := W.wr (fun w => (nb_nlit (by decide) (by decide)))
    refine nb_Gr ?_
    have E3 : nb_i2z 0 = 0 := by decide
    refine nb_Wg (q_c_granted_4 _ _ _ _) ?_
    simp only [E3]
    clear E3
    refine nb_Gs ?_
    show nb_W 38 2 [(19, 2), (0, l1)] [(0, 0)] (nb_wr M 2 15 1) _
    refine nb_Wg (q_c_mayStillChange_2 _ _ _ _) ?_
    refine nb_Gt (by decide) ?_
    refine nb_Gr ?_
    refine nb_Wg (q_c_mayStillChange_7 _ _ _) ?_
    refine nb_Gr ?_
    have E4 : nb_i2z 0 = 0 := by decide
    refine nb_Wg (q_c_mayStillChange_8 _ _ _ _) ?_
    simp only [E4]
    clear E4
    refine nb_Gs ?_
    show nb_W 46 1 [(19, 2), (0, l1), v2, v3, v4, v5] [(0, 0)] (nb_wr M 2 15 1) _
    refine nb_Wg (q_c_leastLook_1 _ _ _ _ _ _ _ _) ?_
    refine nb_Gt (by decide) ?_
    refine nb_Gr ?_
    refine nb_Wg (q_c_leastLook_2 _ _ _ _ _ _ _) ?_
    refine nb_Gs ?_
    exact nb_Hu H W2
  · have H := nb_Hw ((nb_Hu H).2 (by omega))
    have c29 : 0 ≤ l1 := by omega
    refine nb_Gr ?_
    obtain ⟨p0_, p1_, H⟩ := H
    replace H := nb_Hw H
    have E5 : nb_rd M 2 2 = Ho := hx2
    have E6 : nb_rd M Ho 13 = M.1 Ho 13 := nb_rd_1 _ _ _
    refine nb_Wg (q_c_isPerson_1 _ _ _ (by omega) (by rw [E5]; first | done | omega)) ?_
    simp only [E5, E6]
    clear E5 E6
    refine nb_Gi (fun c28 => ?_) (fun c28 => ?_)
    · have H := nb_Hw ((nb_Hu H).1 c28)
      refine nb_Gr ?_
      refine nb_Wg (q_c_isPerson_2 _ _ _) ?_
      refine nb_Gr ?_
      have E7 : nb_i2z 1 = 1 := by decide
      refine nb_Wg (q_c_isPerson_4 _ _ _ _) ?_
      simp only [E7]
      clear E7
      refine nb_Gs ?_
      show nb_W 38 1 [(19, 2), (0, l1)] [(0, 1), (19, 2)] M _
      refine nb_Wg (q_c_mayStillChange_1 _ _ _ _ _ (by omega)) ?_
      refine nb_Gb ?_
      refine nb_Wg (q_c_granted_0 _ _ _ _) ?_
      refine nb_Gf (by decide) ?_
      refine nb_Gr ?_
      refine nb_Wg (q_c_granted_1 _ _ _ _ _) ?_
      refine nb_Gr ?_
      refine nb_Wg (q_c_granted_3 _ _ _ _ _ _ (by omega)) ?_
      have W8 : nb_Lay (nb_wr M 2 15 0) := W.wr (fun w => (nb_nlit (by decide) (by decide)))
      refine nb_Gr ?_
      have E9 : nb_i2z 1 = 1 := by decide
      refine nb_Wg (q_c_granted_4 _ _ _ _) ?_
      simp only [E9]
      clear E9
      refine nb_Gs ?_
      show nb_W 38 2 [(19, 2), (0, l1)] [(0, 1)] (nb_wr M 2 15 0) _
      refine nb_Wg (q_c_mayStillChange_2 _ _ _ _) ?_
      refine nb_Gf (by decide) ?_
      refine nb_Gr ?_
      refine nb_Wg (q_c_mayStillChange_3 _ _ _ (by omega)) ?_
      refine nb_Gb ?_
      have E10 : nb_rd (nb_wr M 2 15 0) 2 5 = 84 := W8.c5
      have E11 : nb_rd (nb_wr M 2 15 0) 84 0 = 85 := W8.s0 (A := 84) nb_sc84
      have N12 : nb_ln (nb_wr M 2 15 0) 85 = 10 := W8.sn1 (A := 84) nb_sc84
      have E13 : nb_rd (nb_wr M 2 15 0) 85 l1 = 88 + l1 := W8.sg (A := 84) (i := l1) nb_sc84 (by omega) (by omega)
      have E14 : nb_rd (nb_wr M 2 15 0) (88 + l1) 8 = M.1 (88 + l1) 8 := nb_rdw (Or.inr (by decide)) (nb_rd_1 _ _ _)
      refine nb_Wg (q_c_isAway_0 _ _ _ (by omega) (by rw [E10]; first | done | omega) (by rw [E10, E11]; first | done | omega) (by omega) (by rw [E10, E11, N12]; first | done | omega) (by rw [E10, E11, E13]; first | done | omega)) ?_
      simp only [E10, E11, E13, E14]
      clear E10 E11 N12 E13 E14
      refine nb_Gi (fun c23 => ?_) (fun c23 => ?_)
      · have H := nb_Hw ((nb_Hu H).1 c23)
        refine nb_Gr ?_
        refine nb_Wg (q_c_isAway_1 _ _ _) ?_
        refine nb_Gr ?_
        have E15 : nb_i2z 1 = 1 := by decide
        refine nb_Wg (q_c_isAway_3 _ _ _ _) ?_
        simp only [E15]
        clear E15
        refine nb_Gs ?_
        show nb_W 38 4 [(19, 2), (0, l1)] [(0, 1), (19, 2)] (nb_wr M 2 15 0) _
        refine nb_Wg (q_c_mayStillChange_4 _ _ _ _ _ (by omega)) ?_
        refine nb_Gb ?_
        refine nb_Wg (q_c_granted_0 _ _ _ _) ?_
        refine nb_Gf (by decide) ?_
        refine nb_Gr ?_
        refine nb_Wg (q_c_granted_1 _ _ _ _ _) ?_
        refine nb_Gr ?_
        refine nb_Wg (q_c_granted_3 _ _ _ _ _ _ (by omega)) ?_
        have W16 : nb_Lay (nb_wr (nb_wr M 2 15 0) 2 15 0) := W8.wr (fun w => (nb_nlit (by decide) (by decide)))
        refine nb_Gr ?_
        have E17 : nb_i2z 1 = 1 := by decide
        refine nb_Wg (q_c_granted_4 _ _ _ _) ?_
        simp only [E17]
        clear E17
        refine nb_Gs ?_
        show nb_W 38 5 [(19, 2), (0, l1)] [(0, 1)] (nb_wr (nb_wr M 2 15 0) 2 15 0) _
        refine nb_Wg (q_c_mayStillChange_5 _ _ _ _) ?_
        refine nb_Gf (by decide) ?_
        refine nb_Gr ?_
        refine nb_Wg (q_c_mayStillChange_6 _ _ _) ?_
        refine nb_Gr ?_
        have E18 : nb_i2z 1 = 1 := by decide
        refine nb_Wg (q_c_mayStillChange_8 _ _ _ _) ?_
        simp only [E18]
        clear E18
        refine nb_Gs ?_
        show nb_W 46 1 [(19, 2), (0, l1), v2, v3, v4, v5] [(0, 1)] (nb_wr (nb_wr M 2 15 0) 2 15 0) _
        refine nb_Wg (q_c_leastLook_1 _ _ _ _ _ _ _ _) ?_
        refine nb_Gf (by decide) ?_
        refine nb_Gr ?_
        refine nb_Wg (q_c_leastLook_3 _ _ _ _ _ _ _) ?_
        refine nb_Gr ?_
        exact nb_Hu H
      · have H := nb_Hw ((nb_Hu H).2 (by omega))
        have c23 : M.1 (88 + l1) 8 ≠ 0 := by omega
        refine nb_Gr ?_
        refine nb_Wg (q_c_isAway_2 _ _ _) ?_
        refine nb_Gr ?_
        have E19 : nb_i2z 0 = 0 := by decide
        refine nb_Wg (q_c_isAway_3 _ _ _ _) ?_
        simp only [E19]
        clear E19
        refine nb_Gs ?_
        show nb_W 38 4 [(19, 2), (0, l1)] [(0, 0), (19, 2)] (nb_wr M 2 15 0) _
        refine nb_Wg (q_c_mayStillChange_4 _ _ _ _ _ (by omega)) ?_
        refine nb_Gb ?_
        refine nb_Wg (q_c_granted_0 _ _ _ _) ?_
        refine nb_Gt (by decide) ?_
        refine nb_Gr ?_
        refine nb_Wg (q_c_granted_2 _ _ _ _ _) ?_
        refine nb_Gr ?_
        refine nb_Wg (q_c_granted_3 _ _ _ _ _ _ (by omega)) ?_
        have W20 : nb_Lay (nb_wr (nb_wr M 2 15 0) 2 15 5) := W8.wr (fun w => (nb_nlit (by decide) (by decide)))
        refine nb_Gr ?_
        have E21 : nb_i2z 0 = 0 := by decide
        refine nb_Wg (q_c_granted_4 _ _ _ _) ?_
        simp only [E21]
        clear E21
        refine nb_Gs ?_
        show nb_W 38 5 [(19, 2), (0, l1)] [(0, 0)] (nb_wr (nb_wr M 2 15 0) 2 15 5) _
        refine nb_Wg (q_c_mayStillChange_5 _ _ _ _) ?_
        refine nb_Gt (by decide) ?_
        refine nb_Gr ?_
        refine nb_Wg (q_c_mayStillChange_7 _ _ _) ?_
        refine nb_Gr ?_
        have E22 : nb_i2z 0 = 0 := by decide
        refine nb_Wg (q_c_mayStillChange_8 _ _ _ _) ?_
        simp only [E22]
        clear E22
        refine nb_Gs ?_
        show nb_W 46 1 [(19, 2), (0, l1), v2, v3, v4, v5] [(0, 0)] (nb_wr (nb_wr M 2 15 0) 2 15 5) _
        refine nb_Wg (q_c_leastLook_1 _ _ _ _ _ _ _ _) ?_
        refine nb_Gt (by decide) ?_
        refine nb_Gr ?_
        refine nb_Wg (q_c_leastLook_2 _ _ _ _ _ _ _) ?_
        refine nb_Gs ?_
        exact nb_Hu H W20
    · have H := nb_Hw ((nb_Hu H).2 (by omega))
      have c28 : M.1 Ho 13 ≤ l1 := by omega
      refine nb_Gr ?_
      refine nb_Wg (q_c_isPerson_3 _ _ _) ?_
      refine nb_Gr ?_
      have E24 : nb_i2z 0 = 0 := by decide
      refine nb_Wg (q_c_isPerson_4 _ _ _ _) ?_
      simp only [E24]
      clear E24
      refine nb_Gs ?_
      show nb_W 38 1 [(19, 2), (0, l1)] [(0, 0), (19, 2)] M _
      refine nb_Wg (q_c_mayStillChange_1 _ _ _ _ _ (by omega)) ?_
      refine nb_Gb ?_
      refine nb_Wg (q_c_granted_0 _ _ _ _) ?_
      refine nb_Gt (by decide) ?_
      refine nb_Gr ?_
      refine nb_Wg (q_c_granted_2 _ _ _ _ _) ?_
      refine nb_Gr ?_
      refine nb_Wg (q_c_granted_3 _ _ _ _ _ _ (by omega)) ?_
      have W25 : nb_Lay (nb_wr M 2 15 1) := W.wr (fun w => (nb_nlit (by decide) (by decide)))
      refine nb_Gr ?_
      have E26 : nb_i2z 0 = 0 := by decide
      refine nb_Wg (q_c_granted_4 _ _ _ _) ?_
      simp only [E26]
      clear E26
      refine nb_Gs ?_
      show nb_W 38 2 [(19, 2), (0, l1)] [(0, 0)] (nb_wr M 2 15 1) _
      refine nb_Wg (q_c_mayStillChange_2 _ _ _ _) ?_
      refine nb_Gt (by decide) ?_
      refine nb_Gr ?_
      refine nb_Wg (q_c_mayStillChange_7 _ _ _) ?_
      refine nb_Gr ?_
      have E27 : nb_i2z 0 = 0 := by decide
      refine nb_Wg (q_c_mayStillChange_8 _ _ _ _) ?_
      simp only [E27]
      clear E27
      refine nb_Gs ?_
      show nb_W 46 1 [(19, 2), (0, l1), v2, v3, v4, v5] [(0, 0)] (nb_wr M 2 15 1) _
      refine nb_Wg (q_c_leastLook_1 _ _ _ _ _ _ _ _) ?_
      refine nb_Gt (by decide) ?_
      refine nb_Gr ?_
      refine nb_Wg (q_c_leastLook_2 _ _ _ _ _ _ _) ?_
      refine nb_Gs ?_
      exact nb_Hu H W25

theorem w_c_leastLook_4 {l1 l2 l3 l4 Ho : Int} {v5 : nb_V} {M : nb_M} {Q : List nb_V → nb_M → Prop} (W : nb_Lay M) (hHo : nb_hs Ho) (hx2 : M.1 2 2 = Ho) (b0_ : 0 ≤ l4 ∧ l4 ≤ 100) (b1_ : 0 ≤ l1 ∧ l1 ≤ 9) (H : (99 < l4 → (nb_Lay M → Q [(0, l2)] M)) ∧ (l4 ≤ 99 → nb_W 23 0 [(19, 2)] [] M (fun r M2 => r = [(15, 106)] ∧ nb_Lay M2 ∧ M2.1 2 2 = Ho ∧ nb_W 257 0 [(15, 106), (0, M2.1 106 8), (98, 0), (98, 0)] [] (nb_wr M2 (110 + l1) 5 l4) (fun r M11 => r = [] ∧ nb_Lay M11 ∧ M11.1 2 2 = Ho ∧ nb_W 267 0 [(15, 106), (0, l1)] [] M11 (fun r M15 => ∃ x14 : Int, r = [(0, x14)] ∧ nb_Lay M15 ∧ M15.1 2 2 = Ho ∧ (x14 < l3 → nb_W 267 0 [(15, 106), (0, l1)] [] M15 (fun r M19 => ∃ x18 : Int, r = [(0, x18)] ∧ nb_Lay M19 ∧ M19.1 2 2 = Ho ∧ nb_W 46 4 [(19, 2), (0, l1), (0, l4), (0, x18), (0, l4 + 1), (15, 106)] [] M19 Q)) ∧ (l3 ≤ x14 → nb_W 46 4 [(19, 2), (0, l1), (0, l2), (0, l3), (0, l4 + 1), (15, 106)] [] M15 Q)))))) :
    nb_W 46 4 [(19, 2), (0, l1), (0, l2), (0, l3), (0, l4), v5] [] M Q := by
  replace H := nb_Hw H
  have uhHo := hHo
  unfold nb_hs at uhHo
  refine nb_Wg (q_c_leastLook_4 _ _ _ _ _ _ _) ?_
  refine nb_Gi (fun c25 => ?_) (fun c25 => ?_)
  · have H := nb_Hw ((nb_Hu H).1 c25)
    refine nb_Gr ?_
    refine nb_Wg (q_c_leastLook_13 _ _ _ _ _ _ _) ?_
    refine nb_Gs ?_
    exact nb_Hu H W
  · have H := nb_Hw ((nb_Hu H).2 (by omega))
    have c25 : l4 ≤ 99 := by omega
    refine nb_Gr ?_
    refine nb_Wg (q_c_leastLook_5 _ _ _ _ _ _ _ (by omega)) ?_
    refine nb_Gb ?_
    refine nb_W.imp (nb_Hu H) (fun r M2 H => ?_)
    obtain ⟨rfl, W3, g4, H⟩ := H
    replace H := nb_Hw H
    show nb_W 46 6 [(19, 2), (0, l1), (0, l2), (0, l3), (0, l4), v5] [(15, 106)] M2 _
    have E5 : nb_rd M2 106 0 = 107 := W3.s0 (A := 106) nb_sc106
    have N6 : nb_ln M2 107 = 10 := W3.sn1 (A := 106) nb_sc106
    have E7 : nb_rd M2 107 l1 = 110 + l1 := W3.sg (A := 106) (i := l1) nb_sc106 (by omega) (by omega)
    refine nb_Wg (q_c_leastLook_6 _ _ _ _ _ _ _ _ (by omega) (by rw [E5]; first | done | omega) (by omega) (by rw [E5, N6]; first | done | omega) (by rw [E5, E7]; first | done | omega)) ?_
    simp only [E5, E7]
    clear E5 N6 E7
    have W8 : nb_Lay (nb_wr M2 (110 + l1) 5 l4) := W3.wr (fun w => (nb_nsg (A := 106) (i := l1) nb_sc106 (by omega) (by omega)))
    refine nb_Gr ?_
    have E9 : nb_rd (nb_wr M2 (110 + l1) 5 l4) 106 8 = M2.1 106 8 := nb_rdw (Or.inr (by decide)) (nb_rd_1 _ _ _)
    refine nb_Wg (q_c_leastLook_7 _ _ _ _ _ _ _ (by omega)) ?_
    simp only [E9]
    clear E9
    refine nb_Gb ?_
    refine nb_W.imp (nb_Hu H) (fun r M11 H => ?_)
    obtain ⟨rfl, W12, g13, H⟩ := H
    replace H := nb_Hw H
    show nb_W 46 8 [(19, 2), (0, l1), (0, l2), (0, l3), (0, l4), (15, 106)] [] M11 _
    refine nb_Wg (q_c_leastLook_8 _ _ _ _ _ _ _ (by omega)) ?_
    refine nb_Gb ?_
    refine nb_W.imp (nb_Hu H) (fun r M15 H => ?_)
    obtain ⟨x14, rfl, W16, g17, H⟩ := H
    replace H := nb_Hw H
    show nb_W 46 9 [(19, 2), (0, l1), (0, l2), (0, l3), (0, l4), (15, 106)] [(0, x14)] M15 _
    refine nb_Wg (q_c_leastLook_9 _ _ _ _ _ _ _ _) ?_
    refine nb_Gi (fun c24 => ?_) (fun c24 => ?_)
    · have H := nb_Hw ((nb_Hu H).1 c24)
      refine nb_Gr ?_
      refine nb_Wg (q_c_leastLook_10 _ _ _ _ _ _ _ (by omega)) ?_
      refine nb_Gb ?_
      refine nb_W.imp (nb_Hu H) (fun r M19 H => ?_)
      obtain ⟨x18, rfl, W20, g21, H⟩ := H
      replace H := nb_Hw H
      show nb_W 46 11 [(19, 2), (0, l1), (0, l2), (0, l3), (0, l4), (15, 106)] [(0, x18)] M19 _
      refine nb_Wg (q_c_leastLook_11 _ _ _ _ _ _ _ _) ?_
      refine nb_Gr ?_
      have E22 : nb_add l4 1 = l4 + 1 := nb_add_eq (by omega) (by omega)
      refine nb_Wg (q_c_leastLook_12 _ _ _ _ _ _ _) ?_
      simp only [E22]
      clear E22
      refine nb_Gr ?_
      exact nb_Hu H
    · have H := nb_Hw ((nb_Hu H).2 (by omega))
      have c24 : l3 ≤ x14 := by omega
      refine nb_Gr ?_
      have E23 : nb_add l4 1 = l4 + 1 := nb_add_eq (by omega) (by omega)
      refine nb_Wg (q_c_leastLook_12 _ _ _ _ _ _ _) ?_
      simp only [E23]
      clear E23
      refine nb_Gr ?_
      exact nb_Hu H

theorem w_c_cut_0 {Ho : Int} {M : nb_M} {Q : List nb_V → nb_M → Prop} (W : nb_Lay M) (hHo : nb_hs Ho) (hx2 : M.1 2 2 = Ho) (H : 0 ≤ M.1 Ho 13 ∧ M.1 Ho 13 ≤ 10 ∧ (0 < M.1 Ho 13 → 0 ≤ M.1 Ho 12 ∧ M.1 Ho 12 ≤ 3 ∧ (M.1 Ho 12 < 2 → (nb_Lay (nb_wr (nb_wr M 2 15 0) 2 15 5) → Q [(0, (-1))] (nb_wr (nb_wr M 2 15 0) 2 15 5))) ∧ (2 ≤ M.1 Ho 12 → 0 ≤ M.1 Ho 9 ∧ M.1 Ho 9 ≤ 20 ∧ (M.1 Ho 9 < 2 → (nb_Lay (nb_wr (nb_wr M 2 15 0) 2 15 5) → Q [(0, (-1))] (nb_wr (nb_wr M 2 15 0) 2 15 5))) ∧ (2 ≤ M.1 Ho 9 → nb_W 44 0 [(19, 2), (98, 0), (98, 0), (98, 0), (98, 0)] [] (nb_wr (nb_wr M 2 15 0) 2 15 0) (fun r M20 => ∃ x19 : Int, r = [(0, x19)] ∧ nb_Lay M20 ∧ M20.1 2 2 = Ho ∧ (nb_Lay M20 → Q [(0, x19)] M20))))) ∧ (M.1 Ho 13 ≤ 0 → (nb_Lay (nb_wr M 2 15 1) → Q [(0, (-1))] (nb_wr M 2 15 1)))) :
    nb_W 41 0 [(19, 2)] [] M Q := by
  replace H := nb_Hw H
  have uhHo := hHo
  unfold nb_hs at uhHo
  refine nb_Wg (q_c_cut_0 _ _ (by omega)) ?_
  refine nb_Gb ?_
  refine nb_Wg (q_c_mayCut_0 _ _ (by omega)) ?_
  refine nb_Gb ?_
  obtain ⟨p0_, p1_, H⟩ := H
  replace H := nb_Hw H
  have E1 : nb_rd M 2 2 = Ho := hx2
  have E2 : nb_rd M Ho 13 = M.1 Ho 13 := nb_rd_1 _ _ _
  refine nb_Wg (q_c_isOpen_0 _ _ (by omega) (by rw [E1]; first | done | omega)) ?_
  simp only [E1, E2]
  clear E1 E2
  refine nb_Gi (fun c29 => ?_) (fun c29 => ?_)
  · have H := nb_Hw ((nb_Hu H).1 c29)
    refine nb_Gr ?_
    refine nb_Wg (q_c_isOpen_1 _ _) ?_
    refine nb_Gr ?_
    have E3 : nb_i2z 1 = 1 := by decide
    refine nb_Wg (q_c_isOpen_3 _ _ _) ?_
    simp only [E3]
    clear E3
    refine nb_Gs ?_
    show nb_W 43 1 [(19, 2)] [(0, 1), (19, 2)] M _
    refine nb_Wg (q_c_mayCut_1 _ _ _ _ (by omega)) ?_
    refine nb_Gb ?_
    refine nb_Wg (q_c_granted_0 _ _ _ _) ?_
    refine nb_Gf (by decide) ?_
    refine nb_Gr ?_
    refine nb_Wg (q_c_granted_1 _ _ _ _ _) ?_
    refine nb_Gr ?_
    refine nb_Wg (q_c_granted_3 _ _ _ _ _ _ (by omega)) ?_
    have W4 : nb_Lay (nb_wr M 2 15 0) := W.wr (fun w => (nb_nlit (by decide) (by decide)))
    refine nb_Gr ?_
    have E5 : nb_i2z 1 = 1 := by decide
    refine nb_Wg (q_c_granted_4 _ _ _ _) ?_
    simp only [E5]
    clear E5
    refine nb_Gs ?_
    show nb_W 43 2 [(19, 2)] [(0, 1)] (nb_wr M 2 15 0) _
    refine nb_Wg (q_c_mayCut_2 _ _ _) ?_
    refine nb_Gf (by decide) ?_
    refine nb_Gr ?_
    obtain ⟨p0_, p1_, H⟩ := H
    replace H := nb_Hw H
    have E6 : nb_rd (nb_wr M 2 15 0) 2 2 = Ho := nb_rdw (Or.inr (by decide)) (hx2)
    have E7 : nb_rd (nb_wr M 2 15 0) Ho 12 = M.1 Ho 12 := nb_rdw (Or.inr (by decide)) (nb_rd_1 _ _ _)
    refine nb_Wg (q_c_mayCut_3 _ _ (by omega) (by rw [E6]; first | done | omega)) ?_
    simp only [E6, E7]
    clear E6 E7
    refine nb_Gi (fun c24 => ?_) (fun c24 => ?_)
    · have H := nb_Hw ((nb_Hu H).1 c24)
      refine nb_Gr ?_
      refine nb_Wg (q_c_mayCut_6 _ _ _) ?_
      refine nb_Gr ?_
      refine nb_Wg (q_c_mayCut_7 _ _ _ _ (by omega)) ?_
      refine nb_Gb ?_
      refine nb_Wg (q_c_granted_0 _ _ _ _) ?_
      refine nb_Gt (by decide) ?_
      refine nb_Gr ?_
      refine nb_Wg (q_c_granted_2 _ _ _ _ _) ?_
      refine nb_Gr ?_
      refine nb_Wg (q_c_granted_3 _ _ _ _ _ _ (by omega)) ?_
      have W8 : nb_Lay (nb_wr (nb_wr M 2 15 0) 2 15 5) := W4.wr (fun w => (nb_nlit (by decide) (by decide)))
      refine nb_Gr ?_
      have E9 : nb_i2z 0 = 0 := by decide
      refine nb_Wg (q_c_granted_4 _ _ _ _) ?_
      simp only [E9]
      clear E9
      refine nb_Gs ?_
      show nb_W 43 8 [(19, 2)] [(0, 0)] (nb_wr (nb_wr M 2 15 0) 2 15 5) _
      refine nb_Wg (q_c_mayCut_8 _ _ _) ?_
      refine nb_Gt (by decide) ?_
      refine nb_Gr ?_
      refine nb_Wg (q_c_mayCut_10 _ _) ?_
      refine nb_Gr ?_
      have E10 : nb_i2z 0 = 0 := by decide
      refine nb_Wg (q_c_mayCut_11 _ _ _) ?_
      simp only [E10]
      clear E10
      refine nb_Gs ?_
      show nb_W 41 1 [(19, 2)] [(0, 0)] (nb_wr (nb_wr M 2 15 0) 2 15 5) _
      refine nb_Wg (q_c_cut_1 _ _ _) ?_
      refine nb_Gt (by decide) ?_
      refine nb_Gr ?_
      refine nb_Wg (q_c_cut_4 _ _) ?_
      refine nb_Gr ?_
      refine nb_Wg (q_c_cut_5 _ _ _) ?_
      refine nb_Gs ?_
      exact nb_Hu H W8
    · have H := nb_Hw ((nb_Hu H).2 (by omega))
      have c24 : 2 ≤ M.1 Ho 12 := by omega
      refine nb_Gr ?_
      obtain ⟨p0_, p1_, H⟩ := H
      replace H := nb_Hw H
      have E11 : nb_rd (nb_wr M 2 15 0) 2 2 = Ho := nb_rdw (Or.inr (by decide)) (hx2)
      have E12 : nb_rd (nb_wr M 2 15 0) Ho 9 = M.1 Ho 9 := nb_rdw (Or.inr (by decide)) (nb_rd_1 _ _ _)
      refine nb_Wg (q_c_mayCut_4 _ _ _ (by omega) (by rw [E11]; first | done | omega)) ?_
      simp only [E11, E12]
      clear E11 E12
      refine nb_Gi (fun c23 => ?_) (fun c23 => ?_)
      · have H := nb_Hw ((nb_Hu H).1 c23)
        refine nb_Gr ?_
        refine nb_Wg (q_c_mayCut_6 _ _ _) ?_
        refine nb_Gr ?_
        refine nb_Wg (q_c_mayCut_7 _ _ _ _ (by omega)) ?_
        refine nb_Gb ?_
        refine nb_Wg (q_c_granted_0 _ _ _ _) ?_
        refine nb_Gt (by decide) ?_
        refine nb_Gr ?_
        refine nb_Wg (q_c_granted_2 _ _ _ _ _) ?_
        refine nb_Gr ?_
        refine nb_Wg (q_c_granted_3 _ _ _ _ _ _ (by omega)) ?_
        have W13 : nb_Lay (nb_wr (nb_wr M 2 15 0) 2 15 5) := W4.wr (fun w => (nb_nlit (by decide) (by decide)))
        refine nb_Gr ?_
        have E14 : nb_i2z 0 = 0 := by decide
        refine nb_Wg (q_c_granted_4 _ _ _ _) ?_
        simp only [E14]
        clear E14
        refine nb_Gs ?_
        show nb_W 43 8 [(19, 2)] [(0, 0)] (nb_wr (nb_wr M 2 15 0) 2 15 5) _
        refine nb_Wg (q_c_mayCut_8 _ _ _) ?_
        refine nb_Gt (by decide) ?_
        refine nb_Gr ?_
        refine nb_Wg (q_c_mayCut_10 _ _) ?_
        refine nb_Gr ?_
        have E15 : nb_i2z 0 = 0 := by decide
        refine nb_Wg (q_c_mayCut_11 _ _ _) ?_
        simp only [E15]
        clear E15
        refine nb_Gs ?_
        show nb_W 41 1 [(19, 2)] [(0, 0)] (nb_wr (nb_wr M 2 15 0) 2 15 5) _
        refine nb_Wg (q_c_cut_1 _ _ _) ?_
        refine nb_Gt (by decide) ?_
        refine nb_Gr ?_
        refine nb_Wg (q_c_cut_4 _ _) ?_
        refine nb_Gr ?_
        refine nb_Wg (q_c_cut_5 _ _ _) ?_
        refine nb_Gs ?_
        exact nb_Hu H W13
      · have H := nb_Hw ((nb_Hu H).2 (by omega))
        have c23 : 2 ≤ M.1 Ho 9 := by omega
        refine nb_Gr ?_
        refine nb_Wg (q_c_mayCut_5 _ _ _) ?_
        refine nb_Gr ?_
        refine nb_Wg (q_c_mayCut_7 _ _ _ _ (by omega)) ?_
        refine nb_Gb ?_
        refine nb_Wg (q_c_granted_0 _ _ _ _) ?_
        refine nb_Gf (by decide) ?_
        refine nb_Gr ?_
        refine nb_Wg (q_c_granted_1 _ _ _ _ _) ?_
        refine nb_Gr ?_
        refine nb_Wg (q_c_granted_3 _ _ _ _ _ _ (by omega)) ?_
        have W16 : nb_Lay (nb_wr (nb_wr M 2 15 0) 2 15 0) := W4.wr (fun w => (nb_nlit (by decide) (by decide)))
        refine nb_Gr ?_
        have E17 : nb_i2z 1 = 1 := by decide
        refine nb_Wg (q_c_granted_4 _ _ _ _) ?_
        simp only [E17]
        clear E17
        refine nb_Gs ?_
        show nb_W 43 8 [(19, 2)] [(0, 1)] (nb_wr (nb_wr M 2 15 0) 2 15 0) _
        refine nb_Wg (q_c_mayCut_8 _ _ _) ?_
        refine nb_Gf (by decide) ?_
        refine nb_Gr ?_
        refine nb_Wg (q_c_mayCut_9 _ _) ?_
        refine nb_Gr ?_
        have E18 : nb_i2z 1 = 1 := by decide
        refine nb_Wg (q_c_mayCut_11 _ _ _) ?_
        simp only [E18]
        clear E18
        refine nb_Gs ?_
        show nb_W 41 1 [(19, 2)] [(0, 1)] (nb_wr (nb_wr M 2 15 0) 2 15 0) _
        refine nb_Wg (q_c_cut_1 _ _ _) ?_
        refine nb_Gf (by decide) ?_
        refine nb_Gr ?_
        refine nb_Wg (q_c_cut_2 _ _ (by omega)) ?_
        refine nb_Gb ?_
        refine nb_W.imp (nb_Hu H) (fun r M20 H => ?_)
        obtain ⟨x19, rfl, W21, g22, H⟩ := H
        replace H := nb_Hw H
        show nb_W 41 3 [(19, 2)] [(0, x19)] M20 _
        refine nb_Wg (q_c_cut_3 _ _ _) ?_
        refine nb_Gr ?_
        refine nb_Wg (q_c_cut_5 _ _ _) ?_
        refine nb_Gs ?_
        exact nb_Hu H W21
  · have H := nb_Hw ((nb_Hu H).2 (by omega))
    have c29 : M.1 Ho 13 ≤ 0 := by omega
    refine nb_Gr ?_
    refine nb_Wg (q_c_isOpen_2 _ _) ?_
    refine nb_Gr ?_
    have E25 : nb_i2z 0 = 0 := by decide
    refine nb_Wg (q_c_isOpen_3 _ _ _) ?_
    simp only [E25]
    clear E25
    refine nb_Gs ?_
    show nb_W 43 1 [(19, 2)] [(0, 0), (19, 2)] M _
    refine nb_Wg (q_c_mayCut_1 _ _ _ _ (by omega)) ?_
    refine nb_Gb ?_
    refine nb_Wg (q_c_granted_0 _ _ _ _) ?_
    refine nb_Gt (by decide) ?_
    refine nb_Gr ?_
    refine nb_Wg (q_c_granted_2 _ _ _ _ _) ?_
    refine nb_Gr ?_
    refine nb_Wg (q_c_granted_3 _ _ _ _ _ _ (by omega)) ?_
    have W26 : nb_Lay (nb_wr M 2 15 1) := W.wr (fun w => (nb_nlit (by decide) (by decide)))
    refine nb_Gr ?_
    have E27 : nb_i2z 0 = 0 := by decide
    refine nb_Wg (q_c_granted_4 _ _ _ _) ?_
    simp only [E27]
    clear E27
    refine nb_Gs ?_
    show nb_W 43 2 [(19, 2)] [(0, 0)] (nb_wr M 2 15 1) _
    refine nb_Wg (q_c_mayCut_2 _ _ _) ?_
    refine nb_Gt (by decide) ?_
    refine nb_Gr ?_
    refine nb_Wg (q_c_mayCut_10 _ _) ?_
    refine nb_Gr ?_
    have E28 : nb_i2z 0 = 0 := by decide
    refine nb_Wg (q_c_mayCut_11 _ _ _) ?_
    simp only [E28]
    clear E28
    refine nb_Gs ?_
    show nb_W 41 1 [(19, 2)] [(0, 0)] (nb_wr M 2 15 1) _
    refine nb_Wg (q_c_cut_1 _ _ _) ?_
    refine nb_Gt (by decide) ?_
    refine nb_Gr ?_
    refine nb_Wg (q_c_cut_4 _ _) ?_
    refine nb_Gr ?_
    refine nb_Wg (q_c_cut_5 _ _ _) ?_
    refine nb_Gs ?_
    exact nb_Hu H W26

theorem w_c_cutWaits_0 {Ho : Int} {M : nb_M} {Q : List nb_V → nb_M → Prop} (W : nb_Lay M) (hHo : nb_hs Ho) (hx2 : M.1 2 2 = Ho) (H : 0 ≤ M.1 Ho 13 ∧ M.1 Ho 13 ≤ 10 ∧ (0 < M.1 Ho 13 → 0 ≤ M.1 Ho 12 ∧ M.1 Ho 12 ≤ 3 ∧ (M.1 Ho 12 < 2 → (nb_Lay (nb_wr (nb_wr M 2 15 0) 2 15 5) → Q [(0, (-1))] (nb_wr (nb_wr M 2 15 0) 2 15 5))) ∧ (2 ≤ M.1 Ho 12 → 0 ≤ M.1 Ho 9 ∧ M.1 Ho 9 ≤ 20 ∧ (M.1 Ho 9 < 2 → (nb_Lay (nb_wr (nb_wr M 2 15 0) 2 15 5) → Q [(0, (-1))] (nb_wr (nb_wr M 2 15 0) 2 15 5))) ∧ (2 ≤ M.1 Ho 9 → nb_W 44 0 [(19, 2), (98, 0), (98, 0), (98, 0), (98, 0)] [] (nb_wr (nb_wr M 2 15 0) 2 15 0) (fun r M20 => ∃ x19 : Int, r = [(0, x19)] ∧ nb_Lay M20 ∧ M20.1 2 2 = Ho ∧ nb_W 45 0 [(19, 2), (0, x19), (98, 0)] [] M20 (fun r M24 => ∃ x23 : Int, r = [(0, x23)] ∧ nb_Lay M24 ∧ M24.1 2 2 = Ho ∧ (nb_Lay M24 → Q [(0, x23)] M24)))))) ∧ (M.1 Ho 13 ≤ 0 → (nb_Lay (nb_wr M 2 15 1) → Q [(0, (-1))] (nb_wr M 2 15 1)))) :
    nb_W 42 0 [(19, 2)] [] M Q := by
  replace H := nb_Hw H
  have uhHo := hHo
  unfold nb_hs at uhHo
  refine nb_Wg (q_c_cutWaits_0 _ _ (by omega)) ?_
  refine nb_Gb ?_
  refine nb_Wg (q_c_mayCut_0 _ _ (by omega)) ?_
  refine nb_Gb ?_
  obtain ⟨p0_, p1_, H⟩ := H
  replace H := nb_Hw H
  have E1 : nb_rd M 2 2 = Ho := hx2
  have E2 : nb_rd M Ho 13 = M.1 Ho 13 := nb_rd_1 _ _ _
  refine nb_Wg (q_c_isOpen_0 _ _ (by omega) (by rw [E1]; first | done | omega)) ?_
  simp only [E1, E2]
  clear E1 E2
  refine nb_Gi (fun c33 => ?_) (fun c33 => ?_)
  · have H := nb_Hw ((nb_Hu H).1 c33)
    refine nb_Gr ?_
    refine nb_Wg (q_c_isOpen_1 _ _) ?_
    refine nb_Gr ?_
    have E3 : nb_i2z 1 = 1 := by decide
    refine nb_Wg (q_c_isOpen_3 _ _ _) ?_
    simp only [E3]
    clear E3
    refine nb_Gs ?_
    show nb_W 43 1 [(19, 2)] [(0, 1), (19, 2)] M _
    refine nb_Wg (q_c_mayCut_1 _ _ _ _ (by omega)) ?_
    refine nb_Gb ?_
    refine nb_Wg (q_c_granted_0 _ _ _ _) ?_
    refine nb_Gf (by decide) ?_
    refine nb_Gr ?_
    refine nb_Wg (q_c_granted_1 _ _ _ _ _) ?_
    refine nb_Gr ?_
    refine nb_Wg (q_c_granted_3 _ _ _ _ _ _ (by omega)) ?_
    have W4 : nb_Lay (nb_wr M 2 15 0) := W.wr (fun w => (nb_nlit (by decide) (by decide)))
    refine nb_Gr ?_
    have E5 : nb_i2z 1 = 1 := by decide
    refine nb_Wg (q_c_granted_4 _ _ _ _) ?_
    simp only [E5]
    clear E5
    refine nb_Gs ?_
    show nb_W 43 2 [(19, 2)] [(0, 1)] (nb_wr M 2 15 0) _
    refine nb_Wg (q_c_mayCut_2 _ _ _) ?_
    refine nb_Gf (by decide) ?_
    refine nb_Gr ?_
    obtain ⟨p0_, p1_, H⟩ := H
    replace H := nb_Hw H
    have E6 : nb_rd (nb_wr M 2 15 0) 2 2 = Ho := nb_rdw (Or.inr (by decide)) (hx2)
    have E7 : nb_rd (nb_wr M 2 15 0) Ho 12 = M.1 Ho 12 := nb_rdw (Or.inr (by decide)) (nb_rd_1 _ _ _)
    refine nb_Wg (q_c_mayCut_3 _ _ (by omega) (by rw [E6]; first | done | omega)) ?_
    simp only [E6, E7]
    clear E6 E7
    refine nb_Gi (fun c28 => ?_) (fun c28 => ?_)
    · have H := nb_Hw ((nb_Hu H).1 c28)
      refine nb_Gr ?_
      refine nb_Wg (q_c_mayCut_6 _ _ _) ?_
      refine nb_Gr ?_
      refine nb_Wg (q_c_mayCut_7 _ _ _ _ (by omega)) ?_
      refine nb_Gb ?_
      refine nb_Wg (q_c_granted_0 _ _ _ _) ?_
      refine nb_Gt (by decide) ?_
      refine nb_Gr ?_
      refine nb_Wg (q_c_granted_2 _ _ _ _ _) ?_
      refine nb_Gr ?_
      refine nb_Wg (q_c_granted_3 _ _ _ _ _ _ (by omega)) ?_
      have W8 : nb_Lay (nb_wr (nb_wr M 2 15 0) 2 15 5) := W4.wr (fun w => (nb_nlit (by decide) (by decide)))
      refine nb_Gr ?_
      have E9 : nb_i2z 0 = 0 := by decide
      refine nb_Wg (q_c_granted_4 _ _ _ _) ?_
      simp only [E9]
      clear E9
      refine nb_Gs ?_
      show nb_W 43 8 [(19, 2)] [(0, 0)] (nb_wr (nb_wr M 2 15 0) 2 15 5) _
      refine nb_Wg (q_c_mayCut_8 _ _ _) ?_
      refine nb_Gt (by decide) ?_
      refine nb_Gr ?_
      refine nb_Wg (q_c_mayCut_10 _ _) ?_
      refine nb_Gr ?_
      have E10 : nb_i2z 0 = 0 := by decide
      refine nb_Wg (q_c_mayCut_11 _ _ _) ?_
      simp only [E10]
      clear E10
      refine nb_Gs ?_
      show nb_W 42 1 [(19, 2)] [(0, 0)] (nb_wr (nb_wr M 2 15 0) 2 15 5) _
      refine nb_Wg (q_c_cutWaits_1 _ _ _) ?_
      refine nb_Gt (by decide) ?_
      refine nb_Gr ?_
      refine nb_Wg (q_c_cutWaits_5 _ _) ?_
      refine nb_Gr ?_
      refine nb_Wg (q_c_cutWaits_6 _ _ _) ?_
      refine nb_Gs ?_
      exact nb_Hu H W8
    · have H := nb_Hw ((nb_Hu H).2 (by omega))
      have c28 : 2 ≤ M.1 Ho 12 := by omega
      refine nb_Gr ?_
      obtain ⟨p0_, p1_, H⟩ := H
      replace H := nb_Hw H
      have E11 : nb_rd (nb_wr M 2 15 0) 2 2 = Ho := nb_rdw (Or.inr (by decide)) (hx2)
      have E12 : nb_rd (nb_wr M 2 15 0) Ho 9 = M.1 Ho 9 := nb_rdw (Or.inr (by decide)) (nb_rd_1 _ _ _)
      refine nb_Wg (q_c_mayCut_4 _ _ _ (by omega) (by rw [E11]; first | done | omega)) ?_
      simp only [E11, E12]
      clear E11 E12
      refine nb_Gi (fun c27 => ?_) (fun c27 => ?_)
      · have H := nb_Hw ((nb_Hu H).1 c27)
        refine nb_Gr ?_
        refine nb_Wg (q_c_mayCut_6 _ _ _) ?_
        refine nb_Gr ?_
        refine nb_Wg (q_c_mayCut_7 _ _ _ _ (by omega)) ?_
        refine nb_Gb ?_
        refine nb_Wg (q_c_granted_0 _ _ _ _) ?_
        refine nb_Gt (by decide) ?_
        refine nb_Gr ?_
        refine nb_Wg (q_c_granted_2 _ _ _ _ _) ?_
        refine nb_Gr ?_
        refine nb_Wg (q_c_granted_3 _ _ _ _ _ _ (by omega)) ?_
        have W13 : nb_Lay (nb_wr (nb_wr M 2 15 0) 2 15 5) := W4.wr (fun w => (nb_nlit (by decide) (by decide)))
        refine nb_Gr ?_
        have E14 : nb_i2z 0 = 0 := by decide
        refine nb_Wg (q_c_granted_4 _ _ _ _) ?_
        simp only [E14]
        clear E14
        refine nb_Gs ?_
        show nb_W 43 8 [(19, 2)] [(0, 0)] (nb_wr (nb_wr M 2 15 0) 2 15 5) _
        refine nb_Wg (q_c_mayCut_8 _ _ _) ?_
        refine nb_Gt (by decide) ?_
        refine nb_Gr ?_
        refine nb_Wg (q_c_mayCut_10 _ _) ?_
        refine nb_Gr ?_
        have E15 : nb_i2z 0 = 0 := by decide
        refine nb_Wg (q_c_mayCut_11 _ _ _) ?_
        simp only [E15]
        clear E15
        refine nb_Gs ?_
        show nb_W 42 1 [(19, 2)] [(0, 0)] (nb_wr (nb_wr M 2 15 0) 2 15 5) _
        refine nb_Wg (q_c_cutWaits_1 _ _ _) ?_
        refine nb_Gt (by decide) ?_
        refine nb_Gr ?_
        refine nb_Wg (q_c_cutWaits_5 _ _) ?_
        refine nb_Gr ?_
        refine nb_Wg (q_c_cutWaits_6 _ _ _) ?_
        refine nb_Gs ?_
        exact nb_Hu H W13
      · have H := nb_Hw ((nb_Hu H).2 (by omega))
        have c27 : 2 ≤ M.1 Ho 9 := by omega
        refine nb_Gr ?_
        refine nb_Wg (q_c_mayCut_5 _ _ _) ?_
        refine nb_Gr ?_
        refine nb_Wg (q_c_mayCut_7 _ _ _ _ (by omega)) ?_
        refine nb_Gb ?_
        refine nb_Wg (q_c_granted_0 _ _ _ _) ?_
        refine nb_Gf (by decide) ?_
        refine nb_Gr ?_
        refine nb_Wg (q_c_granted_1 _ _ _ _ _) ?_
        refine nb_Gr ?_
        refine nb_Wg (q_c_granted_3 _ _ _ _ _ _ (by omega)) ?_
        have W16 : nb_Lay (nb_wr (nb_wr M 2 15 0) 2 15 0) := W4.wr (fun w => (nb_nlit (by decide) (by decide)))
        refine nb_Gr ?_
        have E17 : nb_i2z 1 = 1 := by decide
        refine nb_Wg (q_c_granted_4 _ _ _ _) ?_
        simp only [E17]
        clear E17
        refine nb_Gs ?_
        show nb_W 43 8 [(19, 2)] [(0, 1)] (nb_wr (nb_wr M 2 15 0) 2 15 0) _
        refine nb_Wg (q_c_mayCut_8 _ _ _) ?_
        refine nb_Gf (by decide) ?_
        refine nb_Gr ?_
        refine nb_Wg (q_c_mayCut_9 _ _) ?_
        refine nb_Gr ?_
        have E18 : nb_i2z 1 = 1 := by decide
        refine nb_Wg (q_c_mayCut_11 _ _ _) ?_
        simp only [E18]
        clear E18
        refine nb_Gs ?_
        show nb_W 42 1 [(19, 2)] [(0, 1)] (nb_wr (nb_wr M 2 15 0) 2 15 0) _
        refine nb_Wg (q_c_cutWaits_1 _ _ _) ?_
        refine nb_Gf (by decide) ?_
        refine nb_Gr ?_
        refine nb_Wg (q_c_cutWaits_2 _ _ (by omega)) ?_
        refine nb_Gb ?_
        refine nb_W.imp (nb_Hu H) (fun r M20 H => ?_)
        obtain ⟨x19, rfl, W21, g22, H⟩ := H
        replace H := nb_Hw H
        show nb_W 42 3 [(19, 2)] [(0, x19), (19, 2)] M20 _
        refine nb_Wg (q_c_cutWaits_3 _ _ _ _ (by omega)) ?_
        refine nb_Gb ?_
        refine nb_W.imp (nb_Hu H) (fun r M24 H => ?_)
        obtain ⟨x23, rfl, W25, g26, H⟩ := H
        replace H := nb_Hw H
        show nb_W 42 4 [(19, 2)] [(0, x23)] M24 _
        refine nb_Wg (q_c_cutWaits_4 _ _ _) ?_
        refine nb_Gr ?_
        refine nb_Wg (q_c_cutWaits_6 _ _ _) ?_
        refine nb_Gs ?_
        exact nb_Hu H W25
  · have H := nb_Hw ((nb_Hu H).2 (by omega))
    have c33 : M.1 Ho 13 ≤ 0 := by omega
    refine nb_Gr ?_
    refine nb_Wg (q_c_isOpen_2 _ _) ?_
    refine nb_Gr ?_
    have E29 : nb_i2z 0 = 0 := by decide
    refine nb_Wg (q_c_isOpen_3 _ _ _) ?_
    simp only [E29]
    clear E29
    refine nb_Gs ?_
    show nb_W 43 1 [(19, 2)] [(0, 0), (19, 2)] M _
    refine nb_Wg (q_c_mayCut_1 _ _ _ _ (by omega)) ?_
    refine nb_Gb ?_
    refine nb_Wg (q_c_granted_0 _ _ _ _) ?_
    refine nb_Gt (by decide) ?_
    refine nb_Gr ?_
    refine nb_Wg (q_c_granted_2 _ _ _ _ _) ?_
    refine nb_Gr ?_
    refine nb_Wg (q_c_granted_3 _ _ _ _ _ _ (by omega)) ?_
    have W30 : nb_Lay (nb_wr M 2 15 1) := W.wr (fun w => (nb_nlit (by decide) (by decide)))
    refine nb_Gr ?_
    have E31 : nb_i2z 0 = 0 := by decide
    refine nb_Wg (q_c_granted_4 _ _ _ _) ?_
    simp only [E31]
    clear E31
    refine nb_Gs ?_
    show nb_W 43 2 [(19, 2)] [(0, 0)] (nb_wr M 2 15 1) _
    refine nb_Wg (q_c_mayCut_2 _ _ _) ?_
    refine nb_Gt (by decide) ?_
    refine nb_Gr ?_
    refine nb_Wg (q_c_mayCut_10 _ _) ?_
    refine nb_Gr ?_
    have E32 : nb_i2z 0 = 0 := by decide
    refine nb_Wg (q_c_mayCut_11 _ _ _) ?_
    simp only [E32]
    clear E32
    refine nb_Gs ?_
    show nb_W 42 1 [(19, 2)] [(0, 0)] (nb_wr M 2 15 1) _
    refine nb_Wg (q_c_cutWaits_1 _ _ _) ?_
    refine nb_Gt (by decide) ?_
    refine nb_Gr ?_
    refine nb_Wg (q_c_cutWaits_5 _ _) ?_
    refine nb_Gr ?_
    refine nb_Wg (q_c_cutWaits_6 _ _ _) ?_
    refine nb_Gs ?_
    exact nb_Hu H W30

theorem w_c_bestCut_0 {Ho : Int} {v1 v2 v3 v4 : nb_V} {M : nb_M} {Q : List nb_V → nb_M → Prop} (W : nb_Lay M) (hHo : nb_hs Ho) (hx2 : M.1 2 2 = Ho) (H : nb_W 44 1 [(19, 2), (0, 0), (0, 1000000), (0, 0), v4] [] M Q) :
    nb_W 44 0 [(19, 2), v1, v2, v3, v4] [] M Q := by
  replace H := nb_Hw H
  have uhHo := hHo
  unfold nb_hs at uhHo
  refine nb_Wg (q_c_bestCut_0 _ _ _ _ _ _) ?_
  refine nb_Gr ?_
  exact nb_Hu H

theorem w_c_bestCut_1 {l1 l2 l3 Ho : Int} {v4 : nb_V} {M : nb_M} {Q : List nb_V → nb_M → Prop} (W : nb_Lay M) (hHo : nb_hs Ho) (hx2 : M.1 2 2 = Ho) (b0_ : 0 ≤ l3 ∧ l3 ≤ 20) (H : 0 ≤ M.1 Ho 9 ∧ M.1 Ho 9 ≤ 20 ∧ (M.1 Ho 9 - 2 < l3 → (nb_Lay M → Q [(0, l1)] M)) ∧ (l3 ≤ M.1 Ho 9 - 2 → nb_W 45 0 [(19, 2), (0, l3), (98, 0)] [] M (fun r M5 => ∃ x4 : Int, r = [(0, x4)] ∧ nb_Lay M5 ∧ M5.1 2 2 = Ho ∧ (x4 < l2 → nb_W 44 1 [(19, 2), (0, l3), (0, x4), (0, l3 + 1), (0, x4)] [] M5 Q) ∧ (l2 ≤ x4 → nb_W 44 1 [(19, 2), (0, l1), (0, l2), (0, l3 + 1), (0, x4)] [] M5 Q)))) :
    nb_W 44 1 [(19, 2), (0, l1), (0, l2), (0, l3), v4] [] M Q := by
  replace H := nb_Hw H
  have uhHo := hHo
  unfold nb_hs at uhHo
  obtain ⟨p0_, p1_, H⟩ := H
  replace H := nb_Hw H
  have E1 : nb_rd M 2 2 = Ho := hx2
  have E2 : nb_rd M Ho 9 = M.1 Ho 9 := nb_rd_1 _ _ _
  have E3 : nb_sub (M.1 Ho 9) 2 = M.1 Ho 9 - 2 := nb_sub_eq (by omega) (by omega)
  refine nb_Wg (q_c_bestCut_1 _ _ _ _ _ _ (by omega) (by rw [E1]; first | done | omega)) ?_
  simp only [E1, E2, E3]
  clear E1 E2 E3
  refine nb_Gi (fun c11 => ?_) (fun c11 => ?_)
  · have H := nb_Hw ((nb_Hu H).1 c11)
    refine nb_Gr ?_
    refine nb_Wg (q_c_bestCut_6 _ _ _ _ _ _) ?_
    refine nb_Gs ?_
    exact nb_Hu H W
  · have H := nb_Hw ((nb_Hu H).2 (by omega))
    have c11 : l3 ≤ M.1 Ho 9 - 2 := by omega
    refine nb_Gr ?_
    refine nb_Wg (q_c_bestCut_2 _ _ _ _ _ _ (by omega)) ?_
    refine nb_Gb ?_
    refine nb_W.imp (nb_Hu H) (fun r M5 H => ?_)
    obtain ⟨x4, rfl, W6, g7, H⟩ := H
    replace H := nb_Hw H
    show nb_W 44 3 [(19, 2), (0, l1), (0, l2), (0, l3), v4] [(0, x4)] M5 _
    refine nb_Wg (q_c_bestCut_3 _ _ _ _ _ _ _) ?_
    refine nb_Gi (fun c10 => ?_) (fun c10 => ?_)
    · have H := nb_Hw ((nb_Hu H).1 c10)
      refine nb_Gr ?_
      refine nb_Wg (q_c_bestCut_4 _ _ _ _ _ _) ?_
      refine nb_Gr ?_
      have E8 : nb_add l3 1 = l3 + 1 := nb_add_eq (by omega) (by omega)
      refine nb_Wg (q_c_bestCut_5 _ _ _ _ _ _) ?_
      simp only [E8]
      clear E8
      refine nb_Gr ?_
      exact nb_Hu H
    · have H := nb_Hw ((nb_Hu H).2 (by omega))
      have c10 : l2 ≤ x4 := by omega
      refine nb_Gr ?_
      have E9 : nb_add l3 1 = l3 + 1 := nb_add_eq (by omega) (by omega)
      refine nb_Wg (q_c_bestCut_5 _ _ _ _ _ _) ?_
      simp only [E9]
      clear E9
      refine nb_Gr ?_
      exact nb_Hu H

theorem w_c_waitsByCut_0 {l1 Ho : Int} {v2 : nb_V} {M : nb_M} {Q : List nb_V → nb_M → Prop} (W : nb_Lay M) (hHo : nb_hs Ho) (hx2 : M.1 2 2 = Ho) (b0_ : 0 ≤ l1 ∧ l1 ≤ 20) (H : nb_W 23 0 [(19, 2)] [] M (fun r M2 => r = [(15, 106)] ∧ nb_Lay M2 ∧ M2.1 2 2 = Ho ∧ -2147483648 ≤ M2.1 Ho 9 - 1 ∧ M2.1 Ho 9 - 1 ≤ 2147483647 ∧ nb_W 257 0 [(15, 106), (0, M2.1 106 8), (98, 0), (98, 0)] [] (nb_wr (nb_wr (nb_wr (nb_wr M2 120 3 0) 120 4 l1) 122 3 (l1 + 1)) 122 4 (M2.1 Ho 9 - 1)) (fun r M21 => r = [] ∧ nb_Lay M21 ∧ M21.1 2 2 = Ho ∧ nb_W 268 0 [(15, 106), (0, 3)] [] M21 (fun r M25 => ∃ x24 : Int, r = [(0, x24)] ∧ nb_Lay M25 ∧ M25.1 2 2 = Ho ∧ (nb_Lay M25 → Q [(0, x24)] M25))))) :
    nb_W 45 0 [(19, 2), (0, l1), v2] [] M Q := by
  replace H := nb_Hw H
  have uhHo := hHo
  unfold nb_hs at uhHo
  refine nb_Wg (q_c_waitsByCut_0 _ _ _ _ (by omega)) ?_
  refine nb_Gb ?_
  refine nb_W.imp (nb_Hu H) (fun r M2 H => ?_)
  obtain ⟨rfl, W3, g4, H⟩ := H
  replace H := nb_Hw H
  show nb_W 45 1 [(19, 2), (0, l1), v2] [(15, 106)] M2 _
  have E5 : nb_rd M2 106 1 = 108 := W3.s1 (A := 106) nb_sc106
  have N6 : nb_ln M2 108 = 4 := W3.sn2 (A := 106) nb_sc106
  have E7 : nb_rd M2 108 0 = 120 := W3.sv (A := 106) (i := 0) nb_sc106 (by omega) (by omega)
  refine nb_Wg (q_c_waitsByCut_1 _ _ _ _ _ (by omega) (by rw [E5]; first | done | omega) (by omega) (by rw [E5, N6]; first | done | omega) (by rw [E5, E7]; first | done | omega)) ?_
  simp only [E5, E7]
  clear E5 N6 E7
  refine nb_Gb ?_
  refine nb_Wg (q_sv_stretch_0 _ _ _ _ (by omega)) ?_
  have W8 : nb_Lay (nb_wr M2 120 3 0) := W3.wr (fun w => (nb_nsv (A := 106) (i := 0) nb_sc106 (by omega) (by omega) (by omega)))
  refine nb_Gr ?_
  refine nb_Wg (q_sv_stretch_1 _ _ _ _ (by omega)) ?_
  have W9 : nb_Lay (nb_wr (nb_wr M2 120 3 0) 120 4 l1) := W8.wr (fun w => (nb_nsv (A := 106) (i := 0) nb_sc106 (by omega) (by omega) (by omega)))
  refine nb_Gr ?_
  refine nb_Wg (q_sv_stretch_2 _ _ _ _) ?_
  refine nb_Gs ?_
  show nb_W 45 2 [(19, 2), (0, l1), (15, 106)] [] (nb_wr (nb_wr M2 120 3 0) 120 4 l1) _
  obtain ⟨p0_, p1_, H⟩ := H
  replace H := nb_Hw H
  have E10 : nb_rd (nb_wr (nb_wr M2 120 3 0) 120 4 l1) 106 1 = 108 := W9.s1 (A := 106) nb_sc106
  have N11 : nb_ln (nb_wr (nb_wr M2 120 3 0) 120 4 l1) 108 = 4 := W9.sn2 (A := 106) nb_sc106
  have E12 : nb_rd (nb_wr (nb_wr M2 120 3 0) 120 4 l1) 108 1 = 122 := W9.sv (A := 106) (i := 1) nb_sc106 (by omega) (by omega)
  have E13 : nb_add l1 1 = l1 + 1 := nb_add_eq (by omega) (by omega)
  have E14 : nb_rd (nb_wr (nb_wr M2 120 3 0) 120 4 l1) 2 2 = Ho := nb_rdw (Or.inl (by decide)) (nb_rdw (Or.inl (by decide)) (g4))
  have E15 : nb_rd (nb_wr (nb_wr M2 120 3 0) 120 4 l1) Ho 9 = M2.1 Ho 9 := nb_rdw (Or.inr (by decide)) (nb_rdw (Or.inr (by decide)) (nb_rd_1 _ _ _))
  have E16 : nb_sub (M2.1 Ho 9) 1 = M2.1 Ho 9 - 1 := nb_sub_eq (by omega) (by omega)
  refine nb_Wg (q_c_waitsByCut_2 _ _ _ _ (by omega) (by rw [E10]; first | done | omega) (by omega) (by rw [E10, N11]; first | done | omega) (by omega) (by rw [E14]; first | done | omega) (by rw [E10, E12]; first | done | omega)) ?_
  simp only [E10, E12, E13, E14, E15, E16]
  clear E10 N11 E12 E13 E14 E15 E16
  refine nb_Gb ?_
  refine nb_Wg (q_sv_stretch_0 _ _ _ _ (by omega)) ?_
  have W17 : nb_Lay (nb_wr (nb_wr (nb_wr M2 120 3 0) 120 4 l1) 122 3 (l1 + 1)) := W9.wr (fun w => (nb_nsv (A := 106) (i := 1) nb_sc106 (by omega) (by omega) (by omega)))
  refine nb_Gr ?_
  refine nb_Wg (q_sv_stretch_1 _ _ _ _ (by omega)) ?_
  have W18 : nb_Lay (nb_wr (nb_wr (nb_wr (nb_wr M2 120 3 0) 120 4 l1) 122 3 (l1 + 1)) 122 4 (M2.1 Ho 9 - 1)) := W17.wr (fun w => (nb_nsv (A := 106) (i := 1) nb_sc106 (by omega) (by omega) (by omega)))
  refine nb_Gr ?_
  refine nb_Wg (q_sv_stretch_2 _ _ _ _) ?_
  refine nb_Gs ?_
  show nb_W 45 3 [(19, 2), (0, l1), (15, 106)] [] (nb_wr (nb_wr (nb_wr (nb_wr M2 120 3 0) 120 4 l1) 122 3 (l1 + 1)) 122 4 (M2.1 Ho 9 - 1)) _
  have E19 : nb_rd (nb_wr (nb_wr (nb_wr (nb_wr M2 120 3 0) 120 4 l1) 122 3 (l1 + 1)) 122 4 (M2.1 Ho 9 - 1)) 106 8 = M2.1 106 8 := nb_rdw (Or.inl (by decide)) (nb_rdw (Or.inl (by decide)) (nb_rdw (Or.inl (by decide)) (nb_rdw (Or.inl (by decide)) (nb_rd_1 _ _ _))))
  refine nb_Wg (q_c_waitsByCut_3 _ _ _ _ (by omega)) ?_
  simp only [E19]
  clear E19
  refine nb_Gb ?_
  refine nb_W.imp (nb_Hu H) (fun r M21 H => ?_)
  obtain ⟨rfl, W22, g23, H⟩ := H
  replace H := nb_Hw H
  show nb_W 45 4 [(19, 2), (0, l1), (15, 106)] [] M21 _
  refine nb_Wg (q_c_waitsByCut_4 _ _ _ _ (by omega)) ?_
  refine nb_Gb ?_
  refine nb_W.imp (nb_Hu H) (fun r M25 H => ?_)
  obtain ⟨x24, rfl, W26, g27, H⟩ := H
  replace H := nb_Hw H
  show nb_W 45 5 [(19, 2), (0, l1), (15, 106)] [(0, x24)] M25 _
  refine nb_Wg (q_c_waitsByCut_5 _ _ _ _ _) ?_
  refine nb_Gs ?_
  exact nb_Hu H W26

theorem w_c_honesty_0 {l1 l2 Ho : Int} {M : nb_M} {Q : List nb_V → nb_M → Prop} (W : nb_Lay M) (hHo : nb_hs Ho) (hx2 : M.1 2 2 = Ho) (H : 0 ≤ M.1 Ho 13 ∧ M.1 Ho 13 ≤ 10 ∧ (0 < M.1 Ho 13 → (l1 < 0 → (nb_Lay (nb_wr (nb_wr M 2 15 0) 2 15 2) → Q [(0, (-1))] (nb_wr (nb_wr M 2 15 0) 2 15 2))) ∧ (0 ≤ l1 → (l1 < nb_shl 1 (M.1 Ho 13) → nb_W 54 0 [(19, 2), (0, l1), (98, 0)] [] (nb_wr (nb_wr M 2 15 0) 2 15 0) (fun r M15 => r = [(15, 106)] ∧ nb_Lay M15 ∧ M15.1 2 2 = Ho ∧ (l2 = 0 → nb_W 270 0 [(15, 106), (0, l1), (98, 0), (98, 0)] [] M15 (fun r M19 => ∃ x18 : Int, r = [(0, x18)] ∧ nb_Lay M19 ∧ M19.1 2 2 = Ho ∧ (nb_Lay M19 → Q [(0, x18)] M19))) ∧ (l2 ≠ 0 → nb_W 270 0 [(15, 106), (0, nb_xor l1 (-1)), (98, 0), (98, 0)] [] M15 (fun r M23 => ∃ x22 : Int, r = [(0, x22)] ∧ nb_Lay M23 ∧ M23.1 2 2 = Ho ∧ (nb_Lay M23 → Q [(0, x22)] M23))))) ∧ (nb_shl 1 (M.1 Ho 13) ≤ l1 → (nb_Lay (nb_wr (nb_wr M 2 15 0) 2 15 2) → Q [(0, (-1))] (nb_wr (nb_wr M 2 15 0) 2 15 2))))) ∧ (M.1 Ho 13 ≤ 0 → (nb_Lay (nb_wr M 2 15 1) → Q [(0, (-1))] (nb_wr M 2 15 1)))) :
    nb_W 52 0 [(19, 2), (0, l1), (0, l2)] [] M Q := by
  replace H := nb_Hw H
  have uhHo := hHo
  unfold nb_hs at uhHo
  refine nb_Wg (q_c_honesty_0 _ _ _ _ (by omega)) ?_
  refine nb_Gb ?_
  refine nb_Wg (q_c_isSet_0 _ _ _ (by omega)) ?_
  refine nb_Gb ?_
  obtain ⟨p0_, p1_, H⟩ := H
  replace H := nb_Hw H
  have E1 : nb_rd M 2 2 = Ho := hx2
  have E2 : nb_rd M Ho 13 = M.1 Ho 13 := nb_rd_1 _ _ _
  refine nb_Wg (q_c_isOpen_0 _ _ (by omega) (by rw [E1]; first | done | omega)) ?_
  simp only [E1, E2]
  clear E1 E2
  refine nb_Gi (fun c36 => ?_) (fun c36 => ?_)
  · have H := nb_Hw ((nb_Hu H).1 c36)
    refine nb_Gr ?_
    refine nb_Wg (q_c_isOpen_1 _ _) ?_
    refine nb_Gr ?_
    have E3 : nb_i2z 1 = 1 := by decide
    refine nb_Wg (q_c_isOpen_3 _ _ _) ?_
    simp only [E3]
    clear E3
    refine nb_Gs ?_
    show nb_W 53 1 [(19, 2), (0, l1)] [(0, 1), (19, 2)] M _
    refine nb_Wg (q_c_isSet_1 _ _ _ _ _ (by omega)) ?_
    refine nb_Gb ?_
    refine nb_Wg (q_c_granted_0 _ _ _ _) ?_
    refine nb_Gf (by decide) ?_
    refine nb_Gr ?_
    refine nb_Wg (q_c_granted_1 _ _ _ _ _) ?_
    refine nb_Gr ?_
    refine nb_Wg (q_c_granted_3 _ _ _ _ _ _ (by omega)) ?_
    have W4 : nb_Lay (nb_wr M 2 15 0) := W.wr (fun w => (nb_nlit (by decide) (by decide)))
    refine nb_Gr ?_
    have E5 : nb_i2z 1 = 1 := by decide
    refine nb_Wg (q_c_granted_4 _ _ _ _) ?_
    simp only [E5]
    clear E5
    refine nb_Gs ?_
    show nb_W 53 2 [(19, 2), (0, l1)] [(0, 1)] (nb_wr M 2 15 0) _
    refine nb_Wg (q_c_isSet_2 _ _ _ _) ?_
    refine nb_Gf (by decide) ?_
    refine nb_Gr ?_
    refine nb_Wg (q_c_isSet_3 _ _ _) ?_
    refine nb_Gi (fun c31 => ?_) (fun c31 => ?_)
    · have H := nb_Hw ((nb_Hu H).1 c31)
      refine nb_Gr ?_
      refine nb_Wg (q_c_isSet_6 _ _ _ _) ?_
      refine nb_Gr ?_
      refine nb_Wg (q_c_isSet_7 _ _ _ _ _ (by omega)) ?_
      refine nb_Gb ?_
      refine nb_Wg (q_c_granted_0 _ _ _ _) ?_
      refine nb_Gt (by decide) ?_
      refine nb_Gr ?_
      refine nb_Wg (q_c_granted_2 _ _ _ _ _) ?_
      refine nb_Gr ?_
      refine nb_Wg (q_c_granted_3 _ _ _ _ _ _ (by omega)) ?_
      have W6 : nb_Lay (nb_wr (nb_wr M 2 15 0) 2 15 2) := W4.wr (fun w => (nb_nlit (by decide) (by decide)))
      refine nb_Gr ?_
      have E7 : nb_i2z 0 = 0 := by decide
      refine nb_Wg (q_c_granted_4 _ _ _ _) ?_
      simp only [E7]
      clear E7
      refine nb_Gs ?_
      show nb_W 53 8 [(19, 2), (0, l1)] [(0, 0)] (nb_wr (nb_wr M 2 15 0) 2 15 2) _
      refine nb_Wg (q_c_isSet_8 _ _ _ _) ?_
      refine nb_Gt (by decide) ?_
      refine nb_Gr ?_
      refine nb_Wg (q_c_isSet_10 _ _ _) ?_
      refine nb_Gr ?_
      have E8 : nb_i2z 0 = 0 := by decide
      refine nb_Wg (q_c_isSet_11 _ _ _ _) ?_
      simp only [E8]
      clear E8
      refine nb_Gs ?_
      show nb_W 52 1 [(19, 2), (0, l1), (0, l2)] [(0, 0)] (nb_wr (nb_wr M 2 15 0) 2 15 2) _
      refine nb_Wg (q_c_honesty_1 _ _ _ _ _) ?_
      refine nb_Gt (by decide) ?_
      refine nb_Gr ?_
      refine nb_Wg (q_c_honesty_2 _ _ _ _) ?_
      refine nb_Gs ?_
      exact nb_Hu H W6
    · have H := nb_Hw ((nb_Hu H).2 (by omega))
      have c31 : 0 ≤ l1 := by omega
      refine nb_Gr ?_
      have E9 : nb_rd (nb_wr M 2 15 0) 2 2 = Ho := nb_rdw (Or.inr (by decide)) (hx2)
      have E10 : nb_rd (nb_wr M 2 15 0) Ho 13 = M.1 Ho 13 := nb_rdw (Or.inr (by decide)) (nb_rd_1 _ _ _)
      refine nb_Wg (q_c_isSet_4 _ _ _ _ (by omega) (by rw [E9]; first | done | omega)) ?_
      simp only [E9, E10]
      clear E9 E10
      refine nb_Gi (fun c30 => ?_) (fun c30 => ?_)
      · have H := nb_Hw ((nb_Hu H).1 c30)
        refine nb_Gr ?_
        refine nb_Wg (q_c_isSet_5 _ _ _ _) ?_
        refine nb_Gr ?_
        refine nb_Wg (q_c_isSet_7 _ _ _ _ _ (by omega)) ?_
        refine nb_Gb ?_
        refine nb_Wg (q_c_granted_0 _ _ _ _) ?_
        refine nb_Gf (by decide) ?_
        refine nb_Gr ?_
        refine nb_Wg (q_c_granted_1 _ _ _ _ _) ?_
        refine nb_Gr ?_
        refine nb_Wg (q_c_granted_3 _ _ _ _ _ _ (by omega)) ?_
        have W11 : nb_Lay (nb_wr (nb_wr M 2 15 0) 2 15 0) := W4.wr (fun w => (nb_nlit (by decide) (by decide)))
        refine nb_Gr ?_
        have E12 : nb_i2z 1 = 1 := by decide
        refine nb_Wg (q_c_granted_4 _ _ _ _) ?_
        simp only [E12]
        clear E12
        refine nb_Gs ?_
        show nb_W 53 8 [(19, 2), (0, l1)] [(0, 1)] (nb_wr (nb_wr M 2 15 0) 2 15 0) _
        refine nb_Wg (q_c_isSet_8 _ _ _ _) ?_
        refine nb_Gf (by decide) ?_
        refine nb_Gr ?_
        refine nb_Wg (q_c_isSet_9 _ _ _) ?_
        refine nb_Gr ?_
        have E13 : nb_i2z 1 = 1 := by decide
        refine nb_Wg (q_c_isSet_11 _ _ _ _) ?_
        simp only [E13]
        clear E13
        refine nb_Gs ?_
        show nb_W 52 1 [(19, 2), (0, l1), (0, l2)] [(0, 1)] (nb_wr (nb_wr M 2 15 0) 2 15 0) _
        refine nb_Wg (q_c_honesty_1 _ _ _ _ _) ?_
        refine nb_Gf (by decide) ?_
        refine nb_Gr ?_
        refine nb_Wg (q_c_honesty_3 _ _ _ _ (by omega)) ?_
        refine nb_Gb ?_
        refine nb_W.imp (nb_Hu H) (fun r M15 H => ?_)
        obtain ⟨rfl, W16, g17, H⟩ := H
        replace H := nb_Hw H
        show nb_W 52 4 [(19, 2), (0, l1), (0, l2)] [(15, 106)] M15 _
        refine nb_Wg (q_c_honesty_4 _ _ _ _ _) ?_
        refine nb_Gi (fun c26 => ?_) (fun c26 => ?_)
        · have H := nb_Hw ((nb_Hu H).1 c26)
          refine nb_Gr ?_
          refine nb_Wg (q_c_honesty_6 _ _ _ _ _) ?_
          refine nb_Gr ?_
          refine nb_Wg (q_c_honesty_7 _ _ _ _ _ _ (by omega)) ?_
          refine nb_Gb ?_
          refine nb_W.imp (nb_Hu H) (fun r M19 H => ?_)
          obtain ⟨x18, rfl, W20, g21, H⟩ := H
          replace H := nb_Hw H
          show nb_W 52 8 [(19, 2), (0, l1), (0, l2)] [(0, x18)] M19 _
          refine nb_Wg (q_c_honesty_8 _ _ _ _ _) ?_
          refine nb_Gs ?_
          exact nb_Hu H W20
        · have H := nb_Hw ((nb_Hu H).2 (by omega))
          have c26 : l2 ≠ 0 := by omega
          refine nb_Gr ?_
          refine nb_Wg (q_c_honesty_5 _ _ _ _ _) ?_
          refine nb_Gr ?_
          refine nb_Wg (q_c_honesty_7 _ _ _ _ _ _ (by omega)) ?_
          refine nb_Gb ?_
          refine nb_W.imp (nb_Hu H) (fun r M23 H => ?_)
          obtain ⟨x22, rfl, W24, g25, H⟩ := H
          replace H := nb_Hw H
          show nb_W 52 8 [(19, 2), (0, l1), (0, l2)] [(0, x22)] M23 _
          refine nb_Wg (q_c_honesty_8 _ _ _ _ _) ?_
          refine nb_Gs ?_
          exact nb_Hu H W24
      · have H := nb_Hw ((nb_Hu H).2 (by omega))
        have c30 : nb_shl 1 (M.1 Ho 13) ≤ l1 := by omega
        refine nb_Gr ?_
        refine nb_Wg (q_c_isSet_6 _ _ _ _) ?_
        refine nb_Gr ?_
        refine nb_Wg (q_c_isSet_7 _ _ _ _ _ (by omega)) ?_
        refine nb_Gb ?_
        refine nb_Wg (q_c_granted_0 _ _ _ _) ?_
        refine nb_Gt (by decide) ?_
        refine nb_Gr ?_
        refine nb_Wg (q_c_granted_2 _ _ _ _ _) ?_
        refine nb_Gr ?_
        refine nb_Wg (q_c_granted_3 _ _ _ _ _ _ (by omega)) ?_
        have W27 : nb_Lay (nb_wr (nb_wr M 2 15 0) 2 15 2) := W4.wr (fun w => (nb_nlit (by decide) (by decide)))
        refine nb_Gr ?_
        have E28 : nb_i2z 0 = 0 := by decide
        refine nb_Wg (q_c_granted_4 _ _ _ _) ?_
        simp only [E28]
        clear E28
        refine nb_Gs ?_
        show nb_W 53 8 [(19, 2), (0, l1)] [(0, 0)] (nb_wr (nb_wr M 2 15 0) 2 15 2) _
        refine nb_Wg (q_c_isSet_8 _ _ _ _) ?_
        refine nb_Gt (by decide) ?_
        refine nb_Gr ?_
        refine nb_Wg (q_c_isSet_10 _ _ _) ?_
        refine nb_Gr ?_
        have E29 : nb_i2z 0 = 0 := by decide
        refine nb_Wg (q_c_isSet_11 _ _ _ _) ?_
        simp only [E29]
        clear E29
        refine nb_Gs ?_
        show nb_W 52 1 [(19, 2), (0, l1), (0, l2)] [(0, 0)] (nb_wr (nb_wr M 2 15 0) 2 15 2) _
        refine nb_Wg (q_c_honesty_1 _ _ _ _ _) ?_
        refine nb_Gt (by decide) ?_
        refine nb_Gr ?_
        refine nb_Wg (q_c_honesty_2 _ _ _ _) ?_
        refine nb_Gs ?_
        exact nb_Hu H W27
  · have H := nb_Hw ((nb_Hu H).2 (by omega))
    have c36 : M.1 Ho 13 ≤ 0 := by omega
    refine nb_Gr ?_
    refine nb_Wg (q_c_isOpen_2 _ _) ?_
    refine nb_Gr ?_
    have E32 : nb_i2z 0 = 0 := by decide
    refine nb_Wg (q_c_isOpen_3 _ _ _) ?_
    simp only [E32]
    clear E32
    refine nb_Gs ?_
    show nb_W 53 1 [(19, 2), (0, l1)] [(0, 0), (19, 2)] M _
    refine nb_Wg (q_c_isSet_1 _ _ _ _ _ (by omega)) ?_
    refine nb_Gb ?_
    refine nb_Wg (q_c_granted_0 _ _ _ _) ?_
    refine nb_Gt (by decide) ?_
    refine nb_Gr ?_
    refine nb_Wg (q_c_granted_2 _ _ _ _ _) ?_
    refine nb_Gr ?_
    refine nb_Wg (q_c_granted_3 _ _ _ _ _ _ (by omega)) ?_
    have W33 : nb_Lay (nb_wr M 2 15 1) := W.wr (fun w => (nb_nlit (by decide) (by decide)))
    refine nb_Gr ?_
    have E34 : nb_i2z 0 = 0 := by decide
    refine nb_Wg (q_c_granted_4 _ _ _ _) ?_
    simp only [E34]
    clear E34
    refine nb_Gs ?_
    show nb_W 53 2 [(19, 2), (0, l1)] [(0, 0)] (nb_wr M 2 15 1) _
    refine nb_Wg (q_c_isSet_2 _ _ _ _) ?_
    refine nb_Gt (by decide) ?_
    refine nb_Gr ?_
    refine nb_Wg (q_c_isSet_10 _ _ _) ?_
    refine nb_Gr ?_
    have E35 : nb_i2z 0 = 0 := by decide
    refine nb_Wg (q_c_isSet_11 _ _ _ _) ?_
    simp only [E35]
    clear E35
    refine nb_Gs ?_
    show nb_W 52 1 [(19, 2), (0, l1), (0, l2)] [(0, 0)] (nb_wr M 2 15 1) _
    refine nb_Wg (q_c_honesty_1 _ _ _ _ _) ?_
    refine nb_Gt (by decide) ?_
    refine nb_Gr ?_
    refine nb_Wg (q_c_honesty_2 _ _ _ _) ?_
    refine nb_Gs ?_
    exact nb_Hu H W33

theorem w_c_eveningOfLiars_0 {l1 Ho : Int} {v2 : nb_V} {M : nb_M} {Q : List nb_V → nb_M → Prop} (W : nb_Lay M) (hHo : nb_hs Ho) (hx2 : M.1 2 2 = Ho) (H : nb_W 254 0 [(15, 106), (12, Ho), (98, 0)] [] M (fun r M4 => r = [] ∧ nb_Lay M4 ∧ M4.1 2 2 = Ho ∧ nb_W 54 2 [(19, 2), (0, l1), (0, 0)] [] M4 Q)) :
    nb_W 54 0 [(19, 2), (0, l1), v2] [] M Q := by
  replace H := nb_Hw H
  have uhHo := hHo
  unfold nb_hs at uhHo
  have E1 : nb_rd M 2 6 = 106 := W.c6
  have E2 : nb_rd M 2 2 = Ho := hx2
  refine nb_Wg (q_c_eveningOfLiars_0 _ _ _ _ (by omega) (by rw [E1]; first | done | omega)) ?_
  simp only [E1, E2]
  clear E1 E2
  refine nb_Gb ?_
  refine nb_W.imp (nb_Hu H) (fun r M4 H => ?_)
  obtain ⟨rfl, W5, g6, H⟩ := H
  replace H := nb_Hw H
  show nb_W 54 1 [(19, 2), (0, l1), v2] [] M4 _
  refine nb_Wg (q_c_eveningOfLiars_1 _ _ _ _) ?_
  refine nb_Gr ?_
  exact nb_Hu H

theorem w_c_eveningOfLiars_2 {l1 l2 Ho : Int} {M : nb_M} {Q : List nb_V → nb_M → Prop} (W : nb_Lay M) (hHo : nb_hs Ho) (hx2 : M.1 2 2 = Ho) (b0_ : 0 ≤ l2 ∧ l2 ≤ 10) (H : 0 ≤ M.1 Ho 13 ∧ M.1 Ho 13 ≤ 10 ∧ (l2 < M.1 Ho 13 → (nb_and (nb_shr l1 l2) 1 = 1 → nb_W 216 0 [(11, 110 + l2), (0, 1), (0, 30)] [] M (fun r M8 => r = [] ∧ nb_Lay M8 ∧ M8.1 2 2 = Ho ∧ nb_W 54 2 [(19, 2), (0, l1), (0, l2 + 1)] [] M8 Q)) ∧ (nb_and (nb_shr l1 l2) 1 ≠ 1 → nb_W 216 0 [(11, 110 + l2), (0, 0), (0, 30)] [] M (fun r M13 => r = [] ∧ nb_Lay M13 ∧ M13.1 2 2 = Ho ∧ nb_W 54 2 [(19, 2), (0, l1), (0, l2 + 1)] [] M13 Q))) ∧ (M.1 Ho 13 ≤ l2 → nb_W 257 0 [(15, 106), (0, M.1 106 8), (98, 0), (98, 0)] [] M (fun r M22 => r = [] ∧ nb_Lay M22 ∧ M22.1 2 2 = Ho ∧ (nb_Lay M22 → Q [(15, 106)] M22)))) :
    nb_W 54 2 [(19, 2), (0, l1), (0, l2)] [] M Q := by
  replace H := nb_Hw H
  have uhHo := hHo
  unfold nb_hs at uhHo
  obtain ⟨p0_, p1_, H⟩ := H
  replace H := nb_Hw H
  have E1 : nb_rd M 2 2 = Ho := hx2
  have E2 : nb_rd M Ho 13 = M.1 Ho 13 := nb_rd_1 _ _ _
  refine nb_Wg (q_c_eveningOfLiars_2 _ _ _ _ (by omega) (by rw [E1]; first | done | omega)) ?_
  simp only [E1, E2]
  clear E1 E2
  refine nb_Gi (fun c26 => ?_) (fun c26 => ?_)
  · have H := nb_Hw ((nb_Hu H).1 c26)
    refine nb_Gr ?_
    have E3 : nb_rd M 2 6 = 106 := W.c6
    have E4 : nb_rd M 106 0 = 107 := W.s0 (A := 106) nb_sc106
    have N5 : nb_ln M 107 = 10 := W.sn1 (A := 106) nb_sc106
    have E6 : nb_rd M 107 l2 = 110 + l2 := W.sg (A := 106) (i := l2) nb_sc106 (by omega) (by omega)
    refine nb_Wg (q_c_eveningOfLiars_3 _ _ _ _ (by omega) (by rw [E3]; first | done | omega) (by rw [E3, E4]; first | done | omega) (by omega) (by rw [E3, E4, N5]; first | done | omega)) ?_
    simp only [E3, E4, E6]
    clear E3 E4 N5 E6
    refine nb_Gi (fun c17 => ?_) (fun c17 => ?_)
    · have H := nb_Hw ((nb_Hu H).1 c17)
      refine nb_Gr ?_
      refine nb_Wg (q_c_eveningOfLiars_4 _ _ _ _ _) ?_
      refine nb_Gr ?_
      refine nb_Wg (q_c_eveningOfLiars_6 _ _ _ _ _ _ (by omega)) ?_
      refine nb_Gb ?_
      refine nb_W.imp (nb_Hu H) (fun r M8 H => ?_)
      obtain ⟨rfl, W9, g10, H⟩ := H
      replace H := nb_Hw H
      show nb_W 54 7 [(19, 2), (0, l1), (0, l2)] [] M8 _
      have E11 : nb_add l2 1 = l2 + 1 := nb_add_eq (by omega) (by omega)
      refine nb_Wg (q_c_eveningOfLiars_7 _ _ _ _) ?_
      simp only [E11]
      clear E11
      refine nb_Gr ?_
      exact nb_Hu H
    · have H := nb_Hw ((nb_Hu H).2 (by omega))
      have c17 : nb_and (nb_shr l1 l2) 1 ≠ 1 := by omega
      refine nb_Gr ?_
      refine nb_Wg (q_c_eveningOfLiars_5 _ _ _ _ _) ?_
      refine nb_Gr ?_
      refine nb_Wg (q_c_eveningOfLiars_6 _ _ _ _ _ _ (by omega)) ?_
      refine nb_Gb ?_
      refine nb_W.imp (nb_Hu H) (fun r M13 H => ?_)
      obtain ⟨rfl, W14, g15, H⟩ := H
      replace H := nb_Hw H
      show nb_W 54 7 [(19, 2), (0, l1), (0, l2)] [] M13 _
      have E16 : nb_add l2 1 = l2 + 1 := nb_add_eq (by omega) (by omega)
      refine nb_Wg (q_c_eveningOfLiars_7 _ _ _ _) ?_
      simp only [E16]
      clear E16
      refine nb_Gr ?_
      exact nb_Hu H
  · have H := nb_Hw ((nb_Hu H).2 (by omega))
    have c26 : M.1 Ho 13 ≤ l2 := by omega
    refine nb_Gr ?_
    have E18 : nb_rd M 2 6 = 106 := W.c6
    have E19 : nb_rd M 2 6 = 106 := W.c6
    have E20 : nb_rd M 106 8 = M.1 106 8 := nb_rd_1 _ _ _
    refine nb_Wg (q_c_eveningOfLiars_8 _ _ _ _ (by omega) (by rw [E19]; first | done | omega)) ?_
    simp only [E18, E19, E20]
    clear E18 E19 E20
    refine nb_Gb ?_
    refine nb_W.imp (nb_Hu H) (fun r M22 H => ?_)
    obtain ⟨rfl, W23, g24, H⟩ := H
    replace H := nb_Hw H
    show nb_W 54 9 [(19, 2), (0, l1), (0, l2)] [] M22 _
    have E25 : nb_rd M22 2 6 = 106 := W23.c6
    refine nb_Wg (q_c_eveningOfLiars_9 _ _ _ _ (by omega)) ?_
    simp only [E25]
    clear E25
    refine nb_Gs ?_
    exact nb_Hu H W23

theorem w_c_rest_0 {l1 Ho : Int} {v2 v3 : nb_V} {M : nb_M} {Q : List nb_V → nb_M → Prop} (W : nb_Lay M) (hHo : nb_hs Ho) (hx2 : M.1 2 2 = Ho) (H : 0 ≤ M.1 Ho 13 ∧ M.1 Ho 13 ≤ 10 ∧ (0 < M.1 Ho 13 → (l1 < 0 → (nb_Lay (nb_wr (nb_wr M 2 15 0) 2 15 2) → Q [(0, (-1))] (nb_wr (nb_wr M 2 15 0) 2 15 2))) ∧ (0 ≤ l1 → (l1 < nb_shl 1 (M.1 Ho 13) → nb_W 55 4 [(19, 2), (0, l1), (0, 0), v3] [] (nb_wr (nb_wr M 2 15 0) 2 15 0) Q) ∧ (nb_shl 1 (M.1 Ho 13) ≤ l1 → (nb_Lay (nb_wr (nb_wr M 2 15 0) 2 15 2) → Q [(0, (-1))] (nb_wr (nb_wr M 2 15 0) 2 15 2))))) ∧ (M.1 Ho 13 ≤ 0 → (nb_Lay (nb_wr M 2 15 1) → Q [(0, (-1))] (nb_wr M 2 15 1)))) :
    nb_W 55 0 [(19, 2), (0, l1), v2, v3] [] M Q := by
  replace H := nb_Hw H
  have uhHo := hHo
  unfold nb_hs at uhHo
  refine nb_Wg (q_c_rest_0 _ _ _ _ _ (by omega)) ?_
  refine nb_Gb ?_
  refine nb_Wg (q_c_isSet_0 _ _ _ (by omega)) ?_
  refine nb_Gb ?_
  obtain ⟨p0_, p1_, H⟩ := H
  replace H := nb_Hw H
  have E1 : nb_rd M 2 2 = Ho := hx2
  have E2 : nb_rd M Ho 13 = M.1 Ho 13 := nb_rd_1 _ _ _
  refine nb_Wg (q_c_isOpen_0 _ _ (by omega) (by rw [E1]; first | done | omega)) ?_
  simp only [E1, E2]
  clear E1 E2
  refine nb_Gi (fun c23 => ?_) (fun c23 => ?_)
  · have H := nb_Hw ((nb_Hu H).1 c23)
    refine nb_Gr ?_
    refine nb_Wg (q_c_isOpen_1 _ _) ?_
    refine nb_Gr ?_
    have E3 : nb_i2z 1 = 1 := by decide
    refine nb_Wg (q_c_isOpen_3 _ _ _) ?_
    simp only [E3]
    clear E3
    refine nb_Gs ?_
    show nb_W 53 1 [(19, 2), (0, l1)] [(0, 1), (19, 2)] M _
    refine nb_Wg (q_c_isSet_1 _ _ _ _ _ (by omega)) ?_
    refine nb_Gb ?_
    refine nb_Wg (q_c_granted_0 _ _ _ _) ?_
    refine nb_Gf (by decide) ?_
    refine nb_Gr ?_
    refine nb_Wg (q_c_granted_1 _ _ _ _ _) ?_
    refine nb_Gr ?_
    refine nb_Wg (q_c_granted_3 _ _ _ _ _ _ (by omega)) ?_
    have W4 : nb_Lay (nb_wr M 2 15 0) := W.wr (fun w => (nb_nlit (by decide) (by decide)))
    refine nb_Gr ?_
    have E5 : nb_i2z 1 = 1 := by decide
    refine nb_Wg (q_c_granted_4 _ _ _ _) ?_
    simp only [E5]
    clear E5
    refine nb_Gs ?_
    show nb_W 53 2 [(19, 2), (0, l1)] [(0, 1)] (nb_wr M 2 15 0) _
    refine nb_Wg (q_c_isSet_2 _ _ _ _) ?_
    refine nb_Gf (by decide) ?_
    refine nb_Gr ?_
    refine nb_Wg (q_c_isSet_3 _ _ _) ?_
    refine nb_Gi (fun c18 => ?_) (fun c18 => ?_)
    · have H := nb_Hw ((nb_Hu H).1 c18)
      refine nb_Gr ?_
      refine nb_Wg (q_c_isSet_6 _ _ _ _) ?_
      refine nb_Gr ?_
      refine nb_Wg (q_c_isSet_7 _ _ _ _ _ (by omega)) ?_
      refine nb_Gb ?_
      refine nb_Wg (q_c_granted_0 _ _ _ _) ?_
      refine nb_Gt (by decide) ?_
      refine nb_Gr ?_
      refine nb_Wg (q_c_granted_2 _ _ _ _ _) ?_
      refine nb_Gr ?_
      refine nb_Wg (q_c_granted_3 _ _ _ _ _ _ (by omega)) ?_
      have W6 : nb_Lay (nb_wr (nb_wr M 2 15 0) 2 15 2) := W4.wr (fun w => (nb_nlit (by decide) (by decide)))
      refine nb_Gr ?_
      have E7 : nb_i2z 0 = 0 := by decide
      refine nb_Wg (q_c_granted_4 _ _ _ _) ?_
      simp only [E7]
      clear E7
      refine nb_Gs ?_
      show nb_W 53 8 [(19, 2), (0, l1)] [(0, 0)] (nb_wr (nb_wr M 2 15 0) 2 15 2) _
      refine nb_Wg (q_c_isSet_8 _ _ _ _) ?_
      refine nb_Gt (by decide) ?_
      refine nb_Gr ?_
      refine nb_Wg (q_c_isSet_10 _ _ _) ?_
      refine nb_Gr ?_
      have E8 : nb_i2z 0 = 0 := by decide
      refine nb_Wg (q_c_isSet_11 _ _ _ _) ?_
      simp only [E8]
      clear E8
      refine nb_Gs ?_
      show nb_W 55 1 [(19, 2), (0, l1), v2, v3] [(0, 0)] (nb_wr (nb_wr M 2 15 0) 2 15 2) _
      refine nb_Wg (q_c_rest_1 _ _ _ _ _ _) ?_
      refine nb_Gt (by decide) ?_
      refine nb_Gr ?_
      refine nb_Wg (q_c_rest_2 _ _ _ _ _) ?_
      refine nb_Gs ?_
      exact nb_Hu H W6
    · have H := nb_Hw ((nb_Hu H).2 (by omega))
      have c18 : 0 ≤ l1 := by omega
      refine nb_Gr ?_
      have E9 : nb_rd (nb_wr M 2 15 0) 2 2 = Ho := nb_rdw (Or.inr (by decide)) (hx2)
      have E10 : nb_rd (nb_wr M 2 15 0) Ho 13 = M.1 Ho 13 := nb_rdw (Or.inr (by decide)) (nb_rd_1 _ _ _)
      refine nb_Wg (q_c_isSet_4 _ _ _ _ (by omega) (by rw [E9]; first | done | omega)) ?_
      simp only [E9, E10]
      clear E9 E10
      refine nb_Gi (fun c17 => ?_) (fun c17 => ?_)
      · have H := nb_Hw ((nb_Hu H).1 c17)
        refine nb_Gr ?_
        refine nb_Wg (q_c_isSet_5 _ _ _ _) ?_
        refine nb_Gr ?_
        refine nb_Wg (q_c_isSet_7 _ _ _ _ _ (by omega)) ?_
        refine nb_Gb ?_
        refine nb_Wg (q_c_granted_0 _ _ _ _) ?_
        refine nb_Gf (by decide) ?_
        refine nb_Gr ?_
        refine nb_Wg (q_c_granted_1 _ _ _ _ _) ?_
        refine nb_Gr ?_
        refine nb_Wg (q_c_granted_3 _ _ _ _ _ _ (by omega)) ?_
        have W11 : nb_Lay (nb_wr (nb_wr M 2 15 0) 2 15 0) := W4.wr (fun w => (nb_nlit (by decide) (by decide)))
        refine nb_Gr ?_
        have E12 : nb_i2z 1 = 1 := by decide
        refine nb_Wg (q_c_granted_4 _ _ _ _) ?_
        simp only [E12]
        clear E12
        refine nb_Gs ?_
        show nb_W 53 8 [(19, 2), (0, l1)] [(0, 1)] (nb_wr (nb_wr M 2 15 0) 2 15 0) _
        refine nb_Wg (q_c_isSet_8 _ _ _ _) ?_
        refine nb_Gf (by decide) ?_
        refine nb_Gr ?_
        refine nb_Wg (q_c_isSet_9 _ _ _) ?_
        refine nb_Gr ?_
        have E13 : nb_i2z 1 = 1 := by decide
        refine nb_Wg (q_c_isSet_11 _ _ _ _) ?_
        simp only [E13]
        clear E13
        refine nb_Gs ?_
        show nb_W 55 1 [(19, 2), (0, l1), v2, v3] [(0, 1)] (nb_wr (nb_wr M 2 15 0) 2 15 0) _
        refine nb_Wg (q_c_rest_1 _ _ _ _ _ _) ?_
        refine nb_Gf (by decide) ?_
        refine nb_Gr ?_
        refine nb_Wg (q_c_rest_3 _ _ _ _ _) ?_
        refine nb_Gr ?_
        exact nb_Hu H
      · have H := nb_Hw ((nb_Hu H).2 (by omega))
        have c17 : nb_shl 1 (M.1 Ho 13) ≤ l1 := by omega
        refine nb_Gr ?_
        refine nb_Wg (q_c_isSet_6 _ _ _ _) ?_
        refine nb_Gr ?_
        refine nb_Wg (q_c_isSet_7 _ _ _ _ _ (by omega)) ?_
        refine nb_Gb ?_
        refine nb_Wg (q_c_granted_0 _ _ _ _) ?_
        refine nb_Gt (by decide) ?_
        refine nb_Gr ?_
        refine nb_Wg (q_c_granted_2 _ _ _ _ _) ?_
        refine nb_Gr ?_
        refine nb_Wg (q_c_granted_3 _ _ _ _ _ _ (by omega)) ?_
        have W14 : nb_Lay (nb_wr (nb_wr M 2 15 0) 2 15 2) := W4.wr (fun w => (nb_nlit (by decide) (by decide)))
        refine nb_Gr ?_
        have E15 : nb_i2z 0 = 0 := by decide
        refine nb_Wg (q_c_granted_4 _ _ _ _) ?_
        simp only [E15]
        clear E15
        refine nb_Gs ?_
        show nb_W 53 8 [(19, 2), (0, l1)] [(0, 0)] (nb_wr (nb_wr M 2 15 0) 2 15 2) _
        refine nb_Wg (q_c_isSet_8 _ _ _ _) ?_
        refine nb_Gt (by decide) ?_
        refine nb_Gr ?_
        refine nb_Wg (q_c_isSet_10 _ _ _) ?_
        refine nb_Gr ?_
        have E16 : nb_i2z 0 = 0 := by decide
        refine nb_Wg (q_c_isSet_11 _ _ _ _) ?_
        simp only [E16]
        clear E16
        refine nb_Gs ?_
        show nb_W 55 1 [(19, 2), (0, l1), v2, v3] [(0, 0)] (nb_wr (nb_wr M 2 15 0) 2 15 2) _
        refine nb_Wg (q_c_rest_1 _ _ _ _ _ _) ?_
        refine nb_Gt (by decide) ?_
        refine nb_Gr ?_
        refine nb_Wg (q_c_rest_2 _ _ _ _ _) ?_
        refine nb_Gs ?_
        exact nb_Hu H W14
  · have H := nb_Hw ((nb_Hu H).2 (by omega))
    have c23 : M.1 Ho 13 ≤ 0 := by omega
    refine nb_Gr ?_
    refine nb_Wg (q_c_isOpen_2 _ _) ?_
    refine nb_Gr ?_
    have E19 : nb_i2z 0 = 0 := by decide
    refine nb_Wg (q_c_isOpen_3 _ _ _) ?_
    simp only [E19]
    clear E19
    refine nb_Gs ?_
    show nb_W 53 1 [(19, 2), (0, l1)] [(0, 0), (19, 2)] M _
    refine nb_Wg (q_c_isSet_1 _ _ _ _ _ (by omega)) ?_
    refine nb_Gb ?_
    refine nb_Wg (q_c_granted_0 _ _ _ _) ?_
    refine nb_Gt (by decide) ?_
    refine nb_Gr ?_
    refine nb_Wg (q_c_granted_2 _ _ _ _ _) ?_
    refine nb_Gr ?_
    refine nb_Wg (q_c_granted_3 _ _ _ _ _ _ (by omega)) ?_
    have W20 : nb_Lay (nb_wr M 2 15 1) := W.wr (fun w => (nb_nlit (by decide) (by decide)))
    refine nb_Gr ?_
    have E21 : nb_i2z 0 = 0 := by decide
    refine nb_Wg (q_c_granted_4 _ _ _ _) ?_
    simp only [E21]
    clear E21
    refine nb_Gs ?_
    show nb_W 53 2 [(19, 2), (0, l1)] [(0, 0)] (nb_wr M 2 15 1) _
    refine nb_Wg (q_c_isSet_2 _ _ _ _) ?_
    refine nb_Gt (by decide) ?_
    refine nb_Gr ?_
    refine nb_Wg (q_c_isSet_10 _ _ _) ?_
    refine nb_Gr ?_
    have E22 : nb_i2z 0 = 0 := by decide
    refine nb_Wg (q_c_isSet_11 _ _ _ _) ?_
    simp only [E22]
    clear E22
    refine nb_Gs ?_
    show nb_W 55 1 [(19, 2), (0, l1), v2, v3] [(0, 0)] (nb_wr M 2 15 1) _
    refine nb_Wg (q_c_rest_1 _ _ _ _ _ _) ?_
    refine nb_Gt (by decide) ?_
    refine nb_Gr ?_
    refine nb_Wg (q_c_rest_2 _ _ _ _ _) ?_
    refine nb_Gs ?_
    exact nb_Hu H W20

theorem w_c_rest_4 {l1 l2 Ho : Int} {v3 : nb_V} {M : nb_M} {Q : List nb_V → nb_M → Prop} (W : nb_Lay M) (hHo : nb_hs Ho) (hx2 : M.1 2 2 = Ho) (b0_ : 0 ≤ l2 ∧ l2 ≤ 10) (H : 0 ≤ M.1 Ho 13 ∧ M.1 Ho 13 ≤ 10 ∧ (l2 < M.1 Ho 13 → nb_W 54 0 [(19, 2), (0, l1), (98, 0)] [] M (fun r M4 => r = [(15, 106)] ∧ nb_Lay M4 ∧ M4.1 2 2 = Ho ∧ nb_W 266 0 [(15, 106), (0, l2), (98, 0)] [] M4 (fun r M8 => ∃ x7 : Int, r = [(0, x7)] ∧ nb_Lay M8 ∧ M8.1 2 2 = Ho ∧ nb_W 54 0 [(19, 2), (0, nb_xor l1 (nb_shl 1 l2)), (98, 0)] [] M8 (fun r M12 => r = [(15, 106)] ∧ nb_Lay M12 ∧ M12.1 2 2 = Ho ∧ nb_W 266 0 [(15, 106), (0, l2), (98, 0)] [] M12 (fun r M16 => ∃ x15 : Int, r = [(0, x15)] ∧ nb_Lay M16 ∧ M16.1 2 2 = Ho ∧ (x15 < x7 → (nb_Lay M16 → Q [(0, 0)] M16)) ∧ (x7 ≤ x15 → nb_W 55 4 [(19, 2), (0, l1), (0, l2 + 1), (0, x7)] [] M16 Q)))))) ∧ (M.1 Ho 13 ≤ l2 → (nb_Lay M → Q [(0, 1)] M))) :
    nb_W 55 4 [(19, 2), (0, l1), (0, l2), v3] [] M Q := by
  replace H := nb_Hw H
  have uhHo := hHo
  unfold nb_hs at uhHo
  obtain ⟨p0_, p1_, H⟩ := H
  replace H := nb_Hw H
  have E1 : nb_rd M 2 2 = Ho := hx2
  have E2 : nb_rd M Ho 13 = M.1 Ho 13 := nb_rd_1 _ _ _
  refine nb_Wg (q_c_rest_4 _ _ _ _ _ (by omega) (by rw [E1]; first | done | omega)) ?_
  simp only [E1, E2]
  clear E1 E2
  refine nb_Gi (fun c21 => ?_) (fun c21 => ?_)
  · have H := nb_Hw ((nb_Hu H).1 c21)
    refine nb_Gr ?_
    refine nb_Wg (q_c_rest_5 _ _ _ _ _ (by omega)) ?_
    refine nb_Gb ?_
    refine nb_W.imp (nb_Hu H) (fun r M4 H => ?_)
    obtain ⟨rfl, W5, g6, H⟩ := H
    replace H := nb_Hw H
    show nb_W 55 6 [(19, 2), (0, l1), (0, l2), v3] [(15, 106)] M4 _
    refine nb_Wg (q_c_rest_6 _ _ _ _ _ _ (by omega)) ?_
    refine nb_Gb ?_
    refine nb_W.imp (nb_Hu H) (fun r M8 H => ?_)
    obtain ⟨x7, rfl, W9, g10, H⟩ := H
    replace H := nb_Hw H
    show nb_W 55 7 [(19, 2), (0, l1), (0, l2), v3] [(0, x7)] M8 _
    refine nb_Wg (q_c_rest_7 _ _ _ _ _ _ (by omega)) ?_
    refine nb_Gb ?_
    refine nb_W.imp (nb_Hu H) (fun r M12 H => ?_)
    obtain ⟨rfl, W13, g14, H⟩ := H
    replace H := nb_Hw H
    show nb_W 55 8 [(19, 2), (0, l1), (0, l2), (0, x7)] [(15, 106)] M12 _
    refine nb_Wg (q_c_rest_8 _ _ _ _ _ _ (by omega)) ?_
    refine nb_Gb ?_
    refine nb_W.imp (nb_Hu H) (fun r M16 H => ?_)
    obtain ⟨x15, rfl, W17, g18, H⟩ := H
    replace H := nb_Hw H
    show nb_W 55 9 [(19, 2), (0, l1), (0, l2), (0, x7)] [(0, x15)] M16 _
    refine nb_Wg (q_c_rest_9 _ _ _ _ _ _) ?_
    refine nb_Gi (fun c20 => ?_) (fun c20 => ?_)
    · have H := nb_Hw ((nb_Hu H).1 c20)
      refine nb_Gr ?_
      refine nb_Wg (q_c_rest_10 _ _ _ _ _) ?_
      refine nb_Gs ?_
      exact nb_Hu H W17
    · have H := nb_Hw ((nb_Hu H).2 (by omega))
      have c20 : x7 ≤ x15 := by omega
      refine nb_Gr ?_
      have E19 : nb_add l2 1 = l2 + 1 := nb_add_eq (by omega) (by omega)
      refine nb_Wg (q_c_rest_11 _ _ _ _ _) ?_
      simp only [E19]
      clear E19
      refine nb_Gr ?_
      exact nb_Hu H
  · have H := nb_Hw ((nb_Hu H).2 (by omega))
    have c21 : M.1 Ho 13 ≤ l2 := by omega
    refine nb_Gr ?_
    refine nb_Wg (q_c_rest_12 _ _ _ _ _) ?_
    refine nb_Gs ?_
    exact nb_Hu H W

theorem w_c_rests_0 {Ho : Int} {v1 v2 v3 : nb_V} {M : nb_M} {Q : List nb_V → nb_M → Prop} (W : nb_Lay M) (hHo : nb_hs Ho) (hx2 : M.1 2 2 = Ho) (H : 0 ≤ M.1 Ho 13 ∧ M.1 Ho 13 ≤ 10 ∧ (0 < M.1 Ho 13 → (7 < M.1 Ho 13 → (nb_Lay (nb_wr (nb_wr M 2 15 0) 2 15 3) → Q [(0, (-1))] (nb_wr (nb_wr M 2 15 0) 2 15 3))) ∧ (M.1 Ho 13 ≤ 7 → nb_W 56 10 [(19, 2), (0, 0), v2, v3] [] (nb_wr (nb_wr M 2 15 0) 2 15 0) Q)) ∧ (M.1 Ho 13 ≤ 0 → (nb_Lay (nb_wr M 2 15 1) → Q [(0, (-1))] (nb_wr M 2 15 1)))) :
    nb_W 56 0 [(19, 2), v1, v2, v3] [] M Q := by
  replace H := nb_Hw H
  have uhHo := hHo
  unfold nb_hs at uhHo
  refine nb_Wg (q_c_rests_0 _ _ _ _ _ (by omega)) ?_
  refine nb_Gb ?_
  obtain ⟨p0_, p1_, H⟩ := H
  replace H := nb_Hw H
  have E1 : nb_rd M 2 2 = Ho := hx2
  have E2 : nb_rd M Ho 13 = M.1 Ho 13 := nb_rd_1 _ _ _
  refine nb_Wg (q_c_isOpen_0 _ _ (by omega) (by rw [E1]; first | done | omega)) ?_
  simp only [E1, E2]
  clear E1 E2
  refine nb_Gi (fun c16 => ?_) (fun c16 => ?_)
  · have H := nb_Hw ((nb_Hu H).1 c16)
    refine nb_Gr ?_
    refine nb_Wg (q_c_isOpen_1 _ _) ?_
    refine nb_Gr ?_
    have E3 : nb_i2z 1 = 1 := by decide
    refine nb_Wg (q_c_isOpen_3 _ _ _) ?_
    simp only [E3]
    clear E3
    refine nb_Gs ?_
    show nb_W 56 1 [(19, 2), v1, v2, v3] [(0, 1), (19, 2)] M _
    refine nb_Wg (q_c_rests_1 _ _ _ _ _ _ _ (by omega)) ?_
    refine nb_Gb ?_
    refine nb_Wg (q_c_granted_0 _ _ _ _) ?_
    refine nb_Gf (by decide) ?_
    refine nb_Gr ?_
    refine nb_Wg (q_c_granted_1 _ _ _ _ _) ?_
    refine nb_Gr ?_
    refine nb_Wg (q_c_granted_3 _ _ _ _ _ _ (by omega)) ?_
    have W4 : nb_Lay (nb_wr M 2 15 0) := W.wr (fun w => (nb_nlit (by decide) (by decide)))
    refine nb_Gr ?_
    have E5 : nb_i2z 1 = 1 := by decide
    refine nb_Wg (q_c_granted_4 _ _ _ _) ?_
    simp only [E5]
    clear E5
    refine nb_Gs ?_
    show nb_W 56 2 [(19, 2), v1, v2, v3] [(0, 1)] (nb_wr M 2 15 0) _
    refine nb_Wg (q_c_rests_2 _ _ _ _ _ _) ?_
    refine nb_Gf (by decide) ?_
    refine nb_Gr ?_
    have E6 : nb_rd (nb_wr M 2 15 0) 2 2 = Ho := nb_rdw (Or.inr (by decide)) (hx2)
    have E7 : nb_rd (nb_wr M 2 15 0) Ho 13 = M.1 Ho 13 := nb_rdw (Or.inr (by decide)) (nb_rd_1 _ _ _)
    refine nb_Wg (q_c_rests_3 _ _ _ _ _ (by omega) (by rw [E6]; first | done | omega)) ?_
    simp only [E6, E7]
    clear E6 E7
    refine nb_Gi (fun c12 => ?_) (fun c12 => ?_)
    · have H := nb_Hw ((nb_Hu H).1 c12)
      refine nb_Gr ?_
      refine nb_Wg (q_c_rests_5 _ _ _ _ _ _) ?_
      refine nb_Gr ?_
      refine nb_Wg (q_c_rests_6 _ _ _ _ _ _ _ (by omega)) ?_
      refine nb_Gb ?_
      refine nb_Wg (q_c_granted_0 _ _ _ _) ?_
      refine nb_Gt (by decide) ?_
      refine nb_Gr ?_
      refine nb_Wg (q_c_granted_2 _ _ _ _ _) ?_
      refine nb_Gr ?_
      refine nb_Wg (q_c_granted_3 _ _ _ _ _ _ (by omega)) ?_
      have W8 : nb_Lay (nb_wr (nb_wr M 2 15 0) 2 15 3) := W4.wr (fun w => (nb_nlit (by decide) (by decide)))
      refine nb_Gr ?_
      have E9 : nb_i2z 0 = 0 := by decide
      refine nb_Wg (q_c_granted_4 _ _ _ _) ?_
      simp only [E9]
      clear E9
      refine nb_Gs ?_
      show nb_W 56 7 [(19, 2), v1, v2, v3] [(0, 0)] (nb_wr (nb_wr M 2 15 0) 2 15 3) _
      refine nb_Wg (q_c_rests_7 _ _ _ _ _ _) ?_
      refine nb_Gt (by decide) ?_
      refine nb_Gr ?_
      refine nb_Wg (q_c_rests_8 _ _ _ _ _) ?_
      refine nb_Gs ?_
      exact nb_Hu H W8
    · have H := nb_Hw ((nb_Hu H).2 (by omega))
      have c12 : M.1 Ho 13 ≤ 7 := by omega
      refine nb_Gr ?_
      refine nb_Wg (q_c_rests_4 _ _ _ _ _ _) ?_
      refine nb_Gr ?_
      refine nb_Wg (q_c_rests_6 _ _ _ _ _ _ _ (by omega)) ?_
      refine nb_Gb ?_
      refine nb_Wg (q_c_granted_0 _ _ _ _) ?_
      refine nb_Gf (by decide) ?_
      refine nb_Gr ?_
      refine nb_Wg (q_c_granted_1 _ _ _ _ _) ?_
      refine nb_Gr ?_
      refine nb_Wg (q_c_granted_3 _ _ _ _ _ _ (by omega)) ?_
      have W10 : nb_Lay (nb_wr (nb_wr M 2 15 0) 2 15 0) := W4.wr (fun w => (nb_nlit (by decide) (by decide)))
      refine nb_Gr ?_
      have E11 : nb_i2z 1 = 1 := by decide
      refine nb_Wg (q_c_granted_4 _ _ _ _) ?_
      simp only [E11]
      clear E11
      refine nb_Gs ?_
      show nb_W 56 7 [(19, 2), v1, v2, v3] [(0, 1)] (nb_wr (nb_wr M 2 15 0) 2 15 0) _
      refine nb_Wg (q_c_rests_7 _ _ _ _ _ _) ?_
      refine nb_Gf (by decide) ?_
      refine nb_Gr ?_
      refine nb_Wg (q_c_rests_9 _ _ _ _ _) ?_
      refine nb_Gr ?_
      exact nb_Hu H
  · have H := nb_Hw ((nb_Hu H).2 (by omega))
    have c16 : M.1 Ho 13 ≤ 0 := by omega
    refine nb_Gr ?_
    refine nb_Wg (q_c_isOpen_2 _ _) ?_
    refine nb_Gr ?_
    have E13 : nb_i2z 0 = 0 := by decide
    refine nb_Wg (q_c_isOpen_3 _ _ _) ?_
    simp only [E13]
    clear E13
    refine nb_Gs ?_
    show nb_W 56 1 [(19, 2), v1, v2, v3] [(0, 0), (19, 2)] M _
    refine nb_Wg (q_c_rests_1 _ _ _ _ _ _ _ (by omega)) ?_
    refine nb_Gb ?_
    refine nb_Wg (q_c_granted_0 _ _ _ _) ?_
    refine nb_Gt (by decide) ?_
    refine nb_Gr ?_
    refine nb_Wg (q_c_granted_2 _ _ _ _ _) ?_
    refine nb_Gr ?_
    refine nb_Wg (q_c_granted_3 _ _ _ _ _ _ (by omega)) ?_
    have W14 : nb_Lay (nb_wr M 2 15 1) := W.wr (fun w => (nb_nlit (by decide) (by decide)))
    refine nb_Gr ?_
    have E15 : nb_i2z 0 = 0 := by decide
    refine nb_Wg (q_c_granted_4 _ _ _ _) ?_
    simp only [E15]
    clear E15
    refine nb_Gs ?_
    show nb_W 56 2 [(19, 2), v1, v2, v3] [(0, 0)] (nb_wr M 2 15 1) _
    refine nb_Wg (q_c_rests_2 _ _ _ _ _ _) ?_
    refine nb_Gt (by decide) ?_
    refine nb_Gr ?_
    refine nb_Wg (q_c_rests_8 _ _ _ _ _) ?_
    refine nb_Gs ?_
    exact nb_Hu H W14

theorem w_c_rests_10 {l1 Ho : Int} {v2 v3 : nb_V} {M : nb_M} {Q : List nb_V → nb_M → Prop} (W : nb_Lay M) (hHo : nb_hs Ho) (hx2 : M.1 2 2 = Ho) (b0_ : 0 ≤ l1 ∧ l1 ≤ 128) (H : 0 ≤ M.1 Ho 13 ∧ M.1 Ho 13 ≤ 10 ∧ (l1 < nb_shl 1 (M.1 Ho 13) → nb_W 54 0 [(19, 2), (0, l1), (98, 0)] [] M (fun r M4 => r = [(15, 106)] ∧ nb_Lay M4 ∧ M4.1 2 2 = Ho ∧ nb_W 56 13 [(19, 2), (0, l1), (15, 106), (0, 0)] [] M4 Q)) ∧ (nb_shl 1 (M.1 Ho 13) ≤ l1 → nb_W 56 19 [(19, 2), (0, 0), (0, 0), v3] [] M Q)) :
    nb_W 56 10 [(19, 2), (0, l1), v2, v3] [] M Q := by
  replace H := nb_Hw H
  have uhHo := hHo
  unfold nb_hs at uhHo
  obtain ⟨p0_, p1_, H⟩ := H
  replace H := nb_Hw H
  have E1 : nb_rd M 2 2 = Ho := hx2
  have E2 : nb_rd M Ho 13 = M.1 Ho 13 := nb_rd_1 _ _ _
  refine nb_Wg (q_c_rests_10 _ _ _ _ _ (by omega) (by rw [E1]; first | done | omega)) ?_
  simp only [E1, E2]
  clear E1 E2
  refine nb_Gi (fun c7 => ?_) (fun c7 => ?_)
  · have H := nb_Hw ((nb_Hu H).1 c7)
    refine nb_Gr ?_
    refine nb_Wg (q_c_rests_11 _ _ _ _ _ (by omega)) ?_
    refine nb_Gb ?_
    refine nb_W.imp (nb_Hu H) (fun r M4 H => ?_)
    obtain ⟨rfl, W5, g6, H⟩ := H
    replace H := nb_Hw H
    show nb_W 56 12 [(19, 2), (0, l1), v2, v3] [(15, 106)] M4 _
    refine nb_Wg (q_c_rests_12 _ _ _ _ _ _) ?_
    refine nb_Gr ?_
    exact nb_Hu H
  · have H := nb_Hw ((nb_Hu H).2 (by omega))
    have c7 : nb_shl 1 (M.1 Ho 13) ≤ l1 := by omega
    refine nb_Gr ?_
    refine nb_Wg (q_c_rests_18 _ _ _ _ _) ?_
    refine nb_Gr ?_
    exact nb_Hu H

theorem w_c_rests_13 {l1 l3 Ho : Int} {M : nb_M} {Q : List nb_V → nb_M → Prop} (W : nb_Lay M) (hHo : nb_hs Ho) (hx2 : M.1 2 2 = Ho) (b0_ : 0 ≤ l1 ∧ l1 ≤ 127) (b1_ : 0 ≤ l3 ∧ l3 ≤ 10) (H : 0 ≤ M.1 Ho 13 ∧ M.1 Ho 13 ≤ 10 ∧ (l3 < M.1 Ho 13 → nb_W 266 0 [(15, 106), (0, l3), (98, 0)] [] M (fun r M7 => ∃ x6 : Int, r = [(0, x6)] ∧ nb_Lay M7 ∧ M7.1 2 2 = Ho ∧ 0 ≤ l3 ∧ l3 < 7 ∧ nb_W 56 13 [(19, 2), (0, l1), (15, 106), (0, l3 + 1)] [] (nb_wr M7 (145 + l1) l3 x6) Q)) ∧ (M.1 Ho 13 ≤ l3 → nb_W 56 10 [(19, 2), (0, l1 + 1), (15, 106), (0, l3)] [] M Q)) :
    nb_W 56 13 [(19, 2), (0, l1), (15, 106), (0, l3)] [] M Q := by
  replace H := nb_Hw H
  have uhHo := hHo
  unfold nb_hs at uhHo
  obtain ⟨p0_, p1_, H⟩ := H
  replace H := nb_Hw H
  have E1 : nb_rd M 2 2 = Ho := hx2
  have E2 : nb_rd M Ho 13 = M.1 Ho 13 := nb_rd_1 _ _ _
  refine nb_Wg (q_c_rests_13 _ _ _ _ _ (by omega) (by rw [E1]; first | done | omega)) ?_
  simp only [E1, E2]
  clear E1 E2
  refine nb_Gi (fun c14 => ?_) (fun c14 => ?_)
  · have H := nb_Hw ((nb_Hu H).1 c14)
    refine nb_Gr ?_
    have E3 : nb_rd M 2 14 = 144 := W.c14
    have N4 : nb_ln M 144 = 128 := W.lk (by decide) (by decide +kernel)
    have E5 : nb_rd M 144 l1 = 145 + l1 := W.warr (i := l1) (by omega) (by omega)
    refine nb_Wg (q_c_rests_14 _ _ _ _ _ (by omega) (by rw [E3]; first | done | omega) (by omega) (by rw [E3, N4]; first | done | omega) (by omega)) ?_
    simp only [E3, E5]
    clear E3 N4 E5
    refine nb_Gb ?_
    refine nb_W.imp (nb_Hu H) (fun r M7 H => ?_)
    obtain ⟨x6, rfl, W8, g9, H⟩ := H
    replace H := nb_Hw H
    show nb_W 56 15 [(19, 2), (0, l1), (15, 106), (0, l3)] [(0, x6), (0, l3), (3, 145 + l1)] M7 _
    obtain ⟨p0_, p1_, H⟩ := H
    replace H := nb_Hw H
    have N10 : nb_ln M7 (145 + l1) = 7 := W8.wn (i := l1) (by omega) (by omega)
    refine nb_Wg (q_c_rests_15 _ _ _ _ _ _ _ _ (by omega) (by omega) (by omega) (by rw [N10]; first | done | omega)) ?_
    clear N10
    have W11 : nb_Lay (nb_wr M7 (145 + l1) l3 x6) := W8.wr (fun w => (nb_nnum2 (by omega)))
    refine nb_Gr ?_
    have E12 : nb_add l3 1 = l3 + 1 := nb_add_eq (by omega) (by omega)
    refine nb_Wg (q_c_rests_16 _ _ _ _ _) ?_
    simp only [E12]
    clear E12
    refine nb_Gr ?_
    exact nb_Hu H
  · have H := nb_Hw ((nb_Hu H).2 (by omega))
    have c14 : M.1 Ho 13 ≤ l3 := by omega
    refine nb_Gr ?_
    have E13 : nb_add l1 1 = l1 + 1 := nb_add_eq (by omega) (by omega)
    refine nb_Wg (q_c_rests_17 _ _ _ _ _) ?_
    simp only [E13]
    clear E13
    refine nb_Gr ?_
    exact nb_Hu H

theorem w_c_rests_19 {l1 l2 Ho : Int} {v3 : nb_V} {M : nb_M} {Q : List nb_V → nb_M → Prop} (W : nb_Lay M) (hHo : nb_hs Ho) (hx2 : M.1 2 2 = Ho) (b0_ : 0 ≤ l1 ∧ l1 ≤ 128) (b1_ : 0 ≤ l2 ∧ l2 ≤ 128) (H : 0 ≤ M.1 Ho 13 ∧ M.1 Ho 13 ≤ 10 ∧ (l2 < nb_shl 1 (M.1 Ho 13) → nb_W 57 0 [(19, 2), (0, l2), (98, 0)] [] M (fun r M4 => ∃ x3 : Int, r = [(0, x3)] ∧ nb_Lay M4 ∧ M4.1 2 2 = Ho ∧ (x3 = 0 → nb_W 56 19 [(19, 2), (0, l1), (0, l2 + 1), v3] [] M4 Q) ∧ (x3 ≠ 0 → nb_W 56 19 [(19, 2), (0, l1 + 1), (0, l2 + 1), v3] [] M4 Q))) ∧ (nb_shl 1 (M.1 Ho 13) ≤ l2 → (nb_Lay M → Q [(0, l1)] M))) :
    nb_W 56 19 [(19, 2), (0, l1), (0, l2), v3] [] M Q := by
  replace H := nb_Hw H
  have uhHo := hHo
  unfold nb_hs at uhHo
  obtain ⟨p0_, p1_, H⟩ := H
  replace H := nb_Hw H
  have E1 : nb_rd M 2 2 = Ho := hx2
  have E2 : nb_rd M Ho 13 = M.1 Ho 13 := nb_rd_1 _ _ _
  refine nb_Wg (q_c_rests_19 _ _ _ _ _ (by omega) (by rw [E1]; first | done | omega)) ?_
  simp only [E1, E2]
  clear E1 E2
  refine nb_Gi (fun c11 => ?_) (fun c11 => ?_)
  · have H := nb_Hw ((nb_Hu H).1 c11)
    refine nb_Gr ?_
    refine nb_Wg (q_c_rests_20 _ _ _ _ _ (by omega)) ?_
    refine nb_Gb ?_
    refine nb_W.imp (nb_Hu H) (fun r M4 H => ?_)
    obtain ⟨x3, rfl, W5, g6, H⟩ := H
    replace H := nb_Hw H
    show nb_W 56 21 [(19, 2), (0, l1), (0, l2), v3] [(0, x3)] M4 _
    refine nb_Wg (q_c_rests_21 _ _ _ _ _ _) ?_
    refine nb_Gi (fun c10 => ?_) (fun c10 => ?_)
    · have H := nb_Hw ((nb_Hu H).1 c10)
      refine nb_Gr ?_
      have E7 : nb_add l2 1 = l2 + 1 := nb_add_eq (by omega) (by omega)
      refine nb_Wg (q_c_rests_23 _ _ _ _ _) ?_
      simp only [E7]
      clear E7
      refine nb_Gr ?_
      exact nb_Hu H
    · have H := nb_Hw ((nb_Hu H).2 (by omega))
      have c10 : x3 ≠ 0 := by omega
      refine nb_Gr ?_
      have E8 : nb_add l1 1 = l1 + 1 := nb_add_eq (by omega) (by omega)
      refine nb_Wg (q_c_rests_22 _ _ _ _ _) ?_
      simp only [E8]
      clear E8
      refine nb_Gr ?_
      have E9 : nb_add l2 1 = l2 + 1 := nb_add_eq (by omega) (by omega)
      refine nb_Wg (q_c_rests_23 _ _ _ _ _) ?_
      simp only [E9]
      clear E9
      refine nb_Gr ?_
      exact nb_Hu H
  · have H := nb_Hw ((nb_Hu H).2 (by omega))
    have c11 : nb_shl 1 (M.1 Ho 13) ≤ l2 := by omega
    refine nb_Gr ?_
    refine nb_Wg (q_c_rests_24 _ _ _ _ _) ?_
    refine nb_Gs ?_
    exact nb_Hu H W

theorem w_c_nobodyGains_0 {l1 Ho : Int} {v2 : nb_V} {M : nb_M} {Q : List nb_V → nb_M → Prop} (W : nb_Lay M) (hHo : nb_hs Ho) (hx2 : M.1 2 2 = Ho) (H : nb_W 57 1 [(19, 2), (0, l1), (0, 0)] [] M Q) :
    nb_W 57 0 [(19, 2), (0, l1), v2] [] M Q := by
  replace H := nb_Hw H
  have uhHo := hHo
  unfold nb_hs at uhHo
  refine nb_Wg (q_c_nobodyGains_0 _ _ _ _) ?_
  refine nb_Gr ?_
  exact nb_Hu H

theorem w_c_nobodyGains_1 {l1 l2 Ho : Int} {M : nb_M} {Q : List nb_V → nb_M → Prop} (W : nb_Lay M) (hHo : nb_hs Ho) (hx2 : M.1 2 2 = Ho) (b0_ : 0 ≤ l1 ∧ l1 ≤ 127) (b1_ : 0 ≤ l2 ∧ l2 ≤ 10) (H : 0 ≤ M.1 Ho 13 ∧ M.1 Ho 13 ≤ 10 ∧ (l2 < M.1 Ho 13 → 0 ≤ nb_xor l1 (nb_shl 1 l2) ∧ nb_xor l1 (nb_shl 1 l2) < 128 ∧ 0 ≤ l2 ∧ l2 < 7 ∧ (M.1 (145 + (nb_xor l1 (nb_shl 1 l2))) l2 < M.1 (145 + l1) l2 → (nb_Lay M → Q [(0, 0)] M)) ∧ (M.1 (145 + l1) l2 ≤ M.1 (145 + (nb_xor l1 (nb_shl 1 l2))) l2 → nb_W 57 1 [(19, 2), (0, l1), (0, l2 + 1)] [] M Q)) ∧ (M.1 Ho 13 ≤ l2 → (nb_Lay M → Q [(0, 1)] M))) :
    nb_W 57 1 [(19, 2), (0, l1), (0, l2)] [] M Q := by
  replace H := nb_Hw H
  have uhHo := hHo
  unfold nb_hs at uhHo
  obtain ⟨p0_, p1_, H⟩ := H
  replace H := nb_Hw H
  have E1 : nb_rd M 2 2 = Ho := hx2
  have E2 : nb_rd M Ho 13 = M.1 Ho 13 := nb_rd_1 _ _ _
  refine nb_Wg (q_c_nobodyGains_1 _ _ _ _ (by omega) (by rw [E1]; first | done | omega)) ?_
  simp only [E1, E2]
  clear E1 E2
  refine nb_Gi (fun c15 => ?_) (fun c15 => ?_)
  · have H := nb_Hw ((nb_Hu H).1 c15)
    refine nb_Gr ?_
    obtain ⟨p0_, p1_, p2_, p3_, H⟩ := H
    replace H := nb_Hw H
    have E3 : nb_rd M 2 14 = 144 := W.c14
    have N4 : nb_ln M 144 = 128 := W.lk (by decide) (by decide +kernel)
    have E5 : nb_rd M 144 (nb_xor l1 (nb_shl 1 l2)) = 145 + (nb_xor l1 (nb_shl 1 l2)) := W.warr (i := nb_xor l1 (nb_shl 1 l2)) (by omega) (by omega)
    have N6 : nb_ln M (145 + (nb_xor l1 (nb_shl 1 l2))) = 7 := W.wn (i := nb_xor l1 (nb_shl 1 l2)) (by omega) (by omega)
    have E7 : nb_rd M (145 + (nb_xor l1 (nb_shl 1 l2))) l2 = M.1 (145 + (nb_xor l1 (nb_shl 1 l2))) l2 := nb_rd_1 _ _ _
    have E8 : nb_rd M 2 14 = 144 := W.c14
    have N9 : nb_ln M 144 = 128 := W.lk (by decide) (by decide +kernel)
    have E10 : nb_rd M 144 l1 = 145 + l1 := W.warr (i := l1) (by omega) (by omega)
    have N11 : nb_ln M (145 + l1) = 7 := W.wn (i := l1) (by omega) (by omega)
    have E12 : nb_rd M (145 + l1) l2 = M.1 (145 + l1) l2 := nb_rd_1 _ _ _
    refine nb_Wg (q_c_nobodyGains_2 _ _ _ _ (by omega) (by rw [E3]; first | done | omega) (by omega) (by rw [E3, N4]; first | done | omega) (by rw [E3, E5]; first | done | omega) (by omega) (by rw [E3, E5, N6]; first | done | omega) (by omega) (by rw [E8, N9]; first | done | omega) (by rw [E8, E10]; first | done | omega) (by rw [E8, E10, N11]; first | done | omega)) ?_
    simp only [E3, E5, E7, E8, E10, E12]
    clear E3 N4 E5 N6 E7 E8 N9 E10 N11 E12
    refine nb_Gi (fun c14 => ?_) (fun c14 => ?_)
    · have H := nb_Hw ((nb_Hu H).1 c14)
      refine nb_Gr ?_
      refine nb_Wg (q_c_nobodyGains_3 _ _ _ _) ?_
      refine nb_Gs ?_
      exact nb_Hu H W
    · have H := nb_Hw ((nb_Hu H).2 (by omega))
      have c14 : M.1 (145 + l1) l2 ≤ M.1 (145 + (nb_xor l1 (nb_shl 1 l2))) l2 := by omega
      refine nb_Gr ?_
      have E13 : nb_add l2 1 = l2 + 1 := nb_add_eq (by omega) (by omega)
      refine nb_Wg (q_c_nobodyGains_4 _ _ _ _) ?_
      simp only [E13]
      clear E13
      refine nb_Gr ?_
      exact nb_Hu H
  · have H := nb_Hw ((nb_Hu H).2 (by omega))
    have c15 : M.1 Ho 13 ≤ l2 := by omega
    refine nb_Gr ?_
    refine nb_Wg (q_c_nobodyGains_5 _ _ _ _) ?_
    refine nb_Gs ?_
    exact nb_Hu H W

theorem w_sc_addHand_0 {Ho : Int} {v1 : nb_V} {M : nb_M} {Q : List nb_V → nb_M → Prop} (W : nb_Lay M) (hHo : nb_hs Ho) (hAh : M.1 106 3 = Ho) (H : 0 ≤ M.1 106 5 ∧ M.1 106 5 ≤ 3 ∧ nb_W 295 0 [(3, (120 + 2 * (M.1 106 5)) + 1), (0, 0), (98, 0), (98, 0)] [] (nb_wr M (120 + 2 * (M.1 106 5)) 7 (-1)) (fun r M9 => r = [] ∧ nb_Lay M9 ∧ M9.1 106 3 = Ho ∧ M9.1 2 2 = Ho ∧ -2147483648 ≤ M9.1 Ho 9 - 1 ∧ M9.1 Ho 9 - 1 ≤ 2147483647 ∧ -2147483648 ≤ M9.1 106 5 + 1 ∧ M9.1 106 5 + 1 ≤ 2147483647 ∧ (nb_Lay (nb_wr (nb_wr (nb_wr (nb_wr (nb_wr (nb_wr (nb_wr M9 (120 + 2 * (M.1 106 5)) 1 3) (120 + 2 * (M.1 106 5)) 2 (nb_div (M9.1 Ho 9) 2)) (120 + 2 * (M.1 106 5)) 3 0) (120 + 2 * (M.1 106 5)) 4 (M9.1 Ho 9 - 1)) (120 + 2 * (M.1 106 5)) 5 1) (120 + 2 * (M.1 106 5)) 6 1) 106 5 (M9.1 106 5 + 1)) → Q [] (nb_wr (nb_wr (nb_wr (nb_wr (nb_wr (nb_wr (nb_wr M9 (120 + 2 * (M.1 106 5)) 1 3) (120 + 2 * (M.1 106 5)) 2 (nb_div (M9.1 Ho 9) 2)) (120 + 2 * (M.1 106 5)) 3 0) (120 + 2 * (M.1 106 5)) 4 (M9.1 Ho 9 - 1)) (120 + 2 * (M.1 106 5)) 5 1) (120 + 2 * (M.1 106 5)) 6 1) 106 5 (M9.1 106 5 + 1))))) :
    nb_W 256 0 [(15, 106), v1] [] M Q := by
  replace H := nb_Hw H
  have uhHo := hHo
  unfold nb_hs at uhHo
  obtain ⟨p0_, p1_, H⟩ := H
  replace H := nb_Hw H
  have E1 : nb_rd M 106 5 = M.1 106 5 := nb_rd_1 _ _ _
  refine nb_Wg (q_sc_addHand_0 _ _ _ (by omega)) ?_
  simp only [E1]
  clear E1
  refine nb_Gf (by omega) ?_
  refine nb_Gr ?_
  have E2 : nb_rd M 106 1 = 108 := W.s1 (A := 106) nb_sc106
  have E3 : nb_rd M 106 5 = M.1 106 5 := nb_rd_1 _ _ _
  have N4 : nb_ln M 108 = 4 := W.sn2 (A := 106) nb_sc106
  have E5 : nb_rd M 108 (M.1 106 5) = 120 + 2 * (M.1 106 5) := W.sv (A := 106) (i := M.1 106 5) nb_sc106 (by omega) (by omega)
  refine nb_Wg (q_sc_addHand_1 _ _ _ (by omega) (by rw [E2]; first | done | omega) (by rw [E3]; first | done | omega) (by rw [E3, E2, N4]; first | done | omega) (by rw [E2, E3, E5]; first | done | omega)) ?_
  simp only [E2, E3, E5]
  clear E2 E3 N4 E5
  refine nb_Gb ?_
  refine nb_Wg (q_sv_beginAfresh_0 _ _ (by omega)) ?_
  have W6 : nb_Lay (nb_wr M (120 + 2 * (M.1 106 5)) 7 (-1)) := W.wr (fun w => (nb_nsv (A := 106) (i := M.1 106 5) nb_sc106 (by omega) (by omega) (by omega)))
  refine nb_Gr ?_
  have E7 : nb_rd (nb_wr M (120 + 2 * (M.1 106 5)) 7 (-1)) (120 + 2 * (M.1 106 5)) 0 = (120 + 2 * (M.1 106 5)) + 1 := W6.sv0 (A := 106) (i := M.1 106 5) nb_sc106 (by omega) (by omega)
  refine nb_Wg (q_sv_beginAfresh_1 _ _ (by omega)) ?_
  simp only [E7]
  clear E7
  refine nb_Gb ?_
  refine nb_W.imp (nb_Hu H) (fun r M9 H => ?_)
  obtain ⟨rfl, W10, g11, g12, H⟩ := H
  replace H := nb_Hw H
  show nb_W 272 2 [(16, 120 + 2 * (M.1 106 5))] [] M9 _
  refine nb_Wg (q_sv_beginAfresh_2 _ _) ?_
  refine nb_Gs ?_
  show nb_W 256 2 [(15, 106), (16, 120 + 2 * (M.1 106 5))] [] M9 _
  refine nb_Wg (q_sc_addHand_2 _ _ _ (by omega)) ?_
  have W13 : nb_Lay (nb_wr M9 (120 + 2 * (M.1 106 5)) 1 3) := W10.wr (fun w => (nb_nsv (A := 106) (i := M.1 106 5) nb_sc106 (by omega) (by omega) (by omega)))
  refine nb_Gr ?_
  have E14 : nb_rd (nb_wr M9 (120 + 2 * (M.1 106 5)) 1 3) 106 3 = Ho := nb_rdw (Or.inr (by decide)) (g11)
  have E15 : nb_rd (nb_wr M9 (120 + 2 * (M.1 106 5)) 1 3) Ho 9 = M9.1 Ho 9 := nb_rdw (Or.inr (by decide)) (nb_rd_1 _ _ _)
  refine nb_Wg (q_sc_addHand_3 _ _ _ (by omega) (by rw [E14]; first | done | omega) (by omega)) ?_
  simp only [E14, E15]
  clear E14 E15
  have W16 : nb_Lay (nb_wr (nb_wr M9 (120 + 2 * (M.1 106 5)) 1 3) (120 + 2 * (M.1 106 5)) 2 (nb_div (M9.1 Ho 9) 2)) := W13.wr (fun w => (nb_nsv (A := 106) (i := M.1 106 5) nb_sc106 (by omega) (by omega) (by omega)))
  refine nb_Gr ?_
  obtain ⟨p0_, p1_, H⟩ := H
  replace H := nb_Hw H
  have E17 : nb_rd (nb_wr (nb_wr M9 (120 + 2 * (M.1 106 5)) 1 3) (120 + 2 * (M.1 106 5)) 2 (nb_div (M9.1 Ho 9) 2)) 106 3 = Ho := nb_rdw (Or.inr (by decide)) (nb_rdw (Or.inr (by decide)) (g11))
  have E18 : nb_rd (nb_wr (nb_wr M9 (120 + 2 * (M.1 106 5)) 1 3) (120 + 2 * (M.1 106 5)) 2 (nb_div (M9.1 Ho 9) 2)) Ho 9 = M9.1 Ho 9 := nb_rdw (Or.inr (by decide)) (nb_rdw (Or.inr (by decide)) (nb_rd_1 _ _ _))
  have E19 : nb_sub (M9.1 Ho 9) 1 = M9.1 Ho 9 - 1 := nb_sub_eq (by omega) (by omega)
  refine nb_Wg (q_sc_addHand_4 _ _ _ (by omega) (by rw [E17]; first | done | omega) (by omega)) ?_
  simp only [E17, E18, E19]
  clear E17 E18 E19
  refine nb_Gb ?_
  refine nb_Wg (q_sv_stretch_0 _ _ _ _ (by omega)) ?_
  have W20 : nb_Lay (nb_wr (nb_wr (nb_wr M9 (120 + 2 * (M.1 106 5)) 1 3) (120 + 2 * (M.1 106 5)) 2 (nb_div (M9.1 Ho 9) 2)) (120 + 2 * (M.1 106 5)) 3 0) := W16.wr (fun w => (nb_nsv (A := 106) (i := M.1 106 5) nb_sc106 (by omega) (by omega) (by omega)))
  refine nb_Gr ?_
  refine nb_Wg (q_sv_stretch_1 _ _ _ _ (by omega)) ?_
  have W21 : nb_Lay (nb_wr (nb_wr (nb_wr (nb_wr M9 (120 + 2 * (M.1 106 5)) 1 3) (120 + 2 * (M.1 106 5)) 2 (nb_div (M9.1 Ho 9) 2)) (120 + 2 * (M.1 106 5)) 3 0) (120 + 2 * (M.1 106 5)) 4 (M9.1 Ho 9 - 1)) := W20.wr (fun w => (nb_nsv (A := 106) (i := M.1 106 5) nb_sc106 (by omega) (by omega) (by omega)))
  refine nb_Gr ?_
  refine nb_Wg (q_sv_stretch_2 _ _ _ _) ?_
  refine nb_Gs ?_
  show nb_W 256 5 [(15, 106), (16, 120 + 2 * (M.1 106 5))] [] (nb_wr (nb_wr (nb_wr (nb_wr M9 (120 + 2 * (M.1 106 5)) 1 3) (120 + 2 * (M.1 106 5)) 2 (nb_div (M9.1 Ho 9) 2)) (120 + 2 * (M.1 106 5)) 3 0) (120 + 2 * (M.1 106 5)) 4 (M9.1 Ho 9 - 1)) _
  refine nb_Wg (q_sc_addHand_5 _ _ _ (by omega)) ?_
  have W22 : nb_Lay (nb_wr (nb_wr (nb_wr (nb_wr (nb_wr M9 (120 + 2 * (M.1 106 5)) 1 3) (120 + 2 * (M.1 106 5)) 2 (nb_div (M9.1 Ho 9) 2)) (120 + 2 * (M.1 106 5)) 3 0) (120 + 2 * (M.1 106 5)) 4 (M9.1 Ho 9 - 1)) (120 + 2 * (M.1 106 5)) 5 1) := W21.wr (fun w => (nb_nsv (A := 106) (i := M.1 106 5) nb_sc106 (by omega) (by omega) (by omega)))
  refine nb_Gr ?_
  refine nb_Wg (q_sc_addHand_6 _ _ _ (by omega)) ?_
  have W23 : nb_Lay (nb_wr (nb_wr (nb_wr (nb_wr (nb_wr (nb_wr M9 (120 + 2 * (M.1 106 5)) 1 3) (120 + 2 * (M.1 106 5)) 2 (nb_div (M9.1 Ho 9) 2)) (120 + 2 * (M.1 106 5)) 3 0) (120 + 2 * (M.1 106 5)) 4 (M9.1 Ho 9 - 1)) (120 + 2 * (M.1 106 5)) 5 1) (120 + 2 * (M.1 106 5)) 6 1) := W22.wr (fun w => (nb_nsv (A := 106) (i := M.1 106 5) nb_sc106 (by omega) (by omega) (by omega)))
  refine nb_Gr ?_
  obtain ⟨p0_, p1_, H⟩ := H
  replace H := nb_Hw H
  have E24 : nb_rd (nb_wr (nb_wr (nb_wr (nb_wr (nb_wr (nb_wr M9 (120 + 2 * (M.1 106 5)) 1 3) (120 + 2 * (M.1 106 5)) 2 (nb_div (M9.1 Ho 9) 2)) (120 + 2 * (M.1 106 5)) 3 0) (120 + 2 * (M.1 106 5)) 4 (M9.1 Ho 9 - 1)) (120 + 2 * (M.1 106 5)) 5 1) (120 + 2 * (M.1 106 5)) 6 1) 106 5 = M9.1 106 5 := nb_rdw (Or.inr (by decide)) (nb_rdw (Or.inl (by omega)) (nb_rdw (Or.inr (by decide)) (nb_rdw (Or.inr (by decide)) (nb_rdw (Or.inr (by decide)) (nb_rdw (Or.inr (by decide)) (nb_rd_1 _ _ _))))))
  have E25 : nb_add (M9.1 106 5) 1 = M9.1 106 5 + 1 := nb_add_eq (by omega) (by omega)
  refine nb_Wg (q_sc_addHand_7 _ _ _ (by omega)) ?_
  simp only [E24, E25]
  clear E24 E25
  have W26 : nb_Lay (nb_wr (nb_wr (nb_wr (nb_wr (nb_wr (nb_wr (nb_wr M9 (120 + 2 * (M.1 106 5)) 1 3) (120 + 2 * (M.1 106 5)) 2 (nb_div (M9.1 Ho 9) 2)) (120 + 2 * (M.1 106 5)) 3 0) (120 + 2 * (M.1 106 5)) 4 (M9.1 Ho 9 - 1)) (120 + 2 * (M.1 106 5)) 5 1) (120 + 2 * (M.1 106 5)) 6 1) 106 5 (M9.1 106 5 + 1)) := W23.wr (fun w => (nb_nss (A := 106) nb_sc106 (by omega)))
  refine nb_Gr ?_
  refine nb_Wg (q_sc_addHand_8 _ _ _) ?_
  refine nb_Gs ?_
  exact nb_Hu H W26

theorem w_g_behave_0 {g l1 l2 : Int} {M : nb_M} {Q : List nb_V → nb_M → Prop} (hg : g ≠ 0) (H : (l1 = 1 → -2147483648 ≤ M.1 g 2 - l2 ∧ M.1 g 2 - l2 ≤ 2147483647 ∧ Q [] (nb_wr (nb_wr (nb_wr (nb_wr M g 0 l1) g 1 l2) g 7 (M.1 g 2)) g 7 (M.1 g 2 - l2))) ∧ (l1 ≠ 1 → (l1 = 2 → -2147483648 ≤ M.1 g 2 + l2 ∧ M.1 g 2 + l2 ≤ 2147483647 ∧ Q [] (nb_wr (nb_wr (nb_wr (nb_wr M g 0 l1) g 1 l2) g 7 (M.1 g 2)) g 7 (M.1 g 2 + l2))) ∧ (l1 ≠ 2 → Q [] (nb_wr (nb_wr (nb_wr M g 0 l1) g 1 l2) g 7 (M.1 g 2))))) :
    nb_W 216 0 [(11, g), (0, l1), (0, l2)] [] M Q := by
  replace H := nb_Hw H
  refine nb_Wg (q_g_behave_0 _ _ _ _ (by omega)) ?_
  refine nb_Gr ?_
  refine nb_Wg (q_g_behave_1 _ _ _ _ (by omega)) ?_
  refine nb_Gr ?_
  have E1 : nb_rd (nb_wr (nb_wr M g 0 l1) g 1 l2) g 2 = M.1 g 2 := nb_rdw (Or.inr (by decide)) (nb_rdw (Or.inr (by decide)) (nb_rd_1 _ _ _))
  refine nb_Wg (q_g_behave_2 _ _ _ _ (by omega)) ?_
  simp only [E1]
  clear E1
  refine nb_Gr ?_
  have E2 : nb_rd (nb_wr (nb_wr (nb_wr M g 0 l1) g 1 l2) g 7 (M.1 g 2)) g 0 = l1 := nb_rdw (Or.inr (by decide)) (nb_rdw (Or.inr (by decide)) (nb_rd_same _ _ _ _))
  refine nb_Wg (q_g_behave_3 _ _ _ _ (by omega)) ?_
  simp only [E2]
  clear E2
  refine nb_Gi (fun c11 => ?_) (fun c11 => ?_)
  · have H := nb_Hw ((nb_Hu H).1 c11)
    refine nb_Gr ?_
    obtain ⟨p0_, p1_, H⟩ := H
    replace H := nb_Hw H
    have E3 : nb_rd (nb_wr (nb_wr (nb_wr M g 0 l1) g 1 l2) g 7 (M.1 g 2)) g 2 = M.1 g 2 := nb_rdw (Or.inr (by decide)) (nb_rdw (Or.inr (by decide)) (nb_rdw (Or.inr (by decide)) (nb_rd_1 _ _ _)))
    have E4 : nb_rd (nb_wr (nb_wr (nb_wr M g 0 l1) g 1 l2) g 7 (M.1 g 2)) g 1 = l2 := nb_rdw (Or.inr (by decide)) (nb_rd_same _ _ _ _)
    have E5 : nb_sub (M.1 g 2) l2 = M.1 g 2 - l2 := nb_sub_eq (by omega) (by omega)
    refine nb_Wg (q_g_behave_4 _ _ _ _ (by omega)) ?_
    simp only [E3, E4, E5]
    clear E3 E4 E5
    refine nb_Gr ?_
    refine nb_Wg (q_g_behave_5 _ _ _ _) ?_
    refine nb_Gr ?_
    refine nb_Wg (q_g_behave_8 _ _ _ _) ?_
    refine nb_Gs ?_
    exact nb_Hu H
  · have H := nb_Hw ((nb_Hu H).2 (by omega))
    have c11 : l1 ≠ 1 := by omega
    refine nb_Gr ?_
    have E6 : nb_rd (nb_wr (nb_wr (nb_wr M g 0 l1) g 1 l2) g 7 (M.1 g 2)) g 0 = l1 := nb_rdw (Or.inr (by decide)) (nb_rdw (Or.inr (by decide)) (nb_rd_same _ _ _ _))
    refine nb_Wg (q_g_behave_6 _ _ _ _ (by omega)) ?_
    simp only [E6]
    clear E6
    refine nb_Gi (fun c10 => ?_) (fun c10 => ?_)
    · have H := nb_Hw ((nb_Hu H).1 c10)
      refine nb_Gr ?_
      obtain ⟨p0_, p1_, H⟩ := H
      replace H := nb_Hw H
      have E7 : nb_rd (nb_wr (nb_wr (nb_wr M g 0 l1) g 1 l2) g 7 (M.1 g 2)) g 2 = M.1 g 2 := nb_rdw (Or.inr (by decide)) (nb_rdw (Or.inr (by decide)) (nb_rdw (Or.inr (by decide)) (nb_rd_1 _ _ _)))
      have E8 : nb_rd (nb_wr (nb_wr (nb_wr M g 0 l1) g 1 l2) g 7 (M.1 g 2)) g 1 = l2 := nb_rdw (Or.inr (by decide)) (nb_rd_same _ _ _ _)
      have E9 : nb_add (M.1 g 2) l2 = M.1 g 2 + l2 := nb_add_eq (by omega) (by omega)
      refine nb_Wg (q_g_behave_7 _ _ _ _ (by omega)) ?_
      simp only [E7, E8, E9]
      clear E7 E8 E9
      refine nb_Gr ?_
      refine nb_Wg (q_g_behave_8 _ _ _ _) ?_
      refine nb_Gs ?_
      exact nb_Hu H
    · have H := nb_Hw ((nb_Hu H).2 (by omega))
      have c10 : l1 ≠ 2 := by omega
      refine nb_Gr ?_
      refine nb_Wg (q_g_behave_8 _ _ _ _) ?_
      refine nb_Gs ?_
      exact nb_Hu H

