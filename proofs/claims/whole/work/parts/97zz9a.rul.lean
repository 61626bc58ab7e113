/-! rules, printed by wip/gen -/
theorem w_h_empty_0 {So : Int} {v1 : nb_V} {M : nb_M} {Q : List nb_V → nb_M → Prop} (W : nb_Lay M) (hSo : nb_hs So) (H : nb_W 219 8 [(12, So), (0, 0)] [] (nb_wr (nb_wr (nb_wr (nb_wr (nb_wr (nb_wr (nb_wr M So 9 0) So 10 0) So 11 0) So 12 0) So 13 0) So 14 0) So 15 0) Q) :
    nb_W 219 0 [(12, So), v1] [] M Q := by
  replace H := nb_Hw H
  have uhSo := hSo
  unfold nb_hs at uhSo
  refine nb_Wg (q_h_empty_0 _ _ _ (by omega)) ?_
  have W1 : nb_Lay (nb_wr M So 9 0) := W.wr (fun w => (nb_nhh (H := So) hSo (by omega)))
  refine nb_Gr ?_
  refine nb_Wg (q_h_empty_1 _ _ _ (by omega)) ?_
  have W2 : nb_Lay (nb_wr (nb_wr M So 9 0) So 10 0) := W1.wr (fun w => (nb_nhh (H := So) hSo (by omega)))
  refine nb_Gr ?_
  refine nb_Wg (q_h_empty_2 _ _ _ (by omega)) ?_
  have W3 : nb_Lay (nb_wr (nb_wr (nb_wr M So 9 0) So 10 0) So 11 0) := W2.wr (fun w => (nb_nhh (H := So) hSo (by omega)))
  refine nb_Gr ?_
  refine nb_Wg (q_h_empty_3 _ _ _ (by omega)) ?_
  have W4 : nb_Lay (nb_wr (nb_wr (nb_wr (nb_wr M So 9 0) So 10 0) So 11 0) So 12 0) := W3.wr (fun w => (nb_nhh (H := So) hSo (by omega)))
  refine nb_Gr ?_
  refine nb_Wg (q_h_empty_4 _ _ _ (by omega)) ?_
  have W5 : nb_Lay (nb_wr (nb_wr (nb_wr (nb_wr (nb_wr M So 9 0) So 10 0) So 11 0) So 12 0) So 13 0) := W4.wr (fun w => (nb_nhh (H := So) hSo (by omega)))
  refine nb_Gr ?_
  refine nb_Wg (q_h_empty_5 _ _ _ (by omega)) ?_
  have W6 : nb_Lay (nb_wr (nb_wr (nb_wr (nb_wr (nb_wr (nb_wr M So 9 0) So 10 0) So 11 0) So 12 0) So 13 0) So 14 0) := W5.wr (fun w => (nb_nhh (H := So) hSo (by omega)))
  refine nb_Gr ?_
  refine nb_Wg (q_h_empty_6 _ _ _ (by omega)) ?_
  have W7 : nb_Lay (nb_wr (nb_wr (nb_wr (nb_wr (nb_wr (nb_wr (nb_wr M So 9 0) So 10 0) So 11 0) So 12 0) So 13 0) So 14 0) So 15 0) := W6.wr (fun w => (nb_nhh (H := So) hSo (by omega)))
  refine nb_Gr ?_
  refine nb_Wg (q_h_empty_7 _ _ _) ?_
  refine nb_Gr ?_
  exact nb_Hu H

theorem w_h_empty_8 {So l1 : Int} {M : nb_M} {Q : List nb_V → nb_M → Prop} (W : nb_Lay M) (hSo : nb_hs So) (b0_ : 0 ≤ l1 ∧ l1 ≤ 10) (H : (l1 < 10 → nb_W 295 0 [(3, So + 5 + l1), (0, 0), (98, 0), (98, 0)] [] M (fun r M5 => r = [] ∧ nb_Lay M5 ∧ 0 ≤ l1 ∧ nb_W 219 8 [(12, So), (0, l1 + 1)] [] (nb_wr M5 (So + 20 + l1) 6 (-2)) Q)) ∧ (10 ≤ l1 → (nb_Lay M → Q [] M))) :
    nb_W 219 8 [(12, So), (0, l1)] [] M Q := by
  replace H := nb_Hw H
  have uhSo := hSo
  unfold nb_hs at uhSo
  refine nb_Wg (q_h_empty_8 _ _ _) ?_
  refine nb_Gi (fun c12 => ?_) (fun c12 => ?_)
  · have H := nb_Hw ((nb_Hu H).1 c12)
    refine nb_Gr ?_
    have E1 : nb_rd M So 3 = So + 4 := W.h3 (H := So) hSo
    have N2 : nb_ln M (So + 4) = 10 := W.hn4 (H := So) hSo
    have E3 : nb_rd M (So + 4) l1 = So + 5 + l1 := W.hl (H := So) (i := l1) hSo (by omega) (by omega)
    refine nb_Wg (q_h_empty_9 _ _ _ (by omega) (by rw [E1]; first | done | omega) (by omega) (by rw [E1, N2]; first | done | omega)) ?_
    simp only [E1, E3]
    clear E1 N2 E3
    refine nb_Gb ?_
    refine nb_W.imp (nb_Hu H) (fun r M5 H => ?_)
    obtain ⟨rfl, W6, H⟩ := H
    replace H := nb_Hw H
    show nb_W 219 10 [(12, So), (0, l1)] [] M5 _
    obtain ⟨p0_, H⟩ := H
    replace H := nb_Hw H
    have E7 : nb_rd M5 So 4 = So + 15 := W6.h4 (H := So) hSo
    have N8 : nb_ln M5 (So + 15) = 10 := W6.hn15 (H := So) hSo
    have E9 : nb_rd M5 (So + 15) l1 = So + 20 + l1 := W6.hg (H := So) (i := l1) hSo (by omega) (by omega)
    refine nb_Wg (q_h_empty_10 _ _ _ (by omega) (by rw [E7]; first | done | omega) (by omega) (by rw [E7, N8]; first | done | omega) (by rw [E7, E9]; first | done | omega)) ?_
    simp only [E7, E9]
    clear E7 N8 E9
    have W10 : nb_Lay (nb_wr M5 (So + 20 + l1) 6 (-2)) := W6.wr (fun w => (nb_nhg (H := So) (i := l1) hSo (by omega) (by omega)))
    refine nb_Gr ?_
    have E11 : nb_add l1 1 = l1 + 1 := nb_add_eq (by omega) (by omega)
    refine nb_Wg (q_h_empty_11 _ _ _) ?_
    simp only [E11]
    clear E11
    refine nb_Gr ?_
    exact nb_Hu H
  · have H := nb_Hw ((nb_Hu H).2 (by omega))
    have c12 : 10 ≤ l1 := by omega
    refine nb_Gr ?_
    refine nb_Wg (q_h_empty_12 _ _ _) ?_
    refine nb_Gs ?_
    exact nb_Hu H W

theorem w_c_house_0 {l1 Ho So : Int} {v2 v3 : nb_V} {M : nb_M} {Q : List nb_V → nb_M → Prop} (W : nb_Lay M) (hHo : nb_hs Ho) (hx2 : M.1 2 2 = Ho) (hSo : nb_hs So) (hx3 : M.1 2 3 = So) (H : (l1 < 0 → (nb_Lay (nb_wr M 2 15 2) → Q [(0, (-1))] (nb_wr M 2 15 2))) ∧ (0 ≤ l1 → (M.1 2 1 < l1 → (nb_Lay (nb_wr M 2 15 2) → Q [(0, (-1))] (nb_wr M 2 15 2))) ∧ (l1 ≤ M.1 2 1 → nb_W 224 0 [(13, 76), (4, 3), (0, l1), (12, So), (98, 0)] [] (nb_wr (nb_wr M 2 15 0) 2 1 0) (fun r M13 => ∃ x12 : Int, r = [(0, x12)] ∧ nb_Lay M13 ∧ M13.1 2 2 = Ho ∧ M13.1 2 3 = So ∧ (x12 = 0 → (nb_Lay (nb_wr (nb_wr (nb_wr M13 2 16 (M13.1 76 9)) 2 17 (M13.1 76 10)) 2 15 4) → Q [(0, (-1))] (nb_wr (nb_wr (nb_wr M13 2 16 (M13.1 76 9)) 2 17 (M13.1 76 10)) 2 15 4))) ∧ (x12 ≠ 0 → (x12 = 0 ∨ x12 = 1) ∧ nb_W 4 14 [(19, 2), nb_clr ((0, l1)), (0, x12), v3] [] (nb_wr (nb_wr (nb_wr M13 2 16 (M13.1 76 9)) 2 17 (M13.1 76 10)) 2 15 0) Q))))) :
    nb_W 4 0 [(19, 2), (0, l1), v2, v3] [] M Q := by
  replace H := nb_Hw H
  have uhHo := hHo
  unfold nb_hs at uhHo
  have uhSo := hSo
  unfold nb_hs at uhSo
  refine nb_Wg (q_c_house_0 _ _ _ _ _) ?_
  refine nb_Gi (fun c29 => ?_) (fun c29 => ?_)
  · have H := nb_Hw ((nb_Hu H).1 c29)
    refine nb_Gr ?_
    refine nb_Wg (q_c_house_3 _ _ _ _ _ _) ?_
    refine nb_Gr ?_
    refine nb_Wg (q_c_house_4 _ _ _ _ _ _ _ (by omega)) ?_
    refine nb_Gb ?_
    refine nb_Wg (q_c_granted_0 _ _ _ _) ?_
    refine nb_Gt (by decide) ?_
    refine nb_Gr ?_
    refine nb_Wg (q_c_granted_2 _ _ _ _ _) ?_
    refine nb_Gr ?_
    refine nb_Wg (q_c_granted_3 _ _ _ _ _ _ (by omega)) ?_
    have W1 : nb_Lay (nb_wr M 2 15 2) := W.wr (fun w => (nb_nlit (by decide) (by decide)))
    refine nb_Gr ?_
    have E2 : nb_i2z 0 = 0 := by decide
    refine nb_Wg (q_c_granted_4 _ _ _ _) ?_
    simp only [E2]
    clear E2
    refine nb_Gs ?_
    show nb_W 4 5 [(19, 2), (0, l1), v2, v3] [(0, 0)] (nb_wr M 2 15 2) _
    refine nb_Wg (q_c_house_5 _ _ _ _ _ _) ?_
    refine nb_Gt (by decide) ?_
    refine nb_Gr ?_
    refine nb_Wg (q_c_house_6 _ _ _ _ _) ?_
    refine nb_Gs ?_
    exact nb_Hu H W1
  · have H := nb_Hw ((nb_Hu H).2 (by omega))
    have c29 : 0 ≤ l1 := by omega
    refine nb_Gr ?_
    have E3 : nb_rd M 2 1 = M.1 2 1 := nb_rd_1 _ _ _
    refine nb_Wg (q_c_house_1 _ _ _ _ _ _ (by omega)) ?_
    simp only [E3]
    clear E3
    refine nb_Gi (fun c28 => ?_) (fun c28 => ?_)
    · have H := nb_Hw ((nb_Hu H).1 c28)
      refine nb_Gr ?_
      refine nb_Wg (q_c_house_3 _ _ _ _ _ _) ?_
      refine nb_Gr ?_
      refine nb_Wg (q_c_house_4 _ _ _ _ _ _ _ (by omega)) ?_
      refine nb_Gb ?_
      refine nb_Wg (q_c_granted_0 _ _ _ _) ?_
      refine nb_Gt (by decide) ?_
      refine nb_Gr ?_
      refine nb_Wg (q_c_granted_2 _ _ _ _ _) ?_
      refine nb_Gr ?_
      refine nb_Wg (q_c_granted_3 _ _ _ _ _ _ (by omega)) ?_
      have W4 : nb_Lay (nb_wr M 2 15 2) := W.wr (fun w => (nb_nlit (by decide) (by decide)))
      refine nb_Gr ?_
      have E5 : nb_i2z 0 = 0 := by decide
      refine nb_Wg (q_c_granted_4 _ _ _ _) ?_
      simp only [E5]
      clear E5
      refine nb_Gs ?_
      show nb_W 4 5 [(19, 2), (0, l1), v2, v3] [(0, 0)] (nb_wr M 2 15 2) _
      refine nb_Wg (q_c_house_5 _ _ _ _ _ _) ?_
      refine nb_Gt (by decide) ?_
      refine nb_Gr ?_
      refine nb_Wg (q_c_house_6 _ _ _ _ _) ?_
      refine nb_Gs ?_
      exact nb_Hu H W4
    · have H := nb_Hw ((nb_Hu H).2 (by omega))
      have c28 : l1 ≤ M.1 2 1 := by omega
      refine nb_Gr ?_
      refine nb_Wg (q_c_house_2 _ _ _ _ _ _) ?_
      refine nb_Gr ?_
      refine nb_Wg (q_c_house_4 _ _ _ _ _ _ _ (by omega)) ?_
      refine nb_Gb ?_
      refine nb_Wg (q_c_granted_0 _ _ _ _) ?_
      refine nb_Gf (by decide) ?_
      refine nb_Gr ?_
      refine nb_Wg (q_c_granted_1 _ _ _ _ _) ?_
      refine nb_Gr ?_
      refine nb_Wg (q_c_granted_3 _ _ _ _ _ _ (by omega)) ?_
      have W6 : nb_Lay (nb_wr M 2 15 0) := W.wr (fun w => (nb_nlit (by decide) (by decide)))
      refine nb_Gr ?_
      have E7 : nb_i2z 1 = 1 := by decide
      refine nb_Wg (q_c_granted_4 _ _ _ _) ?_
      simp only [E7]
      clear E7
      refine nb_Gs ?_
      show nb_W 4 5 [(19, 2), (0, l1), v2, v3] [(0, 1)] (nb_wr M 2 15 0) _
      refine nb_Wg (q_c_house_5 _ _ _ _ _ _) ?_
      refine nb_Gf (by decide) ?_
      refine nb_Gr ?_
      refine nb_Wg (q_c_house_7 _ _ _ _ _ (by omega)) ?_
      have W8 : nb_Lay (nb_wr (nb_wr M 2 15 0) 2 1 0) := W6.wr (fun w => (nb_nlit (by decide) (by decide)))
      refine nb_Gr ?_
      have E9 : nb_rd (nb_wr (nb_wr M 2 15 0) 2 1 0) 2 4 = 76 := W8.c4
      have E10 : nb_rd (nb_wr (nb_wr M 2 15 0) 2 1 0) 2 0 = 3 := W8.c0
      have E11 : nb_rd (nb_wr (nb_wr M 2 15 0) 2 1 0) 2 3 = So := nb_rdw (Or.inr (by decide)) (nb_rdw (Or.inr (by decide)) (hx3))
      refine nb_Wg (q_c_house_8 _ _ _ _ _ (by omega) (by rw [E9]; first | done | omega)) ?_
      simp only [E9, E10, E11]
      clear E9 E10 E11
      refine nb_Gb ?_
      refine nb_W.imp (nb_Hu H) (fun r M13 H => ?_)
      obtain ⟨x12, rfl, W14, g15, g16, H⟩ := H
      replace H := nb_Hw H
      show nb_W 4 9 [(19, 2), (0, l1), v2, v3] [(0, x12)] M13 _
      have E17 : nb_rd M13 2 4 = 76 := W14.c4
      have E18 : nb_rd M13 76 9 = M13.1 76 9 := nb_rd_1 _ _ _
      refine nb_Wg (q_c_house_9 _ _ _ _ _ _ (by omega) (by rw [E17]; first | done | omega)) ?_
      simp only [E17, E18]
      clear E17 E18
      have W19 : nb_Lay (nb_wr M13 2 16 (M13.1 76 9)) := W14.wr (fun w => (nb_nlit (by decide) (by decide)))
      refine nb_Gr ?_
      have E20 : nb_rd (nb_wr M13 2 16 (M13.1 76 9)) 2 4 = 76 := W19.c4
      have E21 : nb_rd (nb_wr M13 2 16 (M13.1 76 9)) 76 10 = M13.1 76 10 := nb_rdw (Or.inl (by decide)) (nb_rd_1 _ _ _)
      refine nb_Wg (q_c_house_10 _ _ _ _ _ (by omega) (by rw [E20]; first | done | omega)) ?_
      simp only [E20, E21]
      clear E20 E21
      have W22 : nb_Lay (nb_wr (nb_wr M13 2 16 (M13.1 76 9)) 2 17 (M13.1 76 10)) := W19.wr (fun w => (nb_nlit (by decide) (by decide)))
      refine nb_Gr ?_
      refine nb_Wg (q_c_house_11 _ _ _ _ _ (by omega)) ?_
      refine nb_Gb ?_
      refine nb_Wg (q_c_granted_0 _ _ _ _) ?_
      refine nb_Gi (fun c27 => ?_) (fun c27 => ?_)
      · have H := nb_Hw ((nb_Hu H).1 c27)
        refine nb_Gr ?_
        refine nb_Wg (q_c_granted_2 _ _ _ _ _) ?_
        refine nb_Gr ?_
        refine nb_Wg (q_c_granted_3 _ _ _ _ _ _ (by omega)) ?_
        have W23 : nb_Lay (nb_wr (nb_wr (nb_wr M13 2 16 (M13.1 76 9)) 2 17 (M13.1 76 10)) 2 15 4) := W22.wr (fun w => (nb_nlit (by decide) (by decide)))
        refine nb_Gr ?_
        have E24 : nb_i2z x12 = x12 := nb_i2z_eq (by omega)
        refine nb_Wg (q_c_granted_4 _ _ _ _) ?_
        simp only [E24]
        clear E24
        refine nb_Gs ?_
        show nb_W 4 12 [(19, 2), nb_clr ((0, l1)), (0, x12), v3] [(0, x12)] (nb_wr (nb_wr (nb_wr M13 2 16 (M13.1 76 9)) 2 17 (M13.1 76 10)) 2 15 4) _
        refine nb_Wg (q_c_house_12 _ _ _ _ _ _) ?_
        refine nb_Gt (by omega) ?_
        refine nb_Gr ?_
        refine nb_Wg (q_c_house_13 _ _ _ _ _) ?_
        refine nb_Gs ?_
        exact nb_Hu H W23
      · have H := nb_Hw ((nb_Hu H).2 (by omega))
        have c27 : x12 ≠ 0 := by omega
        refine nb_Gr ?_
        refine nb_Wg (q_c_granted_1 _ _ _ _ _) ?_
        refine nb_Gr ?_
        refine nb_Wg (q_c_granted_3 _ _ _ _ _ _ (by omega)) ?_
        have W25 : nb_Lay (nb_wr (nb_wr (nb_wr M13 2 16 (M13.1 76 9)) 2 17 (M13.1 76 10)) 2 15 0) := W22.wr (fun w => (nb_nlit (by decide) (by decide)))
        refine nb_Gr ?_
        obtain ⟨p0_, H⟩ := H
        replace H := nb_Hw H
        have E26 : nb_i2z x12 = x12 := nb_i2z_eq (by omega)
        refine nb_Wg (q_c_granted_4 _ _ _ _) ?_
        simp only [E26]
        clear E26
        refine nb_Gs ?_
        show nb_W 4 12 [(19, 2), nb_clr ((0, l1)), (0, x12), v3] [(0, x12)] (nb_wr (nb_wr (nb_wr M13 2 16 (M13.1 76 9)) 2 17 (M13.1 76 10)) 2 15 0) _
        refine nb_Wg (q_c_house_12 _ _ _ _ _ _) ?_
        refine nb_Gf (by omega) ?_
        refine nb_Gr ?_
        exact nb_Hu H

theorem w_c_house_14 {v1 v2 v3 : nb_V} {M : nb_M} {Q : List nb_V → nb_M → Prop} (W : nb_Lay M) (H : nb_W 254 0 [(15, 84), (12, M.1 2 3), (98, 0)] [] (nb_wr (nb_wr M 2 2 (M.1 2 3)) 2 3 (M.1 2 2)) (fun r M8 => r = [] ∧ nb_Lay M8 ∧ nb_W 4 17 [(19, 2), v1, nb_clr v2, (12, M.1 2 2)] [] M8 Q)) :
    nb_W 4 14 [(19, 2), v1, v2, v3] [] M Q := by
  replace H := nb_Hw H
  have E1 : nb_rd M 2 2 = M.1 2 2 := nb_rd_1 _ _ _
  have E2 : nb_rd M 2 3 = M.1 2 3 := nb_rd_1 _ _ _
  refine nb_Wg (q_c_house_14 _ _ _ _ _ (by omega)) ?_
  simp only [E1, E2]
  clear E1 E2
  have W3 : nb_Lay (nb_wr M 2 2 (M.1 2 3)) := W.wr (fun w => (nb_nlit (by decide) (by decide)))
  refine nb_Gr ?_
  refine nb_Wg (q_c_house_15 _ _ _ _ _ (by omega)) ?_
  have W4 : nb_Lay (nb_wr (nb_wr M 2 2 (M.1 2 3)) 2 3 (M.1 2 2)) := W3.wr (fun w => (nb_nlit (by decide) (by decide)))
  refine nb_Gr ?_
  have E5 : nb_rd (nb_wr (nb_wr M 2 2 (M.1 2 3)) 2 3 (M.1 2 2)) 2 5 = 84 := W4.c5
  have E6 : nb_rd (nb_wr (nb_wr M 2 2 (M.1 2 3)) 2 3 (M.1 2 2)) 2 2 = M.1 2 3 := nb_rdw (Or.inr (by decide)) (nb_rd_same _ _ _ _)
  refine nb_Wg (q_c_house_16 _ _ _ _ _ (by omega) (by rw [E5]; first | done | omega)) ?_
  simp only [E5, E6]
  clear E5 E6
  refine nb_Gb ?_
  refine nb_W.imp (nb_Hu H) (fun r M8 H => ?_)
  obtain ⟨rfl, W9, H⟩ := H
  replace H := nb_Hw H
  show nb_W 4 17 [(19, 2), v1, nb_clr v2, (12, M.1 2 2)] [] M8 _
  exact nb_Hu H

theorem w_c_house_17 {Ho : Int} {v1 v2 v3 : nb_V} {M : nb_M} {Q : List nb_V → nb_M → Prop} (W : nb_Lay M) (hHo : nb_hs Ho) (hx2 : M.1 2 2 = Ho) (H : (nb_Lay (nb_wr (nb_wr M 2 9 0) 2 11 0) → Q [(0, M.1 Ho 13)] (nb_wr (nb_wr M 2 9 0) 2 11 0))) :
    nb_W 4 17 [(19, 2), v1, v2, v3] [] M Q := by
  replace H := nb_Hw H
  have uhHo := hHo
  unfold nb_hs at uhHo
  refine nb_Wg (q_c_house_17 _ _ _ _ _ (by omega)) ?_
  have W1 : nb_Lay (nb_wr M 2 9 0) := W.wr (fun w => (nb_nlit (by decide) (by decide)))
  refine nb_Gr ?_
  refine nb_Wg (q_c_house_18 _ _ _ _ _ (by omega)) ?_
  have W2 : nb_Lay (nb_wr (nb_wr M 2 9 0) 2 11 0) := W1.wr (fun w => (nb_nlit (by decide) (by decide)))
  refine nb_Gr ?_
  have E3 : nb_rd (nb_wr (nb_wr M 2 9 0) 2 11 0) 2 2 = Ho := nb_rdw (Or.inr (by decide)) (nb_rdw (Or.inr (by decide)) (hx2))
  have E4 : nb_rd (nb_wr (nb_wr M 2 9 0) 2 11 0) Ho 13 = M.1 Ho 13 := nb_rdw (Or.inr (by decide)) (nb_rdw (Or.inr (by decide)) (nb_rd_1 _ _ _))
  refine nb_Wg (q_c_house_19 _ _ _ _ _ (by omega) (by rw [E3]; first | done | omega)) ?_
  simp only [E3, E4]
  clear E3 E4
  refine nb_Gs ?_
  exact nb_Hu H W2

theorem w_m_house_0 {l1 : Int} {v2 : nb_V} {M : nb_M} {Q : List nb_V → nb_M → Prop} (W : nb_Lay M) (H : (l1 < 0 → (nb_Lay (nb_wr (nb_wr (nb_wr M 603 0 0) 603 11 0) 603 11 2) → Q [(0, (-1))] (nb_wr (nb_wr (nb_wr M 603 0 0) 603 11 0) 603 11 2))) ∧ (0 ≤ l1 → (M.1 603 2 < l1 → (nb_Lay (nb_wr (nb_wr (nb_wr M 603 0 0) 603 11 0) 603 11 2) → Q [(0, (-1))] (nb_wr (nb_wr (nb_wr M 603 0 0) 603 11 0) 603 11 2))) ∧ (l1 ≤ M.1 603 2 → nb_W 105 9 [(20, 603), (0, l1), (0, 0)] [] (nb_wr (nb_wr (nb_wr (nb_wr (nb_wr M 603 0 0) 603 11 0) 603 2 0) 603 9 0) 603 13 0) Q))) :
    nb_W 105 0 [(20, 603), (0, l1), v2] [] M Q := by
  replace H := nb_Hw H
  refine nb_Wg (q_m_house_0 _ _ _ _ (by omega)) ?_
  refine nb_Gb ?_
  refine nb_Wg (q_m_good_0 _ _ (by omega)) ?_
  have W1 : nb_Lay (nb_wr M 603 0 0) := W.wr (fun w => (nb_nlit (by decide) (by decide)))
  refine nb_Gr ?_
  refine nb_Wg (q_m_good_1 _ _ (by omega)) ?_
  have W2 : nb_Lay (nb_wr (nb_wr M 603 0 0) 603 11 0) := W1.wr (fun w => (nb_nlit (by decide) (by decide)))
  refine nb_Gr ?_
  refine nb_Wg (q_m_good_2 _ _) ?_
  refine nb_Gs ?_
  show nb_W 105 1 [(20, 603), (0, l1), v2] [] (nb_wr (nb_wr M 603 0 0) 603 11 0) _
  have E3 : nb_rd (nb_wr (nb_wr M 603 0 0) 603 11 0) 603 2 = M.1 603 2 := nb_rdw (Or.inr (by decide)) (nb_rdw (Or.inr (by decide)) (nb_rd_1 _ _ _))
  refine nb_Wg (q_m_house_1 _ _ _ _ (by omega)) ?_
  simp only [E3]
  clear E3
  refine nb_Gb ?_
  refine nb_Wg (q_m_within_0 _ _ _ _) ?_
  refine nb_Gi (fun c13 => ?_) (fun c13 => ?_)
  · have H := nb_Hw ((nb_Hu H).1 c13)
    refine nb_Gr ?_
    refine nb_Wg (q_m_within_3 _ _ _ _) ?_
    refine nb_Gr ?_
    have E4 : nb_i2z 0 = 0 := by decide
    refine nb_Wg (q_m_within_4 _ _ _ _ _) ?_
    simp only [E4]
    clear E4
    refine nb_Gs ?_
    show nb_W 105 2 [(20, 603), (0, l1), v2] [(0, 0)] (nb_wr (nb_wr M 603 0 0) 603 11 0) _
    refine nb_Wg (q_m_house_2 _ _ _ _ _) ?_
    refine nb_Gt (by decide) ?_
    refine nb_Gr ?_
    refine nb_Wg (q_m_house_3 _ _ _ _ (by omega)) ?_
    refine nb_Gb ?_
    refine nb_Wg (q_m_no_0 _ _ _ (by omega)) ?_
    have W5 : nb_Lay (nb_wr (nb_wr (nb_wr M 603 0 0) 603 11 0) 603 11 2) := W2.wr (fun w => (nb_nlit (by decide) (by decide)))
    refine nb_Gr ?_
    refine nb_Wg (q_m_no_1 _ _ _) ?_
    refine nb_Gs ?_
    show nb_W 105 4 [(20, 603), (0, l1), v2] [(0, (-1))] (nb_wr (nb_wr (nb_wr M 603 0 0) 603 11 0) 603 11 2) _
    refine nb_Wg (q_m_house_4 _ _ _ _ _) ?_
    refine nb_Gs ?_
    exact nb_Hu H W5
  · have H := nb_Hw ((nb_Hu H).2 (by omega))
    have c13 : 0 ≤ l1 := by omega
    refine nb_Gr ?_
    refine nb_Wg (q_m_within_1 _ _ _ _) ?_
    refine nb_Gi (fun c12 => ?_) (fun c12 => ?_)
    · have H := nb_Hw ((nb_Hu H).1 c12)
      refine nb_Gr ?_
      refine nb_Wg (q_m_within_3 _ _ _ _) ?_
      refine nb_Gr ?_
      have E6 : nb_i2z 0 = 0 := by decide
      refine nb_Wg (q_m_within_4 _ _ _ _ _) ?_
      simp only [E6]
      clear E6
      refine nb_Gs ?_
      show nb_W 105 2 [(20, 603), (0, l1), v2] [(0, 0)] (nb_wr (nb_wr M 603 0 0) 603 11 0) _
      refine nb_Wg (q_m_house_2 _ _ _ _ _) ?_
      refine nb_Gt (by decide) ?_
      refine nb_Gr ?_
      refine nb_Wg (q_m_house_3 _ _ _ _ (by omega)) ?_
      refine nb_Gb ?_
      refine nb_Wg (q_m_no_0 _ _ _ (by omega)) ?_
      have W7 : nb_Lay (nb_wr (nb_wr (nb_wr M 603 0 0) 603 11 0) 603 11 2) := W2.wr (fun w => (nb_nlit (by decide) (by decide)))
      refine nb_Gr ?_
      refine nb_Wg (q_m_no_1 _ _ _) ?_
      refine nb_Gs ?_
      show nb_W 105 4 [(20, 603), (0, l1), v2] [(0, (-1))] (nb_wr (nb_wr (nb_wr M 603 0 0) 603 11 0) 603 11 2) _
      refine nb_Wg (q_m_house_4 _ _ _ _ _) ?_
      refine nb_Gs ?_
      exact nb_Hu H W7
    · have H := nb_Hw ((nb_Hu H).2 (by omega))
      have c12 : l1 ≤ M.1 603 2 := by omega
      refine nb_Gr ?_
      refine nb_Wg (q_m_within_2 _ _ _ _) ?_
      refine nb_Gr ?_
      have E8 : nb_i2z 1 = 1 := by decide
      refine nb_Wg (q_m_within_4 _ _ _ _ _) ?_
      simp only [E8]
      clear E8
      refine nb_Gs ?_
      show nb_W 105 2 [(20, 603), (0, l1), v2] [(0, 1)] (nb_wr (nb_wr M 603 0 0) 603 11 0) _
      refine nb_Wg (q_m_house_2 _ _ _ _ _) ?_
      refine nb_Gf (by decide) ?_
      refine nb_Gr ?_
      refine nb_Wg (q_m_house_5 _ _ _ _ (by omega)) ?_
      have W9 : nb_Lay (nb_wr (nb_wr (nb_wr M 603 0 0) 603 11 0) 603 2 0) := W2.wr (fun w => (nb_nlit (by decide) (by decide)))
      refine nb_Gr ?_
      refine nb_Wg (q_m_house_6 _ _ _ _ (by omega)) ?_
      have W10 : nb_Lay (nb_wr (nb_wr (nb_wr (nb_wr M 603 0 0) 603 11 0) 603 2 0) 603 9 0) := W9.wr (fun w => (nb_nlit (by decide) (by decide)))
      refine nb_Gr ?_
      refine nb_Wg (q_m_house_7 _ _ _ _ (by omega)) ?_
      have W11 : nb_Lay (nb_wr (nb_wr (nb_wr (nb_wr (nb_wr M 603 0 0) 603 11 0) 603 2 0) 603 9 0) 603 13 0) := W10.wr (fun w => (nb_nlit (by decide) (by decide)))
      refine nb_Gr ?_
      refine nb_Wg (q_m_house_8 _ _ _ _) ?_
      refine nb_Gr ?_
      exact nb_Hu H

theorem w_m_house_9 {l1 l2 : Int} {M : nb_M} {Q : List nb_V → nb_M → Prop} (W : nb_Lay M)  (b0_ : 0 ≤ l2 ∧ l2 ≤ 347) (H : (l2 < 347 → nb_W 105 9 [(20, 603), (0, l1), (0, l2 + 1)] [] (nb_wr M 607 l2 0) Q) ∧ (347 ≤ l2 → nb_W 91 0 [(20, 603), (98, 0), (98, 0), (98, 0)] [] (nb_wr (nb_wr M 603 3 l1) 603 5 0) (fun r M8 => r = [] ∧ nb_Lay M8 ∧ nb_W 107 0 [(20, 603)] [] M8 (fun r M11 => r = [] ∧ nb_Lay M11 ∧ nb_W 105 16 [(20, 603), (0, l1), (0, l2)] [] M11 Q)))) :
    nb_W 105 9 [(20, 603), (0, l1), (0, l2)] [] M Q := by
  replace H := nb_Hw H
  refine nb_Wg (q_m_house_9 _ _ _ _) ?_
  refine nb_Gi (fun c13 => ?_) (fun c13 => ?_)
  · have H := nb_Hw ((nb_Hu H).1 c13)
    refine nb_Gr ?_
    have E1 : nb_rd M 603 16 = 607 := W.m16
    have N2 : nb_ln M 607 = 347 := W.lk (by decide) (by decide +kernel)
    refine nb_Wg (q_m_house_10 _ _ _ _ (by omega) (by rw [E1]; first | done | omega) (by rw [E1]; first | done | omega) (by omega) (by rw [E1, N2]; first | done | omega)) ?_
    simp only [E1]
    clear E1 N2
    have W3 : nb_Lay (nb_wr M 607 l2 0) := W.wr (fun w => (nb_nnum (by decide) (by decide)))
    refine nb_Gr ?_
    have E4 : nb_add l2 1 = l2 + 1 := nb_add_eq (by omega) (by omega)
    refine nb_Wg (q_m_house_11 _ _ _ _) ?_
    simp only [E4]
    clear E4
    refine nb_Gr ?_
    exact nb_Hu H
  · have H := nb_Hw ((nb_Hu H).2 (by omega))
    have c13 : 347 ≤ l2 := by omega
    refine nb_Gr ?_
    refine nb_Wg (q_m_house_12 _ _ _ _ (by omega)) ?_
    have W5 : nb_Lay (nb_wr M 603 3 l1) := W.wr (fun w => (nb_nlit (by decide) (by decide)))
    refine nb_Gr ?_
    refine nb_Wg (q_m_house_13 _ _ _ _ (by omega)) ?_
    have W6 : nb_Lay (nb_wr (nb_wr M 603 3 l1) 603 5 0) := W5.wr (fun w => (nb_nlit (by decide) (by decide)))
    refine nb_Gr ?_
    refine nb_Wg (q_m_house_14 _ _ _ _ (by omega)) ?_
    refine nb_Gb ?_
    refine nb_W.imp (nb_Hu H) (fun r M8 H => ?_)
    obtain ⟨rfl, W9, H⟩ := H
    replace H := nb_Hw H
    show nb_W 105 15 [(20, 603), (0, l1), (0, l2)] [] M8 _
    refine nb_Wg (q_m_house_15 _ _ _ _ (by omega)) ?_
    refine nb_Gb ?_
    refine nb_W.imp (nb_Hu H) (fun r M11 H => ?_)
    obtain ⟨rfl, W12, H⟩ := H
    replace H := nb_Hw H
    show nb_W 105 16 [(20, 603), (0, l1), (0, l2)] [] M11 _
    exact nb_Hu H

theorem w_m_house_16 {v1 v2 : nb_V} {M : nb_M} {Q : List nb_V → nb_M → Prop} (W : nb_Lay M) (H : (M.1 603 13 = 0 → (M.1 603 6 = 59 → nb_W 91 0 [(20, 603), (98, 0), (98, 0), (98, 0)] [] M (fun r M4 => r = [] ∧ nb_Lay M4 ∧ nb_W 107 0 [(20, 603)] [] M4 (fun r M7 => r = [] ∧ nb_Lay M7 ∧ nb_W 105 16 [(20, 603), v1, v2] [] M7 Q))) ∧ (M.1 603 6 ≠ 59 → nb_W 105 21 [(20, 603), v1, v2] [] M Q)) ∧ (M.1 603 13 ≠ 0 → nb_W 105 21 [(20, 603), v1, v2] [] M Q)) :
    nb_W 105 16 [(20, 603), v1, v2] [] M Q := by
  replace H := nb_Hw H
  have E1 : nb_rd M 603 13 = M.1 603 13 := nb_rd_1 _ _ _
  refine nb_Wg (q_m_house_16 _ _ _ _ (by omega)) ?_
  simp only [E1]
  clear E1
  refine nb_Gi (fun c10 => ?_) (fun c10 => ?_)
  · have H := nb_Hw ((nb_Hu H).1 c10)
    refine nb_Gr ?_
    have E2 : nb_rd M 603 6 = M.1 603 6 := nb_rd_1 _ _ _
    refine nb_Wg (q_m_house_17 _ _ _ _ (by omega)) ?_
    simp only [E2]
    clear E2
    refine nb_Gi (fun c9 => ?_) (fun c9 => ?_)
    · have H := nb_Hw ((nb_Hu H).1 c9)
      refine nb_Gr ?_
      refine nb_Wg (q_m_house_18 _ _ _ _ (by omega)) ?_
      refine nb_Gb ?_
      refine nb_W.imp (nb_Hu H) (fun r M4 H => ?_)
      obtain ⟨rfl, W5, H⟩ := H
      replace H := nb_Hw H
      show nb_W 105 19 [(20, 603), v1, v2] [] M4 _
      refine nb_Wg (q_m_house_19 _ _ _ _ (by omega)) ?_
      refine nb_Gb ?_
      refine nb_W.imp (nb_Hu H) (fun r M7 H => ?_)
      obtain ⟨rfl, W8, H⟩ := H
      replace H := nb_Hw H
      show nb_W 105 20 [(20, 603), v1, v2] [] M7 _
      refine nb_Wg (q_m_house_20 _ _ _ _) ?_
      refine nb_Gr ?_
      exact nb_Hu H
    · have H := nb_Hw ((nb_Hu H).2 (by omega))
      have c9 : M.1 603 6 ≠ 59 := by omega
      refine nb_Gr ?_
      exact nb_Hu H
  · have H := nb_Hw ((nb_Hu H).2 (by omega))
    have c10 : M.1 603 13 ≠ 0 := by omega
    refine nb_Gr ?_
    exact nb_Hu H

theorem w_m_house_21 {v1 v2 : nb_V} {M : nb_M} {Q : List nb_V → nb_M → Prop} (W : nb_Lay M) (H : (M.1 603 13 = 0 → (M.1 603 6 = 0 → (M.1 607 0 = 0 → nb_W 92 0 [(20, 603), (0, 6), (0, M.1 603 4)] [] M (fun r M9 => r = [] ∧ nb_Lay M9 ∧ nb_W 105 30 [(20, 603), v1, v2] [] M9 Q)) ∧ (M.1 607 0 ≠ 0 → (M.1 607 3 = 0 → nb_W 92 0 [(20, 603), (0, 6), (0, M.1 603 4)] [] M (fun r M16 => r = [] ∧ nb_Lay M16 ∧ nb_W 105 30 [(20, 603), v1, v2] [] M16 Q)) ∧ (M.1 607 3 ≠ 0 → (M.1 607 4 = 0 → nb_W 92 0 [(20, 603), (0, 6), (0, M.1 603 4)] [] M (fun r M23 => r = [] ∧ nb_Lay M23 ∧ nb_W 105 30 [(20, 603), v1, v2] [] M23 Q)) ∧ (M.1 607 4 ≠ 0 → (M.1 607 5 = 0 → nb_W 92 0 [(20, 603), (0, 6), (0, M.1 603 4)] [] M (fun r M30 => r = [] ∧ nb_Lay M30 ∧ nb_W 105 30 [(20, 603), v1, v2] [] M30 Q)) ∧ (M.1 607 5 ≠ 0 → nb_W 105 30 [(20, 603), v1, v2] [] M Q))))) ∧ (M.1 603 6 ≠ 0 → nb_W 92 0 [(20, 603), (0, 1), (0, M.1 603 4)] [] M (fun r M38 => r = [] ∧ nb_Lay M38 ∧ (M38.1 603 13 = 0 → (M38.1 607 0 = 0 → nb_W 92 0 [(20, 603), (0, 6), (0, M38.1 603 4)] [] M38 (fun r M46 => r = [] ∧ nb_Lay M46 ∧ nb_W 105 30 [(20, 603), v1, v2] [] M46 Q)) ∧ (M38.1 607 0 ≠ 0 → (M38.1 607 3 = 0 → nb_W 92 0 [(20, 603), (0, 6), (0, M38.1 603 4)] [] M38 (fun r M53 => r = [] ∧ nb_Lay M53 ∧ nb_W 105 30 [(20, 603), v1, v2] [] M53 Q)) ∧ (M38.1 607 3 ≠ 0 → (M38.1 607 4 = 0 → nb_W 92 0 [(20, 603), (0, 6), (0, M38.1 603 4)] [] M38 (fun r M60 => r = [] ∧ nb_Lay M60 ∧ nb_W 105 30 [(20, 603), v1, v2] [] M60 Q)) ∧ (M38.1 607 4 ≠ 0 → (M38.1 607 5 = 0 → nb_W 92 0 [(20, 603), (0, 6), (0, M38.1 603 4)] [] M38 (fun r M67 => r = [] ∧ nb_Lay M67 ∧ nb_W 105 30 [(20, 603), v1, v2] [] M67 Q)) ∧ (M38.1 607 5 ≠ 0 → nb_W 105 30 [(20, 603), v1, v2] [] M38 Q))))) ∧ (M38.1 603 13 ≠ 0 → nb_W 105 30 [(20, 603), v1, v2] [] M38 Q)))) ∧ (M.1 603 13 ≠ 0 → nb_W 105 30 [(20, 603), v1, v2] [] M Q)) :
    nb_W 105 21 [(20, 603), v1, v2] [] M Q := by
  replace H := nb_Hw H
  have E1 : nb_rd M 603 13 = M.1 603 13 := nb_rd_1 _ _ _
  refine nb_Wg (q_m_house_21 _ _ _ _ (by omega)) ?_
  simp only [E1]
  clear E1
  refine nb_Gi (fun c76 => ?_) (fun c76 => ?_)
  · have H := nb_Hw ((nb_Hu H).1 c76)
    refine nb_Gr ?_
    have E2 : nb_rd M 603 6 = M.1 603 6 := nb_rd_1 _ _ _
    refine nb_Wg (q_m_house_22 _ _ _ _ (by omega)) ?_
    simp only [E2]
    clear E2
    refine nb_Gi (fun c74 => ?_) (fun c74 => ?_)
    · have H := nb_Hw ((nb_Hu H).1 c74)
      refine nb_Gr ?_
      have E3 : nb_rd M 603 13 = M.1 603 13 := nb_rd_1 _ _ _
      refine nb_Wg (q_m_house_24 _ _ _ _ (by omega)) ?_
      simp only [E3]
      clear E3
      refine nb_Gt (by omega) ?_
      refine nb_Gr ?_
      have E4 : nb_rd M 603 16 = 607 := W.m16
      have N5 : nb_ln M 607 = 347 := W.lk (by decide) (by decide +kernel)
      have E6 : nb_rd M 607 0 = M.1 607 0 := nb_rd_1 _ _ _
      refine nb_Wg (q_m_house_25 _ _ _ _ (by omega) (by rw [E4]; first | done | omega) (by omega) (by rw [E4, N5]; first | done | omega)) ?_
      simp only [E4, E6]
      clear E4 N5 E6
      refine nb_Gi (fun c35 => ?_) (fun c35 => ?_)
      · have H := nb_Hw ((nb_Hu H).1 c35)
        refine nb_Gr ?_
        have E7 : nb_rd M 603 4 = M.1 603 4 := nb_rd_1 _ _ _
        refine nb_Wg (q_m_house_29 _ _ _ _ (by omega)) ?_
        simp only [E7]
        clear E7
        refine nb_Gb ?_
        refine nb_W.imp (nb_Hu H) (fun r M9 H => ?_)
        obtain ⟨rfl, W10, H⟩ := H
        replace H := nb_Hw H
        show nb_W 105 30 [(20, 603), v1, v2] [] M9 _
        exact nb_Hu H
      · have H := nb_Hw ((nb_Hu H).2 (by omega))
        have c35 : M.1 607 0 ≠ 0 := by omega
        refine nb_Gr ?_
        have E11 : nb_rd M 603 16 = 607 := W.m16
        have N12 : nb_ln M 607 = 347 := W.lk (by decide) (by decide +kernel)
        have E13 : nb_rd M 607 3 = M.1 607 3 := nb_rd_1 _ _ _
        refine nb_Wg (q_m_house_26 _ _ _ _ (by omega) (by rw [E11]; first | done | omega) (by omega) (by rw [E11, N12]; first | done | omega)) ?_
        simp only [E11, E13]
        clear E11 N12 E13
        refine nb_Gi (fun c34 => ?_) (fun c34 => ?_)
        · have H := nb_Hw ((nb_Hu H).1 c34)
          refine nb_Gr ?_
          have E14 : nb_rd M 603 4 = M.1 603 4 := nb_rd_1 _ _ _
          refine nb_Wg (q_m_house_29 _ _ _ _ (by omega)) ?_
          simp only [E14]
          clear E14
          refine nb_Gb ?_
          refine nb_W.imp (nb_Hu H) (fun r M16 H => ?_)
          obtain ⟨rfl, W17, H⟩ := H
          replace H := nb_Hw H
          show nb_W 105 30 [(20, 603), v1, v2] [] M16 _
          exact nb_Hu H
        · have H := nb_Hw ((nb_Hu H).2 (by omega))
          have c34 : M.1 607 3 ≠ 0 := by omega
          refine nb_Gr ?_
          have E18 : nb_rd M 603 16 = 607 := W.m16
          have N19 : nb_ln M 607 = 347 := W.lk (by decide) (by decide +kernel)
          have E20 : nb_rd M 607 4 = M.1 607 4 := nb_rd_1 _ _ _
          refine nb_Wg (q_m_house_27 _ _ _ _ (by omega) (by rw [E18]; first | done | omega) (by omega) (by rw [E18, N19]; first | done | omega)) ?_
          simp only [E18, E20]
          clear E18 N19 E20
          refine nb_Gi (fun c33 => ?_) (fun c33 => ?_)
          · have H := nb_Hw ((nb_Hu H).1 c33)
            refine nb_Gr ?_
            have E21 : nb_rd M 603 4 = M.1 603 4 := nb_rd_1 _ _ _
            refine nb_Wg (q_m_house_29 _ _ _ _ (by omega)) ?_
            simp only [E21]
            clear E21
            refine nb_Gb ?_
            refine nb_W.imp (nb_Hu H) (fun r M23 H => ?_)
            obtain ⟨rfl, W24, H⟩ := H
            replace H := nb_Hw H
            show nb_W 105 30 [(20, 603), v1, v2] [] M23 _
            exact nb_Hu H
          · have H := nb_Hw ((nb_Hu H).2 (by omega))
            have c33 : M.1 607 4 ≠ 0 := by omega
            refine nb_Gr ?_
            have E25 : nb_rd M 603 16 = 607 := W.m16
            have N26 : nb_ln M 607 = 347 := W.lk (by decide) (by decide +kernel)
            have E27 : nb_rd M 607 5 = M.1 607 5 := nb_rd_1 _ _ _
            refine nb_Wg (q_m_house_28 _ _ _ _ (by omega) (by rw [E25]; first | done | omega) (by omega) (by rw [E25, N26]; first | done | omega)) ?_
            simp only [E25, E27]
            clear E25 N26 E27
            refine nb_Gi (fun c32 => ?_) (fun c32 => ?_)
            · have H := nb_Hw ((nb_Hu H).1 c32)
              refine nb_Gr ?_
              have E28 : nb_rd M 603 4 = M.1 603 4 := nb_rd_1 _ _ _
              refine nb_Wg (q_m_house_29 _ _ _ _ (by omega)) ?_
              simp only [E28]
              clear E28
              refine nb_Gb ?_
              refine nb_W.imp (nb_Hu H) (fun r M30 H => ?_)
              obtain ⟨rfl, W31, H⟩ := H
              replace H := nb_Hw H
              show nb_W 105 30 [(20, 603), v1, v2] [] M30 _
              exact nb_Hu H
            · have H := nb_Hw ((nb_Hu H).2 (by omega))
              have c32 : M.1 607 5 ≠ 0 := by omega
              refine nb_Gr ?_
              exact nb_Hu H
    · have H := nb_Hw ((nb_Hu H).2 (by omega))
      have c74 : M.1 603 6 ≠ 0 := by omega
      refine nb_Gr ?_
      have E36 : nb_rd M 603 4 = M.1 603 4 := nb_rd_1 _ _ _
      refine nb_Wg (q_m_house_23 _ _ _ _ (by omega)) ?_
      simp only [E36]
      clear E36
      refine nb_Gb ?_
      refine nb_W.imp (nb_Hu H) (fun r M38 H => ?_)
      obtain ⟨rfl, W39, H⟩ := H
      replace H := nb_Hw H
      show nb_W 105 24 [(20, 603), v1, v2] [] M38 _
      have E40 : nb_rd M38 603 13 = M38.1 603 13 := nb_rd_1 _ _ _
      refine nb_Wg (q_m_house_24 _ _ _ _ (by omega)) ?_
      simp only [E40]
      clear E40
      refine nb_Gi (fun c73 => ?_) (fun c73 => ?_)
      · have H := nb_Hw ((nb_Hu H).1 c73)
        refine nb_Gr ?_
        have E41 : nb_rd M38 603 16 = 607 := W39.m16
        have N42 : nb_ln M38 607 = 347 := W39.lk (by decide) (by decide +kernel)
        have E43 : nb_rd M38 607 0 = M38.1 607 0 := nb_rd_1 _ _ _
        refine nb_Wg (q_m_house_25 _ _ _ _ (by omega) (by rw [E41]; first | done | omega) (by omega) (by rw [E41, N42]; first | done | omega)) ?_
        simp only [E41, E43]
        clear E41 N42 E43
        refine nb_Gi (fun c72 => ?_) (fun c72 => ?_)
        · have H := nb_Hw ((nb_Hu H).1 c72)
          refine nb_Gr ?_
          have E44 : nb_rd M38 603 4 = M38.1 603 4 := nb_rd_1 _ _ _
          refine nb_Wg (q_m_house_29 _ _ _ _ (by omega)) ?_
          simp only [E44]
          clear E44
          refine nb_Gb ?_
          refine nb_W.imp (nb_Hu H) (fun r M46 H => ?_)
          obtain ⟨rfl, W47, H⟩ := H
          replace H := nb_Hw H
          show nb_W 105 30 [(20, 603), v1, v2] [] M46 _
          exact nb_Hu H
        · have H := nb_Hw ((nb_Hu H).2 (by omega))
          have c72 : M38.1 607 0 ≠ 0 := by omega
          refine nb_Gr ?_
          have E48 : nb_rd M38 603 16 = 607 := W39.m16
          have N49 : nb_ln M38 607 = 347 := W39.lk (by decide) (by decide +kernel)
          have E50 : nb_rd M38 607 3 = M38.1 607 3 := nb_rd_1 _ _ _
          refine nb_Wg (q_m_house_26 _ _ _ _ (by omega) (by rw [E48]; first | done | omega) (by omega) (by rw [E48, N49]; first | done | omega)) ?_
          simp only [E48, E50]
          clear E48 N49 E50
          refine nb_Gi (fun c71 => ?_) (fun c71 => ?_)
          · have H := nb_Hw ((nb_Hu H).1 c71)
            refine nb_Gr ?_
            have E51 : nb_rd M38 603 4 = M38.1 603 4 := nb_rd_1 _ _ _
            refine nb_Wg (q_m_house_29 _ _ _ _ (by omega)) ?_
            simp only [E51]
            clear E51
            refine nb_Gb ?_
            refine nb_W.imp (nb_Hu H) (fun r M53 H => ?_)
            obtain ⟨rfl, W54, H⟩ := H
            replace H := nb_Hw H
            show nb_W 105 30 [(20, 603), v1, v2] [] M53 _
            exact nb_Hu H
          · have H := nb_Hw ((nb_Hu H).2 (by omega))
            have c71 : M38.1 607 3 ≠ 0 := by omega
            refine nb_Gr ?_
            have E55 : nb_rd M38 603 16 = 607 := W39.m16
            have N56 : nb_ln M38 607 = 347 := W39.lk (by decide) (by decide +kernel)
            have E57 : nb_rd M38 607 4 = M38.1 607 4 := nb_rd_1 _ _ _
            refine nb_Wg (q_m_house_27 _ _ _ _ (by omega) (by rw [E55]; first | done | omega) (by omega) (by rw [E55, N56]; first | done | omega)) ?_
            simp only [E55, E57]
            clear E55 N56 E57
            refine nb_Gi (fun c70 => ?_) (fun c70 => ?_)
            · have H := nb_Hw ((nb_Hu H).1 c70)
              refine nb_Gr ?_
              have E58 : nb_rd M38 603 4 = M38.1 603 4 := nb_rd_1 _ _ _
              refine nb_Wg (q_m_house_29 _ _ _ _ (by omega)) ?_
              simp only [E58]
              clear E58
              refine nb_Gb ?_
              refine nb_W.imp (nb_Hu H) (fun r M60 H => ?_)
              obtain ⟨rfl, W61, H⟩ := H
              replace H := nb_Hw H
              show nb_W 105 30 [(20, 603), v1, v2] [] M60 _
              exact nb_Hu H
            · have H := nb_Hw ((nb_Hu H).2 (by omega))
              have c70 : M38.1 607 4 ≠ 0 := by omega
              refine nb_Gr ?_
              have E62 : nb_rd M38 603 16 = 607 := W39.m16
              have N63 : nb_ln M38 607 = 347 := W39.lk (by decide) (by decide +kernel)
              have E64 : nb_rd M38 607 5 = M38.1 607 5 := nb_rd_1 _ _ _
              refine nb_Wg (q_m_house_28 _ _ _ _ (by omega) (by rw [E62]; first | done | omega) (by omega) (by rw [E62, N63]; first | done | omega)) ?_
              simp only [E62, E64]
              clear E62 N63 E64
              refine nb_Gi (fun c69 => ?_) (fun c69 => ?_)
              · have H := nb_Hw ((nb_Hu H).1 c69)
                refine nb_Gr ?_
                have E65 : nb_rd M38 603 4 = M38.1 603 4 := nb_rd_1 _ _ _
                refine nb_Wg (q_m_house_29 _ _ _ _ (by omega)) ?_
                simp only [E65]
                clear E65
                refine nb_Gb ?_
                refine nb_W.imp (nb_Hu H) (fun r M67 H => ?_)
                obtain ⟨rfl, W68, H⟩ := H
                replace H := nb_Hw H
                show nb_W 105 30 [(20, 603), v1, v2] [] M67 _
                exact nb_Hu H
              · have H := nb_Hw ((nb_Hu H).2 (by omega))
                have c69 : M38.1 607 5 ≠ 0 := by omega
                refine nb_Gr ?_
                exact nb_Hu H
      · have H := nb_Hw ((nb_Hu H).2 (by omega))
        have c73 : M38.1 603 13 ≠ 0 := by omega
        refine nb_Gr ?_
        exact nb_Hu H
  · have H := nb_Hw ((nb_Hu H).2 (by omega))
    have c76 : M.1 603 13 ≠ 0 := by omega
    refine nb_Gr ?_
    have E75 : nb_rd M 603 13 = M.1 603 13 := nb_rd_1 _ _ _
    refine nb_Wg (q_m_house_24 _ _ _ _ (by omega)) ?_
    simp only [E75]
    clear E75
    refine nb_Gf (by omega) ?_
    refine nb_Gr ?_
    exact nb_Hu H

theorem w_m_house_30 {v1 v2 : nb_V} {M : nb_M} {Q : List nb_V → nb_M → Prop} (W : nb_Lay M) (H : (M.1 603 13 = 0 → nb_W 124 0 [(20, 603), (3, 608), (98, 0), (98, 0)] [] (nb_up (nb_up (nb_wr (nb_wr (nb_wr (nb_wr (nb_up M 606 (pu_cpy (M.1 607) (M.1 606) 0 0 347)) 603 14 1) 603 21 0) 603 22 0) 603 25 ((pu_cpy (M.1 607) (M.1 606) 0 0 347) 4)) 612 (pu_cpy (pu_cpy (M.1 607) (M.1 606) 0 0 347) (M.1 612) 23 0 18)) 613 (pu_cpy (pu_cpy (M.1 607) (M.1 606) 0 0 347) (M.1 613) 41 0 70)) (fun r M13 => r = [] ∧ nb_Lay M13 ∧ (nb_Lay M13 → Q [(0, M13.1 606 5)] M13))) ∧ (M.1 603 13 ≠ 0 → (nb_Lay (nb_wr M 603 11 4) → Q [(0, (-1))] (nb_wr M 603 11 4)))) :
    nb_W 105 30 [(20, 603), v1, v2] [] M Q := by
  replace H := nb_Hw H
  have E1 : nb_rd M 603 13 = M.1 603 13 := nb_rd_1 _ _ _
  refine nb_Wg (q_m_house_30 _ _ _ _ (by omega)) ?_
  simp only [E1]
  clear E1
  refine nb_Gi (fun c19 => ?_) (fun c19 => ?_)
  · have H := nb_Hw ((nb_Hu H).1 c19)
    refine nb_Gr ?_
    have E2 : nb_rd M 603 16 = 607 := W.m16
    have E3 : nb_rd M 603 15 = 606 := W.m15
    refine nb_Wg (q_m_house_33 _ _ _ _ (by omega)) ?_
    simp only [E2, E3]
    clear E2 E3
    have W4 : nb_Lay (nb_up M 606 (pu_cpy (M.1 607) (M.1 606) 0 0 347)) := W.up (fun i w => (nb_nnum (by decide) (by decide)))
    rw [show nb_R nb_P 86 0 [(3, 607), (0, 0), (3, 606), (0, 0), (0, 347), (98, 0)] [] M = some ([], nb_up M 606 (pu_cpy (M.1 607) (M.1 606) 0 0 347)) from (sp_m_copy (n0 := 347) (n2 := 347) (by decide) (by decide) (by decide) (by decide) (W.lk (a := 607) (n := 347) (by decide) (by decide +kernel)) (W.lk (a := 606) (n := 347) (by decide) (by decide +kernel)) (by omega) (by omega) (by omega) (by omega) (by omega)).trans (by first | rfl | simp [nb_wr_up, nb_up_1, nb_up_up, nb_ud])]
    refine nb_Gp ?_
    show nb_W 105 34 [(20, 603), v1, v2] [] (nb_up M 606 (pu_cpy (M.1 607) (M.1 606) 0 0 347)) _
    refine nb_Wg (q_m_house_34 _ _ _ _ (by omega)) ?_
    have W5 : nb_Lay (nb_wr (nb_up M 606 (pu_cpy (M.1 607) (M.1 606) 0 0 347)) 603 14 1) := W4.wr (fun w => (nb_nlit (by decide) (by decide)))
    refine nb_Gr ?_
    refine nb_Wg (q_m_house_35 _ _ _ _ (by omega)) ?_
    have W6 : nb_Lay (nb_wr (nb_wr (nb_up M 606 (pu_cpy (M.1 607) (M.1 606) 0 0 347)) 603 14 1) 603 21 0) := W5.wr (fun w => (nb_nlit (by decide) (by decide)))
    refine nb_Gr ?_
    refine nb_Wg (q_m_house_36 _ _ _ _ (by omega)) ?_
    have W7 : nb_Lay (nb_wr (nb_wr (nb_wr (nb_up M 606 (pu_cpy (M.1 607) (M.1 606) 0 0 347)) 603 14 1) 603 21 0) 603 22 0) := W6.wr (fun w => (nb_nlit (by decide) (by decide)))
    refine nb_Gr ?_
    refine nb_Wg (q_m_house_37 _ _ _ _ (by omega)) ?_
    have W8 : nb_Lay (nb_wr (nb_wr (nb_wr (nb_wr (nb_up M 606 (pu_cpy (M.1 607) (M.1 606) 0 0 347)) 603 14 1) 603 21 0) 603 22 0) 603 25 ((pu_cpy (M.1 607) (M.1 606) 0 0 347) 4)) := W7.wr (fun w => (nb_nlit (by decide) (by decide)))
    have W9 : nb_Lay (nb_up (nb_wr (nb_wr (nb_wr (nb_wr (nb_up M 606 (pu_cpy (M.1 607) (M.1 606) 0 0 347)) 603 14 1) 603 21 0) 603 22 0) 603 25 ((pu_cpy (M.1 607) (M.1 606) 0 0 347) 4)) 612 (pu_cpy (pu_cpy (M.1 607) (M.1 606) 0 0 347) (M.1 612) 23 0 18)) := W8.up (fun i w => (nb_nnum (by decide) (by decide)))
    have W10 : nb_Lay (nb_up (nb_up (nb_wr (nb_wr (nb_wr (nb_wr (nb_up M 606 (pu_cpy (M.1 607) (M.1 606) 0 0 347)) 603 14 1) 603 21 0) 603 22 0) 603 25 ((pu_cpy (M.1 607) (M.1 606) 0 0 347) 4)) 612 (pu_cpy (pu_cpy (M.1 607) (M.1 606) 0 0 347) (M.1 612) 23 0 18)) 613 (pu_cpy (pu_cpy (M.1 607) (M.1 606) 0 0 347) (M.1 613) 41 0 70)) := W9.up (fun i w => (nb_nnum (by decide) (by decide)))
    rw [show nb_R nb_P 121 0 [(20, 603)] [] (nb_wr (nb_wr (nb_wr (nb_up M 606 (pu_cpy (M.1 607) (M.1 606) 0 0 347)) 603 14 1) 603 21 0) 603 22 0) = some ([], nb_up (nb_up (nb_wr (nb_wr (nb_wr (nb_wr (nb_up M 606 (pu_cpy (M.1 607) (M.1 606) 0 0 347)) 603 14 1) 603 21 0) 603 22 0) 603 25 ((pu_cpy (M.1 607) (M.1 606) 0 0 347) 4)) 612 (pu_cpy (pu_cpy (M.1 607) (M.1 606) 0 0 347) (M.1 612) 23 0 18)) 613 (pu_cpy (pu_cpy (M.1 607) (M.1 606) 0 0 347) (M.1 613) 41 0 70)) from (sp_m_asTold W7).trans (by first | rfl | simp [nb_wr_up, nb_up_1, nb_up_up, nb_ud])]
    refine nb_Gp ?_
    show nb_W 105 38 [(20, 603), v1, v2] [] (nb_up (nb_up (nb_wr (nb_wr (nb_wr (nb_wr (nb_up M 606 (pu_cpy (M.1 607) (M.1 606) 0 0 347)) 603 14 1) 603 21 0) 603 22 0) 603 25 ((pu_cpy (M.1 607) (M.1 606) 0 0 347) 4)) 612 (pu_cpy (pu_cpy (M.1 607) (M.1 606) 0 0 347) (M.1 612) 23 0 18)) 613 (pu_cpy (pu_cpy (M.1 607) (M.1 606) 0 0 347) (M.1 613) 41 0 70)) _
    have E11 : nb_rd (nb_up (nb_up (nb_wr (nb_wr (nb_wr (nb_wr (nb_up M 606 (pu_cpy (M.1 607) (M.1 606) 0 0 347)) 603 14 1) 603 21 0) 603 22 0) 603 25 ((pu_cpy (M.1 607) (M.1 606) 0 0 347) 4)) 612 (pu_cpy (pu_cpy (M.1 607) (M.1 606) 0 0 347) (M.1 612) 23 0 18)) 613 (pu_cpy (pu_cpy (M.1 607) (M.1 606) 0 0 347) (M.1 613) 41 0 70)) 603 17 = 608 := W10.m17
    refine nb_Wg (q_m_house_38 _ _ _ _ (by omega)) ?_
    simp only [E11]
    clear E11
    refine nb_Gb ?_
    refine nb_W.imp (nb_Hu H) (fun r M13 H => ?_)
    obtain ⟨rfl, W14, H⟩ := H
    replace H := nb_Hw H
    show nb_W 105 39 [(20, 603), v1, v2] [] M13 _
    have E15 : nb_rd M13 603 15 = 606 := W14.m15
    have N16 : nb_ln M13 606 = 347 := W14.lk (by decide) (by decide +kernel)
    have E17 : nb_rd M13 606 5 = M13.1 606 5 := nb_rd_1 _ _ _
    refine nb_Wg (q_m_house_39 _ _ _ _ (by omega) (by rw [E15]; first | done | omega) (by omega) (by rw [E15, N16]; first | done | omega)) ?_
    simp only [E15, E17]
    clear E15 N16 E17
    refine nb_Gs ?_
    exact nb_Hu H W14
  · have H := nb_Hw ((nb_Hu H).2 (by omega))
    have c19 : M.1 603 13 ≠ 0 := by omega
    refine nb_Gr ?_
    refine nb_Wg (q_m_house_31 _ _ _ _ (by omega)) ?_
    refine nb_Gb ?_
    refine nb_Wg (q_m_no_0 _ _ _ (by omega)) ?_
    have W18 : nb_Lay (nb_wr M 603 11 4) := W.wr (fun w => (nb_nlit (by decide) (by decide)))
    refine nb_Gr ?_
    refine nb_Wg (q_m_no_1 _ _ _) ?_
    refine nb_Gs ?_
    show nb_W 105 32 [(20, 603), v1, v2] [(0, (-1))] (nb_wr M 603 11 4) _
    refine nb_Wg (q_m_house_32 _ _ _ _ _) ?_
    refine nb_Gs ?_
    exact nb_Hu H W18

