/-! rules, printed by wip/gen -/
theorem w_c_row_0 {l1 l2 Ho : Int} {v3 : nb_V} {M : nb_M} {Q : List nb_V → nb_M → Prop} (W : nb_Lay M) (hHo : nb_hs Ho) (hx2 : M.1 2 2 = Ho) (H : nb_W 265 0 [(15, 84), (0, 1), (98, 0), (98, 0)] [] M (fun r M3 => ∃ x2 : Int, r = [(0, x2)] ∧ nb_Lay M3 ∧ M3.1 2 2 = Ho ∧ (l1 < 0 → (nb_Lay (nb_wr M3 2 15 1) → Q [(0, (-1))] (nb_wr M3 2 15 1))) ∧ (0 ≤ l1 → (l1 < M3.1 Ho 12 → (l2 < 0 → (nb_Lay (nb_wr M3 2 15 1) → Q [(0, (-1))] (nb_wr M3 2 15 1))) ∧ (0 ≤ l2 → (l2 < x2 → (7 < x2 → (nb_Lay (nb_wr (nb_wr M3 2 15 0) 2 15 3) → Q [(0, (-1))] (nb_wr (nb_wr M3 2 15 0) 2 15 3))) ∧ (x2 ≤ 7 → nb_W 248 0 [(14, 130), (15, 84), (0, l1), (98, 0), (98, 0)] [] (nb_wr (nb_wr M3 2 15 0) 2 15 0) (fun r M23 => r = [] ∧ nb_Lay M23 ∧ M23.1 2 2 = Ho ∧ nb_W 252 0 [(14, 130), (0, l2), (98, 0), (98, 0), (98, 0)] [] M23 (fun r M28 => ∃ x27 : Int, r = [(0, x27)] ∧ nb_Lay M28 ∧ M28.1 2 2 = Ho ∧ (nb_Lay M28 → Q [(0, x27)] M28))))) ∧ (x2 ≤ l2 → (nb_Lay (nb_wr M3 2 15 1) → Q [(0, (-1))] (nb_wr M3 2 15 1))))) ∧ (M3.1 Ho 12 ≤ l1 → (nb_Lay (nb_wr M3 2 15 1) → Q [(0, (-1))] (nb_wr M3 2 15 1)))))) :
    nb_W 58 0 [(19, 2), (0, l1), (0, l2), v3] [] M Q := by
  replace H := nb_Hw H
  have uhHo := hHo
  unfold nb_hs at uhHo
  have E1 : nb_rd M 2 5 = 84 := W.c5
  refine nb_Wg (q_c_row_0 _ _ _ _ _ (by omega) (by rw [E1]; first | done | omega)) ?_
  simp only [E1]
  clear E1
  refine nb_Gb ?_
  refine nb_W.imp (nb_Hu H) (fun r M3 H => ?_)
  obtain ⟨x2, rfl, W4, g5, H⟩ := H
  replace H := nb_Hw H
  show nb_W 58 1 [(19, 2), (0, l1), (0, l2), v3] [(0, x2)] M3 _
  refine nb_Wg (q_c_row_1 _ _ _ _ _ _ (by omega)) ?_
  refine nb_Gb ?_
  refine nb_Wg (q_c_isStaff_0 _ _ _) ?_
  refine nb_Gi (fun c40 => ?_) (fun c40 => ?_)
  · have H := nb_Hw ((nb_Hu H).1 c40)
    refine nb_Gr ?_
    refine nb_Wg (q_c_isStaff_3 _ _ _) ?_
    refine nb_Gr ?_
    have E6 : nb_i2z 0 = 0 := by decide
    refine nb_Wg (q_c_isStaff_4 _ _ _ _) ?_
    simp only [E6]
    clear E6
    refine nb_Gs ?_
    show nb_W 58 2 [(19, 2), (0, l1), (0, l2), (0, x2)] [(0, 0), (19, 2)] M3 _
    refine nb_Wg (q_c_row_2 _ _ _ _ _ _ _) ?_
    refine nb_Gt (by decide) ?_
    refine nb_Gr ?_
    refine nb_Wg (q_c_row_6 _ _ _ _ _ _) ?_
    refine nb_Gr ?_
    refine nb_Wg (q_c_row_7 _ _ _ _ _ _ _ (by omega)) ?_
    refine nb_Gb ?_
    refine nb_Wg (q_c_granted_0 _ _ _ _) ?_
    refine nb_Gt (by decide) ?_
    refine nb_Gr ?_
    refine nb_Wg (q_c_granted_2 _ _ _ _ _) ?_
    refine nb_Gr ?_
    refine nb_Wg (q_c_granted_3 _ _ _ _ _ _ (by omega)) ?_
    have W7 : nb_Lay (nb_wr M3 2 15 1) := W4.wr (fun w => (nb_nlit (by decide) (by decide)))
    refine nb_Gr ?_
    have E8 : nb_i2z 0 = 0 := by decide
    refine nb_Wg (q_c_granted_4 _ _ _ _) ?_
    simp only [E8]
    clear E8
    refine nb_Gs ?_
    show nb_W 58 8 [(19, 2), (0, l1), (0, l2), (0, x2)] [(0, 0)] (nb_wr M3 2 15 1) _
    refine nb_Wg (q_c_row_8 _ _ _ _ _ _) ?_
    refine nb_Gt (by decide) ?_
    refine nb_Gr ?_
    refine nb_Wg (q_c_row_14 _ _ _ _ _) ?_
    refine nb_Gs ?_
    exact nb_Hu H W7
  · have H := nb_Hw ((nb_Hu H).2 (by omega))
    have c40 : 0 ≤ l1 := by omega
    refine nb_Gr ?_
    have E9 : nb_rd M3 2 2 = Ho := g5
    have E10 : nb_rd M3 Ho 12 = M3.1 Ho 12 := nb_rd_1 _ _ _
    refine nb_Wg (q_c_isStaff_1 _ _ _ (by omega) (by rw [E9]; first | done | omega)) ?_
    simp only [E9, E10]
    clear E9 E10
    refine nb_Gi (fun c39 => ?_) (fun c39 => ?_)
    · have H := nb_Hw ((nb_Hu H).1 c39)
      refine nb_Gr ?_
      refine nb_Wg (q_c_isStaff_2 _ _ _) ?_
      refine nb_Gr ?_
      have E11 : nb_i2z 1 = 1 := by decide
      refine nb_Wg (q_c_isStaff_4 _ _ _ _) ?_
      simp only [E11]
      clear E11
      refine nb_Gs ?_
      show nb_W 58 2 [(19, 2), (0, l1), (0, l2), (0, x2)] [(0, 1), (19, 2)] M3 _
      refine nb_Wg (q_c_row_2 _ _ _ _ _ _ _) ?_
      refine nb_Gf (by decide) ?_
      refine nb_Gr ?_
      refine nb_Wg (q_c_row_3 _ _ _ _ _ _) ?_
      refine nb_Gi (fun c35 => ?_) (fun c35 => ?_)
      · have H := nb_Hw ((nb_Hu H).1 c35)
        refine nb_Gr ?_
        refine nb_Wg (q_c_row_6 _ _ _ _ _ _) ?_
        refine nb_Gr ?_
        refine nb_Wg (q_c_row_7 _ _ _ _ _ _ _ (by omega)) ?_
        refine nb_Gb ?_
        refine nb_Wg (q_c_granted_0 _ _ _ _) ?_
        refine nb_Gt (by decide) ?_
        refine nb_Gr ?_
        refine nb_Wg (q_c_granted_2 _ _ _ _ _) ?_
        refine nb_Gr ?_
        refine nb_Wg (q_c_granted_3 _ _ _ _ _ _ (by omega)) ?_
        have W12 : nb_Lay (nb_wr M3 2 15 1) := W4.wr (fun w => (nb_nlit (by decide) (by decide)))
        refine nb_Gr ?_
        have E13 : nb_i2z 0 = 0 := by decide
        refine nb_Wg (q_c_granted_4 _ _ _ _) ?_
        simp only [E13]
        clear E13
        refine nb_Gs ?_
        show nb_W 58 8 [(19, 2), (0, l1), (0, l2), (0, x2)] [(0, 0)] (nb_wr M3 2 15 1) _
        refine nb_Wg (q_c_row_8 _ _ _ _ _ _) ?_
        refine nb_Gt (by decide) ?_
        refine nb_Gr ?_
        refine nb_Wg (q_c_row_14 _ _ _ _ _) ?_
        refine nb_Gs ?_
        exact nb_Hu H W12
      · have H := nb_Hw ((nb_Hu H).2 (by omega))
        have c35 : 0 ≤ l2 := by omega
        refine nb_Gr ?_
        refine nb_Wg (q_c_row_4 _ _ _ _ _ _) ?_
        refine nb_Gi (fun c34 => ?_) (fun c34 => ?_)
        · have H := nb_Hw ((nb_Hu H).1 c34)
          refine nb_Gr ?_
          refine nb_Wg (q_c_row_5 _ _ _ _ _ _) ?_
          refine nb_Gr ?_
          refine nb_Wg (q_c_row_7 _ _ _ _ _ _ _ (by omega)) ?_
          refine nb_Gb ?_
          refine nb_Wg (q_c_granted_0 _ _ _ _) ?_
          refine nb_Gf (by decide) ?_
          refine nb_Gr ?_
          refine nb_Wg (q_c_granted_1 _ _ _ _ _) ?_
          refine nb_Gr ?_
          refine nb_Wg (q_c_granted_3 _ _ _ _ _ _ (by omega)) ?_
          have W14 : nb_Lay (nb_wr M3 2 15 0) := W4.wr (fun w => (nb_nlit (by decide) (by decide)))
          refine nb_Gr ?_
          have E15 : nb_i2z 1 = 1 := by decide
          refine nb_Wg (q_c_granted_4 _ _ _ _) ?_
          simp only [E15]
          clear E15
          refine nb_Gs ?_
          show nb_W 58 8 [(19, 2), (0, l1), (0, l2), (0, x2)] [(0, 1)] (nb_wr M3 2 15 0) _
          refine nb_Wg (q_c_row_8 _ _ _ _ _ _) ?_
          refine nb_Gf (by decide) ?_
          refine nb_Gr ?_
          refine nb_Wg (q_c_row_9 _ _ _ _ _) ?_
          refine nb_Gi (fun c31 => ?_) (fun c31 => ?_)
          · have H := nb_Hw ((nb_Hu H).1 c31)
            refine nb_Gr ?_
            refine nb_Wg (q_c_row_11 _ _ _ _ _ _) ?_
            refine nb_Gr ?_
            refine nb_Wg (q_c_row_12 _ _ _ _ _ _ _ (by omega)) ?_
            refine nb_Gb ?_
            refine nb_Wg (q_c_granted_0 _ _ _ _) ?_
            refine nb_Gt (by decide) ?_
            refine nb_Gr ?_
            refine nb_Wg (q_c_granted_2 _ _ _ _ _) ?_
            refine nb_Gr ?_
            refine nb_Wg (q_c_granted_3 _ _ _ _ _ _ (by omega)) ?_
            have W16 : nb_Lay (nb_wr (nb_wr M3 2 15 0) 2 15 3) := W14.wr (fun w => (nb_nlit (by decide) (by decide)))
            refine nb_Gr ?_
            have E17 : nb_i2z 0 = 0 := by decide
            refine nb_Wg (q_c_granted_4 _ _ _ _) ?_
            simp only [E17]
            clear E17
            refine nb_Gs ?_
            show nb_W 58 13 [(19, 2), (0, l1), (0, l2), (0, x2)] [(0, 0)] (nb_wr (nb_wr M3 2 15 0) 2 15 3) _
            refine nb_Wg (q_c_row_13 _ _ _ _ _ _) ?_
            refine nb_Gt (by decide) ?_
            refine nb_Gr ?_
            refine nb_Wg (q_c_row_14 _ _ _ _ _) ?_
            refine nb_Gs ?_
            exact nb_Hu H W16
          · have H := nb_Hw ((nb_Hu H).2 (by omega))
            have c31 : x2 ≤ 7 := by omega
            refine nb_Gr ?_
            refine nb_Wg (q_c_row_10 _ _ _ _ _ _) ?_
            refine nb_Gr ?_
            refine nb_Wg (q_c_row_12 _ _ _ _ _ _ _ (by omega)) ?_
            refine nb_Gb ?_
            refine nb_Wg (q_c_granted_0 _ _ _ _) ?_
            refine nb_Gf (by decide) ?_
            refine nb_Gr ?_
            refine nb_Wg (q_c_granted_1 _ _ _ _ _) ?_
            refine nb_Gr ?_
            refine nb_Wg (q_c_granted_3 _ _ _ _ _ _ (by omega)) ?_
            have W18 : nb_Lay (nb_wr (nb_wr M3 2 15 0) 2 15 0) := W14.wr (fun w => (nb_nlit (by decide) (by decide)))
            refine nb_Gr ?_
            have E19 : nb_i2z 1 = 1 := by decide
            refine nb_Wg (q_c_granted_4 _ _ _ _) ?_
            simp only [E19]
            clear E19
            refine nb_Gs ?_
            show nb_W 58 13 [(19, 2), (0, l1), (0, l2), (0, x2)] [(0, 1)] (nb_wr (nb_wr M3 2 15 0) 2 15 0) _
            refine nb_Wg (q_c_row_13 _ _ _ _ _ _) ?_
            refine nb_Gf (by decide) ?_
            refine nb_Gr ?_
            have E20 : nb_rd (nb_wr (nb_wr M3 2 15 0) 2 15 0) 2 12 = 130 := W18.c12
            have E21 : nb_rd (nb_wr (nb_wr M3 2 15 0) 2 15 0) 2 5 = 84 := W18.c5
            refine nb_Wg (q_c_row_15 _ _ _ _ _ (by omega) (by rw [E20]; first | done | omega)) ?_
            simp only [E20, E21]
            clear E20 E21
            refine nb_Gb ?_
            refine nb_W.imp (nb_Hu H) (fun r M23 H => ?_)
            obtain ⟨rfl, W24, g25, H⟩ := H
            replace H := nb_Hw H
            show nb_W 58 16 [(19, 2), (0, l1), (0, l2), (0, x2)] [] M23 _
            have E26 : nb_rd M23 2 12 = 130 := W24.c12
            refine nb_Wg (q_c_row_16 _ _ _ _ _ (by omega) (by rw [E26]; first | done | omega)) ?_
            simp only [E26]
            clear E26
            refine nb_Gb ?_
            refine nb_W.imp (nb_Hu H) (fun r M28 H => ?_)
            obtain ⟨x27, rfl, W29, g30, H⟩ := H
            replace H := nb_Hw H
            show nb_W 58 17 [(19, 2), (0, l1), (0, l2), (0, x2)] [(0, x27)] M28 _
            refine nb_Wg (q_c_row_17 _ _ _ _ _ _) ?_
            refine nb_Gs ?_
            exact nb_Hu H W29
        · have H := nb_Hw ((nb_Hu H).2 (by omega))
          have c34 : x2 ≤ l2 := by omega
          refine nb_Gr ?_
          refine nb_Wg (q_c_row_6 _ _ _ _ _ _) ?_
          refine nb_Gr ?_
          refine nb_Wg (q_c_row_7 _ _ _ _ _ _ _ (by omega)) ?_
          refine nb_Gb ?_
          refine nb_Wg (q_c_granted_0 _ _ _ _) ?_
          refine nb_Gt (by decide) ?_
          refine nb_Gr ?_
          refine nb_Wg (q_c_granted_2 _ _ _ _ _) ?_
          refine nb_Gr ?_
          refine nb_Wg (q_c_granted_3 _ _ _ _ _ _ (by omega)) ?_
          have W32 : nb_Lay (nb_wr M3 2 15 1) := W4.wr (fun w => (nb_nlit (by decide) (by decide)))
          refine nb_Gr ?_
          have E33 : nb_i2z 0 = 0 := by decide
          refine nb_Wg (q_c_granted_4 _ _ _ _) ?_
          simp only [E33]
          clear E33
          refine nb_Gs ?_
          show nb_W 58 8 [(19, 2), (0, l1), (0, l2), (0, x2)] [(0, 0)] (nb_wr M3 2 15 1) _
          refine nb_Wg (q_c_row_8 _ _ _ _ _ _) ?_
          refine nb_Gt (by decide) ?_
          refine nb_Gr ?_
          refine nb_Wg (q_c_row_14 _ _ _ _ _) ?_
          refine nb_Gs ?_
          exact nb_Hu H W32
    · have H := nb_Hw ((nb_Hu H).2 (by omega))
      have c39 : M3.1 Ho 12 ≤ l1 := by omega
      refine nb_Gr ?_
      refine nb_Wg (q_c_isStaff_3 _ _ _) ?_
      refine nb_Gr ?_
      have E36 : nb_i2z 0 = 0 := by decide
      refine nb_Wg (q_c_isStaff_4 _ _ _ _) ?_
      simp only [E36]
      clear E36
      refine nb_Gs ?_
      show nb_W 58 2 [(19, 2), (0, l1), (0, l2), (0, x2)] [(0, 0), (19, 2)] M3 _
      refine nb_Wg (q_c_row_2 _ _ _ _ _ _ _) ?_
      refine nb_Gt (by decide) ?_
      refine nb_Gr ?_
      refine nb_Wg (q_c_row_6 _ _ _ _ _ _) ?_
      refine nb_Gr ?_
      refine nb_Wg (q_c_row_7 _ _ _ _ _ _ _ (by omega)) ?_
      refine nb_Gb ?_
      refine nb_Wg (q_c_granted_0 _ _ _ _) ?_
      refine nb_Gt (by decide) ?_
      refine nb_Gr ?_
      refine nb_Wg (q_c_granted_2 _ _ _ _ _) ?_
      refine nb_Gr ?_
      refine nb_Wg (q_c_granted_3 _ _ _ _ _ _ (by omega)) ?_
      have W37 : nb_Lay (nb_wr M3 2 15 1) := W4.wr (fun w => (nb_nlit (by decide) (by decide)))
      refine nb_Gr ?_
      have E38 : nb_i2z 0 = 0 := by decide
      refine nb_Wg (q_c_granted_4 _ _ _ _) ?_
      simp only [E38]
      clear E38
      refine nb_Gs ?_
      show nb_W 58 8 [(19, 2), (0, l1), (0, l2), (0, x2)] [(0, 0)] (nb_wr M3 2 15 1) _
      refine nb_Wg (q_c_row_8 _ _ _ _ _ _) ?_
      refine nb_Gt (by decide) ?_
      refine nb_Gr ?_
      refine nb_Wg (q_c_row_14 _ _ _ _ _) ?_
      refine nb_Gs ?_
      exact nb_Hu H W37

theorem w_c_rowSum_0 {l1 Ho : Int} {M : nb_M} {Q : List nb_V → nb_M → Prop} (W : nb_Lay M) (hHo : nb_hs Ho) (hx2 : M.1 2 2 = Ho) (H : (l1 < 0 → (nb_Lay (nb_wr M 2 15 1) → Q [(0, (-1))] (nb_wr M 2 15 1))) ∧ (0 ≤ l1 → 0 ≤ M.1 Ho 12 ∧ M.1 Ho 12 ≤ 3 ∧ (l1 < M.1 Ho 12 → nb_W 265 0 [(15, 84), (0, 1), (98, 0), (98, 0)] [] (nb_wr M 2 15 0) (fun r M11 => ∃ x10 : Int, r = [(0, x10)] ∧ nb_Lay M11 ∧ M11.1 2 2 = Ho ∧ (7 < x10 → (nb_Lay (nb_wr M11 2 15 3) → Q [(0, (-1))] (nb_wr M11 2 15 3))) ∧ (x10 ≤ 7 → nb_W 248 0 [(14, 130), (15, 84), (0, l1), (98, 0), (98, 0)] [] (nb_wr M11 2 15 0) (fun r M21 => r = [] ∧ nb_Lay M21 ∧ M21.1 2 2 = Ho ∧ nb_W 251 0 [(14, 130)] [] M21 (fun r M26 => ∃ x25 : Int, r = [(0, x25)] ∧ nb_Lay M26 ∧ M26.1 2 2 = Ho ∧ (nb_Lay M26 → Q [(0, x25)] M26)))))) ∧ (M.1 Ho 12 ≤ l1 → (nb_Lay (nb_wr M 2 15 1) → Q [(0, (-1))] (nb_wr M 2 15 1))))) :
    nb_W 59 0 [(19, 2), (0, l1)] [] M Q := by
  replace H := nb_Hw H
  have uhHo := hHo
  unfold nb_hs at uhHo
  refine nb_Wg (q_c_rowSum_0 _ _ _ (by omega)) ?_
  refine nb_Gb ?_
  refine nb_Wg (q_c_isStaff_0 _ _ _) ?_
  refine nb_Gi (fun c34 => ?_) (fun c34 => ?_)
  · have H := nb_Hw ((nb_Hu H).1 c34)
    refine nb_Gr ?_
    refine nb_Wg (q_c_isStaff_3 _ _ _) ?_
    refine nb_Gr ?_
    have E1 : nb_i2z 0 = 0 := by decide
    refine nb_Wg (q_c_isStaff_4 _ _ _ _) ?_
    simp only [E1]
    clear E1
    refine nb_Gs ?_
    show nb_W 59 1 [(19, 2), (0, l1)] [(0, 0), (19, 2)] M _
    refine nb_Wg (q_c_rowSum_1 _ _ _ _ _ (by omega)) ?_
    refine nb_Gb ?_
    refine nb_Wg (q_c_granted_0 _ _ _ _) ?_
    refine nb_Gt (by decide) ?_
    refine nb_Gr ?_
    refine nb_Wg (q_c_granted_2 _ _ _ _ _) ?_
    refine nb_Gr ?_
    refine nb_Wg (q_c_granted_3 _ _ _ _ _ _ (by omega)) ?_
    have W2 : nb_Lay (nb_wr M 2 15 1) := W.wr (fun w => (nb_nlit (by decide) (by decide)))
    refine nb_Gr ?_
    have E3 : nb_i2z 0 = 0 := by decide
    refine nb_Wg (q_c_granted_4 _ _ _ _) ?_
    simp only [E3]
    clear E3
    refine nb_Gs ?_
    show nb_W 59 2 [(19, 2), (0, l1)] [(0, 0)] (nb_wr M 2 15 1) _
    refine nb_Wg (q_c_rowSum_2 _ _ _ _) ?_
    refine nb_Gt (by decide) ?_
    refine nb_Gr ?_
    refine nb_Wg (q_c_rowSum_9 _ _ _) ?_
    refine nb_Gs ?_
    exact nb_Hu H W2
  · have H := nb_Hw ((nb_Hu H).2 (by omega))
    have c34 : 0 ≤ l1 := by omega
    refine nb_Gr ?_
    obtain ⟨p0_, p1_, H⟩ := H
    replace H := nb_Hw H
    have E4 : nb_rd M 2 2 = Ho := hx2
    have E5 : nb_rd M Ho 12 = M.1 Ho 12 := nb_rd_1 _ _ _
    refine nb_Wg (q_c_isStaff_1 _ _ _ (by omega) (by rw [E4]; first | done | omega)) ?_
    simp only [E4, E5]
    clear E4 E5
    refine nb_Gi (fun c33 => ?_) (fun c33 => ?_)
    · have H := nb_Hw ((nb_Hu H).1 c33)
      refine nb_Gr ?_
      refine nb_Wg (q_c_isStaff_2 _ _ _) ?_
      refine nb_Gr ?_
      have E6 : nb_i2z 1 = 1 := by decide
      refine nb_Wg (q_c_isStaff_4 _ _ _ _) ?_
      simp only [E6]
      clear E6
      refine nb_Gs ?_
      show nb_W 59 1 [(19, 2), (0, l1)] [(0, 1), (19, 2)] M _
      refine nb_Wg (q_c_rowSum_1 _ _ _ _ _ (by omega)) ?_
      refine nb_Gb ?_
      refine nb_Wg (q_c_granted_0 _ _ _ _) ?_
      refine nb_Gf (by decide) ?_
      refine nb_Gr ?_
      refine nb_Wg (q_c_granted_1 _ _ _ _ _) ?_
      refine nb_Gr ?_
      refine nb_Wg (q_c_granted_3 _ _ _ _ _ _ (by omega)) ?_
      have W7 : nb_Lay (nb_wr M 2 15 0) := W.wr (fun w => (nb_nlit (by decide) (by decide)))
      refine nb_Gr ?_
      have E8 : nb_i2z 1 = 1 := by decide
      refine nb_Wg (q_c_granted_4 _ _ _ _) ?_
      simp only [E8]
      clear E8
      refine nb_Gs ?_
      show nb_W 59 2 [(19, 2), (0, l1)] [(0, 1)] (nb_wr M 2 15 0) _
      refine nb_Wg (q_c_rowSum_2 _ _ _ _) ?_
      refine nb_Gf (by decide) ?_
      refine nb_Gr ?_
      have E9 : nb_rd (nb_wr M 2 15 0) 2 5 = 84 := W7.c5
      refine nb_Wg (q_c_rowSum_3 _ _ _ (by omega) (by rw [E9]; first | done | omega)) ?_
      simp only [E9]
      clear E9
      refine nb_Gb ?_
      refine nb_W.imp (nb_Hu H) (fun r M11 H => ?_)
      obtain ⟨x10, rfl, W12, g13, H⟩ := H
      replace H := nb_Hw H
      show nb_W 59 4 [(19, 2), (0, l1)] [(0, x10), (19, 2)] M11 _
      refine nb_Wg (q_c_rowSum_4 _ _ _ _ _) ?_
      refine nb_Gi (fun c29 => ?_) (fun c29 => ?_)
      · have H := nb_Hw ((nb_Hu H).1 c29)
        refine nb_Gr ?_
        refine nb_Wg (q_c_rowSum_6 _ _ _ _) ?_
        refine nb_Gr ?_
        refine nb_Wg (q_c_rowSum_7 _ _ _ _ _ (by omega)) ?_
        refine nb_Gb ?_
        refine nb_Wg (q_c_granted_0 _ _ _ _) ?_
        refine nb_Gt (by decide) ?_
        refine nb_Gr ?_
        refine nb_Wg (q_c_granted_2 _ _ _ _ _) ?_
        refine nb_Gr ?_
        refine nb_Wg (q_c_granted_3 _ _ _ _ _ _ (by omega)) ?_
        have W14 : nb_Lay (nb_wr M11 2 15 3) := W12.wr (fun w => (nb_nlit (by decide) (by decide)))
        refine nb_Gr ?_
        have E15 : nb_i2z 0 = 0 := by decide
        refine nb_Wg (q_c_granted_4 _ _ _ _) ?_
        simp only [E15]
        clear E15
        refine nb_Gs ?_
        show nb_W 59 8 [(19, 2), (0, l1)] [(0, 0)] (nb_wr M11 2 15 3) _
        refine nb_Wg (q_c_rowSum_8 _ _ _ _) ?_
        refine nb_Gt (by decide) ?_
        refine nb_Gr ?_
        refine nb_Wg (q_c_rowSum_9 _ _ _) ?_
        refine nb_Gs ?_
        exact nb_Hu H W14
      · have H := nb_Hw ((nb_Hu H).2 (by omega))
        have c29 : x10 ≤ 7 := by omega
        refine nb_Gr ?_
        refine nb_Wg (q_c_rowSum_5 _ _ _ _) ?_
        refine nb_Gr ?_
        refine nb_Wg (q_c_rowSum_7 _ _ _ _ _ (by omega)) ?_
        refine nb_Gb ?_
        refine nb_Wg (q_c_granted_0 _ _ _ _) ?_
        refine nb_Gf (by decide) ?_
        refine nb_Gr ?_
        refine nb_Wg (q_c_granted_1 _ _ _ _ _) ?_
        refine nb_Gr ?_
        refine nb_Wg (q_c_granted_3 _ _ _ _ _ _ (by omega)) ?_
        have W16 : nb_Lay (nb_wr M11 2 15 0) := W12.wr (fun w => (nb_nlit (by decide) (by decide)))
        refine nb_Gr ?_
        have E17 : nb_i2z 1 = 1 := by decide
        refine nb_Wg (q_c_granted_4 _ _ _ _) ?_
        simp only [E17]
        clear E17
        refine nb_Gs ?_
        show nb_W 59 8 [(19, 2), (0, l1)] [(0, 1)] (nb_wr M11 2 15 0) _
        refine nb_Wg (q_c_rowSum_8 _ _ _ _) ?_
        refine nb_Gf (by decide) ?_
        refine nb_Gr ?_
        have E18 : nb_rd (nb_wr M11 2 15 0) 2 12 = 130 := W16.c12
        have E19 : nb_rd (nb_wr M11 2 15 0) 2 5 = 84 := W16.c5
        refine nb_Wg (q_c_rowSum_10 _ _ _ (by omega) (by rw [E18]; first | done | omega)) ?_
        simp only [E18, E19]
        clear E18 E19
        refine nb_Gb ?_
        refine nb_W.imp (nb_Hu H) (fun r M21 H => ?_)
        obtain ⟨rfl, W22, g23, H⟩ := H
        replace H := nb_Hw H
        show nb_W 59 11 [(19, 2), (0, l1)] [] M21 _
        have E24 : nb_rd M21 2 12 = 130 := W22.c12
        refine nb_Wg (q_c_rowSum_11 _ _ _ (by omega) (by rw [E24]; first | done | omega)) ?_
        simp only [E24]
        clear E24
        refine nb_Gb ?_
        refine nb_W.imp (nb_Hu H) (fun r M26 H => ?_)
        obtain ⟨x25, rfl, W27, g28, H⟩ := H
        replace H := nb_Hw H
        show nb_W 59 12 [(19, 2), (0, l1)] [(0, x25)] M26 _
        refine nb_Wg (q_c_rowSum_12 _ _ _ _) ?_
        refine nb_Gs ?_
        exact nb_Hu H W27
    · have H := nb_Hw ((nb_Hu H).2 (by omega))
      have c33 : M.1 Ho 12 ≤ l1 := by omega
      refine nb_Gr ?_
      refine nb_Wg (q_c_isStaff_3 _ _ _) ?_
      refine nb_Gr ?_
      have E30 : nb_i2z 0 = 0 := by decide
      refine nb_Wg (q_c_isStaff_4 _ _ _ _) ?_
      simp only [E30]
      clear E30
      refine nb_Gs ?_
      show nb_W 59 1 [(19, 2), (0, l1)] [(0, 0), (19, 2)] M _
      refine nb_Wg (q_c_rowSum_1 _ _ _ _ _ (by omega)) ?_
      refine nb_Gb ?_
      refine nb_Wg (q_c_granted_0 _ _ _ _) ?_
      refine nb_Gt (by decide) ?_
      refine nb_Gr ?_
      refine nb_Wg (q_c_granted_2 _ _ _ _ _) ?_
      refine nb_Gr ?_
      refine nb_Wg (q_c_granted_3 _ _ _ _ _ _ (by omega)) ?_
      have W31 : nb_Lay (nb_wr M 2 15 1) := W.wr (fun w => (nb_nlit (by decide) (by decide)))
      refine nb_Gr ?_
      have E32 : nb_i2z 0 = 0 := by decide
      refine nb_Wg (q_c_granted_4 _ _ _ _) ?_
      simp only [E32]
      clear E32
      refine nb_Gs ?_
      show nb_W 59 2 [(19, 2), (0, l1)] [(0, 0)] (nb_wr M 2 15 1) _
      refine nb_Wg (q_c_rowSum_2 _ _ _ _) ?_
      refine nb_Gt (by decide) ?_
      refine nb_Gr ?_
      refine nb_Wg (q_c_rowSum_9 _ _ _) ?_
      refine nb_Gs ?_
      exact nb_Hu H W31

theorem w_rw_sumWith_0 {l1 l2 l3 : Int} {M : nb_M} {Q : List nb_V → nb_M → Prop} (W : nb_Lay M)  (b0_ : 0 ≤ l1 ∧ l1 ≤ 127) (b1_ : 0 ≤ l2 ∧ l2 ≤ 7) (b2_ : 0 ≤ l3 ∧ l3 ≤ 6) (b3_ : 0 ≤ nb_and l1 (nb_xor (nb_shl 1 l3) (-1)) ∧ nb_and l1 (nb_xor (nb_shl 1 l3) (-1)) ≤ 127) (H : 0 ≤ l1 ∧ l1 < 1024 ∧ (nb_Lay M → Q [(0, nb_add (nb_mul (M.1 (133 + l2) l3) (pu_ones l1)) (M.1 141 ((nb_and l1 (nb_xor (nb_shl 1 l3) (-1))) * 8 + l3)))] M)) :
    nb_W 249 0 [(14, 130), (0, l1), (0, l2), (0, l3)] [] M Q := by
  replace H := nb_Hw H
  obtain ⟨p0_, p1_, H⟩ := H
  replace H := nb_Hw H
  have E1 : nb_rd M 130 1 = 132 := W.w1
  have N2 : nb_ln M 132 = 8 := W.lk (by decide) (by decide +kernel)
  have E3 : nb_rd M 132 l2 = 133 + l2 := W.tarr (i := l2) (by omega) (by omega)
  have N4 : nb_ln M (133 + l2) = 7 := W.tn (i := l2) (by omega) (by omega)
  have E5 : nb_rd M (133 + l2) l3 = M.1 (133 + l2) l3 := nb_rd_1 _ _ _
  refine nb_Wg (q_rw_sumWith_0 _ _ _ _ _ (by omega) (by rw [E1]; first | done | omega) (by omega) (by rw [E1, N2]; first | done | omega) (by rw [E1, E3]; first | done | omega) (by omega) (by rw [E1, E3, N4]; first | done | omega)) ?_
  simp only [E1, E3, E5]
  clear E1 N2 E3 N4 E5
  rw [show nb_R nb_P 294 0 [(0, l1)] [] M = some ([(0, pu_ones l1)], M) from sp_bitCount (by omega) (by omega)]
  refine nb_Gp ?_
  show nb_W 249 1 [(14, 130), (0, l1), (0, l2), (0, l3)] [(0, pu_ones l1), (0, M.1 (133 + l2) l3)] M _
  have E6 : nb_rd M 130 2 = 141 := W.w2
  have E7 : nb_mul (nb_and l1 (nb_xor (nb_shl 1 l3) (-1))) 8 = (nb_and l1 (nb_xor (nb_shl 1 l3) (-1))) * 8 := (nb_mul_eq (x := nb_and l1 (nb_xor (nb_shl 1 l3) (-1))) (y := 8) (by omega) (by omega)).trans (by omega)
  have E8 : nb_add ((nb_and l1 (nb_xor (nb_shl 1 l3) (-1))) * 8) l3 = (nb_and l1 (nb_xor (nb_shl 1 l3) (-1))) * 8 + l3 := nb_add_eq (by omega) (by omega)
  have N9 : nb_ln M 141 = 1024 := W.lk (by decide) (by decide +kernel)
  have E10 : nb_rd M 141 ((nb_and l1 (nb_xor (nb_shl 1 l3) (-1))) * 8 + l3) = M.1 141 ((nb_and l1 (nb_xor (nb_shl 1 l3) (-1))) * 8 + l3) := nb_rd_1 _ _ _
  refine nb_Wg (q_rw_sumWith_1 _ _ _ _ _ _ _ (by omega) (by rw [E6]; first | done | omega) (by rw [E7, E8]; first | done | omega) (by rw [E7, E8, E6, N9]; first | done | omega)) ?_
  simp only [E6, E7, E8, E10]
  clear E6 E7 E8 N9 E10
  refine nb_Gs ?_
  exact nb_Hu H W

theorem w_rw_firstOf_0 {l1 l2 : Int} {v3 v4 v5 v6 : nb_V} {M : nb_M} {Q : List nb_V → nb_M → Prop} (W : nb_Lay M) (H : nb_W 250 1 [(14, 130), (0, l1), (0, l2), (0, 0), (0, 1000000), (0, 0), v6] [] M Q) :
    nb_W 250 0 [(14, 130), (0, l1), (0, l2), v3, v4, v5, v6] [] M Q := by
  replace H := nb_Hw H
  refine nb_Wg (q_rw_firstOf_0 _ _ _ _ _ _ _ _) ?_
  refine nb_Gr ?_
  exact nb_Hu H

theorem w_rw_firstOf_1 {l1 l2 l3 l4 l5 : Int} {v6 : nb_V} {M : nb_M} {Q : List nb_V → nb_M → Prop} (W : nb_Lay M)  (b0_ : 0 ≤ l5 ∧ l5 ≤ 7) (b1_ : 0 ≤ M.1 130 3 ∧ M.1 130 3 ≤ 7) (H : (l5 < M.1 130 3 → (nb_and (nb_shr l1 l5) 1 = 1 → nb_W 249 0 [(14, 130), (0, l1), (0, l2), (0, l5)] [] M (fun r M3 => ∃ x2 : Int, r = [(0, x2)] ∧ nb_Lay M3 ∧ (x2 < l4 → nb_W 250 1 [(14, 130), (0, l1), (0, l2), (0, l5), (0, x2), (0, l5 + 1), (0, x2)] [] M3 Q) ∧ (l4 ≤ x2 → nb_W 250 1 [(14, 130), (0, l1), (0, l2), (0, l3), (0, l4), (0, l5 + 1), (0, x2)] [] M3 Q))) ∧ (nb_and (nb_shr l1 l5) 1 ≠ 1 → nb_W 250 1 [(14, 130), (0, l1), (0, l2), (0, l3), (0, l4), (0, l5 + 1), v6] [] M Q)) ∧ (M.1 130 3 ≤ l5 → (nb_Lay M → Q [(0, l3)] M))) :
    nb_W 250 1 [(14, 130), (0, l1), (0, l2), (0, l3), (0, l4), (0, l5), v6] [] M Q := by
  replace H := nb_Hw H
  have E1 : nb_rd M 130 3 = M.1 130 3 := nb_rd_1 _ _ _
  refine nb_Wg (q_rw_firstOf_1 _ _ _ _ _ _ _ _ (by omega)) ?_
  simp only [E1]
  clear E1
  refine nb_Gi (fun c10 => ?_) (fun c10 => ?_)
  · have H := nb_Hw ((nb_Hu H).1 c10)
    refine nb_Gr ?_
    refine nb_Wg (q_rw_firstOf_2 _ _ _ _ _ _ _ _) ?_
    refine nb_Gi (fun c9 => ?_) (fun c9 => ?_)
    · have H := nb_Hw ((nb_Hu H).1 c9)
      refine nb_Gr ?_
      refine nb_Wg (q_rw_firstOf_3 _ _ _ _ _ _ _ _ (by omega)) ?_
      refine nb_Gb ?_
      refine nb_W.imp (nb_Hu H) (fun r M3 H => ?_)
      obtain ⟨x2, rfl, W4, H⟩ := H
      replace H := nb_Hw H
      show nb_W 250 4 [(14, 130), (0, l1), (0, l2), (0, l3), (0, l4), (0, l5), v6] [(0, x2)] M3 _
      refine nb_Wg (q_rw_firstOf_4 _ _ _ _ _ _ _ _ _) ?_
      refine nb_Gi (fun c7 => ?_) (fun c7 => ?_)
      · have H := nb_Hw ((nb_Hu H).1 c7)
        refine nb_Gr ?_
        refine nb_Wg (q_rw_firstOf_5 _ _ _ _ _ _ _ _) ?_
        refine nb_Gr ?_
        have E5 : nb_add l5 1 = l5 + 1 := nb_add_eq (by omega) (by omega)
        refine nb_Wg (q_rw_firstOf_6 _ _ _ _ _ _ _ _) ?_
        simp only [E5]
        clear E5
        refine nb_Gr ?_
        exact nb_Hu H
      · have H := nb_Hw ((nb_Hu H).2 (by omega))
        have c7 : l4 ≤ x2 := by omega
        refine nb_Gr ?_
        have E6 : nb_add l5 1 = l5 + 1 := nb_add_eq (by omega) (by omega)
        refine nb_Wg (q_rw_firstOf_6 _ _ _ _ _ _ _ _) ?_
        simp only [E6]
        clear E6
        refine nb_Gr ?_
        exact nb_Hu H
    · have H := nb_Hw ((nb_Hu H).2 (by omega))
      have c9 : nb_and (nb_shr l1 l5) 1 ≠ 1 := by omega
      refine nb_Gr ?_
      have E8 : nb_add l5 1 = l5 + 1 := nb_add_eq (by omega) (by omega)
      refine nb_Wg (q_rw_firstOf_6 _ _ _ _ _ _ _ _) ?_
      simp only [E8]
      clear E8
      refine nb_Gr ?_
      exact nb_Hu H
  · have H := nb_Hw ((nb_Hu H).2 (by omega))
    have c10 : M.1 130 3 ≤ l5 := by omega
    refine nb_Gr ?_
    refine nb_Wg (q_rw_firstOf_7 _ _ _ _ _ _ _ _) ?_
    refine nb_Gs ?_
    exact nb_Hu H W

theorem w_rw_leastSum_0 {M : nb_M} {Q : List nb_V → nb_M → Prop} (W : nb_Lay M)  (b0_ : 1 ≤ nb_shl 1 (M.1 130 3) ∧ nb_shl 1 (M.1 130 3) ≤ 128) (H : (nb_Lay M → Q [(0, M.1 141 ((nb_shl 1 (M.1 130 3) - 1) * 8 + 7))] M)) :
    nb_W 251 0 [(14, 130)] [] M Q := by
  replace H := nb_Hw H
  have E1 : nb_rd M 130 2 = 141 := W.w2
  have E2 : nb_rd M 130 3 = M.1 130 3 := nb_rd_1 _ _ _
  have E3 : nb_sub (nb_shl 1 (M.1 130 3)) 1 = nb_shl 1 (M.1 130 3) - 1 := nb_sub_eq (by omega) (by omega)
  have E4 : nb_mul (nb_shl 1 (M.1 130 3) - 1) 8 = (nb_shl 1 (M.1 130 3) - 1) * 8 := (nb_mul_eq (x := nb_shl 1 (M.1 130 3) - 1) (y := 8) (by omega) (by omega)).trans (by omega)
  have E5 : nb_add ((nb_shl 1 (M.1 130 3) - 1) * 8) 7 = (nb_shl 1 (M.1 130 3) - 1) * 8 + 7 := nb_add_eq (by omega) (by omega)
  refine nb_Wg (q_rw_leastSum_0 _ _ (by omega)) ?_
  simp only [E1, E2, E3, E4, E5]
  clear E1 E2 E3 E4 E5
  refine nb_Gr ?_
  have N6 : nb_ln M 141 = 1024 := W.lk (by decide) (by decide +kernel)
  have E7 : nb_rd M 141 ((nb_shl 1 (M.1 130 3) - 1) * 8 + 7) = M.1 141 ((nb_shl 1 (M.1 130 3) - 1) * 8 + 7) := nb_rd_1 _ _ _
  refine nb_Wg (q_rw_leastSum_1 _ _ _ _ (by omega) (by omega) (by rw [N6]; first | done | omega)) ?_
  simp only [E7]
  clear N6 E7
  refine nb_Gs ?_
  exact nb_Hu H W

theorem w_rw_inRow_0 {l1 : Int} {v2 v3 v4 : nb_V} {M : nb_M} {Q : List nb_V → nb_M → Prop} (W : nb_Lay M)  (b0_ : 1 ≤ nb_shl 1 (M.1 130 3) ∧ nb_shl 1 (M.1 130 3) ≤ 128) (H : nb_W 252 1 [(14, 130), (0, l1), (0, nb_shl 1 (M.1 130 3) - 1), (0, 7), (0, 0)] [] M Q) :
    nb_W 252 0 [(14, 130), (0, l1), v2, v3, v4] [] M Q := by
  replace H := nb_Hw H
  have E1 : nb_rd M 130 3 = M.1 130 3 := nb_rd_1 _ _ _
  have E2 : nb_sub (nb_shl 1 (M.1 130 3)) 1 = nb_shl 1 (M.1 130 3) - 1 := nb_sub_eq (by omega) (by omega)
  refine nb_Wg (q_rw_inRow_0 _ _ _ _ _ _ (by omega)) ?_
  simp only [E1, E2]
  clear E1 E2
  refine nb_Gr ?_
  exact nb_Hu H

theorem w_rw_inRow_1 {l1 l2 l3 l4 : Int} {M : nb_M} {Q : List nb_V → nb_M → Prop} (W : nb_Lay M)  (b0_ : 0 ≤ l4 ∧ l4 ≤ 7) (b1_ : 0 ≤ M.1 130 3 ∧ M.1 130 3 ≤ 7) (H : (l1 < l4 → (l3 < M.1 130 3 → 0 ≤ l3 ∧ l3 < 7 ∧ (nb_Lay M → Q [(0, M.1 131 l3)] M)) ∧ (M.1 130 3 ≤ l3 → (nb_Lay M → Q [(0, (-1))] M))) ∧ (l4 ≤ l1 → (l4 < M.1 130 3 → nb_W 250 0 [(14, 130), (0, l2), (0, l3), (98, 0), (98, 0), (98, 0), (98, 0)] [] M (fun r M8 => ∃ x7 : Int, r = [(0, x7)] ∧ nb_Lay M8 ∧ nb_W 252 1 [(14, 130), (0, l1), (0, nb_and l2 (nb_xor (nb_shl 1 x7) (-1))), (0, x7), (0, l4 + 1)] [] M8 Q)) ∧ (M.1 130 3 ≤ l4 → (l3 < M.1 130 3 → 0 ≤ l3 ∧ l3 < 7 ∧ (nb_Lay M → Q [(0, M.1 131 l3)] M)) ∧ (M.1 130 3 ≤ l3 → (nb_Lay M → Q [(0, (-1))] M))))) :
    nb_W 252 1 [(14, 130), (0, l1), (0, l2), (0, l3), (0, l4)] [] M Q := by
  replace H := nb_Hw H
  refine nb_Wg (q_rw_inRow_1 _ _ _ _ _ _) ?_
  refine nb_Gi (fun c17 => ?_) (fun c17 => ?_)
  · have H := nb_Hw ((nb_Hu H).1 c17)
    refine nb_Gr ?_
    have E1 : nb_rd M 130 3 = M.1 130 3 := nb_rd_1 _ _ _
    refine nb_Wg (q_rw_inRow_5 _ _ _ _ _ _ (by omega)) ?_
    simp only [E1]
    clear E1
    refine nb_Gi (fun c5 => ?_) (fun c5 => ?_)
    · have H := nb_Hw ((nb_Hu H).1 c5)
      refine nb_Gr ?_
      obtain ⟨p0_, p1_, H⟩ := H
      replace H := nb_Hw H
      have E2 : nb_rd M 130 0 = 131 := W.w0
      have N3 : nb_ln M 131 = 7 := W.lk (by decide) (by decide +kernel)
      have E4 : nb_rd M 131 l3 = M.1 131 l3 := nb_rd_1 _ _ _
      refine nb_Wg (q_rw_inRow_6 _ _ _ _ _ _ (by omega) (by rw [E2]; first | done | omega) (by omega) (by rw [E2, N3]; first | done | omega)) ?_
      simp only [E2, E4]
      clear E2 N3 E4
      refine nb_Gr ?_
      refine nb_Wg (q_rw_inRow_8 _ _ _ _ _ _ _) ?_
      refine nb_Gs ?_
      exact nb_Hu H W
    · have H := nb_Hw ((nb_Hu H).2 (by omega))
      have c5 : M.1 130 3 ≤ l3 := by omega
      refine nb_Gr ?_
      refine nb_Wg (q_rw_inRow_7 _ _ _ _ _ _) ?_
      refine nb_Gr ?_
      refine nb_Wg (q_rw_inRow_8 _ _ _ _ _ _ _) ?_
      refine nb_Gs ?_
      exact nb_Hu H W
  · have H := nb_Hw ((nb_Hu H).2 (by omega))
    have c17 : l4 ≤ l1 := by omega
    refine nb_Gr ?_
    have E6 : nb_rd M 130 3 = M.1 130 3 := nb_rd_1 _ _ _
    refine nb_Wg (q_rw_inRow_2 _ _ _ _ _ _ (by omega)) ?_
    simp only [E6]
    clear E6
    refine nb_Gi (fun c16 => ?_) (fun c16 => ?_)
    · have H := nb_Hw ((nb_Hu H).1 c16)
      refine nb_Gr ?_
      refine nb_Wg (q_rw_inRow_3 _ _ _ _ _ _ (by omega)) ?_
      refine nb_Gb ?_
      refine nb_W.imp (nb_Hu H) (fun r M8 H => ?_)
      obtain ⟨x7, rfl, W9, H⟩ := H
      replace H := nb_Hw H
      show nb_W 252 4 [(14, 130), (0, l1), (0, l2), (0, l3), (0, l4)] [(0, x7)] M8 _
      have E10 : nb_add l4 1 = l4 + 1 := nb_add_eq (by omega) (by omega)
      refine nb_Wg (q_rw_inRow_4 _ _ _ _ _ _ _) ?_
      simp only [E10]
      clear E10
      refine nb_Gr ?_
      exact nb_Hu H
    · have H := nb_Hw ((nb_Hu H).2 (by omega))
      have c16 : M.1 130 3 ≤ l4 := by omega
      refine nb_Gr ?_
      have E11 : nb_rd M 130 3 = M.1 130 3 := nb_rd_1 _ _ _
      refine nb_Wg (q_rw_inRow_5 _ _ _ _ _ _ (by omega)) ?_
      simp only [E11]
      clear E11
      refine nb_Gi (fun c15 => ?_) (fun c15 => ?_)
      · have H := nb_Hw ((nb_Hu H).1 c15)
        refine nb_Gr ?_
        obtain ⟨p0_, p1_, H⟩ := H
        replace H := nb_Hw H
        have E12 : nb_rd M 130 0 = 131 := W.w0
        have N13 : nb_ln M 131 = 7 := W.lk (by decide) (by decide +kernel)
        have E14 : nb_rd M 131 l3 = M.1 131 l3 := nb_rd_1 _ _ _
        refine nb_Wg (q_rw_inRow_6 _ _ _ _ _ _ (by omega) (by rw [E12]; first | done | omega) (by omega) (by rw [E12, N13]; first | done | omega)) ?_
        simp only [E12, E14]
        clear E12 N13 E14
        refine nb_Gr ?_
        refine nb_Wg (q_rw_inRow_8 _ _ _ _ _ _ _) ?_
        refine nb_Gs ?_
        exact nb_Hu H W
      · have H := nb_Hw ((nb_Hu H).2 (by omega))
        have c15 : M.1 130 3 ≤ l3 := by omega
        refine nb_Gr ?_
        refine nb_Wg (q_rw_inRow_7 _ _ _ _ _ _) ?_
        refine nb_Gr ?_
        refine nb_Wg (q_rw_inRow_8 _ _ _ _ _ _ _) ?_
        refine nb_Gs ?_
        exact nb_Hu H W

theorem w_rw_settle_0 {l2 Ho : Int} {v3 v4 : nb_V} {M : nb_M} {Q : List nb_V → nb_M → Prop} (W : nb_Lay M) (hHo : nb_hs Ho) (hAh : M.1 84 3 = Ho) (H : nb_W 265 0 [(15, 84), (0, 1), (98, 0), (98, 0)] [] M (fun r M2 => ∃ x1 : Int, r = [(0, x1)] ∧ nb_Lay M2 ∧ M2.1 84 3 = Ho ∧ nb_W 248 4 [(14, 130), (15, 84), (0, l2), (0, 0), v4] [] (nb_wr M2 130 3 (if x1 < 7 then x1 else 7)) Q)) :
    nb_W 248 0 [(14, 130), (15, 84), (0, l2), v3, v4] [] M Q := by
  replace H := nb_Hw H
  have uhHo := hHo
  unfold nb_hs at uhHo
  refine nb_Wg (q_rw_settle_0 _ _ _ _ _ _ (by omega)) ?_
  refine nb_Gb ?_
  refine nb_W.imp (nb_Hu H) (fun r M2 H => ?_)
  obtain ⟨x1, rfl, W3, g4, H⟩ := H
  replace H := nb_Hw H
  show nb_W 248 1 [(14, 130), (15, 84), (0, l2), v3, v4] [(0, x1), (0, 7), (14, 130)] M2 _
  refine nb_Wg (q_rw_settle_1 _ _ _ _ _ _ _ _ _) ?_
  refine nb_Gp ?_
  show nb_W 248 2 [(14, 130), (15, 84), (0, l2), v3, v4] [(0, if x1 < 7 then x1 else 7), (14, 130)] M2 _
  refine nb_Wg (q_rw_settle_2 _ _ _ _ _ _ _ _ (by omega)) ?_
  have W5 : nb_Lay (nb_wr M2 130 3 (if x1 < 7 then x1 else 7)) := W3.wr (fun w => (nb_nlit (by decide) (by decide)))
  refine nb_Gr ?_
  refine nb_Wg (q_rw_settle_3 _ _ _ _ _ _) ?_
  refine nb_Gr ?_
  exact nb_Hu H

theorem w_rw_settle_4 {l2 l3 Ho : Int} {v4 : nb_V} {M : nb_M} {Q : List nb_V → nb_M → Prop} (W : nb_Lay M) (hHo : nb_hs Ho) (hAh : M.1 84 3 = Ho) (b0_ : 0 ≤ l3 ∧ l3 ≤ 7) (b1_ : 0 ≤ M.1 130 3 ∧ M.1 130 3 ≤ 7) (b2_ : 0 ≤ l2 ∧ l2 ≤ 3) (H : (l3 < M.1 130 3 → nb_W 0 0 [(15, 84), (0, l3), (98, 0), (98, 0)] [] M (fun r M4 => ∃ x3 : Int, r = [(0, x3)] ∧ nb_Lay M4 ∧ M4.1 84 3 = Ho ∧ 0 ≤ l3 ∧ l3 < 7 ∧ nb_W 248 4 [(14, 130), (15, 84), (0, l2), (0, l3 + 1), v4] [] (nb_wr M4 131 l3 x3) Q)) ∧ (M.1 130 3 ≤ l3 → nb_W 248 9 [(14, 130), (15, 84), (0, l2), (0, 0), v4] [] M Q)) :
    nb_W 248 4 [(14, 130), (15, 84), (0, l2), (0, l3), v4] [] M Q := by
  replace H := nb_Hw H
  have uhHo := hHo
  unfold nb_hs at uhHo
  have E1 : nb_rd M 130 3 = M.1 130 3 := nb_rd_1 _ _ _
  refine nb_Wg (q_rw_settle_4 _ _ _ _ _ _ (by omega)) ?_
  simp only [E1]
  clear E1
  refine nb_Gi (fun c10 => ?_) (fun c10 => ?_)
  · have H := nb_Hw ((nb_Hu H).1 c10)
    refine nb_Gr ?_
    have E2 : nb_rd M 130 0 = 131 := W.w0
    refine nb_Wg (q_rw_settle_5 _ _ _ _ _ _ (by omega) (by omega)) ?_
    simp only [E2]
    clear E2
    refine nb_Gb ?_
    refine nb_W.imp (nb_Hu H) (fun r M4 H => ?_)
    obtain ⟨x3, rfl, W5, g6, H⟩ := H
    replace H := nb_Hw H
    show nb_W 248 6 [(14, 130), (15, 84), (0, l2), (0, l3), v4] [(0, x3), (0, l3), (3, 131)] M4 _
    obtain ⟨p0_, p1_, H⟩ := H
    replace H := nb_Hw H
    have N7 : nb_ln M4 131 = 7 := W5.lk (by decide) (by decide +kernel)
    refine nb_Wg (q_rw_settle_6 _ _ _ _ _ _ _ _ _ (by omega) (by omega) (by omega) (by rw [N7]; first | done | omega)) ?_
    clear N7
    have W8 : nb_Lay (nb_wr M4 131 l3 x3) := W5.wr (fun w => (nb_nnum (by decide) (by decide)))
    refine nb_Gr ?_
    have E9 : nb_add l3 1 = l3 + 1 := nb_add_eq (by omega) (by omega)
    refine nb_Wg (q_rw_settle_7 _ _ _ _ _ _) ?_
    simp only [E9]
    clear E9
    refine nb_Gr ?_
    exact nb_Hu H
  · have H := nb_Hw ((nb_Hu H).2 (by omega))
    have c10 : M.1 130 3 ≤ l3 := by omega
    refine nb_Gr ?_
    refine nb_Wg (q_rw_settle_8 _ _ _ _ _ _) ?_
    refine nb_Gr ?_
    exact nb_Hu H

theorem w_rw_settle_9 {l2 l3 Ho : Int} {v4 : nb_V} {M : nb_M} {Q : List nb_V → nb_M → Prop} (W : nb_Lay M) (hHo : nb_hs Ho) (hAh : M.1 84 3 = Ho) (b0_ : 0 ≤ l3 ∧ l3 ≤ 7) (b1_ : 0 ≤ M.1 130 3 ∧ M.1 130 3 ≤ 7) (b2_ : 0 ≤ l2 ∧ l2 ≤ 3) (H : (l3 < M.1 130 3 → nb_W 248 11 [(14, 130), (15, 84), (0, l2), (0, l3), (0, 0)] [] M Q) ∧ (M.1 130 3 ≤ l3 → nb_W 248 19 [(14, 130), (15, 84), nb_clr ((0, l2)), (0, 1), v4] [] M Q)) :
    nb_W 248 9 [(14, 130), (15, 84), (0, l2), (0, l3), v4] [] M Q := by
  replace H := nb_Hw H
  have uhHo := hHo
  unfold nb_hs at uhHo
  have E1 : nb_rd M 130 3 = M.1 130 3 := nb_rd_1 _ _ _
  refine nb_Wg (q_rw_settle_9 _ _ _ _ _ _ (by omega)) ?_
  simp only [E1]
  clear E1
  refine nb_Gi (fun c2 => ?_) (fun c2 => ?_)
  · have H := nb_Hw ((nb_Hu H).1 c2)
    refine nb_Gr ?_
    refine nb_Wg (q_rw_settle_10 _ _ _ _ _ _) ?_
    refine nb_Gr ?_
    exact nb_Hu H
  · have H := nb_Hw ((nb_Hu H).2 (by omega))
    have c2 : M.1 130 3 ≤ l3 := by omega
    refine nb_Gr ?_
    refine nb_Wg (q_rw_settle_18 _ _ _ _ _ _) ?_
    refine nb_Gr ?_
    exact nb_Hu H

theorem w_rw_settle_11 {l2 l3 l4 Ho : Int} {M : nb_M} {Q : List nb_V → nb_M → Prop} (W : nb_Lay M) (hHo : nb_hs Ho) (hAh : M.1 84 3 = Ho) (b0_ : 0 ≤ l3 ∧ l3 ≤ 6) (b1_ : 0 ≤ l4 ∧ l4 ≤ 7) (b2_ : 0 ≤ M.1 130 3 ∧ M.1 130 3 ≤ 7) (b3_ : 0 ≤ l2 ∧ l2 ≤ 3) (H : (l4 < M.1 130 3 → nb_W 220 0 [(12, Ho), (0, M.1 131 l4), (0, M.1 131 l3), (98, 0), (98, 0), (98, 0), (98, 0)] [] M (fun r M13 => ∃ x12 : Int, r = [(0, x12)] ∧ nb_Lay M13 ∧ M13.1 84 3 = Ho ∧ nb_W 248 11 [(14, 130), (15, 84), (0, l2), (0, l3), (0, l4 + 1)] [] (nb_wr M13 (133 + l4) l3 x12) Q)) ∧ (M.1 130 3 ≤ l4 → nb_W 220 0 [(12, Ho), (0, M.1 (98 + 2 * l2) 7), (0, M.1 131 l3), (98, 0), (98, 0), (98, 0), (98, 0)] [] M (fun r M31 => ∃ x30 : Int, r = [(0, x30)] ∧ nb_Lay M31 ∧ M31.1 84 3 = Ho ∧ nb_W 248 9 [(14, 130), (15, 84), (0, l2), (0, l3 + 1), (0, l4)] [] (nb_wr M31 140 l3 x30) Q))) :
    nb_W 248 11 [(14, 130), (15, 84), (0, l2), (0, l3), (0, l4)] [] M Q := by
  replace H := nb_Hw H
  have uhHo := hHo
  unfold nb_hs at uhHo
  have E1 : nb_rd M 130 3 = M.1 130 3 := nb_rd_1 _ _ _
  refine nb_Wg (q_rw_settle_11 _ _ _ _ _ _ (by omega)) ?_
  simp only [E1]
  clear E1
  refine nb_Gi (fun c37 => ?_) (fun c37 => ?_)
  · have H := nb_Hw ((nb_Hu H).1 c37)
    refine nb_Gr ?_
    have E2 : nb_rd M 130 1 = 132 := W.w1
    have N3 : nb_ln M 132 = 8 := W.lk (by decide) (by decide +kernel)
    have E4 : nb_rd M 132 l4 = 133 + l4 := W.tarr (i := l4) (by omega) (by omega)
    have E5 : nb_rd M 84 3 = Ho := hAh
    have E6 : nb_rd M 130 0 = 131 := W.w0
    have N7 : nb_ln M 131 = 7 := W.lk (by decide) (by decide +kernel)
    have E8 : nb_rd M 131 l4 = M.1 131 l4 := nb_rd_1 _ _ _
    have E9 : nb_rd M 130 0 = 131 := W.w0
    have N10 : nb_ln M 131 = 7 := W.lk (by decide) (by decide +kernel)
    have E11 : nb_rd M 131 l3 = M.1 131 l3 := nb_rd_1 _ _ _
    refine nb_Wg (q_rw_settle_12 _ _ _ _ _ _ (by omega) (by rw [E2]; first | done | omega) (by omega) (by rw [E2, N3]; first | done | omega) (by omega) (by rw [E6]; first | done | omega) (by rw [E6, N7]; first | done | omega) (by omega) (by rw [E9, N10]; first | done | omega) (by rw [E5]; first | done | omega)) ?_
    simp only [E2, E4, E5, E6, E8, E9, E11]
    clear E2 N3 E4 E5 E6 N7 E8 E9 N10 E11
    refine nb_Gb ?_
    refine nb_W.imp (nb_Hu H) (fun r M13 H => ?_)
    obtain ⟨x12, rfl, W14, g15, H⟩ := H
    replace H := nb_Hw H
    show nb_W 248 13 [(14, 130), (15, 84), (0, l2), (0, l3), (0, l4)] [(0, x12), (0, l3), (3, 133 + l4)] M13 _
    have N16 : nb_ln M13 (133 + l4) = 7 := W14.tn (i := l4) (by omega) (by omega)
    refine nb_Wg (q_rw_settle_13 _ _ _ _ _ _ _ _ _ (by omega) (by omega) (by omega) (by rw [N16]; first | done | omega)) ?_
    clear N16
    have W17 : nb_Lay (nb_wr M13 (133 + l4) l3 x12) := W14.wr (fun w => (nb_nnum2 (by omega)))
    refine nb_Gr ?_
    have E18 : nb_add l4 1 = l4 + 1 := nb_add_eq (by omega) (by omega)
    refine nb_Wg (q_rw_settle_14 _ _ _ _ _ _) ?_
    simp only [E18]
    clear E18
    refine nb_Gr ?_
    exact nb_Hu H
  · have H := nb_Hw ((nb_Hu H).2 (by omega))
    have c37 : M.1 130 3 ≤ l4 := by omega
    refine nb_Gr ?_
    have E19 : nb_rd M 130 1 = 132 := W.w1
    have N20 : nb_ln M 132 = 8 := W.lk (by decide) (by decide +kernel)
    have E21 : nb_rd M 132 7 = 140 := W.tarr (i := 7) (by omega) (by omega)
    have E22 : nb_rd M 84 3 = Ho := hAh
    have E23 : nb_rd M 84 1 = 86 := W.s1 (A := 84) nb_sc84
    have N24 : nb_ln M 86 = 4 := W.sn2 (A := 84) nb_sc84
    have E25 : nb_rd M 86 l2 = 98 + 2 * l2 := W.sv (A := 84) (i := l2) nb_sc84 (by omega) (by omega)
    have E26 : nb_rd M (98 + 2 * l2) 7 = M.1 (98 + 2 * l2) 7 := nb_rd_1 _ _ _
    have E27 : nb_rd M 130 0 = 131 := W.w0
    have N28 : nb_ln M 131 = 7 := W.lk (by decide) (by decide +kernel)
    have E29 : nb_rd M 131 l3 = M.1 131 l3 := nb_rd_1 _ _ _
    refine nb_Wg (q_rw_settle_15 _ _ _ _ _ _ (by omega) (by rw [E19]; first | done | omega) (by omega) (by rw [E19, N20]; first | done | omega) (by omega) (by rw [E23]; first | done | omega) (by omega) (by rw [E23, N24]; first | done | omega) (by rw [E23, E25]; first | done | omega) (by rw [E27]; first | done | omega) (by omega) (by rw [E27, N28]; first | done | omega) (by rw [E22]; first | done | omega)) ?_
    simp only [E19, E21, E22, E23, E25, E26, E27, E29]
    clear E19 N20 E21 E22 E23 N24 E25 E26 E27 N28 E29
    refine nb_Gb ?_
    refine nb_W.imp (nb_Hu H) (fun r M31 H => ?_)
    obtain ⟨x30, rfl, W32, g33, H⟩ := H
    replace H := nb_Hw H
    show nb_W 248 16 [(14, 130), (15, 84), (0, l2), (0, l3), (0, l4)] [(0, x30), (0, l3), (3, 140)] M31 _
    have N34 : nb_ln M31 140 = 7 := W32.tn (i := 7) (by omega) (by omega)
    refine nb_Wg (q_rw_settle_16 _ _ _ _ _ _ _ _ _ (by omega) (by omega) (by omega) (by rw [N34]; first | done | omega)) ?_
    clear N34
    have W35 : nb_Lay (nb_wr M31 140 l3 x30) := W32.wr (fun w => (nb_nnum (by decide) (by decide)))
    refine nb_Gr ?_
    have E36 : nb_add l3 1 = l3 + 1 := nb_add_eq (by omega) (by omega)
    refine nb_Wg (q_rw_settle_17 _ _ _ _ _ _) ?_
    simp only [E36]
    clear E36
    refine nb_Gr ?_
    exact nb_Hu H

theorem w_rw_settle_19 {l3 : Int} {v1 v2 v4 : nb_V} {M : nb_M} {Q : List nb_V → nb_M → Prop} (W : nb_Lay M)  (b0_ : 1 ≤ l3 ∧ l3 ≤ 128) (b1_ : 1 ≤ nb_shl 1 (M.1 130 3) ∧ nb_shl 1 (M.1 130 3) ≤ 128) (H : (l3 < nb_shl 1 (M.1 130 3) → nb_W 248 21 [(14, 130), v1, v2, (0, l3), (0, 0)] [] M Q) ∧ (nb_shl 1 (M.1 130 3) ≤ l3 → (nb_Lay M → Q [] M))) :
    nb_W 248 19 [(14, 130), v1, v2, (0, l3), v4] [] M Q := by
  replace H := nb_Hw H
  have E1 : nb_rd M 130 3 = M.1 130 3 := nb_rd_1 _ _ _
  refine nb_Wg (q_rw_settle_19 _ _ _ _ _ _ (by omega)) ?_
  simp only [E1]
  clear E1
  refine nb_Gi (fun c2 => ?_) (fun c2 => ?_)
  · have H := nb_Hw ((nb_Hu H).1 c2)
    refine nb_Gr ?_
    refine nb_Wg (q_rw_settle_20 _ _ _ _ _ _) ?_
    refine nb_Gr ?_
    exact nb_Hu H
  · have H := nb_Hw ((nb_Hu H).2 (by omega))
    have c2 : nb_shl 1 (M.1 130 3) ≤ l3 := by omega
    refine nb_Gr ?_
    refine nb_Wg (q_rw_settle_27 _ _ _ _ _ _) ?_
    refine nb_Gs ?_
    exact nb_Hu H W

theorem w_rw_settle_21 {l3 l4 : Int} {v1 v2 : nb_V} {M : nb_M} {Q : List nb_V → nb_M → Prop} (W : nb_Lay M)  (b0_ : 1 ≤ l3 ∧ l3 ≤ 127) (b1_ : 0 ≤ l4 ∧ l4 ≤ 8) (H : (l4 < 8 → nb_W 250 0 [(14, 130), (0, l3), (0, l4), (98, 0), (98, 0), (98, 0), (98, 0)] [] M (fun r M5 => ∃ x4 : Int, r = [(0, x4)] ∧ nb_Lay M5 ∧ nb_W 249 0 [(14, 130), (0, l3), (0, l4), (0, x4)] [] M5 (fun r M8 => ∃ x7 : Int, r = [(0, x7)] ∧ nb_Lay M8 ∧ nb_W 248 21 [(14, 130), v1, v2, (0, l3), (0, l4 + 1)] [] (nb_wr M8 141 (l3 * 8 + l4) x7) Q))) ∧ (8 ≤ l4 → nb_W 248 19 [(14, 130), v1, nb_clr v2, (0, l3 + 1), (0, l4)] [] M Q)) :
    nb_W 248 21 [(14, 130), v1, v2, (0, l3), (0, l4)] [] M Q := by
  replace H := nb_Hw H
  refine nb_Wg (q_rw_settle_21 _ _ _ _ _ _) ?_
  refine nb_Gi (fun c14 => ?_) (fun c14 => ?_)
  · have H := nb_Hw ((nb_Hu H).1 c14)
    refine nb_Gr ?_
    have E1 : nb_rd M 130 2 = 141 := W.w2
    have E2 : nb_mul l3 8 = l3 * 8 := nb_mul_eq (by omega) (by omega)
    have E3 : nb_add (l3 * 8) l4 = l3 * 8 + l4 := nb_add_eq (by omega) (by omega)
    refine nb_Wg (q_rw_settle_22 _ _ _ _ _ _ (by omega)) ?_
    simp only [E1, E2, E3]
    clear E1 E2 E3
    refine nb_Gb ?_
    refine nb_W.imp (nb_Hu H) (fun r M5 H => ?_)
    obtain ⟨x4, rfl, W6, H⟩ := H
    replace H := nb_Hw H
    show nb_W 248 23 [(14, 130), v1, v2, (0, l3), (0, l4)] [(0, x4), (0, l4), (0, l3), (14, 130), (0, l3 * 8 + l4), (3, 141)] M5 _
    refine nb_Wg (q_rw_settle_23 _ _ _ _ _ _ _ _ _ _ _ _ (by omega)) ?_
    refine nb_Gb ?_
    refine nb_W.imp (nb_Hu H) (fun r M8 H => ?_)
    obtain ⟨x7, rfl, W9, H⟩ := H
    replace H := nb_Hw H
    show nb_W 248 24 [(14, 130), v1, v2, (0, l3), (0, l4)] [(0, x7), (0, l3 * 8 + l4), (3, 141)] M8 _
    have N10 : nb_ln M8 141 = 1024 := W9.lk (by decide) (by decide +kernel)
    refine nb_Wg (q_rw_settle_24 _ _ _ _ _ _ _ _ _ (by omega) (by omega) (by omega) (by rw [N10]; first | done | omega)) ?_
    clear N10
    have W11 : nb_Lay (nb_wr M8 141 (l3 * 8 + l4) x7) := W9.wr (fun w => (nb_nnum (by decide) (by decide)))
    refine nb_Gr ?_
    have E12 : nb_add l4 1 = l4 + 1 := nb_add_eq (by omega) (by omega)
    refine nb_Wg (q_rw_settle_25 _ _ _ _ _ _) ?_
    simp only [E12]
    clear E12
    refine nb_Gr ?_
    exact nb_Hu H
  · have H := nb_Hw ((nb_Hu H).2 (by omega))
    have c14 : 8 ≤ l4 := by omega
    refine nb_Gr ?_
    have E13 : nb_add l3 1 = l3 + 1 := nb_add_eq (by omega) (by omega)
    refine nb_Wg (q_rw_settle_26 _ _ _ _ _ _) ?_
    simp only [E13]
    clear E13
    refine nb_Gr ?_
    exact nb_Hu H

theorem w_m_row_0 {l1 l2 : Int} {v3 : nb_V} {M : nb_M} {Q : List nb_V → nb_M → Prop} (W : nb_Lay M) (H : 0 ≤ M.1 603 14 ∧ M.1 603 14 ≤ 1 ∧ (M.1 603 14 = 0 → (nb_Lay (nb_wr (nb_wr (nb_wr M 603 0 0) 603 11 0) 603 11 1) → Q [(0, (-1))] (nb_wr (nb_wr (nb_wr M 603 0 0) 603 11 0) 603 11 1))) ∧ (M.1 603 14 ≠ 0 → 0 ≤ M.1 606 4 ∧ M.1 606 4 ≤ 3 ∧ (l1 < 0 → (nb_Lay (nb_wr (nb_wr (nb_wr M 603 0 0) 603 11 0) 603 11 1) → Q [(0, (-1))] (nb_wr (nb_wr (nb_wr M 603 0 0) 603 11 0) 603 11 1))) ∧ (0 ≤ l1 → (M.1 606 4 - 1 < l1 → (nb_Lay (nb_wr (nb_wr (nb_wr M 603 0 0) 603 11 0) 603 11 1) → Q [(0, (-1))] (nb_wr (nb_wr (nb_wr M 603 0 0) 603 11 0) 603 11 1))) ∧ (l1 ≤ M.1 606 4 - 1 → pu_Rr (M.1 606) ∧ -2147483648 ≤ pu_cnt (M.1 608) 1 ((M.1 606) 5).toNat - 1 ∧ pu_cnt (M.1 608) 1 ((M.1 606) 5).toNat - 1 ≤ 2147483647 ∧ (l2 < 0 → (nb_Lay (nb_wr (nb_wr (nb_wr M 603 0 0) 603 11 0) 603 11 1) → Q [(0, (-1))] (nb_wr (nb_wr (nb_wr M 603 0 0) 603 11 0) 603 11 1))) ∧ (0 ≤ l2 → (pu_cnt (M.1 608) 1 ((M.1 606) 5).toNat - 1 < l2 → (nb_Lay (nb_wr (nb_wr (nb_wr M 603 0 0) 603 11 0) 603 11 1) → Q [(0, (-1))] (nb_wr (nb_wr (nb_wr M 603 0 0) 603 11 0) 603 11 1))) ∧ (l2 ≤ pu_cnt (M.1 608) 1 ((M.1 606) 5).toNat - 1 → nb_W 192 0 [(20, 603), (0, l1), (98, 0)] [] (nb_wr (nb_wr M 603 0 0) 603 11 0) (fun r M26 => ∃ x25 : Int, r = [(0, x25)] ∧ nb_Lay M26 ∧ (x25 = 0 → l2 < 7 ∧ (nb_Lay M26 → Q [(0, M26.1 617 l2)] M26)) ∧ (x25 ≠ 0 → (nb_Lay (nb_wr M26 603 11 x25) → Q [(0, (-1))] (nb_wr M26 603 11 x25)))))))))) :
    nb_W 193 0 [(20, 603), (0, l1), (0, l2), v3] [] M Q := by
  replace H := nb_Hw H
  refine nb_Wg (q_m_row_0 _ _ _ _ _ (by omega)) ?_
  refine nb_Gb ?_
  refine nb_Wg (q_m_good_0 _ _ (by omega)) ?_
  have W1 : nb_Lay (nb_wr M 603 0 0) := W.wr (fun w => (nb_nlit (by decide) (by decide)))
  refine nb_Gr ?_
  refine nb_Wg (q_m_good_1 _ _ (by omega)) ?_
  have W2 : nb_Lay (nb_wr (nb_wr M 603 0 0) 603 11 0) := W1.wr (fun w => (nb_nlit (by decide) (by decide)))
  refine nb_Gr ?_
  refine nb_Wg (q_m_good_2 _ _) ?_
  refine nb_Gs ?_
  show nb_W 193 1 [(20, 603), (0, l1), (0, l2), v3] [] (nb_wr (nb_wr M 603 0 0) 603 11 0) _
  refine nb_Wg (q_m_row_1 _ _ _ _ _ (by omega)) ?_
  refine nb_Gb ?_
  obtain ⟨p0_, p1_, H⟩ := H
  replace H := nb_Hw H
  have E3 : nb_rd (nb_wr (nb_wr M 603 0 0) 603 11 0) 603 14 = M.1 603 14 := nb_rdw (Or.inr (by decide)) (nb_rdw (Or.inr (by decide)) (nb_rd_1 _ _ _))
  refine nb_Wg (q_m_isStaff_0 _ _ _ (by omega)) ?_
  simp only [E3]
  clear E3
  refine nb_Gi (fun c37 => ?_) (fun c37 => ?_)
  · have H := nb_Hw ((nb_Hu H).1 c37)
    refine nb_Gr ?_
    refine nb_Wg (q_m_isStaff_4 _ _ _) ?_
    refine nb_Gr ?_
    have E4 : nb_i2z 0 = 0 := by decide
    refine nb_Wg (q_m_isStaff_5 _ _ _ _) ?_
    simp only [E4]
    clear E4
    refine nb_Gs ?_
    show nb_W 193 2 [(20, 603), (0, l1), (0, l2), v3] [(0, 0)] (nb_wr (nb_wr M 603 0 0) 603 11 0) _
    refine nb_Wg (q_m_row_2 _ _ _ _ _ _) ?_
    refine nb_Gt (by decide) ?_
    refine nb_Gr ?_
    refine nb_Wg (q_m_row_6 _ _ _ _ _ (by omega)) ?_
    refine nb_Gb ?_
    refine nb_Wg (q_m_no_0 _ _ _ (by omega)) ?_
    have W5 : nb_Lay (nb_wr (nb_wr (nb_wr M 603 0 0) 603 11 0) 603 11 1) := W2.wr (fun w => (nb_nlit (by decide) (by decide)))
    refine nb_Gr ?_
    refine nb_Wg (q_m_no_1 _ _ _) ?_
    refine nb_Gs ?_
    show nb_W 193 7 [(20, 603), (0, l1), (0, l2), v3] [(0, (-1))] (nb_wr (nb_wr (nb_wr M 603 0 0) 603 11 0) 603 11 1) _
    refine nb_Wg (q_m_row_7 _ _ _ _ _ _) ?_
    refine nb_Gs ?_
    exact nb_Hu H W5
  · have H := nb_Hw ((nb_Hu H).2 (by omega))
    have c37 : M.1 603 14 ≠ 0 := by omega
    refine nb_Gr ?_
    obtain ⟨p0_, p1_, H⟩ := H
    replace H := nb_Hw H
    have E6 : nb_rd (nb_wr (nb_wr M 603 0 0) 603 11 0) 603 15 = 606 := W2.m15
    have N7 : nb_ln (nb_wr (nb_wr M 603 0 0) 603 11 0) 606 = 347 := W2.lk (by decide) (by decide +kernel)
    have E8 : nb_rd (nb_wr (nb_wr M 603 0 0) 603 11 0) 606 4 = M.1 606 4 := nb_rdw (Or.inl (by decide)) (nb_rdw (Or.inl (by decide)) (nb_rd_1 _ _ _))
    have E9 : nb_sub (M.1 606 4) 1 = M.1 606 4 - 1 := nb_sub_eq (by omega) (by omega)
    refine nb_Wg (q_m_isStaff_1 _ _ _ (by omega) (by rw [E6]; first | done | omega) (by omega) (by rw [E6, N7]; first | done | omega)) ?_
    simp only [E6, E8, E9]
    clear E6 N7 E8 E9
    refine nb_Gb ?_
    refine nb_Wg (q_m_within_0 _ _ _ _) ?_
    refine nb_Gi (fun c36 => ?_) (fun c36 => ?_)
    · have H := nb_Hw ((nb_Hu H).1 c36)
      refine nb_Gr ?_
      refine nb_Wg (q_m_within_3 _ _ _ _) ?_
      refine nb_Gr ?_
      have E10 : nb_i2z 0 = 0 := by decide
      refine nb_Wg (q_m_within_4 _ _ _ _ _) ?_
      simp only [E10]
      clear E10
      refine nb_Gs ?_
      show nb_W 117 2 [(20, 603), (0, l1)] [(0, 0)] (nb_wr (nb_wr M 603 0 0) 603 11 0) _
      refine nb_Wg (q_m_isStaff_2 _ _ _ _) ?_
      refine nb_Gt (by decide) ?_
      refine nb_Gr ?_
      refine nb_Wg (q_m_isStaff_4 _ _ _) ?_
      refine nb_Gr ?_
      have E11 : nb_i2z 0 = 0 := by decide
      refine nb_Wg (q_m_isStaff_5 _ _ _ _) ?_
      simp only [E11]
      clear E11
      refine nb_Gs ?_
      show nb_W 193 2 [(20, 603), (0, l1), (0, l2), v3] [(0, 0)] (nb_wr (nb_wr M 603 0 0) 603 11 0) _
      refine nb_Wg (q_m_row_2 _ _ _ _ _ _) ?_
      refine nb_Gt (by decide) ?_
      refine nb_Gr ?_
      refine nb_Wg (q_m_row_6 _ _ _ _ _ (by omega)) ?_
      refine nb_Gb ?_
      refine nb_Wg (q_m_no_0 _ _ _ (by omega)) ?_
      have W12 : nb_Lay (nb_wr (nb_wr (nb_wr M 603 0 0) 603 11 0) 603 11 1) := W2.wr (fun w => (nb_nlit (by decide) (by decide)))
      refine nb_Gr ?_
      refine nb_Wg (q_m_no_1 _ _ _) ?_
      refine nb_Gs ?_
      show nb_W 193 7 [(20, 603), (0, l1), (0, l2), v3] [(0, (-1))] (nb_wr (nb_wr (nb_wr M 603 0 0) 603 11 0) 603 11 1) _
      refine nb_Wg (q_m_row_7 _ _ _ _ _ _) ?_
      refine nb_Gs ?_
      exact nb_Hu H W12
    · have H := nb_Hw ((nb_Hu H).2 (by omega))
      have c36 : 0 ≤ l1 := by omega
      refine nb_Gr ?_
      refine nb_Wg (q_m_within_1 _ _ _ _) ?_
      refine nb_Gi (fun c35 => ?_) (fun c35 => ?_)
      · have H := nb_Hw ((nb_Hu H).1 c35)
        refine nb_Gr ?_
        refine nb_Wg (q_m_within_3 _ _ _ _) ?_
        refine nb_Gr ?_
        have E13 : nb_i2z 0 = 0 := by decide
        refine nb_Wg (q_m_within_4 _ _ _ _ _) ?_
        simp only [E13]
        clear E13
        refine nb_Gs ?_
        show nb_W 117 2 [(20, 603), (0, l1)] [(0, 0)] (nb_wr (nb_wr M 603 0 0) 603 11 0) _
        refine nb_Wg (q_m_isStaff_2 _ _ _ _) ?_
        refine nb_Gt (by decide) ?_
        refine nb_Gr ?_
        refine nb_Wg (q_m_isStaff_4 _ _ _) ?_
        refine nb_Gr ?_
        have E14 : nb_i2z 0 = 0 := by decide
        refine nb_Wg (q_m_isStaff_5 _ _ _ _) ?_
        simp only [E14]
        clear E14
        refine nb_Gs ?_
        show nb_W 193 2 [(20, 603), (0, l1), (0, l2), v3] [(0, 0)] (nb_wr (nb_wr M 603 0 0) 603 11 0) _
        refine nb_Wg (q_m_row_2 _ _ _ _ _ _) ?_
        refine nb_Gt (by decide) ?_
        refine nb_Gr ?_
        refine nb_Wg (q_m_row_6 _ _ _ _ _ (by omega)) ?_
        refine nb_Gb ?_
        refine nb_Wg (q_m_no_0 _ _ _ (by omega)) ?_
        have W15 : nb_Lay (nb_wr (nb_wr (nb_wr M 603 0 0) 603 11 0) 603 11 1) := W2.wr (fun w => (nb_nlit (by decide) (by decide)))
        refine nb_Gr ?_
        refine nb_Wg (q_m_no_1 _ _ _) ?_
        refine nb_Gs ?_
        show nb_W 193 7 [(20, 603), (0, l1), (0, l2), v3] [(0, (-1))] (nb_wr (nb_wr (nb_wr M 603 0 0) 603 11 0) 603 11 1) _
        refine nb_Wg (q_m_row_7 _ _ _ _ _ _) ?_
        refine nb_Gs ?_
        exact nb_Hu H W15
      · have H := nb_Hw ((nb_Hu H).2 (by omega))
        have c35 : l1 ≤ M.1 606 4 - 1 := by omega
        refine nb_Gr ?_
        refine nb_Wg (q_m_within_2 _ _ _ _) ?_
        refine nb_Gr ?_
        have E16 : nb_i2z 1 = 1 := by decide
        refine nb_Wg (q_m_within_4 _ _ _ _ _) ?_
        simp only [E16]
        clear E16
        refine nb_Gs ?_
        show nb_W 117 2 [(20, 603), (0, l1)] [(0, 1)] (nb_wr (nb_wr M 603 0 0) 603 11 0) _
        refine nb_Wg (q_m_isStaff_2 _ _ _ _) ?_
        refine nb_Gf (by decide) ?_
        refine nb_Gr ?_
        refine nb_Wg (q_m_isStaff_3 _ _ _) ?_
        refine nb_Gr ?_
        have E17 : nb_i2z 1 = 1 := by decide
        refine nb_Wg (q_m_isStaff_5 _ _ _ _) ?_
        simp only [E17]
        clear E17
        refine nb_Gs ?_
        show nb_W 193 2 [(20, 603), (0, l1), (0, l2), v3] [(0, 1)] (nb_wr (nb_wr M 603 0 0) 603 11 0) _
        refine nb_Wg (q_m_row_2 _ _ _ _ _ _) ?_
        refine nb_Gf (by decide) ?_
        refine nb_Gr ?_
        obtain ⟨p0_, H⟩ := H
        replace H := nb_Hw H
        have E18 : nb_rd (nb_wr (nb_wr M 603 0 0) 603 11 0) 603 17 = 608 := W2.m17
        refine nb_Wg (q_m_row_3 _ _ _ _ _ (by omega)) ?_
        simp only [E18]
        clear E18
        rw [show nb_R nb_P 145 0 [(20, 603), (3, 608), (98, 0), (98, 0)] [] (nb_wr (nb_wr M 603 0 0) 603 11 0) = some ([(0, pu_cnt (M.1 608) 1 ((M.1 606) 5).toNat)], nb_wr (nb_wr M 603 0 0) 603 11 0) from (sp_m_manyWaiting W2 (by decide) (by decide) (W2.lk (by decide) (by decide +kernel)) (by first | assumption | omega | (simp [nb_wr_up, nb_up_1, nb_ud]; first | assumption | omega))).trans (by first | rfl | simp [nb_wr_up, nb_up_1, nb_up_up, nb_ud])]
        refine nb_Gp ?_
        show nb_W 193 4 [(20, 603), (0, l1), (0, l2), v3] [(0, pu_cnt (M.1 608) 1 ((M.1 606) 5).toNat), (0, 0), (0, l2)] (nb_wr (nb_wr M 603 0 0) 603 11 0) _
        obtain ⟨p0_, p1_, H⟩ := H
        replace H := nb_Hw H
        have E19 : nb_sub (pu_cnt (M.1 608) 1 ((M.1 606) 5).toNat) 1 = pu_cnt (M.1 608) 1 ((M.1 606) 5).toNat - 1 := nb_sub_eq (by omega) (by omega)
        refine nb_Wg (q_m_row_4 _ _ _ _ _ _ _ _) ?_
        simp only [E19]
        clear E19
        refine nb_Gb ?_
        refine nb_Wg (q_m_within_0 _ _ _ _) ?_
        refine nb_Gi (fun c34 => ?_) (fun c34 => ?_)
        · have H := nb_Hw ((nb_Hu H).1 c34)
          refine nb_Gr ?_
          refine nb_Wg (q_m_within_3 _ _ _ _) ?_
          refine nb_Gr ?_
          have E20 : nb_i2z 0 = 0 := by decide
          refine nb_Wg (q_m_within_4 _ _ _ _ _) ?_
          simp only [E20]
          clear E20
          refine nb_Gs ?_
          show nb_W 193 5 [(20, 603), (0, l1), (0, l2), v3] [(0, 0)] (nb_wr (nb_wr M 603 0 0) 603 11 0) _
          refine nb_Wg (q_m_row_5 _ _ _ _ _ _) ?_
          refine nb_Gt (by decide) ?_
          refine nb_Gr ?_
          refine nb_Wg (q_m_row_6 _ _ _ _ _ (by omega)) ?_
          refine nb_Gb ?_
          refine nb_Wg (q_m_no_0 _ _ _ (by omega)) ?_
          have W21 : nb_Lay (nb_wr (nb_wr (nb_wr M 603 0 0) 603 11 0) 603 11 1) := W2.wr (fun w => (nb_nlit (by decide) (by decide)))
          refine nb_Gr ?_
          refine nb_Wg (q_m_no_1 _ _ _) ?_
          refine nb_Gs ?_
          show nb_W 193 7 [(20, 603), (0, l1), (0, l2), v3] [(0, (-1))] (nb_wr (nb_wr (nb_wr M 603 0 0) 603 11 0) 603 11 1) _
          refine nb_Wg (q_m_row_7 _ _ _ _ _ _) ?_
          refine nb_Gs ?_
          exact nb_Hu H W21
        · have H := nb_Hw ((nb_Hu H).2 (by omega))
          have c34 : 0 ≤ l2 := by omega
          refine nb_Gr ?_
          refine nb_Wg (q_m_within_1 _ _ _ _) ?_
          refine nb_Gi (fun c33 => ?_) (fun c33 => ?_)
          · have H := nb_Hw ((nb_Hu H).1 c33)
            refine nb_Gr ?_
            refine nb_Wg (q_m_within_3 _ _ _ _) ?_
            refine nb_Gr ?_
            have E22 : nb_i2z 0 = 0 := by decide
            refine nb_Wg (q_m_within_4 _ _ _ _ _) ?_
            simp only [E22]
            clear E22
            refine nb_Gs ?_
            show nb_W 193 5 [(20, 603), (0, l1), (0, l2), v3] [(0, 0)] (nb_wr (nb_wr M 603 0 0) 603 11 0) _
            refine nb_Wg (q_m_row_5 _ _ _ _ _ _) ?_
            refine nb_Gt (by decide) ?_
            refine nb_Gr ?_
            refine nb_Wg (q_m_row_6 _ _ _ _ _ (by omega)) ?_
            refine nb_Gb ?_
            refine nb_Wg (q_m_no_0 _ _ _ (by omega)) ?_
            have W23 : nb_Lay (nb_wr (nb_wr (nb_wr M 603 0 0) 603 11 0) 603 11 1) := W2.wr (fun w => (nb_nlit (by decide) (by decide)))
            refine nb_Gr ?_
            refine nb_Wg (q_m_no_1 _ _ _) ?_
            refine nb_Gs ?_
            show nb_W 193 7 [(20, 603), (0, l1), (0, l2), v3] [(0, (-1))] (nb_wr (nb_wr (nb_wr M 603 0 0) 603 11 0) 603 11 1) _
            refine nb_Wg (q_m_row_7 _ _ _ _ _ _) ?_
            refine nb_Gs ?_
            exact nb_Hu H W23
          · have H := nb_Hw ((nb_Hu H).2 (by omega))
            have c33 : l2 ≤ pu_cnt (M.1 608) 1 ((M.1 606) 5).toNat - 1 := by omega
            refine nb_Gr ?_
            refine nb_Wg (q_m_within_2 _ _ _ _) ?_
            refine nb_Gr ?_
            have E24 : nb_i2z 1 = 1 := by decide
            refine nb_Wg (q_m_within_4 _ _ _ _ _) ?_
            simp only [E24]
            clear E24
            refine nb_Gs ?_
            show nb_W 193 5 [(20, 603), (0, l1), (0, l2), v3] [(0, 1)] (nb_wr (nb_wr M 603 0 0) 603 11 0) _
            refine nb_Wg (q_m_row_5 _ _ _ _ _ _) ?_
            refine nb_Gf (by decide) ?_
            refine nb_Gr ?_
            refine nb_Wg (q_m_row_8 _ _ _ _ _ (by omega)) ?_
            refine nb_Gb ?_
            refine nb_W.imp (nb_Hu H) (fun r M26 H => ?_)
            obtain ⟨x25, rfl, W27, H⟩ := H
            replace H := nb_Hw H
            show nb_W 193 9 [(20, 603), (0, l1), (0, l2), v3] [(0, x25)] M26 _
            refine nb_Wg (q_m_row_9 _ _ _ _ _ _) ?_
            refine nb_Gi (fun c32 => ?_) (fun c32 => ?_)
            · have H := nb_Hw ((nb_Hu H).1 c32)
              refine nb_Gr ?_
              obtain ⟨p0_, H⟩ := H
              replace H := nb_Hw H
              have E28 : nb_rd M26 603 32 = 617 := W27.m32
              have N29 : nb_ln M26 617 = 7 := W27.lk (by decide) (by decide +kernel)
              have E30 : nb_rd M26 617 l2 = M26.1 617 l2 := nb_rd_1 _ _ _
              refine nb_Wg (q_m_row_12 _ _ _ _ _ (by omega) (by rw [E28]; first | done | omega) (by omega) (by rw [E28, N29]; first | done | omega)) ?_
              simp only [E28, E30]
              clear E28 N29 E30
              refine nb_Gr ?_
              refine nb_Wg (q_m_row_13 _ _ _ _ _ _) ?_
              refine nb_Gs ?_
              exact nb_Hu H W27
            · have H := nb_Hw ((nb_Hu H).2 (by omega))
              have c32 : x25 ≠ 0 := by omega
              refine nb_Gr ?_
              refine nb_Wg (q_m_row_10 _ _ _ _ _ (by omega)) ?_
              refine nb_Gb ?_
              refine nb_Wg (q_m_no_0 _ _ _ (by omega)) ?_
              have W31 : nb_Lay (nb_wr M26 603 11 x25) := W27.wr (fun w => (nb_nlit (by decide) (by decide)))
              refine nb_Gr ?_
              refine nb_Wg (q_m_no_1 _ _ _) ?_
              refine nb_Gs ?_
              show nb_W 193 11 [(20, 603), (0, l1), (0, l2), (0, x25)] [(0, (-1))] (nb_wr M26 603 11 x25) _
              refine nb_Wg (q_m_row_11 _ _ _ _ _ _) ?_
              refine nb_Gr ?_
              refine nb_Wg (q_m_row_13 _ _ _ _ _ _) ?_
              refine nb_Gs ?_
              exact nb_Hu H W31

theorem w_m_rowSum_0 {l1 : Int} {v2 : nb_V} {M : nb_M} {Q : List nb_V → nb_M → Prop} (W : nb_Lay M) (H : nb_W 192 0 [(20, 603), (0, l1), (98, 0)] [] (nb_wr (nb_wr M 603 0 0) 603 11 0) (fun r M4 => ∃ x3 : Int, r = [(0, x3)] ∧ nb_Lay M4 ∧ (x3 = 0 → (nb_Lay M4 → Q [(0, M4.1 603 33)] M4)) ∧ (x3 ≠ 0 → (nb_Lay (nb_wr M4 603 11 x3) → Q [(0, (-1))] (nb_wr M4 603 11 x3))))) :
    nb_W 194 0 [(20, 603), (0, l1), v2] [] M Q := by
  replace H := nb_Hw H
  refine nb_Wg (q_m_rowSum_0 _ _ _ _ (by omega)) ?_
  refine nb_Gb ?_
  refine nb_Wg (q_m_good_0 _ _ (by omega)) ?_
  have W1 : nb_Lay (nb_wr M 603 0 0) := W.wr (fun w => (nb_nlit (by decide) (by decide)))
  refine nb_Gr ?_
  refine nb_Wg (q_m_good_1 _ _ (by omega)) ?_
  have W2 : nb_Lay (nb_wr (nb_wr M 603 0 0) 603 11 0) := W1.wr (fun w => (nb_nlit (by decide) (by decide)))
  refine nb_Gr ?_
  refine nb_Wg (q_m_good_2 _ _) ?_
  refine nb_Gs ?_
  show nb_W 194 1 [(20, 603), (0, l1), v2] [] (nb_wr (nb_wr M 603 0 0) 603 11 0) _
  refine nb_Wg (q_m_rowSum_1 _ _ _ _ (by omega)) ?_
  refine nb_Gb ?_
  refine nb_W.imp (nb_Hu H) (fun r M4 H => ?_)
  obtain ⟨x3, rfl, W5, H⟩ := H
  replace H := nb_Hw H
  show nb_W 194 2 [(20, 603), (0, l1), v2] [(0, x3)] M4 _
  refine nb_Wg (q_m_rowSum_2 _ _ _ _ _) ?_
  refine nb_Gi (fun c8 => ?_) (fun c8 => ?_)
  · have H := nb_Hw ((nb_Hu H).1 c8)
    refine nb_Gr ?_
    have E6 : nb_rd M4 603 33 = M4.1 603 33 := nb_rd_1 _ _ _
    refine nb_Wg (q_m_rowSum_5 _ _ _ _ (by omega)) ?_
    simp only [E6]
    clear E6
    refine nb_Gr ?_
    refine nb_Wg (q_m_rowSum_6 _ _ _ _ _) ?_
    refine nb_Gs ?_
    exact nb_Hu H W5
  · have H := nb_Hw ((nb_Hu H).2 (by omega))
    have c8 : x3 ≠ 0 := by omega
    refine nb_Gr ?_
    refine nb_Wg (q_m_rowSum_3 _ _ _ _ (by omega)) ?_
    refine nb_Gb ?_
    refine nb_Wg (q_m_no_0 _ _ _ (by omega)) ?_
    have W7 : nb_Lay (nb_wr M4 603 11 x3) := W5.wr (fun w => (nb_nlit (by decide) (by decide)))
    refine nb_Gr ?_
    refine nb_Wg (q_m_no_1 _ _ _) ?_
    refine nb_Gs ?_
    show nb_W 194 4 [(20, 603), nb_clr ((0, l1)), (0, x3)] [(0, (-1))] (nb_wr M4 603 11 x3) _
    refine nb_Wg (q_m_rowSum_4 _ _ _ _ _) ?_
    refine nb_Gr ?_
    refine nb_Wg (q_m_rowSum_6 _ _ _ _ _) ?_
    refine nb_Gs ?_
    exact nb_Hu H W7

theorem w_m_rowWhy_0 {l1 : Int} {v2 : nb_V} {M : nb_M} {Q : List nb_V → nb_M → Prop} (W : nb_Lay M) (H : 0 ≤ M.1 603 14 ∧ M.1 603 14 ≤ 1 ∧ (M.1 603 14 = 0 → (nb_Lay M → Q [(0, 1)] M)) ∧ (M.1 603 14 ≠ 0 → 0 ≤ M.1 606 4 ∧ M.1 606 4 ≤ 3 ∧ (l1 < 0 → (nb_Lay M → Q [(0, 1)] M)) ∧ (0 ≤ l1 → (M.1 606 4 - 1 < l1 → (nb_Lay M → Q [(0, 1)] M)) ∧ (l1 ≤ M.1 606 4 - 1 → pu_Rr (M.1 606) ∧ (7 < pu_cnt (M.1 608) 1 ((M.1 606) 5).toNat → (nb_Lay M → Q [(0, 3)] M)) ∧ (pu_cnt (M.1 608) 1 ((M.1 606) 5).toNat ≤ 7 → -2147483648 ≤ M.1 608 (92 + 4 * l1 + 3) - 1 ∧ M.1 608 (92 + 4 * l1 + 3) - 1 ≤ 2147483647 ∧ nb_W 184 0 [(20, 603), (0, 0), (0, pu_cnt (M.1 608) 1 ((M.1 606) 5).toNat), (0, 0), (0, M.1 608 (92 + 4 * l1 + 3) - 1), (0, 0), (0, 0), (98, 0), (98, 0)] [] (nb_wr M 603 33 1000000) (fun r M23 => r = [] ∧ nb_Lay M23 ∧ (nb_Lay M23 → Q [(0, 0)] M23))))))) :
    nb_W 192 0 [(20, 603), (0, l1), v2] [] M Q := by
  replace H := nb_Hw H
  refine nb_Wg (q_m_rowWhy_0 _ _ _ _ (by omega)) ?_
  refine nb_Gb ?_
  obtain ⟨p0_, p1_, H⟩ := H
  replace H := nb_Hw H
  have E1 : nb_rd M 603 14 = M.1 603 14 := nb_rd_1 _ _ _
  refine nb_Wg (q_m_isStaff_0 _ _ _ (by omega)) ?_
  simp only [E1]
  clear E1
  refine nb_Gi (fun c28 => ?_) (fun c28 => ?_)
  · have H := nb_Hw ((nb_Hu H).1 c28)
    refine nb_Gr ?_
    refine nb_Wg (q_m_isStaff_4 _ _ _) ?_
    refine nb_Gr ?_
    have E2 : nb_i2z 0 = 0 := by decide
    refine nb_Wg (q_m_isStaff_5 _ _ _ _) ?_
    simp only [E2]
    clear E2
    refine nb_Gs ?_
    show nb_W 192 1 [(20, 603), (0, l1), v2] [(0, 0)] M _
    refine nb_Wg (q_m_rowWhy_1 _ _ _ _ _) ?_
    refine nb_Gt (by decide) ?_
    refine nb_Gr ?_
    refine nb_Wg (q_m_rowWhy_2 _ _ _ _) ?_
    refine nb_Gs ?_
    exact nb_Hu H W
  · have H := nb_Hw ((nb_Hu H).2 (by omega))
    have c28 : M.1 603 14 ≠ 0 := by omega
    refine nb_Gr ?_
    obtain ⟨p0_, p1_, H⟩ := H
    replace H := nb_Hw H
    have E3 : nb_rd M 603 15 = 606 := W.m15
    have N4 : nb_ln M 606 = 347 := W.lk (by decide) (by decide +kernel)
    have E5 : nb_rd M 606 4 = M.1 606 4 := nb_rd_1 _ _ _
    have E6 : nb_sub (M.1 606 4) 1 = M.1 606 4 - 1 := nb_sub_eq (by omega) (by omega)
    refine nb_Wg (q_m_isStaff_1 _ _ _ (by omega) (by rw [E3]; first | done | omega) (by omega) (by rw [E3, N4]; first | done | omega)) ?_
    simp only [E3, E5, E6]
    clear E3 N4 E5 E6
    refine nb_Gb ?_
    refine nb_Wg (q_m_within_0 _ _ _ _) ?_
    refine nb_Gi (fun c27 => ?_) (fun c27 => ?_)
    · have H := nb_Hw ((nb_Hu H).1 c27)
      refine nb_Gr ?_
      refine nb_Wg (q_m_within_3 _ _ _ _) ?_
      refine nb_Gr ?_
      have E7 : nb_i2z 0 = 0 := by decide
      refine nb_Wg (q_m_within_4 _ _ _ _ _) ?_
      simp only [E7]
      clear E7
      refine nb_Gs ?_
      show nb_W 117 2 [(20, 603), (0, l1)] [(0, 0)] M _
      refine nb_Wg (q_m_isStaff_2 _ _ _ _) ?_
      refine nb_Gt (by decide) ?_
      refine nb_Gr ?_
      refine nb_Wg (q_m_isStaff_4 _ _ _) ?_
      refine nb_Gr ?_
      have E8 : nb_i2z 0 = 0 := by decide
      refine nb_Wg (q_m_isStaff_5 _ _ _ _) ?_
      simp only [E8]
      clear E8
      refine nb_Gs ?_
      show nb_W 192 1 [(20, 603), (0, l1), v2] [(0, 0)] M _
      refine nb_Wg (q_m_rowWhy_1 _ _ _ _ _) ?_
      refine nb_Gt (by decide) ?_
      refine nb_Gr ?_
      refine nb_Wg (q_m_rowWhy_2 _ _ _ _) ?_
      refine nb_Gs ?_
      exact nb_Hu H W
    · have H := nb_Hw ((nb_Hu H).2 (by omega))
      have c27 : 0 ≤ l1 := by omega
      refine nb_Gr ?_
      refine nb_Wg (q_m_within_1 _ _ _ _) ?_
      refine nb_Gi (fun c26 => ?_) (fun c26 => ?_)
      · have H := nb_Hw ((nb_Hu H).1 c26)
        refine nb_Gr ?_
        refine nb_Wg (q_m_within_3 _ _ _ _) ?_
        refine nb_Gr ?_
        have E9 : nb_i2z 0 = 0 := by decide
        refine nb_Wg (q_m_within_4 _ _ _ _ _) ?_
        simp only [E9]
        clear E9
        refine nb_Gs ?_
        show nb_W 117 2 [(20, 603), (0, l1)] [(0, 0)] M _
        refine nb_Wg (q_m_isStaff_2 _ _ _ _) ?_
        refine nb_Gt (by decide) ?_
        refine nb_Gr ?_
        refine nb_Wg (q_m_isStaff_4 _ _ _) ?_
        refine nb_Gr ?_
        have E10 : nb_i2z 0 = 0 := by decide
        refine nb_Wg (q_m_isStaff_5 _ _ _ _) ?_
        simp only [E10]
        clear E10
        refine nb_Gs ?_
        show nb_W 192 1 [(20, 603), (0, l1), v2] [(0, 0)] M _
        refine nb_Wg (q_m_rowWhy_1 _ _ _ _ _) ?_
        refine nb_Gt (by decide) ?_
        refine nb_Gr ?_
        refine nb_Wg (q_m_rowWhy_2 _ _ _ _) ?_
        refine nb_Gs ?_
        exact nb_Hu H W
      · have H := nb_Hw ((nb_Hu H).2 (by omega))
        have c26 : l1 ≤ M.1 606 4 - 1 := by omega
        refine nb_Gr ?_
        refine nb_Wg (q_m_within_2 _ _ _ _) ?_
        refine nb_Gr ?_
        have E11 : nb_i2z 1 = 1 := by decide
        refine nb_Wg (q_m_within_4 _ _ _ _ _) ?_
        simp only [E11]
        clear E11
        refine nb_Gs ?_
        show nb_W 117 2 [(20, 603), (0, l1)] [(0, 1)] M _
        refine nb_Wg (q_m_isStaff_2 _ _ _ _) ?_
        refine nb_Gf (by decide) ?_
        refine nb_Gr ?_
        refine nb_Wg (q_m_isStaff_3 _ _ _) ?_
        refine nb_Gr ?_
        have E12 : nb_i2z 1 = 1 := by decide
        refine nb_Wg (q_m_isStaff_5 _ _ _ _) ?_
        simp only [E12]
        clear E12
        refine nb_Gs ?_
        show nb_W 192 1 [(20, 603), (0, l1), v2] [(0, 1)] M _
        refine nb_Wg (q_m_rowWhy_1 _ _ _ _ _) ?_
        refine nb_Gf (by decide) ?_
        refine nb_Gr ?_
        obtain ⟨p0_, H⟩ := H
        replace H := nb_Hw H
        have E13 : nb_rd M 603 17 = 608 := W.m17
        refine nb_Wg (q_m_rowWhy_3 _ _ _ _ (by omega)) ?_
        simp only [E13]
        clear E13
        rw [show nb_R nb_P 145 0 [(20, 603), (3, 608), (98, 0), (98, 0)] [] M = some ([(0, pu_cnt (M.1 608) 1 ((M.1 606) 5).toNat)], M) from (sp_m_manyWaiting W (by decide) (by decide) (W.lk (by decide) (by decide +kernel)) (by first | assumption | omega | (simp [nb_wr_up, nb_up_1, nb_ud]; first | assumption | omega))).trans (by first | rfl | simp [nb_wr_up, nb_up_1, nb_up_up, nb_ud])]
        refine nb_Gp ?_
        show nb_W 192 4 [(20, 603), (0, l1), v2] [(0, pu_cnt (M.1 608) 1 ((M.1 606) 5).toNat)] M _
        refine nb_Wg (q_m_rowWhy_4 _ _ _ _ _) ?_
        refine nb_Gi (fun c25 => ?_) (fun c25 => ?_)
        · have H := nb_Hw ((nb_Hu H).1 c25)
          refine nb_Gr ?_
          refine nb_Wg (q_m_rowWhy_5 _ _ _ _) ?_
          refine nb_Gs ?_
          exact nb_Hu H W
        · have H := nb_Hw ((nb_Hu H).2 (by omega))
          have c25 : pu_cnt (M.1 608) 1 ((M.1 606) 5).toNat ≤ 7 := by omega
          refine nb_Gr ?_
          refine nb_Wg (q_m_rowWhy_6 _ _ _ _ (by omega)) ?_
          have W14 : nb_Lay (nb_wr M 603 33 1000000) := W.wr (fun w => (nb_nlit (by decide) (by decide)))
          refine nb_Gr ?_
          obtain ⟨p0_, p1_, H⟩ := H
          replace H := nb_Hw H
          have E15 : nb_rd (nb_wr M 603 33 1000000) 603 17 = 608 := W14.m17
          have E16 : nb_mul 4 l1 = 4 * l1 := nb_mul_eq (by omega) (by omega)
          have E17 : nb_add 92 (4 * l1) = 92 + 4 * l1 := (nb_add_eq (x := 92) (y := 4 * l1) (by omega) (by omega)).trans (by omega)
          have E18 : nb_add (92 + 4 * l1) 3 = 92 + 4 * l1 + 3 := nb_add_eq (by omega) (by omega)
          have N19 : nb_ln (nb_wr M 603 33 1000000) 608 = 108 := W14.lk (by decide) (by decide +kernel)
          have E20 : nb_rd (nb_wr M 603 33 1000000) 608 (92 + 4 * l1 + 3) = M.1 608 (92 + 4 * l1 + 3) := nb_rdw (Or.inl (by decide)) (nb_rd_1 _ _ _)
          have E21 : nb_sub (M.1 608 (92 + 4 * l1 + 3)) 1 = M.1 608 (92 + 4 * l1 + 3) - 1 := nb_sub_eq (by omega) (by omega)
          refine nb_Wg (q_m_rowWhy_7 _ _ _ _ (by omega) (by rw [E15]; first | done | omega) (by rw [E16, E17, E18]; first | done | omega) (by rw [E16, E17, E18, E15, N19]; first | done | omega)) ?_
          simp only [E15, E16, E17, E18, E20, E21]
          clear E15 E16 E17 E18 N19 E20 E21
          refine nb_Gb ?_
          refine nb_W.imp (nb_Hu H) (fun r M23 H => ?_)
          obtain ⟨rfl, W24, H⟩ := H
          replace H := nb_Hw H
          show nb_W 192 8 [(20, 603), (0, l1), (0, pu_cnt (M.1 608) 1 ((M.1 606) 5).toNat)] [] M23 _
          refine nb_Wg (q_m_rowWhy_8 _ _ _ _) ?_
          refine nb_Gs ?_
          exact nb_Hu H W24

theorem w_m_rowFrom0_0 {l1 l2 l3 l4 l5 l6 : Int} {v7 v8 : nb_V} {M : nb_M} {Q : List nb_V → nb_M → Prop} (W : nb_Lay M) (H : (l6 < M.1 603 33 → (l1 = l2 → nb_W 86 0 [(3, 616), (0, 0), (3, 617), (0, 0), (0, l2), (98, 0)] [] (nb_wr M 603 33 l6) (fun r M6 => r = [] ∧ nb_Lay M6 ∧ (nb_Lay M6 → Q [] M6))) ∧ (l1 ≠ l2 → nb_W 184 7 [(20, 603), (0, l1), (0, l2), (0, l3), (0, l4), (0, l5), (0, l6), (0, 0), v8] [] M Q)) ∧ (M.1 603 33 ≤ l6 → (nb_Lay M → Q [] M))) :
    nb_W 184 0 [(20, 603), (0, l1), (0, l2), (0, l3), (0, l4), (0, l5), (0, l6), v7, v8] [] M Q := by
  replace H := nb_Hw H
  have E1 : nb_rd M 603 33 = M.1 603 33 := nb_rd_1 _ _ _
  refine nb_Wg (q_m_rowFrom0_0 _ _ _ _ _ _ _ _ _ _ (by omega)) ?_
  simp only [E1]
  clear E1
  refine nb_Gi (fun c9 => ?_) (fun c9 => ?_)
  · have H := nb_Hw ((nb_Hu H).1 c9)
    refine nb_Gr ?_
    refine nb_Wg (q_m_rowFrom0_2 _ _ _ _ _ _ _ _ _ _) ?_
    refine nb_Gi (fun c8 => ?_) (fun c8 => ?_)
    · have H := nb_Hw ((nb_Hu H).1 c8)
      refine nb_Gr ?_
      refine nb_Wg (q_m_rowFrom0_3 _ _ _ _ _ _ _ _ _ _ (by omega)) ?_
      have W2 : nb_Lay (nb_wr M 603 33 l6) := W.wr (fun w => (nb_nlit (by decide) (by decide)))
      refine nb_Gr ?_
      have E3 : nb_rd (nb_wr M 603 33 l6) 603 31 = 616 := W2.m31
      have E4 : nb_rd (nb_wr M 603 33 l6) 603 32 = 617 := W2.m32
      refine nb_Wg (q_m_rowFrom0_4 _ _ _ _ _ _ _ _ _ _ (by omega)) ?_
      simp only [E3, E4]
      clear E3 E4
      refine nb_Gb ?_
      refine nb_W.imp (nb_Hu H) (fun r M6 H => ?_)
      obtain ⟨rfl, W7, H⟩ := H
      replace H := nb_Hw H
      show nb_W 184 5 [(20, 603), (0, l1), (0, l2), (0, l3), (0, l4), (0, l5), (0, l6), v7, v8] [] M6 _
      refine nb_Wg (q_m_rowFrom0_5 _ _ _ _ _ _ _ _ _ _) ?_
      refine nb_Gs ?_
      exact nb_Hu H W7
    · have H := nb_Hw ((nb_Hu H).2 (by omega))
      have c8 : l1 ≠ l2 := by omega
      refine nb_Gr ?_
      refine nb_Wg (q_m_rowFrom0_6 _ _ _ _ _ _ _ _ _ _) ?_
      refine nb_Gr ?_
      exact nb_Hu H
  · have H := nb_Hw ((nb_Hu H).2 (by omega))
    have c9 : M.1 603 33 ≤ l6 := by omega
    refine nb_Gr ?_
    refine nb_Wg (q_m_rowFrom0_1 _ _ _ _ _ _ _ _ _ _) ?_
    refine nb_Gs ?_
    exact nb_Hu H W

theorem w_m_rowFrom0_7 {l1 l2 l3 l4 l5 l6 l7 : Int} {v8 : nb_V} {M : nb_M} {Q : List nb_V → nb_M → Prop} (W : nb_Lay M)  (b0_ : 0 ≤ l1 ∧ l1 ≤ 7) (b1_ : 0 ≤ l7 ∧ l7 ≤ 10) (b2_ : 0 ≤ l5 ∧ l5 ≤ 31500) (b3_ : 0 ≤ l6 ∧ l6 ≤ 220500) (b4_ : 0 ≤ l3 ∧ l3 ≤ 1023) (H : 0 ≤ M.1 606 5 ∧ M.1 606 5 ≤ 10 ∧ (l7 < M.1 606 5 → (nb_and (nb_shr l3 l7) 1 = 1 → nb_W 184 7 [(20, 603), (0, l1), (0, l2), (0, l3), (0, l4), (0, l5), (0, l6), (0, l7 + 1), v8] [] M Q) ∧ (nb_and (nb_shr l3 l7) 1 ≠ 1 → (M.1 608 (12 + 8 * l7) = 1 → pu_Rr (M.1 606) ∧ -1 ≤ l4 ∧ l4 ≤ 9 ∧ 0 ≤ l7 ∧ l7 ≤ 9 ∧ -2147483648 ≤ l5 + pu_tb (M.1 606) l4 l7 ∧ l5 + pu_tb (M.1 606) l4 l7 ≤ 2147483647 ∧ 0 ≤ l1 ∧ l1 < 7 ∧ -2147483648 ≤ l6 + (l5 + pu_tb (M.1 606) l4 l7) ∧ l6 + (l5 + pu_tb (M.1 606) l4 l7) ≤ 2147483647 ∧ nb_W 185 0 [(20, 603), (0, l1 + 1), (0, l2), (0, nb_or l3 (nb_shl 1 l7)), (0, l7), (0, l5 + pu_tb (M.1 606) l4 l7), (0, l6 + (l5 + pu_tb (M.1 606) l4 l7)), (98, 0), (98, 0)] [] (nb_wr M 616 l1 l7) (fun r M21 => r = [] ∧ nb_Lay M21 ∧ nb_W 184 7 [(20, 603), (0, l1), (0, l2), (0, l3), (0, l4), (0, l5), (0, l6), (0, l7 + 1), (0, l5 + pu_tb (M.1 606) l4 l7)] [] M21 Q)) ∧ (M.1 608 (12 + 8 * l7) ≠ 1 → nb_W 184 7 [(20, 603), (0, l1), (0, l2), (0, l3), (0, l4), (0, l5), (0, l6), (0, l7 + 1), v8] [] M Q))) ∧ (M.1 606 5 ≤ l7 → (nb_Lay M → Q [] M))) :
    nb_W 184 7 [(20, 603), (0, l1), (0, l2), (0, l3), (0, l4), (0, l5), (0, l6), (0, l7), v8] [] M Q := by
  replace H := nb_Hw H
  obtain ⟨p0_, p1_, H⟩ := H
  replace H := nb_Hw H
  have E1 : nb_rd M 603 15 = 606 := W.m15
  have N2 : nb_ln M 606 = 347 := W.lk (by decide) (by decide +kernel)
  have E3 : nb_rd M 606 5 = M.1 606 5 := nb_rd_1 _ _ _
  refine nb_Wg (q_m_rowFrom0_7 _ _ _ _ _ _ _ _ _ _ (by omega) (by rw [E1]; first | done | omega) (by omega) (by rw [E1, N2]; first | done | omega)) ?_
  simp only [E1, E3]
  clear E1 N2 E3
  refine nb_Gi (fun c28 => ?_) (fun c28 => ?_)
  · have H := nb_Hw ((nb_Hu H).1 c28)
    refine nb_Gr ?_
    refine nb_Wg (q_m_rowFrom0_8 _ _ _ _ _ _ _ _ _ _) ?_
    refine nb_Gb ?_
    refine nb_Wg (q_m_hasBit_0 _ _ _) ?_
    refine nb_Gi (fun c27 => ?_) (fun c27 => ?_)
    · have H := nb_Hw ((nb_Hu H).1 c27)
      refine nb_Gr ?_
      refine nb_Wg (q_m_hasBit_1 _ _ _) ?_
      refine nb_Gr ?_
      have E4 : nb_i2z 1 = 1 := by decide
      refine nb_Wg (q_m_hasBit_3 _ _ _ _) ?_
      simp only [E4]
      clear E4
      refine nb_Gs ?_
      show nb_W 184 9 [(20, 603), (0, l1), (0, l2), (0, l3), (0, l4), (0, l5), (0, l6), (0, l7), v8] [(0, 1)] M _
      refine nb_Wg (q_m_rowFrom0_9 _ _ _ _ _ _ _ _ _ _ _) ?_
      refine nb_Gf (by decide) ?_
      refine nb_Gr ?_
      have E5 : nb_add l7 1 = l7 + 1 := nb_add_eq (by omega) (by omega)
      refine nb_Wg (q_m_rowFrom0_16 _ _ _ _ _ _ _ _ _ _) ?_
      simp only [E5]
      clear E5
      refine nb_Gr ?_
      exact nb_Hu H
    · have H := nb_Hw ((nb_Hu H).2 (by omega))
      have c27 : nb_and (nb_shr l3 l7) 1 ≠ 1 := by omega
      refine nb_Gr ?_
      refine nb_Wg (q_m_hasBit_2 _ _ _) ?_
      refine nb_Gr ?_
      have E6 : nb_i2z 0 = 0 := by decide
      refine nb_Wg (q_m_hasBit_3 _ _ _ _) ?_
      simp only [E6]
      clear E6
      refine nb_Gs ?_
      show nb_W 184 9 [(20, 603), (0, l1), (0, l2), (0, l3), (0, l4), (0, l5), (0, l6), (0, l7), v8] [(0, 0)] M _
      refine nb_Wg (q_m_rowFrom0_9 _ _ _ _ _ _ _ _ _ _ _) ?_
      refine nb_Gt (by decide) ?_
      refine nb_Gr ?_
      have E7 : nb_rd M 603 17 = 608 := W.m17
      refine nb_Wg (q_m_rowFrom0_10 _ _ _ _ _ _ _ _ _ _ (by omega)) ?_
      simp only [E7]
      clear E7
      refine nb_Gb ?_
      refine nb_Wg (q_m_isWaiting_0 _ _ _) ?_
      refine nb_Gb ?_
      have E8 : nb_mul 8 l7 = 8 * l7 := nb_mul_eq (by omega) (by omega)
      have E9 : nb_add 12 (8 * l7) = 12 + 8 * l7 := (nb_add_eq (x := 12) (y := 8 * l7) (by omega) (by omega)).trans (by omega)
      have E10 : nb_add (12 + 8 * l7) 0 = 12 + 8 * l7 := (nb_add_eq (x := 12 + 8 * l7) (y := 0) (by omega) (by omega)).trans (by omega)
      have N11 : nb_ln M 608 = 108 := W.lk (by decide) (by decide +kernel)
      have E12 : nb_rd M 608 (12 + 8 * l7) = M.1 608 (12 + 8 * l7) := nb_rd_1 _ _ _
      refine nb_Wg (q_m_its_0 _ _ _ _ (by omega) (by rw [E8, E9, E10]; first | done | omega) (by rw [E8, E9, E10, N11]; first | done | omega)) ?_
      simp only [E8, E9, E10, E12]
      clear E8 E9 E10 N11 E12
      refine nb_Gs ?_
      show nb_W 126 1 [(3, 608), (0, l7)] [(0, M.1 608 (12 + 8 * l7))] M _
      refine nb_Wg (q_m_isWaiting_1 _ _ _ _) ?_
      refine nb_Gi (fun c26 => ?_) (fun c26 => ?_)
      · have H := nb_Hw ((nb_Hu H).1 c26)
        refine nb_Gr ?_
        refine nb_Wg (q_m_isWaiting_2 _ _ _) ?_
        refine nb_Gr ?_
        have E13 : nb_i2z 1 = 1 := by decide
        refine nb_Wg (q_m_isWaiting_4 _ _ _ _) ?_
        simp only [E13]
        clear E13
        refine nb_Gs ?_
        show nb_W 184 11 [(20, 603), (0, l1), (0, l2), (0, l3), (0, l4), (0, l5), (0, l6), (0, l7), v8] [(0, 1)] M _
        refine nb_Wg (q_m_rowFrom0_11 _ _ _ _ _ _ _ _ _ _ _) ?_
        refine nb_Gf (by decide) ?_
        refine nb_Gr ?_
        obtain ⟨p0_, p1_, p2_, p3_, p4_, H⟩ := H
        replace H := nb_Hw H
        refine nb_Wg (q_m_rowFrom0_13 _ _ _ _ _ _ _ _ _ _ (by omega)) ?_
        rw [show nb_R nb_P 129 0 [(20, 603), (0, l4), (0, l7), (98, 0), (98, 0), (98, 0), (98, 0)] [] M = some ([(0, pu_tb (M.1 606) l4 l7)], M) from (sp_m_timeBehind W (by first | assumption | omega | (simp [nb_wr_up, nb_up_1, nb_ud]; first | assumption | omega)) (by omega) (by omega)).trans (by first | rfl | simp [nb_wr_up, nb_up_1, nb_up_up, nb_ud])]
        refine nb_Gp ?_
        show nb_W 184 14 [(20, 603), (0, l1), (0, l2), (0, l3), (0, l4), (0, l5), (0, l6), (0, l7), v8] [(0, pu_tb (M.1 606) l4 l7), (0, l5)] M _
        obtain ⟨p0_, p1_, p2_, p3_, H⟩ := H
        replace H := nb_Hw H
        have E14 : nb_add l5 (pu_tb (M.1 606) l4 l7) = l5 + pu_tb (M.1 606) l4 l7 := (nb_add_eq (x := l5) (y := pu_tb (M.1 606) l4 l7) (by omega) (by omega)).trans (by omega)
        have E15 : nb_rd M 603 31 = 616 := W.m31
        have N16 : nb_ln M 616 = 7 := W.lk (by decide) (by decide +kernel)
        refine nb_Wg (q_m_rowFrom0_14 _ _ _ _ _ _ _ _ _ _ _ _ (by omega) (by rw [E15]; first | done | omega) (by rw [E15]; first | done | omega) (by omega) (by rw [E15, N16]; first | done | omega)) ?_
        simp only [E14, E15]
        clear E14 E15 N16
        have W17 : nb_Lay (nb_wr M 616 l1 l7) := W.wr (fun w => (nb_nnum (by decide) (by decide)))
        refine nb_Gr ?_
        obtain ⟨p0_, p1_, H⟩ := H
        replace H := nb_Hw H
        have E18 : nb_add l1 1 = l1 + 1 := nb_add_eq (by omega) (by omega)
        have E19 : nb_add l6 (l5 + pu_tb (M.1 606) l4 l7) = l6 + (l5 + pu_tb (M.1 606) l4 l7) := nb_add_eq (by omega) (by omega)
        refine nb_Wg (q_m_rowFrom0_15 _ _ _ _ _ _ _ _ _ _ (by omega)) ?_
        simp only [E18, E19]
        clear E18 E19
        refine nb_Gb ?_
        refine nb_W.imp (nb_Hu H) (fun r M21 H => ?_)
        obtain ⟨rfl, W22, H⟩ := H
        replace H := nb_Hw H
        show nb_W 184 16 [(20, 603), (0, l1), (0, l2), (0, l3), (0, l4), (0, l5), (0, l6), (0, l7), (0, l5 + pu_tb (M.1 606) l4 l7)] [] M21 _
        have E23 : nb_add l7 1 = l7 + 1 := nb_add_eq (by omega) (by omega)
        refine nb_Wg (q_m_rowFrom0_16 _ _ _ _ _ _ _ _ _ _) ?_
        simp only [E23]
        clear E23
        refine nb_Gr ?_
        exact nb_Hu H
      · have H := nb_Hw ((nb_Hu H).2 (by omega))
        have c26 : M.1 608 (12 + 8 * l7) ≠ 1 := by omega
        refine nb_Gr ?_
        refine nb_Wg (q_m_isWaiting_3 _ _ _) ?_
        refine nb_Gr ?_
        have E24 : nb_i2z 0 = 0 := by decide
        refine nb_Wg (q_m_isWaiting_4 _ _ _ _) ?_
        simp only [E24]
        clear E24
        refine nb_Gs ?_
        show nb_W 184 11 [(20, 603), (0, l1), (0, l2), (0, l3), (0, l4), (0, l5), (0, l6), (0, l7), v8] [(0, 0)] M _
        refine nb_Wg (q_m_rowFrom0_11 _ _ _ _ _ _ _ _ _ _ _) ?_
        refine nb_Gt (by decide) ?_
        refine nb_Gr ?_
        refine nb_Wg (q_m_rowFrom0_12 _ _ _ _ _ _ _ _ _ _) ?_
        refine nb_Gr ?_
        have E25 : nb_add l7 1 = l7 + 1 := nb_add_eq (by omega) (by omega)
        refine nb_Wg (q_m_rowFrom0_16 _ _ _ _ _ _ _ _ _ _) ?_
        simp only [E25]
        clear E25
        refine nb_Gr ?_
        exact nb_Hu H
  · have H := nb_Hw ((nb_Hu H).2 (by omega))
    have c28 : M.1 606 5 ≤ l7 := by omega
    refine nb_Gr ?_
    refine nb_Wg (q_m_rowFrom0_17 _ _ _ _ _ _ _ _ _ _) ?_
    refine nb_Gs ?_
    exact nb_Hu H W

theorem w_m_rowFrom1_0 {l1 l2 l3 l4 l5 l6 : Int} {v7 v8 : nb_V} {M : nb_M} {Q : List nb_V → nb_M → Prop} (W : nb_Lay M) (H : (l6 < M.1 603 33 → (l1 = l2 → nb_W 86 0 [(3, 616), (0, 0), (3, 617), (0, 0), (0, l2), (98, 0)] [] (nb_wr M 603 33 l6) (fun r M6 => r = [] ∧ nb_Lay M6 ∧ (nb_Lay M6 → Q [] M6))) ∧ (l1 ≠ l2 → nb_W 185 7 [(20, 603), (0, l1), (0, l2), (0, l3), (0, l4), (0, l5), (0, l6), (0, 0), v8] [] M Q)) ∧ (M.1 603 33 ≤ l6 → (nb_Lay M → Q [] M))) :
    nb_W 185 0 [(20, 603), (0, l1), (0, l2), (0, l3), (0, l4), (0, l5), (0, l6), v7, v8] [] M Q := by
  replace H := nb_Hw H
  have E1 : nb_rd M 603 33 = M.1 603 33 := nb_rd_1 _ _ _
  refine nb_Wg (q_m_rowFrom1_0 _ _ _ _ _ _ _ _ _ _ (by omega)) ?_
  simp only [E1]
  clear E1
  refine nb_Gi (fun c9 => ?_) (fun c9 => ?_)
  · have H := nb_Hw ((nb_Hu H).1 c9)
    refine nb_Gr ?_
    refine nb_Wg (q_m_rowFrom1_2 _ _ _ _ _ _ _ _ _ _) ?_
    refine nb_Gi (fun c8 => ?_) (fun c8 => ?_)
    · have H := nb_Hw ((nb_Hu H).1 c8)
      refine nb_Gr ?_
      refine nb_Wg (q_m_rowFrom1_3 _ _ _ _ _ _ _ _ _ _ (by omega)) ?_
      have W2 : nb_Lay (nb_wr M 603 33 l6) := W.wr (fun w => (nb_nlit (by decide) (by decide)))
      refine nb_Gr ?_
      have E3 : nb_rd (nb_wr M 603 33 l6) 603 31 = 616 := W2.m31
      have E4 : nb_rd (nb_wr M 603 33 l6) 603 32 = 617 := W2.m32
      refine nb_Wg (q_m_rowFrom1_4 _ _ _ _ _ _ _ _ _ _ (by omega)) ?_
      simp only [E3, E4]
      clear E3 E4
      refine nb_Gb ?_
      refine nb_W.imp (nb_Hu H) (fun r M6 H => ?_)
      obtain ⟨rfl, W7, H⟩ := H
      replace H := nb_Hw H
      show nb_W 185 5 [(20, 603), (0, l1), (0, l2), (0, l3), (0, l4), (0, l5), (0, l6), v7, v8] [] M6 _
      refine nb_Wg (q_m_rowFrom1_5 _ _ _ _ _ _ _ _ _ _) ?_
      refine nb_Gs ?_
      exact nb_Hu H W7
    · have H := nb_Hw ((nb_Hu H).2 (by omega))
      have c8 : l1 ≠ l2 := by omega
      refine nb_Gr ?_
      refine nb_Wg (q_m_rowFrom1_6 _ _ _ _ _ _ _ _ _ _) ?_
      refine nb_Gr ?_
      exact nb_Hu H
  · have H := nb_Hw ((nb_Hu H).2 (by omega))
    have c9 : M.1 603 33 ≤ l6 := by omega
    refine nb_Gr ?_
    refine nb_Wg (q_m_rowFrom1_1 _ _ _ _ _ _ _ _ _ _) ?_
    refine nb_Gs ?_
    exact nb_Hu H W

theorem w_m_rowFrom1_7 {l1 l2 l3 l4 l5 l6 l7 : Int} {v8 : nb_V} {M : nb_M} {Q : List nb_V → nb_M → Prop} (W : nb_Lay M)  (b0_ : 0 ≤ l1 ∧ l1 ≤ 7) (b1_ : 0 ≤ l7 ∧ l7 ≤ 10) (b2_ : 0 ≤ l5 ∧ l5 ≤ 31500) (b3_ : 0 ≤ l6 ∧ l6 ≤ 220500) (b4_ : 0 ≤ l3 ∧ l3 ≤ 1023) (H : 0 ≤ M.1 606 5 ∧ M.1 606 5 ≤ 10 ∧ (l7 < M.1 606 5 → (nb_and (nb_shr l3 l7) 1 = 1 → nb_W 185 7 [(20, 603), (0, l1), (0, l2), (0, l3), (0, l4), (0, l5), (0, l6), (0, l7 + 1), v8] [] M Q) ∧ (nb_and (nb_shr l3 l7) 1 ≠ 1 → (M.1 608 (12 + 8 * l7) = 1 → pu_Rr (M.1 606) ∧ -1 ≤ l4 ∧ l4 ≤ 9 ∧ 0 ≤ l7 ∧ l7 ≤ 9 ∧ -2147483648 ≤ l5 + pu_tb (M.1 606) l4 l7 ∧ l5 + pu_tb (M.1 606) l4 l7 ≤ 2147483647 ∧ 0 ≤ l1 ∧ l1 < 7 ∧ -2147483648 ≤ l6 + (l5 + pu_tb (M.1 606) l4 l7) ∧ l6 + (l5 + pu_tb (M.1 606) l4 l7) ≤ 2147483647 ∧ nb_W 186 0 [(20, 603), (0, l1 + 1), (0, l2), (0, nb_or l3 (nb_shl 1 l7)), (0, l7), (0, l5 + pu_tb (M.1 606) l4 l7), (0, l6 + (l5 + pu_tb (M.1 606) l4 l7)), (98, 0), (98, 0)] [] (nb_wr M 616 l1 l7) (fun r M21 => r = [] ∧ nb_Lay M21 ∧ nb_W 185 7 [(20, 603), (0, l1), (0, l2), (0, l3), (0, l4), (0, l5), (0, l6), (0, l7 + 1), (0, l5 + pu_tb (M.1 606) l4 l7)] [] M21 Q)) ∧ (M.1 608 (12 + 8 * l7) ≠ 1 → nb_W 185 7 [(20, 603), (0, l1), (0, l2), (0, l3), (0, l4), (0, l5), (0, l6), (0, l7 + 1), v8] [] M Q))) ∧ (M.1 606 5 ≤ l7 → (nb_Lay M → Q [] M))) :
    nb_W 185 7 [(20, 603), (0, l1), (0, l2), (0, l3), (0, l4), (0, l5), (0, l6), (0, l7), v8] [] M Q := by
  replace H := nb_Hw H
  obtain ⟨p0_, p1_, H⟩ := H
  replace H := nb_Hw H
  have E1 : nb_rd M 603 15 = 606 := W.m15
  have N2 : nb_ln M 606 = 347 := W.lk (by decide) (by decide +kernel)
  have E3 : nb_rd M 606 5 = M.1 606 5 := nb_rd_1 _ _ _
  refine nb_Wg (q_m_rowFrom1_7 _ _ _ _ _ _ _ _ _ _ (by omega) (by rw [E1]; first | done | omega) (by omega) (by rw [E1, N2]; first | done | omega)) ?_
  simp only [E1, E3]
  clear E1 N2 E3
  refine nb_Gi (fun c28 => ?_) (fun c28 => ?_)
  · have H := nb_Hw ((nb_Hu H).1 c28)
    refine nb_Gr ?_
    refine nb_Wg (q_m_rowFrom1_8 _ _ _ _ _ _ _ _ _ _) ?_
    refine nb_Gb ?_
    refine nb_Wg (q_m_hasBit_0 _ _ _) ?_
    refine nb_Gi (fun c27 => ?_) (fun c27 => ?_)
    · have H := nb_Hw ((nb_Hu H).1 c27)
      refine nb_Gr ?_
      refine nb_Wg (q_m_hasBit_1 _ _ _) ?_
      refine nb_Gr ?_
      have E4 : nb_i2z 1 = 1 := by decide
      refine nb_Wg (q_m_hasBit_3 _ _ _ _) ?_
      simp only [E4]
      clear E4
      refine nb_Gs ?_
      show nb_W 185 9 [(20, 603), (0, l1), (0, l2), (0, l3), (0, l4), (0, l5), (0, l6), (0, l7), v8] [(0, 1)] M _
      refine nb_Wg (q_m_rowFrom1_9 _ _ _ _ _ _ _ _ _ _ _) ?_
      refine nb_Gf (by decide) ?_
      refine nb_Gr ?_
      have E5 : nb_add l7 1 = l7 + 1 := nb_add_eq (by omega) (by omega)
      refine nb_Wg (q_m_rowFrom1_16 _ _ _ _ _ _ _ _ _ _) ?_
      simp only [E5]
      clear E5
      refine nb_Gr ?_
      exact nb_Hu H
    · have H := nb_Hw ((nb_Hu H).2 (by omega))
      have c27 : nb_and (nb_shr l3 l7) 1 ≠ 1 := by omega
      refine nb_Gr ?_
      refine nb_Wg (q_m_hasBit_2 _ _ _) ?_
      refine nb_Gr ?_
      have E6 : nb_i2z 0 = 0 := by decide
      refine nb_Wg (q_m_hasBit_3 _ _ _ _) ?_
      simp only [E6]
      clear E6
      refine nb_Gs ?_
      show nb_W 185 9 [(20, 603), (0, l1), (0, l2), (0, l3), (0, l4), (0, l5), (0, l6), (0, l7), v8] [(0, 0)] M _
      refine nb_Wg (q_m_rowFrom1_9 _ _ _ _ _ _ _ _ _ _ _) ?_
      refine nb_Gt (by decide) ?_
      refine nb_Gr ?_
      have E7 : nb_rd M 603 17 = 608 := W.m17
      refine nb_Wg (q_m_rowFrom1_10 _ _ _ _ _ _ _ _ _ _ (by omega)) ?_
      simp only [E7]
      clear E7
      refine nb_Gb ?_
      refine nb_Wg (q_m_isWaiting_0 _ _ _) ?_
      refine nb_Gb ?_
      have E8 : nb_mul 8 l7 = 8 * l7 := nb_mul_eq (by omega) (by omega)
      have E9 : nb_add 12 (8 * l7) = 12 + 8 * l7 := (nb_add_eq (x := 12) (y := 8 * l7) (by omega) (by omega)).trans (by omega)
      have E10 : nb_add (12 + 8 * l7) 0 = 12 + 8 * l7 := (nb_add_eq (x := 12 + 8 * l7) (y := 0) (by omega) (by omega)).trans (by omega)
      have N11 : nb_ln M 608 = 108 := W.lk (by decide) (by decide +kernel)
      have E12 : nb_rd M 608 (12 + 8 * l7) = M.1 608 (12 + 8 * l7) := nb_rd_1 _ _ _
      refine nb_Wg (q_m_its_0 _ _ _ _ (by omega) (by rw [E8, E9, E10]; first | done | omega) (by rw [E8, E9, E10, N11]; first | done | omega)) ?_
      simp only [E8, E9, E10, E12]
      clear E8 E9 E10 N11 E12
      refine nb_Gs ?_
      show nb_W 126 1 [(3, 608), (0, l7)] [(0, M.1 608 (12 + 8 * l7))] M _
      refine nb_Wg (q_m_isWaiting_1 _ _ _ _) ?_
      refine nb_Gi (fun c26 => ?_) (fun c26 => ?_)
      · have H := nb_Hw ((nb_Hu H).1 c26)
        refine nb_Gr ?_
        refine nb_Wg (q_m_isWaiting_2 _ _ _) ?_
        refine nb_Gr ?_
        have E13 : nb_i2z 1 = 1 := by decide
        refine nb_Wg (q_m_isWaiting_4 _ _ _ _) ?_
        simp only [E13]
        clear E13
        refine nb_Gs ?_
        show nb_W 185 11 [(20, 603), (0, l1), (0, l2), (0, l3), (0, l4), (0, l5), (0, l6), (0, l7), v8] [(0, 1)] M _
        refine nb_Wg (q_m_rowFrom1_11 _ _ _ _ _ _ _ _ _ _ _) ?_
        refine nb_Gf (by decide) ?_
        refine nb_Gr ?_
        obtain ⟨p0_, p1_, p2_, p3_, p4_, H⟩ := H
        replace H := nb_Hw H
        refine nb_Wg (q_m_rowFrom1_13 _ _ _ _ _ _ _ _ _ _ (by omega)) ?_
        rw [show nb_R nb_P 129 0 [(20, 603), (0, l4), (0, l7), (98, 0), (98, 0), (98, 0), (98, 0)] [] M = some ([(0, pu_tb (M.1 606) l4 l7)], M) from (sp_m_timeBehind W (by first | assumption | omega | (simp [nb_wr_up, nb_up_1, nb_ud]; first | assumption | omega)) (by omega) (by omega)).trans (by first | rfl | simp [nb_wr_up, nb_up_1, nb_up_up, nb_ud])]
        refine nb_Gp ?_
        show nb_W 185 14 [(20, 603), (0, l1), (0, l2), (0, l3), (0, l4), (0, l5), (0, l6), (0, l7), v8] [(0, pu_tb (M.1 606) l4 l7), (0, l5)] M _
        obtain ⟨p0_, p1_, p2_, p3_, H⟩ := H
        replace H := nb_Hw H
        have E14 : nb_add l5 (pu_tb (M.1 606) l4 l7) = l5 + pu_tb (M.1 606) l4 l7 := (nb_add_eq (x := l5) (y := pu_tb (M.1 606) l4 l7) (by omega) (by omega)).trans (by omega)
        have E15 : nb_rd M 603 31 = 616 := W.m31
        have N16 : nb_ln M 616 = 7 := W.lk (by decide) (by decide +kernel)
        refine nb_Wg (q_m_rowFrom1_14 _ _ _ _ _ _ _ _ _ _ _ _ (by omega) (by rw [E15]; first | done | omega) (by rw [E15]; first | done | omega) (by omega) (by rw [E15, N16]; first | done | omega)) ?_
        simp only [E14, E15]
        clear E14 E15 N16
        have W17 : nb_Lay (nb_wr M 616 l1 l7) := W.wr (fun w => (nb_nnum (by decide) (by decide)))
        refine nb_Gr ?_
        obtain ⟨p0_, p1_, H⟩ := H
        replace H := nb_Hw H
        have E18 : nb_add l1 1 = l1 + 1 := nb_add_eq (by omega) (by omega)
        have E19 : nb_add l6 (l5 + pu_tb (M.1 606) l4 l7) = l6 + (l5 + pu_tb (M.1 606) l4 l7) := nb_add_eq (by omega) (by omega)
        refine nb_Wg (q_m_rowFrom1_15 _ _ _ _ _ _ _ _ _ _ (by omega)) ?_
        simp only [E18, E19]
        clear E18 E19
        refine nb_Gb ?_
        refine nb_W.imp (nb_Hu H) (fun r M21 H => ?_)
        obtain ⟨rfl, W22, H⟩ := H
        replace H := nb_Hw H
        show nb_W 185 16 [(20, 603), (0, l1), (0, l2), (0, l3), (0, l4), (0, l5), (0, l6), (0, l7), (0, l5 + pu_tb (M.1 606) l4 l7)] [] M21 _
        have E23 : nb_add l7 1 = l7 + 1 := nb_add_eq (by omega) (by omega)
        refine nb_Wg (q_m_rowFrom1_16 _ _ _ _ _ _ _ _ _ _) ?_
        simp only [E23]
        clear E23
        refine nb_Gr ?_
        exact nb_Hu H
      · have H := nb_Hw ((nb_Hu H).2 (by omega))
        have c26 : M.1 608 (12 + 8 * l7) ≠ 1 := by omega
        refine nb_Gr ?_
        refine nb_Wg (q_m_isWaiting_3 _ _ _) ?_
        refine nb_Gr ?_
        have E24 : nb_i2z 0 = 0 := by decide
        refine nb_Wg (q_m_isWaiting_4 _ _ _ _) ?_
        simp only [E24]
        clear E24
        refine nb_Gs ?_
        show nb_W 185 11 [(20, 603), (0, l1), (0, l2), (0, l3), (0, l4), (0, l5), (0, l6), (0, l7), v8] [(0, 0)] M _
        refine nb_Wg (q_m_rowFrom1_11 _ _ _ _ _ _ _ _ _ _ _) ?_
        refine nb_Gt (by decide) ?_
        refine nb_Gr ?_
        refine nb_Wg (q_m_rowFrom1_12 _ _ _ _ _ _ _ _ _ _) ?_
        refine nb_Gr ?_
        have E25 : nb_add l7 1 = l7 + 1 := nb_add_eq (by omega) (by omega)
        refine nb_Wg (q_m_rowFrom1_16 _ _ _ _ _ _ _ _ _ _) ?_
        simp only [E25]
        clear E25
        refine nb_Gr ?_
        exact nb_Hu H
  · have H := nb_Hw ((nb_Hu H).2 (by omega))
    have c28 : M.1 606 5 ≤ l7 := by omega
    refine nb_Gr ?_
    refine nb_Wg (q_m_rowFrom1_17 _ _ _ _ _ _ _ _ _ _) ?_
    refine nb_Gs ?_
    exact nb_Hu H W

theorem w_m_rowFrom2_0 {l1 l2 l3 l4 l5 l6 : Int} {v7 v8 : nb_V} {M : nb_M} {Q : List nb_V → nb_M → Prop} (W : nb_Lay M) (H : (l6 < M.1 603 33 → (l1 = l2 → nb_W 86 0 [(3, 616), (0, 0), (3, 617), (0, 0), (0, l2), (98, 0)] [] (nb_wr M 603 33 l6) (fun r M6 => r = [] ∧ nb_Lay M6 ∧ (nb_Lay M6 → Q [] M6))) ∧ (l1 ≠ l2 → nb_W 186 7 [(20, 603), (0, l1), (0, l2), (0, l3), (0, l4), (0, l5), (0, l6), (0, 0), v8] [] M Q)) ∧ (M.1 603 33 ≤ l6 → (nb_Lay M → Q [] M))) :
    nb_W 186 0 [(20, 603), (0, l1), (0, l2), (0, l3), (0, l4), (0, l5), (0, l6), v7, v8] [] M Q := by
  replace H := nb_Hw H
  have E1 : nb_rd M 603 33 = M.1 603 33 := nb_rd_1 _ _ _
  refine nb_Wg (q_m_rowFrom2_0 _ _ _ _ _ _ _ _ _ _ (by omega)) ?_
  simp only [E1]
  clear E1
  refine nb_Gi (fun c9 => ?_) (fun c9 => ?_)
  · have H := nb_Hw ((nb_Hu H).1 c9)
    refine nb_Gr ?_
    refine nb_Wg (q_m_rowFrom2_2 _ _ _ _ _ _ _ _ _ _) ?_
    refine nb_Gi (fun c8 => ?_) (fun c8 => ?_)
    · have H := nb_Hw ((nb_Hu H).1 c8)
      refine nb_Gr ?_
      refine nb_Wg (q_m_rowFrom2_3 _ _ _ _ _ _ _ _ _ _ (by omega)) ?_
      have W2 : nb_Lay (nb_wr M 603 33 l6) := W.wr (fun w => (nb_nlit (by decide) (by decide)))
      refine nb_Gr ?_
      have E3 : nb_rd (nb_wr M 603 33 l6) 603 31 = 616 := W2.m31
      have E4 : nb_rd (nb_wr M 603 33 l6) 603 32 = 617 := W2.m32
      refine nb_Wg (q_m_rowFrom2_4 _ _ _ _ _ _ _ _ _ _ (by omega)) ?_
      simp only [E3, E4]
      clear E3 E4
      refine nb_Gb ?_
      refine nb_W.imp (nb_Hu H) (fun r M6 H => ?_)
      obtain ⟨rfl, W7, H⟩ := H
      replace H := nb_Hw H
      show nb_W 186 5 [(20, 603), (0, l1), (0, l2), (0, l3), (0, l4), (0, l5), (0, l6), v7, v8] [] M6 _
      refine nb_Wg (q_m_rowFrom2_5 _ _ _ _ _ _ _ _ _ _) ?_
      refine nb_Gs ?_
      exact nb_Hu H W7
    · have H := nb_Hw ((nb_Hu H).2 (by omega))
      have c8 : l1 ≠ l2 := by omega
      refine nb_Gr ?_
      refine nb_Wg (q_m_rowFrom2_6 _ _ _ _ _ _ _ _ _ _) ?_
      refine nb_Gr ?_
      exact nb_Hu H
  · have H := nb_Hw ((nb_Hu H).2 (by omega))
    have c9 : M.1 603 33 ≤ l6 := by omega
    refine nb_Gr ?_
    refine nb_Wg (q_m_rowFrom2_1 _ _ _ _ _ _ _ _ _ _) ?_
    refine nb_Gs ?_
    exact nb_Hu H W

theorem w_m_rowFrom2_7 {l1 l2 l3 l4 l5 l6 l7 : Int} {v8 : nb_V} {M : nb_M} {Q : List nb_V → nb_M → Prop} (W : nb_Lay M)  (b0_ : 0 ≤ l1 ∧ l1 ≤ 7) (b1_ : 0 ≤ l7 ∧ l7 ≤ 10) (b2_ : 0 ≤ l5 ∧ l5 ≤ 31500) (b3_ : 0 ≤ l6 ∧ l6 ≤ 220500) (b4_ : 0 ≤ l3 ∧ l3 ≤ 1023) (H : 0 ≤ M.1 606 5 ∧ M.1 606 5 ≤ 10 ∧ (l7 < M.1 606 5 → (nb_and (nb_shr l3 l7) 1 = 1 → nb_W 186 7 [(20, 603), (0, l1), (0, l2), (0, l3), (0, l4), (0, l5), (0, l6), (0, l7 + 1), v8] [] M Q) ∧ (nb_and (nb_shr l3 l7) 1 ≠ 1 → (M.1 608 (12 + 8 * l7) = 1 → pu_Rr (M.1 606) ∧ -1 ≤ l4 ∧ l4 ≤ 9 ∧ 0 ≤ l7 ∧ l7 ≤ 9 ∧ -2147483648 ≤ l5 + pu_tb (M.1 606) l4 l7 ∧ l5 + pu_tb (M.1 606) l4 l7 ≤ 2147483647 ∧ 0 ≤ l1 ∧ l1 < 7 ∧ -2147483648 ≤ l6 + (l5 + pu_tb (M.1 606) l4 l7) ∧ l6 + (l5 + pu_tb (M.1 606) l4 l7) ≤ 2147483647 ∧ nb_W 187 0 [(20, 603), (0, l1 + 1), (0, l2), (0, nb_or l3 (nb_shl 1 l7)), (0, l7), (0, l5 + pu_tb (M.1 606) l4 l7), (0, l6 + (l5 + pu_tb (M.1 606) l4 l7)), (98, 0), (98, 0)] [] (nb_wr M 616 l1 l7) (fun r M21 => r = [] ∧ nb_Lay M21 ∧ nb_W 186 7 [(20, 603), (0, l1), (0, l2), (0, l3), (0, l4), (0, l5), (0, l6), (0, l7 + 1), (0, l5 + pu_tb (M.1 606) l4 l7)] [] M21 Q)) ∧ (M.1 608 (12 + 8 * l7) ≠ 1 → nb_W 186 7 [(20, 603), (0, l1), (0, l2), (0, l3), (0, l4), (0, l5), (0, l6), (0, l7 + 1), v8] [] M Q))) ∧ (M.1 606 5 ≤ l7 → (nb_Lay M → Q [] M))) :
    nb_W 186 7 [(20, 603), (0, l1), (0, l2), (0, l3), (0, l4), (0, l5), (0, l6), (0, l7), v8] [] M Q := by
  replace H := nb_Hw H
  obtain ⟨p0_, p1_, H⟩ := H
  replace H := nb_Hw H
  have E1 : nb_rd M 603 15 = 606 := W.m15
  have N2 : nb_ln M 606 = 347 := W.lk (by decide) (by decide +kernel)
  have E3 : nb_rd M 606 5 = M.1 606 5 := nb_rd_1 _ _ _
  refine nb_Wg (q_m_rowFrom2_7 _ _ _ _ _ _ _ _ _ _ (by omega) (by rw [E1]; first | done | omega) (by omega) (by rw [E1, N2]; first | done | omega)) ?_
  simp only [E1, E3]
  clear E1 N2 E3
  refine nb_Gi (fun c28 => ?_) (fun c28 => ?_)
  · have H := nb_Hw ((nb_Hu H).1 c28)
    refine nb_Gr ?_
    refine nb_Wg (q_m_rowFrom2_8 _ _ _ _ _ _ _ _ _ _) ?_
    refine nb_Gb ?_
    refine nb_Wg (q_m_hasBit_0 _ _ _) ?_
    refine nb_Gi (fun c27 => ?_) (fun c27 => ?_)
    · have H := nb_Hw ((nb_Hu H).1 c27)
      refine nb_Gr ?_
      refine nb_Wg (q_m_hasBit_1 _ _ _) ?_
      refine nb_Gr ?_
      have E4 : nb_i2z 1 = 1 := by decide
      refine nb_Wg (q_m_hasBit_3 _ _ _ _) ?_
      simp only [E4]
      clear E4
      refine nb_Gs ?_
      show nb_W 186 9 [(20, 603), (0, l1), (0, l2), (0, l3), (0, l4), (0, l5), (0, l6), (0, l7), v8] [(0, 1)] M _
      refine nb_Wg (q_m_rowFrom2_9 _ _ _ _ _ _ _ _ _ _ _) ?_
      refine nb_Gf (by decide) ?_
      refine nb_Gr ?_
      have E5 : nb_add l7 1 = l7 + 1 := nb_add_eq (by omega) (by omega)
      refine nb_Wg (q_m_rowFrom2_16 _ _ _ _ _ _ _ _ _ _) ?_
      simp only [E5]
      clear E5
      refine nb_Gr ?_
      exact nb_Hu H
    · have H := nb_Hw ((nb_Hu H).2 (by omega))
      have c27 : nb_and (nb_shr l3 l7) 1 ≠ 1 := by omega
      refine nb_Gr ?_
      refine nb_Wg (q_m_hasBit_2 _ _ _) ?_
      refine nb_Gr ?_
      have E6 : nb_i2z 0 = 0 := by decide
      refine nb_Wg (q_m_hasBit_3 _ _ _ _) ?_
      simp only [E6]
      clear E6
      refine nb_Gs ?_
      show nb_W 186 9 [(20, 603), (0, l1), (0, l2), (0, l3), (0, l4), (0, l5), (0, l6), (0, l7), v8] [(0, 0)] M _
      refine nb_Wg (q_m_rowFrom2_9 _ _ _ _ _ _ _ _ _ _ _) ?_
      refine nb_Gt (by decide) ?_
      refine nb_Gr ?_
      have E7 : nb_rd M 603 17 = 608 := W.m17
      refine nb_Wg (q_m_rowFrom2_10 _ _ _ _ _ _ _ _ _ _ (by omega)) ?_
      simp only [E7]
      clear E7
      refine nb_Gb ?_
      refine nb_Wg (q_m_isWaiting_0 _ _ _) ?_
      refine nb_Gb ?_
      have E8 : nb_mul 8 l7 = 8 * l7 := nb_mul_eq (by omega) (by omega)
      have E9 : nb_add 12 (8 * l7) = 12 + 8 * l7 := (nb_add_eq (x := 12) (y := 8 * l7) (by omega) (by omega)).trans (by omega)
      have E10 : nb_add (12 + 8 * l7) 0 = 12 + 8 * l7 := (nb_add_eq (x := 12 + 8 * l7) (y := 0) (by omega) (by omega)).trans (by omega)
      have N11 : nb_ln M 608 = 108 := W.lk (by decide) (by decide +kernel)
      have E12 : nb_rd M 608 (12 + 8 * l7) = M.1 608 (12 + 8 * l7) := nb_rd_1 _ _ _
      refine nb_Wg (q_m_its_0 _ _ _ _ (by omega) (by rw [E8, E9, E10]; first | done | omega) (by rw [E8, E9, E10, N11]; first | done | omega)) ?_
      simp only [E8, E9, E10, E12]
      clear E8 E9 E10 N11 E12
      refine nb_Gs ?_
      show nb_W 126 1 [(3, 608), (0, l7)] [(0, M.1 608 (12 + 8 * l7))] M _
      refine nb_Wg (q_m_isWaiting_1 _ _ _ _) ?_
      refine nb_Gi (fun c26 => ?_) (fun c26 => ?_)
      · have H := nb_Hw ((nb_Hu H).1 c26)
        refine nb_Gr ?_
        refine nb_Wg (q_m_isWaiting_2 _ _ _) ?_
        refine nb_Gr ?_
        have E13 : nb_i2z 1 = 1 := by decide
        refine nb_Wg (q_m_isWaiting_4 _ _ _ _) ?_
        simp only [E13]
        clear E13
        refine nb_Gs ?_
        show nb_W 186 11 [(20, 603), (0, l1), (0, l2), (0, l3), (0, l4), (0, l5), (0, l6), (0, l7), v8] [(0, 1)] M _
        refine nb_Wg (q_m_rowFrom2_11 _ _ _ _ _ _ _ _ _ _ _) ?_
        refine nb_Gf (by decide) ?_
        refine nb_Gr ?_
        obtain ⟨p0_, p1_, p2_, p3_, p4_, H⟩ := H
        replace H := nb_Hw H
        refine nb_Wg (q_m_rowFrom2_13 _ _ _ _ _ _ _ _ _ _ (by omega)) ?_
        rw [show nb_R nb_P 129 0 [(20, 603), (0, l4), (0, l7), (98, 0), (98, 0), (98, 0), (98, 0)] [] M = some ([(0, pu_tb (M.1 606) l4 l7)], M) from (sp_m_timeBehind W (by first | assumption | omega | (simp [nb_wr_up, nb_up_1, nb_ud]; first | assumption | omega)) (by omega) (by omega)).trans (by first | rfl | simp [nb_wr_up, nb_up_1, nb_up_up, nb_ud])]
        refine nb_Gp ?_
        show nb_W 186 14 [(20, 603), (0, l1), (0, l2), (0, l3), (0, l4), (0, l5), (0, l6), (0, l7), v8] [(0, pu_tb (M.1 606) l4 l7), (0, l5)] M _
        obtain ⟨p0_, p1_, p2_, p3_, H⟩ := H
        replace H := nb_Hw H
        have E14 : nb_add l5 (pu_tb (M.1 606) l4 l7) = l5 + pu_tb (M.1 606) l4 l7 := (nb_add_eq (x := l5) (y := pu_tb (M.1 606) l4 l7) (by omega) (by omega)).trans (by omega)
        have E15 : nb_rd M 603 31 = 616 := W.m31
        have N16 : nb_ln M 616 = 7 := W.lk (by decide) (by decide +kernel)
        refine nb_Wg (q_m_rowFrom2_14 _ _ _ _ _ _ _ _ _ _ _ _ (by omega) (by rw [E15]; first | done | omega) (by rw [E15]; first | done | omega) (by omega) (by rw [E15, N16]; first | done | omega)) ?_
        simp only [E14, E15]
        clear E14 E15 N16
        have W17 : nb_Lay (nb_wr M 616 l1 l7) := W.wr (fun w => (nb_nnum (by decide) (by decide)))
        refine nb_Gr ?_
        obtain ⟨p0_, p1_, H⟩ := H
        replace H := nb_Hw H
        have E18 : nb_add l1 1 = l1 + 1 := nb_add_eq (by omega) (by omega)
        have E19 : nb_add l6 (l5 + pu_tb (M.1 606) l4 l7) = l6 + (l5 + pu_tb (M.1 606) l4 l7) := nb_add_eq (by omega) (by omega)
        refine nb_Wg (q_m_rowFrom2_15 _ _ _ _ _ _ _ _ _ _ (by omega)) ?_
        simp only [E18, E19]
        clear E18 E19
        refine nb_Gb ?_
        refine nb_W.imp (nb_Hu H) (fun r M21 H => ?_)
        obtain ⟨rfl, W22, H⟩ := H
        replace H := nb_Hw H
        show nb_W 186 16 [(20, 603), (0, l1), (0, l2), (0, l3), (0, l4), (0, l5), (0, l6), (0, l7), (0, l5 + pu_tb (M.1 606) l4 l7)] [] M21 _
        have E23 : nb_add l7 1 = l7 + 1 := nb_add_eq (by omega) (by omega)
        refine nb_Wg (q_m_rowFrom2_16 _ _ _ _ _ _ _ _ _ _) ?_
        simp only [E23]
        clear E23
        refine nb_Gr ?_
        exact nb_Hu H
      · have H := nb_Hw ((nb_Hu H).2 (by omega))
        have c26 : M.1 608 (12 + 8 * l7) ≠ 1 := by omega
        refine nb_Gr ?_
        refine nb_Wg (q_m_isWaiting_3 _ _ _) ?_
        refine nb_Gr ?_
        have E24 : nb_i2z 0 = 0 := by decide
        refine nb_Wg (q_m_isWaiting_4 _ _ _ _) ?_
        simp only [E24]
        clear E24
        refine nb_Gs ?_
        show nb_W 186 11 [(20, 603), (0, l1), (0, l2), (0, l3), (0, l4), (0, l5), (0, l6), (0, l7), v8] [(0, 0)] M _
        refine nb_Wg (q_m_rowFrom2_11 _ _ _ _ _ _ _ _ _ _ _) ?_
        refine nb_Gt (by decide) ?_
        refine nb_Gr ?_
        refine nb_Wg (q_m_rowFrom2_12 _ _ _ _ _ _ _ _ _ _) ?_
        refine nb_Gr ?_
        have E25 : nb_add l7 1 = l7 + 1 := nb_add_eq (by omega) (by omega)
        refine nb_Wg (q_m_rowFrom2_16 _ _ _ _ _ _ _ _ _ _) ?_
        simp only [E25]
        clear E25
        refine nb_Gr ?_
        exact nb_Hu H
  · have H := nb_Hw ((nb_Hu H).2 (by omega))
    have c28 : M.1 606 5 ≤ l7 := by omega
    refine nb_Gr ?_
    refine nb_Wg (q_m_rowFrom2_17 _ _ _ _ _ _ _ _ _ _) ?_
    refine nb_Gs ?_
    exact nb_Hu H W

theorem w_m_rowFrom3_0 {l1 l2 l3 l4 l5 l6 : Int} {v7 v8 : nb_V} {M : nb_M} {Q : List nb_V → nb_M → Prop} (W : nb_Lay M) (H : (l6 < M.1 603 33 → (l1 = l2 → nb_W 86 0 [(3, 616), (0, 0), (3, 617), (0, 0), (0, l2), (98, 0)] [] (nb_wr M 603 33 l6) (fun r M6 => r = [] ∧ nb_Lay M6 ∧ (nb_Lay M6 → Q [] M6))) ∧ (l1 ≠ l2 → nb_W 187 7 [(20, 603), (0, l1), (0, l2), (0, l3), (0, l4), (0, l5), (0, l6), (0, 0), v8] [] M Q)) ∧ (M.1 603 33 ≤ l6 → (nb_Lay M → Q [] M))) :
    nb_W 187 0 [(20, 603), (0, l1), (0, l2), (0, l3), (0, l4), (0, l5), (0, l6), v7, v8] [] M Q := by
  replace H := nb_Hw H
  have E1 : nb_rd M 603 33 = M.1 603 33 := nb_rd_1 _ _ _
  refine nb_Wg (q_m_rowFrom3_0 _ _ _ _ _ _ _ _ _ _ (by omega)) ?_
  simp only [E1]
  clear E1
  refine nb_Gi (fun c9 => ?_) (fun c9 => ?_)
  · have H := nb_Hw ((nb_Hu H).1 c9)
    refine nb_Gr ?_
    refine nb_Wg (q_m_rowFrom3_2 _ _ _ _ _ _ _ _ _ _) ?_
    refine nb_Gi (fun c8 => ?_) (fun c8 => ?_)
    · have H := nb_Hw ((nb_Hu H).1 c8)
      refine nb_Gr ?_
      refine nb_Wg (q_m_rowFrom3_3 _ _ _ _ _ _ _ _ _ _ (by omega)) ?_
      have W2 : nb_Lay (nb_wr M 603 33 l6) := W.wr (fun w => (nb_nlit (by decide) (by decide)))
      refine nb_Gr ?_
      have E3 : nb_rd (nb_wr M 603 33 l6) 603 31 = 616 := W2.m31
      have E4 : nb_rd (nb_wr M 603 33 l6) 603 32 = 617 := W2.m32
      refine nb_Wg (q_m_rowFrom3_4 _ _ _ _ _ _ _ _ _ _ (by omega)) ?_
      simp only [E3, E4]
      clear E3 E4
      refine nb_Gb ?_
      refine nb_W.imp (nb_Hu H) (fun r M6 H => ?_)
      obtain ⟨rfl, W7, H⟩ := H
      replace H := nb_Hw H
      show nb_W 187 5 [(20, 603), (0, l1), (0, l2), (0, l3), (0, l4), (0, l5), (0, l6), v7, v8] [] M6 _
      refine nb_Wg (q_m_rowFrom3_5 _ _ _ _ _ _ _ _ _ _) ?_
      refine nb_Gs ?_
      exact nb_Hu H W7
    · have H := nb_Hw ((nb_Hu H).2 (by omega))
      have c8 : l1 ≠ l2 := by omega
      refine nb_Gr ?_
      refine nb_Wg (q_m_rowFrom3_6 _ _ _ _ _ _ _ _ _ _) ?_
      refine nb_Gr ?_
      exact nb_Hu H
  · have H := nb_Hw ((nb_Hu H).2 (by omega))
    have c9 : M.1 603 33 ≤ l6 := by omega
    refine nb_Gr ?_
    refine nb_Wg (q_m_rowFrom3_1 _ _ _ _ _ _ _ _ _ _) ?_
    refine nb_Gs ?_
    exact nb_Hu H W

theorem w_m_rowFrom3_7 {l1 l2 l3 l4 l5 l6 l7 : Int} {v8 : nb_V} {M : nb_M} {Q : List nb_V → nb_M → Prop} (W : nb_Lay M)  (b0_ : 0 ≤ l1 ∧ l1 ≤ 7) (b1_ : 0 ≤ l7 ∧ l7 ≤ 10) (b2_ : 0 ≤ l5 ∧ l5 ≤ 31500) (b3_ : 0 ≤ l6 ∧ l6 ≤ 220500) (b4_ : 0 ≤ l3 ∧ l3 ≤ 1023) (H : 0 ≤ M.1 606 5 ∧ M.1 606 5 ≤ 10 ∧ (l7 < M.1 606 5 → (nb_and (nb_shr l3 l7) 1 = 1 → nb_W 187 7 [(20, 603), (0, l1), (0, l2), (0, l3), (0, l4), (0, l5), (0, l6), (0, l7 + 1), v8] [] M Q) ∧ (nb_and (nb_shr l3 l7) 1 ≠ 1 → (M.1 608 (12 + 8 * l7) = 1 → pu_Rr (M.1 606) ∧ -1 ≤ l4 ∧ l4 ≤ 9 ∧ 0 ≤ l7 ∧ l7 ≤ 9 ∧ -2147483648 ≤ l5 + pu_tb (M.1 606) l4 l7 ∧ l5 + pu_tb (M.1 606) l4 l7 ≤ 2147483647 ∧ 0 ≤ l1 ∧ l1 < 7 ∧ -2147483648 ≤ l6 + (l5 + pu_tb (M.1 606) l4 l7) ∧ l6 + (l5 + pu_tb (M.1 606) l4 l7) ≤ 2147483647 ∧ nb_W 188 0 [(20, 603), (0, l1 + 1), (0, l2), (0, nb_or l3 (nb_shl 1 l7)), (0, l7), (0, l5 + pu_tb (M.1 606) l4 l7), (0, l6 + (l5 + pu_tb (M.1 606) l4 l7)), (98, 0), (98, 0)] [] (nb_wr M 616 l1 l7) (fun r M21 => r = [] ∧ nb_Lay M21 ∧ nb_W 187 7 [(20, 603), (0, l1), (0, l2), (0, l3), (0, l4), (0, l5), (0, l6), (0, l7 + 1), (0, l5 + pu_tb (M.1 606) l4 l7)] [] M21 Q)) ∧ (M.1 608 (12 + 8 * l7) ≠ 1 → nb_W 187 7 [(20, 603), (0, l1), (0, l2), (0, l3), (0, l4), (0, l5), (0, l6), (0, l7 + 1), v8] [] M Q))) ∧ (M.1 606 5 ≤ l7 → (nb_Lay M → Q [] M))) :
    nb_W 187 7 [(20, 603), (0, l1), (0, l2), (0, l3), (0, l4), (0, l5), (0, l6), (0, l7), v8] [] M Q := by
  replace H := nb_Hw H
  obtain ⟨p0_, p1_, H⟩ := H
  replace H := nb_Hw H
  have E1 : nb_rd M 603 15 = 606 := W.m15
  have N2 : nb_ln M 606 = 347 := W.lk (by decide) (by decide +kernel)
  have E3 : nb_rd M 606 5 = M.1 606 5 := nb_rd_1 _ _ _
  refine nb_Wg (q_m_rowFrom3_7 _ _ _ _ _ _ _ _ _ _ (by omega) (by rw [E1]; first | done | omega) (by omega) (by rw [E1, N2]; first | done | omega)) ?_
  simp only [E1, E3]
  clear E1 N2 E3
  refine nb_Gi (fun c28 => ?_) (fun c28 => ?_)
  · have H := nb_Hw ((nb_Hu H).1 c28)
    refine nb_Gr ?_
    refine nb_Wg (q_m_rowFrom3_8 _ _ _ _ _ _ _ _ _ _) ?_
    refine nb_Gb ?_
    refine nb_Wg (q_m_hasBit_0 _ _ _) ?_
    refine nb_Gi (fun c27 => ?_) (fun c27 => ?_)
    · have H := nb_Hw ((nb_Hu H).1 c27)
      refine nb_Gr ?_
      refine nb_Wg (q_m_hasBit_1 _ _ _) ?_
      refine nb_Gr ?_
      have E4 : nb_i2z 1 = 1 := by decide
      refine nb_Wg (q_m_hasBit_3 _ _ _ _) ?_
      simp only [E4]
      clear E4
      refine nb_Gs ?_
      show nb_W 187 9 [(20, 603), (0, l1), (0, l2), (0, l3), (0, l4), (0, l5), (0, l6), (0, l7), v8] [(0, 1)] M _
      refine nb_Wg (q_m_rowFrom3_9 _ _ _ _ _ _ _ _ _ _ _) ?_
      refine nb_Gf (by decide) ?_
      refine nb_Gr ?_
      have E5 : nb_add l7 1 = l7 + 1 := nb_add_eq (by omega) (by omega)
      refine nb_Wg (q_m_rowFrom3_16 _ _ _ _ _ _ _ _ _ _) ?_
      simp only [E5]
      clear E5
      refine nb_Gr ?_
      exact nb_Hu H
    · have H := nb_Hw ((nb_Hu H).2 (by omega))
      have c27 : nb_and (nb_shr l3 l7) 1 ≠ 1 := by omega
      refine nb_Gr ?_
      refine nb_Wg (q_m_hasBit_2 _ _ _) ?_
      refine nb_Gr ?_
      have E6 : nb_i2z 0 = 0 := by decide
      refine nb_Wg (q_m_hasBit_3 _ _ _ _) ?_
      simp only [E6]
      clear E6
      refine nb_Gs ?_
      show nb_W 187 9 [(20, 603), (0, l1), (0, l2), (0, l3), (0, l4), (0, l5), (0, l6), (0, l7), v8] [(0, 0)] M _
      refine nb_Wg (q_m_rowFrom3_9 _ _ _ _ _ _ _ _ _ _ _) ?_
      refine nb_Gt (by decide) ?_
      refine nb_Gr ?_
      have E7 : nb_rd M 603 17 = 608 := W.m17
      refine nb_Wg (q_m_rowFrom3_10 _ _ _ _ _ _ _ _ _ _ (by omega)) ?_
      simp only [E7]
      clear E7
      refine nb_Gb ?_
      refine nb_Wg (q_m_isWaiting_0 _ _ _) ?_
      refine nb_Gb ?_
      have E8 : nb_mul 8 l7 = 8 * l7 := nb_mul_eq (by omega) (by omega)
      have E9 : nb_add 12 (8 * l7) = 12 + 8 * l7 := (nb_add_eq (x := 12) (y := 8 * l7) (by omega) (by omega)).trans (by omega)
      have E10 : nb_add (12 + 8 * l7) 0 = 12 + 8 * l7 := (nb_add_eq (x := 12 + 8 * l7) (y := 0) (by omega) (by omega)).trans (by omega)
      have N11 : nb_ln M 608 = 108 := W.lk (by decide) (by decide +kernel)
      have E12 : nb_rd M 608 (12 + 8 * l7) = M.1 608 (12 + 8 * l7) := nb_rd_1 _ _ _
      refine nb_Wg (q_m_its_0 _ _ _ _ (by omega) (by rw [E8, E9, E10]; first | done | omega) (by rw [E8, E9, E10, N11]; first | done | omega)) ?_
      simp only [E8, E9, E10, E12]
      clear E8 E9 E10 N11 E12
      refine nb_Gs ?_
      show nb_W 126 1 [(3, 608), (0, l7)] [(0, M.1 608 (12 + 8 * l7))] M _
      refine nb_Wg (q_m_isWaiting_1 _ _ _ _) ?_
      refine nb_Gi (fun c26 => ?_) (fun c26 => ?_)
      · have H := nb_Hw ((nb_Hu H).1 c26)
        refine nb_Gr ?_
        refine nb_Wg (q_m_isWaiting_2 _ _ _) ?_
        refine nb_Gr ?_
        have E13 : nb_i2z 1 = 1 := by decide
        refine nb_Wg (q_m_isWaiting_4 _ _ _ _) ?_
        simp only [E13]
        clear E13
        refine nb_Gs ?_
        show nb_W 187 11 [(20, 603), (0, l1), (0, l2), (0, l3), (0, l4), (0, l5), (0, l6), (0, l7), v8] [(0, 1)] M _
        refine nb_Wg (q_m_rowFrom3_11 _ _ _ _ _ _ _ _ _ _ _) ?_
        refine nb_Gf (by decide) ?_
        refine nb_Gr ?_
        obtain ⟨p0_, p1_, p2_, p3_, p4_, H⟩ := H
        replace H := nb_Hw H
        refine nb_Wg (q_m_rowFrom3_13 _ _ _ _ _ _ _ _ _ _ (by omega)) ?_
        rw [show nb_R nb_P 129 0 [(20, 603), (0, l4), (0, l7), (98, 0), (98, 0), (98, 0), (98, 0)] [] M = some ([(0, pu_tb (M.1 606) l4 l7)], M) from (sp_m_timeBehind W (by first | assumption | omega | (simp [nb_wr_up, nb_up_1, nb_ud]; first | assumption | omega)) (by omega) (by omega)).trans (by first | rfl | simp [nb_wr_up, nb_up_1, nb_up_up, nb_ud])]
        refine nb_Gp ?_
        show nb_W 187 14 [(20, 603), (0, l1), (0, l2), (0, l3), (0, l4), (0, l5), (0, l6), (0, l7), v8] [(0, pu_tb (M.1 606) l4 l7), (0, l5)] M _
        obtain ⟨p0_, p1_, p2_, p3_, H⟩ := H
        replace H := nb_Hw H
        have E14 : nb_add l5 (pu_tb (M.1 606) l4 l7) = l5 + pu_tb (M.1 606) l4 l7 := (nb_add_eq (x := l5) (y := pu_tb (M.1 606) l4 l7) (by omega) (by omega)).trans (by omega)
        have E15 : nb_rd M 603 31 = 616 := W.m31
        have N16 : nb_ln M 616 = 7 := W.lk (by decide) (by decide +kernel)
        refine nb_Wg (q_m_rowFrom3_14 _ _ _ _ _ _ _ _ _ _ _ _ (by omega) (by rw [E15]; first | done | omega) (by rw [E15]; first | done | omega) (by omega) (by rw [E15, N16]; first | done | omega)) ?_
        simp only [E14, E15]
        clear E14 E15 N16
        have W17 : nb_Lay (nb_wr M 616 l1 l7) := W.wr (fun w => (nb_nnum (by decide) (by decide)))
        refine nb_Gr ?_
        obtain ⟨p0_, p1_, H⟩ := H
        replace H := nb_Hw H
        have E18 : nb_add l1 1 = l1 + 1 := nb_add_eq (by omega) (by omega)
        have E19 : nb_add l6 (l5 + pu_tb (M.1 606) l4 l7) = l6 + (l5 + pu_tb (M.1 606) l4 l7) := nb_add_eq (by omega) (by omega)
        refine nb_Wg (q_m_rowFrom3_15 _ _ _ _ _ _ _ _ _ _ (by omega)) ?_
        simp only [E18, E19]
        clear E18 E19
        refine nb_Gb ?_
        refine nb_W.imp (nb_Hu H) (fun r M21 H => ?_)
        obtain ⟨rfl, W22, H⟩ := H
        replace H := nb_Hw H
        show nb_W 187 16 [(20, 603), (0, l1), (0, l2), (0, l3), (0, l4), (0, l5), (0, l6), (0, l7), (0, l5 + pu_tb (M.1 606) l4 l7)] [] M21 _
        have E23 : nb_add l7 1 = l7 + 1 := nb_add_eq (by omega) (by omega)
        refine nb_Wg (q_m_rowFrom3_16 _ _ _ _ _ _ _ _ _ _) ?_
        simp only [E23]
        clear E23
        refine nb_Gr ?_
        exact nb_Hu H
      · have H := nb_Hw ((nb_Hu H).2 (by omega))
        have c26 : M.1 608 (12 + 8 * l7) ≠ 1 := by omega
        refine nb_Gr ?_
        refine nb_Wg (q_m_isWaiting_3 _ _ _) ?_
        refine nb_Gr ?_
        have E24 : nb_i2z 0 = 0 := by decide
        refine nb_Wg (q_m_isWaiting_4 _ _ _ _) ?_
        simp only [E24]
        clear E24
        refine nb_Gs ?_
        show nb_W 187 11 [(20, 603), (0, l1), (0, l2), (0, l3), (0, l4), (0, l5), (0, l6), (0, l7), v8] [(0, 0)] M _
        refine nb_Wg (q_m_rowFrom3_11 _ _ _ _ _ _ _ _ _ _ _) ?_
        refine nb_Gt (by decide) ?_
        refine nb_Gr ?_
        refine nb_Wg (q_m_rowFrom3_12 _ _ _ _ _ _ _ _ _ _) ?_
        refine nb_Gr ?_
        have E25 : nb_add l7 1 = l7 + 1 := nb_add_eq (by omega) (by omega)
        refine nb_Wg (q_m_rowFrom3_16 _ _ _ _ _ _ _ _ _ _) ?_
        simp only [E25]
        clear E25
        refine nb_Gr ?_
        exact nb_Hu H
  · have H := nb_Hw ((nb_Hu H).2 (by omega))
    have c28 : M.1 606 5 ≤ l7 := by omega
    refine nb_Gr ?_
    refine nb_Wg (q_m_rowFrom3_17 _ _ _ _ _ _ _ _ _ _) ?_
    refine nb_Gs ?_
    exact nb_Hu H W

theorem w_m_rowFrom4_0 {l1 l2 l3 l4 l5 l6 : Int} {v7 v8 : nb_V} {M : nb_M} {Q : List nb_V → nb_M → Prop} (W : nb_Lay M) (H : (l6 < M.1 603 33 → (l1 = l2 → nb_W 86 0 [(3, 616), (0, 0), (3, 617), (0, 0), (0, l2), (98, 0)] [] (nb_wr M 603 33 l6) (fun r M6 => r = [] ∧ nb_Lay M6 ∧ (nb_Lay M6 → Q [] M6))) ∧ (l1 ≠ l2 → nb_W 188 7 [(20, 603), (0, l1), (0, l2), (0, l3), (0, l4), (0, l5), (0, l6), (0, 0), v8] [] M Q)) ∧ (M.1 603 33 ≤ l6 → (nb_Lay M → Q [] M))) :
    nb_W 188 0 [(20, 603), (0, l1), (0, l2), (0, l3), (0, l4), (0, l5), (0, l6), v7, v8] [] M Q := by
  replace H := nb_Hw H
  have E1 : nb_rd M 603 33 = M.1 603 33 := nb_rd_1 _ _ _
  refine nb_Wg (q_m_rowFrom4_0 _ _ _ _ _ _ _ _ _ _ (by omega)) ?_
  simp only [E1]
  clear E1
  refine nb_Gi (fun c9 => ?_) (fun c9 => ?_)
  · have H := nb_Hw ((nb_Hu H).1 c9)
    refine nb_Gr ?_
    refine nb_Wg (q_m_rowFrom4_2 _ _ _ _ _ _ _ _ _ _) ?_
    refine nb_Gi (fun c8 => ?_) (fun c8 => ?_)
    · have H := nb_Hw ((nb_Hu H).1 c8)
      refine nb_Gr ?_
      refine nb_Wg (q_m_rowFrom4_3 _ _ _ _ _ _ _ _ _ _ (by omega)) ?_
      have W2 : nb_Lay (nb_wr M 603 33 l6) := W.wr (fun w => (nb_nlit (by decide) (by decide)))
      refine nb_Gr ?_
      have E3 : nb_rd (nb_wr M 603 33 l6) 603 31 = 616 := W2.m31
      have E4 : nb_rd (nb_wr M 603 33 l6) 603 32 = 617 := W2.m32
      refine nb_Wg (q_m_rowFrom4_4 _ _ _ _ _ _ _ _ _ _ (by omega)) ?_
      simp only [E3, E4]
      clear E3 E4
      refine nb_Gb ?_
      refine nb_W.imp (nb_Hu H) (fun r M6 H => ?_)
      obtain ⟨rfl, W7, H⟩ := H
      replace H := nb_Hw H
      show nb_W 188 5 [(20, 603), (0, l1), (0, l2), (0, l3), (0, l4), (0, l5), (0, l6), v7, v8] [] M6 _
      refine nb_Wg (q_m_rowFrom4_5 _ _ _ _ _ _ _ _ _ _) ?_
      refine nb_Gs ?_
      exact nb_Hu H W7
    · have H := nb_Hw ((nb_Hu H).2 (by omega))
      have c8 : l1 ≠ l2 := by omega
      refine nb_Gr ?_
      refine nb_Wg (q_m_rowFrom4_6 _ _ _ _ _ _ _ _ _ _) ?_
      refine nb_Gr ?_
      exact nb_Hu H
  · have H := nb_Hw ((nb_Hu H).2 (by omega))
    have c9 : M.1 603 33 ≤ l6 := by omega
    refine nb_Gr ?_
    refine nb_Wg (q_m_rowFrom4_1 _ _ _ _ _ _ _ _ _ _) ?_
    refine nb_Gs ?_
    exact nb_Hu H W

theorem w_m_rowFrom4_7 {l1 l2 l3 l4 l5 l6 l7 : Int} {v8 : nb_V} {M : nb_M} {Q : List nb_V → nb_M → Prop} (W : nb_Lay M)  (b0_ : 0 ≤ l1 ∧ l1 ≤ 7) (b1_ : 0 ≤ l7 ∧ l7 ≤ 10) (b2_ : 0 ≤ l5 ∧ l5 ≤ 31500) (b3_ : 0 ≤ l6 ∧ l6 ≤ 220500) (b4_ : 0 ≤ l3 ∧ l3 ≤ 1023) (H : 0 ≤ M.1 606 5 ∧ M.1 606 5 ≤ 10 ∧ (l7 < M.1 606 5 → (nb_and (nb_shr l3 l7) 1 = 1 → nb_W 188 7 [(20, 603), (0, l1), (0, l2), (0, l3), (0, l4), (0, l5), (0, l6), (0, l7 + 1), v8] [] M Q) ∧ (nb_and (nb_shr l3 l7) 1 ≠ 1 → (M.1 608 (12 + 8 * l7) = 1 → pu_Rr (M.1 606) ∧ -1 ≤ l4 ∧ l4 ≤ 9 ∧ 0 ≤ l7 ∧ l7 ≤ 9 ∧ -2147483648 ≤ l5 + pu_tb (M.1 606) l4 l7 ∧ l5 + pu_tb (M.1 606) l4 l7 ≤ 2147483647 ∧ 0 ≤ l1 ∧ l1 < 7 ∧ -2147483648 ≤ l6 + (l5 + pu_tb (M.1 606) l4 l7) ∧ l6 + (l5 + pu_tb (M.1 606) l4 l7) ≤ 2147483647 ∧ nb_W 189 0 [(20, 603), (0, l1 + 1), (0, l2), (0, nb_or l3 (nb_shl 1 l7)), (0, l7), (0, l5 + pu_tb (M.1 606) l4 l7), (0, l6 + (l5 + pu_tb (M.1 606) l4 l7)), (98, 0), (98, 0)] [] (nb_wr M 616 l1 l7) (fun r M21 => r = [] ∧ nb_Lay M21 ∧ nb_W 188 7 [(20, 603), (0, l1), (0, l2), (0, l3), (0, l4), (0, l5), (0, l6), (0, l7 + 1), (0, l5 + pu_tb (M.1 606) l4 l7)] [] M21 Q)) ∧ (M.1 608 (12 + 8 * l7) ≠ 1 → nb_W 188 7 [(20, 603), (0, l1), (0, l2), (0, l3), (0, l4), (0, l5), (0, l6), (0, l7 + 1), v8] [] M Q))) ∧ (M.1 606 5 ≤ l7 → (nb_Lay M → Q [] M))) :
    nb_W 188 7 [(20, 603), (0, l1), (0, l2), (0, l3), (0, l4), (0, l5), (0, l6), (0, l7), v8] [] M Q := by
  replace H := nb_Hw H
  obtain ⟨p0_, p1_, H⟩ := H
  replace H := nb_Hw H
  have E1 : nb_rd M 603 15 = 606 := W.m15
  have N2 : nb_ln M 606 = 347 := W.lk (by decide) (by decide +kernel)
  have E3 : nb_rd M 606 5 = M.1 606 5 := nb_rd_1 _ _ _
  refine nb_Wg (q_m_rowFrom4_7 _ _ _ _ _ _ _ _ _ _ (by omega) (by rw [E1]; first | done | omega) (by omega) (by rw [E1, N2]; first | done | omega)) ?_
  simp only [E1, E3]
  clear E1 N2 E3
  refine nb_Gi (fun c28 => ?_) (fun c28 => ?_)
  · have H := nb_Hw ((nb_Hu H).1 c28)
    refine nb_Gr ?_
    refine nb_Wg (q_m_rowFrom4_8 _ _ _ _ _ _ _ _ _ _) ?_
    refine nb_Gb ?_
    refine nb_Wg (q_m_hasBit_0 _ _ _) ?_
    refine nb_Gi (fun c27 => ?_) (fun c27 => ?_)
    · have H := nb_Hw ((nb_Hu H).1 c27)
      refine nb_Gr ?_
      refine nb_Wg (q_m_hasBit_1 _ _ _) ?_
      refine nb_Gr ?_
      have E4 : nb_i2z 1 = 1 := by decide
      refine nb_Wg (q_m_hasBit_3 _ _ _ _) ?_
      simp only [E4]
      clear E4
      refine nb_Gs ?_
      show nb_W 188 9 [(20, 603), (0, l1), (0, l2), (0, l3), (0, l4), (0, l5), (0, l6), (0, l7), v8] [(0, 1)] M _
      refine nb_Wg (q_m_rowFrom4_9 _ _ _ _ _ _ _ _ _ _ _) ?_
      refine nb_Gf (by decide) ?_
      refine nb_Gr ?_
      have E5 : nb_add l7 1 = l7 + 1 := nb_add_eq (by omega) (by omega)
      refine nb_Wg (q_m_rowFrom4_16 _ _ _ _ _ _ _ _ _ _) ?_
      simp only [E5]
      clear E5
      refine nb_Gr ?_
      exact nb_Hu H
    · have H := nb_Hw ((nb_Hu H).2 (by omega))
      have c27 : nb_and (nb_shr l3 l7) 1 ≠ 1 := by omega
      refine nb_Gr ?_
      refine nb_Wg (q_m_hasBit_2 _ _ _) ?_
      refine nb_Gr ?_
      have E6 : nb_i2z 0 = 0 := by decide
      refine nb_Wg (q_m_hasBit_3 _ _ _ _) ?_
      simp only [E6]
      clear E6
      refine nb_Gs ?_
      show nb_W 188 9 [(20, 603), (0, l1), (0, l2), (0, l3), (0, l4), (0, l5), (0, l6), (0, l7), v8] [(0, 0)] M _
      refine nb_Wg (q_m_rowFrom4_9 _ _ _ _ _ _ _ _ _ _ _) ?_
      refine nb_Gt (by decide) ?_
      refine nb_Gr ?_
      have E7 : nb_rd M 603 17 = 608 := W.m17
      refine nb_Wg (q_m_rowFrom4_10 _ _ _ _ _ _ _ _ _ _ (by omega)) ?_
      simp only [E7]
      clear E7
      refine nb_Gb ?_
      refine nb_Wg (q_m_isWaiting_0 _ _ _) ?_
      refine nb_Gb ?_
      have E8 : nb_mul 8 l7 = 8 * l7 := nb_mul_eq (by omega) (by omega)
      have E9 : nb_add 12 (8 * l7) = 12 + 8 * l7 := (nb_add_eq (x := 12) (y := 8 * l7) (by omega) (by omega)).trans (by omega)
      have E10 : nb_add (12 + 8 * l7) 0 = 12 + 8 * l7 := (nb_add_eq (x := 12 + 8 * l7) (y := 0) (by omega) (by omega)).trans (by omega)
      have N11 : nb_ln M 608 = 108 := W.lk (by decide) (by decide +kernel)
      have E12 : nb_rd M 608 (12 + 8 * l7) = M.1 608 (12 + 8 * l7) := nb_rd_1 _ _ _
      refine nb_Wg (q_m_its_0 _ _ _ _ (by omega) (by rw [E8, E9, E10]; first | done | omega) (by rw [E8, E9, E10, N11]; first | done | omega)) ?_
      simp only [E8, E9, E10, E12]
      clear E8 E9 E10 N11 E12
      refine nb_Gs ?_
      show nb_W 126 1 [(3, 608), (0, l7)] [(0, M.1 608 (12 + 8 * l7))] M _
      refine nb_Wg (q_m_isWaiting_1 _ _ _ _) ?_
      refine nb_Gi (fun c26 => ?_) (fun c26 => ?_)
      · have H := nb_Hw ((nb_Hu H).1 c26)
        refine nb_Gr ?_
        refine nb_Wg (q_m_isWaiting_2 _ _ _) ?_
        refine nb_Gr ?_
        have E13 : nb_i2z 1 = 1 := by decide
        refine nb_Wg (q_m_isWaiting_4 _ _ _ _) ?_
        simp only [E13]
        clear E13
        refine nb_Gs ?_
        show nb_W 188 11 [(20, 603), (0, l1), (0, l2), (0, l3), (0, l4), (0, l5), (0, l6), (0, l7), v8] [(0, 1)] M _
        refine nb_Wg (q_m_rowFrom4_11 _ _ _ _ _ _ _ _ _ _ _) ?_
        refine nb_Gf (by decide) ?_
        refine nb_Gr ?_
        obtain ⟨p0_, p1_, p2_, p3_, p4_, H⟩ := H
        replace H := nb_Hw H
        refine nb_Wg (q_m_rowFrom4_13 _ _ _ _ _ _ _ _ _ _ (by omega)) ?_
        rw [show nb_R nb_P 129 0 [(20, 603), (0, l4), (0, l7), (98, 0), (98, 0), (98, 0), (98, 0)] [] M = some ([(0, pu_tb (M.1 606) l4 l7)], M) from (sp_m_timeBehind W (by first | assumption | omega | (simp [nb_wr_up, nb_up_1, nb_ud]; first | assumption | omega)) (by omega) (by omega)).trans (by first | rfl | simp [nb_wr_up, nb_up_1, nb_up_up, nb_ud])]
        refine nb_Gp ?_
        show nb_W 188 14 [(20, 603), (0, l1), (0, l2), (0, l3), (0, l4), (0, l5), (0, l6), (0, l7), v8] [(0, pu_tb (M.1 606) l4 l7), (0, l5)] M _
        obtain ⟨p0_, p1_, p2_, p3_, H⟩ := H
        replace H := nb_Hw H
        have E14 : nb_add l5 (pu_tb (M.1 606) l4 l7) = l5 + pu_tb (M.1 606) l4 l7 := (nb_add_eq (x := l5) (y := pu_tb (M.1 606) l4 l7) (by omega) (by omega)).trans (by omega)
        have E15 : nb_rd M 603 31 = 616 := W.m31
        have N16 : nb_ln M 616 = 7 := W.lk (by decide) (by decide +kernel)
        refine nb_Wg (q_m_rowFrom4_14 _ _ _ _ _ _ _ _ _ _ _ _ (by omega) (by rw [E15]; first | done | omega) (by rw [E15]; first | done | omega) (by omega) (by rw [E15, N16]; first | done | omega)) ?_
        simp only [E14, E15]
        clear E14 E15 N16
        have W17 : nb_Lay (nb_wr M 616 l1 l7) := W.wr (fun w => (nb_nnum (by decide) (by decide)))
        refine nb_Gr ?_
        obtain ⟨p0_, p1_, H⟩ := H
        replace H := nb_Hw H
        have E18 : nb_add l1 1 = l1 + 1 := nb_add_eq (by omega) (by omega)
        have E19 : nb_add l6 (l5 + pu_tb (M.1 606) l4 l7) = l6 + (l5 + pu_tb (M.1 606) l4 l7) := nb_add_eq (by omega) (by omega)
        refine nb_Wg (q_m_rowFrom4_15 _ _ _ _ _ _ _ _ _ _ (by omega)) ?_
        simp only [E18, E19]
        clear E18 E19
        refine nb_Gb ?_
        refine nb_W.imp (nb_Hu H) (fun r M21 H => ?_)
        obtain ⟨rfl, W22, H⟩ := H
        replace H := nb_Hw H
        show nb_W 188 16 [(20, 603), (0, l1), (0, l2), (0, l3), (0, l4), (0, l5), (0, l6), (0, l7), (0, l5 + pu_tb (M.1 606) l4 l7)] [] M21 _
        have E23 : nb_add l7 1 = l7 + 1 := nb_add_eq (by omega) (by omega)
        refine nb_Wg (q_m_rowFrom4_16 _ _ _ _ _ _ _ _ _ _) ?_
        simp only [E23]
        clear E23
        refine nb_Gr ?_
        exact nb_Hu H
      · have H := nb_Hw ((nb_Hu H).2 (by omega))
        have c26 : M.1 608 (12 + 8 * l7) ≠ 1 := by omega
        refine nb_Gr ?_
        refine nb_Wg (q_m_isWaiting_3 _ _ _) ?_
        refine nb_Gr ?_
        have E24 : nb_i2z 0 = 0 := by decide
        refine nb_Wg (q_m_isWaiting_4 _ _ _ _) ?_
        simp only [E24]
        clear E24
        refine nb_Gs ?_
        show nb_W 188 11 [(20, 603), (0, l1), (0, l2), (0, l3), (0, l4), (0, l5), (0, l6), (0, l7), v8] [(0, 0)] M _
        refine nb_Wg (q_m_rowFrom4_11 _ _ _ _ _ _ _ _ _ _ _) ?_
        refine nb_Gt (by decide) ?_
        refine nb_Gr ?_
        refine nb_Wg (q_m_rowFrom4_12 _ _ _ _ _ _ _ _ _ _) ?_
        refine nb_Gr ?_
        have E25 : nb_add l7 1 = l7 + 1 := nb_add_eq (by omega) (by omega)
        refine nb_Wg (q_m_rowFrom4_16 _ _ _ _ _ _ _ _ _ _) ?_
        simp only [E25]
        clear E25
        refine nb_Gr ?_
        exact nb_Hu H
  · have H := nb_Hw ((nb_Hu H).2 (by omega))
    have c28 : M.1 606 5 ≤ l7 := by omega
    refine nb_Gr ?_
    refine nb_Wg (q_m_rowFrom4_17 _ _ _ _ _ _ _ _ _ _) ?_
    refine nb_Gs ?_
    exact nb_Hu H W

theorem w_m_rowFrom5_0 {l1 l2 l3 l4 l5 l6 : Int} {v7 v8 : nb_V} {M : nb_M} {Q : List nb_V → nb_M → Prop} (W : nb_Lay M) (H : (l6 < M.1 603 33 → (l1 = l2 → nb_W 86 0 [(3, 616), (0, 0), (3, 617), (0, 0), (0, l2), (98, 0)] [] (nb_wr M 603 33 l6) (fun r M6 => r = [] ∧ nb_Lay M6 ∧ (nb_Lay M6 → Q [] M6))) ∧ (l1 ≠ l2 → nb_W 189 7 [(20, 603), (0, l1), (0, l2), (0, l3), (0, l4), (0, l5), (0, l6), (0, 0), v8] [] M Q)) ∧ (M.1 603 33 ≤ l6 → (nb_Lay M → Q [] M))) :
    nb_W 189 0 [(20, 603), (0, l1), (0, l2), (0, l3), (0, l4), (0, l5), (0, l6), v7, v8] [] M Q := by
  replace H := nb_Hw H
  have E1 : nb_rd M 603 33 = M.1 603 33 := nb_rd_1 _ _ _
  refine nb_Wg (q_m_rowFrom5_0 _ _ _ _ _ _ _ _ _ _ (by omega)) ?_
  simp only [E1]
  clear E1
  refine nb_Gi (fun c9 => ?_) (fun c9 => ?_)
  · have H := nb_Hw ((nb_Hu H).1 c9)
    refine nb_Gr ?_
    refine nb_Wg (q_m_rowFrom5_2 _ _ _ _ _ _ _ _ _ _) ?_
    refine nb_Gi (fun c8 => ?_) (fun c8 => ?_)
    · have H := nb_Hw ((nb_Hu H).1 c8)
      refine nb_Gr ?_
      refine nb_Wg (q_m_rowFrom5_3 _ _ _ _ _ _ _ _ _ _ (by omega)) ?_
      have W2 : nb_Lay (nb_wr M 603 33 l6) := W.wr (fun w => (nb_nlit (by decide) (by decide)))
      refine nb_Gr ?_
      have E3 : nb_rd (nb_wr M 603 33 l6) 603 31 = 616 := W2.m31
      have E4 : nb_rd (nb_wr M 603 33 l6) 603 32 = 617 := W2.m32
      refine nb_Wg (q_m_rowFrom5_4 _ _ _ _ _ _ _ _ _ _ (by omega)) ?_
      simp only [E3, E4]
      clear E3 E4
      refine nb_Gb ?_
      refine nb_W.imp (nb_Hu H) (fun r M6 H => ?_)
      obtain ⟨rfl, W7, H⟩ := H
      replace H := nb_Hw H
      show nb_W 189 5 [(20, 603), (0, l1), (0, l2), (0, l3), (0, l4), (0, l5), (0, l6), v7, v8] [] M6 _
      refine nb_Wg (q_m_rowFrom5_5 _ _ _ _ _ _ _ _ _ _) ?_
      refine nb_Gs ?_
      exact nb_Hu H W7
    · have H := nb_Hw ((nb_Hu H).2 (by omega))
      have c8 : l1 ≠ l2 := by omega
      refine nb_Gr ?_
      refine nb_Wg (q_m_rowFrom5_6 _ _ _ _ _ _ _ _ _ _) ?_
      refine nb_Gr ?_
      exact nb_Hu H
  · have H := nb_Hw ((nb_Hu H).2 (by omega))
    have c9 : M.1 603 33 ≤ l6 := by omega
    refine nb_Gr ?_
    refine nb_Wg (q_m_rowFrom5_1 _ _ _ _ _ _ _ _ _ _) ?_
    refine nb_Gs ?_
    exact nb_Hu H W

theorem w_m_rowFrom5_7 {l1 l2 l3 l4 l5 l6 l7 : Int} {v8 : nb_V} {M : nb_M} {Q : List nb_V → nb_M → Prop} (W : nb_Lay M)  (b0_ : 0 ≤ l1 ∧ l1 ≤ 7) (b1_ : 0 ≤ l7 ∧ l7 ≤ 10) (b2_ : 0 ≤ l5 ∧ l5 ≤ 31500) (b3_ : 0 ≤ l6 ∧ l6 ≤ 220500) (b4_ : 0 ≤ l3 ∧ l3 ≤ 1023) (H : 0 ≤ M.1 606 5 ∧ M.1 606 5 ≤ 10 ∧ (l7 < M.1 606 5 → (nb_and (nb_shr l3 l7) 1 = 1 → nb_W 189 7 [(20, 603), (0, l1), (0, l2), (0, l3), (0, l4), (0, l5), (0, l6), (0, l7 + 1), v8] [] M Q) ∧ (nb_and (nb_shr l3 l7) 1 ≠ 1 → (M.1 608 (12 + 8 * l7) = 1 → pu_Rr (M.1 606) ∧ -1 ≤ l4 ∧ l4 ≤ 9 ∧ 0 ≤ l7 ∧ l7 ≤ 9 ∧ -2147483648 ≤ l5 + pu_tb (M.1 606) l4 l7 ∧ l5 + pu_tb (M.1 606) l4 l7 ≤ 2147483647 ∧ 0 ≤ l1 ∧ l1 < 7 ∧ -2147483648 ≤ l6 + (l5 + pu_tb (M.1 606) l4 l7) ∧ l6 + (l5 + pu_tb (M.1 606) l4 l7) ≤ 2147483647 ∧ nb_W 190 0 [(20, 603), (0, l1 + 1), (0, l2), (0, nb_or l3 (nb_shl 1 l7)), (0, l7), (0, l5 + pu_tb (M.1 606) l4 l7), (0, l6 + (l5 + pu_tb (M.1 606) l4 l7)), (98, 0), (98, 0)] [] (nb_wr M 616 l1 l7) (fun r M21 => r = [] ∧ nb_Lay M21 ∧ nb_W 189 7 [(20, 603), (0, l1), (0, l2), (0, l3), (0, l4), (0, l5), (0, l6), (0, l7 + 1), (0, l5 + pu_tb (M.1 606) l4 l7)] [] M21 Q)) ∧ (M.1 608 (12 + 8 * l7) ≠ 1 → nb_W 189 7 [(20, 603), (0, l1), (0, l2), (0, l3), (0, l4), (0, l5), (0, l6), (0, l7 + 1), v8] [] M Q))) ∧ (M.1 606 5 ≤ l7 → (nb_Lay M → Q [] M))) :
    nb_W 189 7 [(20, 603), (0, l1), (0, l2), (0, l3), (0, l4), (0, l5), (0, l6), (0, l7), v8] [] M Q := by
  replace H := nb_Hw H
  obtain ⟨p0_, p1_, H⟩ := H
  replace H := nb_Hw H
  have E1 : nb_rd M 603 15 = 606 := W.m15
  have N2 : nb_ln M 606 = 347 := W.lk (by decide) (by decide +kernel)
  have E3 : nb_rd M 606 5 = M.1 606 5 := nb_rd_1 _ _ _
  refine nb_Wg (q_m_rowFrom5_7 _ _ _ _ _ _ _ _ _ _ (by omega) (by rw [E1]; first | done | omega) (by omega) (by rw [E1, N2]; first | done | omega)) ?_
  simp only [E1, E3]
  clear E1 N2 E3
  refine nb_Gi (fun c28 => ?_) (fun c28 => ?_)
  · have H := nb_Hw ((nb_Hu H).1 c28)
    refine nb_Gr ?_
    refine nb_Wg (q_m_rowFrom5_8 _ _ _ _ _ _ _ _ _ _) ?_
    refine nb_Gb ?_
    refine nb_Wg (q_m_hasBit_0 _ _ _) ?_
    refine nb_Gi (fun c27 => ?_) (fun c27 => ?_)
    · have H := nb_Hw ((nb_Hu H).1 c27)
      refine nb_Gr ?_
      refine nb_Wg (q_m_hasBit_1 _ _ _) ?_
      refine nb_Gr ?_
      have E4 : nb_i2z 1 = 1 := by decide
      refine nb_Wg (q_m_hasBit_3 _ _ _ _) ?_
      simp only [E4]
      clear E4
      refine nb_Gs ?_
      show nb_W 189 9 [(20, 603), (0, l1), (0, l2), (0, l3), (0, l4), (0, l5), (0, l6), (0, l7), v8] [(0, 1)] M _
      refine nb_Wg (q_m_rowFrom5_9 _ _ _ _ _ _ _ _ _ _ _) ?_
      refine nb_Gf (by decide) ?_
      refine nb_Gr ?_
      have E5 : nb_add l7 1 = l7 + 1 := nb_add_eq (by omega) (by omega)
      refine nb_Wg (q_m_rowFrom5_16 _ _ _ _ _ _ _ _ _ _) ?_
      simp only [E5]
      clear E5
      refine nb_Gr ?_
      exact nb_Hu H
    · have H := nb_Hw ((nb_Hu H).2 (by omega))
      have c27 : nb_and (nb_shr l3 l7) 1 ≠ 1 := by omega
      refine nb_Gr ?_
      refine nb_Wg (q_m_hasBit_2 _ _ _) ?_
      refine nb_Gr ?_
      have E6 : nb_i2z 0 = 0 := by decide
      refine nb_Wg (q_m_hasBit_3 _ _ _ _) ?_
      simp only [E6]
      clear E6
      refine nb_Gs ?_
      show nb_W 189 9 [(20, 603), (0, l1), (0, l2), (0, l3), (0, l4), (0, l5), (0, l6), (0, l7), v8] [(0, 0)] M _
      refine nb_Wg (q_m_rowFrom5_9 _ _ _ _ _ _ _ _ _ _ _) ?_
      refine nb_Gt (by decide) ?_
      refine nb_Gr ?_
      have E7 : nb_rd M 603 17 = 608 := W.m17
      refine nb_Wg (q_m_rowFrom5_10 _ _ _ _ _ _ _ _ _ _ (by omega)) ?_
      simp only [E7]
      clear E7
      refine nb_Gb ?_
      refine nb_Wg (q_m_isWaiting_0 _ _ _) ?_
      refine nb_Gb ?_
      have E8 : nb_mul 8 l7 = 8 * l7 := nb_mul_eq (by omega) (by omega)
      have E9 : nb_add 12 (8 * l7) = 12 + 8 * l7 := (nb_add_eq (x := 12) (y := 8 * l7) (by omega) (by omega)).trans (by omega)
      have E10 : nb_add (12 + 8 * l7) 0 = 12 + 8 * l7 := (nb_add_eq (x := 12 + 8 * l7) (y := 0) (by omega) (by omega)).trans (by omega)
      have N11 : nb_ln M 608 = 108 := W.lk (by decide) (by decide +kernel)
      have E12 : nb_rd M 608 (12 + 8 * l7) = M.1 608 (12 + 8 * l7) := nb_rd_1 _ _ _
      refine nb_Wg (q_m_its_0 _ _ _ _ (by omega) (by rw [E8, E9, E10]; first | done | omega) (by rw [E8, E9, E10, N11]; first | done | omega)) ?_
      simp only [E8, E9, E10, E12]
      clear E8 E9 E10 N11 E12
      refine nb_Gs ?_
      show nb_W 126 1 [(3, 608), (0, l7)] [(0, M.1 608 (12 + 8 * l7))] M _
      refine nb_Wg (q_m_isWaiting_1 _ _ _ _) ?_
      refine nb_Gi (fun c26 => ?_) (fun c26 => ?_)
      · have H := nb_Hw ((nb_Hu H).1 c26)
        refine nb_Gr ?_
        refine nb_Wg (q_m_isWaiting_2 _ _ _) ?_
        refine nb_Gr ?_
        have E13 : nb_i2z 1 = 1 := by decide
        refine nb_Wg (q_m_isWaiting_4 _ _ _ _) ?_
        simp only [E13]
        clear E13
        refine nb_Gs ?_
        show nb_W 189 11 [(20, 603), (0, l1), (0, l2), (0, l3), (0, l4), (0, l5), (0, l6), (0, l7), v8] [(0, 1)] M _
        refine nb_Wg (q_m_rowFrom5_11 _ _ _ _ _ _ _ _ _ _ _) ?_
        refine nb_Gf (by decide) ?_
        refine nb_Gr ?_
        obtain ⟨p0_, p1_, p2_, p3_, p4_, H⟩ := H
        replace H := nb_Hw H
        refine nb_Wg (q_m_rowFrom5_13 _ _ _ _ _ _ _ _ _ _ (by omega)) ?_
        rw [show nb_R nb_P 129 0 [(20, 603), (0, l4), (0, l7), (98, 0), (98, 0), (98, 0), (98, 0)] [] M = some ([(0, pu_tb (M.1 606) l4 l7)], M) from (sp_m_timeBehind W (by first | assumption | omega | (simp [nb_wr_up, nb_up_1, nb_ud]; first | assumption | omega)) (by omega) (by omega)).trans (by first | rfl | simp [nb_wr_up, nb_up_1, nb_up_up, nb_ud])]
        refine nb_Gp ?_
        show nb_W 189 14 [(20, 603), (0, l1), (0, l2), (0, l3), (0, l4), (0, l5), (0, l6), (0, l7), v8] [(0, pu_tb (M.1 606) l4 l7), (0, l5)] M _
        obtain ⟨p0_, p1_, p2_, p3_, H⟩ := H
        replace H := nb_Hw H
        have E14 : nb_add l5 (pu_tb (M.1 606) l4 l7) = l5 + pu_tb (M.1 606) l4 l7 := (nb_add_eq (x := l5) (y := pu_tb (M.1 606) l4 l7) (by omega) (by omega)).trans (by omega)
        have E15 : nb_rd M 603 31 = 616 := W.m31
        have N16 : nb_ln M 616 = 7 := W.lk (by decide) (by decide +kernel)
        refine nb_Wg (q_m_rowFrom5_14 _ _ _ _ _ _ _ _ _ _ _ _ (by omega) (by rw [E15]; first | done | omega) (by rw [E15]; first | done | omega) (by omega) (by rw [E15, N16]; first | done | omega)) ?_
        simp only [E14, E15]
        clear E14 E15 N16
        have W17 : nb_Lay (nb_wr M 616 l1 l7) := W.wr (fun w => (nb_nnum (by decide) (by decide)))
        refine nb_Gr ?_
        obtain ⟨p0_, p1_, H⟩ := H
        replace H := nb_Hw H
        have E18 : nb_add l1 1 = l1 + 1 := nb_add_eq (by omega) (by omega)
        have E19 : nb_add l6 (l5 + pu_tb (M.1 606) l4 l7) = l6 + (l5 + pu_tb (M.1 606) l4 l7) := nb_add_eq (by omega) (by omega)
        refine nb_Wg (q_m_rowFrom5_15 _ _ _ _ _ _ _ _ _ _ (by omega)) ?_
        simp only [E18, E19]
        clear E18 E19
        refine nb_Gb ?_
        refine nb_W.imp (nb_Hu H) (fun r M21 H => ?_)
        obtain ⟨rfl, W22, H⟩ := H
        replace H := nb_Hw H
        show nb_W 189 16 [(20, 603), (0, l1), (0, l2), (0, l3), (0, l4), (0, l5), (0, l6), (0, l7), (0, l5 + pu_tb (M.1 606) l4 l7)] [] M21 _
        have E23 : nb_add l7 1 = l7 + 1 := nb_add_eq (by omega) (by omega)
        refine nb_Wg (q_m_rowFrom5_16 _ _ _ _ _ _ _ _ _ _) ?_
        simp only [E23]
        clear E23
        refine nb_Gr ?_
        exact nb_Hu H
      · have H := nb_Hw ((nb_Hu H).2 (by omega))
        have c26 : M.1 608 (12 + 8 * l7) ≠ 1 := by omega
        refine nb_Gr ?_
        refine nb_Wg (q_m_isWaiting_3 _ _ _) ?_
        refine nb_Gr ?_
        have E24 : nb_i2z 0 = 0 := by decide
        refine nb_Wg (q_m_isWaiting_4 _ _ _ _) ?_
        simp only [E24]
        clear E24
        refine nb_Gs ?_
        show nb_W 189 11 [(20, 603), (0, l1), (0, l2), (0, l3), (0, l4), (0, l5), (0, l6), (0, l7), v8] [(0, 0)] M _
        refine nb_Wg (q_m_rowFrom5_11 _ _ _ _ _ _ _ _ _ _ _) ?_
        refine nb_Gt (by decide) ?_
        refine nb_Gr ?_
        refine nb_Wg (q_m_rowFrom5_12 _ _ _ _ _ _ _ _ _ _) ?_
        refine nb_Gr ?_
        have E25 : nb_add l7 1 = l7 + 1 := nb_add_eq (by omega) (by omega)
        refine nb_Wg (q_m_rowFrom5_16 _ _ _ _ _ _ _ _ _ _) ?_
        simp only [E25]
        clear E25
        refine nb_Gr ?_
        exact nb_Hu H
  · have H := nb_Hw ((nb_Hu H).2 (by omega))
    have c28 : M.1 606 5 ≤ l7 := by omega
    refine nb_Gr ?_
    refine nb_Wg (q_m_rowFrom5_17 _ _ _ _ _ _ _ _ _ _) ?_
    refine nb_Gs ?_
    exact nb_Hu H W

theorem w_m_rowFrom6_0 {l1 l2 l3 l4 l5 l6 : Int} {v7 v8 : nb_V} {M : nb_M} {Q : List nb_V → nb_M → Prop} (W : nb_Lay M) (H : (l6 < M.1 603 33 → (l1 = l2 → nb_W 86 0 [(3, 616), (0, 0), (3, 617), (0, 0), (0, l2), (98, 0)] [] (nb_wr M 603 33 l6) (fun r M6 => r = [] ∧ nb_Lay M6 ∧ (nb_Lay M6 → Q [] M6))) ∧ (l1 ≠ l2 → nb_W 190 7 [(20, 603), (0, l1), (0, l2), (0, l3), (0, l4), (0, l5), (0, l6), (0, 0), v8] [] M Q)) ∧ (M.1 603 33 ≤ l6 → (nb_Lay M → Q [] M))) :
    nb_W 190 0 [(20, 603), (0, l1), (0, l2), (0, l3), (0, l4), (0, l5), (0, l6), v7, v8] [] M Q := by
  replace H := nb_Hw H
  have E1 : nb_rd M 603 33 = M.1 603 33 := nb_rd_1 _ _ _
  refine nb_Wg (q_m_rowFrom6_0 _ _ _ _ _ _ _ _ _ _ (by omega)) ?_
  simp only [E1]
  clear E1
  refine nb_Gi (fun c9 => ?_) (fun c9 => ?_)
  · have H := nb_Hw ((nb_Hu H).1 c9)
    refine nb_Gr ?_
    refine nb_Wg (q_m_rowFrom6_2 _ _ _ _ _ _ _ _ _ _) ?_
    refine nb_Gi (fun c8 => ?_) (fun c8 => ?_)
    · have H := nb_Hw ((nb_Hu H).1 c8)
      refine nb_Gr ?_
      refine nb_Wg (q_m_rowFrom6_3 _ _ _ _ _ _ _ _ _ _ (by omega)) ?_
      have W2 : nb_Lay (nb_wr M 603 33 l6) := W.wr (fun w => (nb_nlit (by decide) (by decide)))
      refine nb_Gr ?_
      have E3 : nb_rd (nb_wr M 603 33 l6) 603 31 = 616 := W2.m31
      have E4 : nb_rd (nb_wr M 603 33 l6) 603 32 = 617 := W2.m32
      refine nb_Wg (q_m_rowFrom6_4 _ _ _ _ _ _ _ _ _ _ (by omega)) ?_
      simp only [E3, E4]
      clear E3 E4
      refine nb_Gb ?_
      refine nb_W.imp (nb_Hu H) (fun r M6 H => ?_)
      obtain ⟨rfl, W7, H⟩ := H
      replace H := nb_Hw H
      show nb_W 190 5 [(20, 603), (0, l1), (0, l2), (0, l3), (0, l4), (0, l5), (0, l6), v7, v8] [] M6 _
      refine nb_Wg (q_m_rowFrom6_5 _ _ _ _ _ _ _ _ _ _) ?_
      refine nb_Gs ?_
      exact nb_Hu H W7
    · have H := nb_Hw ((nb_Hu H).2 (by omega))
      have c8 : l1 ≠ l2 := by omega
      refine nb_Gr ?_
      refine nb_Wg (q_m_rowFrom6_6 _ _ _ _ _ _ _ _ _ _) ?_
      refine nb_Gr ?_
      exact nb_Hu H
  · have H := nb_Hw ((nb_Hu H).2 (by omega))
    have c9 : M.1 603 33 ≤ l6 := by omega
    refine nb_Gr ?_
    refine nb_Wg (q_m_rowFrom6_1 _ _ _ _ _ _ _ _ _ _) ?_
    refine nb_Gs ?_
    exact nb_Hu H W

theorem w_m_rowFrom6_7 {l1 l2 l3 l4 l5 l6 l7 : Int} {v8 : nb_V} {M : nb_M} {Q : List nb_V → nb_M → Prop} (W : nb_Lay M)  (b0_ : 0 ≤ l1 ∧ l1 ≤ 7) (b1_ : 0 ≤ l7 ∧ l7 ≤ 10) (b2_ : 0 ≤ l5 ∧ l5 ≤ 31500) (b3_ : 0 ≤ l6 ∧ l6 ≤ 220500) (b4_ : 0 ≤ l3 ∧ l3 ≤ 1023) (H : 0 ≤ M.1 606 5 ∧ M.1 606 5 ≤ 10 ∧ (l7 < M.1 606 5 → (nb_and (nb_shr l3 l7) 1 = 1 → nb_W 190 7 [(20, 603), (0, l1), (0, l2), (0, l3), (0, l4), (0, l5), (0, l6), (0, l7 + 1), v8] [] M Q) ∧ (nb_and (nb_shr l3 l7) 1 ≠ 1 → (M.1 608 (12 + 8 * l7) = 1 → pu_Rr (M.1 606) ∧ -1 ≤ l4 ∧ l4 ≤ 9 ∧ 0 ≤ l7 ∧ l7 ≤ 9 ∧ -2147483648 ≤ l5 + pu_tb (M.1 606) l4 l7 ∧ l5 + pu_tb (M.1 606) l4 l7 ≤ 2147483647 ∧ 0 ≤ l1 ∧ l1 < 7 ∧ -2147483648 ≤ l6 + (l5 + pu_tb (M.1 606) l4 l7) ∧ l6 + (l5 + pu_tb (M.1 606) l4 l7) ≤ 2147483647 ∧ nb_W 191 0 [(20, 603), (0, l1 + 1), (0, l2), (0, nb_or l3 (nb_shl 1 l7)), (0, l7), (0, l5 + pu_tb (M.1 606) l4 l7), (0, l6 + (l5 + pu_tb (M.1 606) l4 l7)), (98, 0), (98, 0)] [] (nb_wr M 616 l1 l7) (fun r M21 => r = [] ∧ nb_Lay M21 ∧ nb_W 190 7 [(20, 603), (0, l1), (0, l2), (0, l3), (0, l4), (0, l5), (0, l6), (0, l7 + 1), (0, l5 + pu_tb (M.1 606) l4 l7)] [] M21 Q)) ∧ (M.1 608 (12 + 8 * l7) ≠ 1 → nb_W 190 7 [(20, 603), (0, l1), (0, l2), (0, l3), (0, l4), (0, l5), (0, l6), (0, l7 + 1), v8] [] M Q))) ∧ (M.1 606 5 ≤ l7 → (nb_Lay M → Q [] M))) :
    nb_W 190 7 [(20, 603), (0, l1), (0, l2), (0, l3), (0, l4), (0, l5), (0, l6), (0, l7), v8] [] M Q := by
  replace H := nb_Hw H
  obtain ⟨p0_, p1_, H⟩ := H
  replace H := nb_Hw H
  have E1 : nb_rd M 603 15 = 606 := W.m15
  have N2 : nb_ln M 606 = 347 := W.lk (by decide) (by decide +kernel)
  have E3 : nb_rd M 606 5 = M.1 606 5 := nb_rd_1 _ _ _
  refine nb_Wg (q_m_rowFrom6_7 _ _ _ _ _ _ _ _ _ _ (by omega) (by rw [E1]; first | done | omega) (by omega) (by rw [E1, N2]; first | done | omega)) ?_
  simp only [E1, E3]
  clear E1 N2 E3
  refine nb_Gi (fun c28 => ?_) (fun c28 => ?_)
  · have H := nb_Hw ((nb_Hu H).1 c28)
    refine nb_Gr ?_
    refine nb_Wg (q_m_rowFrom6_8 _ _ _ _ _ _ _ _ _ _) ?_
    refine nb_Gb ?_
    refine nb_Wg (q_m_hasBit_0 _ _ _) ?_
    refine nb_Gi (fun c27 => ?_) (fun c27 => ?_)
    · have H := nb_Hw ((nb_Hu H).1 c27)
      refine nb_Gr ?_
      refine nb_Wg (q_m_hasBit_1 _ _ _) ?_
      refine nb_Gr ?_
      have E4 : nb_i2z 1 = 1 := by decide
      refine nb_Wg (q_m_hasBit_3 _ _ _ _) ?_
      simp only [E4]
      clear E4
      refine nb_Gs ?_
      show nb_W 190 9 [(20, 603), (0, l1), (0, l2), (0, l3), (0, l4), (0, l5), (0, l6), (0, l7), v8] [(0, 1)] M _
      refine nb_Wg (q_m_rowFrom6_9 _ _ _ _ _ _ _ _ _ _ _) ?_
      refine nb_Gf (by decide) ?_
      refine nb_Gr ?_
      have E5 : nb_add l7 1 = l7 + 1 := nb_add_eq (by omega) (by omega)
      refine nb_Wg (q_m_rowFrom6_16 _ _ _ _ _ _ _ _ _ _) ?_
      simp only [E5]
      clear E5
      refine nb_Gr ?_
      exact nb_Hu H
    · have H := nb_Hw ((nb_Hu H).2 (by omega))
      have c27 : nb_and (nb_shr l3 l7) 1 ≠ 1 := by omega
      refine nb_Gr ?_
      refine nb_Wg (q_m_hasBit_2 _ _ _) ?_
      refine nb_Gr ?_
      have E6 : nb_i2z 0 = 0 := by decide
      refine nb_Wg (q_m_hasBit_3 _ _ _ _) ?_
      simp only [E6]
      clear E6
      refine nb_Gs ?_
      show nb_W 190 9 [(20, 603), (0, l1), (0, l2), (0, l3), (0, l4), (0, l5), (0, l6), (0, l7), v8] [(0, 0)] M _
      refine nb_Wg (q_m_rowFrom6_9 _ _ _ _ _ _ _ _ _ _ _) ?_
      refine nb_Gt (by decide) ?_
      refine nb_Gr ?_
      have E7 : nb_rd M 603 17 = 608 := W.m17
      refine nb_Wg (q_m_rowFrom6_10 _ _ _ _ _ _ _ _ _ _ (by omega)) ?_
      simp only [E7]
      clear E7
      refine nb_Gb ?_
      refine nb_Wg (q_m_isWaiting_0 _ _ _) ?_
      refine nb_Gb ?_
      have E8 : nb_mul 8 l7 = 8 * l7 := nb_mul_eq (by omega) (by omega)
      have E9 : nb_add 12 (8 * l7) = 12 + 8 * l7 := (nb_add_eq (x := 12) (y := 8 * l7) (by omega) (by omega)).trans (by omega)
      have E10 : nb_add (12 + 8 * l7) 0 = 12 + 8 * l7 := (nb_add_eq (x := 12 + 8 * l7) (y := 0) (by omega) (by omega)).trans (by omega)
      have N11 : nb_ln M 608 = 108 := W.lk (by decide) (by decide +kernel)
      have E12 : nb_rd M 608 (12 + 8 * l7) = M.1 608 (12 + 8 * l7) := nb_rd_1 _ _ _
      refine nb_Wg (q_m_its_0 _ _ _ _ (by omega) (by rw [E8, E9, E10]; first | done | omega) (by rw [E8, E9, E10, N11]; first | done | omega)) ?_
      simp only [E8, E9, E10, E12]
      clear E8 E9 E10 N11 E12
      refine nb_Gs ?_
      show nb_W 126 1 [(3, 608), (0, l7)] [(0, M.1 608 (12 + 8 * l7))] M _
      refine nb_Wg (q_m_isWaiting_1 _ _ _ _) ?_
      refine nb_Gi (fun c26 => ?_) (fun c26 => ?_)
      · have H := nb_Hw ((nb_Hu H).1 c26)
        refine nb_Gr ?_
        refine nb_Wg (q_m_isWaiting_2 _ _ _) ?_
        refine nb_Gr ?_
        have E13 : nb_i2z 1 = 1 := by decide
        refine nb_Wg (q_m_isWaiting_4 _ _ _ _) ?_
        simp only [E13]
        clear E13
        refine nb_Gs ?_
        show nb_W 190 11 [(20, 603), (0, l1), (0, l2), (0, l3), (0, l4), (0, l5), (0, l6), (0, l7), v8] [(0, 1)] M _
        refine nb_Wg (q_m_rowFrom6_11 _ _ _ _ _ _ _ _ _ _ _) ?_
        refine nb_Gf (by decide) ?_
        refine nb_Gr ?_
        obtain ⟨p0_, p1_, p2_, p3_, p4_, H⟩ := H
        replace H := nb_Hw H
        refine nb_Wg (q_m_rowFrom6_13 _ _ _ _ _ _ _ _ _ _ (by omega)) ?_
        rw [show nb_R nb_P 129 0 [(20, 603), (0, l4), (0, l7), (98, 0), (98, 0), (98, 0), (98, 0)] [] M = some ([(0, pu_tb (M.1 606) l4 l7)], M) from (sp_m_timeBehind W (by first | assumption | omega | (simp [nb_wr_up, nb_up_1, nb_ud]; first | assumption | omega)) (by omega) (by omega)).trans (by first | rfl | simp [nb_wr_up, nb_up_1, nb_up_up, nb_ud])]
        refine nb_Gp ?_
        show nb_W 190 14 [(20, 603), (0, l1), (0, l2), (0, l3), (0, l4), (0, l5), (0, l6), (0, l7), v8] [(0, pu_tb (M.1 606) l4 l7), (0, l5)] M _
        obtain ⟨p0_, p1_, p2_, p3_, H⟩ := H
        replace H := nb_Hw H
        have E14 : nb_add l5 (pu_tb (M.1 606) l4 l7) = l5 + pu_tb (M.1 606) l4 l7 := (nb_add_eq (x := l5) (y := pu_tb (M.1 606) l4 l7) (by omega) (by omega)).trans (by omega)
        have E15 : nb_rd M 603 31 = 616 := W.m31
        have N16 : nb_ln M 616 = 7 := W.lk (by decide) (by decide +kernel)
        refine nb_Wg (q_m_rowFrom6_14 _ _ _ _ _ _ _ _ _ _ _ _ (by omega) (by rw [E15]; first | done | omega) (by rw [E15]; first | done | omega) (by omega) (by rw [E15, N16]; first | done | omega)) ?_
        simp only [E14, E15]
        clear E14 E15 N16
        have W17 : nb_Lay (nb_wr M 616 l1 l7) := W.wr (fun w => (nb_nnum (by decide) (by decide)))
        refine nb_Gr ?_
        obtain ⟨p0_, p1_, H⟩ := H
        replace H := nb_Hw H
        have E18 : nb_add l1 1 = l1 + 1 := nb_add_eq (by omega) (by omega)
        have E19 : nb_add l6 (l5 + pu_tb (M.1 606) l4 l7) = l6 + (l5 + pu_tb (M.1 606) l4 l7) := nb_add_eq (by omega) (by omega)
        refine nb_Wg (q_m_rowFrom6_15 _ _ _ _ _ _ _ _ _ _ (by omega)) ?_
        simp only [E18, E19]
        clear E18 E19
        refine nb_Gb ?_
        refine nb_W.imp (nb_Hu H) (fun r M21 H => ?_)
        obtain ⟨rfl, W22, H⟩ := H
        replace H := nb_Hw H
        show nb_W 190 16 [(20, 603), (0, l1), (0, l2), (0, l3), (0, l4), (0, l5), (0, l6), (0, l7), (0, l5 + pu_tb (M.1 606) l4 l7)] [] M21 _
        have E23 : nb_add l7 1 = l7 + 1 := nb_add_eq (by omega) (by omega)
        refine nb_Wg (q_m_rowFrom6_16 _ _ _ _ _ _ _ _ _ _) ?_
        simp only [E23]
        clear E23
        refine nb_Gr ?_
        exact nb_Hu H
      · have H := nb_Hw ((nb_Hu H).2 (by omega))
        have c26 : M.1 608 (12 + 8 * l7) ≠ 1 := by omega
        refine nb_Gr ?_
        refine nb_Wg (q_m_isWaiting_3 _ _ _) ?_
        refine nb_Gr ?_
        have E24 : nb_i2z 0 = 0 := by decide
        refine nb_Wg (q_m_isWaiting_4 _ _ _ _) ?_
        simp only [E24]
        clear E24
        refine nb_Gs ?_
        show nb_W 190 11 [(20, 603), (0, l1), (0, l2), (0, l3), (0, l4), (0, l5), (0, l6), (0, l7), v8] [(0, 0)] M _
        refine nb_Wg (q_m_rowFrom6_11 _ _ _ _ _ _ _ _ _ _ _) ?_
        refine nb_Gt (by decide) ?_
        refine nb_Gr ?_
        refine nb_Wg (q_m_rowFrom6_12 _ _ _ _ _ _ _ _ _ _) ?_
        refine nb_Gr ?_
        have E25 : nb_add l7 1 = l7 + 1 := nb_add_eq (by omega) (by omega)
        refine nb_Wg (q_m_rowFrom6_16 _ _ _ _ _ _ _ _ _ _) ?_
        simp only [E25]
        clear E25
        refine nb_Gr ?_
        exact nb_Hu H
  · have H := nb_Hw ((nb_Hu H).2 (by omega))
    have c28 : M.1 606 5 ≤ l7 := by omega
    refine nb_Gr ?_
    refine nb_Wg (q_m_rowFrom6_17 _ _ _ _ _ _ _ _ _ _) ?_
    refine nb_Gs ?_
    exact nb_Hu H W

theorem w_m_rowFrom7_0 {l1 l2 l3 l4 l5 l6 : Int} {v7 v8 : nb_V} {M : nb_M} {Q : List nb_V → nb_M → Prop} (W : nb_Lay M) (H : (l6 < M.1 603 33 → (l1 = l2 → nb_W 86 0 [(3, 616), (0, 0), (3, 617), (0, 0), (0, l2), (98, 0)] [] (nb_wr M 603 33 l6) (fun r M6 => r = [] ∧ nb_Lay M6 ∧ (nb_Lay M6 → Q [] M6))) ∧ (l1 ≠ l2 → nb_W 191 7 [(20, 603), (0, l1), (0, l2), (0, l3), (0, l4), (0, l5), (0, l6), (0, 0), v8] [] M Q)) ∧ (M.1 603 33 ≤ l6 → (nb_Lay M → Q [] M))) :
    nb_W 191 0 [(20, 603), (0, l1), (0, l2), (0, l3), (0, l4), (0, l5), (0, l6), v7, v8] [] M Q := by
  replace H := nb_Hw H
  have E1 : nb_rd M 603 33 = M.1 603 33 := nb_rd_1 _ _ _
  refine nb_Wg (q_m_rowFrom7_0 _ _ _ _ _ _ _ _ _ _ (by omega)) ?_
  simp only [E1]
  clear E1
  refine nb_Gi (fun c9 => ?_) (fun c9 => ?_)
  · have H := nb_Hw ((nb_Hu H).1 c9)
    refine nb_Gr ?_
    refine nb_Wg (q_m_rowFrom7_2 _ _ _ _ _ _ _ _ _ _) ?_
    refine nb_Gi (fun c8 => ?_) (fun c8 => ?_)
    · have H := nb_Hw ((nb_Hu H).1 c8)
      refine nb_Gr ?_
      refine nb_Wg (q_m_rowFrom7_3 _ _ _ _ _ _ _ _ _ _ (by omega)) ?_
      have W2 : nb_Lay (nb_wr M 603 33 l6) := W.wr (fun w => (nb_nlit (by decide) (by decide)))
      refine nb_Gr ?_
      have E3 : nb_rd (nb_wr M 603 33 l6) 603 31 = 616 := W2.m31
      have E4 : nb_rd (nb_wr M 603 33 l6) 603 32 = 617 := W2.m32
      refine nb_Wg (q_m_rowFrom7_4 _ _ _ _ _ _ _ _ _ _ (by omega)) ?_
      simp only [E3, E4]
      clear E3 E4
      refine nb_Gb ?_
      refine nb_W.imp (nb_Hu H) (fun r M6 H => ?_)
      obtain ⟨rfl, W7, H⟩ := H
      replace H := nb_Hw H
      show nb_W 191 5 [(20, 603), (0, l1), (0, l2), (0, l3), (0, l4), (0, l5), (0, l6), v7, v8] [] M6 _
      refine nb_Wg (q_m_rowFrom7_5 _ _ _ _ _ _ _ _ _ _) ?_
      refine nb_Gs ?_
      exact nb_Hu H W7
    · have H := nb_Hw ((nb_Hu H).2 (by omega))
      have c8 : l1 ≠ l2 := by omega
      refine nb_Gr ?_
      refine nb_Wg (q_m_rowFrom7_6 _ _ _ _ _ _ _ _ _ _) ?_
      refine nb_Gr ?_
      exact nb_Hu H
  · have H := nb_Hw ((nb_Hu H).2 (by omega))
    have c9 : M.1 603 33 ≤ l6 := by omega
    refine nb_Gr ?_
    refine nb_Wg (q_m_rowFrom7_1 _ _ _ _ _ _ _ _ _ _) ?_
    refine nb_Gs ?_
    exact nb_Hu H W

