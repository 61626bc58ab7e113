/-! rules, printed by wip/gen -/
theorem w_rd_step_0 {So : Int} {M : nb_M} {Q : List nb_V → nb_M → Prop} (W : nb_Lay M) (hSo : nb_hs So) (h764 : M.1 76 4 = So) (H : (M.1 76 9 = 0 → (M.1 76 6 < M.1 77 3 → (M.1 76 6 < 1000 → 0 ≤ nb_add (M.1 76 6) 1 ∧ nb_add (M.1 76 6) 1 < 1001 ∧ (nb_Lay (nb_wr (nb_wr (nb_wr M 76 6 (nb_add (M.1 76 6) 1)) 76 7 (M.1 78 (nb_add (M.1 76 6) 1))) 76 8 (M.1 80 (nb_add (M.1 76 6) 1))) → Q [] (nb_wr (nb_wr (nb_wr M 76 6 (nb_add (M.1 76 6) 1)) 76 7 (M.1 78 (nb_add (M.1 76 6) 1))) 76 8 (M.1 80 (nb_add (M.1 76 6) 1))))) ∧ (1000 ≤ M.1 76 6 → (nb_Lay M → Q [] M))) ∧ (M.1 77 3 ≤ M.1 76 6 → (nb_Lay M → Q [] M))) ∧ (M.1 76 9 ≠ 0 → (nb_Lay M → Q [] M))) :
    nb_W 225 0 [(13, 76)] [] M Q := by
  replace H := nb_Hw H
  have uhSo := hSo
  unfold nb_hs at uhSo
  have E1 : nb_rd M 76 9 = M.1 76 9 := nb_rd_1 _ _ _
  refine nb_Wg (q_rd_step_0 _ _ (by omega)) ?_
  simp only [E1]
  clear E1
  refine nb_Gi (fun c22 => ?_) (fun c22 => ?_)
  · have H := nb_Hw ((nb_Hu H).1 c22)
    refine nb_Gr ?_
    have E2 : nb_rd M 76 6 = M.1 76 6 := nb_rd_1 _ _ _
    have E3 : nb_rd M 76 0 = 77 := W.r0
    have E4 : nb_rd M 77 3 = M.1 77 3 := nb_rd_1 _ _ _
    refine nb_Wg (q_rd_step_1 _ _ (by omega) (by rw [E3]; first | done | omega)) ?_
    simp only [E2, E3, E4]
    clear E2 E3 E4
    refine nb_Gi (fun c21 => ?_) (fun c21 => ?_)
    · have H := nb_Hw ((nb_Hu H).1 c21)
      refine nb_Gr ?_
      have E5 : nb_rd M 76 6 = M.1 76 6 := nb_rd_1 _ _ _
      refine nb_Wg (q_rd_step_2 _ _ (by omega)) ?_
      simp only [E5]
      clear E5
      refine nb_Gi (fun c20 => ?_) (fun c20 => ?_)
      · have H := nb_Hw ((nb_Hu H).1 c20)
        refine nb_Gr ?_
        have E6 : nb_rd M 76 6 = M.1 76 6 := nb_rd_1 _ _ _
        refine nb_Wg (q_rd_step_3 _ _ (by omega)) ?_
        simp only [E6]
        clear E6
        have W7 : nb_Lay (nb_wr M 76 6 (nb_add (M.1 76 6) 1)) := W.wr (fun w => (nb_nlit (by decide) (by decide)))
        refine nb_Gr ?_
        obtain ⟨p0_, p1_, H⟩ := H
        replace H := nb_Hw H
        have E8 : nb_rd (nb_wr M 76 6 (nb_add (M.1 76 6) 1)) 76 0 = 77 := W7.r0
        have E9 : nb_rd (nb_wr M 76 6 (nb_add (M.1 76 6) 1)) 77 0 = 78 := W7.k0
        have E10 : nb_rd (nb_wr M 76 6 (nb_add (M.1 76 6) 1)) 76 6 = nb_add (M.1 76 6) 1 := nb_rd_same _ _ _ _
        have N11 : nb_ln (nb_wr M 76 6 (nb_add (M.1 76 6) 1)) 78 = 1001 := W7.lk (by decide) (by decide +kernel)
        have E12 : nb_rd (nb_wr M 76 6 (nb_add (M.1 76 6) 1)) 78 (nb_add (M.1 76 6) 1) = M.1 78 (nb_add (M.1 76 6) 1) := nb_rdw (Or.inl (by decide)) (nb_rd_1 _ _ _)
        refine nb_Wg (q_rd_step_4 _ _ (by omega) (by rw [E8]; first | done | omega) (by rw [E8, E9]; first | done | omega) (by rw [E10]; first | done | omega) (by rw [E10, E8, E9, N11]; first | done | omega)) ?_
        simp only [E8, E9, E10, E12]
        clear E8 E9 E10 N11 E12
        have W13 : nb_Lay (nb_wr (nb_wr M 76 6 (nb_add (M.1 76 6) 1)) 76 7 (M.1 78 (nb_add (M.1 76 6) 1))) := W7.wr (fun w => (nb_nlit (by decide) (by decide)))
        refine nb_Gr ?_
        have E14 : nb_rd (nb_wr (nb_wr M 76 6 (nb_add (M.1 76 6) 1)) 76 7 (M.1 78 (nb_add (M.1 76 6) 1))) 76 0 = 77 := W13.r0
        have E15 : nb_rd (nb_wr (nb_wr M 76 6 (nb_add (M.1 76 6) 1)) 76 7 (M.1 78 (nb_add (M.1 76 6) 1))) 77 2 = 80 := W13.k2
        have E16 : nb_rd (nb_wr (nb_wr M 76 6 (nb_add (M.1 76 6) 1)) 76 7 (M.1 78 (nb_add (M.1 76 6) 1))) 76 6 = nb_add (M.1 76 6) 1 := nb_rdw (Or.inr (by decide)) (nb_rd_same _ _ _ _)
        have N17 : nb_ln (nb_wr (nb_wr M 76 6 (nb_add (M.1 76 6) 1)) 76 7 (M.1 78 (nb_add (M.1 76 6) 1))) 80 = 1001 := W13.lk (by decide) (by decide +kernel)
        have E18 : nb_rd (nb_wr (nb_wr M 76 6 (nb_add (M.1 76 6) 1)) 76 7 (M.1 78 (nb_add (M.1 76 6) 1))) 80 (nb_add (M.1 76 6) 1) = M.1 80 (nb_add (M.1 76 6) 1) := nb_rdw (Or.inl (by decide)) (nb_rdw (Or.inl (by decide)) (nb_rd_1 _ _ _))
        refine nb_Wg (q_rd_step_5 _ _ (by omega) (by rw [E14]; first | done | omega) (by rw [E14, E15]; first | done | omega) (by rw [E16]; first | done | omega) (by rw [E16, E14, E15, N17]; first | done | omega)) ?_
        simp only [E14, E15, E16, E18]
        clear E14 E15 E16 N17 E18
        have W19 : nb_Lay (nb_wr (nb_wr (nb_wr M 76 6 (nb_add (M.1 76 6) 1)) 76 7 (M.1 78 (nb_add (M.1 76 6) 1))) 76 8 (M.1 80 (nb_add (M.1 76 6) 1))) := W13.wr (fun w => (nb_nlit (by decide) (by decide)))
        refine nb_Gr ?_
        refine nb_Wg (q_rd_step_6 _ _) ?_
        refine nb_Gs ?_
        exact nb_Hu H W19
      · have H := nb_Hw ((nb_Hu H).2 (by omega))
        have c20 : 1000 ≤ M.1 76 6 := by omega
        refine nb_Gr ?_
        refine nb_Wg (q_rd_step_6 _ _) ?_
        refine nb_Gs ?_
        exact nb_Hu H W
    · have H := nb_Hw ((nb_Hu H).2 (by omega))
      have c21 : M.1 77 3 ≤ M.1 76 6 := by omega
      refine nb_Gr ?_
      refine nb_Wg (q_rd_step_6 _ _) ?_
      refine nb_Gs ?_
      exact nb_Hu H W
  · have H := nb_Hw ((nb_Hu H).2 (by omega))
    have c22 : M.1 76 9 ≠ 0 := by omega
    refine nb_Gr ?_
    refine nb_Wg (q_rd_step_6 _ _) ?_
    refine nb_Gs ?_
    exact nb_Hu H W

theorem w_rd_fail_0 {l1 So : Int} {M : nb_M} {Q : List nb_V → nb_M → Prop} (W : nb_Lay M) (hSo : nb_hs So) (h764 : M.1 76 4 = So) (H : (M.1 76 9 = 0 → 0 ≤ M.1 76 6 ∧ M.1 76 6 < 1001 ∧ (nb_Lay (nb_wr (nb_wr M 76 9 l1) 76 10 (M.1 79 (M.1 76 6))) → Q [] (nb_wr (nb_wr M 76 9 l1) 76 10 (M.1 79 (M.1 76 6))))) ∧ (M.1 76 9 ≠ 0 → (nb_Lay M → Q [] M))) :
    nb_W 226 0 [(13, 76), (0, l1)] [] M Q := by
  replace H := nb_Hw H
  have uhSo := hSo
  unfold nb_hs at uhSo
  have E1 : nb_rd M 76 9 = M.1 76 9 := nb_rd_1 _ _ _
  refine nb_Wg (q_rd_fail_0 _ _ _ (by omega)) ?_
  simp only [E1]
  clear E1
  refine nb_Gi (fun c9 => ?_) (fun c9 => ?_)
  · have H := nb_Hw ((nb_Hu H).1 c9)
    refine nb_Gr ?_
    refine nb_Wg (q_rd_fail_1 _ _ _ (by omega)) ?_
    have W2 : nb_Lay (nb_wr M 76 9 l1) := W.wr (fun w => (nb_nlit (by decide) (by decide)))
    refine nb_Gr ?_
    obtain ⟨p0_, p1_, H⟩ := H
    replace H := nb_Hw H
    have E3 : nb_rd (nb_wr M 76 9 l1) 76 0 = 77 := W2.r0
    have E4 : nb_rd (nb_wr M 76 9 l1) 77 1 = 79 := W2.k1
    have E5 : nb_rd (nb_wr M 76 9 l1) 76 6 = M.1 76 6 := nb_rdw (Or.inr (by decide)) (nb_rd_1 _ _ _)
    have N6 : nb_ln (nb_wr M 76 9 l1) 79 = 1001 := W2.lk (by decide) (by decide +kernel)
    have E7 : nb_rd (nb_wr M 76 9 l1) 79 (M.1 76 6) = M.1 79 (M.1 76 6) := nb_rdw (Or.inl (by decide)) (nb_rd_1 _ _ _)
    refine nb_Wg (q_rd_fail_2 _ _ _ (by omega) (by rw [E3]; first | done | omega) (by rw [E3, E4]; first | done | omega) (by rw [E5]; first | done | omega) (by rw [E5, E3, E4, N6]; first | done | omega)) ?_
    simp only [E3, E4, E5, E7]
    clear E3 E4 E5 N6 E7
    have W8 : nb_Lay (nb_wr (nb_wr M 76 9 l1) 76 10 (M.1 79 (M.1 76 6))) := W2.wr (fun w => (nb_nlit (by decide) (by decide)))
    refine nb_Gr ?_
    refine nb_Wg (q_rd_fail_3 _ _ _) ?_
    refine nb_Gs ?_
    exact nb_Hu H W8
  · have H := nb_Hw ((nb_Hu H).2 (by omega))
    have c9 : M.1 76 9 ≠ 0 := by omega
    refine nb_Gr ?_
    refine nb_Wg (q_rd_fail_3 _ _ _) ?_
    refine nb_Gs ?_
    exact nb_Hu H W

theorem w_rd_stands_0 {l1 So : Int} {M : nb_M} {Q : List nb_V → nb_M → Prop} (W : nb_Lay M) (hSo : nb_hs So) (h764 : M.1 76 4 = So) (H : (M.1 76 7 = 1 → nb_W 292 0 [(2, l1), (98, 0), (98, 0), (98, 0)] [] M (fun r M4 => ∃ x3 : Int, r = [(1, x3)] ∧ nb_Lay M4 ∧ M4.1 76 4 = So ∧ (nb_lcmp (M.1 76 8) x3 = 0 → (nb_Lay M4 → Q [(0, 1)] M4)) ∧ (nb_lcmp (M.1 76 8) x3 ≠ 0 → (nb_Lay M4 → Q [(0, 0)] M4)))) ∧ (M.1 76 7 ≠ 1 → (M.1 76 7 = 2 → nb_W 292 0 [(2, l1), (98, 0), (98, 0), (98, 0)] [] M (fun r M13 => ∃ x12 : Int, r = [(1, x12)] ∧ nb_Lay M13 ∧ M13.1 76 4 = So ∧ (nb_lcmp (M.1 76 8) x12 = 0 → (nb_Lay M13 → Q [(0, 1)] M13)) ∧ (nb_lcmp (M.1 76 8) x12 ≠ 0 → (nb_Lay M13 → Q [(0, 0)] M13)))) ∧ (M.1 76 7 ≠ 2 → (nb_Lay M → Q [(0, 0)] M)))) :
    nb_W 227 0 [(13, 76), (2, l1)] [] M Q := by
  replace H := nb_Hw H
  have uhSo := hSo
  unfold nb_hs at uhSo
  have E1 : nb_rd M 76 7 = M.1 76 7 := nb_rd_1 _ _ _
  refine nb_Wg (q_rd_stands_0 _ _ _ (by omega)) ?_
  simp only [E1]
  clear E1
  refine nb_Gi (fun c21 => ?_) (fun c21 => ?_)
  · have H := nb_Hw ((nb_Hu H).1 c21)
    refine nb_Gr ?_
    have E2 : nb_rd M 76 8 = M.1 76 8 := nb_rd_1 _ _ _
    refine nb_Wg (q_rd_stands_2 _ _ _ (by omega)) ?_
    simp only [E2]
    clear E2
    refine nb_Gb ?_
    refine nb_W.imp (nb_Hu H) (fun r M4 H => ?_)
    obtain ⟨x3, rfl, W5, g6, H⟩ := H
    replace H := nb_Hw H
    show nb_W 227 3 [(13, 76), (2, l1)] [(1, x3), (1, M.1 76 8)] M4 _
    refine nb_Wg (q_rd_stands_3 _ _ _ _ _) ?_
    refine nb_Gi (fun c9 => ?_) (fun c9 => ?_)
    · have H := nb_Hw ((nb_Hu H).1 c9)
      refine nb_Gr ?_
      refine nb_Wg (q_rd_stands_4 _ _ _) ?_
      refine nb_Gr ?_
      have E7 : nb_i2z 1 = 1 := by decide
      refine nb_Wg (q_rd_stands_6 _ _ _ _) ?_
      simp only [E7]
      clear E7
      refine nb_Gs ?_
      exact nb_Hu H W5
    · have H := nb_Hw ((nb_Hu H).2 (by omega))
      have c9 : nb_lcmp (M.1 76 8) x3 ≠ 0 := by omega
      refine nb_Gr ?_
      refine nb_Wg (q_rd_stands_5 _ _ _) ?_
      refine nb_Gr ?_
      have E8 : nb_i2z 0 = 0 := by decide
      refine nb_Wg (q_rd_stands_6 _ _ _ _) ?_
      simp only [E8]
      clear E8
      refine nb_Gs ?_
      exact nb_Hu H W5
  · have H := nb_Hw ((nb_Hu H).2 (by omega))
    have c21 : M.1 76 7 ≠ 1 := by omega
    refine nb_Gr ?_
    have E10 : nb_rd M 76 7 = M.1 76 7 := nb_rd_1 _ _ _
    refine nb_Wg (q_rd_stands_1 _ _ _ (by omega)) ?_
    simp only [E10]
    clear E10
    refine nb_Gi (fun c20 => ?_) (fun c20 => ?_)
    · have H := nb_Hw ((nb_Hu H).1 c20)
      refine nb_Gr ?_
      have E11 : nb_rd M 76 8 = M.1 76 8 := nb_rd_1 _ _ _
      refine nb_Wg (q_rd_stands_2 _ _ _ (by omega)) ?_
      simp only [E11]
      clear E11
      refine nb_Gb ?_
      refine nb_W.imp (nb_Hu H) (fun r M13 H => ?_)
      obtain ⟨x12, rfl, W14, g15, H⟩ := H
      replace H := nb_Hw H
      show nb_W 227 3 [(13, 76), (2, l1)] [(1, x12), (1, M.1 76 8)] M13 _
      refine nb_Wg (q_rd_stands_3 _ _ _ _ _) ?_
      refine nb_Gi (fun c18 => ?_) (fun c18 => ?_)
      · have H := nb_Hw ((nb_Hu H).1 c18)
        refine nb_Gr ?_
        refine nb_Wg (q_rd_stands_4 _ _ _) ?_
        refine nb_Gr ?_
        have E16 : nb_i2z 1 = 1 := by decide
        refine nb_Wg (q_rd_stands_6 _ _ _ _) ?_
        simp only [E16]
        clear E16
        refine nb_Gs ?_
        exact nb_Hu H W14
      · have H := nb_Hw ((nb_Hu H).2 (by omega))
        have c18 : nb_lcmp (M.1 76 8) x12 ≠ 0 := by omega
        refine nb_Gr ?_
        refine nb_Wg (q_rd_stands_5 _ _ _) ?_
        refine nb_Gr ?_
        have E17 : nb_i2z 0 = 0 := by decide
        refine nb_Wg (q_rd_stands_6 _ _ _ _) ?_
        simp only [E17]
        clear E17
        refine nb_Gs ?_
        exact nb_Hu H W14
    · have H := nb_Hw ((nb_Hu H).2 (by omega))
      have c20 : M.1 76 7 ≠ 2 := by omega
      refine nb_Gr ?_
      refine nb_Wg (q_rd_stands_5 _ _ _) ?_
      refine nb_Gr ?_
      have E19 : nb_i2z 0 = 0 := by decide
      refine nb_Wg (q_rd_stands_6 _ _ _ _) ?_
      simp only [E19]
      clear E19
      refine nb_Gs ?_
      exact nb_Hu H W

theorem w_rd_beginLine_0 {l1 l2 So : Int} {M : nb_M} {Q : List nb_V → nb_M → Prop} (W : nb_Lay M) (hSo : nb_hs So) (h764 : M.1 76 4 = So) (H : (l1 < l2 → nb_W 225 0 [(13, 76)] [] M (fun r M2 => r = [] ∧ nb_Lay M2 ∧ M2.1 76 4 = So ∧ (nb_Lay M2 → Q [] M2))) ∧ (l2 ≤ l1 → nb_W 226 0 [(13, 76), (0, 5)] [] M (fun r M6 => r = [] ∧ nb_Lay M6 ∧ M6.1 76 4 = So ∧ nb_W 225 0 [(13, 76)] [] M6 (fun r M10 => r = [] ∧ nb_Lay M10 ∧ M10.1 76 4 = So ∧ (nb_Lay M10 → Q [] M10))))) :
    nb_W 238 0 [(13, 76), (0, l1), (0, l2)] [] M Q := by
  replace H := nb_Hw H
  have uhSo := hSo
  unfold nb_hs at uhSo
  refine nb_Wg (q_rd_beginLine_0 _ _ _ _) ?_
  refine nb_Gi (fun c13 => ?_) (fun c13 => ?_)
  · have H := nb_Hw ((nb_Hu H).1 c13)
    refine nb_Gr ?_
    refine nb_Wg (q_rd_beginLine_2 _ _ _ _ (by omega)) ?_
    refine nb_Gb ?_
    refine nb_W.imp (nb_Hu H) (fun r M2 H => ?_)
    obtain ⟨rfl, W3, g4, H⟩ := H
    replace H := nb_Hw H
    show nb_W 238 3 [(13, 76), (0, l1), (0, l2)] [] M2 _
    refine nb_Wg (q_rd_beginLine_3 _ _ _ _) ?_
    refine nb_Gs ?_
    exact nb_Hu H W3
  · have H := nb_Hw ((nb_Hu H).2 (by omega))
    have c13 : l2 ≤ l1 := by omega
    refine nb_Gr ?_
    refine nb_Wg (q_rd_beginLine_1 _ _ _ _ (by omega)) ?_
    refine nb_Gb ?_
    refine nb_W.imp (nb_Hu H) (fun r M6 H => ?_)
    obtain ⟨rfl, W7, g8, H⟩ := H
    replace H := nb_Hw H
    show nb_W 238 2 [(13, 76), (0, l1), (0, l2)] [] M6 _
    refine nb_Wg (q_rd_beginLine_2 _ _ _ _ (by omega)) ?_
    refine nb_Gb ?_
    refine nb_W.imp (nb_Hu H) (fun r M10 H => ?_)
    obtain ⟨rfl, W11, g12, H⟩ := H
    replace H := nb_Hw H
    show nb_W 238 3 [(13, 76), (0, l1), (0, l2)] [] M10 _
    refine nb_Wg (q_rd_beginLine_3 _ _ _ _) ?_
    refine nb_Gs ?_
    exact nb_Hu H W11

theorem w_rd_tellName_0 {l1 l2 So : Int} {M : nb_M} {Q : List nb_V → nb_M → Prop} (W : nb_Lay M) (hSo : nb_hs So) (h764 : M.1 76 4 = So) (H : (M.1 76 7 = 1 → nb_W 240 0 [(13, 76), (98, 0)] [] M (fun r M3 => ∃ x2 : Int, r = [(0, x2)] ∧ nb_Lay M3 ∧ M3.1 76 4 = So ∧ (x2 < 0 → (M3.1 76 9 = 0 → (M3.1 76 5 < 18 → 0 ≤ M3.1 76 5 ∧ nb_W 225 0 [(13, 76)] [] (nb_wr (nb_wr (nb_wr (nb_wr M3 81 (M3.1 76 5) (M3.1 76 8)) 82 (M3.1 76 5) l1) 83 (M3.1 76 5) l2) 76 5 (nb_add (M3.1 76 5) 1)) (fun r M24 => r = [] ∧ nb_Lay M24 ∧ M24.1 76 4 = So ∧ (nb_Lay M24 → Q [] M24))) ∧ (18 ≤ M3.1 76 5 → nb_W 225 0 [(13, 76)] [] M3 (fun r M28 => r = [] ∧ nb_Lay M28 ∧ M28.1 76 4 = So ∧ (nb_Lay M28 → Q [] M28)))) ∧ (M3.1 76 9 ≠ 0 → nb_W 225 0 [(13, 76)] [] M3 (fun r M33 => r = [] ∧ nb_Lay M33 ∧ M33.1 76 4 = So ∧ (nb_Lay M33 → Q [] M33)))) ∧ (0 ≤ x2 → nb_W 226 0 [(13, 76), (0, 3)] [] M3 (fun r M38 => r = [] ∧ nb_Lay M38 ∧ M38.1 76 4 = So ∧ nb_W 225 0 [(13, 76)] [] M38 (fun r M42 => r = [] ∧ nb_Lay M42 ∧ M42.1 76 4 = So ∧ (nb_Lay M42 → Q [] M42)))))) ∧ (M.1 76 7 ≠ 1 → nb_W 226 0 [(13, 76), (0, 1)] [] M (fun r M47 => r = [] ∧ nb_Lay M47 ∧ M47.1 76 4 = So ∧ nb_W 225 0 [(13, 76)] [] M47 (fun r M51 => r = [] ∧ nb_Lay M51 ∧ M51.1 76 4 = So ∧ (nb_Lay M51 → Q [] M51))))) :
    nb_W 239 0 [(13, 76), (0, l1), (0, l2)] [] M Q := by
  replace H := nb_Hw H
  have uhSo := hSo
  unfold nb_hs at uhSo
  have E1 : nb_rd M 76 7 = M.1 76 7 := nb_rd_1 _ _ _
  refine nb_Wg (q_rd_tellName_0 _ _ _ _ (by omega)) ?_
  simp only [E1]
  clear E1
  refine nb_Gi (fun c54 => ?_) (fun c54 => ?_)
  · have H := nb_Hw ((nb_Hu H).1 c54)
    refine nb_Gr ?_
    refine nb_Wg (q_rd_tellName_3 _ _ _ _ (by omega)) ?_
    refine nb_Gb ?_
    refine nb_W.imp (nb_Hu H) (fun r M3 H => ?_)
    obtain ⟨x2, rfl, W4, g5, H⟩ := H
    replace H := nb_Hw H
    show nb_W 239 4 [(13, 76), (0, l1), (0, l2)] [(0, x2)] M3 _
    refine nb_Wg (q_rd_tellName_4 _ _ _ _ _) ?_
    refine nb_Gi (fun c45 => ?_) (fun c45 => ?_)
    · have H := nb_Hw ((nb_Hu H).1 c45)
      refine nb_Gr ?_
      have E6 : nb_rd M3 76 9 = M3.1 76 9 := nb_rd_1 _ _ _
      refine nb_Wg (q_rd_tellName_7 _ _ _ _ (by omega)) ?_
      simp only [E6]
      clear E6
      refine nb_Gi (fun c36 => ?_) (fun c36 => ?_)
      · have H := nb_Hw ((nb_Hu H).1 c36)
        refine nb_Gr ?_
        have E7 : nb_rd M3 76 5 = M3.1 76 5 := nb_rd_1 _ _ _
        refine nb_Wg (q_rd_tellName_8 _ _ _ _ (by omega)) ?_
        simp only [E7]
        clear E7
        refine nb_Gi (fun c31 => ?_) (fun c31 => ?_)
        · have H := nb_Hw ((nb_Hu H).1 c31)
          refine nb_Gr ?_
          obtain ⟨p0_, H⟩ := H
          replace H := nb_Hw H
          have E8 : nb_rd M3 76 1 = 81 := W4.r1
          have E9 : nb_rd M3 76 5 = M3.1 76 5 := nb_rd_1 _ _ _
          have E10 : nb_rd M3 76 8 = M3.1 76 8 := nb_rd_1 _ _ _
          have N11 : nb_ln M3 81 = 18 := W4.lk (by decide) (by decide +kernel)
          refine nb_Wg (q_rd_tellName_9 _ _ _ _ (by omega) (by rw [E8]; first | done | omega) (by rw [E8]; first | done | omega) (by rw [E9]; first | done | omega) (by rw [E9, E8, N11]; first | done | omega)) ?_
          simp only [E8, E9, E10]
          clear E8 E9 E10 N11
          have W12 : nb_Lay (nb_wr M3 81 (M3.1 76 5) (M3.1 76 8)) := W4.wr (fun w => (nb_nnum (by decide) (by decide)))
          refine nb_Gr ?_
          have E13 : nb_rd (nb_wr M3 81 (M3.1 76 5) (M3.1 76 8)) 76 2 = 82 := W12.r2
          have E14 : nb_rd (nb_wr M3 81 (M3.1 76 5) (M3.1 76 8)) 76 5 = M3.1 76 5 := nb_rdw (Or.inl (by decide)) (nb_rd_1 _ _ _)
          have N15 : nb_ln (nb_wr M3 81 (M3.1 76 5) (M3.1 76 8)) 82 = 18 := W12.lk (by decide) (by decide +kernel)
          refine nb_Wg (q_rd_tellName_10 _ _ _ _ (by omega) (by rw [E13]; first | done | omega) (by rw [E13]; first | done | omega) (by rw [E14]; first | done | omega) (by rw [E14, E13, N15]; first | done | omega)) ?_
          simp only [E13, E14]
          clear E13 E14 N15
          have W16 : nb_Lay (nb_wr (nb_wr M3 81 (M3.1 76 5) (M3.1 76 8)) 82 (M3.1 76 5) l1) := W12.wr (fun w => (nb_nnum (by decide) (by decide)))
          refine nb_Gr ?_
          have E17 : nb_rd (nb_wr (nb_wr M3 81 (M3.1 76 5) (M3.1 76 8)) 82 (M3.1 76 5) l1) 76 3 = 83 := W16.r3
          have E18 : nb_rd (nb_wr (nb_wr M3 81 (M3.1 76 5) (M3.1 76 8)) 82 (M3.1 76 5) l1) 76 5 = M3.1 76 5 := nb_rdw (Or.inl (by decide)) (nb_rdw (Or.inl (by decide)) (nb_rd_1 _ _ _))
          have N19 : nb_ln (nb_wr (nb_wr M3 81 (M3.1 76 5) (M3.1 76 8)) 82 (M3.1 76 5) l1) 83 = 18 := W16.lk (by decide) (by decide +kernel)
          refine nb_Wg (q_rd_tellName_11 _ _ _ _ (by omega) (by rw [E17]; first | done | omega) (by rw [E17]; first | done | omega) (by rw [E18]; first | done | omega) (by rw [E18, E17, N19]; first | done | omega)) ?_
          simp only [E17, E18]
          clear E17 E18 N19
          have W20 : nb_Lay (nb_wr (nb_wr (nb_wr M3 81 (M3.1 76 5) (M3.1 76 8)) 82 (M3.1 76 5) l1) 83 (M3.1 76 5) l2) := W16.wr (fun w => (nb_nnum (by decide) (by decide)))
          refine nb_Gr ?_
          have E21 : nb_rd (nb_wr (nb_wr (nb_wr M3 81 (M3.1 76 5) (M3.1 76 8)) 82 (M3.1 76 5) l1) 83 (M3.1 76 5) l2) 76 5 = M3.1 76 5 := nb_rdw (Or.inl (by decide)) (nb_rdw (Or.inl (by decide)) (nb_rdw (Or.inl (by decide)) (nb_rd_1 _ _ _)))
          refine nb_Wg (q_rd_tellName_12 _ _ _ _ (by omega)) ?_
          simp only [E21]
          clear E21
          have W22 : nb_Lay (nb_wr (nb_wr (nb_wr (nb_wr M3 81 (M3.1 76 5) (M3.1 76 8)) 82 (M3.1 76 5) l1) 83 (M3.1 76 5) l2) 76 5 (nb_add (M3.1 76 5) 1)) := W20.wr (fun w => (nb_nlit (by decide) (by decide)))
          refine nb_Gr ?_
          refine nb_Wg (q_rd_tellName_13 _ _ _ _ (by omega)) ?_
          refine nb_Gb ?_
          refine nb_W.imp (nb_Hu H) (fun r M24 H => ?_)
          obtain ⟨rfl, W25, g26, H⟩ := H
          replace H := nb_Hw H
          show nb_W 239 14 [(13, 76), (0, l1), (0, l2)] [] M24 _
          refine nb_Wg (q_rd_tellName_14 _ _ _ _) ?_
          refine nb_Gs ?_
          exact nb_Hu H W25
        · have H := nb_Hw ((nb_Hu H).2 (by omega))
          have c31 : 18 ≤ M3.1 76 5 := by omega
          refine nb_Gr ?_
          refine nb_Wg (q_rd_tellName_13 _ _ _ _ (by omega)) ?_
          refine nb_Gb ?_
          refine nb_W.imp (nb_Hu H) (fun r M28 H => ?_)
          obtain ⟨rfl, W29, g30, H⟩ := H
          replace H := nb_Hw H
          show nb_W 239 14 [(13, 76), (0, l1), (0, l2)] [] M28 _
          refine nb_Wg (q_rd_tellName_14 _ _ _ _) ?_
          refine nb_Gs ?_
          exact nb_Hu H W29
      · have H := nb_Hw ((nb_Hu H).2 (by omega))
        have c36 : M3.1 76 9 ≠ 0 := by omega
        refine nb_Gr ?_
        refine nb_Wg (q_rd_tellName_13 _ _ _ _ (by omega)) ?_
        refine nb_Gb ?_
        refine nb_W.imp (nb_Hu H) (fun r M33 H => ?_)
        obtain ⟨rfl, W34, g35, H⟩ := H
        replace H := nb_Hw H
        show nb_W 239 14 [(13, 76), (0, l1), (0, l2)] [] M33 _
        refine nb_Wg (q_rd_tellName_14 _ _ _ _) ?_
        refine nb_Gs ?_
        exact nb_Hu H W34
    · have H := nb_Hw ((nb_Hu H).2 (by omega))
      have c45 : 0 ≤ x2 := by omega
      refine nb_Gr ?_
      refine nb_Wg (q_rd_tellName_5 _ _ _ _ (by omega)) ?_
      refine nb_Gb ?_
      refine nb_W.imp (nb_Hu H) (fun r M38 H => ?_)
      obtain ⟨rfl, W39, g40, H⟩ := H
      replace H := nb_Hw H
      show nb_W 239 6 [(13, 76), (0, l1), (0, l2)] [] M38 _
      refine nb_Wg (q_rd_tellName_6 _ _ _ _) ?_
      refine nb_Gr ?_
      refine nb_Wg (q_rd_tellName_13 _ _ _ _ (by omega)) ?_
      refine nb_Gb ?_
      refine nb_W.imp (nb_Hu H) (fun r M42 H => ?_)
      obtain ⟨rfl, W43, g44, H⟩ := H
      replace H := nb_Hw H
      show nb_W 239 14 [(13, 76), (0, l1), (0, l2)] [] M42 _
      refine nb_Wg (q_rd_tellName_14 _ _ _ _) ?_
      refine nb_Gs ?_
      exact nb_Hu H W43
  · have H := nb_Hw ((nb_Hu H).2 (by omega))
    have c54 : M.1 76 7 ≠ 1 := by omega
    refine nb_Gr ?_
    refine nb_Wg (q_rd_tellName_1 _ _ _ _ (by omega)) ?_
    refine nb_Gb ?_
    refine nb_W.imp (nb_Hu H) (fun r M47 H => ?_)
    obtain ⟨rfl, W48, g49, H⟩ := H
    replace H := nb_Hw H
    show nb_W 239 2 [(13, 76), (0, l1), (0, l2)] [] M47 _
    refine nb_Wg (q_rd_tellName_2 _ _ _ _) ?_
    refine nb_Gr ?_
    refine nb_Wg (q_rd_tellName_13 _ _ _ _ (by omega)) ?_
    refine nb_Gb ?_
    refine nb_W.imp (nb_Hu H) (fun r M51 H => ?_)
    obtain ⟨rfl, W52, g53, H⟩ := H
    replace H := nb_Hw H
    show nb_W 239 14 [(13, 76), (0, l1), (0, l2)] [] M51 _
    refine nb_Wg (q_rd_tellName_14 _ _ _ _) ?_
    refine nb_Gs ?_
    exact nb_Hu H W52

theorem w_rd_find_0 {So : Int} {v1 : nb_V} {M : nb_M} {Q : List nb_V → nb_M → Prop} (W : nb_Lay M) (hSo : nb_hs So) (h764 : M.1 76 4 = So) (H : nb_W 240 1 [(13, 76), (0, 0)] [] M Q) :
    nb_W 240 0 [(13, 76), v1] [] M Q := by
  replace H := nb_Hw H
  have uhSo := hSo
  unfold nb_hs at uhSo
  refine nb_Wg (q_rd_find_0 _ _ _) ?_
  refine nb_Gr ?_
  exact nb_Hu H

theorem w_rd_find_1 {l1 So : Int} {M : nb_M} {Q : List nb_V → nb_M → Prop} (W : nb_Lay M) (hSo : nb_hs So) (h764 : M.1 76 4 = So) (H : (l1 < M.1 76 5 → 0 ≤ l1 ∧ l1 < 18 ∧ (nb_lcmp (M.1 81 l1) (M.1 76 8) = 0 → (nb_Lay M → Q [(0, l1)] M)) ∧ (nb_lcmp (M.1 81 l1) (M.1 76 8) ≠ 0 → nb_W 240 1 [(13, 76), (0, nb_add l1 1)] [] M Q)) ∧ (M.1 76 5 ≤ l1 → (nb_Lay M → Q [(0, (-1))] M))) :
    nb_W 240 1 [(13, 76), (0, l1)] [] M Q := by
  replace H := nb_Hw H
  have uhSo := hSo
  unfold nb_hs at uhSo
  have E1 : nb_rd M 76 5 = M.1 76 5 := nb_rd_1 _ _ _
  refine nb_Wg (q_rd_find_1 _ _ _ (by omega)) ?_
  simp only [E1]
  clear E1
  refine nb_Gi (fun c7 => ?_) (fun c7 => ?_)
  · have H := nb_Hw ((nb_Hu H).1 c7)
    refine nb_Gr ?_
    obtain ⟨p0_, p1_, H⟩ := H
    replace H := nb_Hw H
    have E2 : nb_rd M 76 1 = 81 := W.r1
    have N3 : nb_ln M 81 = 18 := W.lk (by decide) (by decide +kernel)
    have E4 : nb_rd M 81 l1 = M.1 81 l1 := nb_rd_1 _ _ _
    have E5 : nb_rd M 76 8 = M.1 76 8 := nb_rd_1 _ _ _
    refine nb_Wg (q_rd_find_2 _ _ _ (by omega) (by rw [E2]; first | done | omega) (by omega) (by rw [E2, N3]; first | done | omega)) ?_
    simp only [E2, E4, E5]
    clear E2 N3 E4 E5
    refine nb_Gi (fun c6 => ?_) (fun c6 => ?_)
    · have H := nb_Hw ((nb_Hu H).1 c6)
      refine nb_Gr ?_
      refine nb_Wg (q_rd_find_3 _ _ _) ?_
      refine nb_Gs ?_
      exact nb_Hu H W
    · have H := nb_Hw ((nb_Hu H).2 (by omega))
      have c6 : nb_lcmp (M.1 81 l1) (M.1 76 8) ≠ 0 := by omega
      refine nb_Gr ?_
      refine nb_Wg (q_rd_find_4 _ _ _) ?_
      refine nb_Gr ?_
      exact nb_Hu H
  · have H := nb_Hw ((nb_Hu H).2 (by omega))
    have c7 : M.1 76 5 ≤ l1 := by omega
    refine nb_Gr ?_
    refine nb_Wg (q_rd_find_5 _ _ _) ?_
    refine nb_Gs ?_
    exact nb_Hu H W

theorem w_rd_known_0 {l1 So : Int} {v2 : nb_V} {M : nb_M} {Q : List nb_V → nb_M → Prop} (W : nb_Lay M) (hSo : nb_hs So) (h764 : M.1 76 4 = So) (H : nb_W 240 0 [(13, 76), (98, 0)] [] M (fun r M2 => ∃ x1 : Int, r = [(0, x1)] ∧ nb_Lay M2 ∧ M2.1 76 4 = So ∧ (M2.1 76 7 = 1 → (x1 < 0 → nb_W 226 0 [(13, 76), (0, 2)] [] M2 (fun r M7 => r = [] ∧ nb_Lay M7 ∧ M7.1 76 4 = So ∧ (M7.1 76 9 = 0 → (nb_Lay M7 → Q [(0, (-1))] M7)) ∧ (M7.1 76 9 ≠ 0 → (nb_Lay M7 → Q [(0, (-1))] M7)))) ∧ (0 ≤ x1 → x1 < 18 ∧ (M2.1 82 x1 = l1 → (M2.1 76 9 = 0 → (nb_Lay M2 → Q [(0, M2.1 83 x1)] M2)) ∧ (M2.1 76 9 ≠ 0 → (nb_Lay M2 → Q [(0, (-1))] M2))) ∧ (M2.1 82 x1 ≠ l1 → nb_W 226 0 [(13, 76), (0, 2)] [] M2 (fun r M21 => r = [] ∧ nb_Lay M21 ∧ M21.1 76 4 = So ∧ (M21.1 76 9 = 0 → (nb_Lay M21 → Q [(0, M21.1 83 x1)] M21)) ∧ (M21.1 76 9 ≠ 0 → (nb_Lay M21 → Q [(0, (-1))] M21)))))) ∧ (M2.1 76 7 ≠ 1 → nb_W 226 0 [(13, 76), (0, 1)] [] M2 (fun r M32 => r = [] ∧ nb_Lay M32 ∧ M32.1 76 4 = So ∧ (M32.1 76 9 = 0 → (x1 < 0 → (nb_Lay M32 → Q [(0, (-1))] M32)) ∧ (0 ≤ x1 → x1 < 18 ∧ (nb_Lay M32 → Q [(0, M32.1 83 x1)] M32))) ∧ (M32.1 76 9 ≠ 0 → (nb_Lay M32 → Q [(0, (-1))] M32)))))) :
    nb_W 241 0 [(13, 76), (0, l1), v2] [] M Q := by
  replace H := nb_Hw H
  have uhSo := hSo
  unfold nb_hs at uhSo
  refine nb_Wg (q_rd_known_0 _ _ _ _ (by omega)) ?_
  refine nb_Gb ?_
  refine nb_W.imp (nb_Hu H) (fun r M2 H => ?_)
  obtain ⟨x1, rfl, W3, g4, H⟩ := H
  replace H := nb_Hw H
  show nb_W 241 1 [(13, 76), (0, l1), v2] [(0, x1)] M2 _
  have E5 : nb_rd M2 76 7 = M2.1 76 7 := nb_rd_1 _ _ _
  refine nb_Wg (q_rd_known_1 _ _ _ _ _ (by omega)) ?_
  simp only [E5]
  clear E5
  refine nb_Gi (fun c41 => ?_) (fun c41 => ?_)
  · have H := nb_Hw ((nb_Hu H).1 c41)
    refine nb_Gr ?_
    refine nb_Wg (q_rd_known_4 _ _ _ _) ?_
    refine nb_Gi (fun c30 => ?_) (fun c30 => ?_)
    · have H := nb_Hw ((nb_Hu H).1 c30)
      refine nb_Gr ?_
      refine nb_Wg (q_rd_known_6 _ _ _ _ (by omega)) ?_
      refine nb_Gb ?_
      refine nb_W.imp (nb_Hu H) (fun r M7 H => ?_)
      obtain ⟨rfl, W8, g9, H⟩ := H
      replace H := nb_Hw H
      show nb_W 241 7 [(13, 76), (0, l1), (0, x1)] [] M7 _
      have E10 : nb_rd M7 76 9 = M7.1 76 9 := nb_rd_1 _ _ _
      refine nb_Wg (q_rd_known_7 _ _ _ _ (by omega)) ?_
      simp only [E10]
      clear E10
      refine nb_Gi (fun c11 => ?_) (fun c11 => ?_)
      · have H := nb_Hw ((nb_Hu H).1 c11)
        refine nb_Gr ?_
        refine nb_Wg (q_rd_known_8 _ _ _ _) ?_
        refine nb_Gt (by omega) ?_
        refine nb_Gr ?_
        refine nb_Wg (q_rd_known_10 _ _ _ _) ?_
        refine nb_Gr ?_
        refine nb_Wg (q_rd_known_11 _ _ _ _ _) ?_
        refine nb_Gs ?_
        exact nb_Hu H W8
      · have H := nb_Hw ((nb_Hu H).2 (by omega))
        have c11 : M7.1 76 9 ≠ 0 := by omega
        refine nb_Gr ?_
        refine nb_Wg (q_rd_known_10 _ _ _ _) ?_
        refine nb_Gr ?_
        refine nb_Wg (q_rd_known_11 _ _ _ _ _) ?_
        refine nb_Gs ?_
        exact nb_Hu H W8
    · have H := nb_Hw ((nb_Hu H).2 (by omega))
      have c30 : 0 ≤ x1 := by omega
      refine nb_Gr ?_
      obtain ⟨p0_, H⟩ := H
      replace H := nb_Hw H
      have E12 : nb_rd M2 76 2 = 82 := W3.r2
      have N13 : nb_ln M2 82 = 18 := W3.lk (by decide) (by decide +kernel)
      have E14 : nb_rd M2 82 x1 = M2.1 82 x1 := nb_rd_1 _ _ _
      refine nb_Wg (q_rd_known_5 _ _ _ _ (by omega) (by rw [E12]; first | done | omega) (by omega) (by rw [E12, N13]; first | done | omega)) ?_
      simp only [E12, E14]
      clear E12 N13 E14
      refine nb_Gi (fun c29 => ?_) (fun c29 => ?_)
      · have H := nb_Hw ((nb_Hu H).1 c29)
        refine nb_Gr ?_
        have E15 : nb_rd M2 76 9 = M2.1 76 9 := nb_rd_1 _ _ _
        refine nb_Wg (q_rd_known_7 _ _ _ _ (by omega)) ?_
        simp only [E15]
        clear E15
        refine nb_Gi (fun c19 => ?_) (fun c19 => ?_)
        · have H := nb_Hw ((nb_Hu H).1 c19)
          refine nb_Gr ?_
          refine nb_Wg (q_rd_known_8 _ _ _ _) ?_
          refine nb_Gf (by omega) ?_
          refine nb_Gr ?_
          have E16 : nb_rd M2 76 3 = 83 := W3.r3
          have N17 : nb_ln M2 83 = 18 := W3.lk (by decide) (by decide +kernel)
          have E18 : nb_rd M2 83 x1 = M2.1 83 x1 := nb_rd_1 _ _ _
          refine nb_Wg (q_rd_known_9 _ _ _ _ (by omega) (by rw [E16]; first | done | omega) (by omega) (by rw [E16, N17]; first | done | omega)) ?_
          simp only [E16, E18]
          clear E16 N17 E18
          refine nb_Gr ?_
          refine nb_Wg (q_rd_known_11 _ _ _ _ _) ?_
          refine nb_Gs ?_
          exact nb_Hu H W3
        · have H := nb_Hw ((nb_Hu H).2 (by omega))
          have c19 : M2.1 76 9 ≠ 0 := by omega
          refine nb_Gr ?_
          refine nb_Wg (q_rd_known_10 _ _ _ _) ?_
          refine nb_Gr ?_
          refine nb_Wg (q_rd_known_11 _ _ _ _ _) ?_
          refine nb_Gs ?_
          exact nb_Hu H W3
      · have H := nb_Hw ((nb_Hu H).2 (by omega))
        have c29 : M2.1 82 x1 ≠ l1 := by omega
        refine nb_Gr ?_
        refine nb_Wg (q_rd_known_6 _ _ _ _ (by omega)) ?_
        refine nb_Gb ?_
        refine nb_W.imp (nb_Hu H) (fun r M21 H => ?_)
        obtain ⟨rfl, W22, g23, H⟩ := H
        replace H := nb_Hw H
        show nb_W 241 7 [(13, 76), (0, l1), (0, x1)] [] M21 _
        have E24 : nb_rd M21 76 9 = M21.1 76 9 := nb_rd_1 _ _ _
        refine nb_Wg (q_rd_known_7 _ _ _ _ (by omega)) ?_
        simp only [E24]
        clear E24
        refine nb_Gi (fun c28 => ?_) (fun c28 => ?_)
        · have H := nb_Hw ((nb_Hu H).1 c28)
          refine nb_Gr ?_
          refine nb_Wg (q_rd_known_8 _ _ _ _) ?_
          refine nb_Gf (by omega) ?_
          refine nb_Gr ?_
          have E25 : nb_rd M21 76 3 = 83 := W22.r3
          have N26 : nb_ln M21 83 = 18 := W22.lk (by decide) (by decide +kernel)
          have E27 : nb_rd M21 83 x1 = M21.1 83 x1 := nb_rd_1 _ _ _
          refine nb_Wg (q_rd_known_9 _ _ _ _ (by omega) (by rw [E25]; first | done | omega) (by omega) (by rw [E25, N26]; first | done | omega)) ?_
          simp only [E25, E27]
          clear E25 N26 E27
          refine nb_Gr ?_
          refine nb_Wg (q_rd_known_11 _ _ _ _ _) ?_
          refine nb_Gs ?_
          exact nb_Hu H W22
        · have H := nb_Hw ((nb_Hu H).2 (by omega))
          have c28 : M21.1 76 9 ≠ 0 := by omega
          refine nb_Gr ?_
          refine nb_Wg (q_rd_known_10 _ _ _ _) ?_
          refine nb_Gr ?_
          refine nb_Wg (q_rd_known_11 _ _ _ _ _) ?_
          refine nb_Gs ?_
          exact nb_Hu H W22
  · have H := nb_Hw ((nb_Hu H).2 (by omega))
    have c41 : M2.1 76 7 ≠ 1 := by omega
    refine nb_Gr ?_
    refine nb_Wg (q_rd_known_2 _ _ _ _ (by omega)) ?_
    refine nb_Gb ?_
    refine nb_W.imp (nb_Hu H) (fun r M32 H => ?_)
    obtain ⟨rfl, W33, g34, H⟩ := H
    replace H := nb_Hw H
    show nb_W 241 3 [(13, 76), (0, l1), (0, x1)] [] M32 _
    refine nb_Wg (q_rd_known_3 _ _ _ _) ?_
    refine nb_Gr ?_
    have E35 : nb_rd M32 76 9 = M32.1 76 9 := nb_rd_1 _ _ _
    refine nb_Wg (q_rd_known_7 _ _ _ _ (by omega)) ?_
    simp only [E35]
    clear E35
    refine nb_Gi (fun c40 => ?_) (fun c40 => ?_)
    · have H := nb_Hw ((nb_Hu H).1 c40)
      refine nb_Gr ?_
      refine nb_Wg (q_rd_known_8 _ _ _ _) ?_
      refine nb_Gi (fun c39 => ?_) (fun c39 => ?_)
      · have H := nb_Hw ((nb_Hu H).1 c39)
        refine nb_Gr ?_
        refine nb_Wg (q_rd_known_10 _ _ _ _) ?_
        refine nb_Gr ?_
        refine nb_Wg (q_rd_known_11 _ _ _ _ _) ?_
        refine nb_Gs ?_
        exact nb_Hu H W33
      · have H := nb_Hw ((nb_Hu H).2 (by omega))
        have c39 : 0 ≤ x1 := by omega
        refine nb_Gr ?_
        obtain ⟨p0_, H⟩ := H
        replace H := nb_Hw H
        have E36 : nb_rd M32 76 3 = 83 := W33.r3
        have N37 : nb_ln M32 83 = 18 := W33.lk (by decide) (by decide +kernel)
        have E38 : nb_rd M32 83 x1 = M32.1 83 x1 := nb_rd_1 _ _ _
        refine nb_Wg (q_rd_known_9 _ _ _ _ (by omega) (by rw [E36]; first | done | omega) (by omega) (by rw [E36, N37]; first | done | omega)) ?_
        simp only [E36, E38]
        clear E36 N37 E38
        refine nb_Gr ?_
        refine nb_Wg (q_rd_known_11 _ _ _ _ _) ?_
        refine nb_Gs ?_
        exact nb_Hu H W33
    · have H := nb_Hw ((nb_Hu H).2 (by omega))
      have c40 : M32.1 76 9 ≠ 0 := by omega
      refine nb_Gr ?_
      refine nb_Wg (q_rd_known_10 _ _ _ _) ?_
      refine nb_Gr ?_
      refine nb_Wg (q_rd_known_11 _ _ _ _ _) ?_
      refine nb_Gs ?_
      exact nb_Hu H W33

theorem w_rd_expect_0 {l1 So : Int} {M : nb_M} {Q : List nb_V → nb_M → Prop} (W : nb_Lay M) (hSo : nb_hs So) (h764 : M.1 76 4 = So) (H : nb_W 227 0 [(13, 76), (2, l1)] [] M (fun r M2 => ∃ x1 : Int, r = [(0, x1)] ∧ nb_Lay M2 ∧ M2.1 76 4 = So ∧ (x1 = 0 → nb_W 226 0 [(13, 76), (0, 1)] [] M2 (fun r M6 => r = [] ∧ nb_Lay M6 ∧ M6.1 76 4 = So ∧ nb_W 225 0 [(13, 76)] [] M6 (fun r M10 => r = [] ∧ nb_Lay M10 ∧ M10.1 76 4 = So ∧ (nb_Lay M10 → Q [] M10)))) ∧ (x1 ≠ 0 → nb_W 225 0 [(13, 76)] [] M2 (fun r M14 => r = [] ∧ nb_Lay M14 ∧ M14.1 76 4 = So ∧ (nb_Lay M14 → Q [] M14))))) :
    nb_W 242 0 [(13, 76), (2, l1)] [] M Q := by
  replace H := nb_Hw H
  have uhSo := hSo
  unfold nb_hs at uhSo
  refine nb_Wg (q_rd_expect_0 _ _ _ (by omega)) ?_
  refine nb_Gb ?_
  refine nb_W.imp (nb_Hu H) (fun r M2 H => ?_)
  obtain ⟨x1, rfl, W3, g4, H⟩ := H
  replace H := nb_Hw H
  show nb_W 242 1 [(13, 76), (2, l1)] [(0, x1)] M2 _
  refine nb_Wg (q_rd_expect_1 _ _ _ _) ?_
  refine nb_Gi (fun c17 => ?_) (fun c17 => ?_)
  · have H := nb_Hw ((nb_Hu H).1 c17)
    refine nb_Gr ?_
    refine nb_Wg (q_rd_expect_2 _ _ _ (by omega)) ?_
    refine nb_Gb ?_
    refine nb_W.imp (nb_Hu H) (fun r M6 H => ?_)
    obtain ⟨rfl, W7, g8, H⟩ := H
    replace H := nb_Hw H
    show nb_W 242 3 [(13, 76), (2, l1)] [] M6 _
    refine nb_Wg (q_rd_expect_3 _ _ _ (by omega)) ?_
    refine nb_Gb ?_
    refine nb_W.imp (nb_Hu H) (fun r M10 H => ?_)
    obtain ⟨rfl, W11, g12, H⟩ := H
    replace H := nb_Hw H
    show nb_W 242 4 [(13, 76), (2, l1)] [] M10 _
    refine nb_Wg (q_rd_expect_4 _ _ _) ?_
    refine nb_Gs ?_
    exact nb_Hu H W11
  · have H := nb_Hw ((nb_Hu H).2 (by omega))
    have c17 : x1 ≠ 0 := by omega
    refine nb_Gr ?_
    refine nb_Wg (q_rd_expect_3 _ _ _ (by omega)) ?_
    refine nb_Gb ?_
    refine nb_W.imp (nb_Hu H) (fun r M14 H => ?_)
    obtain ⟨rfl, W15, g16, H⟩ := H
    replace H := nb_Hw H
    show nb_W 242 4 [(13, 76), (2, l1)] [] M14 _
    refine nb_Wg (q_rd_expect_4 _ _ _) ?_
    refine nb_Gs ?_
    exact nb_Hu H W15

theorem w_rd_number_0 {l1 l2 l3 So : Int} {M : nb_M} {Q : List nb_V → nb_M → Prop} (W : nb_Lay M) (hSo : nb_hs So) (h764 : M.1 76 4 = So) (H : nb_W 227 0 [(13, 76), (2, l1)] [] M (fun r M2 => ∃ x1 : Int, r = [(0, x1)] ∧ nb_Lay M2 ∧ M2.1 76 4 = So ∧ (x1 = 0 → nb_W 226 0 [(13, 76), (0, 1)] [] M2 (fun r M6 => r = [] ∧ nb_Lay M6 ∧ M6.1 76 4 = So ∧ nb_W 225 0 [(13, 76)] [] M6 (fun r M10 => r = [] ∧ nb_Lay M10 ∧ M10.1 76 4 = So ∧ nb_W 244 0 [(13, 76), (0, l2), (0, l3), (98, 0)] [] M10 (fun r M14 => ∃ x13 : Int, r = [(0, x13)] ∧ nb_Lay M14 ∧ M14.1 76 4 = So ∧ (nb_Lay M14 → Q [(0, x13)] M14))))) ∧ (x1 ≠ 0 → nb_W 225 0 [(13, 76)] [] M2 (fun r M18 => r = [] ∧ nb_Lay M18 ∧ M18.1 76 4 = So ∧ nb_W 244 0 [(13, 76), (0, l2), (0, l3), (98, 0)] [] M18 (fun r M22 => ∃ x21 : Int, r = [(0, x21)] ∧ nb_Lay M22 ∧ M22.1 76 4 = So ∧ (nb_Lay M22 → Q [(0, x21)] M22)))))) :
    nb_W 243 0 [(13, 76), (2, l1), (0, l2), (0, l3)] [] M Q := by
  replace H := nb_Hw H
  have uhSo := hSo
  unfold nb_hs at uhSo
  refine nb_Wg (q_rd_number_0 _ _ _ _ _ (by omega)) ?_
  refine nb_Gb ?_
  refine nb_W.imp (nb_Hu H) (fun r M2 H => ?_)
  obtain ⟨x1, rfl, W3, g4, H⟩ := H
  replace H := nb_Hw H
  show nb_W 243 1 [(13, 76), (2, l1), (0, l2), (0, l3)] [(0, x1)] M2 _
  refine nb_Wg (q_rd_number_1 _ _ _ _ _ _) ?_
  refine nb_Gi (fun c25 => ?_) (fun c25 => ?_)
  · have H := nb_Hw ((nb_Hu H).1 c25)
    refine nb_Gr ?_
    refine nb_Wg (q_rd_number_2 _ _ _ _ _ (by omega)) ?_
    refine nb_Gb ?_
    refine nb_W.imp (nb_Hu H) (fun r M6 H => ?_)
    obtain ⟨rfl, W7, g8, H⟩ := H
    replace H := nb_Hw H
    show nb_W 243 3 [(13, 76), (2, l1), (0, l2), (0, l3)] [] M6 _
    refine nb_Wg (q_rd_number_3 _ _ _ _ _ (by omega)) ?_
    refine nb_Gb ?_
    refine nb_W.imp (nb_Hu H) (fun r M10 H => ?_)
    obtain ⟨rfl, W11, g12, H⟩ := H
    replace H := nb_Hw H
    show nb_W 243 4 [(13, 76), (2, l1), (0, l2), (0, l3)] [] M10 _
    refine nb_Wg (q_rd_number_4 _ _ _ _ _ (by omega)) ?_
    refine nb_Gb ?_
    refine nb_W.imp (nb_Hu H) (fun r M14 H => ?_)
    obtain ⟨x13, rfl, W15, g16, H⟩ := H
    replace H := nb_Hw H
    show nb_W 243 5 [(13, 76), (2, l1), (0, l2), (0, l3)] [(0, x13)] M14 _
    refine nb_Wg (q_rd_number_5 _ _ _ _ _ _) ?_
    refine nb_Gs ?_
    exact nb_Hu H W15
  · have H := nb_Hw ((nb_Hu H).2 (by omega))
    have c25 : x1 ≠ 0 := by omega
    refine nb_Gr ?_
    refine nb_Wg (q_rd_number_3 _ _ _ _ _ (by omega)) ?_
    refine nb_Gb ?_
    refine nb_W.imp (nb_Hu H) (fun r M18 H => ?_)
    obtain ⟨rfl, W19, g20, H⟩ := H
    replace H := nb_Hw H
    show nb_W 243 4 [(13, 76), (2, l1), (0, l2), (0, l3)] [] M18 _
    refine nb_Wg (q_rd_number_4 _ _ _ _ _ (by omega)) ?_
    refine nb_Gb ?_
    refine nb_W.imp (nb_Hu H) (fun r M22 H => ?_)
    obtain ⟨x21, rfl, W23, g24, H⟩ := H
    replace H := nb_Hw H
    show nb_W 243 5 [(13, 76), (2, l1), (0, l2), (0, l3)] [(0, x21)] M22 _
    refine nb_Wg (q_rd_number_5 _ _ _ _ _ _) ?_
    refine nb_Gs ?_
    exact nb_Hu H W23

theorem w_rd_whole_0 {l1 l2 So : Int} {v3 : nb_V} {M : nb_M} {Q : List nb_V → nb_M → Prop} (W : nb_Lay M) (hSo : nb_hs So) (h764 : M.1 76 4 = So) (H : (M.1 76 7 = 3 → (nb_l2i (M.1 76 8) < l1 → nb_W 226 0 [(13, 76), (0, 4)] [] M (fun r M4 => r = [] ∧ nb_Lay M4 ∧ M4.1 76 4 = So ∧ nb_W 225 0 [(13, 76)] [] M4 (fun r M8 => r = [] ∧ nb_Lay M8 ∧ M8.1 76 4 = So ∧ (nb_Lay M8 → Q [(0, nb_l2i (M.1 76 8))] M8)))) ∧ (l1 ≤ nb_l2i (M.1 76 8) → (l2 < nb_l2i (M.1 76 8) → nb_W 226 0 [(13, 76), (0, 4)] [] M (fun r M12 => r = [] ∧ nb_Lay M12 ∧ M12.1 76 4 = So ∧ nb_W 225 0 [(13, 76)] [] M12 (fun r M16 => r = [] ∧ nb_Lay M16 ∧ M16.1 76 4 = So ∧ (nb_Lay M16 → Q [(0, nb_l2i (M.1 76 8))] M16)))) ∧ (nb_l2i (M.1 76 8) ≤ l2 → nb_W 225 0 [(13, 76)] [] M (fun r M20 => r = [] ∧ nb_Lay M20 ∧ M20.1 76 4 = So ∧ (nb_Lay M20 → Q [(0, nb_l2i (M.1 76 8))] M20))))) ∧ (M.1 76 7 ≠ 3 → nb_W 226 0 [(13, 76), (0, 1)] [] M (fun r M26 => r = [] ∧ nb_Lay M26 ∧ M26.1 76 4 = So ∧ nb_W 225 0 [(13, 76)] [] M26 (fun r M30 => r = [] ∧ nb_Lay M30 ∧ M30.1 76 4 = So ∧ (nb_Lay M30 → Q [(0, nb_l2i (M.1 76 8))] M30))))) :
    nb_W 244 0 [(13, 76), (0, l1), (0, l2), v3] [] M Q := by
  replace H := nb_Hw H
  have uhSo := hSo
  unfold nb_hs at uhSo
  have E1 : nb_rd M 76 8 = M.1 76 8 := nb_rd_1 _ _ _
  have E2 : nb_rd M 76 7 = M.1 76 7 := nb_rd_1 _ _ _
  refine nb_Wg (q_rd_whole_0 _ _ _ _ _ (by omega)) ?_
  simp only [E1, E2]
  clear E1 E2
  refine nb_Gi (fun c33 => ?_) (fun c33 => ?_)
  · have H := nb_Hw ((nb_Hu H).1 c33)
    refine nb_Gr ?_
    refine nb_Wg (q_rd_whole_3 _ _ _ _ _) ?_
    refine nb_Gi (fun c24 => ?_) (fun c24 => ?_)
    · have H := nb_Hw ((nb_Hu H).1 c24)
      refine nb_Gr ?_
      refine nb_Wg (q_rd_whole_5 _ _ _ _ _ (by omega)) ?_
      refine nb_Gb ?_
      refine nb_W.imp (nb_Hu H) (fun r M4 H => ?_)
      obtain ⟨rfl, W5, g6, H⟩ := H
      replace H := nb_Hw H
      show nb_W 244 6 [(13, 76), (0, l1), (0, l2), (0, nb_l2i (M.1 76 8))] [] M4 _
      refine nb_Wg (q_rd_whole_6 _ _ _ _ _ (by omega)) ?_
      refine nb_Gb ?_
      refine nb_W.imp (nb_Hu H) (fun r M8 H => ?_)
      obtain ⟨rfl, W9, g10, H⟩ := H
      replace H := nb_Hw H
      show nb_W 244 7 [(13, 76), (0, l1), (0, l2), (0, nb_l2i (M.1 76 8))] [] M8 _
      refine nb_Wg (q_rd_whole_7 _ _ _ _ _) ?_
      refine nb_Gs ?_
      exact nb_Hu H W9
    · have H := nb_Hw ((nb_Hu H).2 (by omega))
      have c24 : l1 ≤ nb_l2i (M.1 76 8) := by omega
      refine nb_Gr ?_
      refine nb_Wg (q_rd_whole_4 _ _ _ _ _) ?_
      refine nb_Gi (fun c23 => ?_) (fun c23 => ?_)
      · have H := nb_Hw ((nb_Hu H).1 c23)
        refine nb_Gr ?_
        refine nb_Wg (q_rd_whole_5 _ _ _ _ _ (by omega)) ?_
        refine nb_Gb ?_
        refine nb_W.imp (nb_Hu H) (fun r M12 H => ?_)
        obtain ⟨rfl, W13, g14, H⟩ := H
        replace H := nb_Hw H
        show nb_W 244 6 [(13, 76), (0, l1), (0, l2), (0, nb_l2i (M.1 76 8))] [] M12 _
        refine nb_Wg (q_rd_whole_6 _ _ _ _ _ (by omega)) ?_
        refine nb_Gb ?_
        refine nb_W.imp (nb_Hu H) (fun r M16 H => ?_)
        obtain ⟨rfl, W17, g18, H⟩ := H
        replace H := nb_Hw H
        show nb_W 244 7 [(13, 76), (0, l1), (0, l2), (0, nb_l2i (M.1 76 8))] [] M16 _
        refine nb_Wg (q_rd_whole_7 _ _ _ _ _) ?_
        refine nb_Gs ?_
        exact nb_Hu H W17
      · have H := nb_Hw ((nb_Hu H).2 (by omega))
        have c23 : nb_l2i (M.1 76 8) ≤ l2 := by omega
        refine nb_Gr ?_
        refine nb_Wg (q_rd_whole_6 _ _ _ _ _ (by omega)) ?_
        refine nb_Gb ?_
        refine nb_W.imp (nb_Hu H) (fun r M20 H => ?_)
        obtain ⟨rfl, W21, g22, H⟩ := H
        replace H := nb_Hw H
        show nb_W 244 7 [(13, 76), (0, l1), (0, l2), (0, nb_l2i (M.1 76 8))] [] M20 _
        refine nb_Wg (q_rd_whole_7 _ _ _ _ _) ?_
        refine nb_Gs ?_
        exact nb_Hu H W21
  · have H := nb_Hw ((nb_Hu H).2 (by omega))
    have c33 : M.1 76 7 ≠ 3 := by omega
    refine nb_Gr ?_
    refine nb_Wg (q_rd_whole_1 _ _ _ _ _ (by omega)) ?_
    refine nb_Gb ?_
    refine nb_W.imp (nb_Hu H) (fun r M26 H => ?_)
    obtain ⟨rfl, W27, g28, H⟩ := H
    replace H := nb_Hw H
    show nb_W 244 2 [(13, 76), (0, l1), (0, l2), (0, nb_l2i (M.1 76 8))] [] M26 _
    refine nb_Wg (q_rd_whole_2 _ _ _ _ _) ?_
    refine nb_Gr ?_
    refine nb_Wg (q_rd_whole_6 _ _ _ _ _ (by omega)) ?_
    refine nb_Gb ?_
    refine nb_W.imp (nb_Hu H) (fun r M30 H => ?_)
    obtain ⟨rfl, W31, g32, H⟩ := H
    replace H := nb_Hw H
    show nb_W 244 7 [(13, 76), (0, l1), (0, l2), (0, nb_l2i (M.1 76 8))] [] M30 _
    refine nb_Wg (q_rd_whole_7 _ _ _ _ _) ?_
    refine nb_Gs ?_
    exact nb_Hu H W31

theorem w_rd_rule_0 {So : Int} {v1 : nb_V} {M : nb_M} {Q : List nb_V → nb_M → Prop} (W : nb_Lay M) (hSo : nb_hs So) (h764 : M.1 76 4 = So) (H : nb_W 227 0 [(13, 76), (2, 52)] [] M (fun r M2 => ∃ x1 : Int, r = [(0, x1)] ∧ nb_Lay M2 ∧ M2.1 76 4 = So ∧ (x1 = 0 → nb_W 227 0 [(13, 76), (2, 53)] [] M2 (fun r M6 => ∃ x5 : Int, r = [(0, x5)] ∧ nb_Lay M6 ∧ M6.1 76 4 = So ∧ (x5 = 0 → nb_W 227 0 [(13, 76), (2, 54)] [] M6 (fun r M10 => ∃ x9 : Int, r = [(0, x9)] ∧ nb_Lay M10 ∧ M10.1 76 4 = So ∧ (x9 = 0 → nb_W 227 0 [(13, 76), (2, 55)] [] M10 (fun r M14 => ∃ x13 : Int, r = [(0, x13)] ∧ nb_Lay M14 ∧ M14.1 76 4 = So ∧ (x13 = 0 → nb_W 227 0 [(13, 76), (2, 56)] [] M14 (fun r M18 => ∃ x17 : Int, r = [(0, x17)] ∧ nb_Lay M18 ∧ M18.1 76 4 = So ∧ (x17 = 0 → nb_W 226 0 [(13, 76), (0, 1)] [] M18 (fun r M22 => r = [] ∧ nb_Lay M22 ∧ M22.1 76 4 = So ∧ nb_W 225 0 [(13, 76)] [] M22 (fun r M26 => r = [] ∧ nb_Lay M26 ∧ M26.1 76 4 = So ∧ (nb_Lay M26 → Q [(0, (-1))] M26)))) ∧ (x17 ≠ 0 → nb_W 225 0 [(13, 76)] [] M18 (fun r M30 => r = [] ∧ nb_Lay M30 ∧ M30.1 76 4 = So ∧ (nb_Lay M30 → Q [(0, 4)] M30))))) ∧ (x13 ≠ 0 → nb_W 225 0 [(13, 76)] [] M14 (fun r M35 => r = [] ∧ nb_Lay M35 ∧ M35.1 76 4 = So ∧ (nb_Lay M35 → Q [(0, 3)] M35))))) ∧ (x9 ≠ 0 → nb_W 225 0 [(13, 76)] [] M10 (fun r M40 => r = [] ∧ nb_Lay M40 ∧ M40.1 76 4 = So ∧ (nb_Lay M40 → Q [(0, 2)] M40))))) ∧ (x5 ≠ 0 → nb_W 225 0 [(13, 76)] [] M6 (fun r M45 => r = [] ∧ nb_Lay M45 ∧ M45.1 76 4 = So ∧ (nb_Lay M45 → Q [(0, 1)] M45))))) ∧ (x1 ≠ 0 → nb_W 225 0 [(13, 76)] [] M2 (fun r M50 => r = [] ∧ nb_Lay M50 ∧ M50.1 76 4 = So ∧ (nb_Lay M50 → Q [(0, 0)] M50))))) :
    nb_W 245 0 [(13, 76), v1] [] M Q := by
  replace H := nb_Hw H
  have uhSo := hSo
  unfold nb_hs at uhSo
  refine nb_Wg (q_rd_rule_0 _ _ _ (by omega)) ?_
  refine nb_Gb ?_
  refine nb_W.imp (nb_Hu H) (fun r M2 H => ?_)
  obtain ⟨x1, rfl, W3, g4, H⟩ := H
  replace H := nb_Hw H
  show nb_W 245 1 [(13, 76), (0, (-1))] [(0, x1)] M2 _
  refine nb_Wg (q_rd_rule_1 _ _ _ _) ?_
  refine nb_Gi (fun c53 => ?_) (fun c53 => ?_)
  · have H := nb_Hw ((nb_Hu H).1 c53)
    refine nb_Gr ?_
    refine nb_Wg (q_rd_rule_3 _ _ _ (by omega)) ?_
    refine nb_Gb ?_
    refine nb_W.imp (nb_Hu H) (fun r M6 H => ?_)
    obtain ⟨x5, rfl, W7, g8, H⟩ := H
    replace H := nb_Hw H
    show nb_W 245 4 [(13, 76), (0, (-1))] [(0, x5)] M6 _
    refine nb_Wg (q_rd_rule_4 _ _ _ _) ?_
    refine nb_Gi (fun c48 => ?_) (fun c48 => ?_)
    · have H := nb_Hw ((nb_Hu H).1 c48)
      refine nb_Gr ?_
      refine nb_Wg (q_rd_rule_6 _ _ _ (by omega)) ?_
      refine nb_Gb ?_
      refine nb_W.imp (nb_Hu H) (fun r M10 H => ?_)
      obtain ⟨x9, rfl, W11, g12, H⟩ := H
      replace H := nb_Hw H
      show nb_W 245 7 [(13, 76), (0, (-1))] [(0, x9)] M10 _
      refine nb_Wg (q_rd_rule_7 _ _ _ _) ?_
      refine nb_Gi (fun c43 => ?_) (fun c43 => ?_)
      · have H := nb_Hw ((nb_Hu H).1 c43)
        refine nb_Gr ?_
        refine nb_Wg (q_rd_rule_9 _ _ _ (by omega)) ?_
        refine nb_Gb ?_
        refine nb_W.imp (nb_Hu H) (fun r M14 H => ?_)
        obtain ⟨x13, rfl, W15, g16, H⟩ := H
        replace H := nb_Hw H
        show nb_W 245 10 [(13, 76), (0, (-1))] [(0, x13)] M14 _
        refine nb_Wg (q_rd_rule_10 _ _ _ _) ?_
        refine nb_Gi (fun c38 => ?_) (fun c38 => ?_)
        · have H := nb_Hw ((nb_Hu H).1 c38)
          refine nb_Gr ?_
          refine nb_Wg (q_rd_rule_12 _ _ _ (by omega)) ?_
          refine nb_Gb ?_
          refine nb_W.imp (nb_Hu H) (fun r M18 H => ?_)
          obtain ⟨x17, rfl, W19, g20, H⟩ := H
          replace H := nb_Hw H
          show nb_W 245 13 [(13, 76), (0, (-1))] [(0, x17)] M18 _
          refine nb_Wg (q_rd_rule_13 _ _ _ _) ?_
          refine nb_Gi (fun c33 => ?_) (fun c33 => ?_)
          · have H := nb_Hw ((nb_Hu H).1 c33)
            refine nb_Gr ?_
            refine nb_Wg (q_rd_rule_15 _ _ _ (by omega)) ?_
            refine nb_Gb ?_
            refine nb_W.imp (nb_Hu H) (fun r M22 H => ?_)
            obtain ⟨rfl, W23, g24, H⟩ := H
            replace H := nb_Hw H
            show nb_W 245 16 [(13, 76), (0, (-1))] [] M22 _
            refine nb_Wg (q_rd_rule_16 _ _ _ (by omega)) ?_
            refine nb_Gb ?_
            refine nb_W.imp (nb_Hu H) (fun r M26 H => ?_)
            obtain ⟨rfl, W27, g28, H⟩ := H
            replace H := nb_Hw H
            show nb_W 245 17 [(13, 76), (0, (-1))] [] M26 _
            refine nb_Wg (q_rd_rule_17 _ _ _) ?_
            refine nb_Gs ?_
            exact nb_Hu H W27
          · have H := nb_Hw ((nb_Hu H).2 (by omega))
            have c33 : x17 ≠ 0 := by omega
            refine nb_Gr ?_
            refine nb_Wg (q_rd_rule_14 _ _ _) ?_
            refine nb_Gr ?_
            refine nb_Wg (q_rd_rule_16 _ _ _ (by omega)) ?_
            refine nb_Gb ?_
            refine nb_W.imp (nb_Hu H) (fun r M30 H => ?_)
            obtain ⟨rfl, W31, g32, H⟩ := H
            replace H := nb_Hw H
            show nb_W 245 17 [(13, 76), (0, 4)] [] M30 _
            refine nb_Wg (q_rd_rule_17 _ _ _) ?_
            refine nb_Gs ?_
            exact nb_Hu H W31
        · have H := nb_Hw ((nb_Hu H).2 (by omega))
          have c38 : x13 ≠ 0 := by omega
          refine nb_Gr ?_
          refine nb_Wg (q_rd_rule_11 _ _ _) ?_
          refine nb_Gr ?_
          refine nb_Wg (q_rd_rule_16 _ _ _ (by omega)) ?_
          refine nb_Gb ?_
          refine nb_W.imp (nb_Hu H) (fun r M35 H => ?_)
          obtain ⟨rfl, W36, g37, H⟩ := H
          replace H := nb_Hw H
          show nb_W 245 17 [(13, 76), (0, 3)] [] M35 _
          refine nb_Wg (q_rd_rule_17 _ _ _) ?_
          refine nb_Gs ?_
          exact nb_Hu H W36
      · have H := nb_Hw ((nb_Hu H).2 (by omega))
        have c43 : x9 ≠ 0 := by omega
        refine nb_Gr ?_
        refine nb_Wg (q_rd_rule_8 _ _ _) ?_
        refine nb_Gr ?_
        refine nb_Wg (q_rd_rule_16 _ _ _ (by omega)) ?_
        refine nb_Gb ?_
        refine nb_W.imp (nb_Hu H) (fun r M40 H => ?_)
        obtain ⟨rfl, W41, g42, H⟩ := H
        replace H := nb_Hw H
        show nb_W 245 17 [(13, 76), (0, 2)] [] M40 _
        refine nb_Wg (q_rd_rule_17 _ _ _) ?_
        refine nb_Gs ?_
        exact nb_Hu H W41
    · have H := nb_Hw ((nb_Hu H).2 (by omega))
      have c48 : x5 ≠ 0 := by omega
      refine nb_Gr ?_
      refine nb_Wg (q_rd_rule_5 _ _ _) ?_
      refine nb_Gr ?_
      refine nb_Wg (q_rd_rule_16 _ _ _ (by omega)) ?_
      refine nb_Gb ?_
      refine nb_W.imp (nb_Hu H) (fun r M45 H => ?_)
      obtain ⟨rfl, W46, g47, H⟩ := H
      replace H := nb_Hw H
      show nb_W 245 17 [(13, 76), (0, 1)] [] M45 _
      refine nb_Wg (q_rd_rule_17 _ _ _) ?_
      refine nb_Gs ?_
      exact nb_Hu H W46
  · have H := nb_Hw ((nb_Hu H).2 (by omega))
    have c53 : x1 ≠ 0 := by omega
    refine nb_Gr ?_
    refine nb_Wg (q_rd_rule_2 _ _ _) ?_
    refine nb_Gr ?_
    refine nb_Wg (q_rd_rule_16 _ _ _ (by omega)) ?_
    refine nb_Gb ?_
    refine nb_W.imp (nb_Hu H) (fun r M50 H => ?_)
    obtain ⟨rfl, W51, g52, H⟩ := H
    replace H := nb_Hw H
    show nb_W 245 17 [(13, 76), (0, 0)] [] M50 _
    refine nb_Wg (q_rd_rule_17 _ _ _) ?_
    refine nb_Gs ?_
    exact nb_Hu H W51

theorem w_rd_manner_0 {So : Int} {v1 : nb_V} {M : nb_M} {Q : List nb_V → nb_M → Prop} (W : nb_Lay M) (hSo : nb_hs So) (h764 : M.1 76 4 = So) (H : nb_W 227 0 [(13, 76), (2, 57)] [] M (fun r M2 => ∃ x1 : Int, r = [(0, x1)] ∧ nb_Lay M2 ∧ M2.1 76 4 = So ∧ (x1 = 0 → nb_W 227 0 [(13, 76), (2, 58)] [] M2 (fun r M6 => ∃ x5 : Int, r = [(0, x5)] ∧ nb_Lay M6 ∧ M6.1 76 4 = So ∧ (x5 = 0 → nb_W 227 0 [(13, 76), (2, 59)] [] M6 (fun r M10 => ∃ x9 : Int, r = [(0, x9)] ∧ nb_Lay M10 ∧ M10.1 76 4 = So ∧ (x9 = 0 → nb_W 227 0 [(13, 76), (2, 56)] [] M10 (fun r M14 => ∃ x13 : Int, r = [(0, x13)] ∧ nb_Lay M14 ∧ M14.1 76 4 = So ∧ (x13 = 0 → nb_W 226 0 [(13, 76), (0, 1)] [] M14 (fun r M18 => r = [] ∧ nb_Lay M18 ∧ M18.1 76 4 = So ∧ nb_W 225 0 [(13, 76)] [] M18 (fun r M22 => r = [] ∧ nb_Lay M22 ∧ M22.1 76 4 = So ∧ (nb_Lay M22 → Q [(0, (-1))] M22)))) ∧ (x13 ≠ 0 → nb_W 225 0 [(13, 76)] [] M14 (fun r M26 => r = [] ∧ nb_Lay M26 ∧ M26.1 76 4 = So ∧ (nb_Lay M26 → Q [(0, 3)] M26))))) ∧ (x9 ≠ 0 → nb_W 225 0 [(13, 76)] [] M10 (fun r M31 => r = [] ∧ nb_Lay M31 ∧ M31.1 76 4 = So ∧ (nb_Lay M31 → Q [(0, 2)] M31))))) ∧ (x5 ≠ 0 → nb_W 225 0 [(13, 76)] [] M6 (fun r M36 => r = [] ∧ nb_Lay M36 ∧ M36.1 76 4 = So ∧ (nb_Lay M36 → Q [(0, 1)] M36))))) ∧ (x1 ≠ 0 → nb_W 225 0 [(13, 76)] [] M2 (fun r M41 => r = [] ∧ nb_Lay M41 ∧ M41.1 76 4 = So ∧ (nb_Lay M41 → Q [(0, 0)] M41))))) :
    nb_W 246 0 [(13, 76), v1] [] M Q := by
  replace H := nb_Hw H
  have uhSo := hSo
  unfold nb_hs at uhSo
  refine nb_Wg (q_rd_manner_0 _ _ _ (by omega)) ?_
  refine nb_Gb ?_
  refine nb_W.imp (nb_Hu H) (fun r M2 H => ?_)
  obtain ⟨x1, rfl, W3, g4, H⟩ := H
  replace H := nb_Hw H
  show nb_W 246 1 [(13, 76), (0, (-1))] [(0, x1)] M2 _
  refine nb_Wg (q_rd_manner_1 _ _ _ _) ?_
  refine nb_Gi (fun c44 => ?_) (fun c44 => ?_)
  · have H := nb_Hw ((nb_Hu H).1 c44)
    refine nb_Gr ?_
    refine nb_Wg (q_rd_manner_3 _ _ _ (by omega)) ?_
    refine nb_Gb ?_
    refine nb_W.imp (nb_Hu H) (fun r M6 H => ?_)
    obtain ⟨x5, rfl, W7, g8, H⟩ := H
    replace H := nb_Hw H
    show nb_W 246 4 [(13, 76), (0, (-1))] [(0, x5)] M6 _
    refine nb_Wg (q_rd_manner_4 _ _ _ _) ?_
    refine nb_Gi (fun c39 => ?_) (fun c39 => ?_)
    · have H := nb_Hw ((nb_Hu H).1 c39)
      refine nb_Gr ?_
      refine nb_Wg (q_rd_manner_6 _ _ _ (by omega)) ?_
      refine nb_Gb ?_
      refine nb_W.imp (nb_Hu H) (fun r M10 H => ?_)
      obtain ⟨x9, rfl, W11, g12, H⟩ := H
      replace H := nb_Hw H
      show nb_W 246 7 [(13, 76), (0, (-1))] [(0, x9)] M10 _
      refine nb_Wg (q_rd_manner_7 _ _ _ _) ?_
      refine nb_Gi (fun c34 => ?_) (fun c34 => ?_)
      · have H := nb_Hw ((nb_Hu H).1 c34)
        refine nb_Gr ?_
        refine nb_Wg (q_rd_manner_9 _ _ _ (by omega)) ?_
        refine nb_Gb ?_
        refine nb_W.imp (nb_Hu H) (fun r M14 H => ?_)
        obtain ⟨x13, rfl, W15, g16, H⟩ := H
        replace H := nb_Hw H
        show nb_W 246 10 [(13, 76), (0, (-1))] [(0, x13)] M14 _
        refine nb_Wg (q_rd_manner_10 _ _ _ _) ?_
        refine nb_Gi (fun c29 => ?_) (fun c29 => ?_)
        · have H := nb_Hw ((nb_Hu H).1 c29)
          refine nb_Gr ?_
          refine nb_Wg (q_rd_manner_12 _ _ _ (by omega)) ?_
          refine nb_Gb ?_
          refine nb_W.imp (nb_Hu H) (fun r M18 H => ?_)
          obtain ⟨rfl, W19, g20, H⟩ := H
          replace H := nb_Hw H
          show nb_W 246 13 [(13, 76), (0, (-1))] [] M18 _
          refine nb_Wg (q_rd_manner_13 _ _ _ (by omega)) ?_
          refine nb_Gb ?_
          refine nb_W.imp (nb_Hu H) (fun r M22 H => ?_)
          obtain ⟨rfl, W23, g24, H⟩ := H
          replace H := nb_Hw H
          show nb_W 246 14 [(13, 76), (0, (-1))] [] M22 _
          refine nb_Wg (q_rd_manner_14 _ _ _) ?_
          refine nb_Gs ?_
          exact nb_Hu H W23
        · have H := nb_Hw ((nb_Hu H).2 (by omega))
          have c29 : x13 ≠ 0 := by omega
          refine nb_Gr ?_
          refine nb_Wg (q_rd_manner_11 _ _ _) ?_
          refine nb_Gr ?_
          refine nb_Wg (q_rd_manner_13 _ _ _ (by omega)) ?_
          refine nb_Gb ?_
          refine nb_W.imp (nb_Hu H) (fun r M26 H => ?_)
          obtain ⟨rfl, W27, g28, H⟩ := H
          replace H := nb_Hw H
          show nb_W 246 14 [(13, 76), (0, 3)] [] M26 _
          refine nb_Wg (q_rd_manner_14 _ _ _) ?_
          refine nb_Gs ?_
          exact nb_Hu H W27
      · have H := nb_Hw ((nb_Hu H).2 (by omega))
        have c34 : x9 ≠ 0 := by omega
        refine nb_Gr ?_
        refine nb_Wg (q_rd_manner_8 _ _ _) ?_
        refine nb_Gr ?_
        refine nb_Wg (q_rd_manner_13 _ _ _ (by omega)) ?_
        refine nb_Gb ?_
        refine nb_W.imp (nb_Hu H) (fun r M31 H => ?_)
        obtain ⟨rfl, W32, g33, H⟩ := H
        replace H := nb_Hw H
        show nb_W 246 14 [(13, 76), (0, 2)] [] M31 _
        refine nb_Wg (q_rd_manner_14 _ _ _) ?_
        refine nb_Gs ?_
        exact nb_Hu H W32
    · have H := nb_Hw ((nb_Hu H).2 (by omega))
      have c39 : x5 ≠ 0 := by omega
      refine nb_Gr ?_
      refine nb_Wg (q_rd_manner_5 _ _ _) ?_
      refine nb_Gr ?_
      refine nb_Wg (q_rd_manner_13 _ _ _ (by omega)) ?_
      refine nb_Gb ?_
      refine nb_W.imp (nb_Hu H) (fun r M36 H => ?_)
      obtain ⟨rfl, W37, g38, H⟩ := H
      replace H := nb_Hw H
      show nb_W 246 14 [(13, 76), (0, 1)] [] M36 _
      refine nb_Wg (q_rd_manner_14 _ _ _) ?_
      refine nb_Gs ?_
      exact nb_Hu H W37
  · have H := nb_Hw ((nb_Hu H).2 (by omega))
    have c44 : x1 ≠ 0 := by omega
    refine nb_Gr ?_
    refine nb_Wg (q_rd_manner_2 _ _ _) ?_
    refine nb_Gr ?_
    refine nb_Wg (q_rd_manner_13 _ _ _ (by omega)) ?_
    refine nb_Gb ?_
    refine nb_W.imp (nb_Hu H) (fun r M41 H => ?_)
    obtain ⟨rfl, W42, g43, H⟩ := H
    replace H := nb_Hw H
    show nb_W 246 14 [(13, 76), (0, 0)] [] M41 _
    refine nb_Wg (q_rd_manner_14 _ _ _) ?_
    refine nb_Gs ?_
    exact nb_Hu H W42

