/-! rules, printed by wip/gen -/
theorem w_m_readLine_0 {M : nb_M} {Q : List nb_V → nb_M → Prop} (W : nb_Lay M) (H : nb_W 93 0 [(20, 603), (2, 1), (98, 0), (98, 0)] [] M (fun r M2 => ∃ x1 : Int, r = [(0, x1)] ∧ nb_Lay M2 ∧ (x1 = 0 → nb_W 107 4 [(20, 603)] [] M2 Q) ∧ (x1 ≠ 0 → nb_W 108 0 [(20, 603)] [] M2 (fun r M5 => r = [] ∧ nb_Lay M5 ∧ (nb_Lay M5 → Q [] M5))))) :
    nb_W 107 0 [(20, 603)] [] M Q := by
  replace H := nb_Hw H
  refine nb_Wg (q_m_readLine_0 _ _ (by omega)) ?_
  refine nb_Gb ?_
  refine nb_W.imp (nb_Hu H) (fun r M2 H => ?_)
  obtain ⟨x1, rfl, W3, H⟩ := H
  replace H := nb_Hw H
  show nb_W 107 1 [(20, 603)] [(0, x1)] M2 _
  refine nb_Wg (q_m_readLine_1 _ _ _) ?_
  refine nb_Gi (fun c7 => ?_) (fun c7 => ?_)
  · have H := nb_Hw ((nb_Hu H).1 c7)
    refine nb_Gr ?_
    exact nb_Hu H
  · have H := nb_Hw ((nb_Hu H).2 (by omega))
    have c7 : x1 ≠ 0 := by omega
    refine nb_Gr ?_
    refine nb_Wg (q_m_readLine_2 _ _ (by omega)) ?_
    refine nb_Gb ?_
    refine nb_W.imp (nb_Hu H) (fun r M5 H => ?_)
    obtain ⟨rfl, W6, H⟩ := H
    replace H := nb_Hw H
    show nb_W 107 3 [(20, 603)] [] M5 _
    refine nb_Wg (q_m_readLine_3 _ _) ?_
    refine nb_Gr ?_
    refine nb_Wg (q_m_readLine_37 _ _) ?_
    refine nb_Gs ?_
    exact nb_Hu H W6

theorem w_m_readLine_4 {M : nb_M} {Q : List nb_V → nb_M → Prop} (W : nb_Lay M) (H : 0 ≤ M.1 607 3 ∧ M.1 607 3 ≤ 5 ∧ (M.1 607 3 < 5 → nb_W 106 0 [(20, 603), (2, 2), (0, 1)] [] M (fun r M5 => ∃ x4 : Int, r = [(0, x4)] ∧ nb_Lay M5 ∧ (x4 = 0 → nb_W 107 11 [(20, 603)] [] M5 Q) ∧ (x4 ≠ 0 → nb_W 109 0 [(20, 603), (98, 0)] [] M5 (fun r M8 => r = [] ∧ nb_Lay M8 ∧ (nb_Lay M8 → Q [] M8))))) ∧ (5 ≤ M.1 607 3 → nb_W 106 0 [(20, 603), (2, 2), (0, 0)] [] M (fun r M12 => ∃ x11 : Int, r = [(0, x11)] ∧ nb_Lay M12 ∧ (x11 = 0 → nb_W 107 11 [(20, 603)] [] M12 Q) ∧ (x11 ≠ 0 → nb_W 109 0 [(20, 603), (98, 0)] [] M12 (fun r M15 => r = [] ∧ nb_Lay M15 ∧ (nb_Lay M15 → Q [] M15)))))) :
    nb_W 107 4 [(20, 603)] [] M Q := by
  replace H := nb_Hw H
  obtain ⟨p0_, p1_, H⟩ := H
  replace H := nb_Hw H
  have E1 : nb_rd M 603 16 = 607 := W.m16
  have N2 : nb_ln M 607 = 347 := W.lk (by decide) (by decide +kernel)
  have E3 : nb_rd M 607 3 = M.1 607 3 := nb_rd_1 _ _ _
  refine nb_Wg (q_m_readLine_4 _ _ (by omega) (by rw [E1]; first | done | omega) (by omega) (by rw [E1, N2]; first | done | omega)) ?_
  simp only [E1, E3]
  clear E1 N2 E3
  refine nb_Gi (fun c18 => ?_) (fun c18 => ?_)
  · have H := nb_Hw ((nb_Hu H).1 c18)
    refine nb_Gr ?_
    refine nb_Wg (q_m_readLine_5 _ _ _ _) ?_
    refine nb_Gr ?_
    refine nb_Wg (q_m_readLine_7 _ _ _ _ _ (by omega)) ?_
    refine nb_Gb ?_
    refine nb_W.imp (nb_Hu H) (fun r M5 H => ?_)
    obtain ⟨x4, rfl, W6, H⟩ := H
    replace H := nb_Hw H
    show nb_W 107 8 [(20, 603)] [(0, x4)] M5 _
    refine nb_Wg (q_m_readLine_8 _ _ _) ?_
    refine nb_Gi (fun c10 => ?_) (fun c10 => ?_)
    · have H := nb_Hw ((nb_Hu H).1 c10)
      refine nb_Gr ?_
      exact nb_Hu H
    · have H := nb_Hw ((nb_Hu H).2 (by omega))
      have c10 : x4 ≠ 0 := by omega
      refine nb_Gr ?_
      refine nb_Wg (q_m_readLine_9 _ _ (by omega)) ?_
      refine nb_Gb ?_
      refine nb_W.imp (nb_Hu H) (fun r M8 H => ?_)
      obtain ⟨rfl, W9, H⟩ := H
      replace H := nb_Hw H
      show nb_W 107 10 [(20, 603)] [] M8 _
      refine nb_Wg (q_m_readLine_10 _ _) ?_
      refine nb_Gr ?_
      refine nb_Wg (q_m_readLine_37 _ _) ?_
      refine nb_Gs ?_
      exact nb_Hu H W9
  · have H := nb_Hw ((nb_Hu H).2 (by omega))
    have c18 : 5 ≤ M.1 607 3 := by omega
    refine nb_Gr ?_
    refine nb_Wg (q_m_readLine_6 _ _ _ _) ?_
    refine nb_Gr ?_
    refine nb_Wg (q_m_readLine_7 _ _ _ _ _ (by omega)) ?_
    refine nb_Gb ?_
    refine nb_W.imp (nb_Hu H) (fun r M12 H => ?_)
    obtain ⟨x11, rfl, W13, H⟩ := H
    replace H := nb_Hw H
    show nb_W 107 8 [(20, 603)] [(0, x11)] M12 _
    refine nb_Wg (q_m_readLine_8 _ _ _) ?_
    refine nb_Gi (fun c17 => ?_) (fun c17 => ?_)
    · have H := nb_Hw ((nb_Hu H).1 c17)
      refine nb_Gr ?_
      exact nb_Hu H
    · have H := nb_Hw ((nb_Hu H).2 (by omega))
      have c17 : x11 ≠ 0 := by omega
      refine nb_Gr ?_
      refine nb_Wg (q_m_readLine_9 _ _ (by omega)) ?_
      refine nb_Gb ?_
      refine nb_W.imp (nb_Hu H) (fun r M15 H => ?_)
      obtain ⟨rfl, W16, H⟩ := H
      replace H := nb_Hw H
      show nb_W 107 10 [(20, 603)] [] M15 _
      refine nb_Wg (q_m_readLine_10 _ _) ?_
      refine nb_Gr ?_
      refine nb_Wg (q_m_readLine_37 _ _) ?_
      refine nb_Gs ?_
      exact nb_Hu H W16

theorem w_m_readLine_11 {M : nb_M} {Q : List nb_V → nb_M → Prop} (W : nb_Lay M) (H : 0 ≤ M.1 607 4 ∧ M.1 607 4 ≤ 3 ∧ (M.1 607 4 < 3 → nb_W 106 0 [(20, 603), (2, 3), (0, 1)] [] M (fun r M5 => ∃ x4 : Int, r = [(0, x4)] ∧ nb_Lay M5 ∧ (x4 = 0 → nb_W 107 18 [(20, 603)] [] M5 Q) ∧ (x4 ≠ 0 → nb_W 110 0 [(20, 603), (98, 0), (98, 0)] [] M5 (fun r M8 => r = [] ∧ nb_Lay M8 ∧ (nb_Lay M8 → Q [] M8))))) ∧ (3 ≤ M.1 607 4 → nb_W 106 0 [(20, 603), (2, 3), (0, 0)] [] M (fun r M12 => ∃ x11 : Int, r = [(0, x11)] ∧ nb_Lay M12 ∧ (x11 = 0 → nb_W 107 18 [(20, 603)] [] M12 Q) ∧ (x11 ≠ 0 → nb_W 110 0 [(20, 603), (98, 0), (98, 0)] [] M12 (fun r M15 => r = [] ∧ nb_Lay M15 ∧ (nb_Lay M15 → Q [] M15)))))) :
    nb_W 107 11 [(20, 603)] [] M Q := by
  replace H := nb_Hw H
  obtain ⟨p0_, p1_, H⟩ := H
  replace H := nb_Hw H
  have E1 : nb_rd M 603 16 = 607 := W.m16
  have N2 : nb_ln M 607 = 347 := W.lk (by decide) (by decide +kernel)
  have E3 : nb_rd M 607 4 = M.1 607 4 := nb_rd_1 _ _ _
  refine nb_Wg (q_m_readLine_11 _ _ (by omega) (by rw [E1]; first | done | omega) (by omega) (by rw [E1, N2]; first | done | omega)) ?_
  simp only [E1, E3]
  clear E1 N2 E3
  refine nb_Gi (fun c18 => ?_) (fun c18 => ?_)
  · have H := nb_Hw ((nb_Hu H).1 c18)
    refine nb_Gr ?_
    refine nb_Wg (q_m_readLine_12 _ _ _ _) ?_
    refine nb_Gr ?_
    refine nb_Wg (q_m_readLine_14 _ _ _ _ _ (by omega)) ?_
    refine nb_Gb ?_
    refine nb_W.imp (nb_Hu H) (fun r M5 H => ?_)
    obtain ⟨x4, rfl, W6, H⟩ := H
    replace H := nb_Hw H
    show nb_W 107 15 [(20, 603)] [(0, x4)] M5 _
    refine nb_Wg (q_m_readLine_15 _ _ _) ?_
    refine nb_Gi (fun c10 => ?_) (fun c10 => ?_)
    · have H := nb_Hw ((nb_Hu H).1 c10)
      refine nb_Gr ?_
      exact nb_Hu H
    · have H := nb_Hw ((nb_Hu H).2 (by omega))
      have c10 : x4 ≠ 0 := by omega
      refine nb_Gr ?_
      refine nb_Wg (q_m_readLine_16 _ _ (by omega)) ?_
      refine nb_Gb ?_
      refine nb_W.imp (nb_Hu H) (fun r M8 H => ?_)
      obtain ⟨rfl, W9, H⟩ := H
      replace H := nb_Hw H
      show nb_W 107 17 [(20, 603)] [] M8 _
      refine nb_Wg (q_m_readLine_17 _ _) ?_
      refine nb_Gr ?_
      refine nb_Wg (q_m_readLine_37 _ _) ?_
      refine nb_Gs ?_
      exact nb_Hu H W9
  · have H := nb_Hw ((nb_Hu H).2 (by omega))
    have c18 : 3 ≤ M.1 607 4 := by omega
    refine nb_Gr ?_
    refine nb_Wg (q_m_readLine_13 _ _ _ _) ?_
    refine nb_Gr ?_
    refine nb_Wg (q_m_readLine_14 _ _ _ _ _ (by omega)) ?_
    refine nb_Gb ?_
    refine nb_W.imp (nb_Hu H) (fun r M12 H => ?_)
    obtain ⟨x11, rfl, W13, H⟩ := H
    replace H := nb_Hw H
    show nb_W 107 15 [(20, 603)] [(0, x11)] M12 _
    refine nb_Wg (q_m_readLine_15 _ _ _) ?_
    refine nb_Gi (fun c17 => ?_) (fun c17 => ?_)
    · have H := nb_Hw ((nb_Hu H).1 c17)
      refine nb_Gr ?_
      exact nb_Hu H
    · have H := nb_Hw ((nb_Hu H).2 (by omega))
      have c17 : x11 ≠ 0 := by omega
      refine nb_Gr ?_
      refine nb_Wg (q_m_readLine_16 _ _ (by omega)) ?_
      refine nb_Gb ?_
      refine nb_W.imp (nb_Hu H) (fun r M15 H => ?_)
      obtain ⟨rfl, W16, H⟩ := H
      replace H := nb_Hw H
      show nb_W 107 17 [(20, 603)] [] M15 _
      refine nb_Wg (q_m_readLine_17 _ _) ?_
      refine nb_Gr ?_
      refine nb_Wg (q_m_readLine_37 _ _) ?_
      refine nb_Gs ?_
      exact nb_Hu H W16

theorem w_m_readLine_18 {M : nb_M} {Q : List nb_V → nb_M → Prop} (W : nb_Lay M) (H : 0 ≤ M.1 607 5 ∧ M.1 607 5 ≤ 10 ∧ (M.1 607 5 < 10 → nb_W 106 0 [(20, 603), (2, 4), (0, 1)] [] M (fun r M5 => ∃ x4 : Int, r = [(0, x4)] ∧ nb_Lay M5 ∧ (x4 = 0 → nb_W 107 25 [(20, 603)] [] M5 Q) ∧ (x4 ≠ 0 → nb_W 111 0 [(20, 603), (98, 0), (98, 0), (98, 0), (98, 0), (98, 0), (98, 0)] [] M5 (fun r M8 => r = [] ∧ nb_Lay M8 ∧ (nb_Lay M8 → Q [] M8))))) ∧ (10 ≤ M.1 607 5 → nb_W 106 0 [(20, 603), (2, 4), (0, 0)] [] M (fun r M12 => ∃ x11 : Int, r = [(0, x11)] ∧ nb_Lay M12 ∧ (x11 = 0 → nb_W 107 25 [(20, 603)] [] M12 Q) ∧ (x11 ≠ 0 → nb_W 111 0 [(20, 603), (98, 0), (98, 0), (98, 0), (98, 0), (98, 0), (98, 0)] [] M12 (fun r M15 => r = [] ∧ nb_Lay M15 ∧ (nb_Lay M15 → Q [] M15)))))) :
    nb_W 107 18 [(20, 603)] [] M Q := by
  replace H := nb_Hw H
  obtain ⟨p0_, p1_, H⟩ := H
  replace H := nb_Hw H
  have E1 : nb_rd M 603 16 = 607 := W.m16
  have N2 : nb_ln M 607 = 347 := W.lk (by decide) (by decide +kernel)
  have E3 : nb_rd M 607 5 = M.1 607 5 := nb_rd_1 _ _ _
  refine nb_Wg (q_m_readLine_18 _ _ (by omega) (by rw [E1]; first | done | omega) (by omega) (by rw [E1, N2]; first | done | omega)) ?_
  simp only [E1, E3]
  clear E1 N2 E3
  refine nb_Gi (fun c18 => ?_) (fun c18 => ?_)
  · have H := nb_Hw ((nb_Hu H).1 c18)
    refine nb_Gr ?_
    refine nb_Wg (q_m_readLine_19 _ _ _ _) ?_
    refine nb_Gr ?_
    refine nb_Wg (q_m_readLine_21 _ _ _ _ _ (by omega)) ?_
    refine nb_Gb ?_
    refine nb_W.imp (nb_Hu H) (fun r M5 H => ?_)
    obtain ⟨x4, rfl, W6, H⟩ := H
    replace H := nb_Hw H
    show nb_W 107 22 [(20, 603)] [(0, x4)] M5 _
    refine nb_Wg (q_m_readLine_22 _ _ _) ?_
    refine nb_Gi (fun c10 => ?_) (fun c10 => ?_)
    · have H := nb_Hw ((nb_Hu H).1 c10)
      refine nb_Gr ?_
      exact nb_Hu H
    · have H := nb_Hw ((nb_Hu H).2 (by omega))
      have c10 : x4 ≠ 0 := by omega
      refine nb_Gr ?_
      refine nb_Wg (q_m_readLine_23 _ _ (by omega)) ?_
      refine nb_Gb ?_
      refine nb_W.imp (nb_Hu H) (fun r M8 H => ?_)
      obtain ⟨rfl, W9, H⟩ := H
      replace H := nb_Hw H
      show nb_W 107 24 [(20, 603)] [] M8 _
      refine nb_Wg (q_m_readLine_24 _ _) ?_
      refine nb_Gr ?_
      refine nb_Wg (q_m_readLine_37 _ _) ?_
      refine nb_Gs ?_
      exact nb_Hu H W9
  · have H := nb_Hw ((nb_Hu H).2 (by omega))
    have c18 : 10 ≤ M.1 607 5 := by omega
    refine nb_Gr ?_
    refine nb_Wg (q_m_readLine_20 _ _ _ _) ?_
    refine nb_Gr ?_
    refine nb_Wg (q_m_readLine_21 _ _ _ _ _ (by omega)) ?_
    refine nb_Gb ?_
    refine nb_W.imp (nb_Hu H) (fun r M12 H => ?_)
    obtain ⟨x11, rfl, W13, H⟩ := H
    replace H := nb_Hw H
    show nb_W 107 22 [(20, 603)] [(0, x11)] M12 _
    refine nb_Wg (q_m_readLine_22 _ _ _) ?_
    refine nb_Gi (fun c17 => ?_) (fun c17 => ?_)
    · have H := nb_Hw ((nb_Hu H).1 c17)
      refine nb_Gr ?_
      exact nb_Hu H
    · have H := nb_Hw ((nb_Hu H).2 (by omega))
      have c17 : x11 ≠ 0 := by omega
      refine nb_Gr ?_
      refine nb_Wg (q_m_readLine_23 _ _ (by omega)) ?_
      refine nb_Gb ?_
      refine nb_W.imp (nb_Hu H) (fun r M15 H => ?_)
      obtain ⟨rfl, W16, H⟩ := H
      replace H := nb_Hw H
      show nb_W 107 24 [(20, 603)] [] M15 _
      refine nb_Wg (q_m_readLine_24 _ _) ?_
      refine nb_Gr ?_
      refine nb_Wg (q_m_readLine_37 _ _) ?_
      refine nb_Gs ?_
      exact nb_Hu H W16

theorem w_m_readLine_25 {M : nb_M} {Q : List nb_V → nb_M → Prop} (W : nb_Lay M) (H : nb_W 106 0 [(20, 603), (2, 5), (0, 1)] [] M (fun r M2 => ∃ x1 : Int, r = [(0, x1)] ∧ nb_Lay M2 ∧ (x1 = 0 → nb_W 107 29 [(20, 603)] [] M2 Q) ∧ (x1 ≠ 0 → nb_W 112 0 [(20, 603), (98, 0), (98, 0)] [] M2 (fun r M5 => r = [] ∧ nb_Lay M5 ∧ (nb_Lay M5 → Q [] M5))))) :
    nb_W 107 25 [(20, 603)] [] M Q := by
  replace H := nb_Hw H
  refine nb_Wg (q_m_readLine_25 _ _ (by omega)) ?_
  refine nb_Gb ?_
  refine nb_W.imp (nb_Hu H) (fun r M2 H => ?_)
  obtain ⟨x1, rfl, W3, H⟩ := H
  replace H := nb_Hw H
  show nb_W 107 26 [(20, 603)] [(0, x1)] M2 _
  refine nb_Wg (q_m_readLine_26 _ _ _) ?_
  refine nb_Gi (fun c7 => ?_) (fun c7 => ?_)
  · have H := nb_Hw ((nb_Hu H).1 c7)
    refine nb_Gr ?_
    exact nb_Hu H
  · have H := nb_Hw ((nb_Hu H).2 (by omega))
    have c7 : x1 ≠ 0 := by omega
    refine nb_Gr ?_
    refine nb_Wg (q_m_readLine_27 _ _ (by omega)) ?_
    refine nb_Gb ?_
    refine nb_W.imp (nb_Hu H) (fun r M5 H => ?_)
    obtain ⟨rfl, W6, H⟩ := H
    replace H := nb_Hw H
    show nb_W 107 28 [(20, 603)] [] M5 _
    refine nb_Wg (q_m_readLine_28 _ _) ?_
    refine nb_Gr ?_
    refine nb_Wg (q_m_readLine_37 _ _) ?_
    refine nb_Gs ?_
    exact nb_Hu H W6

theorem w_m_readLine_29 {M : nb_M} {Q : List nb_V → nb_M → Prop} (W : nb_Lay M) (H : 0 ≤ M.1 607 7 ∧ M.1 607 7 ≤ 8 ∧ (M.1 607 7 < 8 → nb_W 106 0 [(20, 603), (2, 6), (0, 1)] [] M (fun r M5 => ∃ x4 : Int, r = [(0, x4)] ∧ nb_Lay M5 ∧ (x4 = 0 → nb_W 92 0 [(20, 603), (0, 1), (0, M5.1 603 4)] [] M5 (fun r M9 => r = [] ∧ nb_Lay M9 ∧ (nb_Lay M9 → Q [] M9))) ∧ (x4 ≠ 0 → nb_W 113 0 [(20, 603), (98, 0), (98, 0)] [] M5 (fun r M12 => r = [] ∧ nb_Lay M12 ∧ (nb_Lay M12 → Q [] M12))))) ∧ (8 ≤ M.1 607 7 → nb_W 106 0 [(20, 603), (2, 6), (0, 0)] [] M (fun r M16 => ∃ x15 : Int, r = [(0, x15)] ∧ nb_Lay M16 ∧ (x15 = 0 → nb_W 92 0 [(20, 603), (0, 1), (0, M16.1 603 4)] [] M16 (fun r M20 => r = [] ∧ nb_Lay M20 ∧ (nb_Lay M20 → Q [] M20))) ∧ (x15 ≠ 0 → nb_W 113 0 [(20, 603), (98, 0), (98, 0)] [] M16 (fun r M23 => r = [] ∧ nb_Lay M23 ∧ (nb_Lay M23 → Q [] M23)))))) :
    nb_W 107 29 [(20, 603)] [] M Q := by
  replace H := nb_Hw H
  obtain ⟨p0_, p1_, H⟩ := H
  replace H := nb_Hw H
  have E1 : nb_rd M 603 16 = 607 := W.m16
  have N2 : nb_ln M 607 = 347 := W.lk (by decide) (by decide +kernel)
  have E3 : nb_rd M 607 7 = M.1 607 7 := nb_rd_1 _ _ _
  refine nb_Wg (q_m_readLine_29 _ _ (by omega) (by rw [E1]; first | done | omega) (by omega) (by rw [E1, N2]; first | done | omega)) ?_
  simp only [E1, E3]
  clear E1 N2 E3
  refine nb_Gi (fun c26 => ?_) (fun c26 => ?_)
  · have H := nb_Hw ((nb_Hu H).1 c26)
    refine nb_Gr ?_
    refine nb_Wg (q_m_readLine_30 _ _ _ _) ?_
    refine nb_Gr ?_
    refine nb_Wg (q_m_readLine_32 _ _ _ _ _ (by omega)) ?_
    refine nb_Gb ?_
    refine nb_W.imp (nb_Hu H) (fun r M5 H => ?_)
    obtain ⟨x4, rfl, W6, H⟩ := H
    replace H := nb_Hw H
    show nb_W 107 33 [(20, 603)] [(0, x4)] M5 _
    refine nb_Wg (q_m_readLine_33 _ _ _) ?_
    refine nb_Gi (fun c14 => ?_) (fun c14 => ?_)
    · have H := nb_Hw ((nb_Hu H).1 c14)
      refine nb_Gr ?_
      have E7 : nb_rd M5 603 4 = M5.1 603 4 := nb_rd_1 _ _ _
      refine nb_Wg (q_m_readLine_36 _ _ (by omega)) ?_
      simp only [E7]
      clear E7
      refine nb_Gb ?_
      refine nb_W.imp (nb_Hu H) (fun r M9 H => ?_)
      obtain ⟨rfl, W10, H⟩ := H
      replace H := nb_Hw H
      show nb_W 107 37 [(20, 603)] [] M9 _
      refine nb_Wg (q_m_readLine_37 _ _) ?_
      refine nb_Gs ?_
      exact nb_Hu H W10
    · have H := nb_Hw ((nb_Hu H).2 (by omega))
      have c14 : x4 ≠ 0 := by omega
      refine nb_Gr ?_
      refine nb_Wg (q_m_readLine_34 _ _ (by omega)) ?_
      refine nb_Gb ?_
      refine nb_W.imp (nb_Hu H) (fun r M12 H => ?_)
      obtain ⟨rfl, W13, H⟩ := H
      replace H := nb_Hw H
      show nb_W 107 35 [(20, 603)] [] M12 _
      refine nb_Wg (q_m_readLine_35 _ _) ?_
      refine nb_Gr ?_
      refine nb_Wg (q_m_readLine_37 _ _) ?_
      refine nb_Gs ?_
      exact nb_Hu H W13
  · have H := nb_Hw ((nb_Hu H).2 (by omega))
    have c26 : 8 ≤ M.1 607 7 := by omega
    refine nb_Gr ?_
    refine nb_Wg (q_m_readLine_31 _ _ _ _) ?_
    refine nb_Gr ?_
    refine nb_Wg (q_m_readLine_32 _ _ _ _ _ (by omega)) ?_
    refine nb_Gb ?_
    refine nb_W.imp (nb_Hu H) (fun r M16 H => ?_)
    obtain ⟨x15, rfl, W17, H⟩ := H
    replace H := nb_Hw H
    show nb_W 107 33 [(20, 603)] [(0, x15)] M16 _
    refine nb_Wg (q_m_readLine_33 _ _ _) ?_
    refine nb_Gi (fun c25 => ?_) (fun c25 => ?_)
    · have H := nb_Hw ((nb_Hu H).1 c25)
      refine nb_Gr ?_
      have E18 : nb_rd M16 603 4 = M16.1 603 4 := nb_rd_1 _ _ _
      refine nb_Wg (q_m_readLine_36 _ _ (by omega)) ?_
      simp only [E18]
      clear E18
      refine nb_Gb ?_
      refine nb_W.imp (nb_Hu H) (fun r M20 H => ?_)
      obtain ⟨rfl, W21, H⟩ := H
      replace H := nb_Hw H
      show nb_W 107 37 [(20, 603)] [] M20 _
      refine nb_Wg (q_m_readLine_37 _ _) ?_
      refine nb_Gs ?_
      exact nb_Hu H W21
    · have H := nb_Hw ((nb_Hu H).2 (by omega))
      have c25 : x15 ≠ 0 := by omega
      refine nb_Gr ?_
      refine nb_Wg (q_m_readLine_34 _ _ (by omega)) ?_
      refine nb_Gb ?_
      refine nb_W.imp (nb_Hu H) (fun r M23 H => ?_)
      obtain ⟨rfl, W24, H⟩ := H
      replace H := nb_Hw H
      show nb_W 107 35 [(20, 603)] [] M23 _
      refine nb_Wg (q_m_readLine_35 _ _) ?_
      refine nb_Gr ?_
      refine nb_Wg (q_m_readLine_37 _ _) ?_
      refine nb_Gs ?_
      exact nb_Hu H W24

theorem w_m_houseLine_0 {M : nb_M} {Q : List nb_V → nb_M → Prop} (W : nb_Lay M) (H : (M.1 607 0 = 1 → nb_W 92 0 [(20, 603), (0, 3), (0, M.1 603 4)] [] M (fun r M6 => r = [] ∧ nb_Lay M6 ∧ (M6.1 603 13 = 0 → nb_W 91 0 [(20, 603), (98, 0), (98, 0), (98, 0)] [] M6 (fun r M10 => r = [] ∧ nb_Lay M10 ∧ nb_W 103 0 [(20, 603), (2, 7), (0, 1), (0, 20)] [] M10 (fun r M14 => ∃ x13 : Int, r = [(0, x13)] ∧ nb_Lay M14 ∧ nb_W 103 0 [(20, 603), (2, 8), (0, 1), (0, 600)] [] (nb_wr M14 607 1 x13) (fun r M20 => ∃ x19 : Int, r = [(0, x19)] ∧ nb_Lay M20 ∧ (M20.1 603 13 = 0 → (nb_Lay (nb_wr (nb_wr M20 607 2 x19) 607 0 1) → Q [] (nb_wr (nb_wr M20 607 2 x19) 607 0 1))) ∧ (M20.1 603 13 ≠ 0 → (nb_Lay (nb_wr M20 607 2 x19) → Q [] (nb_wr M20 607 2 x19))))))) ∧ (M6.1 603 13 ≠ 0 → (nb_Lay M6 → Q [] M6)))) ∧ (M.1 607 0 ≠ 1 → (M.1 603 13 = 0 → nb_W 91 0 [(20, 603), (98, 0), (98, 0), (98, 0)] [] M (fun r M32 => r = [] ∧ nb_Lay M32 ∧ nb_W 103 0 [(20, 603), (2, 7), (0, 1), (0, 20)] [] M32 (fun r M36 => ∃ x35 : Int, r = [(0, x35)] ∧ nb_Lay M36 ∧ nb_W 103 0 [(20, 603), (2, 8), (0, 1), (0, 600)] [] (nb_wr M36 607 1 x35) (fun r M42 => ∃ x41 : Int, r = [(0, x41)] ∧ nb_Lay M42 ∧ (M42.1 603 13 = 0 → (nb_Lay (nb_wr (nb_wr M42 607 2 x41) 607 0 1) → Q [] (nb_wr (nb_wr M42 607 2 x41) 607 0 1))) ∧ (M42.1 603 13 ≠ 0 → (nb_Lay (nb_wr M42 607 2 x41) → Q [] (nb_wr M42 607 2 x41))))))) ∧ (M.1 603 13 ≠ 0 → (nb_Lay M → Q [] M)))) :
    nb_W 108 0 [(20, 603)] [] M Q := by
  replace H := nb_Hw H
  have E1 : nb_rd M 603 16 = 607 := W.m16
  have N2 : nb_ln M 607 = 347 := W.lk (by decide) (by decide +kernel)
  have E3 : nb_rd M 607 0 = M.1 607 0 := nb_rd_1 _ _ _
  refine nb_Wg (q_m_houseLine_0 _ _ (by omega) (by rw [E1]; first | done | omega) (by omega) (by rw [E1, N2]; first | done | omega)) ?_
  simp only [E1, E3]
  clear E1 N2 E3
  refine nb_Gi (fun c52 => ?_) (fun c52 => ?_)
  · have H := nb_Hw ((nb_Hu H).1 c52)
    refine nb_Gr ?_
    have E4 : nb_rd M 603 4 = M.1 603 4 := nb_rd_1 _ _ _
    refine nb_Wg (q_m_houseLine_1 _ _ (by omega)) ?_
    simp only [E4]
    clear E4
    refine nb_Gb ?_
    refine nb_W.imp (nb_Hu H) (fun r M6 H => ?_)
    obtain ⟨rfl, W7, H⟩ := H
    replace H := nb_Hw H
    show nb_W 108 2 [(20, 603)] [] M6 _
    have E8 : nb_rd M6 603 13 = M6.1 603 13 := nb_rd_1 _ _ _
    refine nb_Wg (q_m_houseLine_2 _ _ (by omega)) ?_
    simp only [E8]
    clear E8
    refine nb_Gi (fun c29 => ?_) (fun c29 => ?_)
    · have H := nb_Hw ((nb_Hu H).1 c29)
      refine nb_Gr ?_
      refine nb_Wg (q_m_houseLine_4 _ _ (by omega)) ?_
      refine nb_Gb ?_
      refine nb_W.imp (nb_Hu H) (fun r M10 H => ?_)
      obtain ⟨rfl, W11, H⟩ := H
      replace H := nb_Hw H
      show nb_W 108 5 [(20, 603)] [] M10 _
      have E12 : nb_rd M10 603 16 = 607 := W11.m16
      refine nb_Wg (q_m_houseLine_5 _ _ (by omega)) ?_
      simp only [E12]
      clear E12
      refine nb_Gb ?_
      refine nb_W.imp (nb_Hu H) (fun r M14 H => ?_)
      obtain ⟨x13, rfl, W15, H⟩ := H
      replace H := nb_Hw H
      show nb_W 108 6 [(20, 603)] [(0, x13), (0, 1), (3, 607)] M14 _
      have N16 : nb_ln M14 607 = 347 := W15.lk (by decide) (by decide +kernel)
      refine nb_Wg (q_m_houseLine_6 _ _ _ _ _ (by omega) (by omega) (by omega) (by rw [N16]; first | done | omega)) ?_
      clear N16
      have W17 : nb_Lay (nb_wr M14 607 1 x13) := W15.wr (fun w => (nb_nnum (by decide) (by decide)))
      refine nb_Gr ?_
      have E18 : nb_rd (nb_wr M14 607 1 x13) 603 16 = 607 := W17.m16
      refine nb_Wg (q_m_houseLine_7 _ _ (by omega)) ?_
      simp only [E18]
      clear E18
      refine nb_Gb ?_
      refine nb_W.imp (nb_Hu H) (fun r M20 H => ?_)
      obtain ⟨x19, rfl, W21, H⟩ := H
      replace H := nb_Hw H
      show nb_W 108 8 [(20, 603)] [(0, x19), (0, 2), (3, 607)] M20 _
      have N22 : nb_ln M20 607 = 347 := W21.lk (by decide) (by decide +kernel)
      refine nb_Wg (q_m_houseLine_8 _ _ _ _ _ (by omega) (by omega) (by omega) (by rw [N22]; first | done | omega)) ?_
      clear N22
      have W23 : nb_Lay (nb_wr M20 607 2 x19) := W21.wr (fun w => (nb_nnum (by decide) (by decide)))
      refine nb_Gr ?_
      have E24 : nb_rd (nb_wr M20 607 2 x19) 603 13 = M20.1 603 13 := nb_rdw (Or.inl (by decide)) (nb_rd_1 _ _ _)
      refine nb_Wg (q_m_houseLine_9 _ _ (by omega)) ?_
      simp only [E24]
      clear E24
      refine nb_Gi (fun c28 => ?_) (fun c28 => ?_)
      · have H := nb_Hw ((nb_Hu H).1 c28)
        refine nb_Gr ?_
        have E25 : nb_rd (nb_wr M20 607 2 x19) 603 16 = 607 := W23.m16
        have N26 : nb_ln (nb_wr M20 607 2 x19) 607 = 347 := W23.lk (by decide) (by decide +kernel)
        refine nb_Wg (q_m_houseLine_10 _ _ (by omega) (by rw [E25]; first | done | omega) (by rw [E25]; first | done | omega) (by omega) (by rw [E25, N26]; first | done | omega)) ?_
        simp only [E25]
        clear E25 N26
        have W27 : nb_Lay (nb_wr (nb_wr M20 607 2 x19) 607 0 1) := W23.wr (fun w => (nb_nnum (by decide) (by decide)))
        refine nb_Gr ?_
        refine nb_Wg (q_m_houseLine_11 _ _) ?_
        refine nb_Gs ?_
        exact nb_Hu H W27
      · have H := nb_Hw ((nb_Hu H).2 (by omega))
        have c28 : M20.1 603 13 ≠ 0 := by omega
        refine nb_Gr ?_
        refine nb_Wg (q_m_houseLine_11 _ _) ?_
        refine nb_Gs ?_
        exact nb_Hu H W23
    · have H := nb_Hw ((nb_Hu H).2 (by omega))
      have c29 : M6.1 603 13 ≠ 0 := by omega
      refine nb_Gr ?_
      refine nb_Wg (q_m_houseLine_3 _ _) ?_
      refine nb_Gs ?_
      exact nb_Hu H W7
  · have H := nb_Hw ((nb_Hu H).2 (by omega))
    have c52 : M.1 607 0 ≠ 1 := by omega
    refine nb_Gr ?_
    have E30 : nb_rd M 603 13 = M.1 603 13 := nb_rd_1 _ _ _
    refine nb_Wg (q_m_houseLine_2 _ _ (by omega)) ?_
    simp only [E30]
    clear E30
    refine nb_Gi (fun c51 => ?_) (fun c51 => ?_)
    · have H := nb_Hw ((nb_Hu H).1 c51)
      refine nb_Gr ?_
      refine nb_Wg (q_m_houseLine_4 _ _ (by omega)) ?_
      refine nb_Gb ?_
      refine nb_W.imp (nb_Hu H) (fun r M32 H => ?_)
      obtain ⟨rfl, W33, H⟩ := H
      replace H := nb_Hw H
      show nb_W 108 5 [(20, 603)] [] M32 _
      have E34 : nb_rd M32 603 16 = 607 := W33.m16
      refine nb_Wg (q_m_houseLine_5 _ _ (by omega)) ?_
      simp only [E34]
      clear E34
      refine nb_Gb ?_
      refine nb_W.imp (nb_Hu H) (fun r M36 H => ?_)
      obtain ⟨x35, rfl, W37, H⟩ := H
      replace H := nb_Hw H
      show nb_W 108 6 [(20, 603)] [(0, x35), (0, 1), (3, 607)] M36 _
      have N38 : nb_ln M36 607 = 347 := W37.lk (by decide) (by decide +kernel)
      refine nb_Wg (q_m_houseLine_6 _ _ _ _ _ (by omega) (by omega) (by omega) (by rw [N38]; first | done | omega)) ?_
      clear N38
      have W39 : nb_Lay (nb_wr M36 607 1 x35) := W37.wr (fun w => (nb_nnum (by decide) (by decide)))
      refine nb_Gr ?_
      have E40 : nb_rd (nb_wr M36 607 1 x35) 603 16 = 607 := W39.m16
      refine nb_Wg (q_m_houseLine_7 _ _ (by omega)) ?_
      simp only [E40]
      clear E40
      refine nb_Gb ?_
      refine nb_W.imp (nb_Hu H) (fun r M42 H => ?_)
      obtain ⟨x41, rfl, W43, H⟩ := H
      replace H := nb_Hw H
      show nb_W 108 8 [(20, 603)] [(0, x41), (0, 2), (3, 607)] M42 _
      have N44 : nb_ln M42 607 = 347 := W43.lk (by decide) (by decide +kernel)
      refine nb_Wg (q_m_houseLine_8 _ _ _ _ _ (by omega) (by omega) (by omega) (by rw [N44]; first | done | omega)) ?_
      clear N44
      have W45 : nb_Lay (nb_wr M42 607 2 x41) := W43.wr (fun w => (nb_nnum (by decide) (by decide)))
      refine nb_Gr ?_
      have E46 : nb_rd (nb_wr M42 607 2 x41) 603 13 = M42.1 603 13 := nb_rdw (Or.inl (by decide)) (nb_rd_1 _ _ _)
      refine nb_Wg (q_m_houseLine_9 _ _ (by omega)) ?_
      simp only [E46]
      clear E46
      refine nb_Gi (fun c50 => ?_) (fun c50 => ?_)
      · have H := nb_Hw ((nb_Hu H).1 c50)
        refine nb_Gr ?_
        have E47 : nb_rd (nb_wr M42 607 2 x41) 603 16 = 607 := W45.m16
        have N48 : nb_ln (nb_wr M42 607 2 x41) 607 = 347 := W45.lk (by decide) (by decide +kernel)
        refine nb_Wg (q_m_houseLine_10 _ _ (by omega) (by rw [E47]; first | done | omega) (by rw [E47]; first | done | omega) (by omega) (by rw [E47, N48]; first | done | omega)) ?_
        simp only [E47]
        clear E47 N48
        have W49 : nb_Lay (nb_wr (nb_wr M42 607 2 x41) 607 0 1) := W45.wr (fun w => (nb_nnum (by decide) (by decide)))
        refine nb_Gr ?_
        refine nb_Wg (q_m_houseLine_11 _ _) ?_
        refine nb_Gs ?_
        exact nb_Hu H W49
      · have H := nb_Hw ((nb_Hu H).2 (by omega))
        have c50 : M42.1 603 13 ≠ 0 := by omega
        refine nb_Gr ?_
        refine nb_Wg (q_m_houseLine_11 _ _) ?_
        refine nb_Gs ?_
        exact nb_Hu H W45
    · have H := nb_Hw ((nb_Hu H).2 (by omega))
      have c51 : M.1 603 13 ≠ 0 := by omega
      refine nb_Gr ?_
      refine nb_Wg (q_m_houseLine_3 _ _) ?_
      refine nb_Gs ?_
      exact nb_Hu H W

theorem w_m_drinkLine_0 {v1 : nb_V} {M : nb_M} {Q : List nb_V → nb_M → Prop} (W : nb_Lay M) (H : (M.1 603 13 = 0 → 0 ≤ M.1 607 3 ∧ M.1 607 3 ≤ 5 ∧ nb_W 98 0 [(20, 603), (0, M.1 607 3), (98, 0)] [] M (fun r M11 => r = [] ∧ nb_Lay M11 ∧ nb_W 103 0 [(20, 603), (2, 9), (0, 1), (0, 90)] [] M11 (fun r M15 => ∃ x14 : Int, r = [(0, x14)] ∧ nb_Lay M15 ∧ nb_W 103 0 [(20, 603), (2, 10), (0, 0), (0, x14)] [] (nb_wr M15 607 (8 + 3 * (M.1 607 3)) x14) (fun r M25 => ∃ x24 : Int, r = [(0, x24)] ∧ nb_Lay M25 ∧ nb_W 103 0 [(20, 603), (2, 11), (0, 0), (0, 99)] [] (nb_wr M25 607 (8 + 3 * (M.1 607 3) + 1) x24) (fun r M32 => ∃ x31 : Int, r = [(0, x31)] ∧ nb_Lay M32 ∧ (M32.1 603 13 = 0 → (nb_Lay (nb_wr (nb_wr M32 607 (8 + 3 * (M.1 607 3) + 2) x31) 607 3 (nb_add (M32.1 607 3) 1)) → Q [] (nb_wr (nb_wr M32 607 (8 + 3 * (M.1 607 3) + 2) x31) 607 3 (nb_add (M32.1 607 3) 1)))) ∧ (M32.1 603 13 ≠ 0 → (nb_Lay (nb_wr M32 607 (8 + 3 * (M.1 607 3) + 2) x31) → Q [] (nb_wr M32 607 (8 + 3 * (M.1 607 3) + 2) x31)))))))) ∧ (M.1 603 13 ≠ 0 → (nb_Lay M → Q [] M))) :
    nb_W 109 0 [(20, 603), v1] [] M Q := by
  replace H := nb_Hw H
  have E1 : nb_rd M 603 13 = M.1 603 13 := nb_rd_1 _ _ _
  refine nb_Wg (q_m_drinkLine_0 _ _ _ (by omega)) ?_
  simp only [E1]
  clear E1
  refine nb_Gi (fun c43 => ?_) (fun c43 => ?_)
  · have H := nb_Hw ((nb_Hu H).1 c43)
    refine nb_Gr ?_
    obtain ⟨p0_, p1_, H⟩ := H
    replace H := nb_Hw H
    have E2 : nb_rd M 603 16 = 607 := W.m16
    have N3 : nb_ln M 607 = 347 := W.lk (by decide) (by decide +kernel)
    have E4 : nb_rd M 607 3 = M.1 607 3 := nb_rd_1 _ _ _
    have E5 : nb_mul 3 (M.1 607 3) = 3 * (M.1 607 3) := nb_mul_eq (by omega) (by omega)
    have E6 : nb_add 8 (3 * (M.1 607 3)) = 8 + 3 * (M.1 607 3) := (nb_add_eq (x := 8) (y := 3 * (M.1 607 3)) (by omega) (by omega)).trans (by omega)
    have E7 : nb_rd M 603 16 = 607 := W.m16
    have N8 : nb_ln M 607 = 347 := W.lk (by decide) (by decide +kernel)
    have E9 : nb_rd M 607 3 = M.1 607 3 := nb_rd_1 _ _ _
    refine nb_Wg (q_m_drinkLine_2 _ _ _ (by omega) (by rw [E2]; first | done | omega) (by omega) (by rw [E2, N3]; first | done | omega)) ?_
    simp only [E2, E4, E5, E6, E7, E9]
    clear E2 N3 E4 E5 E6 E7 N8 E9
    refine nb_Gb ?_
    refine nb_W.imp (nb_Hu H) (fun r M11 H => ?_)
    obtain ⟨rfl, W12, H⟩ := H
    replace H := nb_Hw H
    show nb_W 109 3 [(20, 603), (0, 8 + 3 * (M.1 607 3))] [] M11 _
    have E13 : nb_rd M11 603 16 = 607 := W12.m16
    refine nb_Wg (q_m_drinkLine_3 _ _ _ (by omega)) ?_
    simp only [E13]
    clear E13
    refine nb_Gb ?_
    refine nb_W.imp (nb_Hu H) (fun r M15 H => ?_)
    obtain ⟨x14, rfl, W16, H⟩ := H
    replace H := nb_Hw H
    show nb_W 109 4 [(20, 603), (0, 8 + 3 * (M.1 607 3))] [(0, x14), (0, 8 + 3 * (M.1 607 3)), (3, 607)] M15 _
    have N17 : nb_ln M15 607 = 347 := W16.lk (by decide) (by decide +kernel)
    refine nb_Wg (q_m_drinkLine_4 _ _ _ _ _ _ (by omega) (by omega) (by omega) (by rw [N17]; first | done | omega)) ?_
    clear N17
    have W18 : nb_Lay (nb_wr M15 607 (8 + 3 * (M.1 607 3)) x14) := W16.wr (fun w => (nb_nnum (by decide) (by decide)))
    refine nb_Gr ?_
    have E19 : nb_rd (nb_wr M15 607 (8 + 3 * (M.1 607 3)) x14) 603 16 = 607 := W18.m16
    have E20 : nb_add (8 + 3 * (M.1 607 3)) 1 = 8 + 3 * (M.1 607 3) + 1 := nb_add_eq (by omega) (by omega)
    have E21 : nb_rd (nb_wr M15 607 (8 + 3 * (M.1 607 3)) x14) 603 16 = 607 := W18.m16
    have N22 : nb_ln (nb_wr M15 607 (8 + 3 * (M.1 607 3)) x14) 607 = 347 := W18.lk (by decide) (by decide +kernel)
    have E23 : nb_rd (nb_wr M15 607 (8 + 3 * (M.1 607 3)) x14) 607 (8 + 3 * (M.1 607 3)) = x14 := nb_rd_same _ _ _ _
    refine nb_Wg (q_m_drinkLine_5 _ _ _ (by omega) (by rw [E21]; first | done | omega) (by omega) (by rw [E21, N22]; first | done | omega)) ?_
    simp only [E19, E20, E21, E23]
    clear E19 E20 E21 N22 E23
    refine nb_Gb ?_
    refine nb_W.imp (nb_Hu H) (fun r M25 H => ?_)
    obtain ⟨x24, rfl, W26, H⟩ := H
    replace H := nb_Hw H
    show nb_W 109 6 [(20, 603), (0, 8 + 3 * (M.1 607 3))] [(0, x24), (0, 8 + 3 * (M.1 607 3) + 1), (3, 607)] M25 _
    have N27 : nb_ln M25 607 = 347 := W26.lk (by decide) (by decide +kernel)
    refine nb_Wg (q_m_drinkLine_6 _ _ _ _ _ _ (by omega) (by omega) (by omega) (by rw [N27]; first | done | omega)) ?_
    clear N27
    have W28 : nb_Lay (nb_wr M25 607 (8 + 3 * (M.1 607 3) + 1) x24) := W26.wr (fun w => (nb_nnum (by decide) (by decide)))
    refine nb_Gr ?_
    have E29 : nb_rd (nb_wr M25 607 (8 + 3 * (M.1 607 3) + 1) x24) 603 16 = 607 := W28.m16
    have E30 : nb_add (8 + 3 * (M.1 607 3)) 2 = 8 + 3 * (M.1 607 3) + 2 := nb_add_eq (by omega) (by omega)
    refine nb_Wg (q_m_drinkLine_7 _ _ _ (by omega)) ?_
    simp only [E29, E30]
    clear E29 E30
    refine nb_Gb ?_
    refine nb_W.imp (nb_Hu H) (fun r M32 H => ?_)
    obtain ⟨x31, rfl, W33, H⟩ := H
    replace H := nb_Hw H
    show nb_W 109 8 [(20, 603), (0, 8 + 3 * (M.1 607 3))] [(0, x31), (0, 8 + 3 * (M.1 607 3) + 2), (3, 607)] M32 _
    have N34 : nb_ln M32 607 = 347 := W33.lk (by decide) (by decide +kernel)
    refine nb_Wg (q_m_drinkLine_8 _ _ _ _ _ _ (by omega) (by omega) (by omega) (by rw [N34]; first | done | omega)) ?_
    clear N34
    have W35 : nb_Lay (nb_wr M32 607 (8 + 3 * (M.1 607 3) + 2) x31) := W33.wr (fun w => (nb_nnum (by decide) (by decide)))
    refine nb_Gr ?_
    have E36 : nb_rd (nb_wr M32 607 (8 + 3 * (M.1 607 3) + 2) x31) 603 13 = M32.1 603 13 := nb_rdw (Or.inl (by decide)) (nb_rd_1 _ _ _)
    refine nb_Wg (q_m_drinkLine_9 _ _ _ (by omega)) ?_
    simp only [E36]
    clear E36
    refine nb_Gi (fun c42 => ?_) (fun c42 => ?_)
    · have H := nb_Hw ((nb_Hu H).1 c42)
      refine nb_Gr ?_
      have E37 : nb_rd (nb_wr M32 607 (8 + 3 * (M.1 607 3) + 2) x31) 603 16 = 607 := W35.m16
      have N38 : nb_ln (nb_wr M32 607 (8 + 3 * (M.1 607 3) + 2) x31) 607 = 347 := W35.lk (by decide) (by decide +kernel)
      have E39 : nb_rd (nb_wr M32 607 (8 + 3 * (M.1 607 3) + 2) x31) 607 3 = M32.1 607 3 := nb_rdw (Or.inr (by omega)) (nb_rd_1 _ _ _)
      have N40 : nb_ln (nb_wr M32 607 (8 + 3 * (M.1 607 3) + 2) x31) 607 = 347 := W35.lk (by decide) (by decide +kernel)
      refine nb_Wg (q_m_drinkLine_10 _ _ _ (by omega) (by rw [E37]; first | done | omega) (by omega) (by rw [E37, N38]; first | done | omega) (by rw [E37]; first | done | omega)) ?_
      simp only [E37, E39]
      clear E37 N38 E39 N40
      have W41 : nb_Lay (nb_wr (nb_wr M32 607 (8 + 3 * (M.1 607 3) + 2) x31) 607 3 (nb_add (M32.1 607 3) 1)) := W35.wr (fun w => (nb_nnum (by decide) (by decide)))
      refine nb_Gr ?_
      refine nb_Wg (q_m_drinkLine_11 _ _ _) ?_
      refine nb_Gs ?_
      exact nb_Hu H W41
    · have H := nb_Hw ((nb_Hu H).2 (by omega))
      have c42 : M32.1 603 13 ≠ 0 := by omega
      refine nb_Gr ?_
      refine nb_Wg (q_m_drinkLine_11 _ _ _) ?_
      refine nb_Gs ?_
      exact nb_Hu H W35
  · have H := nb_Hw ((nb_Hu H).2 (by omega))
    have c43 : M.1 603 13 ≠ 0 := by omega
    refine nb_Gr ?_
    refine nb_Wg (q_m_drinkLine_1 _ _ _) ?_
    refine nb_Gs ?_
    exact nb_Hu H W

theorem w_m_staffLine_0 {v1 v2 : nb_V} {M : nb_M} {Q : List nb_V → nb_M → Prop} (W : nb_Lay M) (H : (M.1 603 13 = 0 → 0 ≤ M.1 607 4 ∧ M.1 607 4 ≤ 3 ∧ nb_W 98 0 [(20, 603), (0, 5 + M.1 607 4), (98, 0)] [] M (fun r M12 => r = [] ∧ nb_Lay M12 ∧ nb_W 93 0 [(20, 603), (2, 12), (98, 0), (98, 0)] [] M12 (fun r M15 => ∃ x14 : Int, r = [(0, x14)] ∧ nb_Lay M15 ∧ (x14 = 0 → nb_W 93 0 [(20, 603), (2, 13), (98, 0), (98, 0)] [] M15 (fun r M18 => ∃ x17 : Int, r = [(0, x17)] ∧ nb_Lay M18 ∧ (x17 = 0 → nb_W 93 0 [(20, 603), (2, 14), (98, 0), (98, 0)] [] M18 (fun r M21 => ∃ x20 : Int, r = [(0, x20)] ∧ nb_Lay M21 ∧ (x20 = 0 → nb_W 93 0 [(20, 603), (2, 15), (98, 0), (98, 0)] [] M21 (fun r M24 => ∃ x23 : Int, r = [(0, x23)] ∧ nb_Lay M24 ∧ (x23 = 0 → nb_W 93 0 [(20, 603), (2, 16), (98, 0), (98, 0)] [] M24 (fun r M27 => ∃ x26 : Int, r = [(0, x26)] ∧ nb_Lay M27 ∧ (x26 = 0 → nb_W 110 19 [(20, 603), (0, 23 + 6 * (M.1 607 4)), v2] [(0, (-1))] M27 Q) ∧ (x26 ≠ 0 → nb_W 110 19 [(20, 603), (0, 23 + 6 * (M.1 607 4)), v2] [(0, 4)] M27 Q))) ∧ (x23 ≠ 0 → nb_W 110 19 [(20, 603), (0, 23 + 6 * (M.1 607 4)), v2] [(0, 3)] M24 Q))) ∧ (x20 ≠ 0 → nb_W 110 19 [(20, 603), (0, 23 + 6 * (M.1 607 4)), v2] [(0, 2)] M21 Q))) ∧ (x17 ≠ 0 → nb_W 110 19 [(20, 603), (0, 23 + 6 * (M.1 607 4)), v2] [(0, 1)] M18 Q))) ∧ (x14 ≠ 0 → nb_W 110 19 [(20, 603), (0, 23 + 6 * (M.1 607 4)), v2] [(0, 0)] M15 Q)))) ∧ (M.1 603 13 ≠ 0 → (nb_Lay M → Q [] M))) :
    nb_W 110 0 [(20, 603), v1, v2] [] M Q := by
  replace H := nb_Hw H
  have E1 : nb_rd M 603 13 = M.1 603 13 := nb_rd_1 _ _ _
  refine nb_Wg (q_m_staffLine_0 _ _ _ _ (by omega)) ?_
  simp only [E1]
  clear E1
  refine nb_Gi (fun c34 => ?_) (fun c34 => ?_)
  · have H := nb_Hw ((nb_Hu H).1 c34)
    refine nb_Gr ?_
    obtain ⟨p0_, p1_, H⟩ := H
    replace H := nb_Hw H
    have E2 : nb_rd M 603 16 = 607 := W.m16
    have N3 : nb_ln M 607 = 347 := W.lk (by decide) (by decide +kernel)
    have E4 : nb_rd M 607 4 = M.1 607 4 := nb_rd_1 _ _ _
    have E5 : nb_mul 6 (M.1 607 4) = 6 * (M.1 607 4) := nb_mul_eq (by omega) (by omega)
    have E6 : nb_add 23 (6 * (M.1 607 4)) = 23 + 6 * (M.1 607 4) := (nb_add_eq (x := 23) (y := 6 * (M.1 607 4)) (by omega) (by omega)).trans (by omega)
    have E7 : nb_rd M 603 16 = 607 := W.m16
    have N8 : nb_ln M 607 = 347 := W.lk (by decide) (by decide +kernel)
    have E9 : nb_rd M 607 4 = M.1 607 4 := nb_rd_1 _ _ _
    have E10 : nb_add 5 (M.1 607 4) = 5 + M.1 607 4 := (nb_add_eq (x := 5) (y := M.1 607 4) (by omega) (by omega)).trans (by omega)
    refine nb_Wg (q_m_staffLine_2 _ _ _ _ (by omega) (by rw [E2]; first | done | omega) (by omega) (by rw [E2, N3]; first | done | omega)) ?_
    simp only [E2, E4, E5, E6, E7, E9, E10]
    clear E2 N3 E4 E5 E6 E7 N8 E9 E10
    refine nb_Gb ?_
    refine nb_W.imp (nb_Hu H) (fun r M12 H => ?_)
    obtain ⟨rfl, W13, H⟩ := H
    replace H := nb_Hw H
    show nb_W 110 3 [(20, 603), (0, 23 + 6 * (M.1 607 4)), v2] [] M12 _
    refine nb_Wg (q_m_staffLine_3 _ _ _ _ (by omega)) ?_
    refine nb_Gb ?_
    refine nb_W.imp (nb_Hu H) (fun r M15 H => ?_)
    obtain ⟨x14, rfl, W16, H⟩ := H
    replace H := nb_Hw H
    show nb_W 110 4 [(20, 603), (0, 23 + 6 * (M.1 607 4)), v2] [(0, x14)] M15 _
    refine nb_Wg (q_m_staffLine_4 _ _ _ _ _) ?_
    refine nb_Gi (fun c33 => ?_) (fun c33 => ?_)
    · have H := nb_Hw ((nb_Hu H).1 c33)
      refine nb_Gr ?_
      refine nb_Wg (q_m_staffLine_6 _ _ _ _ (by omega)) ?_
      refine nb_Gb ?_
      refine nb_W.imp (nb_Hu H) (fun r M18 H => ?_)
      obtain ⟨x17, rfl, W19, H⟩ := H
      replace H := nb_Hw H
      show nb_W 110 7 [(20, 603), (0, 23 + 6 * (M.1 607 4)), v2] [(0, x17)] M18 _
      refine nb_Wg (q_m_staffLine_7 _ _ _ _ _) ?_
      refine nb_Gi (fun c32 => ?_) (fun c32 => ?_)
      · have H := nb_Hw ((nb_Hu H).1 c32)
        refine nb_Gr ?_
        refine nb_Wg (q_m_staffLine_9 _ _ _ _ (by omega)) ?_
        refine nb_Gb ?_
        refine nb_W.imp (nb_Hu H) (fun r M21 H => ?_)
        obtain ⟨x20, rfl, W22, H⟩ := H
        replace H := nb_Hw H
        show nb_W 110 10 [(20, 603), (0, 23 + 6 * (M.1 607 4)), v2] [(0, x20)] M21 _
        refine nb_Wg (q_m_staffLine_10 _ _ _ _ _) ?_
        refine nb_Gi (fun c31 => ?_) (fun c31 => ?_)
        · have H := nb_Hw ((nb_Hu H).1 c31)
          refine nb_Gr ?_
          refine nb_Wg (q_m_staffLine_12 _ _ _ _ (by omega)) ?_
          refine nb_Gb ?_
          refine nb_W.imp (nb_Hu H) (fun r M24 H => ?_)
          obtain ⟨x23, rfl, W25, H⟩ := H
          replace H := nb_Hw H
          show nb_W 110 13 [(20, 603), (0, 23 + 6 * (M.1 607 4)), v2] [(0, x23)] M24 _
          refine nb_Wg (q_m_staffLine_13 _ _ _ _ _) ?_
          refine nb_Gi (fun c30 => ?_) (fun c30 => ?_)
          · have H := nb_Hw ((nb_Hu H).1 c30)
            refine nb_Gr ?_
            refine nb_Wg (q_m_staffLine_15 _ _ _ _ (by omega)) ?_
            refine nb_Gb ?_
            refine nb_W.imp (nb_Hu H) (fun r M27 H => ?_)
            obtain ⟨x26, rfl, W28, H⟩ := H
            replace H := nb_Hw H
            show nb_W 110 16 [(20, 603), (0, 23 + 6 * (M.1 607 4)), v2] [(0, x26)] M27 _
            refine nb_Wg (q_m_staffLine_16 _ _ _ _ _) ?_
            refine nb_Gi (fun c29 => ?_) (fun c29 => ?_)
            · have H := nb_Hw ((nb_Hu H).1 c29)
              refine nb_Gr ?_
              refine nb_Wg (q_m_staffLine_18 _ _ _ _) ?_
              refine nb_Gr ?_
              exact nb_Hu H
            · have H := nb_Hw ((nb_Hu H).2 (by omega))
              have c29 : x26 ≠ 0 := by omega
              refine nb_Gr ?_
              refine nb_Wg (q_m_staffLine_17 _ _ _ _) ?_
              refine nb_Gr ?_
              exact nb_Hu H
          · have H := nb_Hw ((nb_Hu H).2 (by omega))
            have c30 : x23 ≠ 0 := by omega
            refine nb_Gr ?_
            refine nb_Wg (q_m_staffLine_14 _ _ _ _) ?_
            refine nb_Gr ?_
            exact nb_Hu H
        · have H := nb_Hw ((nb_Hu H).2 (by omega))
          have c31 : x20 ≠ 0 := by omega
          refine nb_Gr ?_
          refine nb_Wg (q_m_staffLine_11 _ _ _ _) ?_
          refine nb_Gr ?_
          exact nb_Hu H
      · have H := nb_Hw ((nb_Hu H).2 (by omega))
        have c32 : x17 ≠ 0 := by omega
        refine nb_Gr ?_
        refine nb_Wg (q_m_staffLine_8 _ _ _ _) ?_
        refine nb_Gr ?_
        exact nb_Hu H
    · have H := nb_Hw ((nb_Hu H).2 (by omega))
      have c33 : x14 ≠ 0 := by omega
      refine nb_Gr ?_
      refine nb_Wg (q_m_staffLine_5 _ _ _ _) ?_
      refine nb_Gr ?_
      exact nb_Hu H
  · have H := nb_Hw ((nb_Hu H).2 (by omega))
    have c34 : M.1 603 13 ≠ 0 := by omega
    refine nb_Gr ?_
    refine nb_Wg (q_m_staffLine_1 _ _ _ _) ?_
    refine nb_Gs ?_
    exact nb_Hu H W

theorem w_m_staffLine_19 {l1 s0 : Int} {v2 : nb_V} {M : nb_M} {Q : List nb_V → nb_M → Prop} (W : nb_Lay M)  (b0_ : 23 ≤ l1 ∧ l1 ≤ 41) (H : (s0 < 0 → nb_W 92 0 [(20, 603), (0, 1), (0, M.1 603 4)] [] M (fun r M3 => r = [] ∧ nb_Lay M3 ∧ (M3.1 603 13 = 0 → nb_W 91 0 [(20, 603), (98, 0), (98, 0), (98, 0)] [] M3 (fun r M7 => r = [] ∧ nb_Lay M7 ∧ nb_W 103 0 [(20, 603), (2, 17), (0, 0), (0, nb_sub (M7.1 607 1) 1)] [] (nb_wr M7 607 l1 s0) (fun r M19 => ∃ x18 : Int, r = [(0, x18)] ∧ nb_Lay M19 ∧ nb_W 103 0 [(20, 603), (2, 18), (0, 0), (0, nb_sub (M19.1 607 1) 1)] [] (nb_wr M19 607 (l1 + 1) x18) (fun r M29 => ∃ x28 : Int, r = [(0, x28)] ∧ nb_Lay M29 ∧ nb_W 103 0 [(20, 603), (2, 19), (0, x28), (0, nb_sub (M29.1 607 1) 1)] [] (nb_wr M29 607 (l1 + 2) x28) (fun r M43 => ∃ x42 : Int, r = [(0, x42)] ∧ nb_Lay M43 ∧ nb_W 103 0 [(20, 603), (2, 20), (0, 0), (0, 9)] [] (nb_wr M43 607 (l1 + 3) x42) (fun r M50 => ∃ x49 : Int, r = [(0, x49)] ∧ nb_Lay M50 ∧ nb_W 103 0 [(20, 603), (2, 21), (0, 1), (0, 2)] [] (nb_wr M50 607 (l1 + 4) x49) (fun r M57 => ∃ x56 : Int, r = [(0, x56)] ∧ nb_Lay M57 ∧ (M57.1 603 13 = 0 → (nb_Lay (nb_wr (nb_wr M57 607 (l1 + 5) x56) 607 4 (nb_add (M57.1 607 4) 1)) → Q [] (nb_wr (nb_wr M57 607 (l1 + 5) x56) 607 4 (nb_add (M57.1 607 4) 1)))) ∧ (M57.1 603 13 ≠ 0 → (nb_Lay (nb_wr M57 607 (l1 + 5) x56) → Q [] (nb_wr M57 607 (l1 + 5) x56)))))))))) ∧ (M3.1 603 13 ≠ 0 → (nb_Lay M3 → Q [] M3)))) ∧ (0 ≤ s0 → (M.1 603 13 = 0 → nb_W 91 0 [(20, 603), (98, 0), (98, 0), (98, 0)] [] M (fun r M71 => r = [] ∧ nb_Lay M71 ∧ nb_W 103 0 [(20, 603), (2, 17), (0, 0), (0, nb_sub (M71.1 607 1) 1)] [] (nb_wr M71 607 l1 s0) (fun r M83 => ∃ x82 : Int, r = [(0, x82)] ∧ nb_Lay M83 ∧ nb_W 103 0 [(20, 603), (2, 18), (0, 0), (0, nb_sub (M83.1 607 1) 1)] [] (nb_wr M83 607 (l1 + 1) x82) (fun r M93 => ∃ x92 : Int, r = [(0, x92)] ∧ nb_Lay M93 ∧ nb_W 103 0 [(20, 603), (2, 19), (0, x92), (0, nb_sub (M93.1 607 1) 1)] [] (nb_wr M93 607 (l1 + 2) x92) (fun r M107 => ∃ x106 : Int, r = [(0, x106)] ∧ nb_Lay M107 ∧ nb_W 103 0 [(20, 603), (2, 20), (0, 0), (0, 9)] [] (nb_wr M107 607 (l1 + 3) x106) (fun r M114 => ∃ x113 : Int, r = [(0, x113)] ∧ nb_Lay M114 ∧ nb_W 103 0 [(20, 603), (2, 21), (0, 1), (0, 2)] [] (nb_wr M114 607 (l1 + 4) x113) (fun r M121 => ∃ x120 : Int, r = [(0, x120)] ∧ nb_Lay M121 ∧ (M121.1 603 13 = 0 → (nb_Lay (nb_wr (nb_wr M121 607 (l1 + 5) x120) 607 4 (nb_add (M121.1 607 4) 1)) → Q [] (nb_wr (nb_wr M121 607 (l1 + 5) x120) 607 4 (nb_add (M121.1 607 4) 1)))) ∧ (M121.1 603 13 ≠ 0 → (nb_Lay (nb_wr M121 607 (l1 + 5) x120) → Q [] (nb_wr M121 607 (l1 + 5) x120)))))))))) ∧ (M.1 603 13 ≠ 0 → (nb_Lay M → Q [] M)))) :
    nb_W 110 19 [(20, 603), (0, l1), v2] [(0, s0)] M Q := by
  replace H := nb_Hw H
  refine nb_Wg (q_m_staffLine_19 _ _ _ _ _) ?_
  refine nb_Gi (fun c133 => ?_) (fun c133 => ?_)
  · have H := nb_Hw ((nb_Hu H).1 c133)
    refine nb_Gr ?_
    have E1 : nb_rd M 603 4 = M.1 603 4 := nb_rd_1 _ _ _
    refine nb_Wg (q_m_staffLine_20 _ _ _ _ (by omega)) ?_
    simp only [E1]
    clear E1
    refine nb_Gb ?_
    refine nb_W.imp (nb_Hu H) (fun r M3 H => ?_)
    obtain ⟨rfl, W4, H⟩ := H
    replace H := nb_Hw H
    show nb_W 110 21 [(20, 603), (0, l1), (0, s0)] [] M3 _
    have E5 : nb_rd M3 603 13 = M3.1 603 13 := nb_rd_1 _ _ _
    refine nb_Wg (q_m_staffLine_21 _ _ _ _ (by omega)) ?_
    simp only [E5]
    clear E5
    refine nb_Gi (fun c68 => ?_) (fun c68 => ?_)
    · have H := nb_Hw ((nb_Hu H).1 c68)
      refine nb_Gr ?_
      refine nb_Wg (q_m_staffLine_23 _ _ _ _ (by omega)) ?_
      refine nb_Gb ?_
      refine nb_W.imp (nb_Hu H) (fun r M7 H => ?_)
      obtain ⟨rfl, W8, H⟩ := H
      replace H := nb_Hw H
      show nb_W 110 24 [(20, 603), (0, l1), (0, s0)] [] M7 _
      have E9 : nb_rd M7 603 16 = 607 := W8.m16
      have E10 : nb_add l1 0 = l1 := (nb_add_eq (x := l1) (y := 0) (by omega) (by omega)).trans (by omega)
      have N11 : nb_ln M7 607 = 347 := W8.lk (by decide) (by decide +kernel)
      refine nb_Wg (q_m_staffLine_24 _ _ _ _ (by omega) (by rw [E9]; first | done | omega) (by rw [E9]; first | done | omega) (by rw [E10]; first | done | omega) (by rw [E10, E9, N11]; first | done | omega)) ?_
      simp only [E9, E10]
      clear E9 E10 N11
      have W12 : nb_Lay (nb_wr M7 607 l1 s0) := W8.wr (fun w => (nb_nnum (by decide) (by decide)))
      refine nb_Gr ?_
      have E13 : nb_rd (nb_wr M7 607 l1 s0) 603 16 = 607 := W12.m16
      have E14 : nb_add l1 1 = l1 + 1 := nb_add_eq (by omega) (by omega)
      have E15 : nb_rd (nb_wr M7 607 l1 s0) 603 16 = 607 := W12.m16
      have N16 : nb_ln (nb_wr M7 607 l1 s0) 607 = 347 := W12.lk (by decide) (by decide +kernel)
      have E17 : nb_rd (nb_wr M7 607 l1 s0) 607 1 = M7.1 607 1 := nb_rdw (Or.inr (by omega)) (nb_rd_1 _ _ _)
      refine nb_Wg (q_m_staffLine_25 _ _ _ _ (by omega) (by rw [E15]; first | done | omega) (by omega) (by rw [E15, N16]; first | done | omega)) ?_
      simp only [E13, E14, E15, E17]
      clear E13 E14 E15 N16 E17
      refine nb_Gb ?_
      refine nb_W.imp (nb_Hu H) (fun r M19 H => ?_)
      obtain ⟨x18, rfl, W20, H⟩ := H
      replace H := nb_Hw H
      show nb_W 110 26 [(20, 603), (0, l1), (0, s0)] [(0, x18), (0, l1 + 1), (3, 607)] M19 _
      have N21 : nb_ln M19 607 = 347 := W20.lk (by decide) (by decide +kernel)
      refine nb_Wg (q_m_staffLine_26 _ _ _ _ _ _ _ (by omega) (by omega) (by omega) (by rw [N21]; first | done | omega)) ?_
      clear N21
      have W22 : nb_Lay (nb_wr M19 607 (l1 + 1) x18) := W20.wr (fun w => (nb_nnum (by decide) (by decide)))
      refine nb_Gr ?_
      have E23 : nb_rd (nb_wr M19 607 (l1 + 1) x18) 603 16 = 607 := W22.m16
      have E24 : nb_add l1 2 = l1 + 2 := nb_add_eq (by omega) (by omega)
      have E25 : nb_rd (nb_wr M19 607 (l1 + 1) x18) 603 16 = 607 := W22.m16
      have N26 : nb_ln (nb_wr M19 607 (l1 + 1) x18) 607 = 347 := W22.lk (by decide) (by decide +kernel)
      have E27 : nb_rd (nb_wr M19 607 (l1 + 1) x18) 607 1 = M19.1 607 1 := nb_rdw (Or.inr (by omega)) (nb_rd_1 _ _ _)
      refine nb_Wg (q_m_staffLine_27 _ _ _ _ (by omega) (by rw [E25]; first | done | omega) (by omega) (by rw [E25, N26]; first | done | omega)) ?_
      simp only [E23, E24, E25, E27]
      clear E23 E24 E25 N26 E27
      refine nb_Gb ?_
      refine nb_W.imp (nb_Hu H) (fun r M29 H => ?_)
      obtain ⟨x28, rfl, W30, H⟩ := H
      replace H := nb_Hw H
      show nb_W 110 28 [(20, 603), (0, l1), (0, s0)] [(0, x28), (0, l1 + 2), (3, 607)] M29 _
      have N31 : nb_ln M29 607 = 347 := W30.lk (by decide) (by decide +kernel)
      refine nb_Wg (q_m_staffLine_28 _ _ _ _ _ _ _ (by omega) (by omega) (by omega) (by rw [N31]; first | done | omega)) ?_
      clear N31
      have W32 : nb_Lay (nb_wr M29 607 (l1 + 2) x28) := W30.wr (fun w => (nb_nnum (by decide) (by decide)))
      refine nb_Gr ?_
      have E33 : nb_rd (nb_wr M29 607 (l1 + 2) x28) 603 16 = 607 := W32.m16
      have E34 : nb_add l1 3 = l1 + 3 := nb_add_eq (by omega) (by omega)
      have E35 : nb_rd (nb_wr M29 607 (l1 + 2) x28) 603 16 = 607 := W32.m16
      have E36 : nb_add l1 2 = l1 + 2 := nb_add_eq (by omega) (by omega)
      have N37 : nb_ln (nb_wr M29 607 (l1 + 2) x28) 607 = 347 := W32.lk (by decide) (by decide +kernel)
      have E38 : nb_rd (nb_wr M29 607 (l1 + 2) x28) 607 (l1 + 2) = x28 := nb_rd_same _ _ _ _
      have E39 : nb_rd (nb_wr M29 607 (l1 + 2) x28) 603 16 = 607 := W32.m16
      have N40 : nb_ln (nb_wr M29 607 (l1 + 2) x28) 607 = 347 := W32.lk (by decide) (by decide +kernel)
      have E41 : nb_rd (nb_wr M29 607 (l1 + 2) x28) 607 1 = M29.1 607 1 := nb_rdw (Or.inr (by omega)) (nb_rd_1 _ _ _)
      refine nb_Wg (q_m_staffLine_29 _ _ _ _ (by omega) (by rw [E35]; first | done | omega) (by rw [E36]; first | done | omega) (by rw [E36, E35, N37]; first | done | omega) (by omega) (by rw [E39, N40]; first | done | omega)) ?_
      simp only [E33, E34, E35, E36, E38, E39, E41]
      clear E33 E34 E35 E36 N37 E38 E39 N40 E41
      refine nb_Gb ?_
      refine nb_W.imp (nb_Hu H) (fun r M43 H => ?_)
      obtain ⟨x42, rfl, W44, H⟩ := H
      replace H := nb_Hw H
      show nb_W 110 30 [(20, 603), (0, l1), (0, s0)] [(0, x42), (0, l1 + 3), (3, 607)] M43 _
      have N45 : nb_ln M43 607 = 347 := W44.lk (by decide) (by decide +kernel)
      refine nb_Wg (q_m_staffLine_30 _ _ _ _ _ _ _ (by omega) (by omega) (by omega) (by rw [N45]; first | done | omega)) ?_
      clear N45
      have W46 : nb_Lay (nb_wr M43 607 (l1 + 3) x42) := W44.wr (fun w => (nb_nnum (by decide) (by decide)))
      refine nb_Gr ?_
      have E47 : nb_rd (nb_wr M43 607 (l1 + 3) x42) 603 16 = 607 := W46.m16
      have E48 : nb_add l1 4 = l1 + 4 := nb_add_eq (by omega) (by omega)
      refine nb_Wg (q_m_staffLine_31 _ _ _ _ (by omega)) ?_
      simp only [E47, E48]
      clear E47 E48
      refine nb_Gb ?_
      refine nb_W.imp (nb_Hu H) (fun r M50 H => ?_)
      obtain ⟨x49, rfl, W51, H⟩ := H
      replace H := nb_Hw H
      show nb_W 110 32 [(20, 603), (0, l1), (0, s0)] [(0, x49), (0, l1 + 4), (3, 607)] M50 _
      have N52 : nb_ln M50 607 = 347 := W51.lk (by decide) (by decide +kernel)
      refine nb_Wg (q_m_staffLine_32 _ _ _ _ _ _ _ (by omega) (by omega) (by omega) (by rw [N52]; first | done | omega)) ?_
      clear N52
      have W53 : nb_Lay (nb_wr M50 607 (l1 + 4) x49) := W51.wr (fun w => (nb_nnum (by decide) (by decide)))
      refine nb_Gr ?_
      have E54 : nb_rd (nb_wr M50 607 (l1 + 4) x49) 603 16 = 607 := W53.m16
      have E55 : nb_add l1 5 = l1 + 5 := nb_add_eq (by omega) (by omega)
      refine nb_Wg (q_m_staffLine_33 _ _ _ _ (by omega)) ?_
      simp only [E54, E55]
      clear E54 E55
      refine nb_Gb ?_
      refine nb_W.imp (nb_Hu H) (fun r M57 H => ?_)
      obtain ⟨x56, rfl, W58, H⟩ := H
      replace H := nb_Hw H
      show nb_W 110 34 [(20, 603), (0, l1), (0, s0)] [(0, x56), (0, l1 + 5), (3, 607)] M57 _
      have N59 : nb_ln M57 607 = 347 := W58.lk (by decide) (by decide +kernel)
      refine nb_Wg (q_m_staffLine_34 _ _ _ _ _ _ _ (by omega) (by omega) (by omega) (by rw [N59]; first | done | omega)) ?_
      clear N59
      have W60 : nb_Lay (nb_wr M57 607 (l1 + 5) x56) := W58.wr (fun w => (nb_nnum (by decide) (by decide)))
      refine nb_Gr ?_
      have E61 : nb_rd (nb_wr M57 607 (l1 + 5) x56) 603 13 = M57.1 603 13 := nb_rdw (Or.inl (by decide)) (nb_rd_1 _ _ _)
      refine nb_Wg (q_m_staffLine_35 _ _ _ _ (by omega)) ?_
      simp only [E61]
      clear E61
      refine nb_Gi (fun c67 => ?_) (fun c67 => ?_)
      · have H := nb_Hw ((nb_Hu H).1 c67)
        refine nb_Gr ?_
        have E62 : nb_rd (nb_wr M57 607 (l1 + 5) x56) 603 16 = 607 := W60.m16
        have N63 : nb_ln (nb_wr M57 607 (l1 + 5) x56) 607 = 347 := W60.lk (by decide) (by decide +kernel)
        have E64 : nb_rd (nb_wr M57 607 (l1 + 5) x56) 607 4 = M57.1 607 4 := nb_rdw (Or.inr (by omega)) (nb_rd_1 _ _ _)
        have N65 : nb_ln (nb_wr M57 607 (l1 + 5) x56) 607 = 347 := W60.lk (by decide) (by decide +kernel)
        refine nb_Wg (q_m_staffLine_36 _ _ _ _ (by omega) (by rw [E62]; first | done | omega) (by omega) (by rw [E62, N63]; first | done | omega) (by rw [E62]; first | done | omega)) ?_
        simp only [E62, E64]
        clear E62 N63 E64 N65
        have W66 : nb_Lay (nb_wr (nb_wr M57 607 (l1 + 5) x56) 607 4 (nb_add (M57.1 607 4) 1)) := W60.wr (fun w => (nb_nnum (by decide) (by decide)))
        refine nb_Gr ?_
        refine nb_Wg (q_m_staffLine_37 _ _ _ _) ?_
        refine nb_Gs ?_
        exact nb_Hu H W66
      · have H := nb_Hw ((nb_Hu H).2 (by omega))
        have c67 : M57.1 603 13 ≠ 0 := by omega
        refine nb_Gr ?_
        refine nb_Wg (q_m_staffLine_37 _ _ _ _) ?_
        refine nb_Gs ?_
        exact nb_Hu H W60
    · have H := nb_Hw ((nb_Hu H).2 (by omega))
      have c68 : M3.1 603 13 ≠ 0 := by omega
      refine nb_Gr ?_
      refine nb_Wg (q_m_staffLine_22 _ _ _ _) ?_
      refine nb_Gs ?_
      exact nb_Hu H W4
  · have H := nb_Hw ((nb_Hu H).2 (by omega))
    have c133 : 0 ≤ s0 := by omega
    refine nb_Gr ?_
    have E69 : nb_rd M 603 13 = M.1 603 13 := nb_rd_1 _ _ _
    refine nb_Wg (q_m_staffLine_21 _ _ _ _ (by omega)) ?_
    simp only [E69]
    clear E69
    refine nb_Gi (fun c132 => ?_) (fun c132 => ?_)
    · have H := nb_Hw ((nb_Hu H).1 c132)
      refine nb_Gr ?_
      refine nb_Wg (q_m_staffLine_23 _ _ _ _ (by omega)) ?_
      refine nb_Gb ?_
      refine nb_W.imp (nb_Hu H) (fun r M71 H => ?_)
      obtain ⟨rfl, W72, H⟩ := H
      replace H := nb_Hw H
      show nb_W 110 24 [(20, 603), (0, l1), (0, s0)] [] M71 _
      have E73 : nb_rd M71 603 16 = 607 := W72.m16
      have E74 : nb_add l1 0 = l1 := (nb_add_eq (x := l1) (y := 0) (by omega) (by omega)).trans (by omega)
      have N75 : nb_ln M71 607 = 347 := W72.lk (by decide) (by decide +kernel)
      refine nb_Wg (q_m_staffLine_24 _ _ _ _ (by omega) (by rw [E73]; first | done | omega) (by rw [E73]; first | done | omega) (by rw [E74]; first | done | omega) (by rw [E74, E73, N75]; first | done | omega)) ?_
      simp only [E73, E74]
      clear E73 E74 N75
      have W76 : nb_Lay (nb_wr M71 607 l1 s0) := W72.wr (fun w => (nb_nnum (by decide) (by decide)))
      refine nb_Gr ?_
      have E77 : nb_rd (nb_wr M71 607 l1 s0) 603 16 = 607 := W76.m16
      have E78 : nb_add l1 1 = l1 + 1 := nb_add_eq (by omega) (by omega)
      have E79 : nb_rd (nb_wr M71 607 l1 s0) 603 16 = 607 := W76.m16
      have N80 : nb_ln (nb_wr M71 607 l1 s0) 607 = 347 := W76.lk (by decide) (by decide +kernel)
      have E81 : nb_rd (nb_wr M71 607 l1 s0) 607 1 = M71.1 607 1 := nb_rdw (Or.inr (by omega)) (nb_rd_1 _ _ _)
      refine nb_Wg (q_m_staffLine_25 _ _ _ _ (by omega) (by rw [E79]; first | done | omega) (by omega) (by rw [E79, N80]; first | done | omega)) ?_
      simp only [E77, E78, E79, E81]
      clear E77 E78 E79 N80 E81
      refine nb_Gb ?_
      refine nb_W.imp (nb_Hu H) (fun r M83 H => ?_)
      obtain ⟨x82, rfl, W84, H⟩ := H
      replace H := nb_Hw H
      show nb_W 110 26 [(20, 603), (0, l1), (0, s0)] [(0, x82), (0, l1 + 1), (3, 607)] M83 _
      have N85 : nb_ln M83 607 = 347 := W84.lk (by decide) (by decide +kernel)
      refine nb_Wg (q_m_staffLine_26 _ _ _ _ _ _ _ (by omega) (by omega) (by omega) (by rw [N85]; first | done | omega)) ?_
      clear N85
      have W86 : nb_Lay (nb_wr M83 607 (l1 + 1) x82) := W84.wr (fun w => (nb_nnum (by decide) (by decide)))
      refine nb_Gr ?_
      have E87 : nb_rd (nb_wr M83 607 (l1 + 1) x82) 603 16 = 607 := W86.m16
      have E88 : nb_add l1 2 = l1 + 2 := nb_add_eq (by omega) (by omega)
      have E89 : nb_rd (nb_wr M83 607 (l1 + 1) x82) 603 16 = 607 := W86.m16
      have N90 : nb_ln (nb_wr M83 607 (l1 + 1) x82) 607 = 347 := W86.lk (by decide) (by decide +kernel)
      have E91 : nb_rd (nb_wr M83 607 (l1 + 1) x82) 607 1 = M83.1 607 1 := nb_rdw (Or.inr (by omega)) (nb_rd_1 _ _ _)
      refine nb_Wg (q_m_staffLine_27 _ _ _ _ (by omega) (by rw [E89]; first | done | omega) (by omega) (by rw [E89, N90]; first | done | omega)) ?_
      simp only [E87, E88, E89, E91]
      clear E87 E88 E89 N90 E91
      refine nb_Gb ?_
      refine nb_W.imp (nb_Hu H) (fun r M93 H => ?_)
      obtain ⟨x92, rfl, W94, H⟩ := H
      replace H := nb_Hw H
      show nb_W 110 28 [(20, 603), (0, l1), (0, s0)] [(0, x92), (0, l1 + 2), (3, 607)] M93 _
      have N95 : nb_ln M93 607 = 347 := W94.lk (by decide) (by decide +kernel)
      refine nb_Wg (q_m_staffLine_28 _ _ _ _ _ _ _ (by omega) (by omega) (by omega) (by rw [N95]; first | done | omega)) ?_
      clear N95
      have W96 : nb_Lay (nb_wr M93 607 (l1 + 2) x92) := W94.wr (fun w => (nb_nnum (by decide) (by decide)))
      refine nb_Gr ?_
      have E97 : nb_rd (nb_wr M93 607 (l1 + 2) x92) 603 16 = 607 := W96.m16
      have E98 : nb_add l1 3 = l1 + 3 := nb_add_eq (by omega) (by omega)
      have E99 : nb_rd (nb_wr M93 607 (l1 + 2) x92) 603 16 = 607 := W96.m16
      have E100 : nb_add l1 2 = l1 + 2 := nb_add_eq (by omega) (by omega)
      have N101 : nb_ln (nb_wr M93 607 (l1 + 2) x92) 607 = 347 := W96.lk (by decide) (by decide +kernel)
      have E102 : nb_rd (nb_wr M93 607 (l1 + 2) x92) 607 (l1 + 2) = x92 := nb_rd_same _ _ _ _
      have E103 : nb_rd (nb_wr M93 607 (l1 + 2) x92) 603 16 = 607 := W96.m16
      have N104 : nb_ln (nb_wr M93 607 (l1 + 2) x92) 607 = 347 := W96.lk (by decide) (by decide +kernel)
      have E105 : nb_rd (nb_wr M93 607 (l1 + 2) x92) 607 1 = M93.1 607 1 := nb_rdw (Or.inr (by omega)) (nb_rd_1 _ _ _)
      refine nb_Wg (q_m_staffLine_29 _ _ _ _ (by omega) (by rw [E99]; first | done | omega) (by rw [E100]; first | done | omega) (by rw [E100, E99, N101]; first | done | omega) (by omega) (by rw [E103, N104]; first | done | omega)) ?_
      simp only [E97, E98, E99, E100, E102, E103, E105]
      clear E97 E98 E99 E100 N101 E102 E103 N104 E105
      refine nb_Gb ?_
      refine nb_W.imp (nb_Hu H) (fun r M107 H => ?_)
      obtain ⟨x106, rfl, W108, H⟩ := H
      replace H := nb_Hw H
      show nb_W 110 30 [(20, 603), (0, l1), (0, s0)] [(0, x106), (0, l1 + 3), (3, 607)] M107 _
      have N109 : nb_ln M107 607 = 347 := W108.lk (by decide) (by decide +kernel)
      refine nb_Wg (q_m_staffLine_30 _ _ _ _ _ _ _ (by omega) (by omega) (by omega) (by rw [N109]; first | done | omega)) ?_
      clear N109
      have W110 : nb_Lay (nb_wr M107 607 (l1 + 3) x106) := W108.wr (fun w => (nb_nnum (by decide) (by decide)))
      refine nb_Gr ?_
      have E111 : nb_rd (nb_wr M107 607 (l1 + 3) x106) 603 16 = 607 := W110.m16
      have E112 : nb_add l1 4 = l1 + 4 := nb_add_eq (by omega) (by omega)
      refine nb_Wg (q_m_staffLine_31 _ _ _ _ (by omega)) ?_
      simp only [E111, E112]
      clear E111 E112
      refine nb_Gb ?_
      refine nb_W.imp (nb_Hu H) (fun r M114 H => ?_)
      obtain ⟨x113, rfl, W115, H⟩ := H
      replace H := nb_Hw H
      show nb_W 110 32 [(20, 603), (0, l1), (0, s0)] [(0, x113), (0, l1 + 4), (3, 607)] M114 _
      have N116 : nb_ln M114 607 = 347 := W115.lk (by decide) (by decide +kernel)
      refine nb_Wg (q_m_staffLine_32 _ _ _ _ _ _ _ (by omega) (by omega) (by omega) (by rw [N116]; first | done | omega)) ?_
      clear N116
      have W117 : nb_Lay (nb_wr M114 607 (l1 + 4) x113) := W115.wr (fun w => (nb_nnum (by decide) (by decide)))
      refine nb_Gr ?_
      have E118 : nb_rd (nb_wr M114 607 (l1 + 4) x113) 603 16 = 607 := W117.m16
      have E119 : nb_add l1 5 = l1 + 5 := nb_add_eq (by omega) (by omega)
      refine nb_Wg (q_m_staffLine_33 _ _ _ _ (by omega)) ?_
      simp only [E118, E119]
      clear E118 E119
      refine nb_Gb ?_
      refine nb_W.imp (nb_Hu H) (fun r M121 H => ?_)
      obtain ⟨x120, rfl, W122, H⟩ := H
      replace H := nb_Hw H
      show nb_W 110 34 [(20, 603), (0, l1), (0, s0)] [(0, x120), (0, l1 + 5), (3, 607)] M121 _
      have N123 : nb_ln M121 607 = 347 := W122.lk (by decide) (by decide +kernel)
      refine nb_Wg (q_m_staffLine_34 _ _ _ _ _ _ _ (by omega) (by omega) (by omega) (by rw [N123]; first | done | omega)) ?_
      clear N123
      have W124 : nb_Lay (nb_wr M121 607 (l1 + 5) x120) := W122.wr (fun w => (nb_nnum (by decide) (by decide)))
      refine nb_Gr ?_
      have E125 : nb_rd (nb_wr M121 607 (l1 + 5) x120) 603 13 = M121.1 603 13 := nb_rdw (Or.inl (by decide)) (nb_rd_1 _ _ _)
      refine nb_Wg (q_m_staffLine_35 _ _ _ _ (by omega)) ?_
      simp only [E125]
      clear E125
      refine nb_Gi (fun c131 => ?_) (fun c131 => ?_)
      · have H := nb_Hw ((nb_Hu H).1 c131)
        refine nb_Gr ?_
        have E126 : nb_rd (nb_wr M121 607 (l1 + 5) x120) 603 16 = 607 := W124.m16
        have N127 : nb_ln (nb_wr M121 607 (l1 + 5) x120) 607 = 347 := W124.lk (by decide) (by decide +kernel)
        have E128 : nb_rd (nb_wr M121 607 (l1 + 5) x120) 607 4 = M121.1 607 4 := nb_rdw (Or.inr (by omega)) (nb_rd_1 _ _ _)
        have N129 : nb_ln (nb_wr M121 607 (l1 + 5) x120) 607 = 347 := W124.lk (by decide) (by decide +kernel)
        refine nb_Wg (q_m_staffLine_36 _ _ _ _ (by omega) (by rw [E126]; first | done | omega) (by omega) (by rw [E126, N127]; first | done | omega) (by rw [E126]; first | done | omega)) ?_
        simp only [E126, E128]
        clear E126 N127 E128 N129
        have W130 : nb_Lay (nb_wr (nb_wr M121 607 (l1 + 5) x120) 607 4 (nb_add (M121.1 607 4) 1)) := W124.wr (fun w => (nb_nnum (by decide) (by decide)))
        refine nb_Gr ?_
        refine nb_Wg (q_m_staffLine_37 _ _ _ _) ?_
        refine nb_Gs ?_
        exact nb_Hu H W130
      · have H := nb_Hw ((nb_Hu H).2 (by omega))
        have c131 : M121.1 603 13 ≠ 0 := by omega
        refine nb_Gr ?_
        refine nb_Wg (q_m_staffLine_37 _ _ _ _) ?_
        refine nb_Gs ?_
        exact nb_Hu H W124
    · have H := nb_Hw ((nb_Hu H).2 (by omega))
      have c132 : M.1 603 13 ≠ 0 := by omega
      refine nb_Gr ?_
      refine nb_Wg (q_m_staffLine_22 _ _ _ _) ?_
      refine nb_Gs ?_
      exact nb_Hu H W

theorem w_m_personLine_0 {v1 v2 v3 v4 v5 v6 : nb_V} {M : nb_M} {Q : List nb_V → nb_M → Prop} (W : nb_Lay M) (H : (M.1 603 13 = 0 → 0 ≤ M.1 607 5 ∧ M.1 607 5 ≤ 10 ∧ nb_W 98 0 [(20, 603), (0, 8 + M.1 607 5), (98, 0)] [] M (fun r M9 => r = [] ∧ nb_Lay M9 ∧ nb_W 93 0 [(20, 603), (2, 22), (98, 0), (98, 0)] [] M9 (fun r M12 => ∃ x11 : Int, r = [(0, x11)] ∧ nb_Lay M12 ∧ (x11 = 0 → nb_W 93 0 [(20, 603), (2, 23), (98, 0), (98, 0)] [] M12 (fun r M15 => ∃ x14 : Int, r = [(0, x14)] ∧ nb_Lay M15 ∧ (x14 = 0 → nb_W 93 0 [(20, 603), (2, 24), (98, 0), (98, 0)] [] M15 (fun r M18 => ∃ x17 : Int, r = [(0, x17)] ∧ nb_Lay M18 ∧ (x17 = 0 → nb_W 93 0 [(20, 603), (2, 16), (98, 0), (98, 0)] [] M18 (fun r M21 => ∃ x20 : Int, r = [(0, x20)] ∧ nb_Lay M21 ∧ (x20 = 0 → nb_W 111 16 [(20, 603), (0, M.1 607 5), (0, 41 + 7 * (M.1 607 5)), v3, v4, v5, v6] [(0, (-1))] M21 Q) ∧ (x20 ≠ 0 → nb_W 111 16 [(20, 603), (0, M.1 607 5), (0, 41 + 7 * (M.1 607 5)), v3, v4, v5, v6] [(0, 3)] M21 Q))) ∧ (x17 ≠ 0 → nb_W 111 16 [(20, 603), (0, M.1 607 5), (0, 41 + 7 * (M.1 607 5)), v3, v4, v5, v6] [(0, 2)] M18 Q))) ∧ (x14 ≠ 0 → nb_W 111 16 [(20, 603), (0, M.1 607 5), (0, 41 + 7 * (M.1 607 5)), v3, v4, v5, v6] [(0, 1)] M15 Q))) ∧ (x11 ≠ 0 → nb_W 111 16 [(20, 603), (0, M.1 607 5), (0, 41 + 7 * (M.1 607 5)), v3, v4, v5, v6] [(0, 0)] M12 Q)))) ∧ (M.1 603 13 ≠ 0 → (nb_Lay M → Q [] M))) :
    nb_W 111 0 [(20, 603), v1, v2, v3, v4, v5, v6] [] M Q := by
  replace H := nb_Hw H
  have E1 : nb_rd M 603 13 = M.1 603 13 := nb_rd_1 _ _ _
  refine nb_Wg (q_m_personLine_0 _ _ _ _ _ _ _ _ (by omega)) ?_
  simp only [E1]
  clear E1
  refine nb_Gi (fun c27 => ?_) (fun c27 => ?_)
  · have H := nb_Hw ((nb_Hu H).1 c27)
    refine nb_Gr ?_
    obtain ⟨p0_, p1_, H⟩ := H
    replace H := nb_Hw H
    have E2 : nb_rd M 603 16 = 607 := W.m16
    have N3 : nb_ln M 607 = 347 := W.lk (by decide) (by decide +kernel)
    have E4 : nb_rd M 607 5 = M.1 607 5 := nb_rd_1 _ _ _
    have E5 : nb_mul 7 (M.1 607 5) = 7 * (M.1 607 5) := nb_mul_eq (by omega) (by omega)
    have E6 : nb_add 41 (7 * (M.1 607 5)) = 41 + 7 * (M.1 607 5) := (nb_add_eq (x := 41) (y := 7 * (M.1 607 5)) (by omega) (by omega)).trans (by omega)
    have E7 : nb_add 8 (M.1 607 5) = 8 + M.1 607 5 := (nb_add_eq (x := 8) (y := M.1 607 5) (by omega) (by omega)).trans (by omega)
    refine nb_Wg (q_m_personLine_2 _ _ _ _ _ _ _ _ (by omega) (by rw [E2]; first | done | omega) (by omega) (by rw [E2, N3]; first | done | omega)) ?_
    simp only [E2, E4, E5, E6, E7]
    clear E2 N3 E4 E5 E6 E7
    refine nb_Gb ?_
    refine nb_W.imp (nb_Hu H) (fun r M9 H => ?_)
    obtain ⟨rfl, W10, H⟩ := H
    replace H := nb_Hw H
    show nb_W 111 3 [(20, 603), (0, M.1 607 5), (0, 41 + 7 * (M.1 607 5)), v3, v4, v5, v6] [] M9 _
    refine nb_Wg (q_m_personLine_3 _ _ _ _ _ _ _ _ (by omega)) ?_
    refine nb_Gb ?_
    refine nb_W.imp (nb_Hu H) (fun r M12 H => ?_)
    obtain ⟨x11, rfl, W13, H⟩ := H
    replace H := nb_Hw H
    show nb_W 111 4 [(20, 603), (0, M.1 607 5), (0, 41 + 7 * (M.1 607 5)), v3, v4, v5, v6] [(0, x11)] M12 _
    refine nb_Wg (q_m_personLine_4 _ _ _ _ _ _ _ _ _) ?_
    refine nb_Gi (fun c26 => ?_) (fun c26 => ?_)
    · have H := nb_Hw ((nb_Hu H).1 c26)
      refine nb_Gr ?_
      refine nb_Wg (q_m_personLine_6 _ _ _ _ _ _ _ _ (by omega)) ?_
      refine nb_Gb ?_
      refine nb_W.imp (nb_Hu H) (fun r M15 H => ?_)
      obtain ⟨x14, rfl, W16, H⟩ := H
      replace H := nb_Hw H
      show nb_W 111 7 [(20, 603), (0, M.1 607 5), (0, 41 + 7 * (M.1 607 5)), v3, v4, v5, v6] [(0, x14)] M15 _
      refine nb_Wg (q_m_personLine_7 _ _ _ _ _ _ _ _ _) ?_
      refine nb_Gi (fun c25 => ?_) (fun c25 => ?_)
      · have H := nb_Hw ((nb_Hu H).1 c25)
        refine nb_Gr ?_
        refine nb_Wg (q_m_personLine_9 _ _ _ _ _ _ _ _ (by omega)) ?_
        refine nb_Gb ?_
        refine nb_W.imp (nb_Hu H) (fun r M18 H => ?_)
        obtain ⟨x17, rfl, W19, H⟩ := H
        replace H := nb_Hw H
        show nb_W 111 10 [(20, 603), (0, M.1 607 5), (0, 41 + 7 * (M.1 607 5)), v3, v4, v5, v6] [(0, x17)] M18 _
        refine nb_Wg (q_m_personLine_10 _ _ _ _ _ _ _ _ _) ?_
        refine nb_Gi (fun c24 => ?_) (fun c24 => ?_)
        · have H := nb_Hw ((nb_Hu H).1 c24)
          refine nb_Gr ?_
          refine nb_Wg (q_m_personLine_12 _ _ _ _ _ _ _ _ (by omega)) ?_
          refine nb_Gb ?_
          refine nb_W.imp (nb_Hu H) (fun r M21 H => ?_)
          obtain ⟨x20, rfl, W22, H⟩ := H
          replace H := nb_Hw H
          show nb_W 111 13 [(20, 603), (0, M.1 607 5), (0, 41 + 7 * (M.1 607 5)), v3, v4, v5, v6] [(0, x20)] M21 _
          refine nb_Wg (q_m_personLine_13 _ _ _ _ _ _ _ _ _) ?_
          refine nb_Gi (fun c23 => ?_) (fun c23 => ?_)
          · have H := nb_Hw ((nb_Hu H).1 c23)
            refine nb_Gr ?_
            refine nb_Wg (q_m_personLine_15 _ _ _ _ _ _ _ _) ?_
            refine nb_Gr ?_
            exact nb_Hu H
          · have H := nb_Hw ((nb_Hu H).2 (by omega))
            have c23 : x20 ≠ 0 := by omega
            refine nb_Gr ?_
            refine nb_Wg (q_m_personLine_14 _ _ _ _ _ _ _ _) ?_
            refine nb_Gr ?_
            exact nb_Hu H
        · have H := nb_Hw ((nb_Hu H).2 (by omega))
          have c24 : x17 ≠ 0 := by omega
          refine nb_Gr ?_
          refine nb_Wg (q_m_personLine_11 _ _ _ _ _ _ _ _) ?_
          refine nb_Gr ?_
          exact nb_Hu H
      · have H := nb_Hw ((nb_Hu H).2 (by omega))
        have c25 : x14 ≠ 0 := by omega
        refine nb_Gr ?_
        refine nb_Wg (q_m_personLine_8 _ _ _ _ _ _ _ _) ?_
        refine nb_Gr ?_
        exact nb_Hu H
    · have H := nb_Hw ((nb_Hu H).2 (by omega))
      have c26 : x11 ≠ 0 := by omega
      refine nb_Gr ?_
      refine nb_Wg (q_m_personLine_5 _ _ _ _ _ _ _ _) ?_
      refine nb_Gr ?_
      exact nb_Hu H
  · have H := nb_Hw ((nb_Hu H).2 (by omega))
    have c27 : M.1 603 13 ≠ 0 := by omega
    refine nb_Gr ?_
    refine nb_Wg (q_m_personLine_1 _ _ _ _ _ _ _ _) ?_
    refine nb_Gs ?_
    exact nb_Hu H W

theorem w_m_personLine_16 {l1 l2 s0 : Int} {v3 v4 v5 v6 : nb_V} {M : nb_M} {Q : List nb_V → nb_M → Prop} (W : nb_Lay M)  (b0_ : 0 ≤ l1 ∧ l1 ≤ 9) (b1_ : 41 ≤ l2 ∧ l2 ≤ 104) (H : (s0 < 0 → nb_W 92 0 [(20, 603), (0, 1), (0, M.1 603 4)] [] M (fun r M3 => r = [] ∧ nb_Lay M3 ∧ (M3.1 603 13 = 0 → nb_W 91 0 [(20, 603), (98, 0), (98, 0), (98, 0)] [] M3 (fun r M7 => r = [] ∧ nb_Lay M7 ∧ (s0 = 1 → nb_W 102 0 [(20, 603), (0, 1), (0, 99), (98, 0)] [] (nb_wr M7 607 l2 s0) (fun r M16 => ∃ x15 : Int, r = [(0, x15)] ∧ nb_Lay M16 ∧ nb_W 111 28 [(20, 603), (0, l1), (0, l2), (0, s0), v4, v5, v6] [] (nb_wr M16 607 (l2 + 1) x15) Q)) ∧ (s0 ≠ 1 → (s0 = 2 → nb_W 102 0 [(20, 603), (0, 1), (0, 99), (98, 0)] [] (nb_wr M7 607 l2 s0) (fun r M21 => ∃ x20 : Int, r = [(0, x20)] ∧ nb_Lay M21 ∧ nb_W 111 28 [(20, 603), (0, l1), (0, l2), (0, s0), v4, v5, v6] [] (nb_wr M21 607 (l2 + 1) x20) Q)) ∧ (s0 ≠ 2 → nb_W 111 28 [(20, 603), (0, l1), (0, l2), (0, s0), v4, v5, v6] [] (nb_wr (nb_wr M7 607 l2 s0) 607 (l2 + 1) 0) Q)))) ∧ (M3.1 603 13 ≠ 0 → (nb_Lay M3 → Q [] M3)))) ∧ (0 ≤ s0 → (M.1 603 13 = 0 → nb_W 91 0 [(20, 603), (98, 0), (98, 0), (98, 0)] [] M (fun r M32 => r = [] ∧ nb_Lay M32 ∧ (s0 = 1 → nb_W 102 0 [(20, 603), (0, 1), (0, 99), (98, 0)] [] (nb_wr M32 607 l2 s0) (fun r M41 => ∃ x40 : Int, r = [(0, x40)] ∧ nb_Lay M41 ∧ nb_W 111 28 [(20, 603), (0, l1), (0, l2), (0, s0), v4, v5, v6] [] (nb_wr M41 607 (l2 + 1) x40) Q)) ∧ (s0 ≠ 1 → (s0 = 2 → nb_W 102 0 [(20, 603), (0, 1), (0, 99), (98, 0)] [] (nb_wr M32 607 l2 s0) (fun r M46 => ∃ x45 : Int, r = [(0, x45)] ∧ nb_Lay M46 ∧ nb_W 111 28 [(20, 603), (0, l1), (0, l2), (0, s0), v4, v5, v6] [] (nb_wr M46 607 (l2 + 1) x45) Q)) ∧ (s0 ≠ 2 → nb_W 111 28 [(20, 603), (0, l1), (0, l2), (0, s0), v4, v5, v6] [] (nb_wr (nb_wr M32 607 l2 s0) 607 (l2 + 1) 0) Q)))) ∧ (M.1 603 13 ≠ 0 → (nb_Lay M → Q [] M)))) :
    nb_W 111 16 [(20, 603), (0, l1), (0, l2), v3, v4, v5, v6] [(0, s0)] M Q := by
  replace H := nb_Hw H
  refine nb_Wg (q_m_personLine_16 _ _ _ _ _ _ _ _ _) ?_
  refine nb_Gi (fun c55 => ?_) (fun c55 => ?_)
  · have H := nb_Hw ((nb_Hu H).1 c55)
    refine nb_Gr ?_
    have E1 : nb_rd M 603 4 = M.1 603 4 := nb_rd_1 _ _ _
    refine nb_Wg (q_m_personLine_17 _ _ _ _ _ _ _ _ (by omega)) ?_
    simp only [E1]
    clear E1
    refine nb_Gb ?_
    refine nb_W.imp (nb_Hu H) (fun r M3 H => ?_)
    obtain ⟨rfl, W4, H⟩ := H
    replace H := nb_Hw H
    show nb_W 111 18 [(20, 603), (0, l1), (0, l2), (0, s0), v4, v5, v6] [] M3 _
    have E5 : nb_rd M3 603 13 = M3.1 603 13 := nb_rd_1 _ _ _
    refine nb_Wg (q_m_personLine_18 _ _ _ _ _ _ _ _ (by omega)) ?_
    simp only [E5]
    clear E5
    refine nb_Gi (fun c29 => ?_) (fun c29 => ?_)
    · have H := nb_Hw ((nb_Hu H).1 c29)
      refine nb_Gr ?_
      refine nb_Wg (q_m_personLine_20 _ _ _ _ _ _ _ _ (by omega)) ?_
      refine nb_Gb ?_
      refine nb_W.imp (nb_Hu H) (fun r M7 H => ?_)
      obtain ⟨rfl, W8, H⟩ := H
      replace H := nb_Hw H
      show nb_W 111 21 [(20, 603), (0, l1), (0, l2), (0, s0), v4, v5, v6] [] M7 _
      have E9 : nb_rd M7 603 16 = 607 := W8.m16
      have E10 : nb_add l2 0 = l2 := (nb_add_eq (x := l2) (y := 0) (by omega) (by omega)).trans (by omega)
      have N11 : nb_ln M7 607 = 347 := W8.lk (by decide) (by decide +kernel)
      refine nb_Wg (q_m_personLine_21 _ _ _ _ _ _ _ _ (by omega) (by rw [E9]; first | done | omega) (by rw [E9]; first | done | omega) (by rw [E10]; first | done | omega) (by rw [E10, E9, N11]; first | done | omega)) ?_
      simp only [E9, E10]
      clear E9 E10 N11
      have W12 : nb_Lay (nb_wr M7 607 l2 s0) := W8.wr (fun w => (nb_nnum (by decide) (by decide)))
      refine nb_Gr ?_
      have E13 : nb_rd (nb_wr M7 607 l2 s0) 603 16 = 607 := W12.m16
      have E14 : nb_add l2 1 = l2 + 1 := nb_add_eq (by omega) (by omega)
      refine nb_Wg (q_m_personLine_22 _ _ _ _ _ _ _ _ (by omega)) ?_
      simp only [E13, E14]
      clear E13 E14
      refine nb_Gi (fun c28 => ?_) (fun c28 => ?_)
      · have H := nb_Hw ((nb_Hu H).1 c28)
        refine nb_Gr ?_
        refine nb_Wg (q_m_personLine_24 _ _ _ _ _ _ _ _ _ _ (by omega)) ?_
        refine nb_Gb ?_
        refine nb_W.imp (nb_Hu H) (fun r M16 H => ?_)
        obtain ⟨x15, rfl, W17, H⟩ := H
        replace H := nb_Hw H
        show nb_W 111 25 [(20, 603), (0, l1), (0, l2), (0, s0), v4, v5, v6] [(0, x15), (0, l2 + 1), (3, 607)] M16 _
        refine nb_Wg (q_m_personLine_25 _ _ _ _ _ _ _ _ _ _ _) ?_
        refine nb_Gr ?_
        have N18 : nb_ln M16 607 = 347 := W17.lk (by decide) (by decide +kernel)
        refine nb_Wg (q_m_personLine_27 _ _ _ _ _ _ _ _ _ _ _ (by omega) (by omega) (by omega) (by rw [N18]; first | done | omega)) ?_
        clear N18
        have W19 : nb_Lay (nb_wr M16 607 (l2 + 1) x15) := W17.wr (fun w => (nb_nnum (by decide) (by decide)))
        refine nb_Gr ?_
        exact nb_Hu H
      · have H := nb_Hw ((nb_Hu H).2 (by omega))
        have c28 : s0 ≠ 1 := by omega
        refine nb_Gr ?_
        refine nb_Wg (q_m_personLine_23 _ _ _ _ _ _ _ _ _ _) ?_
        refine nb_Gi (fun c27 => ?_) (fun c27 => ?_)
        · have H := nb_Hw ((nb_Hu H).1 c27)
          refine nb_Gr ?_
          refine nb_Wg (q_m_personLine_24 _ _ _ _ _ _ _ _ _ _ (by omega)) ?_
          refine nb_Gb ?_
          refine nb_W.imp (nb_Hu H) (fun r M21 H => ?_)
          obtain ⟨x20, rfl, W22, H⟩ := H
          replace H := nb_Hw H
          show nb_W 111 25 [(20, 603), (0, l1), (0, l2), (0, s0), v4, v5, v6] [(0, x20), (0, l2 + 1), (3, 607)] M21 _
          refine nb_Wg (q_m_personLine_25 _ _ _ _ _ _ _ _ _ _ _) ?_
          refine nb_Gr ?_
          have N23 : nb_ln M21 607 = 347 := W22.lk (by decide) (by decide +kernel)
          refine nb_Wg (q_m_personLine_27 _ _ _ _ _ _ _ _ _ _ _ (by omega) (by omega) (by omega) (by rw [N23]; first | done | omega)) ?_
          clear N23
          have W24 : nb_Lay (nb_wr M21 607 (l2 + 1) x20) := W22.wr (fun w => (nb_nnum (by decide) (by decide)))
          refine nb_Gr ?_
          exact nb_Hu H
        · have H := nb_Hw ((nb_Hu H).2 (by omega))
          have c27 : s0 ≠ 2 := by omega
          refine nb_Gr ?_
          refine nb_Wg (q_m_personLine_26 _ _ _ _ _ _ _ _ _ _) ?_
          refine nb_Gr ?_
          have N25 : nb_ln (nb_wr M7 607 l2 s0) 607 = 347 := W12.lk (by decide) (by decide +kernel)
          refine nb_Wg (q_m_personLine_27 _ _ _ _ _ _ _ _ _ _ _ (by omega) (by omega) (by omega) (by rw [N25]; first | done | omega)) ?_
          clear N25
          have W26 : nb_Lay (nb_wr (nb_wr M7 607 l2 s0) 607 (l2 + 1) 0) := W12.wr (fun w => (nb_nnum (by decide) (by decide)))
          refine nb_Gr ?_
          exact nb_Hu H
    · have H := nb_Hw ((nb_Hu H).2 (by omega))
      have c29 : M3.1 603 13 ≠ 0 := by omega
      refine nb_Gr ?_
      refine nb_Wg (q_m_personLine_19 _ _ _ _ _ _ _ _) ?_
      refine nb_Gs ?_
      exact nb_Hu H W4
  · have H := nb_Hw ((nb_Hu H).2 (by omega))
    have c55 : 0 ≤ s0 := by omega
    refine nb_Gr ?_
    have E30 : nb_rd M 603 13 = M.1 603 13 := nb_rd_1 _ _ _
    refine nb_Wg (q_m_personLine_18 _ _ _ _ _ _ _ _ (by omega)) ?_
    simp only [E30]
    clear E30
    refine nb_Gi (fun c54 => ?_) (fun c54 => ?_)
    · have H := nb_Hw ((nb_Hu H).1 c54)
      refine nb_Gr ?_
      refine nb_Wg (q_m_personLine_20 _ _ _ _ _ _ _ _ (by omega)) ?_
      refine nb_Gb ?_
      refine nb_W.imp (nb_Hu H) (fun r M32 H => ?_)
      obtain ⟨rfl, W33, H⟩ := H
      replace H := nb_Hw H
      show nb_W 111 21 [(20, 603), (0, l1), (0, l2), (0, s0), v4, v5, v6] [] M32 _
      have E34 : nb_rd M32 603 16 = 607 := W33.m16
      have E35 : nb_add l2 0 = l2 := (nb_add_eq (x := l2) (y := 0) (by omega) (by omega)).trans (by omega)
      have N36 : nb_ln M32 607 = 347 := W33.lk (by decide) (by decide +kernel)
      refine nb_Wg (q_m_personLine_21 _ _ _ _ _ _ _ _ (by omega) (by rw [E34]; first | done | omega) (by rw [E34]; first | done | omega) (by rw [E35]; first | done | omega) (by rw [E35, E34, N36]; first | done | omega)) ?_
      simp only [E34, E35]
      clear E34 E35 N36
      have W37 : nb_Lay (nb_wr M32 607 l2 s0) := W33.wr (fun w => (nb_nnum (by decide) (by decide)))
      refine nb_Gr ?_
      have E38 : nb_rd (nb_wr M32 607 l2 s0) 603 16 = 607 := W37.m16
      have E39 : nb_add l2 1 = l2 + 1 := nb_add_eq (by omega) (by omega)
      refine nb_Wg (q_m_personLine_22 _ _ _ _ _ _ _ _ (by omega)) ?_
      simp only [E38, E39]
      clear E38 E39
      refine nb_Gi (fun c53 => ?_) (fun c53 => ?_)
      · have H := nb_Hw ((nb_Hu H).1 c53)
        refine nb_Gr ?_
        refine nb_Wg (q_m_personLine_24 _ _ _ _ _ _ _ _ _ _ (by omega)) ?_
        refine nb_Gb ?_
        refine nb_W.imp (nb_Hu H) (fun r M41 H => ?_)
        obtain ⟨x40, rfl, W42, H⟩ := H
        replace H := nb_Hw H
        show nb_W 111 25 [(20, 603), (0, l1), (0, l2), (0, s0), v4, v5, v6] [(0, x40), (0, l2 + 1), (3, 607)] M41 _
        refine nb_Wg (q_m_personLine_25 _ _ _ _ _ _ _ _ _ _ _) ?_
        refine nb_Gr ?_
        have N43 : nb_ln M41 607 = 347 := W42.lk (by decide) (by decide +kernel)
        refine nb_Wg (q_m_personLine_27 _ _ _ _ _ _ _ _ _ _ _ (by omega) (by omega) (by omega) (by rw [N43]; first | done | omega)) ?_
        clear N43
        have W44 : nb_Lay (nb_wr M41 607 (l2 + 1) x40) := W42.wr (fun w => (nb_nnum (by decide) (by decide)))
        refine nb_Gr ?_
        exact nb_Hu H
      · have H := nb_Hw ((nb_Hu H).2 (by omega))
        have c53 : s0 ≠ 1 := by omega
        refine nb_Gr ?_
        refine nb_Wg (q_m_personLine_23 _ _ _ _ _ _ _ _ _ _) ?_
        refine nb_Gi (fun c52 => ?_) (fun c52 => ?_)
        · have H := nb_Hw ((nb_Hu H).1 c52)
          refine nb_Gr ?_
          refine nb_Wg (q_m_personLine_24 _ _ _ _ _ _ _ _ _ _ (by omega)) ?_
          refine nb_Gb ?_
          refine nb_W.imp (nb_Hu H) (fun r M46 H => ?_)
          obtain ⟨x45, rfl, W47, H⟩ := H
          replace H := nb_Hw H
          show nb_W 111 25 [(20, 603), (0, l1), (0, l2), (0, s0), v4, v5, v6] [(0, x45), (0, l2 + 1), (3, 607)] M46 _
          refine nb_Wg (q_m_personLine_25 _ _ _ _ _ _ _ _ _ _ _) ?_
          refine nb_Gr ?_
          have N48 : nb_ln M46 607 = 347 := W47.lk (by decide) (by decide +kernel)
          refine nb_Wg (q_m_personLine_27 _ _ _ _ _ _ _ _ _ _ _ (by omega) (by omega) (by omega) (by rw [N48]; first | done | omega)) ?_
          clear N48
          have W49 : nb_Lay (nb_wr M46 607 (l2 + 1) x45) := W47.wr (fun w => (nb_nnum (by decide) (by decide)))
          refine nb_Gr ?_
          exact nb_Hu H
        · have H := nb_Hw ((nb_Hu H).2 (by omega))
          have c52 : s0 ≠ 2 := by omega
          refine nb_Gr ?_
          refine nb_Wg (q_m_personLine_26 _ _ _ _ _ _ _ _ _ _) ?_
          refine nb_Gr ?_
          have N50 : nb_ln (nb_wr M32 607 l2 s0) 607 = 347 := W37.lk (by decide) (by decide +kernel)
          refine nb_Wg (q_m_personLine_27 _ _ _ _ _ _ _ _ _ _ _ (by omega) (by omega) (by omega) (by rw [N50]; first | done | omega)) ?_
          clear N50
          have W51 : nb_Lay (nb_wr (nb_wr M32 607 l2 s0) 607 (l2 + 1) 0) := W37.wr (fun w => (nb_nnum (by decide) (by decide)))
          refine nb_Gr ?_
          exact nb_Hu H
    · have H := nb_Hw ((nb_Hu H).2 (by omega))
      have c54 : M.1 603 13 ≠ 0 := by omega
      refine nb_Gr ?_
      refine nb_Wg (q_m_personLine_19 _ _ _ _ _ _ _ _) ?_
      refine nb_Gs ?_
      exact nb_Hu H W

theorem w_m_personLine_28 {l1 l2 : Int} {v3 v4 v5 v6 : nb_V} {M : nb_M} {Q : List nb_V → nb_M → Prop} (W : nb_Lay M)  (b0_ : 0 ≤ l1 ∧ l1 ≤ 9) (b1_ : 41 ≤ l2 ∧ l2 ≤ 104) (H : nb_W 103 0 [(20, 603), (2, 25), (0, 0), (0, M.1 607 2)] [] M (fun r M7 => ∃ x6 : Int, r = [(0, x6)] ∧ nb_Lay M7 ∧ nb_W 103 0 [(20, 603), (2, 17), (0, 0), (0, nb_sub (M7.1 607 1) 1)] [] (nb_wr M7 607 (l2 + 2) x6) (fun r M17 => ∃ x16 : Int, r = [(0, x16)] ∧ nb_Lay M17 ∧ nb_W 103 0 [(20, 603), (2, 26), (0, 0), (0, 600)] [] (nb_wr M17 607 (l2 + 3) x16) (fun r M24 => ∃ x23 : Int, r = [(0, x23)] ∧ nb_Lay M24 ∧ nb_W 103 0 [(20, 603), (2, 27), (0, 0), (0, 99)] [] (nb_wr M24 607 (l2 + 4) x23) (fun r M31 => ∃ x30 : Int, r = [(0, x30)] ∧ nb_Lay M31 ∧ nb_W 111 38 [(20, 603), (0, l1), (0, l2), nb_clr v3, (0, 0), v5, v6] [] (nb_wr (nb_wr M31 607 (l2 + 5) x30) 607 (l2 + 6) 0) Q))))) :
    nb_W 111 28 [(20, 603), (0, l1), (0, l2), v3, v4, v5, v6] [] M Q := by
  replace H := nb_Hw H
  have E1 : nb_rd M 603 16 = 607 := W.m16
  have E2 : nb_add l2 2 = l2 + 2 := nb_add_eq (by omega) (by omega)
  have E3 : nb_rd M 603 16 = 607 := W.m16
  have N4 : nb_ln M 607 = 347 := W.lk (by decide) (by decide +kernel)
  have E5 : nb_rd M 607 2 = M.1 607 2 := nb_rd_1 _ _ _
  refine nb_Wg (q_m_personLine_28 _ _ _ _ _ _ _ _ (by omega) (by rw [E3]; first | done | omega) (by omega) (by rw [E3, N4]; first | done | omega)) ?_
  simp only [E1, E2, E3, E5]
  clear E1 E2 E3 N4 E5
  refine nb_Gb ?_
  refine nb_W.imp (nb_Hu H) (fun r M7 H => ?_)
  obtain ⟨x6, rfl, W8, H⟩ := H
  replace H := nb_Hw H
  show nb_W 111 29 [(20, 603), (0, l1), (0, l2), v3, v4, v5, v6] [(0, x6), (0, l2 + 2), (3, 607)] M7 _
  have N9 : nb_ln M7 607 = 347 := W8.lk (by decide) (by decide +kernel)
  refine nb_Wg (q_m_personLine_29 _ _ _ _ _ _ _ _ _ _ _ (by omega) (by omega) (by omega) (by rw [N9]; first | done | omega)) ?_
  clear N9
  have W10 : nb_Lay (nb_wr M7 607 (l2 + 2) x6) := W8.wr (fun w => (nb_nnum (by decide) (by decide)))
  refine nb_Gr ?_
  have E11 : nb_rd (nb_wr M7 607 (l2 + 2) x6) 603 16 = 607 := W10.m16
  have E12 : nb_add l2 3 = l2 + 3 := nb_add_eq (by omega) (by omega)
  have E13 : nb_rd (nb_wr M7 607 (l2 + 2) x6) 603 16 = 607 := W10.m16
  have N14 : nb_ln (nb_wr M7 607 (l2 + 2) x6) 607 = 347 := W10.lk (by decide) (by decide +kernel)
  have E15 : nb_rd (nb_wr M7 607 (l2 + 2) x6) 607 1 = M7.1 607 1 := nb_rdw (Or.inr (by omega)) (nb_rd_1 _ _ _)
  refine nb_Wg (q_m_personLine_30 _ _ _ _ _ _ _ _ (by omega) (by rw [E13]; first | done | omega) (by omega) (by rw [E13, N14]; first | done | omega)) ?_
  simp only [E11, E12, E13, E15]
  clear E11 E12 E13 N14 E15
  refine nb_Gb ?_
  refine nb_W.imp (nb_Hu H) (fun r M17 H => ?_)
  obtain ⟨x16, rfl, W18, H⟩ := H
  replace H := nb_Hw H
  show nb_W 111 31 [(20, 603), (0, l1), (0, l2), v3, v4, v5, v6] [(0, x16), (0, l2 + 3), (3, 607)] M17 _
  have N19 : nb_ln M17 607 = 347 := W18.lk (by decide) (by decide +kernel)
  refine nb_Wg (q_m_personLine_31 _ _ _ _ _ _ _ _ _ _ _ (by omega) (by omega) (by omega) (by rw [N19]; first | done | omega)) ?_
  clear N19
  have W20 : nb_Lay (nb_wr M17 607 (l2 + 3) x16) := W18.wr (fun w => (nb_nnum (by decide) (by decide)))
  refine nb_Gr ?_
  have E21 : nb_rd (nb_wr M17 607 (l2 + 3) x16) 603 16 = 607 := W20.m16
  have E22 : nb_add l2 4 = l2 + 4 := nb_add_eq (by omega) (by omega)
  refine nb_Wg (q_m_personLine_32 _ _ _ _ _ _ _ _ (by omega)) ?_
  simp only [E21, E22]
  clear E21 E22
  refine nb_Gb ?_
  refine nb_W.imp (nb_Hu H) (fun r M24 H => ?_)
  obtain ⟨x23, rfl, W25, H⟩ := H
  replace H := nb_Hw H
  show nb_W 111 33 [(20, 603), (0, l1), (0, l2), v3, v4, v5, v6] [(0, x23), (0, l2 + 4), (3, 607)] M24 _
  have N26 : nb_ln M24 607 = 347 := W25.lk (by decide) (by decide +kernel)
  refine nb_Wg (q_m_personLine_33 _ _ _ _ _ _ _ _ _ _ _ (by omega) (by omega) (by omega) (by rw [N26]; first | done | omega)) ?_
  clear N26
  have W27 : nb_Lay (nb_wr M24 607 (l2 + 4) x23) := W25.wr (fun w => (nb_nnum (by decide) (by decide)))
  refine nb_Gr ?_
  have E28 : nb_rd (nb_wr M24 607 (l2 + 4) x23) 603 16 = 607 := W27.m16
  have E29 : nb_add l2 5 = l2 + 5 := nb_add_eq (by omega) (by omega)
  refine nb_Wg (q_m_personLine_34 _ _ _ _ _ _ _ _ (by omega)) ?_
  simp only [E28, E29]
  clear E28 E29
  refine nb_Gb ?_
  refine nb_W.imp (nb_Hu H) (fun r M31 H => ?_)
  obtain ⟨x30, rfl, W32, H⟩ := H
  replace H := nb_Hw H
  show nb_W 111 35 [(20, 603), (0, l1), (0, l2), v3, v4, v5, v6] [(0, x30), (0, l2 + 5), (3, 607)] M31 _
  have N33 : nb_ln M31 607 = 347 := W32.lk (by decide) (by decide +kernel)
  refine nb_Wg (q_m_personLine_35 _ _ _ _ _ _ _ _ _ _ _ (by omega) (by omega) (by omega) (by rw [N33]; first | done | omega)) ?_
  clear N33
  have W34 : nb_Lay (nb_wr M31 607 (l2 + 5) x30) := W32.wr (fun w => (nb_nnum (by decide) (by decide)))
  refine nb_Gr ?_
  have E35 : nb_rd (nb_wr M31 607 (l2 + 5) x30) 603 16 = 607 := W34.m16
  have E36 : nb_add l2 6 = l2 + 6 := nb_add_eq (by omega) (by omega)
  have N37 : nb_ln (nb_wr M31 607 (l2 + 5) x30) 607 = 347 := W34.lk (by decide) (by decide +kernel)
  refine nb_Wg (q_m_personLine_36 _ _ _ _ _ _ _ _ (by omega) (by rw [E35]; first | done | omega) (by rw [E35]; first | done | omega) (by rw [E36]; first | done | omega) (by rw [E36, E35, N37]; first | done | omega)) ?_
  simp only [E35, E36]
  clear E35 E36 N37
  have W38 : nb_Lay (nb_wr (nb_wr M31 607 (l2 + 5) x30) 607 (l2 + 6) 0) := W34.wr (fun w => (nb_nnum (by decide) (by decide)))
  refine nb_Gr ?_
  refine nb_Wg (q_m_personLine_37 _ _ _ _ _ _ _ _) ?_
  refine nb_Gr ?_
  exact nb_Hu H

theorem w_m_personLine_38 {l1 l4 : Int} {v2 v3 v5 v6 : nb_V} {M : nb_M} {Q : List nb_V → nb_M → Prop} (W : nb_Lay M)  (b0_ : 0 ≤ l1 ∧ l1 ≤ 9) (b1_ : 0 ≤ l4 ∧ l4 ≤ 5) (H : (l4 < 5 → nb_W 111 38 [(20, 603), (0, l1), v2, nb_clr v3, (0, l4 + 1), v5, v6] [] (nb_wr M 607 (111 + 5 * l1 + l4) 0) Q) ∧ (5 ≤ l4 → nb_W 95 0 [(20, 603), (2, 28)] [] M (fun r M9 => r = [] ∧ nb_Lay M9 ∧ (M9.1 603 13 = 0 → nb_W 111 46 [(20, 603), (0, l1), v2, nb_clr v3, (0, 0), (0, 1), v6] [] M9 Q) ∧ (M9.1 603 13 ≠ 0 → nb_W 111 46 [(20, 603), (0, l1), v2, nb_clr v3, (0, 0), (0, 0), v6] [] M9 Q)))) :
    nb_W 111 38 [(20, 603), (0, l1), v2, v3, (0, l4), v5, v6] [] M Q := by
  replace H := nb_Hw H
  refine nb_Wg (q_m_personLine_38 _ _ _ _ _ _ _ _) ?_
  refine nb_Gi (fun c13 => ?_) (fun c13 => ?_)
  · have H := nb_Hw ((nb_Hu H).1 c13)
    refine nb_Gr ?_
    have E1 : nb_rd M 603 16 = 607 := W.m16
    have E2 : nb_mul 5 l1 = 5 * l1 := nb_mul_eq (by omega) (by omega)
    have E3 : nb_add 111 (5 * l1) = 111 + 5 * l1 := (nb_add_eq (x := 111) (y := 5 * l1) (by omega) (by omega)).trans (by omega)
    have E4 : nb_add (111 + 5 * l1) l4 = 111 + 5 * l1 + l4 := nb_add_eq (by omega) (by omega)
    have N5 : nb_ln M 607 = 347 := W.lk (by decide) (by decide +kernel)
    refine nb_Wg (q_m_personLine_39 _ _ _ _ _ _ _ _ (by omega) (by rw [E1]; first | done | omega) (by rw [E1]; first | done | omega) (by rw [E2, E3, E4]; first | done | omega) (by rw [E2, E3, E4, E1, N5]; first | done | omega)) ?_
    simp only [E1, E2, E3, E4]
    clear E1 E2 E3 E4 N5
    have W6 : nb_Lay (nb_wr M 607 (111 + 5 * l1 + l4) 0) := W.wr (fun w => (nb_nnum (by decide) (by decide)))
    refine nb_Gr ?_
    have E7 : nb_add l4 1 = l4 + 1 := nb_add_eq (by omega) (by omega)
    refine nb_Wg (q_m_personLine_40 _ _ _ _ _ _ _ _) ?_
    simp only [E7]
    clear E7
    refine nb_Gr ?_
    exact nb_Hu H
  · have H := nb_Hw ((nb_Hu H).2 (by omega))
    have c13 : 5 ≤ l4 := by omega
    refine nb_Gr ?_
    refine nb_Wg (q_m_personLine_41 _ _ _ _ _ _ _ _ (by omega)) ?_
    refine nb_Gb ?_
    refine nb_W.imp (nb_Hu H) (fun r M9 H => ?_)
    obtain ⟨rfl, W10, H⟩ := H
    replace H := nb_Hw H
    show nb_W 111 42 [(20, 603), (0, l1), v2, v3, (0, l4), v5, v6] [] M9 _
    have E11 : nb_rd M9 603 13 = M9.1 603 13 := nb_rd_1 _ _ _
    refine nb_Wg (q_m_personLine_42 _ _ _ _ _ _ _ _ (by omega)) ?_
    simp only [E11]
    clear E11
    refine nb_Gi (fun c12 => ?_) (fun c12 => ?_)
    · have H := nb_Hw ((nb_Hu H).1 c12)
      refine nb_Gr ?_
      refine nb_Wg (q_m_personLine_43 _ _ _ _ _ _ _ _) ?_
      refine nb_Gr ?_
      refine nb_Wg (q_m_personLine_45 _ _ _ _ _ _ _ _ _) ?_
      refine nb_Gr ?_
      exact nb_Hu H
    · have H := nb_Hw ((nb_Hu H).2 (by omega))
      have c12 : M9.1 603 13 ≠ 0 := by omega
      refine nb_Gr ?_
      refine nb_Wg (q_m_personLine_44 _ _ _ _ _ _ _ _) ?_
      refine nb_Gr ?_
      refine nb_Wg (q_m_personLine_45 _ _ _ _ _ _ _ _ _) ?_
      refine nb_Gr ?_
      exact nb_Hu H

theorem w_m_personLine_46 {l1 l4 l5 : Int} {v2 v3 v6 : nb_V} {M : nb_M} {Q : List nb_V → nb_M → Prop} (W : nb_Lay M)  (b0_ : 0 ≤ l1 ∧ l1 ≤ 9) (H : (l5 = 0 → (M.1 603 13 = 0 → 0 ≤ M.1 607 5 ∧ M.1 607 5 ≤ 10 ∧ (nb_Lay (nb_wr M 607 5 (M.1 607 5 + 1)) → Q [] (nb_wr M 607 5 (M.1 607 5 + 1)))) ∧ (M.1 603 13 ≠ 0 → (nb_Lay M → Q [] M))) ∧ (l5 ≠ 0 → nb_W 99 0 [(20, 603), (0, 0), (0, 4), (98, 0)] [] M (fun r M10 => ∃ x9 : Int, r = [(0, x9)] ∧ nb_Lay M10 ∧ (M10.1 603 13 = 0 → 0 ≤ nb_add (111 + 5 * l1) x9 ∧ nb_add (111 + 5 * l1) x9 < 347 ∧ (0 < M10.1 607 (nb_add (111 + 5 * l1) x9) → nb_W 92 0 [(20, 603), (0, 3), (0, M10.1 603 4)] [] M10 (fun r M20 => r = [] ∧ nb_Lay M20 ∧ (M20.1 603 13 = 0 → (l4 = 3 → nb_W 92 0 [(20, 603), (0, 5), (0, M20.1 603 4)] [] M20 (fun r M25 => r = [] ∧ nb_Lay M25 ∧ (M25.1 603 13 = 0 → nb_W 91 0 [(20, 603), (98, 0), (98, 0), (98, 0)] [] M25 (fun r M29 => r = [] ∧ nb_Lay M29 ∧ nb_W 102 0 [(20, 603), (0, 1), (0, 9), (98, 0)] [] M29 (fun r M35 => ∃ x34 : Int, r = [(0, x34)] ∧ nb_Lay M35 ∧ nb_W 104 0 [(20, 603)] [] (nb_wr M35 607 (nb_add (111 + 5 * l1) x9) x34) (fun r M40 => ∃ x39 : Int, r = [(0, x39)] ∧ nb_Lay M40 ∧ nb_W 111 46 [(20, 603), (0, l1), v2, nb_clr v3, (0, nb_add l4 1), (0, x39), (0, x9)] [] M40 Q)))) ∧ (M25.1 603 13 ≠ 0 → (nb_Lay M25 → Q [] M25)))) ∧ (l4 ≠ 3 → nb_W 91 0 [(20, 603), (98, 0), (98, 0), (98, 0)] [] M20 (fun r M45 => r = [] ∧ nb_Lay M45 ∧ nb_W 102 0 [(20, 603), (0, 1), (0, 9), (98, 0)] [] M45 (fun r M51 => ∃ x50 : Int, r = [(0, x50)] ∧ nb_Lay M51 ∧ nb_W 104 0 [(20, 603)] [] (nb_wr M51 607 (nb_add (111 + 5 * l1) x9) x50) (fun r M56 => ∃ x55 : Int, r = [(0, x55)] ∧ nb_Lay M56 ∧ nb_W 111 46 [(20, 603), (0, l1), v2, nb_clr v3, (0, nb_add l4 1), (0, x55), (0, x9)] [] M56 Q))))) ∧ (M20.1 603 13 ≠ 0 → (nb_Lay M20 → Q [] M20)))) ∧ (M10.1 607 (nb_add (111 + 5 * l1) x9) ≤ 0 → (l4 = 3 → nb_W 92 0 [(20, 603), (0, 5), (0, M10.1 603 4)] [] M10 (fun r M64 => r = [] ∧ nb_Lay M64 ∧ (M64.1 603 13 = 0 → nb_W 91 0 [(20, 603), (98, 0), (98, 0), (98, 0)] [] M64 (fun r M68 => r = [] ∧ nb_Lay M68 ∧ nb_W 102 0 [(20, 603), (0, 1), (0, 9), (98, 0)] [] M68 (fun r M74 => ∃ x73 : Int, r = [(0, x73)] ∧ nb_Lay M74 ∧ nb_W 104 0 [(20, 603)] [] (nb_wr M74 607 (nb_add (111 + 5 * l1) x9) x73) (fun r M79 => ∃ x78 : Int, r = [(0, x78)] ∧ nb_Lay M79 ∧ nb_W 111 46 [(20, 603), (0, l1), v2, nb_clr v3, (0, nb_add l4 1), (0, x78), (0, x9)] [] M79 Q)))) ∧ (M64.1 603 13 ≠ 0 → (nb_Lay M64 → Q [] M64)))) ∧ (l4 ≠ 3 → nb_W 91 0 [(20, 603), (98, 0), (98, 0), (98, 0)] [] M10 (fun r M84 => r = [] ∧ nb_Lay M84 ∧ nb_W 102 0 [(20, 603), (0, 1), (0, 9), (98, 0)] [] M84 (fun r M90 => ∃ x89 : Int, r = [(0, x89)] ∧ nb_Lay M90 ∧ nb_W 104 0 [(20, 603)] [] (nb_wr M90 607 (nb_add (111 + 5 * l1) x9) x89) (fun r M95 => ∃ x94 : Int, r = [(0, x94)] ∧ nb_Lay M95 ∧ nb_W 111 46 [(20, 603), (0, l1), v2, nb_clr v3, (0, nb_add l4 1), (0, x94), (0, x9)] [] M95 Q)))))) ∧ (M10.1 603 13 ≠ 0 → (nb_Lay M10 → Q [] M10))))) :
    nb_W 111 46 [(20, 603), (0, l1), v2, v3, (0, l4), (0, l5), v6] [] M Q := by
  replace H := nb_Hw H
  refine nb_Wg (q_m_personLine_46 _ _ _ _ _ _ _ _) ?_
  refine nb_Gi (fun c102 => ?_) (fun c102 => ?_)
  · have H := nb_Hw ((nb_Hu H).1 c102)
    refine nb_Gr ?_
    have E1 : nb_rd M 603 13 = M.1 603 13 := nb_rd_1 _ _ _
    refine nb_Wg (q_m_personLine_61 _ _ _ _ _ _ _ _ (by omega)) ?_
    simp only [E1]
    clear E1
    refine nb_Gi (fun c8 => ?_) (fun c8 => ?_)
    · have H := nb_Hw ((nb_Hu H).1 c8)
      refine nb_Gr ?_
      obtain ⟨p0_, p1_, H⟩ := H
      replace H := nb_Hw H
      have E2 : nb_rd M 603 16 = 607 := W.m16
      have N3 : nb_ln M 607 = 347 := W.lk (by decide) (by decide +kernel)
      have E4 : nb_rd M 607 5 = M.1 607 5 := nb_rd_1 _ _ _
      have E5 : nb_add (M.1 607 5) 1 = M.1 607 5 + 1 := nb_add_eq (by omega) (by omega)
      have N6 : nb_ln M 607 = 347 := W.lk (by decide) (by decide +kernel)
      refine nb_Wg (q_m_personLine_62 _ _ _ _ _ _ _ _ (by omega) (by rw [E2]; first | done | omega) (by omega) (by rw [E2, N3]; first | done | omega) (by rw [E2]; first | done | omega)) ?_
      simp only [E2, E4, E5]
      clear E2 N3 E4 E5 N6
      have W7 : nb_Lay (nb_wr M 607 5 (M.1 607 5 + 1)) := W.wr (fun w => (nb_nnum (by decide) (by decide)))
      refine nb_Gr ?_
      refine nb_Wg (q_m_personLine_63 _ _ _ _ _ _ _ _) ?_
      refine nb_Gs ?_
      exact nb_Hu H W7
    · have H := nb_Hw ((nb_Hu H).2 (by omega))
      have c8 : M.1 603 13 ≠ 0 := by omega
      refine nb_Gr ?_
      refine nb_Wg (q_m_personLine_63 _ _ _ _ _ _ _ _) ?_
      refine nb_Gs ?_
      exact nb_Hu H W
  · have H := nb_Hw ((nb_Hu H).2 (by omega))
    have c102 : l5 ≠ 0 := by omega
    refine nb_Gr ?_
    refine nb_Wg (q_m_personLine_47 _ _ _ _ _ _ _ _ (by omega)) ?_
    refine nb_Gb ?_
    refine nb_W.imp (nb_Hu H) (fun r M10 H => ?_)
    obtain ⟨x9, rfl, W11, H⟩ := H
    replace H := nb_Hw H
    show nb_W 111 48 [(20, 603), (0, l1), v2, v3, (0, l4), (0, l5), v6] [(0, x9)] M10 _
    have E12 : nb_rd M10 603 13 = M10.1 603 13 := nb_rd_1 _ _ _
    refine nb_Wg (q_m_personLine_48 _ _ _ _ _ _ _ _ _ (by omega)) ?_
    simp only [E12]
    clear E12
    refine nb_Gi (fun c101 => ?_) (fun c101 => ?_)
    · have H := nb_Hw ((nb_Hu H).1 c101)
      refine nb_Gr ?_
      obtain ⟨p0_, p1_, H⟩ := H
      replace H := nb_Hw H
      have E13 : nb_rd M10 603 16 = 607 := W11.m16
      have E14 : nb_mul 5 l1 = 5 * l1 := nb_mul_eq (by omega) (by omega)
      have E15 : nb_add 111 (5 * l1) = 111 + 5 * l1 := (nb_add_eq (x := 111) (y := 5 * l1) (by omega) (by omega)).trans (by omega)
      have N16 : nb_ln M10 607 = 347 := W11.lk (by decide) (by decide +kernel)
      have E17 : nb_rd M10 607 (nb_add (111 + 5 * l1) x9) = M10.1 607 (nb_add (111 + 5 * l1) x9) := nb_rd_1 _ _ _
      refine nb_Wg (q_m_personLine_49 _ _ _ _ _ _ _ _ (by omega) (by rw [E13]; first | done | omega) (by rw [E14, E15]; first | done | omega) (by rw [E14, E15, E13, N16]; first | done | omega)) ?_
      simp only [E13, E14, E15, E17]
      clear E13 E14 E15 N16 E17
      refine nb_Gi (fun c98 => ?_) (fun c98 => ?_)
      · have H := nb_Hw ((nb_Hu H).1 c98)
        refine nb_Gr ?_
        have E18 : nb_rd M10 603 4 = M10.1 603 4 := nb_rd_1 _ _ _
        refine nb_Wg (q_m_personLine_50 _ _ _ _ _ _ _ _ (by omega)) ?_
        simp only [E18]
        clear E18
        refine nb_Gb ?_
        refine nb_W.imp (nb_Hu H) (fun r M20 H => ?_)
        obtain ⟨rfl, W21, H⟩ := H
        replace H := nb_Hw H
        show nb_W 111 51 [(20, 603), (0, l1), v2, v3, (0, l4), nb_clr ((0, l5)), (0, x9)] [] M20 _
        have E22 : nb_rd M20 603 13 = M20.1 603 13 := nb_rd_1 _ _ _
        refine nb_Wg (q_m_personLine_51 _ _ _ _ _ _ _ _ (by omega)) ?_
        simp only [E22]
        clear E22
        refine nb_Gi (fun c60 => ?_) (fun c60 => ?_)
        · have H := nb_Hw ((nb_Hu H).1 c60)
          refine nb_Gr ?_
          refine nb_Wg (q_m_personLine_52 _ _ _ _ _ _ _ _) ?_
          refine nb_Gi (fun c58 => ?_) (fun c58 => ?_)
          · have H := nb_Hw ((nb_Hu H).1 c58)
            refine nb_Gr ?_
            have E23 : nb_rd M20 603 4 = M20.1 603 4 := nb_rd_1 _ _ _
            refine nb_Wg (q_m_personLine_53 _ _ _ _ _ _ _ _ (by omega)) ?_
            simp only [E23]
            clear E23
            refine nb_Gb ?_
            refine nb_W.imp (nb_Hu H) (fun r M25 H => ?_)
            obtain ⟨rfl, W26, H⟩ := H
            replace H := nb_Hw H
            show nb_W 111 54 [(20, 603), (0, l1), v2, v3, (0, l4), nb_clr ((0, l5)), (0, x9)] [] M25 _
            have E27 : nb_rd M25 603 13 = M25.1 603 13 := nb_rd_1 _ _ _
            refine nb_Wg (q_m_personLine_54 _ _ _ _ _ _ _ _ (by omega)) ?_
            simp only [E27]
            clear E27
            refine nb_Gi (fun c42 => ?_) (fun c42 => ?_)
            · have H := nb_Hw ((nb_Hu H).1 c42)
              refine nb_Gr ?_
              refine nb_Wg (q_m_personLine_56 _ _ _ _ _ _ _ _ (by omega)) ?_
              refine nb_Gb ?_
              refine nb_W.imp (nb_Hu H) (fun r M29 H => ?_)
              obtain ⟨rfl, W30, H⟩ := H
              replace H := nb_Hw H
              show nb_W 111 57 [(20, 603), (0, l1), v2, v3, (0, l4), nb_clr ((0, l5)), (0, x9)] [] M29 _
              have E31 : nb_rd M29 603 16 = 607 := W30.m16
              have E32 : nb_mul 5 l1 = 5 * l1 := nb_mul_eq (by omega) (by omega)
              have E33 : nb_add 111 (5 * l1) = 111 + 5 * l1 := (nb_add_eq (x := 111) (y := 5 * l1) (by omega) (by omega)).trans (by omega)
              refine nb_Wg (q_m_personLine_57 _ _ _ _ _ _ _ _ (by omega)) ?_
              simp only [E31, E32, E33]
              clear E31 E32 E33
              refine nb_Gb ?_
              refine nb_W.imp (nb_Hu H) (fun r M35 H => ?_)
              obtain ⟨x34, rfl, W36, H⟩ := H
              replace H := nb_Hw H
              show nb_W 111 58 [(20, 603), (0, l1), v2, v3, (0, l4), nb_clr ((0, l5)), (0, x9)] [(0, x34), (0, nb_add (111 + 5 * l1) x9), (3, 607)] M35 _
              have N37 : nb_ln M35 607 = 347 := W36.lk (by decide) (by decide +kernel)
              refine nb_Wg (q_m_personLine_58 _ _ _ _ _ _ _ _ _ _ _ (by omega) (by omega) (by omega) (by rw [N37]; first | done | omega)) ?_
              clear N37
              have W38 : nb_Lay (nb_wr M35 607 (nb_add (111 + 5 * l1) x9) x34) := W36.wr (fun w => (nb_nnum (by decide) (by decide)))
              refine nb_Gr ?_
              refine nb_Wg (q_m_personLine_59 _ _ _ _ _ _ _ _ (by omega)) ?_
              refine nb_Gb ?_
              refine nb_W.imp (nb_Hu H) (fun r M40 H => ?_)
              obtain ⟨x39, rfl, W41, H⟩ := H
              replace H := nb_Hw H
              show nb_W 111 60 [(20, 603), (0, l1), v2, nb_clr v3, (0, nb_add l4 1), nb_clr ((0, l5)), (0, x9)] [(0, x39)] M40 _
              refine nb_Wg (q_m_personLine_60 _ _ _ _ _ _ _ _ _) ?_
              refine nb_Gr ?_
              exact nb_Hu H
            · have H := nb_Hw ((nb_Hu H).2 (by omega))
              have c42 : M25.1 603 13 ≠ 0 := by omega
              refine nb_Gr ?_
              refine nb_Wg (q_m_personLine_55 _ _ _ _ _ _ _ _) ?_
              refine nb_Gs ?_
              exact nb_Hu H W26
          · have H := nb_Hw ((nb_Hu H).2 (by omega))
            have c58 : l4 ≠ 3 := by omega
            refine nb_Gr ?_
            have E43 : nb_rd M20 603 13 = M20.1 603 13 := nb_rd_1 _ _ _
            refine nb_Wg (q_m_personLine_54 _ _ _ _ _ _ _ _ (by omega)) ?_
            simp only [E43]
            clear E43
            refine nb_Gt (by omega) ?_
            refine nb_Gr ?_
            refine nb_Wg (q_m_personLine_56 _ _ _ _ _ _ _ _ (by omega)) ?_
            refine nb_Gb ?_
            refine nb_W.imp (nb_Hu H) (fun r M45 H => ?_)
            obtain ⟨rfl, W46, H⟩ := H
            replace H := nb_Hw H
            show nb_W 111 57 [(20, 603), (0, l1), v2, v3, (0, l4), nb_clr ((0, l5)), (0, x9)] [] M45 _
            have E47 : nb_rd M45 603 16 = 607 := W46.m16
            have E48 : nb_mul 5 l1 = 5 * l1 := nb_mul_eq (by omega) (by omega)
            have E49 : nb_add 111 (5 * l1) = 111 + 5 * l1 := (nb_add_eq (x := 111) (y := 5 * l1) (by omega) (by omega)).trans (by omega)
            refine nb_Wg (q_m_personLine_57 _ _ _ _ _ _ _ _ (by omega)) ?_
            simp only [E47, E48, E49]
            clear E47 E48 E49
            refine nb_Gb ?_
            refine nb_W.imp (nb_Hu H) (fun r M51 H => ?_)
            obtain ⟨x50, rfl, W52, H⟩ := H
            replace H := nb_Hw H
            show nb_W 111 58 [(20, 603), (0, l1), v2, v3, (0, l4), nb_clr ((0, l5)), (0, x9)] [(0, x50), (0, nb_add (111 + 5 * l1) x9), (3, 607)] M51 _
            have N53 : nb_ln M51 607 = 347 := W52.lk (by decide) (by decide +kernel)
            refine nb_Wg (q_m_personLine_58 _ _ _ _ _ _ _ _ _ _ _ (by omega) (by omega) (by omega) (by rw [N53]; first | done | omega)) ?_
            clear N53
            have W54 : nb_Lay (nb_wr M51 607 (nb_add (111 + 5 * l1) x9) x50) := W52.wr (fun w => (nb_nnum (by decide) (by decide)))
            refine nb_Gr ?_
            refine nb_Wg (q_m_personLine_59 _ _ _ _ _ _ _ _ (by omega)) ?_
            refine nb_Gb ?_
            refine nb_W.imp (nb_Hu H) (fun r M56 H => ?_)
            obtain ⟨x55, rfl, W57, H⟩ := H
            replace H := nb_Hw H
            show nb_W 111 60 [(20, 603), (0, l1), v2, nb_clr v3, (0, nb_add l4 1), nb_clr ((0, l5)), (0, x9)] [(0, x55)] M56 _
            refine nb_Wg (q_m_personLine_60 _ _ _ _ _ _ _ _ _) ?_
            refine nb_Gr ?_
            exact nb_Hu H
        · have H := nb_Hw ((nb_Hu H).2 (by omega))
          have c60 : M20.1 603 13 ≠ 0 := by omega
          refine nb_Gr ?_
          have E59 : nb_rd M20 603 13 = M20.1 603 13 := nb_rd_1 _ _ _
          refine nb_Wg (q_m_personLine_54 _ _ _ _ _ _ _ _ (by omega)) ?_
          simp only [E59]
          clear E59
          refine nb_Gf (by omega) ?_
          refine nb_Gr ?_
          refine nb_Wg (q_m_personLine_55 _ _ _ _ _ _ _ _) ?_
          refine nb_Gs ?_
          exact nb_Hu H W21
      · have H := nb_Hw ((nb_Hu H).2 (by omega))
        have c98 : M10.1 607 (nb_add (111 + 5 * l1) x9) ≤ 0 := by omega
        refine nb_Gr ?_
        have E61 : nb_rd M10 603 13 = M10.1 603 13 := nb_rd_1 _ _ _
        refine nb_Wg (q_m_personLine_51 _ _ _ _ _ _ _ _ (by omega)) ?_
        simp only [E61]
        clear E61
        refine nb_Gt (by omega) ?_
        refine nb_Gr ?_
        refine nb_Wg (q_m_personLine_52 _ _ _ _ _ _ _ _) ?_
        refine nb_Gi (fun c97 => ?_) (fun c97 => ?_)
        · have H := nb_Hw ((nb_Hu H).1 c97)
          refine nb_Gr ?_
          have E62 : nb_rd M10 603 4 = M10.1 603 4 := nb_rd_1 _ _ _
          refine nb_Wg (q_m_personLine_53 _ _ _ _ _ _ _ _ (by omega)) ?_
          simp only [E62]
          clear E62
          refine nb_Gb ?_
          refine nb_W.imp (nb_Hu H) (fun r M64 H => ?_)
          obtain ⟨rfl, W65, H⟩ := H
          replace H := nb_Hw H
          show nb_W 111 54 [(20, 603), (0, l1), v2, v3, (0, l4), nb_clr ((0, l5)), (0, x9)] [] M64 _
          have E66 : nb_rd M64 603 13 = M64.1 603 13 := nb_rd_1 _ _ _
          refine nb_Wg (q_m_personLine_54 _ _ _ _ _ _ _ _ (by omega)) ?_
          simp only [E66]
          clear E66
          refine nb_Gi (fun c81 => ?_) (fun c81 => ?_)
          · have H := nb_Hw ((nb_Hu H).1 c81)
            refine nb_Gr ?_
            refine nb_Wg (q_m_personLine_56 _ _ _ _ _ _ _ _ (by omega)) ?_
            refine nb_Gb ?_
            refine nb_W.imp (nb_Hu H) (fun r M68 H => ?_)
            obtain ⟨rfl, W69, H⟩ := H
            replace H := nb_Hw H
            show nb_W 111 57 [(20, 603), (0, l1), v2, v3, (0, l4), nb_clr ((0, l5)), (0, x9)] [] M68 _
            have E70 : nb_rd M68 603 16 = 607 := W69.m16
            have E71 : nb_mul 5 l1 = 5 * l1 := nb_mul_eq (by omega) (by omega)
            have E72 : nb_add 111 (5 * l1) = 111 + 5 * l1 := (nb_add_eq (x := 111) (y := 5 * l1) (by omega) (by omega)).trans (by omega)
            refine nb_Wg (q_m_personLine_57 _ _ _ _ _ _ _ _ (by omega)) ?_
            simp only [E70, E71, E72]
            clear E70 E71 E72
            refine nb_Gb ?_
            refine nb_W.imp (nb_Hu H) (fun r M74 H => ?_)
            obtain ⟨x73, rfl, W75, H⟩ := H
            replace H := nb_Hw H
            show nb_W 111 58 [(20, 603), (0, l1), v2, v3, (0, l4), nb_clr ((0, l5)), (0, x9)] [(0, x73), (0, nb_add (111 + 5 * l1) x9), (3, 607)] M74 _
            have N76 : nb_ln M74 607 = 347 := W75.lk (by decide) (by decide +kernel)
            refine nb_Wg (q_m_personLine_58 _ _ _ _ _ _ _ _ _ _ _ (by omega) (by omega) (by omega) (by rw [N76]; first | done | omega)) ?_
            clear N76
            have W77 : nb_Lay (nb_wr M74 607 (nb_add (111 + 5 * l1) x9) x73) := W75.wr (fun w => (nb_nnum (by decide) (by decide)))
            refine nb_Gr ?_
            refine nb_Wg (q_m_personLine_59 _ _ _ _ _ _ _ _ (by omega)) ?_
            refine nb_Gb ?_
            refine nb_W.imp (nb_Hu H) (fun r M79 H => ?_)
            obtain ⟨x78, rfl, W80, H⟩ := H
            replace H := nb_Hw H
            show nb_W 111 60 [(20, 603), (0, l1), v2, nb_clr v3, (0, nb_add l4 1), nb_clr ((0, l5)), (0, x9)] [(0, x78)] M79 _
            refine nb_Wg (q_m_personLine_60 _ _ _ _ _ _ _ _ _) ?_
            refine nb_Gr ?_
            exact nb_Hu H
          · have H := nb_Hw ((nb_Hu H).2 (by omega))
            have c81 : M64.1 603 13 ≠ 0 := by omega
            refine nb_Gr ?_
            refine nb_Wg (q_m_personLine_55 _ _ _ _ _ _ _ _) ?_
            refine nb_Gs ?_
            exact nb_Hu H W65
        · have H := nb_Hw ((nb_Hu H).2 (by omega))
          have c97 : l4 ≠ 3 := by omega
          refine nb_Gr ?_
          have E82 : nb_rd M10 603 13 = M10.1 603 13 := nb_rd_1 _ _ _
          refine nb_Wg (q_m_personLine_54 _ _ _ _ _ _ _ _ (by omega)) ?_
          simp only [E82]
          clear E82
          refine nb_Gt (by omega) ?_
          refine nb_Gr ?_
          refine nb_Wg (q_m_personLine_56 _ _ _ _ _ _ _ _ (by omega)) ?_
          refine nb_Gb ?_
          refine nb_W.imp (nb_Hu H) (fun r M84 H => ?_)
          obtain ⟨rfl, W85, H⟩ := H
          replace H := nb_Hw H
          show nb_W 111 57 [(20, 603), (0, l1), v2, v3, (0, l4), nb_clr ((0, l5)), (0, x9)] [] M84 _
          have E86 : nb_rd M84 603 16 = 607 := W85.m16
          have E87 : nb_mul 5 l1 = 5 * l1 := nb_mul_eq (by omega) (by omega)
          have E88 : nb_add 111 (5 * l1) = 111 + 5 * l1 := (nb_add_eq (x := 111) (y := 5 * l1) (by omega) (by omega)).trans (by omega)
          refine nb_Wg (q_m_personLine_57 _ _ _ _ _ _ _ _ (by omega)) ?_
          simp only [E86, E87, E88]
          clear E86 E87 E88
          refine nb_Gb ?_
          refine nb_W.imp (nb_Hu H) (fun r M90 H => ?_)
          obtain ⟨x89, rfl, W91, H⟩ := H
          replace H := nb_Hw H
          show nb_W 111 58 [(20, 603), (0, l1), v2, v3, (0, l4), nb_clr ((0, l5)), (0, x9)] [(0, x89), (0, nb_add (111 + 5 * l1) x9), (3, 607)] M90 _
          have N92 : nb_ln M90 607 = 347 := W91.lk (by decide) (by decide +kernel)
          refine nb_Wg (q_m_personLine_58 _ _ _ _ _ _ _ _ _ _ _ (by omega) (by omega) (by omega) (by rw [N92]; first | done | omega)) ?_
          clear N92
          have W93 : nb_Lay (nb_wr M90 607 (nb_add (111 + 5 * l1) x9) x89) := W91.wr (fun w => (nb_nnum (by decide) (by decide)))
          refine nb_Gr ?_
          refine nb_Wg (q_m_personLine_59 _ _ _ _ _ _ _ _ (by omega)) ?_
          refine nb_Gb ?_
          refine nb_W.imp (nb_Hu H) (fun r M95 H => ?_)
          obtain ⟨x94, rfl, W96, H⟩ := H
          replace H := nb_Hw H
          show nb_W 111 60 [(20, 603), (0, l1), v2, nb_clr v3, (0, nb_add l4 1), nb_clr ((0, l5)), (0, x9)] [(0, x94)] M95 _
          refine nb_Wg (q_m_personLine_60 _ _ _ _ _ _ _ _ _) ?_
          refine nb_Gr ?_
          exact nb_Hu H
    · have H := nb_Hw ((nb_Hu H).2 (by omega))
      have c101 : M10.1 603 13 ≠ 0 := by omega
      refine nb_Gr ?_
      have E99 : nb_rd M10 603 13 = M10.1 603 13 := nb_rd_1 _ _ _
      refine nb_Wg (q_m_personLine_51 _ _ _ _ _ _ _ _ (by omega)) ?_
      simp only [E99]
      clear E99
      refine nb_Gf (by omega) ?_
      refine nb_Gr ?_
      have E100 : nb_rd M10 603 13 = M10.1 603 13 := nb_rd_1 _ _ _
      refine nb_Wg (q_m_personLine_54 _ _ _ _ _ _ _ _ (by omega)) ?_
      simp only [E100]
      clear E100
      refine nb_Gf (by omega) ?_
      refine nb_Gr ?_
      refine nb_Wg (q_m_personLine_55 _ _ _ _ _ _ _ _) ?_
      refine nb_Gs ?_
      exact nb_Hu H W11

theorem w_m_shelfLine_0 {v1 v2 : nb_V} {M : nb_M} {Q : List nb_V → nb_M → Prop} (W : nb_Lay M) (H : (M.1 603 13 = 0 → nb_W 100 0 [(20, 603)] [] M (fun r M3 => ∃ x2 : Int, r = [(0, x2)] ∧ nb_Lay M3 ∧ (M3.1 603 13 = 0 → 0 ≤ nb_add (nb_add 41 (nb_mul 7 x2)) 6 ∧ nb_add (nb_add 41 (nb_mul 7 x2)) 6 < 347 ∧ (0 < M3.1 607 (nb_add (nb_add 41 (nb_mul 7 x2)) 6) → nb_W 92 0 [(20, 603), (0, 3), (0, M3.1 603 4)] [] M3 (fun r M11 => r = [] ∧ nb_Lay M11 ∧ (M11.1 603 13 = 0 → nb_W 91 0 [(20, 603), (98, 0), (98, 0), (98, 0)] [] M11 (fun r M15 => r = [] ∧ nb_Lay M15 ∧ nb_W 103 0 [(20, 603), (2, 29), (0, 0), (0, M15.1 607 2)] [] M15 (fun r M21 => ∃ x20 : Int, r = [(0, x20)] ∧ nb_Lay M21 ∧ (M21.1 603 13 = 0 → (nb_Lay (nb_wr (nb_wr M21 607 (nb_add (nb_add 41 (nb_mul 7 x2)) 6) (nb_add x20 1)) 607 6 (nb_add ((nb_wr M21 607 (nb_add (nb_add 41 (nb_mul 7 x2)) 6) (nb_add x20 1)).1 607 6) 1)) → Q [] (nb_wr (nb_wr M21 607 (nb_add (nb_add 41 (nb_mul 7 x2)) 6) (nb_add x20 1)) 607 6 (nb_add ((nb_wr M21 607 (nb_add (nb_add 41 (nb_mul 7 x2)) 6) (nb_add x20 1)).1 607 6) 1)))) ∧ (M21.1 603 13 ≠ 0 → (nb_Lay M21 → Q [] M21))))) ∧ (M11.1 603 13 ≠ 0 → (nb_Lay M11 → Q [] M11)))) ∧ (M3.1 607 (nb_add (nb_add 41 (nb_mul 7 x2)) 6) ≤ 0 → nb_W 91 0 [(20, 603), (98, 0), (98, 0), (98, 0)] [] M3 (fun r M36 => r = [] ∧ nb_Lay M36 ∧ nb_W 103 0 [(20, 603), (2, 29), (0, 0), (0, M36.1 607 2)] [] M36 (fun r M42 => ∃ x41 : Int, r = [(0, x41)] ∧ nb_Lay M42 ∧ (M42.1 603 13 = 0 → (nb_Lay (nb_wr (nb_wr M42 607 (nb_add (nb_add 41 (nb_mul 7 x2)) 6) (nb_add x41 1)) 607 6 (nb_add ((nb_wr M42 607 (nb_add (nb_add 41 (nb_mul 7 x2)) 6) (nb_add x41 1)).1 607 6) 1)) → Q [] (nb_wr (nb_wr M42 607 (nb_add (nb_add 41 (nb_mul 7 x2)) 6) (nb_add x41 1)) 607 6 (nb_add ((nb_wr M42 607 (nb_add (nb_add 41 (nb_mul 7 x2)) 6) (nb_add x41 1)).1 607 6) 1)))) ∧ (M42.1 603 13 ≠ 0 → (nb_Lay M42 → Q [] M42)))))) ∧ (M3.1 603 13 ≠ 0 → (nb_Lay M3 → Q [] M3)))) ∧ (M.1 603 13 ≠ 0 → (nb_Lay M → Q [] M))) :
    nb_W 112 0 [(20, 603), v1, v2] [] M Q := by
  replace H := nb_Hw H
  have E1 : nb_rd M 603 13 = M.1 603 13 := nb_rd_1 _ _ _
  refine nb_Wg (q_m_shelfLine_0 _ _ _ _ (by omega)) ?_
  simp only [E1]
  clear E1
  refine nb_Gi (fun c57 => ?_) (fun c57 => ?_)
  · have H := nb_Hw ((nb_Hu H).1 c57)
    refine nb_Gr ?_
    refine nb_Wg (q_m_shelfLine_2 _ _ _ _ (by omega)) ?_
    refine nb_Gb ?_
    refine nb_W.imp (nb_Hu H) (fun r M3 H => ?_)
    obtain ⟨x2, rfl, W4, H⟩ := H
    replace H := nb_Hw H
    show nb_W 112 3 [(20, 603), v1, v2] [(0, x2)] M3 _
    have E5 : nb_rd M3 603 13 = M3.1 603 13 := nb_rd_1 _ _ _
    refine nb_Wg (q_m_shelfLine_3 _ _ _ _ _ (by omega)) ?_
    simp only [E5]
    clear E5
    refine nb_Gi (fun c56 => ?_) (fun c56 => ?_)
    · have H := nb_Hw ((nb_Hu H).1 c56)
      refine nb_Gr ?_
      obtain ⟨p0_, p1_, H⟩ := H
      replace H := nb_Hw H
      have E6 : nb_rd M3 603 16 = 607 := W4.m16
      have N7 : nb_ln M3 607 = 347 := W4.lk (by decide) (by decide +kernel)
      have E8 : nb_rd M3 607 (nb_add (nb_add 41 (nb_mul 7 x2)) 6) = M3.1 607 (nb_add (nb_add 41 (nb_mul 7 x2)) 6) := nb_rd_1 _ _ _
      refine nb_Wg (q_m_shelfLine_4 _ _ _ _ (by omega) (by rw [E6]; first | done | omega) (by omega) (by rw [E6, N7]; first | done | omega)) ?_
      simp only [E6, E8]
      clear E6 N7 E8
      refine nb_Gi (fun c54 => ?_) (fun c54 => ?_)
      · have H := nb_Hw ((nb_Hu H).1 c54)
        refine nb_Gr ?_
        have E9 : nb_rd M3 603 4 = M3.1 603 4 := nb_rd_1 _ _ _
        refine nb_Wg (q_m_shelfLine_5 _ _ _ _ (by omega)) ?_
        simp only [E9]
        clear E9
        refine nb_Gb ?_
        refine nb_W.imp (nb_Hu H) (fun r M11 H => ?_)
        obtain ⟨rfl, W12, H⟩ := H
        replace H := nb_Hw H
        show nb_W 112 6 [(20, 603), (0, x2), v2] [] M11 _
        have E13 : nb_rd M11 603 13 = M11.1 603 13 := nb_rd_1 _ _ _
        refine nb_Wg (q_m_shelfLine_6 _ _ _ _ (by omega)) ?_
        simp only [E13]
        clear E13
        refine nb_Gi (fun c33 => ?_) (fun c33 => ?_)
        · have H := nb_Hw ((nb_Hu H).1 c33)
          refine nb_Gr ?_
          refine nb_Wg (q_m_shelfLine_8 _ _ _ _ (by omega)) ?_
          refine nb_Gb ?_
          refine nb_W.imp (nb_Hu H) (fun r M15 H => ?_)
          obtain ⟨rfl, W16, H⟩ := H
          replace H := nb_Hw H
          show nb_W 112 9 [(20, 603), (0, x2), v2] [] M15 _
          have E17 : nb_rd M15 603 16 = 607 := W16.m16
          have N18 : nb_ln M15 607 = 347 := W16.lk (by decide) (by decide +kernel)
          have E19 : nb_rd M15 607 2 = M15.1 607 2 := nb_rd_1 _ _ _
          refine nb_Wg (q_m_shelfLine_9 _ _ _ _ (by omega) (by rw [E17]; first | done | omega) (by omega) (by rw [E17, N18]; first | done | omega)) ?_
          simp only [E17, E19]
          clear E17 N18 E19
          refine nb_Gb ?_
          refine nb_W.imp (nb_Hu H) (fun r M21 H => ?_)
          obtain ⟨x20, rfl, W22, H⟩ := H
          replace H := nb_Hw H
          show nb_W 112 10 [(20, 603), (0, x2), v2] [(0, x20)] M21 _
          have E23 : nb_rd M21 603 13 = M21.1 603 13 := nb_rd_1 _ _ _
          refine nb_Wg (q_m_shelfLine_10 _ _ _ _ _ (by omega)) ?_
          simp only [E23]
          clear E23
          refine nb_Gi (fun c32 => ?_) (fun c32 => ?_)
          · have H := nb_Hw ((nb_Hu H).1 c32)
            refine nb_Gr ?_
            have E24 : nb_rd M21 603 16 = 607 := W22.m16
            have N25 : nb_ln M21 607 = 347 := W22.lk (by decide) (by decide +kernel)
            refine nb_Wg (q_m_shelfLine_12 _ _ _ _ (by omega) (by rw [E24]; first | done | omega) (by rw [E24]; first | done | omega) (by omega) (by rw [E24, N25]; first | done | omega)) ?_
            simp only [E24]
            clear E24 N25
            have W26 : nb_Lay (nb_wr M21 607 (nb_add (nb_add 41 (nb_mul 7 x2)) 6) (nb_add x20 1)) := W22.wr (fun w => (nb_nnum (by decide) (by decide)))
            refine nb_Gr ?_
            have E27 : nb_rd (nb_wr M21 607 (nb_add (nb_add 41 (nb_mul 7 x2)) 6) (nb_add x20 1)) 603 16 = 607 := W26.m16
            have N28 : nb_ln (nb_wr M21 607 (nb_add (nb_add 41 (nb_mul 7 x2)) 6) (nb_add x20 1)) 607 = 347 := W26.lk (by decide) (by decide +kernel)
            have E29 : nb_rd (nb_wr M21 607 (nb_add (nb_add 41 (nb_mul 7 x2)) 6) (nb_add x20 1)) 607 6 = (nb_wr M21 607 (nb_add (nb_add 41 (nb_mul 7 x2)) 6) (nb_add x20 1)).1 607 6 := nb_rd_1 _ _ _
            have N30 : nb_ln (nb_wr M21 607 (nb_add (nb_add 41 (nb_mul 7 x2)) 6) (nb_add x20 1)) 607 = 347 := W26.lk (by decide) (by decide +kernel)
            refine nb_Wg (q_m_shelfLine_13 _ _ _ _ (by omega) (by rw [E27]; first | done | omega) (by omega) (by rw [E27, N28]; first | done | omega) (by rw [E27]; first | done | omega)) ?_
            simp only [E27, E29]
            clear E27 N28 E29 N30
            have W31 : nb_Lay (nb_wr (nb_wr M21 607 (nb_add (nb_add 41 (nb_mul 7 x2)) 6) (nb_add x20 1)) 607 6 (nb_add ((nb_wr M21 607 (nb_add (nb_add 41 (nb_mul 7 x2)) 6) (nb_add x20 1)).1 607 6) 1)) := W26.wr (fun w => (nb_nnum (by decide) (by decide)))
            refine nb_Gr ?_
            refine nb_Wg (q_m_shelfLine_14 _ _ _ _) ?_
            refine nb_Gs ?_
            exact nb_Hu H W31
          · have H := nb_Hw ((nb_Hu H).2 (by omega))
            have c32 : M21.1 603 13 ≠ 0 := by omega
            refine nb_Gr ?_
            refine nb_Wg (q_m_shelfLine_11 _ _ _ _) ?_
            refine nb_Gs ?_
            exact nb_Hu H W22
        · have H := nb_Hw ((nb_Hu H).2 (by omega))
          have c33 : M11.1 603 13 ≠ 0 := by omega
          refine nb_Gr ?_
          refine nb_Wg (q_m_shelfLine_7 _ _ _ _) ?_
          refine nb_Gs ?_
          exact nb_Hu H W12
      · have H := nb_Hw ((nb_Hu H).2 (by omega))
        have c54 : M3.1 607 (nb_add (nb_add 41 (nb_mul 7 x2)) 6) ≤ 0 := by omega
        refine nb_Gr ?_
        have E34 : nb_rd M3 603 13 = M3.1 603 13 := nb_rd_1 _ _ _
        refine nb_Wg (q_m_shelfLine_6 _ _ _ _ (by omega)) ?_
        simp only [E34]
        clear E34
        refine nb_Gt (by omega) ?_
        refine nb_Gr ?_
        refine nb_Wg (q_m_shelfLine_8 _ _ _ _ (by omega)) ?_
        refine nb_Gb ?_
        refine nb_W.imp (nb_Hu H) (fun r M36 H => ?_)
        obtain ⟨rfl, W37, H⟩ := H
        replace H := nb_Hw H
        show nb_W 112 9 [(20, 603), (0, x2), v2] [] M36 _
        have E38 : nb_rd M36 603 16 = 607 := W37.m16
        have N39 : nb_ln M36 607 = 347 := W37.lk (by decide) (by decide +kernel)
        have E40 : nb_rd M36 607 2 = M36.1 607 2 := nb_rd_1 _ _ _
        refine nb_Wg (q_m_shelfLine_9 _ _ _ _ (by omega) (by rw [E38]; first | done | omega) (by omega) (by rw [E38, N39]; first | done | omega)) ?_
        simp only [E38, E40]
        clear E38 N39 E40
        refine nb_Gb ?_
        refine nb_W.imp (nb_Hu H) (fun r M42 H => ?_)
        obtain ⟨x41, rfl, W43, H⟩ := H
        replace H := nb_Hw H
        show nb_W 112 10 [(20, 603), (0, x2), v2] [(0, x41)] M42 _
        have E44 : nb_rd M42 603 13 = M42.1 603 13 := nb_rd_1 _ _ _
        refine nb_Wg (q_m_shelfLine_10 _ _ _ _ _ (by omega)) ?_
        simp only [E44]
        clear E44
        refine nb_Gi (fun c53 => ?_) (fun c53 => ?_)
        · have H := nb_Hw ((nb_Hu H).1 c53)
          refine nb_Gr ?_
          have E45 : nb_rd M42 603 16 = 607 := W43.m16
          have N46 : nb_ln M42 607 = 347 := W43.lk (by decide) (by decide +kernel)
          refine nb_Wg (q_m_shelfLine_12 _ _ _ _ (by omega) (by rw [E45]; first | done | omega) (by rw [E45]; first | done | omega) (by omega) (by rw [E45, N46]; first | done | omega)) ?_
          simp only [E45]
          clear E45 N46
          have W47 : nb_Lay (nb_wr M42 607 (nb_add (nb_add 41 (nb_mul 7 x2)) 6) (nb_add x41 1)) := W43.wr (fun w => (nb_nnum (by decide) (by decide)))
          refine nb_Gr ?_
          have E48 : nb_rd (nb_wr M42 607 (nb_add (nb_add 41 (nb_mul 7 x2)) 6) (nb_add x41 1)) 603 16 = 607 := W47.m16
          have N49 : nb_ln (nb_wr M42 607 (nb_add (nb_add 41 (nb_mul 7 x2)) 6) (nb_add x41 1)) 607 = 347 := W47.lk (by decide) (by decide +kernel)
          have E50 : nb_rd (nb_wr M42 607 (nb_add (nb_add 41 (nb_mul 7 x2)) 6) (nb_add x41 1)) 607 6 = (nb_wr M42 607 (nb_add (nb_add 41 (nb_mul 7 x2)) 6) (nb_add x41 1)).1 607 6 := nb_rd_1 _ _ _
          have N51 : nb_ln (nb_wr M42 607 (nb_add (nb_add 41 (nb_mul 7 x2)) 6) (nb_add x41 1)) 607 = 347 := W47.lk (by decide) (by decide +kernel)
          refine nb_Wg (q_m_shelfLine_13 _ _ _ _ (by omega) (by rw [E48]; first | done | omega) (by omega) (by rw [E48, N49]; first | done | omega) (by rw [E48]; first | done | omega)) ?_
          simp only [E48, E50]
          clear E48 N49 E50 N51
          have W52 : nb_Lay (nb_wr (nb_wr M42 607 (nb_add (nb_add 41 (nb_mul 7 x2)) 6) (nb_add x41 1)) 607 6 (nb_add ((nb_wr M42 607 (nb_add (nb_add 41 (nb_mul 7 x2)) 6) (nb_add x41 1)).1 607 6) 1)) := W47.wr (fun w => (nb_nnum (by decide) (by decide)))
          refine nb_Gr ?_
          refine nb_Wg (q_m_shelfLine_14 _ _ _ _) ?_
          refine nb_Gs ?_
          exact nb_Hu H W52
        · have H := nb_Hw ((nb_Hu H).2 (by omega))
          have c53 : M42.1 603 13 ≠ 0 := by omega
          refine nb_Gr ?_
          refine nb_Wg (q_m_shelfLine_11 _ _ _ _) ?_
          refine nb_Gs ?_
          exact nb_Hu H W43
    · have H := nb_Hw ((nb_Hu H).2 (by omega))
      have c56 : M3.1 603 13 ≠ 0 := by omega
      refine nb_Gr ?_
      have E55 : nb_rd M3 603 13 = M3.1 603 13 := nb_rd_1 _ _ _
      refine nb_Wg (q_m_shelfLine_6 _ _ _ _ (by omega)) ?_
      simp only [E55]
      clear E55
      refine nb_Gf (by omega) ?_
      refine nb_Gr ?_
      refine nb_Wg (q_m_shelfLine_7 _ _ _ _) ?_
      refine nb_Gs ?_
      exact nb_Hu H W4
  · have H := nb_Hw ((nb_Hu H).2 (by omega))
    have c57 : M.1 603 13 ≠ 0 := by omega
    refine nb_Gr ?_
    refine nb_Wg (q_m_shelfLine_1 _ _ _ _) ?_
    refine nb_Gs ?_
    exact nb_Hu H W

theorem w_m_saysLine_0 {v1 v2 : nb_V} {M : nb_M} {Q : List nb_V → nb_M → Prop} (W : nb_Lay M) (H : (M.1 603 13 = 0 → 0 ≤ M.1 607 7 ∧ M.1 607 7 ≤ 8 ∧ nb_W 101 0 [(20, 603), (98, 0)] [] M (fun r M9 => ∃ x8 : Int, r = [(0, x8)] ∧ nb_Lay M9 ∧ nb_W 101 0 [(20, 603), (98, 0)] [] (nb_wr M9 607 (161 + 3 * (M.1 607 7)) x8) (fun r M16 => ∃ x15 : Int, r = [(0, x15)] ∧ nb_Lay M16 ∧ nb_W 95 0 [(20, 603), (2, 30)] [] (nb_wr M16 607 (161 + 3 * (M.1 607 7) + 1) x15) (fun r M21 => r = [] ∧ nb_Lay M21 ∧ nb_W 100 0 [(20, 603)] [] M21 (fun r M24 => ∃ x23 : Int, r = [(0, x23)] ∧ nb_Lay M24 ∧ (M24.1 603 13 = 0 → (x23 = M24.1 607 (161 + 3 * (M.1 607 7) + 1) → nb_W 92 0 [(20, 603), (0, 3), (0, M24.1 603 4)] [] M24 (fun r M33 => r = [] ∧ nb_Lay M33 ∧ (M33.1 603 13 = 0 → nb_W 91 0 [(20, 603), (98, 0), (98, 0), (98, 0)] [] M33 (fun r M37 => r = [] ∧ nb_Lay M37 ∧ (nb_Lay (nb_wr (nb_wr M37 607 (161 + 3 * (M.1 607 7) + 2) x23) 607 7 (nb_add (M37.1 607 7) 1)) → Q [] (nb_wr (nb_wr M37 607 (161 + 3 * (M.1 607 7) + 2) x23) 607 7 (nb_add (M37.1 607 7) 1))))) ∧ (M33.1 603 13 ≠ 0 → (nb_Lay M33 → Q [] M33)))) ∧ (x23 ≠ M24.1 607 (161 + 3 * (M.1 607 7) + 1) → nb_W 91 0 [(20, 603), (98, 0), (98, 0), (98, 0)] [] M24 (fun r M51 => r = [] ∧ nb_Lay M51 ∧ (nb_Lay (nb_wr (nb_wr M51 607 (161 + 3 * (M.1 607 7) + 2) x23) 607 7 (nb_add (M51.1 607 7) 1)) → Q [] (nb_wr (nb_wr M51 607 (161 + 3 * (M.1 607 7) + 2) x23) 607 7 (nb_add (M51.1 607 7) 1)))))) ∧ (M24.1 603 13 ≠ 0 → (nb_Lay M24 → Q [] M24))))))) ∧ (M.1 603 13 ≠ 0 → (nb_Lay M → Q [] M))) :
    nb_W 113 0 [(20, 603), v1, v2] [] M Q := by
  replace H := nb_Hw H
  have E1 : nb_rd M 603 13 = M.1 603 13 := nb_rd_1 _ _ _
  refine nb_Wg (q_m_saysLine_0 _ _ _ _ (by omega)) ?_
  simp only [E1]
  clear E1
  refine nb_Gi (fun c65 => ?_) (fun c65 => ?_)
  · have H := nb_Hw ((nb_Hu H).1 c65)
    refine nb_Gr ?_
    obtain ⟨p0_, p1_, H⟩ := H
    replace H := nb_Hw H
    have E2 : nb_rd M 603 16 = 607 := W.m16
    have N3 : nb_ln M 607 = 347 := W.lk (by decide) (by decide +kernel)
    have E4 : nb_rd M 607 7 = M.1 607 7 := nb_rd_1 _ _ _
    have E5 : nb_mul 3 (M.1 607 7) = 3 * (M.1 607 7) := nb_mul_eq (by omega) (by omega)
    have E6 : nb_add 161 (3 * (M.1 607 7)) = 161 + 3 * (M.1 607 7) := (nb_add_eq (x := 161) (y := 3 * (M.1 607 7)) (by omega) (by omega)).trans (by omega)
    have E7 : nb_rd M 603 16 = 607 := W.m16
    refine nb_Wg (q_m_saysLine_2 _ _ _ _ (by omega) (by rw [E2]; first | done | omega) (by omega) (by rw [E2, N3]; first | done | omega)) ?_
    simp only [E2, E4, E5, E6, E7]
    clear E2 N3 E4 E5 E6 E7
    refine nb_Gb ?_
    refine nb_W.imp (nb_Hu H) (fun r M9 H => ?_)
    obtain ⟨x8, rfl, W10, H⟩ := H
    replace H := nb_Hw H
    show nb_W 113 3 [(20, 603), (0, 161 + 3 * (M.1 607 7)), v2] [(0, x8), (0, 161 + 3 * (M.1 607 7)), (3, 607)] M9 _
    have N11 : nb_ln M9 607 = 347 := W10.lk (by decide) (by decide +kernel)
    refine nb_Wg (q_m_saysLine_3 _ _ _ _ _ _ _ (by omega) (by omega) (by omega) (by rw [N11]; first | done | omega)) ?_
    clear N11
    have W12 : nb_Lay (nb_wr M9 607 (161 + 3 * (M.1 607 7)) x8) := W10.wr (fun w => (nb_nnum (by decide) (by decide)))
    refine nb_Gr ?_
    have E13 : nb_rd (nb_wr M9 607 (161 + 3 * (M.1 607 7)) x8) 603 16 = 607 := W12.m16
    have E14 : nb_add (161 + 3 * (M.1 607 7)) 1 = 161 + 3 * (M.1 607 7) + 1 := nb_add_eq (by omega) (by omega)
    refine nb_Wg (q_m_saysLine_4 _ _ _ _ (by omega)) ?_
    simp only [E13, E14]
    clear E13 E14
    refine nb_Gb ?_
    refine nb_W.imp (nb_Hu H) (fun r M16 H => ?_)
    obtain ⟨x15, rfl, W17, H⟩ := H
    replace H := nb_Hw H
    show nb_W 113 5 [(20, 603), (0, 161 + 3 * (M.1 607 7)), v2] [(0, x15), (0, 161 + 3 * (M.1 607 7) + 1), (3, 607)] M16 _
    have N18 : nb_ln M16 607 = 347 := W17.lk (by decide) (by decide +kernel)
    refine nb_Wg (q_m_saysLine_5 _ _ _ _ _ _ _ (by omega) (by omega) (by omega) (by rw [N18]; first | done | omega)) ?_
    clear N18
    have W19 : nb_Lay (nb_wr M16 607 (161 + 3 * (M.1 607 7) + 1) x15) := W17.wr (fun w => (nb_nnum (by decide) (by decide)))
    refine nb_Gr ?_
    refine nb_Wg (q_m_saysLine_6 _ _ _ _ (by omega)) ?_
    refine nb_Gb ?_
    refine nb_W.imp (nb_Hu H) (fun r M21 H => ?_)
    obtain ⟨rfl, W22, H⟩ := H
    replace H := nb_Hw H
    show nb_W 113 7 [(20, 603), (0, 161 + 3 * (M.1 607 7)), v2] [] M21 _
    refine nb_Wg (q_m_saysLine_7 _ _ _ _ (by omega)) ?_
    refine nb_Gb ?_
    refine nb_W.imp (nb_Hu H) (fun r M24 H => ?_)
    obtain ⟨x23, rfl, W25, H⟩ := H
    replace H := nb_Hw H
    show nb_W 113 8 [(20, 603), (0, 161 + 3 * (M.1 607 7)), v2] [(0, x23)] M24 _
    have E26 : nb_rd M24 603 13 = M24.1 603 13 := nb_rd_1 _ _ _
    refine nb_Wg (q_m_saysLine_8 _ _ _ _ _ (by omega)) ?_
    simp only [E26]
    clear E26
    refine nb_Gi (fun c64 => ?_) (fun c64 => ?_)
    · have H := nb_Hw ((nb_Hu H).1 c64)
      refine nb_Gr ?_
      have E27 : nb_rd M24 603 16 = 607 := W25.m16
      have E28 : nb_add (161 + 3 * (M.1 607 7)) 1 = 161 + 3 * (M.1 607 7) + 1 := nb_add_eq (by omega) (by omega)
      have N29 : nb_ln M24 607 = 347 := W25.lk (by decide) (by decide +kernel)
      have E30 : nb_rd M24 607 (161 + 3 * (M.1 607 7) + 1) = M24.1 607 (161 + 3 * (M.1 607 7) + 1) := nb_rd_1 _ _ _
      refine nb_Wg (q_m_saysLine_9 _ _ _ _ (by omega) (by rw [E27]; first | done | omega) (by rw [E28]; first | done | omega) (by rw [E28, E27, N29]; first | done | omega)) ?_
      simp only [E27, E28, E30]
      clear E27 E28 N29 E30
      refine nb_Gi (fun c62 => ?_) (fun c62 => ?_)
      · have H := nb_Hw ((nb_Hu H).1 c62)
        refine nb_Gr ?_
        have E31 : nb_rd M24 603 4 = M24.1 603 4 := nb_rd_1 _ _ _
        refine nb_Wg (q_m_saysLine_10 _ _ _ _ (by omega)) ?_
        simp only [E31]
        clear E31
        refine nb_Gb ?_
        refine nb_W.imp (nb_Hu H) (fun r M33 H => ?_)
        obtain ⟨rfl, W34, H⟩ := H
        replace H := nb_Hw H
        show nb_W 113 11 [(20, 603), (0, 161 + 3 * (M.1 607 7)), (0, x23)] [] M33 _
        have E35 : nb_rd M33 603 13 = M33.1 603 13 := nb_rd_1 _ _ _
        refine nb_Wg (q_m_saysLine_11 _ _ _ _ (by omega)) ?_
        simp only [E35]
        clear E35
        refine nb_Gi (fun c48 => ?_) (fun c48 => ?_)
        · have H := nb_Hw ((nb_Hu H).1 c48)
          refine nb_Gr ?_
          refine nb_Wg (q_m_saysLine_13 _ _ _ _ (by omega)) ?_
          refine nb_Gb ?_
          refine nb_W.imp (nb_Hu H) (fun r M37 H => ?_)
          obtain ⟨rfl, W38, H⟩ := H
          replace H := nb_Hw H
          show nb_W 113 14 [(20, 603), (0, 161 + 3 * (M.1 607 7)), (0, x23)] [] M37 _
          have E39 : nb_rd M37 603 16 = 607 := W38.m16
          have E40 : nb_add (161 + 3 * (M.1 607 7)) 2 = 161 + 3 * (M.1 607 7) + 2 := nb_add_eq (by omega) (by omega)
          have N41 : nb_ln M37 607 = 347 := W38.lk (by decide) (by decide +kernel)
          refine nb_Wg (q_m_saysLine_14 _ _ _ _ (by omega) (by rw [E39]; first | done | omega) (by rw [E39]; first | done | omega) (by rw [E40]; first | done | omega) (by rw [E40, E39, N41]; first | done | omega)) ?_
          simp only [E39, E40]
          clear E39 E40 N41
          have W42 : nb_Lay (nb_wr M37 607 (161 + 3 * (M.1 607 7) + 2) x23) := W38.wr (fun w => (nb_nnum (by decide) (by decide)))
          refine nb_Gr ?_
          have E43 : nb_rd (nb_wr M37 607 (161 + 3 * (M.1 607 7) + 2) x23) 603 16 = 607 := W42.m16
          have N44 : nb_ln (nb_wr M37 607 (161 + 3 * (M.1 607 7) + 2) x23) 607 = 347 := W42.lk (by decide) (by decide +kernel)
          have E45 : nb_rd (nb_wr M37 607 (161 + 3 * (M.1 607 7) + 2) x23) 607 7 = M37.1 607 7 := nb_rdw (Or.inr (by omega)) (nb_rd_1 _ _ _)
          have N46 : nb_ln (nb_wr M37 607 (161 + 3 * (M.1 607 7) + 2) x23) 607 = 347 := W42.lk (by decide) (by decide +kernel)
          refine nb_Wg (q_m_saysLine_15 _ _ _ _ (by omega) (by rw [E43]; first | done | omega) (by omega) (by rw [E43, N44]; first | done | omega) (by rw [E43]; first | done | omega)) ?_
          simp only [E43, E45]
          clear E43 N44 E45 N46
          have W47 : nb_Lay (nb_wr (nb_wr M37 607 (161 + 3 * (M.1 607 7) + 2) x23) 607 7 (nb_add (M37.1 607 7) 1)) := W42.wr (fun w => (nb_nnum (by decide) (by decide)))
          refine nb_Gr ?_
          refine nb_Wg (q_m_saysLine_16 _ _ _ _) ?_
          refine nb_Gs ?_
          exact nb_Hu H W47
        · have H := nb_Hw ((nb_Hu H).2 (by omega))
          have c48 : M33.1 603 13 ≠ 0 := by omega
          refine nb_Gr ?_
          refine nb_Wg (q_m_saysLine_12 _ _ _ _) ?_
          refine nb_Gs ?_
          exact nb_Hu H W34
      · have H := nb_Hw ((nb_Hu H).2 (by omega))
        have c62 : x23 ≠ M24.1 607 (161 + 3 * (M.1 607 7) + 1) := by omega
        refine nb_Gr ?_
        have E49 : nb_rd M24 603 13 = M24.1 603 13 := nb_rd_1 _ _ _
        refine nb_Wg (q_m_saysLine_11 _ _ _ _ (by omega)) ?_
        simp only [E49]
        clear E49
        refine nb_Gt (by omega) ?_
        refine nb_Gr ?_
        refine nb_Wg (q_m_saysLine_13 _ _ _ _ (by omega)) ?_
        refine nb_Gb ?_
        refine nb_W.imp (nb_Hu H) (fun r M51 H => ?_)
        obtain ⟨rfl, W52, H⟩ := H
        replace H := nb_Hw H
        show nb_W 113 14 [(20, 603), (0, 161 + 3 * (M.1 607 7)), (0, x23)] [] M51 _
        have E53 : nb_rd M51 603 16 = 607 := W52.m16
        have E54 : nb_add (161 + 3 * (M.1 607 7)) 2 = 161 + 3 * (M.1 607 7) + 2 := nb_add_eq (by omega) (by omega)
        have N55 : nb_ln M51 607 = 347 := W52.lk (by decide) (by decide +kernel)
        refine nb_Wg (q_m_saysLine_14 _ _ _ _ (by omega) (by rw [E53]; first | done | omega) (by rw [E53]; first | done | omega) (by rw [E54]; first | done | omega) (by rw [E54, E53, N55]; first | done | omega)) ?_
        simp only [E53, E54]
        clear E53 E54 N55
        have W56 : nb_Lay (nb_wr M51 607 (161 + 3 * (M.1 607 7) + 2) x23) := W52.wr (fun w => (nb_nnum (by decide) (by decide)))
        refine nb_Gr ?_
        have E57 : nb_rd (nb_wr M51 607 (161 + 3 * (M.1 607 7) + 2) x23) 603 16 = 607 := W56.m16
        have N58 : nb_ln (nb_wr M51 607 (161 + 3 * (M.1 607 7) + 2) x23) 607 = 347 := W56.lk (by decide) (by decide +kernel)
        have E59 : nb_rd (nb_wr M51 607 (161 + 3 * (M.1 607 7) + 2) x23) 607 7 = M51.1 607 7 := nb_rdw (Or.inr (by omega)) (nb_rd_1 _ _ _)
        have N60 : nb_ln (nb_wr M51 607 (161 + 3 * (M.1 607 7) + 2) x23) 607 = 347 := W56.lk (by decide) (by decide +kernel)
        refine nb_Wg (q_m_saysLine_15 _ _ _ _ (by omega) (by rw [E57]; first | done | omega) (by omega) (by rw [E57, N58]; first | done | omega) (by rw [E57]; first | done | omega)) ?_
        simp only [E57, E59]
        clear E57 N58 E59 N60
        have W61 : nb_Lay (nb_wr (nb_wr M51 607 (161 + 3 * (M.1 607 7) + 2) x23) 607 7 (nb_add (M51.1 607 7) 1)) := W56.wr (fun w => (nb_nnum (by decide) (by decide)))
        refine nb_Gr ?_
        refine nb_Wg (q_m_saysLine_16 _ _ _ _) ?_
        refine nb_Gs ?_
        exact nb_Hu H W61
    · have H := nb_Hw ((nb_Hu H).2 (by omega))
      have c64 : M24.1 603 13 ≠ 0 := by omega
      refine nb_Gr ?_
      have E63 : nb_rd M24 603 13 = M24.1 603 13 := nb_rd_1 _ _ _
      refine nb_Wg (q_m_saysLine_11 _ _ _ _ (by omega)) ?_
      simp only [E63]
      clear E63
      refine nb_Gf (by omega) ?_
      refine nb_Gr ?_
      refine nb_Wg (q_m_saysLine_12 _ _ _ _) ?_
      refine nb_Gs ?_
      exact nb_Hu H W25
  · have H := nb_Hw ((nb_Hu H).2 (by omega))
    have c65 : M.1 603 13 ≠ 0 := by omega
    refine nb_Gr ?_
    refine nb_Wg (q_m_saysLine_1 _ _ _ _) ?_
    refine nb_Gs ?_
    exact nb_Hu H W

