/-! rules, printed by wip/gen -/
theorem w_m_nextToken_0 {v1 v2 v3 : nb_V} {M : nb_M} {Q : List nb_V → nb_M → Prop} (W : nb_Lay M) (H : nb_W 91 1 [(20, 603), (0, M.1 603 5), v2, v3] [] M Q) :
    nb_W 91 0 [(20, 603), v1, v2, v3] [] M Q := by
  replace H := nb_Hw H
  have E1 : nb_rd M 603 5 = M.1 603 5 := nb_rd_1 _ _ _
  refine nb_Wg (q_m_nextToken_0 _ _ _ _ _ (by omega)) ?_
  simp only [E1]
  clear E1
  refine nb_Gr ?_
  exact nb_Hu H

theorem w_m_nextToken_1 {l1 : Int} {v2 v3 : nb_V} {M : nb_M} {Q : List nb_V → nb_M → Prop} (W : nb_Lay M)  (b0_ : 0 ≤ l1 ∧ l1 ≤ 1000) (H : (l1 < M.1 603 3 → 0 ≤ l1 ∧ l1 < 1000 ∧ (M.1 604 l1 = 32 → nb_W 91 1 [(20, 603), (0, l1 + 1), v2, v3] [] M Q) ∧ (M.1 604 l1 ≠ 32 → (M.1 604 l1 = (-1) → (nb_Lay (nb_wr (nb_wr (nb_wr (nb_wr (nb_wr M 603 4 l1) 603 8 0) 603 7 0) 603 6 0) 603 5 l1) → Q [] (nb_wr (nb_wr (nb_wr (nb_wr (nb_wr M 603 4 l1) 603 8 0) 603 7 0) 603 6 0) 603 5 l1))) ∧ (M.1 604 l1 ≠ (-1) → (M.1 604 l1 < 97 → (M.1 604 l1 < 48 → (M.1 604 l1 = 44 → (nb_Lay (nb_wr (nb_wr (nb_wr (nb_wr (nb_wr M 603 4 l1) 603 8 0) 603 7 0) 603 5 (l1 + 1)) 603 6 (M.1 604 l1)) → Q [] (nb_wr (nb_wr (nb_wr (nb_wr (nb_wr M 603 4 l1) 603 8 0) 603 7 0) 603 5 (l1 + 1)) 603 6 (M.1 604 l1)))) ∧ (M.1 604 l1 ≠ 44 → (nb_Lay (nb_wr (nb_wr (nb_wr (nb_wr (nb_wr M 603 4 l1) 603 8 0) 603 7 0) 603 5 (l1 + 1)) 603 6 1) → Q [] (nb_wr (nb_wr (nb_wr (nb_wr (nb_wr M 603 4 l1) 603 8 0) 603 7 0) 603 5 (l1 + 1)) 603 6 1)))) ∧ (48 ≤ M.1 604 l1 → (57 < M.1 604 l1 → (M.1 604 l1 = 59 → (nb_Lay (nb_wr (nb_wr (nb_wr (nb_wr (nb_wr M 603 4 l1) 603 8 0) 603 7 0) 603 5 (l1 + 1)) 603 6 (M.1 604 l1)) → Q [] (nb_wr (nb_wr (nb_wr (nb_wr (nb_wr M 603 4 l1) 603 8 0) 603 7 0) 603 5 (l1 + 1)) 603 6 (M.1 604 l1)))) ∧ (M.1 604 l1 ≠ 59 → (nb_Lay (nb_wr (nb_wr (nb_wr (nb_wr (nb_wr M 603 4 l1) 603 8 0) 603 7 0) 603 5 (l1 + 1)) 603 6 1) → Q [] (nb_wr (nb_wr (nb_wr (nb_wr (nb_wr M 603 4 l1) 603 8 0) 603 7 0) 603 5 (l1 + 1)) 603 6 1)))) ∧ (M.1 604 l1 ≤ 57 → nb_W 91 31 [(20, 603), (0, l1), nb_clr ((0, M.1 604 l1)), (0, 0)] [] (nb_wr (nb_wr (nb_wr M 603 4 l1) 603 8 0) 603 7 0) Q))) ∧ (97 ≤ M.1 604 l1 → (122 < M.1 604 l1 → (nb_Lay (nb_wr (nb_wr (nb_wr (nb_wr (nb_wr M 603 4 l1) 603 8 0) 603 7 0) 603 5 (l1 + 1)) 603 6 1) → Q [] (nb_wr (nb_wr (nb_wr (nb_wr (nb_wr M 603 4 l1) 603 8 0) 603 7 0) 603 5 (l1 + 1)) 603 6 1))) ∧ (M.1 604 l1 ≤ 122 → nb_W 91 14 [(20, 603), (0, l1), (0, M.1 604 l1), v3] [] (nb_wr (nb_wr (nb_wr M 603 4 l1) 603 8 0) 603 7 0) Q))))) ∧ (M.1 603 3 ≤ l1 → (nb_Lay (nb_wr (nb_wr (nb_wr (nb_wr (nb_wr M 603 4 l1) 603 8 0) 603 7 0) 603 6 0) 603 5 l1) → Q [] (nb_wr (nb_wr (nb_wr (nb_wr (nb_wr M 603 4 l1) 603 8 0) 603 7 0) 603 6 0) 603 5 l1)))) :
    nb_W 91 1 [(20, 603), (0, l1), v2, v3] [] M Q := by
  replace H := nb_Hw H
  refine nb_Wg (q_m_nextToken_1 _ _ _ _ _ (by omega)) ?_
  refine nb_Gb ?_
  have E1 : nb_rd M 603 3 = M.1 603 3 := nb_rd_1 _ _ _
  refine nb_Wg (q_m_seen_0 _ _ _ (by omega)) ?_
  simp only [E1]
  clear E1
  refine nb_Gi (fun c47 => ?_) (fun c47 => ?_)
  · have H := nb_Hw ((nb_Hu H).1 c47)
    refine nb_Gr ?_
    obtain ⟨p0_, p1_, H⟩ := H
    replace H := nb_Hw H
    have E2 : nb_rd M 603 1 = 604 := W.m1
    have N3 : nb_ln M 604 = 1000 := W.lk (by decide) (by decide +kernel)
    have E4 : nb_rd M 604 l1 = M.1 604 l1 := nb_rd_1 _ _ _
    refine nb_Wg (q_m_seen_1 _ _ _ (by omega) (by rw [E2]; first | done | omega) (by omega) (by rw [E2, N3]; first | done | omega)) ?_
    simp only [E2, E4]
    clear E2 N3 E4
    refine nb_Gr ?_
    refine nb_Wg (q_m_seen_3 _ _ _ _) ?_
    refine nb_Gs ?_
    show nb_W 91 2 [(20, 603), (0, l1), v2, v3] [(0, M.1 604 l1)] M _
    refine nb_Wg (q_m_nextToken_2 _ _ _ _ _ _) ?_
    refine nb_Gi (fun c40 => ?_) (fun c40 => ?_)
    · have H := nb_Hw ((nb_Hu H).1 c40)
      refine nb_Gr ?_
      have E5 : nb_add l1 1 = l1 + 1 := nb_add_eq (by omega) (by omega)
      refine nb_Wg (q_m_nextToken_3 _ _ _ _ _) ?_
      simp only [E5]
      clear E5
      refine nb_Gr ?_
      exact nb_Hu H
    · have H := nb_Hw ((nb_Hu H).2 (by omega))
      have c40 : M.1 604 l1 ≠ 32 := by omega
      refine nb_Gr ?_
      refine nb_Wg (q_m_nextToken_4 _ _ _ _ _ (by omega)) ?_
      have W6 : nb_Lay (nb_wr M 603 4 l1) := W.wr (fun w => (nb_nlit (by decide) (by decide)))
      refine nb_Gr ?_
      refine nb_Wg (q_m_nextToken_5 _ _ _ _ _ (by omega)) ?_
      refine nb_Gb ?_
      have E7 : nb_rd (nb_wr M 603 4 l1) 603 3 = M.1 603 3 := nb_rdw (Or.inr (by decide)) (nb_rd_1 _ _ _)
      refine nb_Wg (q_m_seen_0 _ _ _ (by omega)) ?_
      simp only [E7]
      clear E7
      refine nb_Gt (by omega) ?_
      refine nb_Gr ?_
      have E8 : nb_rd (nb_wr M 603 4 l1) 603 1 = 604 := W6.m1
      have N9 : nb_ln (nb_wr M 603 4 l1) 604 = 1000 := W6.lk (by decide) (by decide +kernel)
      have E10 : nb_rd (nb_wr M 603 4 l1) 604 l1 = M.1 604 l1 := nb_rdw (Or.inl (by decide)) (nb_rd_1 _ _ _)
      refine nb_Wg (q_m_seen_1 _ _ _ (by omega) (by rw [E8]; first | done | omega) (by omega) (by rw [E8, N9]; first | done | omega)) ?_
      simp only [E8, E10]
      clear E8 N9 E10
      refine nb_Gr ?_
      refine nb_Wg (q_m_seen_3 _ _ _ _) ?_
      refine nb_Gs ?_
      show nb_W 91 6 [(20, 603), (0, l1), v2, v3] [(0, M.1 604 l1)] (nb_wr M 603 4 l1) _
      refine nb_Wg (q_m_nextToken_6 _ _ _ _ _ _ (by omega)) ?_
      have W11 : nb_Lay (nb_wr (nb_wr M 603 4 l1) 603 8 0) := W6.wr (fun w => (nb_nlit (by decide) (by decide)))
      refine nb_Gr ?_
      refine nb_Wg (q_m_nextToken_7 _ _ _ _ _ (by omega)) ?_
      have W12 : nb_Lay (nb_wr (nb_wr (nb_wr M 603 4 l1) 603 8 0) 603 7 0) := W11.wr (fun w => (nb_nlit (by decide) (by decide)))
      refine nb_Gr ?_
      refine nb_Wg (q_m_nextToken_8 _ _ _ _ _) ?_
      refine nb_Gi (fun c39 => ?_) (fun c39 => ?_)
      · have H := nb_Hw ((nb_Hu H).1 c39)
        refine nb_Gr ?_
        refine nb_Wg (q_m_nextToken_9 _ _ _ _ _ (by omega)) ?_
        have W13 : nb_Lay (nb_wr (nb_wr (nb_wr (nb_wr M 603 4 l1) 603 8 0) 603 7 0) 603 6 0) := W12.wr (fun w => (nb_nlit (by decide) (by decide)))
        refine nb_Gr ?_
        refine nb_Wg (q_m_nextToken_10 _ _ _ _ _ (by omega)) ?_
        have W14 : nb_Lay (nb_wr (nb_wr (nb_wr (nb_wr (nb_wr M 603 4 l1) 603 8 0) 603 7 0) 603 6 0) 603 5 l1) := W13.wr (fun w => (nb_nlit (by decide) (by decide)))
        refine nb_Gr ?_
        refine nb_Wg (q_m_nextToken_11 _ _ _ _ _) ?_
        refine nb_Gr ?_
        refine nb_Wg (q_m_nextToken_50 _ _ _ _ _) ?_
        refine nb_Gs ?_
        exact nb_Hu H W14
      · have H := nb_Hw ((nb_Hu H).2 (by omega))
        have c39 : M.1 604 l1 ≠ (-1) := by omega
        refine nb_Gr ?_
        refine nb_Wg (q_m_nextToken_12 _ _ _ _ _) ?_
        refine nb_Gb ?_
        refine nb_Wg (q_m_isSmall_0 _ _) ?_
        refine nb_Gi (fun c38 => ?_) (fun c38 => ?_)
        · have H := nb_Hw ((nb_Hu H).1 c38)
          refine nb_Gr ?_
          refine nb_Wg (q_m_isSmall_3 _ _) ?_
          refine nb_Gr ?_
          have E15 : nb_i2z 0 = 0 := by decide
          refine nb_Wg (q_m_isSmall_4 _ _ _) ?_
          simp only [E15]
          clear E15
          refine nb_Gs ?_
          show nb_W 91 13 [(20, 603), (0, l1), (0, M.1 604 l1), v3] [(0, 0)] (nb_wr (nb_wr (nb_wr M 603 4 l1) 603 8 0) 603 7 0) _
          refine nb_Wg (q_m_nextToken_13 _ _ _ _ _ _) ?_
          refine nb_Gt (by decide) ?_
          refine nb_Gr ?_
          refine nb_Wg (q_m_nextToken_28 _ _ _ _ _) ?_
          refine nb_Gb ?_
          refine nb_Wg (q_m_isDigit_0 _ _) ?_
          refine nb_Gi (fun c30 => ?_) (fun c30 => ?_)
          · have H := nb_Hw ((nb_Hu H).1 c30)
            refine nb_Gr ?_
            refine nb_Wg (q_m_isDigit_3 _ _) ?_
            refine nb_Gr ?_
            have E16 : nb_i2z 0 = 0 := by decide
            refine nb_Wg (q_m_isDigit_4 _ _ _) ?_
            simp only [E16]
            clear E16
            refine nb_Gs ?_
            show nb_W 91 29 [(20, 603), (0, l1), (0, M.1 604 l1), v3] [(0, 0)] (nb_wr (nb_wr (nb_wr M 603 4 l1) 603 8 0) 603 7 0) _
            refine nb_Wg (q_m_nextToken_29 _ _ _ _ _ _) ?_
            refine nb_Gt (by decide) ?_
            refine nb_Gr ?_
            have E17 : nb_add l1 1 = l1 + 1 := nb_add_eq (by omega) (by omega)
            refine nb_Wg (q_m_nextToken_44 _ _ _ _ _ (by omega)) ?_
            simp only [E17]
            clear E17
            have W18 : nb_Lay (nb_wr (nb_wr (nb_wr (nb_wr M 603 4 l1) 603 8 0) 603 7 0) 603 5 (l1 + 1)) := W12.wr (fun w => (nb_nlit (by decide) (by decide)))
            refine nb_Gr ?_
            refine nb_Wg (q_m_nextToken_45 _ _ _ _ _) ?_
            refine nb_Gf (by omega) ?_
            refine nb_Gr ?_
            refine nb_Wg (q_m_nextToken_46 _ _ _ _ _ _) ?_
            refine nb_Gi (fun c21 => ?_) (fun c21 => ?_)
            · have H := nb_Hw ((nb_Hu H).1 c21)
              refine nb_Gr ?_
              refine nb_Wg (q_m_nextToken_47 _ _ _ _ _ _) ?_
              refine nb_Gr ?_
              refine nb_Wg (q_m_nextToken_49 _ _ _ _ _ _ _ (by omega)) ?_
              have W19 : nb_Lay (nb_wr (nb_wr (nb_wr (nb_wr (nb_wr M 603 4 l1) 603 8 0) 603 7 0) 603 5 (l1 + 1)) 603 6 (M.1 604 l1)) := W18.wr (fun w => (nb_nlit (by decide) (by decide)))
              refine nb_Gr ?_
              refine nb_Wg (q_m_nextToken_50 _ _ _ _ _) ?_
              refine nb_Gs ?_
              exact nb_Hu H W19
            · have H := nb_Hw ((nb_Hu H).2 (by omega))
              have c21 : M.1 604 l1 ≠ 44 := by omega
              refine nb_Gr ?_
              refine nb_Wg (q_m_nextToken_48 _ _ _ _ _ _) ?_
              refine nb_Gr ?_
              refine nb_Wg (q_m_nextToken_49 _ _ _ _ _ _ _ (by omega)) ?_
              have W20 : nb_Lay (nb_wr (nb_wr (nb_wr (nb_wr (nb_wr M 603 4 l1) 603 8 0) 603 7 0) 603 5 (l1 + 1)) 603 6 1) := W18.wr (fun w => (nb_nlit (by decide) (by decide)))
              refine nb_Gr ?_
              refine nb_Wg (q_m_nextToken_50 _ _ _ _ _) ?_
              refine nb_Gs ?_
              exact nb_Hu H W20
          · have H := nb_Hw ((nb_Hu H).2 (by omega))
            have c30 : 48 ≤ M.1 604 l1 := by omega
            refine nb_Gr ?_
            refine nb_Wg (q_m_isDigit_1 _ _) ?_
            refine nb_Gi (fun c29 => ?_) (fun c29 => ?_)
            · have H := nb_Hw ((nb_Hu H).1 c29)
              refine nb_Gr ?_
              refine nb_Wg (q_m_isDigit_3 _ _) ?_
              refine nb_Gr ?_
              have E22 : nb_i2z 0 = 0 := by decide
              refine nb_Wg (q_m_isDigit_4 _ _ _) ?_
              simp only [E22]
              clear E22
              refine nb_Gs ?_
              show nb_W 91 29 [(20, 603), (0, l1), (0, M.1 604 l1), v3] [(0, 0)] (nb_wr (nb_wr (nb_wr M 603 4 l1) 603 8 0) 603 7 0) _
              refine nb_Wg (q_m_nextToken_29 _ _ _ _ _ _) ?_
              refine nb_Gt (by decide) ?_
              refine nb_Gr ?_
              have E23 : nb_add l1 1 = l1 + 1 := nb_add_eq (by omega) (by omega)
              refine nb_Wg (q_m_nextToken_44 _ _ _ _ _ (by omega)) ?_
              simp only [E23]
              clear E23
              have W24 : nb_Lay (nb_wr (nb_wr (nb_wr (nb_wr M 603 4 l1) 603 8 0) 603 7 0) 603 5 (l1 + 1)) := W12.wr (fun w => (nb_nlit (by decide) (by decide)))
              refine nb_Gr ?_
              refine nb_Wg (q_m_nextToken_45 _ _ _ _ _) ?_
              refine nb_Gi (fun c27 => ?_) (fun c27 => ?_)
              · have H := nb_Hw ((nb_Hu H).1 c27)
                refine nb_Gr ?_
                refine nb_Wg (q_m_nextToken_47 _ _ _ _ _ _) ?_
                refine nb_Gr ?_
                refine nb_Wg (q_m_nextToken_49 _ _ _ _ _ _ _ (by omega)) ?_
                have W25 : nb_Lay (nb_wr (nb_wr (nb_wr (nb_wr (nb_wr M 603 4 l1) 603 8 0) 603 7 0) 603 5 (l1 + 1)) 603 6 (M.1 604 l1)) := W24.wr (fun w => (nb_nlit (by decide) (by decide)))
                refine nb_Gr ?_
                refine nb_Wg (q_m_nextToken_50 _ _ _ _ _) ?_
                refine nb_Gs ?_
                exact nb_Hu H W25
              · have H := nb_Hw ((nb_Hu H).2 (by omega))
                have c27 : M.1 604 l1 ≠ 59 := by omega
                refine nb_Gr ?_
                refine nb_Wg (q_m_nextToken_46 _ _ _ _ _ _) ?_
                refine nb_Gf (by omega) ?_
                refine nb_Gr ?_
                refine nb_Wg (q_m_nextToken_48 _ _ _ _ _ _) ?_
                refine nb_Gr ?_
                refine nb_Wg (q_m_nextToken_49 _ _ _ _ _ _ _ (by omega)) ?_
                have W26 : nb_Lay (nb_wr (nb_wr (nb_wr (nb_wr (nb_wr M 603 4 l1) 603 8 0) 603 7 0) 603 5 (l1 + 1)) 603 6 1) := W24.wr (fun w => (nb_nlit (by decide) (by decide)))
                refine nb_Gr ?_
                refine nb_Wg (q_m_nextToken_50 _ _ _ _ _) ?_
                refine nb_Gs ?_
                exact nb_Hu H W26
            · have H := nb_Hw ((nb_Hu H).2 (by omega))
              have c29 : M.1 604 l1 ≤ 57 := by omega
              refine nb_Gr ?_
              refine nb_Wg (q_m_isDigit_2 _ _) ?_
              refine nb_Gr ?_
              have E28 : nb_i2z 1 = 1 := by decide
              refine nb_Wg (q_m_isDigit_4 _ _ _) ?_
              simp only [E28]
              clear E28
              refine nb_Gs ?_
              show nb_W 91 29 [(20, 603), (0, l1), (0, M.1 604 l1), v3] [(0, 1)] (nb_wr (nb_wr (nb_wr M 603 4 l1) 603 8 0) 603 7 0) _
              refine nb_Wg (q_m_nextToken_29 _ _ _ _ _ _) ?_
              refine nb_Gf (by decide) ?_
              refine nb_Gr ?_
              refine nb_Wg (q_m_nextToken_30 _ _ _ _ _) ?_
              refine nb_Gr ?_
              exact nb_Hu H
        · have H := nb_Hw ((nb_Hu H).2 (by omega))
          have c38 : 97 ≤ M.1 604 l1 := by omega
          refine nb_Gr ?_
          refine nb_Wg (q_m_isSmall_1 _ _) ?_
          refine nb_Gi (fun c37 => ?_) (fun c37 => ?_)
          · have H := nb_Hw ((nb_Hu H).1 c37)
            refine nb_Gr ?_
            refine nb_Wg (q_m_isSmall_3 _ _) ?_
            refine nb_Gr ?_
            have E31 : nb_i2z 0 = 0 := by decide
            refine nb_Wg (q_m_isSmall_4 _ _ _) ?_
            simp only [E31]
            clear E31
            refine nb_Gs ?_
            show nb_W 91 13 [(20, 603), (0, l1), (0, M.1 604 l1), v3] [(0, 0)] (nb_wr (nb_wr (nb_wr M 603 4 l1) 603 8 0) 603 7 0) _
            refine nb_Wg (q_m_nextToken_13 _ _ _ _ _ _) ?_
            refine nb_Gt (by decide) ?_
            refine nb_Gr ?_
            refine nb_Wg (q_m_nextToken_28 _ _ _ _ _) ?_
            refine nb_Gb ?_
            refine nb_Wg (q_m_isDigit_0 _ _) ?_
            refine nb_Gf (by omega) ?_
            refine nb_Gr ?_
            refine nb_Wg (q_m_isDigit_1 _ _) ?_
            refine nb_Gt (by omega) ?_
            refine nb_Gr ?_
            refine nb_Wg (q_m_isDigit_3 _ _) ?_
            refine nb_Gr ?_
            have E32 : nb_i2z 0 = 0 := by decide
            refine nb_Wg (q_m_isDigit_4 _ _ _) ?_
            simp only [E32]
            clear E32
            refine nb_Gs ?_
            show nb_W 91 29 [(20, 603), (0, l1), (0, M.1 604 l1), v3] [(0, 0)] (nb_wr (nb_wr (nb_wr M 603 4 l1) 603 8 0) 603 7 0) _
            refine nb_Wg (q_m_nextToken_29 _ _ _ _ _ _) ?_
            refine nb_Gt (by decide) ?_
            refine nb_Gr ?_
            have E33 : nb_add l1 1 = l1 + 1 := nb_add_eq (by omega) (by omega)
            refine nb_Wg (q_m_nextToken_44 _ _ _ _ _ (by omega)) ?_
            simp only [E33]
            clear E33
            have W34 : nb_Lay (nb_wr (nb_wr (nb_wr (nb_wr M 603 4 l1) 603 8 0) 603 7 0) 603 5 (l1 + 1)) := W12.wr (fun w => (nb_nlit (by decide) (by decide)))
            refine nb_Gr ?_
            refine nb_Wg (q_m_nextToken_45 _ _ _ _ _) ?_
            refine nb_Gf (by omega) ?_
            refine nb_Gr ?_
            refine nb_Wg (q_m_nextToken_46 _ _ _ _ _ _) ?_
            refine nb_Gf (by omega) ?_
            refine nb_Gr ?_
            refine nb_Wg (q_m_nextToken_48 _ _ _ _ _ _) ?_
            refine nb_Gr ?_
            refine nb_Wg (q_m_nextToken_49 _ _ _ _ _ _ _ (by omega)) ?_
            have W35 : nb_Lay (nb_wr (nb_wr (nb_wr (nb_wr (nb_wr M 603 4 l1) 603 8 0) 603 7 0) 603 5 (l1 + 1)) 603 6 1) := W34.wr (fun w => (nb_nlit (by decide) (by decide)))
            refine nb_Gr ?_
            refine nb_Wg (q_m_nextToken_50 _ _ _ _ _) ?_
            refine nb_Gs ?_
            exact nb_Hu H W35
          · have H := nb_Hw ((nb_Hu H).2 (by omega))
            have c37 : M.1 604 l1 ≤ 122 := by omega
            refine nb_Gr ?_
            refine nb_Wg (q_m_isSmall_2 _ _) ?_
            refine nb_Gr ?_
            have E36 : nb_i2z 1 = 1 := by decide
            refine nb_Wg (q_m_isSmall_4 _ _ _) ?_
            simp only [E36]
            clear E36
            refine nb_Gs ?_
            show nb_W 91 13 [(20, 603), (0, l1), (0, M.1 604 l1), v3] [(0, 1)] (nb_wr (nb_wr (nb_wr M 603 4 l1) 603 8 0) 603 7 0) _
            refine nb_Wg (q_m_nextToken_13 _ _ _ _ _ _) ?_
            refine nb_Gf (by decide) ?_
            refine nb_Gr ?_
            exact nb_Hu H
  · have H := nb_Hw ((nb_Hu H).2 (by omega))
    have c47 : M.1 603 3 ≤ l1 := by omega
    refine nb_Gr ?_
    refine nb_Wg (q_m_seen_2 _ _ _) ?_
    refine nb_Gr ?_
    refine nb_Wg (q_m_seen_3 _ _ _ _) ?_
    refine nb_Gs ?_
    show nb_W 91 2 [(20, 603), (0, l1), v2, v3] [(0, (-1))] M _
    refine nb_Wg (q_m_nextToken_2 _ _ _ _ _ _) ?_
    refine nb_Gf (by decide) ?_
    refine nb_Gr ?_
    refine nb_Wg (q_m_nextToken_4 _ _ _ _ _ (by omega)) ?_
    have W41 : nb_Lay (nb_wr M 603 4 l1) := W.wr (fun w => (nb_nlit (by decide) (by decide)))
    refine nb_Gr ?_
    refine nb_Wg (q_m_nextToken_5 _ _ _ _ _ (by omega)) ?_
    refine nb_Gb ?_
    have E42 : nb_rd (nb_wr M 603 4 l1) 603 3 = M.1 603 3 := nb_rdw (Or.inr (by decide)) (nb_rd_1 _ _ _)
    refine nb_Wg (q_m_seen_0 _ _ _ (by omega)) ?_
    simp only [E42]
    clear E42
    refine nb_Gf (by omega) ?_
    refine nb_Gr ?_
    refine nb_Wg (q_m_seen_2 _ _ _) ?_
    refine nb_Gr ?_
    refine nb_Wg (q_m_seen_3 _ _ _ _) ?_
    refine nb_Gs ?_
    show nb_W 91 6 [(20, 603), (0, l1), v2, v3] [(0, (-1))] (nb_wr M 603 4 l1) _
    refine nb_Wg (q_m_nextToken_6 _ _ _ _ _ _ (by omega)) ?_
    have W43 : nb_Lay (nb_wr (nb_wr M 603 4 l1) 603 8 0) := W41.wr (fun w => (nb_nlit (by decide) (by decide)))
    refine nb_Gr ?_
    refine nb_Wg (q_m_nextToken_7 _ _ _ _ _ (by omega)) ?_
    have W44 : nb_Lay (nb_wr (nb_wr (nb_wr M 603 4 l1) 603 8 0) 603 7 0) := W43.wr (fun w => (nb_nlit (by decide) (by decide)))
    refine nb_Gr ?_
    refine nb_Wg (q_m_nextToken_8 _ _ _ _ _) ?_
    refine nb_Gt (by decide) ?_
    refine nb_Gr ?_
    refine nb_Wg (q_m_nextToken_9 _ _ _ _ _ (by omega)) ?_
    have W45 : nb_Lay (nb_wr (nb_wr (nb_wr (nb_wr M 603 4 l1) 603 8 0) 603 7 0) 603 6 0) := W44.wr (fun w => (nb_nlit (by decide) (by decide)))
    refine nb_Gr ?_
    refine nb_Wg (q_m_nextToken_10 _ _ _ _ _ (by omega)) ?_
    have W46 : nb_Lay (nb_wr (nb_wr (nb_wr (nb_wr (nb_wr M 603 4 l1) 603 8 0) 603 7 0) 603 6 0) 603 5 l1) := W45.wr (fun w => (nb_nlit (by decide) (by decide)))
    refine nb_Gr ?_
    refine nb_Wg (q_m_nextToken_11 _ _ _ _ _) ?_
    refine nb_Gr ?_
    refine nb_Wg (q_m_nextToken_50 _ _ _ _ _) ?_
    refine nb_Gs ?_
    exact nb_Hu H W46

theorem w_m_nextToken_14 {l1 : Int} {v2 v3 : nb_V} {M : nb_M} {Q : List nb_V → nb_M → Prop} (W : nb_Lay M)  (b0_ : 0 ≤ l1 ∧ l1 ≤ 1000) (H : (l1 < M.1 603 3 → 0 ≤ l1 ∧ l1 < 1000 ∧ (M.1 604 l1 < 97 → (8 < M.1 603 8 → (nb_Lay (nb_wr (nb_wr M 603 5 l1) 603 6 1) → Q [] (nb_wr (nb_wr M 603 5 l1) 603 6 1))) ∧ (M.1 603 8 ≤ 8 → (nb_Lay (nb_wr (nb_wr M 603 5 l1) 603 6 2) → Q [] (nb_wr (nb_wr M 603 5 l1) 603 6 2)))) ∧ (97 ≤ M.1 604 l1 → (122 < M.1 604 l1 → (8 < M.1 603 8 → (nb_Lay (nb_wr (nb_wr M 603 5 l1) 603 6 1) → Q [] (nb_wr (nb_wr M 603 5 l1) 603 6 1))) ∧ (M.1 603 8 ≤ 8 → (nb_Lay (nb_wr (nb_wr M 603 5 l1) 603 6 2) → Q [] (nb_wr (nb_wr M 603 5 l1) 603 6 2)))) ∧ (M.1 604 l1 ≤ 122 → (M.1 603 8 < 8 → 0 ≤ M.1 603 8 ∧ nb_W 91 14 [(20, 603), (0, l1 + 1), v2, v3] [] (nb_wr (nb_wr M 605 (M.1 603 8) (M.1 604 l1)) 603 8 (nb_add (M.1 603 8) 1)) Q) ∧ (8 ≤ M.1 603 8 → nb_W 91 14 [(20, 603), (0, l1 + 1), v2, v3] [] (nb_wr M 603 8 (nb_add (M.1 603 8) 1)) Q)))) ∧ (M.1 603 3 ≤ l1 → (8 < M.1 603 8 → (nb_Lay (nb_wr (nb_wr M 603 5 l1) 603 6 1) → Q [] (nb_wr (nb_wr M 603 5 l1) 603 6 1))) ∧ (M.1 603 8 ≤ 8 → (nb_Lay (nb_wr (nb_wr M 603 5 l1) 603 6 2) → Q [] (nb_wr (nb_wr M 603 5 l1) 603 6 2))))) :
    nb_W 91 14 [(20, 603), (0, l1), v2, v3] [] M Q := by
  replace H := nb_Hw H
  refine nb_Wg (q_m_nextToken_14 _ _ _ _ _ (by omega)) ?_
  refine nb_Gb ?_
  have E1 : nb_rd M 603 3 = M.1 603 3 := nb_rd_1 _ _ _
  refine nb_Wg (q_m_seen_0 _ _ _ (by omega)) ?_
  simp only [E1]
  clear E1
  refine nb_Gi (fun c42 => ?_) (fun c42 => ?_)
  · have H := nb_Hw ((nb_Hu H).1 c42)
    refine nb_Gr ?_
    obtain ⟨p0_, p1_, H⟩ := H
    replace H := nb_Hw H
    have E2 : nb_rd M 603 1 = 604 := W.m1
    have N3 : nb_ln M 604 = 1000 := W.lk (by decide) (by decide +kernel)
    have E4 : nb_rd M 604 l1 = M.1 604 l1 := nb_rd_1 _ _ _
    refine nb_Wg (q_m_seen_1 _ _ _ (by omega) (by rw [E2]; first | done | omega) (by omega) (by rw [E2, N3]; first | done | omega)) ?_
    simp only [E2, E4]
    clear E2 N3 E4
    refine nb_Gr ?_
    refine nb_Wg (q_m_seen_3 _ _ _ _) ?_
    refine nb_Gs ?_
    show nb_W 91 15 [(20, 603), (0, l1), v2, v3] [(0, M.1 604 l1)] M _
    refine nb_Wg (q_m_nextToken_15 _ _ _ _ _ _) ?_
    refine nb_Gb ?_
    refine nb_Wg (q_m_isSmall_0 _ _) ?_
    refine nb_Gi (fun c35 => ?_) (fun c35 => ?_)
    · have H := nb_Hw ((nb_Hu H).1 c35)
      refine nb_Gr ?_
      refine nb_Wg (q_m_isSmall_3 _ _) ?_
      refine nb_Gr ?_
      have E5 : nb_i2z 0 = 0 := by decide
      refine nb_Wg (q_m_isSmall_4 _ _ _) ?_
      simp only [E5]
      clear E5
      refine nb_Gs ?_
      show nb_W 91 16 [(20, 603), (0, l1), v2, v3] [(0, 0)] M _
      refine nb_Wg (q_m_nextToken_16 _ _ _ _ _ _) ?_
      refine nb_Gt (by decide) ?_
      refine nb_Gr ?_
      refine nb_Wg (q_m_nextToken_22 _ _ _ _ _ (by omega)) ?_
      have W6 : nb_Lay (nb_wr M 603 5 l1) := W.wr (fun w => (nb_nlit (by decide) (by decide)))
      refine nb_Gr ?_
      have E7 : nb_rd (nb_wr M 603 5 l1) 603 8 = M.1 603 8 := nb_rdw (Or.inr (by decide)) (nb_rd_1 _ _ _)
      refine nb_Wg (q_m_nextToken_23 _ _ _ _ _ (by omega)) ?_
      simp only [E7]
      clear E7
      refine nb_Gi (fun c10 => ?_) (fun c10 => ?_)
      · have H := nb_Hw ((nb_Hu H).1 c10)
        refine nb_Gr ?_
        refine nb_Wg (q_m_nextToken_24 _ _ _ _ _ _) ?_
        refine nb_Gr ?_
        refine nb_Wg (q_m_nextToken_26 _ _ _ _ _ _ _ (by omega)) ?_
        have W8 : nb_Lay (nb_wr (nb_wr M 603 5 l1) 603 6 1) := W6.wr (fun w => (nb_nlit (by decide) (by decide)))
        refine nb_Gr ?_
        refine nb_Wg (q_m_nextToken_27 _ _ _ _ _) ?_
        refine nb_Gr ?_
        refine nb_Wg (q_m_nextToken_50 _ _ _ _ _) ?_
        refine nb_Gs ?_
        exact nb_Hu H W8
      · have H := nb_Hw ((nb_Hu H).2 (by omega))
        have c10 : M.1 603 8 ≤ 8 := by omega
        refine nb_Gr ?_
        refine nb_Wg (q_m_nextToken_25 _ _ _ _ _ _) ?_
        refine nb_Gr ?_
        refine nb_Wg (q_m_nextToken_26 _ _ _ _ _ _ _ (by omega)) ?_
        have W9 : nb_Lay (nb_wr (nb_wr M 603 5 l1) 603 6 2) := W6.wr (fun w => (nb_nlit (by decide) (by decide)))
        refine nb_Gr ?_
        refine nb_Wg (q_m_nextToken_27 _ _ _ _ _) ?_
        refine nb_Gr ?_
        refine nb_Wg (q_m_nextToken_50 _ _ _ _ _) ?_
        refine nb_Gs ?_
        exact nb_Hu H W9
    · have H := nb_Hw ((nb_Hu H).2 (by omega))
      have c35 : 97 ≤ M.1 604 l1 := by omega
      refine nb_Gr ?_
      refine nb_Wg (q_m_isSmall_1 _ _) ?_
      refine nb_Gi (fun c34 => ?_) (fun c34 => ?_)
      · have H := nb_Hw ((nb_Hu H).1 c34)
        refine nb_Gr ?_
        refine nb_Wg (q_m_isSmall_3 _ _) ?_
        refine nb_Gr ?_
        have E11 : nb_i2z 0 = 0 := by decide
        refine nb_Wg (q_m_isSmall_4 _ _ _) ?_
        simp only [E11]
        clear E11
        refine nb_Gs ?_
        show nb_W 91 16 [(20, 603), (0, l1), v2, v3] [(0, 0)] M _
        refine nb_Wg (q_m_nextToken_16 _ _ _ _ _ _) ?_
        refine nb_Gt (by decide) ?_
        refine nb_Gr ?_
        refine nb_Wg (q_m_nextToken_22 _ _ _ _ _ (by omega)) ?_
        have W12 : nb_Lay (nb_wr M 603 5 l1) := W.wr (fun w => (nb_nlit (by decide) (by decide)))
        refine nb_Gr ?_
        have E13 : nb_rd (nb_wr M 603 5 l1) 603 8 = M.1 603 8 := nb_rdw (Or.inr (by decide)) (nb_rd_1 _ _ _)
        refine nb_Wg (q_m_nextToken_23 _ _ _ _ _ (by omega)) ?_
        simp only [E13]
        clear E13
        refine nb_Gi (fun c16 => ?_) (fun c16 => ?_)
        · have H := nb_Hw ((nb_Hu H).1 c16)
          refine nb_Gr ?_
          refine nb_Wg (q_m_nextToken_24 _ _ _ _ _ _) ?_
          refine nb_Gr ?_
          refine nb_Wg (q_m_nextToken_26 _ _ _ _ _ _ _ (by omega)) ?_
          have W14 : nb_Lay (nb_wr (nb_wr M 603 5 l1) 603 6 1) := W12.wr (fun w => (nb_nlit (by decide) (by decide)))
          refine nb_Gr ?_
          refine nb_Wg (q_m_nextToken_27 _ _ _ _ _) ?_
          refine nb_Gr ?_
          refine nb_Wg (q_m_nextToken_50 _ _ _ _ _) ?_
          refine nb_Gs ?_
          exact nb_Hu H W14
        · have H := nb_Hw ((nb_Hu H).2 (by omega))
          have c16 : M.1 603 8 ≤ 8 := by omega
          refine nb_Gr ?_
          refine nb_Wg (q_m_nextToken_25 _ _ _ _ _ _) ?_
          refine nb_Gr ?_
          refine nb_Wg (q_m_nextToken_26 _ _ _ _ _ _ _ (by omega)) ?_
          have W15 : nb_Lay (nb_wr (nb_wr M 603 5 l1) 603 6 2) := W12.wr (fun w => (nb_nlit (by decide) (by decide)))
          refine nb_Gr ?_
          refine nb_Wg (q_m_nextToken_27 _ _ _ _ _) ?_
          refine nb_Gr ?_
          refine nb_Wg (q_m_nextToken_50 _ _ _ _ _) ?_
          refine nb_Gs ?_
          exact nb_Hu H W15
      · have H := nb_Hw ((nb_Hu H).2 (by omega))
        have c34 : M.1 604 l1 ≤ 122 := by omega
        refine nb_Gr ?_
        refine nb_Wg (q_m_isSmall_2 _ _) ?_
        refine nb_Gr ?_
        have E17 : nb_i2z 1 = 1 := by decide
        refine nb_Wg (q_m_isSmall_4 _ _ _) ?_
        simp only [E17]
        clear E17
        refine nb_Gs ?_
        show nb_W 91 16 [(20, 603), (0, l1), v2, v3] [(0, 1)] M _
        refine nb_Wg (q_m_nextToken_16 _ _ _ _ _ _) ?_
        refine nb_Gf (by decide) ?_
        refine nb_Gr ?_
        have E18 : nb_rd M 603 8 = M.1 603 8 := nb_rd_1 _ _ _
        refine nb_Wg (q_m_nextToken_17 _ _ _ _ _ (by omega)) ?_
        simp only [E18]
        clear E18
        refine nb_Gi (fun c33 => ?_) (fun c33 => ?_)
        · have H := nb_Hw ((nb_Hu H).1 c33)
          refine nb_Gr ?_
          have E19 : nb_rd M 603 12 = 605 := W.m12
          have E20 : nb_rd M 603 8 = M.1 603 8 := nb_rd_1 _ _ _
          refine nb_Wg (q_m_nextToken_18 _ _ _ _ _ (by omega)) ?_
          simp only [E19, E20]
          clear E19 E20
          refine nb_Gb ?_
          have E21 : nb_rd M 603 3 = M.1 603 3 := nb_rd_1 _ _ _
          refine nb_Wg (q_m_seen_0 _ _ _ (by omega)) ?_
          simp only [E21]
          clear E21
          refine nb_Gt (by omega) ?_
          refine nb_Gr ?_
          have E22 : nb_rd M 603 1 = 604 := W.m1
          have N23 : nb_ln M 604 = 1000 := W.lk (by decide) (by decide +kernel)
          have E24 : nb_rd M 604 l1 = M.1 604 l1 := nb_rd_1 _ _ _
          refine nb_Wg (q_m_seen_1 _ _ _ (by omega) (by rw [E22]; first | done | omega) (by omega) (by rw [E22, N23]; first | done | omega)) ?_
          simp only [E22, E24]
          clear E22 N23 E24
          refine nb_Gr ?_
          refine nb_Wg (q_m_seen_3 _ _ _ _) ?_
          refine nb_Gs ?_
          show nb_W 91 19 [(20, 603), (0, l1), v2, v3] [(0, M.1 604 l1), (0, M.1 603 8), (3, 605)] M _
          obtain ⟨p0_, H⟩ := H
          replace H := nb_Hw H
          have N25 : nb_ln M 605 = 8 := W.lk (by decide) (by decide +kernel)
          refine nb_Wg (q_m_nextToken_19 _ _ _ _ _ _ _ _ (by omega) (by omega) (by omega) (by rw [N25]; first | done | omega)) ?_
          clear N25
          have W26 : nb_Lay (nb_wr M 605 (M.1 603 8) (M.1 604 l1)) := W.wr (fun w => (nb_nnum (by decide) (by decide)))
          refine nb_Gr ?_
          have E27 : nb_rd (nb_wr M 605 (M.1 603 8) (M.1 604 l1)) 603 8 = M.1 603 8 := nb_rdw (Or.inl (by decide)) (nb_rd_1 _ _ _)
          refine nb_Wg (q_m_nextToken_20 _ _ _ _ _ (by omega)) ?_
          simp only [E27]
          clear E27
          have W28 : nb_Lay (nb_wr (nb_wr M 605 (M.1 603 8) (M.1 604 l1)) 603 8 (nb_add (M.1 603 8) 1)) := W26.wr (fun w => (nb_nlit (by decide) (by decide)))
          refine nb_Gr ?_
          have E29 : nb_add l1 1 = l1 + 1 := nb_add_eq (by omega) (by omega)
          refine nb_Wg (q_m_nextToken_21 _ _ _ _ _) ?_
          simp only [E29]
          clear E29
          refine nb_Gr ?_
          exact nb_Hu H
        · have H := nb_Hw ((nb_Hu H).2 (by omega))
          have c33 : 8 ≤ M.1 603 8 := by omega
          refine nb_Gr ?_
          have E30 : nb_rd M 603 8 = M.1 603 8 := nb_rd_1 _ _ _
          refine nb_Wg (q_m_nextToken_20 _ _ _ _ _ (by omega)) ?_
          simp only [E30]
          clear E30
          have W31 : nb_Lay (nb_wr M 603 8 (nb_add (M.1 603 8) 1)) := W.wr (fun w => (nb_nlit (by decide) (by decide)))
          refine nb_Gr ?_
          have E32 : nb_add l1 1 = l1 + 1 := nb_add_eq (by omega) (by omega)
          refine nb_Wg (q_m_nextToken_21 _ _ _ _ _) ?_
          simp only [E32]
          clear E32
          refine nb_Gr ?_
          exact nb_Hu H
  · have H := nb_Hw ((nb_Hu H).2 (by omega))
    have c42 : M.1 603 3 ≤ l1 := by omega
    refine nb_Gr ?_
    refine nb_Wg (q_m_seen_2 _ _ _) ?_
    refine nb_Gr ?_
    refine nb_Wg (q_m_seen_3 _ _ _ _) ?_
    refine nb_Gs ?_
    show nb_W 91 15 [(20, 603), (0, l1), v2, v3] [(0, (-1))] M _
    refine nb_Wg (q_m_nextToken_15 _ _ _ _ _ _) ?_
    refine nb_Gb ?_
    refine nb_Wg (q_m_isSmall_0 _ _) ?_
    refine nb_Gt (by decide) ?_
    refine nb_Gr ?_
    refine nb_Wg (q_m_isSmall_3 _ _) ?_
    refine nb_Gr ?_
    have E36 : nb_i2z 0 = 0 := by decide
    refine nb_Wg (q_m_isSmall_4 _ _ _) ?_
    simp only [E36]
    clear E36
    refine nb_Gs ?_
    show nb_W 91 16 [(20, 603), (0, l1), v2, v3] [(0, 0)] M _
    refine nb_Wg (q_m_nextToken_16 _ _ _ _ _ _) ?_
    refine nb_Gt (by decide) ?_
    refine nb_Gr ?_
    refine nb_Wg (q_m_nextToken_22 _ _ _ _ _ (by omega)) ?_
    have W37 : nb_Lay (nb_wr M 603 5 l1) := W.wr (fun w => (nb_nlit (by decide) (by decide)))
    refine nb_Gr ?_
    have E38 : nb_rd (nb_wr M 603 5 l1) 603 8 = M.1 603 8 := nb_rdw (Or.inr (by decide)) (nb_rd_1 _ _ _)
    refine nb_Wg (q_m_nextToken_23 _ _ _ _ _ (by omega)) ?_
    simp only [E38]
    clear E38
    refine nb_Gi (fun c41 => ?_) (fun c41 => ?_)
    · have H := nb_Hw ((nb_Hu H).1 c41)
      refine nb_Gr ?_
      refine nb_Wg (q_m_nextToken_24 _ _ _ _ _ _) ?_
      refine nb_Gr ?_
      refine nb_Wg (q_m_nextToken_26 _ _ _ _ _ _ _ (by omega)) ?_
      have W39 : nb_Lay (nb_wr (nb_wr M 603 5 l1) 603 6 1) := W37.wr (fun w => (nb_nlit (by decide) (by decide)))
      refine nb_Gr ?_
      refine nb_Wg (q_m_nextToken_27 _ _ _ _ _) ?_
      refine nb_Gr ?_
      refine nb_Wg (q_m_nextToken_50 _ _ _ _ _) ?_
      refine nb_Gs ?_
      exact nb_Hu H W39
    · have H := nb_Hw ((nb_Hu H).2 (by omega))
      have c41 : M.1 603 8 ≤ 8 := by omega
      refine nb_Gr ?_
      refine nb_Wg (q_m_nextToken_25 _ _ _ _ _ _) ?_
      refine nb_Gr ?_
      refine nb_Wg (q_m_nextToken_26 _ _ _ _ _ _ _ (by omega)) ?_
      have W40 : nb_Lay (nb_wr (nb_wr M 603 5 l1) 603 6 2) := W37.wr (fun w => (nb_nlit (by decide) (by decide)))
      refine nb_Gr ?_
      refine nb_Wg (q_m_nextToken_27 _ _ _ _ _) ?_
      refine nb_Gr ?_
      refine nb_Wg (q_m_nextToken_50 _ _ _ _ _) ?_
      refine nb_Gs ?_
      exact nb_Hu H W40

theorem w_m_nextToken_31 {l1 l3 : Int} {v2 : nb_V} {M : nb_M} {Q : List nb_V → nb_M → Prop} (W : nb_Lay M)  (b0_ : 0 ≤ l1 ∧ l1 ≤ 1000) (H : (l1 < M.1 603 3 → 0 ≤ l1 ∧ l1 < 1000 ∧ (M.1 604 l1 < 48 → (3 < l3 → (nb_Lay (nb_wr (nb_wr M 603 5 l1) 603 6 1) → Q [] (nb_wr (nb_wr M 603 5 l1) 603 6 1))) ∧ (l3 ≤ 3 → (nb_Lay (nb_wr (nb_wr M 603 5 l1) 603 6 3) → Q [] (nb_wr (nb_wr M 603 5 l1) 603 6 3)))) ∧ (48 ≤ M.1 604 l1 → (57 < M.1 604 l1 → (3 < l3 → (nb_Lay (nb_wr (nb_wr M 603 5 l1) 603 6 1) → Q [] (nb_wr (nb_wr M 603 5 l1) 603 6 1))) ∧ (l3 ≤ 3 → (nb_Lay (nb_wr (nb_wr M 603 5 l1) 603 6 3) → Q [] (nb_wr (nb_wr M 603 5 l1) 603 6 3)))) ∧ (M.1 604 l1 ≤ 57 → (l3 < 3 → nb_W 91 31 [(20, 603), (0, l1 + 1), nb_clr v2, (0, nb_add l3 1)] [] (nb_wr M 603 7 (nb_sub (nb_add (nb_mul 10 (M.1 603 7)) (M.1 604 l1)) 48)) Q) ∧ (3 ≤ l3 → nb_W 91 31 [(20, 603), (0, l1 + 1), nb_clr v2, (0, nb_add l3 1)] [] M Q)))) ∧ (M.1 603 3 ≤ l1 → (3 < l3 → (nb_Lay (nb_wr (nb_wr M 603 5 l1) 603 6 1) → Q [] (nb_wr (nb_wr M 603 5 l1) 603 6 1))) ∧ (l3 ≤ 3 → (nb_Lay (nb_wr (nb_wr M 603 5 l1) 603 6 3) → Q [] (nb_wr (nb_wr M 603 5 l1) 603 6 3))))) :
    nb_W 91 31 [(20, 603), (0, l1), v2, (0, l3)] [] M Q := by
  replace H := nb_Hw H
  refine nb_Wg (q_m_nextToken_31 _ _ _ _ _ (by omega)) ?_
  refine nb_Gb ?_
  have E1 : nb_rd M 603 3 = M.1 603 3 := nb_rd_1 _ _ _
  refine nb_Wg (q_m_seen_0 _ _ _ (by omega)) ?_
  simp only [E1]
  clear E1
  refine nb_Gi (fun c32 => ?_) (fun c32 => ?_)
  · have H := nb_Hw ((nb_Hu H).1 c32)
    refine nb_Gr ?_
    obtain ⟨p0_, p1_, H⟩ := H
    replace H := nb_Hw H
    have E2 : nb_rd M 603 1 = 604 := W.m1
    have N3 : nb_ln M 604 = 1000 := W.lk (by decide) (by decide +kernel)
    have E4 : nb_rd M 604 l1 = M.1 604 l1 := nb_rd_1 _ _ _
    refine nb_Wg (q_m_seen_1 _ _ _ (by omega) (by rw [E2]; first | done | omega) (by omega) (by rw [E2, N3]; first | done | omega)) ?_
    simp only [E2, E4]
    clear E2 N3 E4
    refine nb_Gr ?_
    refine nb_Wg (q_m_seen_3 _ _ _ _) ?_
    refine nb_Gs ?_
    show nb_W 91 32 [(20, 603), (0, l1), v2, (0, l3)] [(0, M.1 604 l1)] M _
    refine nb_Wg (q_m_nextToken_32 _ _ _ _ _ _) ?_
    refine nb_Gb ?_
    refine nb_Wg (q_m_isDigit_0 _ _) ?_
    refine nb_Gi (fun c26 => ?_) (fun c26 => ?_)
    · have H := nb_Hw ((nb_Hu H).1 c26)
      refine nb_Gr ?_
      refine nb_Wg (q_m_isDigit_3 _ _) ?_
      refine nb_Gr ?_
      have E5 : nb_i2z 0 = 0 := by decide
      refine nb_Wg (q_m_isDigit_4 _ _ _) ?_
      simp only [E5]
      clear E5
      refine nb_Gs ?_
      show nb_W 91 33 [(20, 603), (0, l1), v2, (0, l3)] [(0, 0)] M _
      refine nb_Wg (q_m_nextToken_33 _ _ _ _ _ _) ?_
      refine nb_Gt (by decide) ?_
      refine nb_Gr ?_
      refine nb_Wg (q_m_nextToken_38 _ _ _ _ _ (by omega)) ?_
      have W6 : nb_Lay (nb_wr M 603 5 l1) := W.wr (fun w => (nb_nlit (by decide) (by decide)))
      refine nb_Gr ?_
      refine nb_Wg (q_m_nextToken_39 _ _ _ _ _) ?_
      refine nb_Gi (fun c9 => ?_) (fun c9 => ?_)
      · have H := nb_Hw ((nb_Hu H).1 c9)
        refine nb_Gr ?_
        refine nb_Wg (q_m_nextToken_40 _ _ _ _ _ _) ?_
        refine nb_Gr ?_
        refine nb_Wg (q_m_nextToken_42 _ _ _ _ _ _ _ (by omega)) ?_
        have W7 : nb_Lay (nb_wr (nb_wr M 603 5 l1) 603 6 1) := W6.wr (fun w => (nb_nlit (by decide) (by decide)))
        refine nb_Gr ?_
        refine nb_Wg (q_m_nextToken_43 _ _ _ _ _) ?_
        refine nb_Gr ?_
        refine nb_Wg (q_m_nextToken_50 _ _ _ _ _) ?_
        refine nb_Gs ?_
        exact nb_Hu H W7
      · have H := nb_Hw ((nb_Hu H).2 (by omega))
        have c9 : l3 ≤ 3 := by omega
        refine nb_Gr ?_
        refine nb_Wg (q_m_nextToken_41 _ _ _ _ _ _) ?_
        refine nb_Gr ?_
        refine nb_Wg (q_m_nextToken_42 _ _ _ _ _ _ _ (by omega)) ?_
        have W8 : nb_Lay (nb_wr (nb_wr M 603 5 l1) 603 6 3) := W6.wr (fun w => (nb_nlit (by decide) (by decide)))
        refine nb_Gr ?_
        refine nb_Wg (q_m_nextToken_43 _ _ _ _ _) ?_
        refine nb_Gr ?_
        refine nb_Wg (q_m_nextToken_50 _ _ _ _ _) ?_
        refine nb_Gs ?_
        exact nb_Hu H W8
    · have H := nb_Hw ((nb_Hu H).2 (by omega))
      have c26 : 48 ≤ M.1 604 l1 := by omega
      refine nb_Gr ?_
      refine nb_Wg (q_m_isDigit_1 _ _) ?_
      refine nb_Gi (fun c25 => ?_) (fun c25 => ?_)
      · have H := nb_Hw ((nb_Hu H).1 c25)
        refine nb_Gr ?_
        refine nb_Wg (q_m_isDigit_3 _ _) ?_
        refine nb_Gr ?_
        have E10 : nb_i2z 0 = 0 := by decide
        refine nb_Wg (q_m_isDigit_4 _ _ _) ?_
        simp only [E10]
        clear E10
        refine nb_Gs ?_
        show nb_W 91 33 [(20, 603), (0, l1), v2, (0, l3)] [(0, 0)] M _
        refine nb_Wg (q_m_nextToken_33 _ _ _ _ _ _) ?_
        refine nb_Gt (by decide) ?_
        refine nb_Gr ?_
        refine nb_Wg (q_m_nextToken_38 _ _ _ _ _ (by omega)) ?_
        have W11 : nb_Lay (nb_wr M 603 5 l1) := W.wr (fun w => (nb_nlit (by decide) (by decide)))
        refine nb_Gr ?_
        refine nb_Wg (q_m_nextToken_39 _ _ _ _ _) ?_
        refine nb_Gi (fun c14 => ?_) (fun c14 => ?_)
        · have H := nb_Hw ((nb_Hu H).1 c14)
          refine nb_Gr ?_
          refine nb_Wg (q_m_nextToken_40 _ _ _ _ _ _) ?_
          refine nb_Gr ?_
          refine nb_Wg (q_m_nextToken_42 _ _ _ _ _ _ _ (by omega)) ?_
          have W12 : nb_Lay (nb_wr (nb_wr M 603 5 l1) 603 6 1) := W11.wr (fun w => (nb_nlit (by decide) (by decide)))
          refine nb_Gr ?_
          refine nb_Wg (q_m_nextToken_43 _ _ _ _ _) ?_
          refine nb_Gr ?_
          refine nb_Wg (q_m_nextToken_50 _ _ _ _ _) ?_
          refine nb_Gs ?_
          exact nb_Hu H W12
        · have H := nb_Hw ((nb_Hu H).2 (by omega))
          have c14 : l3 ≤ 3 := by omega
          refine nb_Gr ?_
          refine nb_Wg (q_m_nextToken_41 _ _ _ _ _ _) ?_
          refine nb_Gr ?_
          refine nb_Wg (q_m_nextToken_42 _ _ _ _ _ _ _ (by omega)) ?_
          have W13 : nb_Lay (nb_wr (nb_wr M 603 5 l1) 603 6 3) := W11.wr (fun w => (nb_nlit (by decide) (by decide)))
          refine nb_Gr ?_
          refine nb_Wg (q_m_nextToken_43 _ _ _ _ _) ?_
          refine nb_Gr ?_
          refine nb_Wg (q_m_nextToken_50 _ _ _ _ _) ?_
          refine nb_Gs ?_
          exact nb_Hu H W13
      · have H := nb_Hw ((nb_Hu H).2 (by omega))
        have c25 : M.1 604 l1 ≤ 57 := by omega
        refine nb_Gr ?_
        refine nb_Wg (q_m_isDigit_2 _ _) ?_
        refine nb_Gr ?_
        have E15 : nb_i2z 1 = 1 := by decide
        refine nb_Wg (q_m_isDigit_4 _ _ _) ?_
        simp only [E15]
        clear E15
        refine nb_Gs ?_
        show nb_W 91 33 [(20, 603), (0, l1), v2, (0, l3)] [(0, 1)] M _
        refine nb_Wg (q_m_nextToken_33 _ _ _ _ _ _) ?_
        refine nb_Gf (by decide) ?_
        refine nb_Gr ?_
        refine nb_Wg (q_m_nextToken_34 _ _ _ _ _) ?_
        refine nb_Gi (fun c24 => ?_) (fun c24 => ?_)
        · have H := nb_Hw ((nb_Hu H).1 c24)
          refine nb_Gr ?_
          have E16 : nb_rd M 603 7 = M.1 603 7 := nb_rd_1 _ _ _
          refine nb_Wg (q_m_nextToken_35 _ _ _ _ _ (by omega)) ?_
          simp only [E16]
          clear E16
          refine nb_Gb ?_
          have E17 : nb_rd M 603 3 = M.1 603 3 := nb_rd_1 _ _ _
          refine nb_Wg (q_m_seen_0 _ _ _ (by omega)) ?_
          simp only [E17]
          clear E17
          refine nb_Gt (by omega) ?_
          refine nb_Gr ?_
          have E18 : nb_rd M 603 1 = 604 := W.m1
          have N19 : nb_ln M 604 = 1000 := W.lk (by decide) (by decide +kernel)
          have E20 : nb_rd M 604 l1 = M.1 604 l1 := nb_rd_1 _ _ _
          refine nb_Wg (q_m_seen_1 _ _ _ (by omega) (by rw [E18]; first | done | omega) (by omega) (by rw [E18, N19]; first | done | omega)) ?_
          simp only [E18, E20]
          clear E18 N19 E20
          refine nb_Gr ?_
          refine nb_Wg (q_m_seen_3 _ _ _ _) ?_
          refine nb_Gs ?_
          show nb_W 91 36 [(20, 603), (0, l1), v2, (0, l3)] [(0, M.1 604 l1), (0, nb_mul 10 (M.1 603 7)), (20, 603)] M _
          refine nb_Wg (q_m_nextToken_36 _ _ _ _ _ _ _ _ (by omega)) ?_
          have W21 : nb_Lay (nb_wr M 603 7 (nb_sub (nb_add (nb_mul 10 (M.1 603 7)) (M.1 604 l1)) 48)) := W.wr (fun w => (nb_nlit (by decide) (by decide)))
          refine nb_Gr ?_
          have E22 : nb_add l1 1 = l1 + 1 := nb_add_eq (by omega) (by omega)
          refine nb_Wg (q_m_nextToken_37 _ _ _ _ _) ?_
          simp only [E22]
          clear E22
          refine nb_Gr ?_
          exact nb_Hu H
        · have H := nb_Hw ((nb_Hu H).2 (by omega))
          have c24 : 3 ≤ l3 := by omega
          refine nb_Gr ?_
          have E23 : nb_add l1 1 = l1 + 1 := nb_add_eq (by omega) (by omega)
          refine nb_Wg (q_m_nextToken_37 _ _ _ _ _) ?_
          simp only [E23]
          clear E23
          refine nb_Gr ?_
          exact nb_Hu H
  · have H := nb_Hw ((nb_Hu H).2 (by omega))
    have c32 : M.1 603 3 ≤ l1 := by omega
    refine nb_Gr ?_
    refine nb_Wg (q_m_seen_2 _ _ _) ?_
    refine nb_Gr ?_
    refine nb_Wg (q_m_seen_3 _ _ _ _) ?_
    refine nb_Gs ?_
    show nb_W 91 32 [(20, 603), (0, l1), v2, (0, l3)] [(0, (-1))] M _
    refine nb_Wg (q_m_nextToken_32 _ _ _ _ _ _) ?_
    refine nb_Gb ?_
    refine nb_Wg (q_m_isDigit_0 _ _) ?_
    refine nb_Gt (by decide) ?_
    refine nb_Gr ?_
    refine nb_Wg (q_m_isDigit_3 _ _) ?_
    refine nb_Gr ?_
    have E27 : nb_i2z 0 = 0 := by decide
    refine nb_Wg (q_m_isDigit_4 _ _ _) ?_
    simp only [E27]
    clear E27
    refine nb_Gs ?_
    show nb_W 91 33 [(20, 603), (0, l1), v2, (0, l3)] [(0, 0)] M _
    refine nb_Wg (q_m_nextToken_33 _ _ _ _ _ _) ?_
    refine nb_Gt (by decide) ?_
    refine nb_Gr ?_
    refine nb_Wg (q_m_nextToken_38 _ _ _ _ _ (by omega)) ?_
    have W28 : nb_Lay (nb_wr M 603 5 l1) := W.wr (fun w => (nb_nlit (by decide) (by decide)))
    refine nb_Gr ?_
    refine nb_Wg (q_m_nextToken_39 _ _ _ _ _) ?_
    refine nb_Gi (fun c31 => ?_) (fun c31 => ?_)
    · have H := nb_Hw ((nb_Hu H).1 c31)
      refine nb_Gr ?_
      refine nb_Wg (q_m_nextToken_40 _ _ _ _ _ _) ?_
      refine nb_Gr ?_
      refine nb_Wg (q_m_nextToken_42 _ _ _ _ _ _ _ (by omega)) ?_
      have W29 : nb_Lay (nb_wr (nb_wr M 603 5 l1) 603 6 1) := W28.wr (fun w => (nb_nlit (by decide) (by decide)))
      refine nb_Gr ?_
      refine nb_Wg (q_m_nextToken_43 _ _ _ _ _) ?_
      refine nb_Gr ?_
      refine nb_Wg (q_m_nextToken_50 _ _ _ _ _) ?_
      refine nb_Gs ?_
      exact nb_Hu H W29
    · have H := nb_Hw ((nb_Hu H).2 (by omega))
      have c31 : l3 ≤ 3 := by omega
      refine nb_Gr ?_
      refine nb_Wg (q_m_nextToken_41 _ _ _ _ _ _) ?_
      refine nb_Gr ?_
      refine nb_Wg (q_m_nextToken_42 _ _ _ _ _ _ _ (by omega)) ?_
      have W30 : nb_Lay (nb_wr (nb_wr M 603 5 l1) 603 6 3) := W28.wr (fun w => (nb_nlit (by decide) (by decide)))
      refine nb_Gr ?_
      refine nb_Wg (q_m_nextToken_43 _ _ _ _ _) ?_
      refine nb_Gr ?_
      refine nb_Wg (q_m_nextToken_50 _ _ _ _ _) ?_
      refine nb_Gs ?_
      exact nb_Hu H W30

theorem w_m_wrong_0 {l1 l2 : Int} {M : nb_M} {Q : List nb_V → nb_M → Prop} (W : nb_Lay M) (H : (M.1 603 13 = 0 → (nb_Lay (nb_wr (nb_wr (nb_wr M 603 13 1) 603 9 l1) 603 10 l2) → Q [] (nb_wr (nb_wr (nb_wr M 603 13 1) 603 9 l1) 603 10 l2))) ∧ (M.1 603 13 ≠ 0 → (nb_Lay M → Q [] M))) :
    nb_W 92 0 [(20, 603), (0, l1), (0, l2)] [] M Q := by
  replace H := nb_Hw H
  have E1 : nb_rd M 603 13 = M.1 603 13 := nb_rd_1 _ _ _
  refine nb_Wg (q_m_wrong_0 _ _ _ _ (by omega)) ?_
  simp only [E1]
  clear E1
  refine nb_Gi (fun c5 => ?_) (fun c5 => ?_)
  · have H := nb_Hw ((nb_Hu H).1 c5)
    refine nb_Gr ?_
    refine nb_Wg (q_m_wrong_2 _ _ _ _ (by omega)) ?_
    have W2 : nb_Lay (nb_wr M 603 13 1) := W.wr (fun w => (nb_nlit (by decide) (by decide)))
    refine nb_Gr ?_
    refine nb_Wg (q_m_wrong_3 _ _ _ _ (by omega)) ?_
    have W3 : nb_Lay (nb_wr (nb_wr M 603 13 1) 603 9 l1) := W2.wr (fun w => (nb_nlit (by decide) (by decide)))
    refine nb_Gr ?_
    refine nb_Wg (q_m_wrong_4 _ _ _ _ (by omega)) ?_
    have W4 : nb_Lay (nb_wr (nb_wr (nb_wr M 603 13 1) 603 9 l1) 603 10 l2) := W3.wr (fun w => (nb_nlit (by decide) (by decide)))
    refine nb_Gr ?_
    refine nb_Wg (q_m_wrong_5 _ _ _ _) ?_
    refine nb_Gs ?_
    exact nb_Hu H W4
  · have H := nb_Hw ((nb_Hu H).2 (by omega))
    have c5 : M.1 603 13 ≠ 0 := by omega
    refine nb_Gr ?_
    refine nb_Wg (q_m_wrong_1 _ _ _ _) ?_
    refine nb_Gs ?_
    exact nb_Hu H W

theorem w_m_takesWord_0 {l1 : Int} {M : nb_M} {Q : List nb_V → nb_M → Prop} (W : nb_Lay M) (H : nb_W 93 0 [(20, 603), (2, l1), (98, 0), (98, 0)] [] M (fun r M2 => ∃ x1 : Int, r = [(0, x1)] ∧ nb_Lay M2 ∧ (x1 = 0 → (nb_Lay M2 → Q [(0, 0)] M2)) ∧ (x1 ≠ 0 → nb_W 91 0 [(20, 603), (98, 0), (98, 0), (98, 0)] [] M2 (fun r M5 => r = [] ∧ nb_Lay M5 ∧ (nb_Lay M5 → Q [(0, 1)] M5))))) :
    nb_W 94 0 [(20, 603), (2, l1)] [] M Q := by
  replace H := nb_Hw H
  refine nb_Wg (q_m_takesWord_0 _ _ _ (by omega)) ?_
  refine nb_Gb ?_
  refine nb_W.imp (nb_Hu H) (fun r M2 H => ?_)
  obtain ⟨x1, rfl, W3, H⟩ := H
  replace H := nb_Hw H
  show nb_W 94 1 [(20, 603), (2, l1)] [(0, x1)] M2 _
  refine nb_Wg (q_m_takesWord_1 _ _ _ _) ?_
  refine nb_Gi (fun c7 => ?_) (fun c7 => ?_)
  · have H := nb_Hw ((nb_Hu H).1 c7)
    refine nb_Gr ?_
    refine nb_Wg (q_m_takesWord_2 _ _ _) ?_
    refine nb_Gs ?_
    exact nb_Hu H W3
  · have H := nb_Hw ((nb_Hu H).2 (by omega))
    have c7 : x1 ≠ 0 := by omega
    refine nb_Gr ?_
    refine nb_Wg (q_m_takesWord_3 _ _ _ (by omega)) ?_
    refine nb_Gb ?_
    refine nb_W.imp (nb_Hu H) (fun r M5 H => ?_)
    obtain ⟨rfl, W6, H⟩ := H
    replace H := nb_Hw H
    show nb_W 94 4 [(20, 603), (2, l1)] [] M5 _
    refine nb_Wg (q_m_takesWord_4 _ _ _) ?_
    refine nb_Gs ?_
    exact nb_Hu H W6

theorem w_m_must_0 {l1 : Int} {M : nb_M} {Q : List nb_V → nb_M → Prop} (W : nb_Lay M) (H : (M.1 603 13 = 0 → nb_W 94 0 [(20, 603), (2, l1)] [] M (fun r M3 => ∃ x2 : Int, r = [(0, x2)] ∧ nb_Lay M3 ∧ (x2 = 0 → nb_W 92 0 [(20, 603), (0, 1), (0, M3.1 603 4)] [] M3 (fun r M7 => r = [] ∧ nb_Lay M7 ∧ (nb_Lay M7 → Q [] M7))) ∧ (x2 ≠ 0 → (nb_Lay M3 → Q [] M3)))) ∧ (M.1 603 13 ≠ 0 → (nb_Lay M → Q [] M))) :
    nb_W 95 0 [(20, 603), (2, l1)] [] M Q := by
  replace H := nb_Hw H
  have E1 : nb_rd M 603 13 = M.1 603 13 := nb_rd_1 _ _ _
  refine nb_Wg (q_m_must_0 _ _ _ (by omega)) ?_
  simp only [E1]
  clear E1
  refine nb_Gi (fun c10 => ?_) (fun c10 => ?_)
  · have H := nb_Hw ((nb_Hu H).1 c10)
    refine nb_Gr ?_
    refine nb_Wg (q_m_must_1 _ _ _ (by omega)) ?_
    refine nb_Gb ?_
    refine nb_W.imp (nb_Hu H) (fun r M3 H => ?_)
    obtain ⟨x2, rfl, W4, H⟩ := H
    replace H := nb_Hw H
    show nb_W 95 2 [(20, 603), (2, l1)] [(0, x2)] M3 _
    refine nb_Wg (q_m_must_2 _ _ _ _) ?_
    refine nb_Gi (fun c9 => ?_) (fun c9 => ?_)
    · have H := nb_Hw ((nb_Hu H).1 c9)
      refine nb_Gr ?_
      have E5 : nb_rd M3 603 4 = M3.1 603 4 := nb_rd_1 _ _ _
      refine nb_Wg (q_m_must_3 _ _ _ (by omega)) ?_
      simp only [E5]
      clear E5
      refine nb_Gb ?_
      refine nb_W.imp (nb_Hu H) (fun r M7 H => ?_)
      obtain ⟨rfl, W8, H⟩ := H
      replace H := nb_Hw H
      show nb_W 95 4 [(20, 603), (2, l1)] [] M7 _
      refine nb_Wg (q_m_must_4 _ _ _) ?_
      refine nb_Gs ?_
      exact nb_Hu H W8
    · have H := nb_Hw ((nb_Hu H).2 (by omega))
      have c9 : x2 ≠ 0 := by omega
      refine nb_Gr ?_
      refine nb_Wg (q_m_must_4 _ _ _) ?_
      refine nb_Gs ?_
      exact nb_Hu H W4
  · have H := nb_Hw ((nb_Hu H).2 (by omega))
    have c10 : M.1 603 13 ≠ 0 := by omega
    refine nb_Gr ?_
    refine nb_Wg (q_m_must_4 _ _ _) ?_
    refine nb_Gs ?_
    exact nb_Hu H W

theorem w_m_mustName_0 {v1 : nb_V} {M : nb_M} {Q : List nb_V → nb_M → Prop} (W : nb_Lay M) (H : nb_W 93 0 [(20, 603), (2, 1), (98, 0), (98, 0)] [] M (fun r M2 => ∃ x1 : Int, r = [(0, x1)] ∧ nb_Lay M2 ∧ (x1 = 0 → nb_W 93 0 [(20, 603), (2, 2), (98, 0), (98, 0)] [] M2 (fun r M5 => ∃ x4 : Int, r = [(0, x4)] ∧ nb_Lay M5 ∧ (x4 = 0 → nb_W 93 0 [(20, 603), (2, 3), (98, 0), (98, 0)] [] M5 (fun r M8 => ∃ x7 : Int, r = [(0, x7)] ∧ nb_Lay M8 ∧ (x7 = 0 → nb_W 93 0 [(20, 603), (2, 4), (98, 0), (98, 0)] [] M8 (fun r M11 => ∃ x10 : Int, r = [(0, x10)] ∧ nb_Lay M11 ∧ (x10 = 0 → nb_W 93 0 [(20, 603), (2, 5), (98, 0), (98, 0)] [] M11 (fun r M14 => ∃ x13 : Int, r = [(0, x13)] ∧ nb_Lay M14 ∧ (x13 = 0 → nb_W 93 0 [(20, 603), (2, 6), (98, 0), (98, 0)] [] M14 (fun r M17 => ∃ x16 : Int, r = [(0, x16)] ∧ nb_Lay M17 ∧ (x16 = 0 → (M17.1 603 6 = 2 → (nb_Lay M17 → Q [] M17)) ∧ (M17.1 603 6 ≠ 2 → nb_W 92 0 [(20, 603), (0, 1), (0, M17.1 603 4)] [] M17 (fun r M22 => r = [] ∧ nb_Lay M22 ∧ (nb_Lay M22 → Q [] M22)))) ∧ (x16 ≠ 0 → (M17.1 603 6 = 2 → nb_W 92 0 [(20, 603), (0, 1), (0, M17.1 603 4)] [] M17 (fun r M28 => r = [] ∧ nb_Lay M28 ∧ (nb_Lay M28 → Q [] M28))) ∧ (M17.1 603 6 ≠ 2 → nb_W 92 0 [(20, 603), (0, 1), (0, M17.1 603 4)] [] M17 (fun r M32 => r = [] ∧ nb_Lay M32 ∧ (nb_Lay M32 → Q [] M32)))))) ∧ (x13 ≠ 0 → (M14.1 603 6 = 2 → nb_W 92 0 [(20, 603), (0, 1), (0, M14.1 603 4)] [] M14 (fun r M39 => r = [] ∧ nb_Lay M39 ∧ (nb_Lay M39 → Q [] M39))) ∧ (M14.1 603 6 ≠ 2 → nb_W 92 0 [(20, 603), (0, 1), (0, M14.1 603 4)] [] M14 (fun r M43 => r = [] ∧ nb_Lay M43 ∧ (nb_Lay M43 → Q [] M43)))))) ∧ (x10 ≠ 0 → (M11.1 603 6 = 2 → nb_W 92 0 [(20, 603), (0, 1), (0, M11.1 603 4)] [] M11 (fun r M50 => r = [] ∧ nb_Lay M50 ∧ (nb_Lay M50 → Q [] M50))) ∧ (M11.1 603 6 ≠ 2 → nb_W 92 0 [(20, 603), (0, 1), (0, M11.1 603 4)] [] M11 (fun r M54 => r = [] ∧ nb_Lay M54 ∧ (nb_Lay M54 → Q [] M54)))))) ∧ (x7 ≠ 0 → (M8.1 603 6 = 2 → nb_W 92 0 [(20, 603), (0, 1), (0, M8.1 603 4)] [] M8 (fun r M61 => r = [] ∧ nb_Lay M61 ∧ (nb_Lay M61 → Q [] M61))) ∧ (M8.1 603 6 ≠ 2 → nb_W 92 0 [(20, 603), (0, 1), (0, M8.1 603 4)] [] M8 (fun r M65 => r = [] ∧ nb_Lay M65 ∧ (nb_Lay M65 → Q [] M65)))))) ∧ (x4 ≠ 0 → (M5.1 603 6 = 2 → nb_W 92 0 [(20, 603), (0, 1), (0, M5.1 603 4)] [] M5 (fun r M72 => r = [] ∧ nb_Lay M72 ∧ (nb_Lay M72 → Q [] M72))) ∧ (M5.1 603 6 ≠ 2 → nb_W 92 0 [(20, 603), (0, 1), (0, M5.1 603 4)] [] M5 (fun r M76 => r = [] ∧ nb_Lay M76 ∧ (nb_Lay M76 → Q [] M76)))))) ∧ (x1 ≠ 0 → (M2.1 603 6 = 2 → nb_W 92 0 [(20, 603), (0, 1), (0, M2.1 603 4)] [] M2 (fun r M83 => r = [] ∧ nb_Lay M83 ∧ (nb_Lay M83 → Q [] M83))) ∧ (M2.1 603 6 ≠ 2 → nb_W 92 0 [(20, 603), (0, 1), (0, M2.1 603 4)] [] M2 (fun r M87 => r = [] ∧ nb_Lay M87 ∧ (nb_Lay M87 → Q [] M87)))))) :
    nb_W 96 0 [(20, 603), v1] [] M Q := by
  replace H := nb_Hw H
  refine nb_Wg (q_m_mustName_0 _ _ _ (by omega)) ?_
  refine nb_Gb ?_
  refine nb_W.imp (nb_Hu H) (fun r M2 H => ?_)
  obtain ⟨x1, rfl, W3, H⟩ := H
  replace H := nb_Hw H
  show nb_W 96 1 [(20, 603), v1] [(0, x1)] M2 _
  refine nb_Wg (q_m_mustName_1 _ _ _ _) ?_
  refine nb_Gi (fun c90 => ?_) (fun c90 => ?_)
  · have H := nb_Hw ((nb_Hu H).1 c90)
    refine nb_Gr ?_
    refine nb_Wg (q_m_mustName_2 _ _ _ (by omega)) ?_
    refine nb_Gb ?_
    refine nb_W.imp (nb_Hu H) (fun r M5 H => ?_)
    obtain ⟨x4, rfl, W6, H⟩ := H
    replace H := nb_Hw H
    show nb_W 96 3 [(20, 603), v1] [(0, x4)] M5 _
    refine nb_Wg (q_m_mustName_3 _ _ _ _) ?_
    refine nb_Gi (fun c79 => ?_) (fun c79 => ?_)
    · have H := nb_Hw ((nb_Hu H).1 c79)
      refine nb_Gr ?_
      refine nb_Wg (q_m_mustName_4 _ _ _ (by omega)) ?_
      refine nb_Gb ?_
      refine nb_W.imp (nb_Hu H) (fun r M8 H => ?_)
      obtain ⟨x7, rfl, W9, H⟩ := H
      replace H := nb_Hw H
      show nb_W 96 5 [(20, 603), v1] [(0, x7)] M8 _
      refine nb_Wg (q_m_mustName_5 _ _ _ _) ?_
      refine nb_Gi (fun c68 => ?_) (fun c68 => ?_)
      · have H := nb_Hw ((nb_Hu H).1 c68)
        refine nb_Gr ?_
        refine nb_Wg (q_m_mustName_6 _ _ _ (by omega)) ?_
        refine nb_Gb ?_
        refine nb_W.imp (nb_Hu H) (fun r M11 H => ?_)
        obtain ⟨x10, rfl, W12, H⟩ := H
        replace H := nb_Hw H
        show nb_W 96 7 [(20, 603), v1] [(0, x10)] M11 _
        refine nb_Wg (q_m_mustName_7 _ _ _ _) ?_
        refine nb_Gi (fun c57 => ?_) (fun c57 => ?_)
        · have H := nb_Hw ((nb_Hu H).1 c57)
          refine nb_Gr ?_
          refine nb_Wg (q_m_mustName_8 _ _ _ (by omega)) ?_
          refine nb_Gb ?_
          refine nb_W.imp (nb_Hu H) (fun r M14 H => ?_)
          obtain ⟨x13, rfl, W15, H⟩ := H
          replace H := nb_Hw H
          show nb_W 96 9 [(20, 603), v1] [(0, x13)] M14 _
          refine nb_Wg (q_m_mustName_9 _ _ _ _) ?_
          refine nb_Gi (fun c46 => ?_) (fun c46 => ?_)
          · have H := nb_Hw ((nb_Hu H).1 c46)
            refine nb_Gr ?_
            refine nb_Wg (q_m_mustName_10 _ _ _ (by omega)) ?_
            refine nb_Gb ?_
            refine nb_W.imp (nb_Hu H) (fun r M17 H => ?_)
            obtain ⟨x16, rfl, W18, H⟩ := H
            replace H := nb_Hw H
            show nb_W 96 11 [(20, 603), v1] [(0, x16)] M17 _
            refine nb_Wg (q_m_mustName_11 _ _ _ _) ?_
            refine nb_Gi (fun c35 => ?_) (fun c35 => ?_)
            · have H := nb_Hw ((nb_Hu H).1 c35)
              refine nb_Gr ?_
              refine nb_Wg (q_m_mustName_13 _ _ _) ?_
              refine nb_Gr ?_
              have E19 : nb_rd M17 603 6 = M17.1 603 6 := nb_rd_1 _ _ _
              refine nb_Wg (q_m_mustName_14 _ _ _ _ (by omega)) ?_
              simp only [E19]
              clear E19
              refine nb_Gi (fun c24 => ?_) (fun c24 => ?_)
              · have H := nb_Hw ((nb_Hu H).1 c24)
                refine nb_Gr ?_
                refine nb_Wg (q_m_mustName_15 _ _ _) ?_
                refine nb_Gt (by decide) ?_
                refine nb_Gr ?_
                refine nb_Wg (q_m_mustName_17 _ _ _) ?_
                refine nb_Gs ?_
                exact nb_Hu H W18
              · have H := nb_Hw ((nb_Hu H).2 (by omega))
                have c24 : M17.1 603 6 ≠ 2 := by omega
                refine nb_Gr ?_
                have E20 : nb_rd M17 603 4 = M17.1 603 4 := nb_rd_1 _ _ _
                refine nb_Wg (q_m_mustName_16 _ _ _ (by omega)) ?_
                simp only [E20]
                clear E20
                refine nb_Gb ?_
                refine nb_W.imp (nb_Hu H) (fun r M22 H => ?_)
                obtain ⟨rfl, W23, H⟩ := H
                replace H := nb_Hw H
                show nb_W 96 17 [(20, 603), (0, 0)] [] M22 _
                refine nb_Wg (q_m_mustName_17 _ _ _) ?_
                refine nb_Gs ?_
                exact nb_Hu H W23
            · have H := nb_Hw ((nb_Hu H).2 (by omega))
              have c35 : x16 ≠ 0 := by omega
              refine nb_Gr ?_
              refine nb_Wg (q_m_mustName_12 _ _ _) ?_
              refine nb_Gr ?_
              have E25 : nb_rd M17 603 6 = M17.1 603 6 := nb_rd_1 _ _ _
              refine nb_Wg (q_m_mustName_14 _ _ _ _ (by omega)) ?_
              simp only [E25]
              clear E25
              refine nb_Gi (fun c34 => ?_) (fun c34 => ?_)
              · have H := nb_Hw ((nb_Hu H).1 c34)
                refine nb_Gr ?_
                refine nb_Wg (q_m_mustName_15 _ _ _) ?_
                refine nb_Gf (by decide) ?_
                refine nb_Gr ?_
                have E26 : nb_rd M17 603 4 = M17.1 603 4 := nb_rd_1 _ _ _
                refine nb_Wg (q_m_mustName_16 _ _ _ (by omega)) ?_
                simp only [E26]
                clear E26
                refine nb_Gb ?_
                refine nb_W.imp (nb_Hu H) (fun r M28 H => ?_)
                obtain ⟨rfl, W29, H⟩ := H
                replace H := nb_Hw H
                show nb_W 96 17 [(20, 603), (0, 1)] [] M28 _
                refine nb_Wg (q_m_mustName_17 _ _ _) ?_
                refine nb_Gs ?_
                exact nb_Hu H W29
              · have H := nb_Hw ((nb_Hu H).2 (by omega))
                have c34 : M17.1 603 6 ≠ 2 := by omega
                refine nb_Gr ?_
                have E30 : nb_rd M17 603 4 = M17.1 603 4 := nb_rd_1 _ _ _
                refine nb_Wg (q_m_mustName_16 _ _ _ (by omega)) ?_
                simp only [E30]
                clear E30
                refine nb_Gb ?_
                refine nb_W.imp (nb_Hu H) (fun r M32 H => ?_)
                obtain ⟨rfl, W33, H⟩ := H
                replace H := nb_Hw H
                show nb_W 96 17 [(20, 603), (0, 1)] [] M32 _
                refine nb_Wg (q_m_mustName_17 _ _ _) ?_
                refine nb_Gs ?_
                exact nb_Hu H W33
          · have H := nb_Hw ((nb_Hu H).2 (by omega))
            have c46 : x13 ≠ 0 := by omega
            refine nb_Gr ?_
            refine nb_Wg (q_m_mustName_12 _ _ _) ?_
            refine nb_Gr ?_
            have E36 : nb_rd M14 603 6 = M14.1 603 6 := nb_rd_1 _ _ _
            refine nb_Wg (q_m_mustName_14 _ _ _ _ (by omega)) ?_
            simp only [E36]
            clear E36
            refine nb_Gi (fun c45 => ?_) (fun c45 => ?_)
            · have H := nb_Hw ((nb_Hu H).1 c45)
              refine nb_Gr ?_
              refine nb_Wg (q_m_mustName_15 _ _ _) ?_
              refine nb_Gf (by decide) ?_
              refine nb_Gr ?_
              have E37 : nb_rd M14 603 4 = M14.1 603 4 := nb_rd_1 _ _ _
              refine nb_Wg (q_m_mustName_16 _ _ _ (by omega)) ?_
              simp only [E37]
              clear E37
              refine nb_Gb ?_
              refine nb_W.imp (nb_Hu H) (fun r M39 H => ?_)
              obtain ⟨rfl, W40, H⟩ := H
              replace H := nb_Hw H
              show nb_W 96 17 [(20, 603), (0, 1)] [] M39 _
              refine nb_Wg (q_m_mustName_17 _ _ _) ?_
              refine nb_Gs ?_
              exact nb_Hu H W40
            · have H := nb_Hw ((nb_Hu H).2 (by omega))
              have c45 : M14.1 603 6 ≠ 2 := by omega
              refine nb_Gr ?_
              have E41 : nb_rd M14 603 4 = M14.1 603 4 := nb_rd_1 _ _ _
              refine nb_Wg (q_m_mustName_16 _ _ _ (by omega)) ?_
              simp only [E41]
              clear E41
              refine nb_Gb ?_
              refine nb_W.imp (nb_Hu H) (fun r M43 H => ?_)
              obtain ⟨rfl, W44, H⟩ := H
              replace H := nb_Hw H
              show nb_W 96 17 [(20, 603), (0, 1)] [] M43 _
              refine nb_Wg (q_m_mustName_17 _ _ _) ?_
              refine nb_Gs ?_
              exact nb_Hu H W44
        · have H := nb_Hw ((nb_Hu H).2 (by omega))
          have c57 : x10 ≠ 0 := by omega
          refine nb_Gr ?_
          refine nb_Wg (q_m_mustName_12 _ _ _) ?_
          refine nb_Gr ?_
          have E47 : nb_rd M11 603 6 = M11.1 603 6 := nb_rd_1 _ _ _
          refine nb_Wg (q_m_mustName_14 _ _ _ _ (by omega)) ?_
          simp only [E47]
          clear E47
          refine nb_Gi (fun c56 => ?_) (fun c56 => ?_)
          · have H := nb_Hw ((nb_Hu H).1 c56)
            refine nb_Gr ?_
            refine nb_Wg (q_m_mustName_15 _ _ _) ?_
            refine nb_Gf (by decide) ?_
            refine nb_Gr ?_
            have E48 : nb_rd M11 603 4 = M11.1 603 4 := nb_rd_1 _ _ _
            refine nb_Wg (q_m_mustName_16 _ _ _ (by omega)) ?_
            simp only [E48]
            clear E48
            refine nb_Gb ?_
            refine nb_W.imp (nb_Hu H) (fun r M50 H => ?_)
            obtain ⟨rfl, W51, H⟩ := H
            replace H := nb_Hw H
            show nb_W 96 17 [(20, 603), (0, 1)] [] M50 _
            refine nb_Wg (q_m_mustName_17 _ _ _) ?_
            refine nb_Gs ?_
            exact nb_Hu H W51
          · have H := nb_Hw ((nb_Hu H).2 (by omega))
            have c56 : M11.1 603 6 ≠ 2 := by omega
            refine nb_Gr ?_
            have E52 : nb_rd M11 603 4 = M11.1 603 4 := nb_rd_1 _ _ _
            refine nb_Wg (q_m_mustName_16 _ _ _ (by omega)) ?_
            simp only [E52]
            clear E52
            refine nb_Gb ?_
            refine nb_W.imp (nb_Hu H) (fun r M54 H => ?_)
            obtain ⟨rfl, W55, H⟩ := H
            replace H := nb_Hw H
            show nb_W 96 17 [(20, 603), (0, 1)] [] M54 _
            refine nb_Wg (q_m_mustName_17 _ _ _) ?_
            refine nb_Gs ?_
            exact nb_Hu H W55
      · have H := nb_Hw ((nb_Hu H).2 (by omega))
        have c68 : x7 ≠ 0 := by omega
        refine nb_Gr ?_
        refine nb_Wg (q_m_mustName_12 _ _ _) ?_
        refine nb_Gr ?_
        have E58 : nb_rd M8 603 6 = M8.1 603 6 := nb_rd_1 _ _ _
        refine nb_Wg (q_m_mustName_14 _ _ _ _ (by omega)) ?_
        simp only [E58]
        clear E58
        refine nb_Gi (fun c67 => ?_) (fun c67 => ?_)
        · have H := nb_Hw ((nb_Hu H).1 c67)
          refine nb_Gr ?_
          refine nb_Wg (q_m_mustName_15 _ _ _) ?_
          refine nb_Gf (by decide) ?_
          refine nb_Gr ?_
          have E59 : nb_rd M8 603 4 = M8.1 603 4 := nb_rd_1 _ _ _
          refine nb_Wg (q_m_mustName_16 _ _ _ (by omega)) ?_
          simp only [E59]
          clear E59
          refine nb_Gb ?_
          refine nb_W.imp (nb_Hu H) (fun r M61 H => ?_)
          obtain ⟨rfl, W62, H⟩ := H
          replace H := nb_Hw H
          show nb_W 96 17 [(20, 603), (0, 1)] [] M61 _
          refine nb_Wg (q_m_mustName_17 _ _ _) ?_
          refine nb_Gs ?_
          exact nb_Hu H W62
        · have H := nb_Hw ((nb_Hu H).2 (by omega))
          have c67 : M8.1 603 6 ≠ 2 := by omega
          refine nb_Gr ?_
          have E63 : nb_rd M8 603 4 = M8.1 603 4 := nb_rd_1 _ _ _
          refine nb_Wg (q_m_mustName_16 _ _ _ (by omega)) ?_
          simp only [E63]
          clear E63
          refine nb_Gb ?_
          refine nb_W.imp (nb_Hu H) (fun r M65 H => ?_)
          obtain ⟨rfl, W66, H⟩ := H
          replace H := nb_Hw H
          show nb_W 96 17 [(20, 603), (0, 1)] [] M65 _
          refine nb_Wg (q_m_mustName_17 _ _ _) ?_
          refine nb_Gs ?_
          exact nb_Hu H W66
    · have H := nb_Hw ((nb_Hu H).2 (by omega))
      have c79 : x4 ≠ 0 := by omega
      refine nb_Gr ?_
      refine nb_Wg (q_m_mustName_12 _ _ _) ?_
      refine nb_Gr ?_
      have E69 : nb_rd M5 603 6 = M5.1 603 6 := nb_rd_1 _ _ _
      refine nb_Wg (q_m_mustName_14 _ _ _ _ (by omega)) ?_
      simp only [E69]
      clear E69
      refine nb_Gi (fun c78 => ?_) (fun c78 => ?_)
      · have H := nb_Hw ((nb_Hu H).1 c78)
        refine nb_Gr ?_
        refine nb_Wg (q_m_mustName_15 _ _ _) ?_
        refine nb_Gf (by decide) ?_
        refine nb_Gr ?_
        have E70 : nb_rd M5 603 4 = M5.1 603 4 := nb_rd_1 _ _ _
        refine nb_Wg (q_m_mustName_16 _ _ _ (by omega)) ?_
        simp only [E70]
        clear E70
        refine nb_Gb ?_
        refine nb_W.imp (nb_Hu H) (fun r M72 H => ?_)
        obtain ⟨rfl, W73, H⟩ := H
        replace H := nb_Hw H
        show nb_W 96 17 [(20, 603), (0, 1)] [] M72 _
        refine nb_Wg (q_m_mustName_17 _ _ _) ?_
        refine nb_Gs ?_
        exact nb_Hu H W73
      · have H := nb_Hw ((nb_Hu H).2 (by omega))
        have c78 : M5.1 603 6 ≠ 2 := by omega
        refine nb_Gr ?_
        have E74 : nb_rd M5 603 4 = M5.1 603 4 := nb_rd_1 _ _ _
        refine nb_Wg (q_m_mustName_16 _ _ _ (by omega)) ?_
        simp only [E74]
        clear E74
        refine nb_Gb ?_
        refine nb_W.imp (nb_Hu H) (fun r M76 H => ?_)
        obtain ⟨rfl, W77, H⟩ := H
        replace H := nb_Hw H
        show nb_W 96 17 [(20, 603), (0, 1)] [] M76 _
        refine nb_Wg (q_m_mustName_17 _ _ _) ?_
        refine nb_Gs ?_
        exact nb_Hu H W77
  · have H := nb_Hw ((nb_Hu H).2 (by omega))
    have c90 : x1 ≠ 0 := by omega
    refine nb_Gr ?_
    refine nb_Wg (q_m_mustName_12 _ _ _) ?_
    refine nb_Gr ?_
    have E80 : nb_rd M2 603 6 = M2.1 603 6 := nb_rd_1 _ _ _
    refine nb_Wg (q_m_mustName_14 _ _ _ _ (by omega)) ?_
    simp only [E80]
    clear E80
    refine nb_Gi (fun c89 => ?_) (fun c89 => ?_)
    · have H := nb_Hw ((nb_Hu H).1 c89)
      refine nb_Gr ?_
      refine nb_Wg (q_m_mustName_15 _ _ _) ?_
      refine nb_Gf (by decide) ?_
      refine nb_Gr ?_
      have E81 : nb_rd M2 603 4 = M2.1 603 4 := nb_rd_1 _ _ _
      refine nb_Wg (q_m_mustName_16 _ _ _ (by omega)) ?_
      simp only [E81]
      clear E81
      refine nb_Gb ?_
      refine nb_W.imp (nb_Hu H) (fun r M83 H => ?_)
      obtain ⟨rfl, W84, H⟩ := H
      replace H := nb_Hw H
      show nb_W 96 17 [(20, 603), (0, 1)] [] M83 _
      refine nb_Wg (q_m_mustName_17 _ _ _) ?_
      refine nb_Gs ?_
      exact nb_Hu H W84
    · have H := nb_Hw ((nb_Hu H).2 (by omega))
      have c89 : M2.1 603 6 ≠ 2 := by omega
      refine nb_Gr ?_
      have E85 : nb_rd M2 603 4 = M2.1 603 4 := nb_rd_1 _ _ _
      refine nb_Wg (q_m_mustName_16 _ _ _ (by omega)) ?_
      simp only [E85]
      clear E85
      refine nb_Gb ?_
      refine nb_W.imp (nb_Hu H) (fun r M87 H => ?_)
      obtain ⟨rfl, W88, H⟩ := H
      replace H := nb_Hw H
      show nb_W 96 17 [(20, 603), (0, 1)] [] M87 _
      refine nb_Wg (q_m_mustName_17 _ _ _) ?_
      refine nb_Gs ?_
      exact nb_Hu H W88

theorem w_m_find_0 {v1 v2 v3 : nb_V} {M : nb_M} {Q : List nb_V → nb_M → Prop} (W : nb_Lay M) (H : nb_W 97 1 [(20, 603), (0, 0), v2, v3] [] M Q) :
    nb_W 97 0 [(20, 603), v1, v2, v3] [] M Q := by
  replace H := nb_Hw H
  refine nb_Wg (q_m_find_0 _ _ _ _ _) ?_
  refine nb_Gr ?_
  exact nb_Hu H

theorem w_m_find_1 {l1 : Int} {v2 v3 : nb_V} {M : nb_M} {Q : List nb_V → nb_M → Prop} (W : nb_Lay M)  (b0_ : 0 ≤ l1 ∧ l1 ≤ 18) (H : (l1 < 18 → (0 < M.1 607 (185 + l1) → (M.1 607 (185 + l1) = M.1 603 8 → nb_W 97 7 [(20, 603), (0, l1), (0, 1), (0, 0)] [] M Q) ∧ (M.1 607 (185 + l1) ≠ M.1 603 8 → nb_W 97 7 [(20, 603), (0, l1), (0, 0), (0, 0)] [] M Q)) ∧ (M.1 607 (185 + l1) ≤ 0 → nb_W 97 7 [(20, 603), (0, l1), (0, 0), (0, 0)] [] M Q)) ∧ (18 ≤ l1 → (nb_Lay M → Q [(0, (-1))] M))) :
    nb_W 97 1 [(20, 603), (0, l1), v2, v3] [] M Q := by
  replace H := nb_Hw H
  refine nb_Wg (q_m_find_1 _ _ _ _ _) ?_
  refine nb_Gi (fun c12 => ?_) (fun c12 => ?_)
  · have H := nb_Hw ((nb_Hu H).1 c12)
    refine nb_Gr ?_
    have E1 : nb_rd M 603 16 = 607 := W.m16
    have E2 : nb_add 185 l1 = 185 + l1 := nb_add_eq (by omega) (by omega)
    have N3 : nb_ln M 607 = 347 := W.lk (by decide) (by decide +kernel)
    have E4 : nb_rd M 607 (185 + l1) = M.1 607 (185 + l1) := nb_rd_1 _ _ _
    refine nb_Wg (q_m_find_2 _ _ _ _ _ (by omega) (by rw [E1]; first | done | omega) (by rw [E2]; first | done | omega) (by rw [E2, E1, N3]; first | done | omega)) ?_
    simp only [E1, E2, E4]
    clear E1 E2 N3 E4
    refine nb_Gi (fun c11 => ?_) (fun c11 => ?_)
    · have H := nb_Hw ((nb_Hu H).1 c11)
      refine nb_Gr ?_
      have E5 : nb_rd M 603 16 = 607 := W.m16
      have E6 : nb_add 185 l1 = 185 + l1 := nb_add_eq (by omega) (by omega)
      have N7 : nb_ln M 607 = 347 := W.lk (by decide) (by decide +kernel)
      have E8 : nb_rd M 607 (185 + l1) = M.1 607 (185 + l1) := nb_rd_1 _ _ _
      have E9 : nb_rd M 603 8 = M.1 603 8 := nb_rd_1 _ _ _
      refine nb_Wg (q_m_find_3 _ _ _ _ _ (by omega) (by rw [E5]; first | done | omega) (by rw [E6]; first | done | omega) (by rw [E6, E5, N7]; first | done | omega)) ?_
      simp only [E5, E6, E8, E9]
      clear E5 E6 N7 E8 E9
      refine nb_Gi (fun c10 => ?_) (fun c10 => ?_)
      · have H := nb_Hw ((nb_Hu H).1 c10)
        refine nb_Gr ?_
        refine nb_Wg (q_m_find_4 _ _ _ _ _) ?_
        refine nb_Gr ?_
        refine nb_Wg (q_m_find_6 _ _ _ _ _ _) ?_
        refine nb_Gr ?_
        exact nb_Hu H
      · have H := nb_Hw ((nb_Hu H).2 (by omega))
        have c10 : M.1 607 (185 + l1) ≠ M.1 603 8 := by omega
        refine nb_Gr ?_
        refine nb_Wg (q_m_find_5 _ _ _ _ _) ?_
        refine nb_Gr ?_
        refine nb_Wg (q_m_find_6 _ _ _ _ _ _) ?_
        refine nb_Gr ?_
        exact nb_Hu H
    · have H := nb_Hw ((nb_Hu H).2 (by omega))
      have c11 : M.1 607 (185 + l1) ≤ 0 := by omega
      refine nb_Gr ?_
      refine nb_Wg (q_m_find_5 _ _ _ _ _) ?_
      refine nb_Gr ?_
      refine nb_Wg (q_m_find_6 _ _ _ _ _ _) ?_
      refine nb_Gr ?_
      exact nb_Hu H
  · have H := nb_Hw ((nb_Hu H).2 (by omega))
    have c12 : 18 ≤ l1 := by omega
    refine nb_Gr ?_
    refine nb_Wg (q_m_find_16 _ _ _ _ _) ?_
    refine nb_Gs ?_
    exact nb_Hu H W

theorem w_m_find_7 {l1 l2 l3 : Int} {M : nb_M} {Q : List nb_V → nb_M → Prop} (W : nb_Lay M)  (b0_ : 0 ≤ l1 ∧ l1 ≤ 17) (H : (l3 < M.1 603 8 → (l2 = 0 → nb_W 97 1 [(20, 603), (0, l1 + 1), (0, l2), (0, l3)] [] M Q) ∧ (l2 ≠ 0 → 0 ≤ nb_add (203 + 8 * l1) l3 ∧ nb_add (203 + 8 * l1) l3 < 347 ∧ 0 ≤ l3 ∧ l3 < 8 ∧ (M.1 607 (nb_add (203 + 8 * l1) l3) = M.1 605 l3 → nb_W 97 7 [(20, 603), (0, l1), (0, 1), (0, nb_add l3 1)] [] M Q) ∧ (M.1 607 (nb_add (203 + 8 * l1) l3) ≠ M.1 605 l3 → nb_W 97 7 [(20, 603), (0, l1), (0, 0), (0, nb_add l3 1)] [] M Q))) ∧ (M.1 603 8 ≤ l3 → (l2 = 0 → nb_W 97 1 [(20, 603), (0, l1 + 1), (0, l2), (0, l3)] [] M Q) ∧ (l2 ≠ 0 → (nb_Lay M → Q [(0, l1)] M)))) :
    nb_W 97 7 [(20, 603), (0, l1), (0, l2), (0, l3)] [] M Q := by
  replace H := nb_Hw H
  have E1 : nb_rd M 603 8 = M.1 603 8 := nb_rd_1 _ _ _
  refine nb_Wg (q_m_find_7 _ _ _ _ _ (by omega)) ?_
  simp only [E1]
  clear E1
  refine nb_Gi (fun c15 => ?_) (fun c15 => ?_)
  · have H := nb_Hw ((nb_Hu H).1 c15)
    refine nb_Gr ?_
    refine nb_Wg (q_m_find_8 _ _ _ _ _) ?_
    refine nb_Gi (fun c12 => ?_) (fun c12 => ?_)
    · have H := nb_Hw ((nb_Hu H).1 c12)
      refine nb_Gr ?_
      refine nb_Wg (q_m_find_13 _ _ _ _ _) ?_
      refine nb_Gt (by omega) ?_
      refine nb_Gr ?_
      have E2 : nb_add l1 1 = l1 + 1 := nb_add_eq (by omega) (by omega)
      refine nb_Wg (q_m_find_15 _ _ _ _ _) ?_
      simp only [E2]
      clear E2
      refine nb_Gr ?_
      exact nb_Hu H
    · have H := nb_Hw ((nb_Hu H).2 (by omega))
      have c12 : l2 ≠ 0 := by omega
      refine nb_Gr ?_
      obtain ⟨p0_, p1_, p2_, p3_, H⟩ := H
      replace H := nb_Hw H
      have E3 : nb_rd M 603 16 = 607 := W.m16
      have E4 : nb_mul 8 l1 = 8 * l1 := nb_mul_eq (by omega) (by omega)
      have E5 : nb_add 203 (8 * l1) = 203 + 8 * l1 := (nb_add_eq (x := 203) (y := 8 * l1) (by omega) (by omega)).trans (by omega)
      have N6 : nb_ln M 607 = 347 := W.lk (by decide) (by decide +kernel)
      have E7 : nb_rd M 607 (nb_add (203 + 8 * l1) l3) = M.1 607 (nb_add (203 + 8 * l1) l3) := nb_rd_1 _ _ _
      have E8 : nb_rd M 603 12 = 605 := W.m12
      have N9 : nb_ln M 605 = 8 := W.lk (by decide) (by decide +kernel)
      have E10 : nb_rd M 605 l3 = M.1 605 l3 := nb_rd_1 _ _ _
      refine nb_Wg (q_m_find_9 _ _ _ _ _ (by omega) (by rw [E3]; first | done | omega) (by rw [E4, E5]; first | done | omega) (by rw [E4, E5, E3, N6]; first | done | omega) (by rw [E8]; first | done | omega) (by omega) (by rw [E8, N9]; first | done | omega)) ?_
      simp only [E3, E4, E5, E7, E8, E10]
      clear E3 E4 E5 N6 E7 E8 N9 E10
      refine nb_Gi (fun c11 => ?_) (fun c11 => ?_)
      · have H := nb_Hw ((nb_Hu H).1 c11)
        refine nb_Gr ?_
        refine nb_Wg (q_m_find_10 _ _ _ _ _) ?_
        refine nb_Gr ?_
        refine nb_Wg (q_m_find_12 _ _ _ _ _ _) ?_
        refine nb_Gr ?_
        exact nb_Hu H
      · have H := nb_Hw ((nb_Hu H).2 (by omega))
        have c11 : M.1 607 (nb_add (203 + 8 * l1) l3) ≠ M.1 605 l3 := by omega
        refine nb_Gr ?_
        refine nb_Wg (q_m_find_11 _ _ _ _ _) ?_
        refine nb_Gr ?_
        refine nb_Wg (q_m_find_12 _ _ _ _ _ _) ?_
        refine nb_Gr ?_
        exact nb_Hu H
  · have H := nb_Hw ((nb_Hu H).2 (by omega))
    have c15 : M.1 603 8 ≤ l3 := by omega
    refine nb_Gr ?_
    refine nb_Wg (q_m_find_13 _ _ _ _ _) ?_
    refine nb_Gi (fun c14 => ?_) (fun c14 => ?_)
    · have H := nb_Hw ((nb_Hu H).1 c14)
      refine nb_Gr ?_
      have E13 : nb_add l1 1 = l1 + 1 := nb_add_eq (by omega) (by omega)
      refine nb_Wg (q_m_find_15 _ _ _ _ _) ?_
      simp only [E13]
      clear E13
      refine nb_Gr ?_
      exact nb_Hu H
    · have H := nb_Hw ((nb_Hu H).2 (by omega))
      have c14 : l2 ≠ 0 := by omega
      refine nb_Gr ?_
      refine nb_Wg (q_m_find_14 _ _ _ _ _) ?_
      refine nb_Gs ?_
      exact nb_Hu H W

theorem w_m_newName_0 {l1 : Int} {v2 : nb_V} {M : nb_M} {Q : List nb_V → nb_M → Prop} (W : nb_Lay M) (H : (M.1 603 13 = 0 → nb_W 96 0 [(20, 603), (98, 0)] [] M (fun r M3 => r = [] ∧ nb_Lay M3 ∧ (M3.1 603 13 = 0 → nb_W 97 0 [(20, 603), (98, 0), (98, 0), (98, 0)] [] M3 (fun r M7 => ∃ x6 : Int, r = [(0, x6)] ∧ nb_Lay M7 ∧ (x6 < 0 → (M7.1 603 13 = 0 → nb_W 98 10 [(20, 603), (0, l1), (0, 0)] [] M7 Q) ∧ (M7.1 603 13 ≠ 0 → (nb_Lay M7 → Q [] M7))) ∧ (0 ≤ x6 → nb_W 92 0 [(20, 603), (0, 3), (0, M7.1 603 4)] [] M7 (fun r M13 => r = [] ∧ nb_Lay M13 ∧ (M13.1 603 13 = 0 → nb_W 98 10 [(20, 603), (0, l1), (0, 0)] [] M13 Q) ∧ (M13.1 603 13 ≠ 0 → (nb_Lay M13 → Q [] M13)))))) ∧ (M3.1 603 13 ≠ 0 → (nb_Lay M3 → Q [] M3)))) ∧ (M.1 603 13 ≠ 0 → (nb_Lay M → Q [] M))) :
    nb_W 98 0 [(20, 603), (0, l1), v2] [] M Q := by
  replace H := nb_Hw H
  have E1 : nb_rd M 603 13 = M.1 603 13 := nb_rd_1 _ _ _
  refine nb_Wg (q_m_newName_0 _ _ _ _ (by omega)) ?_
  simp only [E1]
  clear E1
  refine nb_Gi (fun c20 => ?_) (fun c20 => ?_)
  · have H := nb_Hw ((nb_Hu H).1 c20)
    refine nb_Gr ?_
    refine nb_Wg (q_m_newName_2 _ _ _ _ (by omega)) ?_
    refine nb_Gb ?_
    refine nb_W.imp (nb_Hu H) (fun r M3 H => ?_)
    obtain ⟨rfl, W4, H⟩ := H
    replace H := nb_Hw H
    show nb_W 98 3 [(20, 603), (0, l1), v2] [] M3 _
    have E5 : nb_rd M3 603 13 = M3.1 603 13 := nb_rd_1 _ _ _
    refine nb_Wg (q_m_newName_3 _ _ _ _ (by omega)) ?_
    simp only [E5]
    clear E5
    refine nb_Gi (fun c19 => ?_) (fun c19 => ?_)
    · have H := nb_Hw ((nb_Hu H).1 c19)
      refine nb_Gr ?_
      refine nb_Wg (q_m_newName_4 _ _ _ _ (by omega)) ?_
      refine nb_Gb ?_
      refine nb_W.imp (nb_Hu H) (fun r M7 H => ?_)
      obtain ⟨x6, rfl, W8, H⟩ := H
      replace H := nb_Hw H
      show nb_W 98 5 [(20, 603), (0, l1), v2] [(0, x6)] M7 _
      refine nb_Wg (q_m_newName_5 _ _ _ _ _) ?_
      refine nb_Gi (fun c17 => ?_) (fun c17 => ?_)
      · have H := nb_Hw ((nb_Hu H).1 c17)
        refine nb_Gr ?_
        have E9 : nb_rd M7 603 13 = M7.1 603 13 := nb_rd_1 _ _ _
        refine nb_Wg (q_m_newName_7 _ _ _ _ (by omega)) ?_
        simp only [E9]
        clear E9
        refine nb_Gi (fun c10 => ?_) (fun c10 => ?_)
        · have H := nb_Hw ((nb_Hu H).1 c10)
          refine nb_Gr ?_
          refine nb_Wg (q_m_newName_9 _ _ _ _) ?_
          refine nb_Gr ?_
          exact nb_Hu H
        · have H := nb_Hw ((nb_Hu H).2 (by omega))
          have c10 : M7.1 603 13 ≠ 0 := by omega
          refine nb_Gr ?_
          refine nb_Wg (q_m_newName_8 _ _ _ _) ?_
          refine nb_Gs ?_
          exact nb_Hu H W8
      · have H := nb_Hw ((nb_Hu H).2 (by omega))
        have c17 : 0 ≤ x6 := by omega
        refine nb_Gr ?_
        have E11 : nb_rd M7 603 4 = M7.1 603 4 := nb_rd_1 _ _ _
        refine nb_Wg (q_m_newName_6 _ _ _ _ (by omega)) ?_
        simp only [E11]
        clear E11
        refine nb_Gb ?_
        refine nb_W.imp (nb_Hu H) (fun r M13 H => ?_)
        obtain ⟨rfl, W14, H⟩ := H
        replace H := nb_Hw H
        show nb_W 98 7 [(20, 603), (0, l1), v2] [] M13 _
        have E15 : nb_rd M13 603 13 = M13.1 603 13 := nb_rd_1 _ _ _
        refine nb_Wg (q_m_newName_7 _ _ _ _ (by omega)) ?_
        simp only [E15]
        clear E15
        refine nb_Gi (fun c16 => ?_) (fun c16 => ?_)
        · have H := nb_Hw ((nb_Hu H).1 c16)
          refine nb_Gr ?_
          refine nb_Wg (q_m_newName_9 _ _ _ _) ?_
          refine nb_Gr ?_
          exact nb_Hu H
        · have H := nb_Hw ((nb_Hu H).2 (by omega))
          have c16 : M13.1 603 13 ≠ 0 := by omega
          refine nb_Gr ?_
          refine nb_Wg (q_m_newName_8 _ _ _ _) ?_
          refine nb_Gs ?_
          exact nb_Hu H W14
    · have H := nb_Hw ((nb_Hu H).2 (by omega))
      have c19 : M3.1 603 13 ≠ 0 := by omega
      refine nb_Gr ?_
      have E18 : nb_rd M3 603 13 = M3.1 603 13 := nb_rd_1 _ _ _
      refine nb_Wg (q_m_newName_7 _ _ _ _ (by omega)) ?_
      simp only [E18]
      clear E18
      refine nb_Gf (by omega) ?_
      refine nb_Gr ?_
      refine nb_Wg (q_m_newName_8 _ _ _ _) ?_
      refine nb_Gs ?_
      exact nb_Hu H W4
  · have H := nb_Hw ((nb_Hu H).2 (by omega))
    have c20 : M.1 603 13 ≠ 0 := by omega
    refine nb_Gr ?_
    refine nb_Wg (q_m_newName_1 _ _ _ _) ?_
    refine nb_Gs ?_
    exact nb_Hu H W

theorem w_m_newName_10 {l1 l2 : Int} {M : nb_M} {Q : List nb_V → nb_M → Prop} (W : nb_Lay M) (H : (l2 < M.1 603 8 → 0 ≤ l2 ∧ l2 < 8 ∧ 0 ≤ nb_add (nb_add 203 (nb_mul 8 l1)) l2 ∧ nb_add (nb_add 203 (nb_mul 8 l1)) l2 < 347 ∧ nb_W 98 10 [(20, 603), (0, l1), (0, nb_add l2 1)] [] (nb_wr M 607 (nb_add (nb_add 203 (nb_mul 8 l1)) l2) (M.1 605 l2)) Q) ∧ (M.1 603 8 ≤ l2 → 0 ≤ nb_add 185 l1 ∧ nb_add 185 l1 < 347 ∧ nb_W 91 0 [(20, 603), (98, 0), (98, 0), (98, 0)] [] (nb_wr M 607 (nb_add 185 l1) (M.1 603 8)) (fun r M13 => r = [] ∧ nb_Lay M13 ∧ (nb_Lay M13 → Q [] M13)))) :
    nb_W 98 10 [(20, 603), (0, l1), (0, l2)] [] M Q := by
  replace H := nb_Hw H
  have E1 : nb_rd M 603 8 = M.1 603 8 := nb_rd_1 _ _ _
  refine nb_Wg (q_m_newName_10 _ _ _ _ (by omega)) ?_
  simp only [E1]
  clear E1
  refine nb_Gi (fun c15 => ?_) (fun c15 => ?_)
  · have H := nb_Hw ((nb_Hu H).1 c15)
    refine nb_Gr ?_
    obtain ⟨p0_, p1_, p2_, p3_, H⟩ := H
    replace H := nb_Hw H
    have E2 : nb_rd M 603 16 = 607 := W.m16
    have E3 : nb_rd M 603 12 = 605 := W.m12
    have N4 : nb_ln M 605 = 8 := W.lk (by decide) (by decide +kernel)
    have E5 : nb_rd M 605 l2 = M.1 605 l2 := nb_rd_1 _ _ _
    have N6 : nb_ln M 607 = 347 := W.lk (by decide) (by decide +kernel)
    refine nb_Wg (q_m_newName_11 _ _ _ _ (by omega) (by rw [E3]; first | done | omega) (by omega) (by rw [E3, N4]; first | done | omega) (by rw [E2]; first | done | omega) (by rw [E2]; first | done | omega) (by omega) (by rw [E2, N6]; first | done | omega)) ?_
    simp only [E2, E3, E5]
    clear E2 E3 N4 E5 N6
    have W7 : nb_Lay (nb_wr M 607 (nb_add (nb_add 203 (nb_mul 8 l1)) l2) (M.1 605 l2)) := W.wr (fun w => (nb_nnum (by decide) (by decide)))
    refine nb_Gr ?_
    refine nb_Wg (q_m_newName_12 _ _ _ _) ?_
    refine nb_Gr ?_
    exact nb_Hu H
  · have H := nb_Hw ((nb_Hu H).2 (by omega))
    have c15 : M.1 603 8 ≤ l2 := by omega
    refine nb_Gr ?_
    obtain ⟨p0_, p1_, H⟩ := H
    replace H := nb_Hw H
    have E8 : nb_rd M 603 16 = 607 := W.m16
    have E9 : nb_rd M 603 8 = M.1 603 8 := nb_rd_1 _ _ _
    have N10 : nb_ln M 607 = 347 := W.lk (by decide) (by decide +kernel)
    refine nb_Wg (q_m_newName_13 _ _ _ _ (by omega) (by rw [E8]; first | done | omega) (by rw [E8]; first | done | omega) (by omega) (by rw [E8, N10]; first | done | omega)) ?_
    simp only [E8, E9]
    clear E8 E9 N10
    have W11 : nb_Lay (nb_wr M 607 (nb_add 185 l1) (M.1 603 8)) := W.wr (fun w => (nb_nnum (by decide) (by decide)))
    refine nb_Gr ?_
    refine nb_Wg (q_m_newName_14 _ _ _ _ (by omega)) ?_
    refine nb_Gb ?_
    refine nb_W.imp (nb_Hu H) (fun r M13 H => ?_)
    obtain ⟨rfl, W14, H⟩ := H
    replace H := nb_Hw H
    show nb_W 98 15 [(20, 603), (0, l1), (0, l2)] [] M13 _
    refine nb_Wg (q_m_newName_15 _ _ _ _) ?_
    refine nb_Gs ?_
    exact nb_Hu H W14

theorem w_m_named_0 {l1 l2 : Int} {v3 : nb_V} {M : nb_M} {Q : List nb_V → nb_M → Prop} (W : nb_Lay M) (H : (M.1 603 13 = 0 → nb_W 96 0 [(20, 603), (98, 0)] [] M (fun r M3 => r = [] ∧ nb_Lay M3 ∧ (M3.1 603 13 = 0 → nb_W 97 0 [(20, 603), (98, 0), (98, 0), (98, 0)] [] M3 (fun r M7 => ∃ x6 : Int, r = [(0, x6)] ∧ nb_Lay M7 ∧ (x6 < l1 → nb_W 92 0 [(20, 603), (0, 2), (0, M7.1 603 4)] [] M7 (fun r M12 => r = [] ∧ nb_Lay M12 ∧ (M12.1 603 13 = 0 → (nb_Lay M12 → Q [(0, x6)] M12)) ∧ (M12.1 603 13 ≠ 0 → (nb_Lay M12 → Q [(0, l1)] M12)))) ∧ (l1 ≤ x6 → (l2 < x6 → nb_W 92 0 [(20, 603), (0, 2), (0, M7.1 603 4)] [] M7 (fun r M19 => r = [] ∧ nb_Lay M19 ∧ (M19.1 603 13 = 0 → (nb_Lay M19 → Q [(0, x6)] M19)) ∧ (M19.1 603 13 ≠ 0 → (nb_Lay M19 → Q [(0, l1)] M19)))) ∧ (x6 ≤ l2 → (M7.1 603 13 = 0 → (nb_Lay M7 → Q [(0, x6)] M7)) ∧ (M7.1 603 13 ≠ 0 → (nb_Lay M7 → Q [(0, l1)] M7)))))) ∧ (M3.1 603 13 ≠ 0 → (nb_Lay M3 → Q [(0, l1)] M3)))) ∧ (M.1 603 13 ≠ 0 → (nb_Lay M → Q [(0, l1)] M))) :
    nb_W 99 0 [(20, 603), (0, l1), (0, l2), v3] [] M Q := by
  replace H := nb_Hw H
  have E1 : nb_rd M 603 13 = M.1 603 13 := nb_rd_1 _ _ _
  refine nb_Wg (q_m_named_0 _ _ _ _ _ (by omega)) ?_
  simp only [E1]
  clear E1
  refine nb_Gi (fun c29 => ?_) (fun c29 => ?_)
  · have H := nb_Hw ((nb_Hu H).1 c29)
    refine nb_Gr ?_
    refine nb_Wg (q_m_named_2 _ _ _ _ _ (by omega)) ?_
    refine nb_Gb ?_
    refine nb_W.imp (nb_Hu H) (fun r M3 H => ?_)
    obtain ⟨rfl, W4, H⟩ := H
    replace H := nb_Hw H
    show nb_W 99 3 [(20, 603), (0, l1), (0, l2), v3] [] M3 _
    have E5 : nb_rd M3 603 13 = M3.1 603 13 := nb_rd_1 _ _ _
    refine nb_Wg (q_m_named_3 _ _ _ _ _ (by omega)) ?_
    simp only [E5]
    clear E5
    refine nb_Gi (fun c28 => ?_) (fun c28 => ?_)
    · have H := nb_Hw ((nb_Hu H).1 c28)
      refine nb_Gr ?_
      refine nb_Wg (q_m_named_5 _ _ _ _ _ (by omega)) ?_
      refine nb_Gb ?_
      refine nb_W.imp (nb_Hu H) (fun r M7 H => ?_)
      obtain ⟨x6, rfl, W8, H⟩ := H
      replace H := nb_Hw H
      show nb_W 99 6 [(20, 603), (0, l1), (0, l2), v3] [(0, x6)] M7 _
      refine nb_Wg (q_m_named_6 _ _ _ _ _ _) ?_
      refine nb_Gb ?_
      refine nb_Wg (q_m_within_0 _ _ _ _) ?_
      refine nb_Gi (fun c27 => ?_) (fun c27 => ?_)
      · have H := nb_Hw ((nb_Hu H).1 c27)
        refine nb_Gr ?_
        refine nb_Wg (q_m_within_3 _ _ _ _) ?_
        refine nb_Gr ?_
        have E9 : nb_i2z 0 = 0 := by decide
        refine nb_Wg (q_m_within_4 _ _ _ _ _) ?_
        simp only [E9]
        clear E9
        refine nb_Gs ?_
        show nb_W 99 7 [(20, 603), (0, l1), (0, l2), (0, x6)] [(0, 0)] M7 _
        refine nb_Wg (q_m_named_7 _ _ _ _ _ _) ?_
        refine nb_Gt (by decide) ?_
        refine nb_Gr ?_
        have E10 : nb_rd M7 603 4 = M7.1 603 4 := nb_rd_1 _ _ _
        refine nb_Wg (q_m_named_8 _ _ _ _ _ (by omega)) ?_
        simp only [E10]
        clear E10
        refine nb_Gb ?_
        refine nb_W.imp (nb_Hu H) (fun r M12 H => ?_)
        obtain ⟨rfl, W13, H⟩ := H
        replace H := nb_Hw H
        show nb_W 99 9 [(20, 603), (0, l1), (0, l2), (0, x6)] [] M12 _
        have E14 : nb_rd M12 603 13 = M12.1 603 13 := nb_rd_1 _ _ _
        refine nb_Wg (q_m_named_9 _ _ _ _ _ (by omega)) ?_
        simp only [E14]
        clear E14
        refine nb_Gi (fun c15 => ?_) (fun c15 => ?_)
        · have H := nb_Hw ((nb_Hu H).1 c15)
          refine nb_Gr ?_
          refine nb_Wg (q_m_named_11 _ _ _ _ _) ?_
          refine nb_Gr ?_
          refine nb_Wg (q_m_named_12 _ _ _ _ _ _) ?_
          refine nb_Gs ?_
          exact nb_Hu H W13
        · have H := nb_Hw ((nb_Hu H).2 (by omega))
          have c15 : M12.1 603 13 ≠ 0 := by omega
          refine nb_Gr ?_
          refine nb_Wg (q_m_named_10 _ _ _ _ _) ?_
          refine nb_Gr ?_
          refine nb_Wg (q_m_named_12 _ _ _ _ _ _) ?_
          refine nb_Gs ?_
          exact nb_Hu H W13
      · have H := nb_Hw ((nb_Hu H).2 (by omega))
        have c27 : l1 ≤ x6 := by omega
        refine nb_Gr ?_
        refine nb_Wg (q_m_within_1 _ _ _ _) ?_
        refine nb_Gi (fun c26 => ?_) (fun c26 => ?_)
        · have H := nb_Hw ((nb_Hu H).1 c26)
          refine nb_Gr ?_
          refine nb_Wg (q_m_within_3 _ _ _ _) ?_
          refine nb_Gr ?_
          have E16 : nb_i2z 0 = 0 := by decide
          refine nb_Wg (q_m_within_4 _ _ _ _ _) ?_
          simp only [E16]
          clear E16
          refine nb_Gs ?_
          show nb_W 99 7 [(20, 603), (0, l1), (0, l2), (0, x6)] [(0, 0)] M7 _
          refine nb_Wg (q_m_named_7 _ _ _ _ _ _) ?_
          refine nb_Gt (by decide) ?_
          refine nb_Gr ?_
          have E17 : nb_rd M7 603 4 = M7.1 603 4 := nb_rd_1 _ _ _
          refine nb_Wg (q_m_named_8 _ _ _ _ _ (by omega)) ?_
          simp only [E17]
          clear E17
          refine nb_Gb ?_
          refine nb_W.imp (nb_Hu H) (fun r M19 H => ?_)
          obtain ⟨rfl, W20, H⟩ := H
          replace H := nb_Hw H
          show nb_W 99 9 [(20, 603), (0, l1), (0, l2), (0, x6)] [] M19 _
          have E21 : nb_rd M19 603 13 = M19.1 603 13 := nb_rd_1 _ _ _
          refine nb_Wg (q_m_named_9 _ _ _ _ _ (by omega)) ?_
          simp only [E21]
          clear E21
          refine nb_Gi (fun c22 => ?_) (fun c22 => ?_)
          · have H := nb_Hw ((nb_Hu H).1 c22)
            refine nb_Gr ?_
            refine nb_Wg (q_m_named_11 _ _ _ _ _) ?_
            refine nb_Gr ?_
            refine nb_Wg (q_m_named_12 _ _ _ _ _ _) ?_
            refine nb_Gs ?_
            exact nb_Hu H W20
          · have H := nb_Hw ((nb_Hu H).2 (by omega))
            have c22 : M19.1 603 13 ≠ 0 := by omega
            refine nb_Gr ?_
            refine nb_Wg (q_m_named_10 _ _ _ _ _) ?_
            refine nb_Gr ?_
            refine nb_Wg (q_m_named_12 _ _ _ _ _ _) ?_
            refine nb_Gs ?_
            exact nb_Hu H W20
        · have H := nb_Hw ((nb_Hu H).2 (by omega))
          have c26 : x6 ≤ l2 := by omega
          refine nb_Gr ?_
          refine nb_Wg (q_m_within_2 _ _ _ _) ?_
          refine nb_Gr ?_
          have E23 : nb_i2z 1 = 1 := by decide
          refine nb_Wg (q_m_within_4 _ _ _ _ _) ?_
          simp only [E23]
          clear E23
          refine nb_Gs ?_
          show nb_W 99 7 [(20, 603), (0, l1), (0, l2), (0, x6)] [(0, 1)] M7 _
          refine nb_Wg (q_m_named_7 _ _ _ _ _ _) ?_
          refine nb_Gf (by decide) ?_
          refine nb_Gr ?_
          have E24 : nb_rd M7 603 13 = M7.1 603 13 := nb_rd_1 _ _ _
          refine nb_Wg (q_m_named_9 _ _ _ _ _ (by omega)) ?_
          simp only [E24]
          clear E24
          refine nb_Gi (fun c25 => ?_) (fun c25 => ?_)
          · have H := nb_Hw ((nb_Hu H).1 c25)
            refine nb_Gr ?_
            refine nb_Wg (q_m_named_11 _ _ _ _ _) ?_
            refine nb_Gr ?_
            refine nb_Wg (q_m_named_12 _ _ _ _ _ _) ?_
            refine nb_Gs ?_
            exact nb_Hu H W8
          · have H := nb_Hw ((nb_Hu H).2 (by omega))
            have c25 : M7.1 603 13 ≠ 0 := by omega
            refine nb_Gr ?_
            refine nb_Wg (q_m_named_10 _ _ _ _ _) ?_
            refine nb_Gr ?_
            refine nb_Wg (q_m_named_12 _ _ _ _ _ _) ?_
            refine nb_Gs ?_
            exact nb_Hu H W8
    · have H := nb_Hw ((nb_Hu H).2 (by omega))
      have c28 : M3.1 603 13 ≠ 0 := by omega
      refine nb_Gr ?_
      refine nb_Wg (q_m_named_4 _ _ _ _ _) ?_
      refine nb_Gs ?_
      exact nb_Hu H W4
  · have H := nb_Hw ((nb_Hu H).2 (by omega))
    have c29 : M.1 603 13 ≠ 0 := by omega
    refine nb_Gr ?_
    refine nb_Wg (q_m_named_1 _ _ _ _ _) ?_
    refine nb_Gs ?_
    exact nb_Hu H W

theorem w_m_personHere_0 {M : nb_M} {Q : List nb_V → nb_M → Prop} (W : nb_Lay M) (H : nb_W 99 0 [(20, 603), (0, 8), (0, 17), (98, 0)] [] M (fun r M2 => ∃ x1 : Int, r = [(0, x1)] ∧ nb_Lay M2 ∧ (nb_Lay M2 → Q [(0, nb_sub (nb_sub x1 5) 3)] M2))) :
    nb_W 100 0 [(20, 603)] [] M Q := by
  replace H := nb_Hw H
  refine nb_Wg (q_m_personHere_0 _ _ (by omega)) ?_
  refine nb_Gb ?_
  refine nb_W.imp (nb_Hu H) (fun r M2 H => ?_)
  obtain ⟨x1, rfl, W3, H⟩ := H
  replace H := nb_Hw H
  show nb_W 100 1 [(20, 603)] [(0, x1)] M2 _
  refine nb_Wg (q_m_personHere_1 _ _ _) ?_
  refine nb_Gs ?_
  exact nb_Hu H W3

theorem w_m_personPassed_0 {v1 : nb_V} {M : nb_M} {Q : List nb_V → nb_M → Prop} (W : nb_Lay M) (H : nb_W 100 0 [(20, 603)] [] M (fun r M2 => ∃ x1 : Int, r = [(0, x1)] ∧ nb_Lay M2 ∧ (M2.1 603 13 = 0 → nb_W 91 0 [(20, 603), (98, 0), (98, 0), (98, 0)] [] M2 (fun r M6 => r = [] ∧ nb_Lay M6 ∧ (nb_Lay M6 → Q [(0, x1)] M6))) ∧ (M2.1 603 13 ≠ 0 → (nb_Lay M2 → Q [(0, x1)] M2)))) :
    nb_W 101 0 [(20, 603), v1] [] M Q := by
  replace H := nb_Hw H
  refine nb_Wg (q_m_personPassed_0 _ _ _ (by omega)) ?_
  refine nb_Gb ?_
  refine nb_W.imp (nb_Hu H) (fun r M2 H => ?_)
  obtain ⟨x1, rfl, W3, H⟩ := H
  replace H := nb_Hw H
  show nb_W 101 1 [(20, 603), v1] [(0, x1)] M2 _
  have E4 : nb_rd M2 603 13 = M2.1 603 13 := nb_rd_1 _ _ _
  refine nb_Wg (q_m_personPassed_1 _ _ _ _ (by omega)) ?_
  simp only [E4]
  clear E4
  refine nb_Gi (fun c8 => ?_) (fun c8 => ?_)
  · have H := nb_Hw ((nb_Hu H).1 c8)
    refine nb_Gr ?_
    refine nb_Wg (q_m_personPassed_2 _ _ _ (by omega)) ?_
    refine nb_Gb ?_
    refine nb_W.imp (nb_Hu H) (fun r M6 H => ?_)
    obtain ⟨rfl, W7, H⟩ := H
    replace H := nb_Hw H
    show nb_W 101 3 [(20, 603), (0, x1)] [] M6 _
    refine nb_Wg (q_m_personPassed_3 _ _ _) ?_
    refine nb_Gs ?_
    exact nb_Hu H W7
  · have H := nb_Hw ((nb_Hu H).2 (by omega))
    have c8 : M2.1 603 13 ≠ 0 := by omega
    refine nb_Gr ?_
    refine nb_Wg (q_m_personPassed_3 _ _ _) ?_
    refine nb_Gs ?_
    exact nb_Hu H W3

theorem w_m_number_0 {l1 l2 : Int} {v3 : nb_V} {M : nb_M} {Q : List nb_V → nb_M → Prop} (W : nb_Lay M) (H : (M.1 603 13 = 0 → (M.1 603 6 = 3 → (M.1 603 7 < l1 → nb_W 92 0 [(20, 603), (0, 4), (0, M.1 603 4)] [] M (fun r M7 => r = [] ∧ nb_Lay M7 ∧ (nb_Lay M7 → Q [(0, l1)] M7))) ∧ (l1 ≤ M.1 603 7 → (l2 < M.1 603 7 → nb_W 92 0 [(20, 603), (0, 4), (0, M.1 603 4)] [] M (fun r M12 => r = [] ∧ nb_Lay M12 ∧ (nb_Lay M12 → Q [(0, l1)] M12))) ∧ (M.1 603 7 ≤ l2 → nb_W 91 0 [(20, 603), (98, 0), (98, 0), (98, 0)] [] M (fun r M16 => r = [] ∧ nb_Lay M16 ∧ (nb_Lay M16 → Q [(0, M.1 603 7)] M16))))) ∧ (M.1 603 6 ≠ 3 → nb_W 92 0 [(20, 603), (0, 1), (0, M.1 603 4)] [] M (fun r M22 => r = [] ∧ nb_Lay M22 ∧ (nb_Lay M22 → Q [(0, l1)] M22)))) ∧ (M.1 603 13 ≠ 0 → (nb_Lay M → Q [(0, l1)] M))) :
    nb_W 102 0 [(20, 603), (0, l1), (0, l2), v3] [] M Q := by
  replace H := nb_Hw H
  have E1 : nb_rd M 603 13 = M.1 603 13 := nb_rd_1 _ _ _
  refine nb_Wg (q_m_number_0 _ _ _ _ _ (by omega)) ?_
  simp only [E1]
  clear E1
  refine nb_Gi (fun c25 => ?_) (fun c25 => ?_)
  · have H := nb_Hw ((nb_Hu H).1 c25)
    refine nb_Gr ?_
    have E2 : nb_rd M 603 6 = M.1 603 6 := nb_rd_1 _ _ _
    refine nb_Wg (q_m_number_2 _ _ _ _ _ (by omega)) ?_
    simp only [E2]
    clear E2
    refine nb_Gi (fun c24 => ?_) (fun c24 => ?_)
    · have H := nb_Hw ((nb_Hu H).1 c24)
      refine nb_Gr ?_
      have E3 : nb_rd M 603 7 = M.1 603 7 := nb_rd_1 _ _ _
      refine nb_Wg (q_m_number_5 _ _ _ _ _ (by omega)) ?_
      simp only [E3]
      clear E3
      refine nb_Gb ?_
      refine nb_Wg (q_m_within_0 _ _ _ _) ?_
      refine nb_Gi (fun c19 => ?_) (fun c19 => ?_)
      · have H := nb_Hw ((nb_Hu H).1 c19)
        refine nb_Gr ?_
        refine nb_Wg (q_m_within_3 _ _ _ _) ?_
        refine nb_Gr ?_
        have E4 : nb_i2z 0 = 0 := by decide
        refine nb_Wg (q_m_within_4 _ _ _ _ _) ?_
        simp only [E4]
        clear E4
        refine nb_Gs ?_
        show nb_W 102 6 [(20, 603), (0, l1), (0, l2), (0, M.1 603 7)] [(0, 0)] M _
        refine nb_Wg (q_m_number_6 _ _ _ _ _ _) ?_
        refine nb_Gt (by decide) ?_
        refine nb_Gr ?_
        have E5 : nb_rd M 603 4 = M.1 603 4 := nb_rd_1 _ _ _
        refine nb_Wg (q_m_number_7 _ _ _ _ _ (by omega)) ?_
        simp only [E5]
        clear E5
        refine nb_Gb ?_
        refine nb_W.imp (nb_Hu H) (fun r M7 H => ?_)
        obtain ⟨rfl, W8, H⟩ := H
        replace H := nb_Hw H
        show nb_W 102 8 [(20, 603), (0, l1), (0, l2), (0, M.1 603 7)] [] M7 _
        refine nb_Wg (q_m_number_8 _ _ _ _ _) ?_
        refine nb_Gs ?_
        exact nb_Hu H W8
      · have H := nb_Hw ((nb_Hu H).2 (by omega))
        have c19 : l1 ≤ M.1 603 7 := by omega
        refine nb_Gr ?_
        refine nb_Wg (q_m_within_1 _ _ _ _) ?_
        refine nb_Gi (fun c18 => ?_) (fun c18 => ?_)
        · have H := nb_Hw ((nb_Hu H).1 c18)
          refine nb_Gr ?_
          refine nb_Wg (q_m_within_3 _ _ _ _) ?_
          refine nb_Gr ?_
          have E9 : nb_i2z 0 = 0 := by decide
          refine nb_Wg (q_m_within_4 _ _ _ _ _) ?_
          simp only [E9]
          clear E9
          refine nb_Gs ?_
          show nb_W 102 6 [(20, 603), (0, l1), (0, l2), (0, M.1 603 7)] [(0, 0)] M _
          refine nb_Wg (q_m_number_6 _ _ _ _ _ _) ?_
          refine nb_Gt (by decide) ?_
          refine nb_Gr ?_
          have E10 : nb_rd M 603 4 = M.1 603 4 := nb_rd_1 _ _ _
          refine nb_Wg (q_m_number_7 _ _ _ _ _ (by omega)) ?_
          simp only [E10]
          clear E10
          refine nb_Gb ?_
          refine nb_W.imp (nb_Hu H) (fun r M12 H => ?_)
          obtain ⟨rfl, W13, H⟩ := H
          replace H := nb_Hw H
          show nb_W 102 8 [(20, 603), (0, l1), (0, l2), (0, M.1 603 7)] [] M12 _
          refine nb_Wg (q_m_number_8 _ _ _ _ _) ?_
          refine nb_Gs ?_
          exact nb_Hu H W13
        · have H := nb_Hw ((nb_Hu H).2 (by omega))
          have c18 : M.1 603 7 ≤ l2 := by omega
          refine nb_Gr ?_
          refine nb_Wg (q_m_within_2 _ _ _ _) ?_
          refine nb_Gr ?_
          have E14 : nb_i2z 1 = 1 := by decide
          refine nb_Wg (q_m_within_4 _ _ _ _ _) ?_
          simp only [E14]
          clear E14
          refine nb_Gs ?_
          show nb_W 102 6 [(20, 603), (0, l1), (0, l2), (0, M.1 603 7)] [(0, 1)] M _
          refine nb_Wg (q_m_number_6 _ _ _ _ _ _) ?_
          refine nb_Gf (by decide) ?_
          refine nb_Gr ?_
          refine nb_Wg (q_m_number_9 _ _ _ _ _ (by omega)) ?_
          refine nb_Gb ?_
          refine nb_W.imp (nb_Hu H) (fun r M16 H => ?_)
          obtain ⟨rfl, W17, H⟩ := H
          replace H := nb_Hw H
          show nb_W 102 10 [(20, 603), (0, l1), (0, l2), (0, M.1 603 7)] [] M16 _
          refine nb_Wg (q_m_number_10 _ _ _ _ _) ?_
          refine nb_Gs ?_
          exact nb_Hu H W17
    · have H := nb_Hw ((nb_Hu H).2 (by omega))
      have c24 : M.1 603 6 ≠ 3 := by omega
      refine nb_Gr ?_
      have E20 : nb_rd M 603 4 = M.1 603 4 := nb_rd_1 _ _ _
      refine nb_Wg (q_m_number_3 _ _ _ _ _ (by omega)) ?_
      simp only [E20]
      clear E20
      refine nb_Gb ?_
      refine nb_W.imp (nb_Hu H) (fun r M22 H => ?_)
      obtain ⟨rfl, W23, H⟩ := H
      replace H := nb_Hw H
      show nb_W 102 4 [(20, 603), (0, l1), (0, l2), v3] [] M22 _
      refine nb_Wg (q_m_number_4 _ _ _ _ _) ?_
      refine nb_Gs ?_
      exact nb_Hu H W23
  · have H := nb_Hw ((nb_Hu H).2 (by omega))
    have c25 : M.1 603 13 ≠ 0 := by omega
    refine nb_Gr ?_
    refine nb_Wg (q_m_number_1 _ _ _ _ _) ?_
    refine nb_Gs ?_
    exact nb_Hu H W

theorem w_m_after_0 {l1 l2 l3 : Int} {M : nb_M} {Q : List nb_V → nb_M → Prop} (W : nb_Lay M) (H : nb_W 95 0 [(20, 603), (2, l1)] [] M (fun r M2 => r = [] ∧ nb_Lay M2 ∧ nb_W 102 0 [(20, 603), (0, l2), (0, l3), (98, 0)] [] M2 (fun r M5 => ∃ x4 : Int, r = [(0, x4)] ∧ nb_Lay M5 ∧ (nb_Lay M5 → Q [(0, x4)] M5)))) :
    nb_W 103 0 [(20, 603), (2, l1), (0, l2), (0, l3)] [] M Q := by
  replace H := nb_Hw H
  refine nb_Wg (q_m_after_0 _ _ _ _ _ (by omega)) ?_
  refine nb_Gb ?_
  refine nb_W.imp (nb_Hu H) (fun r M2 H => ?_)
  obtain ⟨rfl, W3, H⟩ := H
  replace H := nb_Hw H
  show nb_W 103 1 [(20, 603), (2, l1), (0, l2), (0, l3)] [] M2 _
  refine nb_Wg (q_m_after_1 _ _ _ _ _ (by omega)) ?_
  refine nb_Gb ?_
  refine nb_W.imp (nb_Hu H) (fun r M5 H => ?_)
  obtain ⟨x4, rfl, W6, H⟩ := H
  replace H := nb_Hw H
  show nb_W 103 2 [(20, 603), (2, l1), (0, l2), (0, l3)] [(0, x4)] M5 _
  refine nb_Wg (q_m_after_2 _ _ _ _ _ _) ?_
  refine nb_Gs ?_
  exact nb_Hu H W6

theorem w_m_comma_0 {M : nb_M} {Q : List nb_V → nb_M → Prop} (W : nb_Lay M) (H : (M.1 603 13 = 0 → (M.1 603 6 = 44 → nb_W 91 0 [(20, 603), (98, 0), (98, 0), (98, 0)] [] M (fun r M4 => r = [] ∧ nb_Lay M4 ∧ (nb_Lay M4 → Q [(0, 1)] M4))) ∧ (M.1 603 6 ≠ 44 → (nb_Lay M → Q [(0, 0)] M))) ∧ (M.1 603 13 ≠ 0 → (nb_Lay M → Q [(0, 0)] M))) :
    nb_W 104 0 [(20, 603)] [] M Q := by
  replace H := nb_Hw H
  have E1 : nb_rd M 603 13 = M.1 603 13 := nb_rd_1 _ _ _
  refine nb_Wg (q_m_comma_0 _ _ (by omega)) ?_
  simp only [E1]
  clear E1
  refine nb_Gi (fun c7 => ?_) (fun c7 => ?_)
  · have H := nb_Hw ((nb_Hu H).1 c7)
    refine nb_Gr ?_
    have E2 : nb_rd M 603 6 = M.1 603 6 := nb_rd_1 _ _ _
    refine nb_Wg (q_m_comma_1 _ _ (by omega)) ?_
    simp only [E2]
    clear E2
    refine nb_Gi (fun c6 => ?_) (fun c6 => ?_)
    · have H := nb_Hw ((nb_Hu H).1 c6)
      refine nb_Gr ?_
      refine nb_Wg (q_m_comma_3 _ _ (by omega)) ?_
      refine nb_Gb ?_
      refine nb_W.imp (nb_Hu H) (fun r M4 H => ?_)
      obtain ⟨rfl, W5, H⟩ := H
      replace H := nb_Hw H
      show nb_W 104 4 [(20, 603)] [] M4 _
      refine nb_Wg (q_m_comma_4 _ _) ?_
      refine nb_Gs ?_
      exact nb_Hu H W5
    · have H := nb_Hw ((nb_Hu H).2 (by omega))
      have c6 : M.1 603 6 ≠ 44 := by omega
      refine nb_Gr ?_
      refine nb_Wg (q_m_comma_2 _ _) ?_
      refine nb_Gs ?_
      exact nb_Hu H W
  · have H := nb_Hw ((nb_Hu H).2 (by omega))
    have c7 : M.1 603 13 ≠ 0 := by omega
    refine nb_Gr ?_
    refine nb_Wg (q_m_comma_2 _ _) ?_
    refine nb_Gs ?_
    exact nb_Hu H W

theorem w_m_begins_0 {l1 l2 : Int} {M : nb_M} {Q : List nb_V → nb_M → Prop} (W : nb_Lay M) (H : nb_W 93 0 [(20, 603), (2, l1), (98, 0), (98, 0)] [] M (fun r M2 => ∃ x1 : Int, r = [(0, x1)] ∧ nb_Lay M2 ∧ (x1 = 0 → (nb_Lay M2 → Q [(0, 0)] M2)) ∧ (x1 ≠ 0 → (l2 = 0 → nb_W 92 0 [(20, 603), (0, 5), (0, M2.1 603 4)] [] M2 (fun r M6 => r = [] ∧ nb_Lay M6 ∧ (M6.1 607 0 = 0 → nb_W 92 0 [(20, 603), (0, 6), (0, M6.1 603 4)] [] M6 (fun r M13 => r = [] ∧ nb_Lay M13 ∧ (M13.1 603 13 = 0 → nb_W 91 0 [(20, 603), (98, 0), (98, 0), (98, 0)] [] M13 (fun r M17 => r = [] ∧ nb_Lay M17 ∧ (nb_Lay M17 → Q [(0, 1)] M17))) ∧ (M13.1 603 13 ≠ 0 → (nb_Lay M13 → Q [(0, 1)] M13)))) ∧ (M6.1 607 0 ≠ 0 → (M6.1 603 13 = 0 → nb_W 91 0 [(20, 603), (98, 0), (98, 0), (98, 0)] [] M6 (fun r M22 => r = [] ∧ nb_Lay M22 ∧ (nb_Lay M22 → Q [(0, 1)] M22))) ∧ (M6.1 603 13 ≠ 0 → (nb_Lay M6 → Q [(0, 1)] M6))))) ∧ (l2 ≠ 0 → (M2.1 607 0 = 0 → nb_W 92 0 [(20, 603), (0, 6), (0, M2.1 603 4)] [] M2 (fun r M31 => r = [] ∧ nb_Lay M31 ∧ (M31.1 603 13 = 0 → nb_W 91 0 [(20, 603), (98, 0), (98, 0), (98, 0)] [] M31 (fun r M35 => r = [] ∧ nb_Lay M35 ∧ (nb_Lay M35 → Q [(0, 1)] M35))) ∧ (M31.1 603 13 ≠ 0 → (nb_Lay M31 → Q [(0, 1)] M31)))) ∧ (M2.1 607 0 ≠ 0 → (M2.1 603 13 = 0 → nb_W 91 0 [(20, 603), (98, 0), (98, 0), (98, 0)] [] M2 (fun r M40 => r = [] ∧ nb_Lay M40 ∧ (nb_Lay M40 → Q [(0, 1)] M40))) ∧ (M2.1 603 13 ≠ 0 → (nb_Lay M2 → Q [(0, 1)] M2))))))) :
    nb_W 106 0 [(20, 603), (2, l1), (0, l2)] [] M Q := by
  replace H := nb_Hw H
  refine nb_Wg (q_m_begins_0 _ _ _ _ (by omega)) ?_
  refine nb_Gb ?_
  refine nb_W.imp (nb_Hu H) (fun r M2 H => ?_)
  obtain ⟨x1, rfl, W3, H⟩ := H
  replace H := nb_Hw H
  show nb_W 106 1 [(20, 603), (2, l1), (0, l2)] [(0, x1)] M2 _
  refine nb_Wg (q_m_begins_1 _ _ _ _ _) ?_
  refine nb_Gi (fun c45 => ?_) (fun c45 => ?_)
  · have H := nb_Hw ((nb_Hu H).1 c45)
    refine nb_Gr ?_
    refine nb_Wg (q_m_begins_2 _ _ _ _) ?_
    refine nb_Gs ?_
    exact nb_Hu H W3
  · have H := nb_Hw ((nb_Hu H).2 (by omega))
    have c45 : x1 ≠ 0 := by omega
    refine nb_Gr ?_
    refine nb_Wg (q_m_begins_3 _ _ _ _) ?_
    refine nb_Gi (fun c44 => ?_) (fun c44 => ?_)
    · have H := nb_Hw ((nb_Hu H).1 c44)
      refine nb_Gr ?_
      have E4 : nb_rd M2 603 4 = M2.1 603 4 := nb_rd_1 _ _ _
      refine nb_Wg (q_m_begins_4 _ _ _ _ (by omega)) ?_
      simp only [E4]
      clear E4
      refine nb_Gb ?_
      refine nb_W.imp (nb_Hu H) (fun r M6 H => ?_)
      obtain ⟨rfl, W7, H⟩ := H
      replace H := nb_Hw H
      show nb_W 106 5 [(20, 603), (2, l1), (0, l2)] [] M6 _
      have E8 : nb_rd M6 603 16 = 607 := W7.m16
      have N9 : nb_ln M6 607 = 347 := W7.lk (by decide) (by decide +kernel)
      have E10 : nb_rd M6 607 0 = M6.1 607 0 := nb_rd_1 _ _ _
      refine nb_Wg (q_m_begins_5 _ _ _ _ (by omega) (by rw [E8]; first | done | omega) (by omega) (by rw [E8, N9]; first | done | omega)) ?_
      simp only [E8, E10]
      clear E8 N9 E10
      refine nb_Gi (fun c25 => ?_) (fun c25 => ?_)
      · have H := nb_Hw ((nb_Hu H).1 c25)
        refine nb_Gr ?_
        have E11 : nb_rd M6 603 4 = M6.1 603 4 := nb_rd_1 _ _ _
        refine nb_Wg (q_m_begins_6 _ _ _ _ (by omega)) ?_
        simp only [E11]
        clear E11
        refine nb_Gb ?_
        refine nb_W.imp (nb_Hu H) (fun r M13 H => ?_)
        obtain ⟨rfl, W14, H⟩ := H
        replace H := nb_Hw H
        show nb_W 106 7 [(20, 603), (2, l1), (0, l2)] [] M13 _
        have E15 : nb_rd M13 603 13 = M13.1 603 13 := nb_rd_1 _ _ _
        refine nb_Wg (q_m_begins_7 _ _ _ _ (by omega)) ?_
        simp only [E15]
        clear E15
        refine nb_Gi (fun c19 => ?_) (fun c19 => ?_)
        · have H := nb_Hw ((nb_Hu H).1 c19)
          refine nb_Gr ?_
          refine nb_Wg (q_m_begins_8 _ _ _ _ (by omega)) ?_
          refine nb_Gb ?_
          refine nb_W.imp (nb_Hu H) (fun r M17 H => ?_)
          obtain ⟨rfl, W18, H⟩ := H
          replace H := nb_Hw H
          show nb_W 106 9 [(20, 603), (2, l1), (0, l2)] [] M17 _
          refine nb_Wg (q_m_begins_9 _ _ _ _) ?_
          refine nb_Gs ?_
          exact nb_Hu H W18
        · have H := nb_Hw ((nb_Hu H).2 (by omega))
          have c19 : M13.1 603 13 ≠ 0 := by omega
          refine nb_Gr ?_
          refine nb_Wg (q_m_begins_9 _ _ _ _) ?_
          refine nb_Gs ?_
          exact nb_Hu H W14
      · have H := nb_Hw ((nb_Hu H).2 (by omega))
        have c25 : M6.1 607 0 ≠ 0 := by omega
        refine nb_Gr ?_
        have E20 : nb_rd M6 603 13 = M6.1 603 13 := nb_rd_1 _ _ _
        refine nb_Wg (q_m_begins_7 _ _ _ _ (by omega)) ?_
        simp only [E20]
        clear E20
        refine nb_Gi (fun c24 => ?_) (fun c24 => ?_)
        · have H := nb_Hw ((nb_Hu H).1 c24)
          refine nb_Gr ?_
          refine nb_Wg (q_m_begins_8 _ _ _ _ (by omega)) ?_
          refine nb_Gb ?_
          refine nb_W.imp (nb_Hu H) (fun r M22 H => ?_)
          obtain ⟨rfl, W23, H⟩ := H
          replace H := nb_Hw H
          show nb_W 106 9 [(20, 603), (2, l1), (0, l2)] [] M22 _
          refine nb_Wg (q_m_begins_9 _ _ _ _) ?_
          refine nb_Gs ?_
          exact nb_Hu H W23
        · have H := nb_Hw ((nb_Hu H).2 (by omega))
          have c24 : M6.1 603 13 ≠ 0 := by omega
          refine nb_Gr ?_
          refine nb_Wg (q_m_begins_9 _ _ _ _) ?_
          refine nb_Gs ?_
          exact nb_Hu H W7
    · have H := nb_Hw ((nb_Hu H).2 (by omega))
      have c44 : l2 ≠ 0 := by omega
      refine nb_Gr ?_
      have E26 : nb_rd M2 603 16 = 607 := W3.m16
      have N27 : nb_ln M2 607 = 347 := W3.lk (by decide) (by decide +kernel)
      have E28 : nb_rd M2 607 0 = M2.1 607 0 := nb_rd_1 _ _ _
      refine nb_Wg (q_m_begins_5 _ _ _ _ (by omega) (by rw [E26]; first | done | omega) (by omega) (by rw [E26, N27]; first | done | omega)) ?_
      simp only [E26, E28]
      clear E26 N27 E28
      refine nb_Gi (fun c43 => ?_) (fun c43 => ?_)
      · have H := nb_Hw ((nb_Hu H).1 c43)
        refine nb_Gr ?_
        have E29 : nb_rd M2 603 4 = M2.1 603 4 := nb_rd_1 _ _ _
        refine nb_Wg (q_m_begins_6 _ _ _ _ (by omega)) ?_
        simp only [E29]
        clear E29
        refine nb_Gb ?_
        refine nb_W.imp (nb_Hu H) (fun r M31 H => ?_)
        obtain ⟨rfl, W32, H⟩ := H
        replace H := nb_Hw H
        show nb_W 106 7 [(20, 603), (2, l1), (0, l2)] [] M31 _
        have E33 : nb_rd M31 603 13 = M31.1 603 13 := nb_rd_1 _ _ _
        refine nb_Wg (q_m_begins_7 _ _ _ _ (by omega)) ?_
        simp only [E33]
        clear E33
        refine nb_Gi (fun c37 => ?_) (fun c37 => ?_)
        · have H := nb_Hw ((nb_Hu H).1 c37)
          refine nb_Gr ?_
          refine nb_Wg (q_m_begins_8 _ _ _ _ (by omega)) ?_
          refine nb_Gb ?_
          refine nb_W.imp (nb_Hu H) (fun r M35 H => ?_)
          obtain ⟨rfl, W36, H⟩ := H
          replace H := nb_Hw H
          show nb_W 106 9 [(20, 603), (2, l1), (0, l2)] [] M35 _
          refine nb_Wg (q_m_begins_9 _ _ _ _) ?_
          refine nb_Gs ?_
          exact nb_Hu H W36
        · have H := nb_Hw ((nb_Hu H).2 (by omega))
          have c37 : M31.1 603 13 ≠ 0 := by omega
          refine nb_Gr ?_
          refine nb_Wg (q_m_begins_9 _ _ _ _) ?_
          refine nb_Gs ?_
          exact nb_Hu H W32
      · have H := nb_Hw ((nb_Hu H).2 (by omega))
        have c43 : M2.1 607 0 ≠ 0 := by omega
        refine nb_Gr ?_
        have E38 : nb_rd M2 603 13 = M2.1 603 13 := nb_rd_1 _ _ _
        refine nb_Wg (q_m_begins_7 _ _ _ _ (by omega)) ?_
        simp only [E38]
        clear E38
        refine nb_Gi (fun c42 => ?_) (fun c42 => ?_)
        · have H := nb_Hw ((nb_Hu H).1 c42)
          refine nb_Gr ?_
          refine nb_Wg (q_m_begins_8 _ _ _ _ (by omega)) ?_
          refine nb_Gb ?_
          refine nb_W.imp (nb_Hu H) (fun r M40 H => ?_)
          obtain ⟨rfl, W41, H⟩ := H
          replace H := nb_Hw H
          show nb_W 106 9 [(20, 603), (2, l1), (0, l2)] [] M40 _
          refine nb_Wg (q_m_begins_9 _ _ _ _) ?_
          refine nb_Gs ?_
          exact nb_Hu H W41
        · have H := nb_Hw ((nb_Hu H).2 (by omega))
          have c42 : M2.1 603 13 ≠ 0 := by omega
          refine nb_Gr ?_
          refine nb_Wg (q_m_begins_9 _ _ _ _) ?_
          refine nb_Gs ?_
          exact nb_Hu H W3

