/-! rules, printed by wip/gen -/
theorem w_c_feed_0 {l1 l2 l3 l4 l5 : Int} {M : nb_M} {Q : List nb_V → nb_M → Prop} (W : nb_Lay M) (H : 0 ≤ M.1 2 1 ∧ M.1 2 1 ≤ 1000 ∧ (1000 < M.1 2 1 + 20 → (nb_Lay M → Q [(0, (-1))] M)) ∧ (M.1 2 1 + 20 ≤ 1000 → nb_W 3 0 [(19, 2), (0, l1), (98, 0)] [] M (fun r M4 => r = [] ∧ nb_Lay M4 ∧ nb_W 3 0 [(19, 2), (0, l2), (98, 0)] [] M4 (fun r M7 => r = [] ∧ nb_Lay M7 ∧ nb_W 3 0 [(19, 2), (0, l3), (98, 0)] [] M7 (fun r M10 => r = [] ∧ nb_Lay M10 ∧ nb_W 3 0 [(19, 2), (0, l4), (98, 0)] [] M10 (fun r M13 => r = [] ∧ nb_Lay M13 ∧ nb_W 3 0 [(19, 2), (0, l5), (98, 0)] [] M13 (fun r M16 => r = [] ∧ nb_Lay M16 ∧ (nb_Lay M16 → Q [(0, M16.1 2 1)] M16)))))))) :
    nb_W 2 0 [(19, 2), (0, l1), (0, l2), (0, l3), (0, l4), (0, l5)] [] M Q := by
  replace H := nb_Hw H
  obtain ⟨p0_, p1_, H⟩ := H
  replace H := nb_Hw H
  have E1 : nb_rd M 2 1 = M.1 2 1 := nb_rd_1 _ _ _
  have E2 : nb_add (M.1 2 1) 20 = M.1 2 1 + 20 := nb_add_eq (by omega) (by omega)
  refine nb_Wg (q_c_feed_0 _ _ _ _ _ _ _ (by omega)) ?_
  simp only [E1, E2]
  clear E1 E2
  refine nb_Gi (fun c19 => ?_) (fun c19 => ?_)
  · have H := nb_Hw ((nb_Hu H).1 c19)
    refine nb_Gr ?_
    refine nb_Wg (q_c_feed_1 _ _ _ _ _ _ _) ?_
    refine nb_Gs ?_
    exact nb_Hu H W
  · have H := nb_Hw ((nb_Hu H).2 (by omega))
    have c19 : M.1 2 1 + 20 ≤ 1000 := by omega
    refine nb_Gr ?_
    refine nb_Wg (q_c_feed_2 _ _ _ _ _ _ _ (by omega)) ?_
    refine nb_Gb ?_
    refine nb_W.imp (nb_Hu H) (fun r M4 H => ?_)
    obtain ⟨rfl, W5, H⟩ := H
    replace H := nb_Hw H
    show nb_W 2 3 [(19, 2), (0, l1), (0, l2), (0, l3), (0, l4), (0, l5)] [] M4 _
    refine nb_Wg (q_c_feed_3 _ _ _ _ _ _ _ (by omega)) ?_
    refine nb_Gb ?_
    refine nb_W.imp (nb_Hu H) (fun r M7 H => ?_)
    obtain ⟨rfl, W8, H⟩ := H
    replace H := nb_Hw H
    show nb_W 2 4 [(19, 2), (0, l1), (0, l2), (0, l3), (0, l4), (0, l5)] [] M7 _
    refine nb_Wg (q_c_feed_4 _ _ _ _ _ _ _ (by omega)) ?_
    refine nb_Gb ?_
    refine nb_W.imp (nb_Hu H) (fun r M10 H => ?_)
    obtain ⟨rfl, W11, H⟩ := H
    replace H := nb_Hw H
    show nb_W 2 5 [(19, 2), (0, l1), (0, l2), (0, l3), (0, l4), (0, l5)] [] M10 _
    refine nb_Wg (q_c_feed_5 _ _ _ _ _ _ _ (by omega)) ?_
    refine nb_Gb ?_
    refine nb_W.imp (nb_Hu H) (fun r M13 H => ?_)
    obtain ⟨rfl, W14, H⟩ := H
    replace H := nb_Hw H
    show nb_W 2 6 [(19, 2), (0, l1), (0, l2), (0, l3), (0, l4), (0, l5)] [] M13 _
    refine nb_Wg (q_c_feed_6 _ _ _ _ _ _ _ (by omega)) ?_
    refine nb_Gb ?_
    refine nb_W.imp (nb_Hu H) (fun r M16 H => ?_)
    obtain ⟨rfl, W17, H⟩ := H
    replace H := nb_Hw H
    show nb_W 2 7 [(19, 2), (0, l1), (0, l2), (0, l3), (0, l4), (0, l5)] [] M16 _
    have E18 : nb_rd M16 2 1 = M16.1 2 1 := nb_rd_1 _ _ _
    refine nb_Wg (q_c_feed_7 _ _ _ _ _ _ _ (by omega)) ?_
    simp only [E18]
    clear E18
    refine nb_Gs ?_
    exact nb_Hu H W17

theorem w_c_putBytes_0 {l1 : Int} {v2 : nb_V} {M : nb_M} {Q : List nb_V → nb_M → Prop} (W : nb_Lay M) (H : nb_W 3 1 [(19, 2), (0, l1), (0, 24)] [] M Q) :
    nb_W 3 0 [(19, 2), (0, l1), v2] [] M Q := by
  replace H := nb_Hw H
  refine nb_Wg (q_c_putBytes_0 _ _ _ _) ?_
  refine nb_Gr ?_
  exact nb_Hu H

theorem w_c_putBytes_1 {l1 l2 : Int} {M : nb_M} {Q : List nb_V → nb_M → Prop} (W : nb_Lay M)  (b0_ : (-8) ≤ l2 ∧ l2 ≤ 24) (H : (l2 < 0 → (nb_Lay M → Q [] M)) ∧ (0 ≤ l2 → 0 ≤ M.1 2 1 ∧ M.1 2 1 ≤ 1000 ∧ (M.1 2 1 < 1000 → nb_W 3 1 [(19, 2), (0, l1), (0, l2 - 8)] [] (nb_wr (nb_wr M 3 (M.1 2 1) (nb_i2b (nb_i2b (nb_shr l1 l2)))) 2 1 (M.1 2 1 + 1)) Q) ∧ (1000 ≤ M.1 2 1 → (nb_Lay M → Q [] M)))) :
    nb_W 3 1 [(19, 2), (0, l1), (0, l2)] [] M Q := by
  replace H := nb_Hw H
  refine nb_Wg (q_c_putBytes_1 _ _ _ _) ?_
  refine nb_Gi (fun c11 => ?_) (fun c11 => ?_)
  · have H := nb_Hw ((nb_Hu H).1 c11)
    refine nb_Gr ?_
    refine nb_Wg (q_c_putBytes_6 _ _ _ _) ?_
    refine nb_Gs ?_
    exact nb_Hu H W
  · have H := nb_Hw ((nb_Hu H).2 (by omega))
    have c11 : 0 ≤ l2 := by omega
    refine nb_Gr ?_
    obtain ⟨p0_, p1_, H⟩ := H
    replace H := nb_Hw H
    have E1 : nb_rd M 2 1 = M.1 2 1 := nb_rd_1 _ _ _
    refine nb_Wg (q_c_putBytes_2 _ _ _ _ (by omega)) ?_
    simp only [E1]
    clear E1
    refine nb_Gi (fun c10 => ?_) (fun c10 => ?_)
    · have H := nb_Hw ((nb_Hu H).1 c10)
      refine nb_Gr ?_
      have E2 : nb_rd M 2 0 = 3 := W.c0
      have E3 : nb_rd M 2 1 = M.1 2 1 := nb_rd_1 _ _ _
      have N4 : nb_ln M 3 = 1000 := W.lk (by decide) (by decide +kernel)
      refine nb_Wg (q_c_putBytes_3 _ _ _ _ (by omega) (by rw [E2]; first | done | omega) (by rw [E2]; first | done | omega) (by rw [E3]; first | done | omega) (by rw [E3, E2, N4]; first | done | omega)) ?_
      simp only [E2, E3]
      clear E2 E3 N4
      have W5 : nb_Lay (nb_wr M 3 (M.1 2 1) (nb_i2b (nb_i2b (nb_shr l1 l2)))) := W.wr (fun w => (nb_nnum (by decide) (by decide)))
      refine nb_Gr ?_
      have E6 : nb_rd (nb_wr M 3 (M.1 2 1) (nb_i2b (nb_i2b (nb_shr l1 l2)))) 2 1 = M.1 2 1 := nb_rdw (Or.inl (by decide)) (nb_rd_1 _ _ _)
      have E7 : nb_add (M.1 2 1) 1 = M.1 2 1 + 1 := nb_add_eq (by omega) (by omega)
      refine nb_Wg (q_c_putBytes_4 _ _ _ _ (by omega)) ?_
      simp only [E6, E7]
      clear E6 E7
      have W8 : nb_Lay (nb_wr (nb_wr M 3 (M.1 2 1) (nb_i2b (nb_i2b (nb_shr l1 l2)))) 2 1 (M.1 2 1 + 1)) := W5.wr (fun w => (nb_nlit (by decide) (by decide)))
      refine nb_Gr ?_
      have E9 : nb_add l2 (-8) = l2 - 8 := (nb_add_eq (x := l2) (y := (-8)) (by omega) (by omega)).trans (by omega)
      refine nb_Wg (q_c_putBytes_5 _ _ _ _) ?_
      simp only [E9]
      clear E9
      refine nb_Gr ?_
      exact nb_Hu H
    · have H := nb_Hw ((nb_Hu H).2 (by omega))
      have c10 : 1000 ≤ M.1 2 1 := by omega
      refine nb_Gr ?_
      refine nb_Wg (q_c_putBytes_6 _ _ _ _) ?_
      refine nb_Gs ?_
      exact nb_Hu H W

theorem w_m_feed_0 {l1 l2 l3 l4 l5 : Int} {v6 v7 : nb_V} {M : nb_M} {Q : List nb_V → nb_M → Prop} (W : nb_Lay M) (H : 0 ≤ M.1 603 2 ∧ M.1 603 2 ≤ 1000 ∧ (1000 < M.1 603 2 + 20 → (nb_Lay (nb_wr M 603 0 0) → Q [(0, (-1))] (nb_wr M 603 0 0))) ∧ (M.1 603 2 + 20 ≤ 1000 → nb_W 87 4 [(20, 603), (0, l1), (0, l2), (0, l3), (0, l4), (0, l5), (0, 0), v7] [] (nb_wr M 603 0 0) Q)) :
    nb_W 87 0 [(20, 603), (0, l1), (0, l2), (0, l3), (0, l4), (0, l5), v6, v7] [] M Q := by
  replace H := nb_Hw H
  refine nb_Wg (q_m_feed_0 _ _ _ _ _ _ _ _ _ (by omega)) ?_
  have W1 : nb_Lay (nb_wr M 603 0 0) := W.wr (fun w => (nb_nlit (by decide) (by decide)))
  refine nb_Gr ?_
  obtain ⟨p0_, p1_, H⟩ := H
  replace H := nb_Hw H
  have E2 : nb_rd (nb_wr M 603 0 0) 603 2 = M.1 603 2 := nb_rdw (Or.inr (by decide)) (nb_rd_1 _ _ _)
  have E3 : nb_add (M.1 603 2) 20 = M.1 603 2 + 20 := nb_add_eq (by omega) (by omega)
  refine nb_Wg (q_m_feed_1 _ _ _ _ _ _ _ _ _ (by omega)) ?_
  simp only [E2, E3]
  clear E2 E3
  refine nb_Gi (fun c4 => ?_) (fun c4 => ?_)
  · have H := nb_Hw ((nb_Hu H).1 c4)
    refine nb_Gr ?_
    refine nb_Wg (q_m_feed_2 _ _ _ _ _ _ _ _ _) ?_
    refine nb_Gs ?_
    exact nb_Hu H W1
  · have H := nb_Hw ((nb_Hu H).2 (by omega))
    have c4 : M.1 603 2 + 20 ≤ 1000 := by omega
    refine nb_Gr ?_
    refine nb_Wg (q_m_feed_3 _ _ _ _ _ _ _ _ _) ?_
    refine nb_Gr ?_
    exact nb_Hu H

theorem w_m_feed_4 {l1 l2 l3 l4 l5 l6 : Int} {v7 : nb_V} {M : nb_M} {Q : List nb_V → nb_M → Prop} (W : nb_Lay M)  (b0_ : 0 ≤ l6 ∧ l6 ≤ 20) (H : (l6 < 20 → (l6 < 4 → 0 ≤ M.1 603 2 ∧ M.1 603 2 ≤ 1000 ∧ M.1 603 2 < 1000 ∧ nb_W 87 4 [(20, 603), (0, l1), (0, l2), (0, l3), (0, l4), (0, l5), (0, l6 + 1), (0, l1)] [] (nb_wr (nb_wr M 604 (M.1 603 2) (nb_and (nb_shr l1 (nb_sub 24 (nb_mul 8 (nb_rem l6 4)))) 255)) 603 2 (M.1 603 2 + 1)) Q) ∧ (4 ≤ l6 → (l6 < 8 → 0 ≤ M.1 603 2 ∧ M.1 603 2 ≤ 1000 ∧ M.1 603 2 < 1000 ∧ nb_W 87 4 [(20, 603), (0, l1), (0, l2), (0, l3), (0, l4), (0, l5), (0, l6 + 1), (0, l2)] [] (nb_wr (nb_wr M 604 (M.1 603 2) (nb_and (nb_shr l2 (nb_sub 24 (nb_mul 8 (nb_rem l6 4)))) 255)) 603 2 (M.1 603 2 + 1)) Q) ∧ (8 ≤ l6 → (l6 < 12 → 0 ≤ M.1 603 2 ∧ M.1 603 2 ≤ 1000 ∧ M.1 603 2 < 1000 ∧ nb_W 87 4 [(20, 603), (0, l1), (0, l2), (0, l3), (0, l4), (0, l5), (0, l6 + 1), (0, l3)] [] (nb_wr (nb_wr M 604 (M.1 603 2) (nb_and (nb_shr l3 (nb_sub 24 (nb_mul 8 (nb_rem l6 4)))) 255)) 603 2 (M.1 603 2 + 1)) Q) ∧ (12 ≤ l6 → (l6 < 16 → 0 ≤ M.1 603 2 ∧ M.1 603 2 ≤ 1000 ∧ M.1 603 2 < 1000 ∧ nb_W 87 4 [(20, 603), (0, l1), (0, l2), (0, l3), (0, l4), (0, l5), (0, l6 + 1), (0, l4)] [] (nb_wr (nb_wr M 604 (M.1 603 2) (nb_and (nb_shr l4 (nb_sub 24 (nb_mul 8 (nb_rem l6 4)))) 255)) 603 2 (M.1 603 2 + 1)) Q) ∧ (16 ≤ l6 → 0 ≤ M.1 603 2 ∧ M.1 603 2 ≤ 1000 ∧ M.1 603 2 < 1000 ∧ nb_W 87 4 [(20, 603), (0, l1), (0, l2), (0, l3), (0, l4), (0, l5), (0, l6 + 1), (0, l5)] [] (nb_wr (nb_wr M 604 (M.1 603 2) (nb_and (nb_shr l5 (nb_sub 24 (nb_mul 8 (nb_rem l6 4)))) 255)) 603 2 (M.1 603 2 + 1)) Q))))) ∧ (20 ≤ l6 → 0 ≤ M.1 603 2 ∧ M.1 603 2 ≤ 1000 ∧ (nb_Lay M → Q [(0, M.1 603 2)] M))) :
    nb_W 87 4 [(20, 603), (0, l1), (0, l2), (0, l3), (0, l4), (0, l5), (0, l6), v7] [] M Q := by
  replace H := nb_Hw H
  refine nb_Wg (q_m_feed_4 _ _ _ _ _ _ _ _ _) ?_
  refine nb_Gi (fun c46 => ?_) (fun c46 => ?_)
  · have H := nb_Hw ((nb_Hu H).1 c46)
    refine nb_Gr ?_
    refine nb_Wg (q_m_feed_5 _ _ _ _ _ _ _ _ _) ?_
    refine nb_Gi (fun c44 => ?_) (fun c44 => ?_)
    · have H := nb_Hw ((nb_Hu H).1 c44)
      refine nb_Gr ?_
      refine nb_Wg (q_m_feed_6 _ _ _ _ _ _ _ _ _) ?_
      refine nb_Gr ?_
      obtain ⟨p0_, p1_, p2_, H⟩ := H
      replace H := nb_Hw H
      have E1 : nb_rd M 603 1 = 604 := W.m1
      have E2 : nb_rd M 603 2 = M.1 603 2 := nb_rd_1 _ _ _
      have N3 : nb_ln M 604 = 1000 := W.lk (by decide) (by decide +kernel)
      refine nb_Wg (q_m_feed_14 _ _ _ _ _ _ _ _ _ _ (by omega) (by rw [E1]; first | done | omega) (by rw [E1]; first | done | omega) (by rw [E2]; first | done | omega) (by rw [E2, E1, N3]; first | done | omega)) ?_
      simp only [E1, E2]
      clear E1 E2 N3
      have W4 : nb_Lay (nb_wr M 604 (M.1 603 2) (nb_and (nb_shr l1 (nb_sub 24 (nb_mul 8 (nb_rem l6 4)))) 255)) := W.wr (fun w => (nb_nnum (by decide) (by decide)))
      refine nb_Gr ?_
      have E5 : nb_rd (nb_wr M 604 (M.1 603 2) (nb_and (nb_shr l1 (nb_sub 24 (nb_mul 8 (nb_rem l6 4)))) 255)) 603 2 = M.1 603 2 := nb_rdw (Or.inl (by decide)) (nb_rd_1 _ _ _)
      have E6 : nb_add (M.1 603 2) 1 = M.1 603 2 + 1 := nb_add_eq (by omega) (by omega)
      refine nb_Wg (q_m_feed_15 _ _ _ _ _ _ _ _ _ (by omega)) ?_
      simp only [E5, E6]
      clear E5 E6
      have W7 : nb_Lay (nb_wr (nb_wr M 604 (M.1 603 2) (nb_and (nb_shr l1 (nb_sub 24 (nb_mul 8 (nb_rem l6 4)))) 255)) 603 2 (M.1 603 2 + 1)) := W4.wr (fun w => (nb_nlit (by decide) (by decide)))
      refine nb_Gr ?_
      have E8 : nb_add l6 1 = l6 + 1 := nb_add_eq (by omega) (by omega)
      refine nb_Wg (q_m_feed_16 _ _ _ _ _ _ _ _ _) ?_
      simp only [E8]
      clear E8
      refine nb_Gr ?_
      exact nb_Hu H
    · have H := nb_Hw ((nb_Hu H).2 (by omega))
      have c44 : 4 ≤ l6 := by omega
      refine nb_Gr ?_
      refine nb_Wg (q_m_feed_7 _ _ _ _ _ _ _ _ _) ?_
      refine nb_Gi (fun c43 => ?_) (fun c43 => ?_)
      · have H := nb_Hw ((nb_Hu H).1 c43)
        refine nb_Gr ?_
        refine nb_Wg (q_m_feed_8 _ _ _ _ _ _ _ _ _) ?_
        refine nb_Gr ?_
        obtain ⟨p0_, p1_, p2_, H⟩ := H
        replace H := nb_Hw H
        have E9 : nb_rd M 603 1 = 604 := W.m1
        have E10 : nb_rd M 603 2 = M.1 603 2 := nb_rd_1 _ _ _
        have N11 : nb_ln M 604 = 1000 := W.lk (by decide) (by decide +kernel)
        refine nb_Wg (q_m_feed_14 _ _ _ _ _ _ _ _ _ _ (by omega) (by rw [E9]; first | done | omega) (by rw [E9]; first | done | omega) (by rw [E10]; first | done | omega) (by rw [E10, E9, N11]; first | done | omega)) ?_
        simp only [E9, E10]
        clear E9 E10 N11
        have W12 : nb_Lay (nb_wr M 604 (M.1 603 2) (nb_and (nb_shr l2 (nb_sub 24 (nb_mul 8 (nb_rem l6 4)))) 255)) := W.wr (fun w => (nb_nnum (by decide) (by decide)))
        refine nb_Gr ?_
        have E13 : nb_rd (nb_wr M 604 (M.1 603 2) (nb_and (nb_shr l2 (nb_sub 24 (nb_mul 8 (nb_rem l6 4)))) 255)) 603 2 = M.1 603 2 := nb_rdw (Or.inl (by decide)) (nb_rd_1 _ _ _)
        have E14 : nb_add (M.1 603 2) 1 = M.1 603 2 + 1 := nb_add_eq (by omega) (by omega)
        refine nb_Wg (q_m_feed_15 _ _ _ _ _ _ _ _ _ (by omega)) ?_
        simp only [E13, E14]
        clear E13 E14
        have W15 : nb_Lay (nb_wr (nb_wr M 604 (M.1 603 2) (nb_and (nb_shr l2 (nb_sub 24 (nb_mul 8 (nb_rem l6 4)))) 255)) 603 2 (M.1 603 2 + 1)) := W12.wr (fun w => (nb_nlit (by decide) (by decide)))
        refine nb_Gr ?_
        have E16 : nb_add l6 1 = l6 + 1 := nb_add_eq (by omega) (by omega)
        refine nb_Wg (q_m_feed_16 _ _ _ _ _ _ _ _ _) ?_
        simp only [E16]
        clear E16
        refine nb_Gr ?_
        exact nb_Hu H
      · have H := nb_Hw ((nb_Hu H).2 (by omega))
        have c43 : 8 ≤ l6 := by omega
        refine nb_Gr ?_
        refine nb_Wg (q_m_feed_9 _ _ _ _ _ _ _ _ _) ?_
        refine nb_Gi (fun c42 => ?_) (fun c42 => ?_)
        · have H := nb_Hw ((nb_Hu H).1 c42)
          refine nb_Gr ?_
          refine nb_Wg (q_m_feed_10 _ _ _ _ _ _ _ _ _) ?_
          refine nb_Gr ?_
          obtain ⟨p0_, p1_, p2_, H⟩ := H
          replace H := nb_Hw H
          have E17 : nb_rd M 603 1 = 604 := W.m1
          have E18 : nb_rd M 603 2 = M.1 603 2 := nb_rd_1 _ _ _
          have N19 : nb_ln M 604 = 1000 := W.lk (by decide) (by decide +kernel)
          refine nb_Wg (q_m_feed_14 _ _ _ _ _ _ _ _ _ _ (by omega) (by rw [E17]; first | done | omega) (by rw [E17]; first | done | omega) (by rw [E18]; first | done | omega) (by rw [E18, E17, N19]; first | done | omega)) ?_
          simp only [E17, E18]
          clear E17 E18 N19
          have W20 : nb_Lay (nb_wr M 604 (M.1 603 2) (nb_and (nb_shr l3 (nb_sub 24 (nb_mul 8 (nb_rem l6 4)))) 255)) := W.wr (fun w => (nb_nnum (by decide) (by decide)))
          refine nb_Gr ?_
          have E21 : nb_rd (nb_wr M 604 (M.1 603 2) (nb_and (nb_shr l3 (nb_sub 24 (nb_mul 8 (nb_rem l6 4)))) 255)) 603 2 = M.1 603 2 := nb_rdw (Or.inl (by decide)) (nb_rd_1 _ _ _)
          have E22 : nb_add (M.1 603 2) 1 = M.1 603 2 + 1 := nb_add_eq (by omega) (by omega)
          refine nb_Wg (q_m_feed_15 _ _ _ _ _ _ _ _ _ (by omega)) ?_
          simp only [E21, E22]
          clear E21 E22
          have W23 : nb_Lay (nb_wr (nb_wr M 604 (M.1 603 2) (nb_and (nb_shr l3 (nb_sub 24 (nb_mul 8 (nb_rem l6 4)))) 255)) 603 2 (M.1 603 2 + 1)) := W20.wr (fun w => (nb_nlit (by decide) (by decide)))
          refine nb_Gr ?_
          have E24 : nb_add l6 1 = l6 + 1 := nb_add_eq (by omega) (by omega)
          refine nb_Wg (q_m_feed_16 _ _ _ _ _ _ _ _ _) ?_
          simp only [E24]
          clear E24
          refine nb_Gr ?_
          exact nb_Hu H
        · have H := nb_Hw ((nb_Hu H).2 (by omega))
          have c42 : 12 ≤ l6 := by omega
          refine nb_Gr ?_
          refine nb_Wg (q_m_feed_11 _ _ _ _ _ _ _ _ _) ?_
          refine nb_Gi (fun c41 => ?_) (fun c41 => ?_)
          · have H := nb_Hw ((nb_Hu H).1 c41)
            refine nb_Gr ?_
            refine nb_Wg (q_m_feed_12 _ _ _ _ _ _ _ _ _) ?_
            refine nb_Gr ?_
            obtain ⟨p0_, p1_, p2_, H⟩ := H
            replace H := nb_Hw H
            have E25 : nb_rd M 603 1 = 604 := W.m1
            have E26 : nb_rd M 603 2 = M.1 603 2 := nb_rd_1 _ _ _
            have N27 : nb_ln M 604 = 1000 := W.lk (by decide) (by decide +kernel)
            refine nb_Wg (q_m_feed_14 _ _ _ _ _ _ _ _ _ _ (by omega) (by rw [E25]; first | done | omega) (by rw [E25]; first | done | omega) (by rw [E26]; first | done | omega) (by rw [E26, E25, N27]; first | done | omega)) ?_
            simp only [E25, E26]
            clear E25 E26 N27
            have W28 : nb_Lay (nb_wr M 604 (M.1 603 2) (nb_and (nb_shr l4 (nb_sub 24 (nb_mul 8 (nb_rem l6 4)))) 255)) := W.wr (fun w => (nb_nnum (by decide) (by decide)))
            refine nb_Gr ?_
            have E29 : nb_rd (nb_wr M 604 (M.1 603 2) (nb_and (nb_shr l4 (nb_sub 24 (nb_mul 8 (nb_rem l6 4)))) 255)) 603 2 = M.1 603 2 := nb_rdw (Or.inl (by decide)) (nb_rd_1 _ _ _)
            have E30 : nb_add (M.1 603 2) 1 = M.1 603 2 + 1 := nb_add_eq (by omega) (by omega)
            refine nb_Wg (q_m_feed_15 _ _ _ _ _ _ _ _ _ (by omega)) ?_
            simp only [E29, E30]
            clear E29 E30
            have W31 : nb_Lay (nb_wr (nb_wr M 604 (M.1 603 2) (nb_and (nb_shr l4 (nb_sub 24 (nb_mul 8 (nb_rem l6 4)))) 255)) 603 2 (M.1 603 2 + 1)) := W28.wr (fun w => (nb_nlit (by decide) (by decide)))
            refine nb_Gr ?_
            have E32 : nb_add l6 1 = l6 + 1 := nb_add_eq (by omega) (by omega)
            refine nb_Wg (q_m_feed_16 _ _ _ _ _ _ _ _ _) ?_
            simp only [E32]
            clear E32
            refine nb_Gr ?_
            exact nb_Hu H
          · have H := nb_Hw ((nb_Hu H).2 (by omega))
            have c41 : 16 ≤ l6 := by omega
            refine nb_Gr ?_
            refine nb_Wg (q_m_feed_13 _ _ _ _ _ _ _ _ _) ?_
            refine nb_Gr ?_
            obtain ⟨p0_, p1_, p2_, H⟩ := H
            replace H := nb_Hw H
            have E33 : nb_rd M 603 1 = 604 := W.m1
            have E34 : nb_rd M 603 2 = M.1 603 2 := nb_rd_1 _ _ _
            have N35 : nb_ln M 604 = 1000 := W.lk (by decide) (by decide +kernel)
            refine nb_Wg (q_m_feed_14 _ _ _ _ _ _ _ _ _ _ (by omega) (by rw [E33]; first | done | omega) (by rw [E33]; first | done | omega) (by rw [E34]; first | done | omega) (by rw [E34, E33, N35]; first | done | omega)) ?_
            simp only [E33, E34]
            clear E33 E34 N35
            have W36 : nb_Lay (nb_wr M 604 (M.1 603 2) (nb_and (nb_shr l5 (nb_sub 24 (nb_mul 8 (nb_rem l6 4)))) 255)) := W.wr (fun w => (nb_nnum (by decide) (by decide)))
            refine nb_Gr ?_
            have E37 : nb_rd (nb_wr M 604 (M.1 603 2) (nb_and (nb_shr l5 (nb_sub 24 (nb_mul 8 (nb_rem l6 4)))) 255)) 603 2 = M.1 603 2 := nb_rdw (Or.inl (by decide)) (nb_rd_1 _ _ _)
            have E38 : nb_add (M.1 603 2) 1 = M.1 603 2 + 1 := nb_add_eq (by omega) (by omega)
            refine nb_Wg (q_m_feed_15 _ _ _ _ _ _ _ _ _ (by omega)) ?_
            simp only [E37, E38]
            clear E37 E38
            have W39 : nb_Lay (nb_wr (nb_wr M 604 (M.1 603 2) (nb_and (nb_shr l5 (nb_sub 24 (nb_mul 8 (nb_rem l6 4)))) 255)) 603 2 (M.1 603 2 + 1)) := W36.wr (fun w => (nb_nlit (by decide) (by decide)))
            refine nb_Gr ?_
            have E40 : nb_add l6 1 = l6 + 1 := nb_add_eq (by omega) (by omega)
            refine nb_Wg (q_m_feed_16 _ _ _ _ _ _ _ _ _) ?_
            simp only [E40]
            clear E40
            refine nb_Gr ?_
            exact nb_Hu H
  · have H := nb_Hw ((nb_Hu H).2 (by omega))
    have c46 : 20 ≤ l6 := by omega
    refine nb_Gr ?_
    obtain ⟨p0_, p1_, H⟩ := H
    replace H := nb_Hw H
    have E45 : nb_rd M 603 2 = M.1 603 2 := nb_rd_1 _ _ _
    refine nb_Wg (q_m_feed_17 _ _ _ _ _ _ _ _ _ (by omega)) ?_
    simp only [E45]
    clear E45
    refine nb_Gs ?_
    exact nb_Hu H W

