/-! rules, printed by wip/gen -/
theorem w_tk_part_0 {l2 : Int} {v3 v4 v5 : nb_V} {M : nb_M} {Q : List nb_V → nb_M → Prop} (W : nb_Lay M) (H : nb_W 284 2 [(18, 77), (4, 3), (0, l2), (0, 0), (0, 0), v5] [] (nb_wr M 77 3 0) Q) :
    nb_W 284 0 [(18, 77), (4, 3), (0, l2), v3, v4, v5] [] M Q := by
  replace H := nb_Hw H
  refine nb_Wg (q_tk_part_0 _ _ _ _ _ _ _ (by omega)) ?_
  have W1 : nb_Lay (nb_wr M 77 3 0) := W.wr (fun w => (nb_nlit (by decide) (by decide)))
  refine nb_Gr ?_
  refine nb_Wg (q_tk_part_1 _ _ _ _ _ _ _) ?_
  refine nb_Gr ?_
  exact nb_Hu H

theorem w_tk_part_2 {l2 l3 l4 : Int} {v5 : nb_V} {M : nb_M} {Q : List nb_V → nb_M → Prop} (W : nb_Lay M)  (b0_ : 0 ≤ l3 ∧ l3 ≤ 1000) (b1_ : 0 ≤ l4 ∧ l4 ≤ 1) (b2_ : 0 ≤ l2 ∧ l2 ≤ 1000) (H : (l3 < l2 → (l4 = 0 → (M.1 3 l3 = 32 → nb_W 284 2 [(18, 77), (4, 3), (0, l2), (0, l3 + 1), (0, l4), v5] [] M Q) ∧ (M.1 3 l3 ≠ 32 → nb_W 287 0 [(4, 3), (0, l3), (0, l2), (98, 0)] [] M (fun r M5 => ∃ x4 : Int, r = [(0, x4)] ∧ nb_Lay M5 ∧ nb_W 288 0 [(18, 77), (4, 3), (0, l3), (0, x4)] [] M5 (fun r M8 => r = [] ∧ nb_Lay M8 ∧ 0 ≤ nb_sub (M8.1 77 3) 1 ∧ nb_sub (M8.1 77 3) 1 < 1001 ∧ (M8.1 78 (nb_sub (M8.1 77 3) 1) = 6 → nb_W 284 2 [(18, 77), (4, 3), (0, l2), (0, x4), (0, 1), (0, x4)] [] M8 Q) ∧ (M8.1 78 (nb_sub (M8.1 77 3) 1) ≠ 6 → nb_W 284 2 [(18, 77), (4, 3), (0, l2), (0, x4), (0, 0), (0, x4)] [] M8 Q))))) ∧ (l4 ≠ 0 → 0 ≤ M.1 77 3 ∧ M.1 77 3 ≤ 1000 ∧ (nb_Lay (nb_wr (nb_wr (nb_wr M 78 (M.1 77 3) 6) 79 (M.1 77 3) l2) 80 (M.1 77 3) 0) → Q [] (nb_wr (nb_wr (nb_wr M 78 (M.1 77 3) 6) 79 (M.1 77 3) l2) 80 (M.1 77 3) 0)))) ∧ (l2 ≤ l3 → 0 ≤ M.1 77 3 ∧ M.1 77 3 ≤ 1000 ∧ (l4 = 0 → (nb_Lay (nb_wr (nb_wr (nb_wr M 78 (M.1 77 3) 0) 79 (M.1 77 3) l2) 80 (M.1 77 3) 0) → Q [] (nb_wr (nb_wr (nb_wr M 78 (M.1 77 3) 0) 79 (M.1 77 3) l2) 80 (M.1 77 3) 0))) ∧ (l4 ≠ 0 → (nb_Lay (nb_wr (nb_wr (nb_wr M 78 (M.1 77 3) 6) 79 (M.1 77 3) l2) 80 (M.1 77 3) 0) → Q [] (nb_wr (nb_wr (nb_wr M 78 (M.1 77 3) 6) 79 (M.1 77 3) l2) 80 (M.1 77 3) 0))))) :
    nb_W 284 2 [(18, 77), (4, 3), (0, l2), (0, l3), (0, l4), v5] [] M Q := by
  replace H := nb_Hw H
  refine nb_Wg (q_tk_part_2 _ _ _ _ _ _ _) ?_
  refine nb_Gi (fun c52 => ?_) (fun c52 => ?_)
  · have H := nb_Hw ((nb_Hu H).1 c52)
    refine nb_Gr ?_
    refine nb_Wg (q_tk_part_3 _ _ _ _ _ _ _) ?_
    refine nb_Gi (fun c28 => ?_) (fun c28 => ?_)
    · have H := nb_Hw ((nb_Hu H).1 c28)
      refine nb_Gr ?_
      have N1 : nb_ln M 3 = 1000 := W.lk (by decide) (by decide +kernel)
      have E2 : nb_rd M 3 l3 = M.1 3 l3 := nb_rd_1 _ _ _
      refine nb_Wg (q_tk_part_4 _ _ _ _ _ _ _ (by omega) (by omega) (by rw [N1]; first | done | omega)) ?_
      simp only [E2]
      clear N1 E2
      refine nb_Gi (fun c15 => ?_) (fun c15 => ?_)
      · have H := nb_Hw ((nb_Hu H).1 c15)
        refine nb_Gr ?_
        have E3 : nb_add l3 1 = l3 + 1 := nb_add_eq (by omega) (by omega)
        refine nb_Wg (q_tk_part_5 _ _ _ _ _ _ _) ?_
        simp only [E3]
        clear E3
        refine nb_Gr ?_
        exact nb_Hu H
      · have H := nb_Hw ((nb_Hu H).2 (by omega))
        have c15 : M.1 3 l3 ≠ 32 := by omega
        refine nb_Gr ?_
        refine nb_Wg (q_tk_part_6 _ _ _ _ _ _ _) ?_
        refine nb_Gb ?_
        refine nb_W.imp (nb_Hu H) (fun r M5 H => ?_)
        obtain ⟨x4, rfl, W6, H⟩ := H
        replace H := nb_Hw H
        show nb_W 284 7 [(18, 77), (4, 3), (0, l2), (0, l3), (0, l4), v5] [(0, x4)] M5 _
        refine nb_Wg (q_tk_part_7 _ _ _ _ _ _ _ _ (by omega)) ?_
        refine nb_Gb ?_
        refine nb_W.imp (nb_Hu H) (fun r M8 H => ?_)
        obtain ⟨rfl, W9, H⟩ := H
        replace H := nb_Hw H
        show nb_W 284 8 [(18, 77), (4, 3), (0, l2), (0, l3), nb_clr ((0, l4)), (0, x4)] [] M8 _
        obtain ⟨p0_, p1_, H⟩ := H
        replace H := nb_Hw H
        have E10 : nb_rd M8 77 0 = 78 := W9.k0
        have E11 : nb_rd M8 77 3 = M8.1 77 3 := nb_rd_1 _ _ _
        have N12 : nb_ln M8 78 = 1001 := W9.lk (by decide) (by decide +kernel)
        have E13 : nb_rd M8 78 (nb_sub (M8.1 77 3) 1) = M8.1 78 (nb_sub (M8.1 77 3) 1) := nb_rd_1 _ _ _
        refine nb_Wg (q_tk_part_8 _ _ _ _ _ _ _ (by omega) (by rw [E10]; first | done | omega) (by rw [E11]; first | done | omega) (by rw [E11, E10, N12]; first | done | omega)) ?_
        simp only [E10, E11, E13]
        clear E10 E11 N12 E13
        refine nb_Gi (fun c14 => ?_) (fun c14 => ?_)
        · have H := nb_Hw ((nb_Hu H).1 c14)
          refine nb_Gr ?_
          refine nb_Wg (q_tk_part_9 _ _ _ _ _ _ _) ?_
          refine nb_Gr ?_
          refine nb_Wg (q_tk_part_11 _ _ _ _ _ _ _ _) ?_
          refine nb_Gr ?_
          exact nb_Hu H
        · have H := nb_Hw ((nb_Hu H).2 (by omega))
          have c14 : M8.1 78 (nb_sub (M8.1 77 3) 1) ≠ 6 := by omega
          refine nb_Gr ?_
          refine nb_Wg (q_tk_part_10 _ _ _ _ _ _ _) ?_
          refine nb_Gr ?_
          refine nb_Wg (q_tk_part_11 _ _ _ _ _ _ _ _) ?_
          refine nb_Gr ?_
          exact nb_Hu H
    · have H := nb_Hw ((nb_Hu H).2 (by omega))
      have c28 : l4 ≠ 0 := by omega
      refine nb_Gr ?_
      obtain ⟨p0_, p1_, H⟩ := H
      replace H := nb_Hw H
      have E16 : nb_rd M 77 0 = 78 := W.k0
      have E17 : nb_rd M 77 3 = M.1 77 3 := nb_rd_1 _ _ _
      refine nb_Wg (q_tk_part_12 _ _ _ _ _ _ _ (by omega)) ?_
      simp only [E16, E17]
      clear E16 E17
      refine nb_Gf (by omega) ?_
      refine nb_Gr ?_
      refine nb_Wg (q_tk_part_13 _ _ _ _ _ _ _ _ _) ?_
      refine nb_Gr ?_
      have N18 : nb_ln M 78 = 1001 := W.lk (by decide) (by decide +kernel)
      refine nb_Wg (q_tk_part_15 _ _ _ _ _ _ _ _ _ _ (by omega) (by omega) (by omega) (by rw [N18]; first | done | omega)) ?_
      clear N18
      have W19 : nb_Lay (nb_wr M 78 (M.1 77 3) 6) := W.wr (fun w => (nb_nnum (by decide) (by decide)))
      refine nb_Gr ?_
      have E20 : nb_rd (nb_wr M 78 (M.1 77 3) 6) 77 1 = 79 := W19.k1
      have E21 : nb_rd (nb_wr M 78 (M.1 77 3) 6) 77 3 = M.1 77 3 := nb_rdw (Or.inl (by decide)) (nb_rd_1 _ _ _)
      have N22 : nb_ln (nb_wr M 78 (M.1 77 3) 6) 79 = 1001 := W19.lk (by decide) (by decide +kernel)
      refine nb_Wg (q_tk_part_16 _ _ _ _ _ _ _ (by omega) (by rw [E20]; first | done | omega) (by rw [E20]; first | done | omega) (by rw [E21]; first | done | omega) (by rw [E21, E20, N22]; first | done | omega)) ?_
      simp only [E20, E21]
      clear E20 E21 N22
      have W23 : nb_Lay (nb_wr (nb_wr M 78 (M.1 77 3) 6) 79 (M.1 77 3) l2) := W19.wr (fun w => (nb_nnum (by decide) (by decide)))
      refine nb_Gr ?_
      have E24 : nb_rd (nb_wr (nb_wr M 78 (M.1 77 3) 6) 79 (M.1 77 3) l2) 77 2 = 80 := W23.k2
      have E25 : nb_rd (nb_wr (nb_wr M 78 (M.1 77 3) 6) 79 (M.1 77 3) l2) 77 3 = M.1 77 3 := nb_rdw (Or.inl (by decide)) (nb_rdw (Or.inl (by decide)) (nb_rd_1 _ _ _))
      have N26 : nb_ln (nb_wr (nb_wr M 78 (M.1 77 3) 6) 79 (M.1 77 3) l2) 80 = 1001 := W23.lk (by decide) (by decide +kernel)
      refine nb_Wg (q_tk_part_17 _ _ _ _ _ _ _ (by omega) (by rw [E24]; first | done | omega) (by rw [E24]; first | done | omega) (by rw [E25]; first | done | omega) (by rw [E25, E24, N26]; first | done | omega)) ?_
      simp only [E24, E25]
      clear E24 E25 N26
      have W27 : nb_Lay (nb_wr (nb_wr (nb_wr M 78 (M.1 77 3) 6) 79 (M.1 77 3) l2) 80 (M.1 77 3) 0) := W23.wr (fun w => (nb_nnum (by decide) (by decide)))
      refine nb_Gr ?_
      refine nb_Wg (q_tk_part_18 _ _ _ _ _ _ _) ?_
      refine nb_Gs ?_
      exact nb_Hu H W27
  · have H := nb_Hw ((nb_Hu H).2 (by omega))
    have c52 : l2 ≤ l3 := by omega
    refine nb_Gr ?_
    obtain ⟨p0_, p1_, H⟩ := H
    replace H := nb_Hw H
    have E29 : nb_rd M 77 0 = 78 := W.k0
    have E30 : nb_rd M 77 3 = M.1 77 3 := nb_rd_1 _ _ _
    refine nb_Wg (q_tk_part_12 _ _ _ _ _ _ _ (by omega)) ?_
    simp only [E29, E30]
    clear E29 E30
    refine nb_Gi (fun c51 => ?_) (fun c51 => ?_)
    · have H := nb_Hw ((nb_Hu H).1 c51)
      refine nb_Gr ?_
      refine nb_Wg (q_tk_part_14 _ _ _ _ _ _ _ _ _) ?_
      refine nb_Gr ?_
      have N31 : nb_ln M 78 = 1001 := W.lk (by decide) (by decide +kernel)
      refine nb_Wg (q_tk_part_15 _ _ _ _ _ _ _ _ _ _ (by omega) (by omega) (by omega) (by rw [N31]; first | done | omega)) ?_
      clear N31
      have W32 : nb_Lay (nb_wr M 78 (M.1 77 3) 0) := W.wr (fun w => (nb_nnum (by decide) (by decide)))
      refine nb_Gr ?_
      have E33 : nb_rd (nb_wr M 78 (M.1 77 3) 0) 77 1 = 79 := W32.k1
      have E34 : nb_rd (nb_wr M 78 (M.1 77 3) 0) 77 3 = M.1 77 3 := nb_rdw (Or.inl (by decide)) (nb_rd_1 _ _ _)
      have N35 : nb_ln (nb_wr M 78 (M.1 77 3) 0) 79 = 1001 := W32.lk (by decide) (by decide +kernel)
      refine nb_Wg (q_tk_part_16 _ _ _ _ _ _ _ (by omega) (by rw [E33]; first | done | omega) (by rw [E33]; first | done | omega) (by rw [E34]; first | done | omega) (by rw [E34, E33, N35]; first | done | omega)) ?_
      simp only [E33, E34]
      clear E33 E34 N35
      have W36 : nb_Lay (nb_wr (nb_wr M 78 (M.1 77 3) 0) 79 (M.1 77 3) l2) := W32.wr (fun w => (nb_nnum (by decide) (by decide)))
      refine nb_Gr ?_
      have E37 : nb_rd (nb_wr (nb_wr M 78 (M.1 77 3) 0) 79 (M.1 77 3) l2) 77 2 = 80 := W36.k2
      have E38 : nb_rd (nb_wr (nb_wr M 78 (M.1 77 3) 0) 79 (M.1 77 3) l2) 77 3 = M.1 77 3 := nb_rdw (Or.inl (by decide)) (nb_rdw (Or.inl (by decide)) (nb_rd_1 _ _ _))
      have N39 : nb_ln (nb_wr (nb_wr M 78 (M.1 77 3) 0) 79 (M.1 77 3) l2) 80 = 1001 := W36.lk (by decide) (by decide +kernel)
      refine nb_Wg (q_tk_part_17 _ _ _ _ _ _ _ (by omega) (by rw [E37]; first | done | omega) (by rw [E37]; first | done | omega) (by rw [E38]; first | done | omega) (by rw [E38, E37, N39]; first | done | omega)) ?_
      simp only [E37, E38]
      clear E37 E38 N39
      have W40 : nb_Lay (nb_wr (nb_wr (nb_wr M 78 (M.1 77 3) 0) 79 (M.1 77 3) l2) 80 (M.1 77 3) 0) := W36.wr (fun w => (nb_nnum (by decide) (by decide)))
      refine nb_Gr ?_
      refine nb_Wg (q_tk_part_18 _ _ _ _ _ _ _) ?_
      refine nb_Gs ?_
      exact nb_Hu H W40
    · have H := nb_Hw ((nb_Hu H).2 (by omega))
      have c51 : l4 ≠ 0 := by omega
      refine nb_Gr ?_
      refine nb_Wg (q_tk_part_13 _ _ _ _ _ _ _ _ _) ?_
      refine nb_Gr ?_
      have N41 : nb_ln M 78 = 1001 := W.lk (by decide) (by decide +kernel)
      refine nb_Wg (q_tk_part_15 _ _ _ _ _ _ _ _ _ _ (by omega) (by omega) (by omega) (by rw [N41]; first | done | omega)) ?_
      clear N41
      have W42 : nb_Lay (nb_wr M 78 (M.1 77 3) 6) := W.wr (fun w => (nb_nnum (by decide) (by decide)))
      refine nb_Gr ?_
      have E43 : nb_rd (nb_wr M 78 (M.1 77 3) 6) 77 1 = 79 := W42.k1
      have E44 : nb_rd (nb_wr M 78 (M.1 77 3) 6) 77 3 = M.1 77 3 := nb_rdw (Or.inl (by decide)) (nb_rd_1 _ _ _)
      have N45 : nb_ln (nb_wr M 78 (M.1 77 3) 6) 79 = 1001 := W42.lk (by decide) (by decide +kernel)
      refine nb_Wg (q_tk_part_16 _ _ _ _ _ _ _ (by omega) (by rw [E43]; first | done | omega) (by rw [E43]; first | done | omega) (by rw [E44]; first | done | omega) (by rw [E44, E43, N45]; first | done | omega)) ?_
      simp only [E43, E44]
      clear E43 E44 N45
      have W46 : nb_Lay (nb_wr (nb_wr M 78 (M.1 77 3) 6) 79 (M.1 77 3) l2) := W42.wr (fun w => (nb_nnum (by decide) (by decide)))
      refine nb_Gr ?_
      have E47 : nb_rd (nb_wr (nb_wr M 78 (M.1 77 3) 6) 79 (M.1 77 3) l2) 77 2 = 80 := W46.k2
      have E48 : nb_rd (nb_wr (nb_wr M 78 (M.1 77 3) 6) 79 (M.1 77 3) l2) 77 3 = M.1 77 3 := nb_rdw (Or.inl (by decide)) (nb_rdw (Or.inl (by decide)) (nb_rd_1 _ _ _))
      have N49 : nb_ln (nb_wr (nb_wr M 78 (M.1 77 3) 6) 79 (M.1 77 3) l2) 80 = 1001 := W46.lk (by decide) (by decide +kernel)
      refine nb_Wg (q_tk_part_17 _ _ _ _ _ _ _ (by omega) (by rw [E47]; first | done | omega) (by rw [E47]; first | done | omega) (by rw [E48]; first | done | omega) (by rw [E48, E47, N49]; first | done | omega)) ?_
      simp only [E47, E48]
      clear E47 E48 N49
      have W50 : nb_Lay (nb_wr (nb_wr (nb_wr M 78 (M.1 77 3) 6) 79 (M.1 77 3) l2) 80 (M.1 77 3) 0) := W46.wr (fun w => (nb_nnum (by decide) (by decide)))
      refine nb_Gr ?_
      refine nb_Wg (q_tk_part_18 _ _ _ _ _ _ _) ?_
      refine nb_Gs ?_
      exact nb_Hu H W50

theorem w_tk_endOfToken_0 {l1 l2 : Int} {v3 : nb_V} {M : nb_M} {Q : List nb_V → nb_M → Prop} (W : nb_Lay M)  (b0_ : 0 ≤ l1 ∧ l1 ≤ 999) (b1_ : 0 ≤ l2 ∧ l2 ≤ 1000) (H : (M.1 3 l1 < 97 → (M.1 3 l1 < 48 → (nb_Lay M → Q [(0, l1 + 1)] M)) ∧ (48 ≤ M.1 3 l1 → (57 < M.1 3 l1 → (nb_Lay M → Q [(0, l1 + 1)] M)) ∧ (M.1 3 l1 ≤ 57 → nb_W 287 8 [(4, 3), (0, l1), (0, l2), (0, l1 + 1)] [] M Q))) ∧ (97 ≤ M.1 3 l1 → (122 < M.1 3 l1 → (nb_Lay M → Q [(0, l1 + 1)] M)) ∧ (M.1 3 l1 ≤ 122 → nb_W 287 2 [(4, 3), (0, l1), (0, l2), (0, l1 + 1)] [] M Q))) :
    nb_W 287 0 [(4, 3), (0, l1), (0, l2), v3] [] M Q := by
  replace H := nb_Hw H
  have E1 : nb_add l1 1 = l1 + 1 := nb_add_eq (by omega) (by omega)
  have N2 : nb_ln M 3 = 1000 := W.lk (by decide) (by decide +kernel)
  have E3 : nb_rd M 3 l1 = M.1 3 l1 := nb_rd_1 _ _ _
  refine nb_Wg (q_tk_endOfToken_0 _ _ _ _ _ (by omega) (by omega) (by rw [N2]; first | done | omega)) ?_
  simp only [E1, E3]
  clear E1 N2 E3
  refine nb_Gb ?_
  refine nb_Wg (q_tk_isLetter_0 _ _) ?_
  refine nb_Gi (fun c18 => ?_) (fun c18 => ?_)
  · have H := nb_Hw ((nb_Hu H).1 c18)
    refine nb_Gr ?_
    refine nb_Wg (q_tk_isLetter_3 _ _) ?_
    refine nb_Gr ?_
    have E4 : nb_i2z 0 = 0 := by decide
    refine nb_Wg (q_tk_isLetter_4 _ _ _) ?_
    simp only [E4]
    clear E4
    refine nb_Gs ?_
    show nb_W 287 1 [(4, 3), (0, l1), (0, l2), (0, l1 + 1)] [(0, 0)] M _
    refine nb_Wg (q_tk_endOfToken_1 _ _ _ _ _ _) ?_
    refine nb_Gt (by decide) ?_
    refine nb_Gr ?_
    have N5 : nb_ln M 3 = 1000 := W.lk (by decide) (by decide +kernel)
    have E6 : nb_rd M 3 l1 = M.1 3 l1 := nb_rd_1 _ _ _
    refine nb_Wg (q_tk_endOfToken_6 _ _ _ _ _ (by omega) (by omega) (by rw [N5]; first | done | omega)) ?_
    simp only [E6]
    clear N5 E6
    refine nb_Gb ?_
    refine nb_Wg (q_tk_isDigit_0 _ _) ?_
    refine nb_Gi (fun c11 => ?_) (fun c11 => ?_)
    · have H := nb_Hw ((nb_Hu H).1 c11)
      refine nb_Gr ?_
      refine nb_Wg (q_tk_isDigit_3 _ _) ?_
      refine nb_Gr ?_
      have E7 : nb_i2z 0 = 0 := by decide
      refine nb_Wg (q_tk_isDigit_4 _ _ _) ?_
      simp only [E7]
      clear E7
      refine nb_Gs ?_
      show nb_W 287 7 [(4, 3), (0, l1), (0, l2), (0, l1 + 1)] [(0, 0)] M _
      refine nb_Wg (q_tk_endOfToken_7 _ _ _ _ _ _) ?_
      refine nb_Gt (by decide) ?_
      refine nb_Gr ?_
      refine nb_Wg (q_tk_endOfToken_12 _ _ _ _ _) ?_
      refine nb_Gs ?_
      exact nb_Hu H W
    · have H := nb_Hw ((nb_Hu H).2 (by omega))
      have c11 : 48 ≤ M.1 3 l1 := by omega
      refine nb_Gr ?_
      refine nb_Wg (q_tk_isDigit_1 _ _) ?_
      refine nb_Gi (fun c10 => ?_) (fun c10 => ?_)
      · have H := nb_Hw ((nb_Hu H).1 c10)
        refine nb_Gr ?_
        refine nb_Wg (q_tk_isDigit_3 _ _) ?_
        refine nb_Gr ?_
        have E8 : nb_i2z 0 = 0 := by decide
        refine nb_Wg (q_tk_isDigit_4 _ _ _) ?_
        simp only [E8]
        clear E8
        refine nb_Gs ?_
        show nb_W 287 7 [(4, 3), (0, l1), (0, l2), (0, l1 + 1)] [(0, 0)] M _
        refine nb_Wg (q_tk_endOfToken_7 _ _ _ _ _ _) ?_
        refine nb_Gt (by decide) ?_
        refine nb_Gr ?_
        refine nb_Wg (q_tk_endOfToken_12 _ _ _ _ _) ?_
        refine nb_Gs ?_
        exact nb_Hu H W
      · have H := nb_Hw ((nb_Hu H).2 (by omega))
        have c10 : M.1 3 l1 ≤ 57 := by omega
        refine nb_Gr ?_
        refine nb_Wg (q_tk_isDigit_2 _ _) ?_
        refine nb_Gr ?_
        have E9 : nb_i2z 1 = 1 := by decide
        refine nb_Wg (q_tk_isDigit_4 _ _ _) ?_
        simp only [E9]
        clear E9
        refine nb_Gs ?_
        show nb_W 287 7 [(4, 3), (0, l1), (0, l2), (0, l1 + 1)] [(0, 1)] M _
        refine nb_Wg (q_tk_endOfToken_7 _ _ _ _ _ _) ?_
        refine nb_Gf (by decide) ?_
        refine nb_Gr ?_
        exact nb_Hu H
  · have H := nb_Hw ((nb_Hu H).2 (by omega))
    have c18 : 97 ≤ M.1 3 l1 := by omega
    refine nb_Gr ?_
    refine nb_Wg (q_tk_isLetter_1 _ _) ?_
    refine nb_Gi (fun c17 => ?_) (fun c17 => ?_)
    · have H := nb_Hw ((nb_Hu H).1 c17)
      refine nb_Gr ?_
      refine nb_Wg (q_tk_isLetter_3 _ _) ?_
      refine nb_Gr ?_
      have E12 : nb_i2z 0 = 0 := by decide
      refine nb_Wg (q_tk_isLetter_4 _ _ _) ?_
      simp only [E12]
      clear E12
      refine nb_Gs ?_
      show nb_W 287 1 [(4, 3), (0, l1), (0, l2), (0, l1 + 1)] [(0, 0)] M _
      refine nb_Wg (q_tk_endOfToken_1 _ _ _ _ _ _) ?_
      refine nb_Gt (by decide) ?_
      refine nb_Gr ?_
      have N13 : nb_ln M 3 = 1000 := W.lk (by decide) (by decide +kernel)
      have E14 : nb_rd M 3 l1 = M.1 3 l1 := nb_rd_1 _ _ _
      refine nb_Wg (q_tk_endOfToken_6 _ _ _ _ _ (by omega) (by omega) (by rw [N13]; first | done | omega)) ?_
      simp only [E14]
      clear N13 E14
      refine nb_Gb ?_
      refine nb_Wg (q_tk_isDigit_0 _ _) ?_
      refine nb_Gf (by omega) ?_
      refine nb_Gr ?_
      refine nb_Wg (q_tk_isDigit_1 _ _) ?_
      refine nb_Gt (by omega) ?_
      refine nb_Gr ?_
      refine nb_Wg (q_tk_isDigit_3 _ _) ?_
      refine nb_Gr ?_
      have E15 : nb_i2z 0 = 0 := by decide
      refine nb_Wg (q_tk_isDigit_4 _ _ _) ?_
      simp only [E15]
      clear E15
      refine nb_Gs ?_
      show nb_W 287 7 [(4, 3), (0, l1), (0, l2), (0, l1 + 1)] [(0, 0)] M _
      refine nb_Wg (q_tk_endOfToken_7 _ _ _ _ _ _) ?_
      refine nb_Gt (by decide) ?_
      refine nb_Gr ?_
      refine nb_Wg (q_tk_endOfToken_12 _ _ _ _ _) ?_
      refine nb_Gs ?_
      exact nb_Hu H W
    · have H := nb_Hw ((nb_Hu H).2 (by omega))
      have c17 : M.1 3 l1 ≤ 122 := by omega
      refine nb_Gr ?_
      refine nb_Wg (q_tk_isLetter_2 _ _) ?_
      refine nb_Gr ?_
      have E16 : nb_i2z 1 = 1 := by decide
      refine nb_Wg (q_tk_isLetter_4 _ _ _) ?_
      simp only [E16]
      clear E16
      refine nb_Gs ?_
      show nb_W 287 1 [(4, 3), (0, l1), (0, l2), (0, l1 + 1)] [(0, 1)] M _
      refine nb_Wg (q_tk_endOfToken_1 _ _ _ _ _ _) ?_
      refine nb_Gf (by decide) ?_
      refine nb_Gr ?_
      exact nb_Hu H

theorem w_tk_endOfToken_2 {l2 l3 : Int} {v1 : nb_V} {M : nb_M} {Q : List nb_V → nb_M → Prop} (W : nb_Lay M)  (b0_ : 0 ≤ l2 ∧ l2 ≤ 1000) (b1_ : 0 ≤ l3 ∧ l3 ≤ 1000) (H : (l3 < l2 → (M.1 3 l3 < 97 → (nb_Lay M → Q [(0, l3)] M)) ∧ (97 ≤ M.1 3 l3 → (122 < M.1 3 l3 → (nb_Lay M → Q [(0, l3)] M)) ∧ (M.1 3 l3 ≤ 122 → nb_W 287 2 [(4, 3), v1, (0, l2), (0, l3 + 1)] [] M Q))) ∧ (l2 ≤ l3 → (nb_Lay M → Q [(0, l3)] M))) :
    nb_W 287 2 [(4, 3), v1, (0, l2), (0, l3)] [] M Q := by
  replace H := nb_Hw H
  refine nb_Wg (q_tk_endOfToken_2 _ _ _ _ _) ?_
  refine nb_Gi (fun c9 => ?_) (fun c9 => ?_)
  · have H := nb_Hw ((nb_Hu H).1 c9)
    refine nb_Gr ?_
    have N1 : nb_ln M 3 = 1000 := W.lk (by decide) (by decide +kernel)
    have E2 : nb_rd M 3 l3 = M.1 3 l3 := nb_rd_1 _ _ _
    refine nb_Wg (q_tk_endOfToken_3 _ _ _ _ _ (by omega) (by omega) (by rw [N1]; first | done | omega)) ?_
    simp only [E2]
    clear N1 E2
    refine nb_Gb ?_
    refine nb_Wg (q_tk_isLetter_0 _ _) ?_
    refine nb_Gi (fun c8 => ?_) (fun c8 => ?_)
    · have H := nb_Hw ((nb_Hu H).1 c8)
      refine nb_Gr ?_
      refine nb_Wg (q_tk_isLetter_3 _ _) ?_
      refine nb_Gr ?_
      have E3 : nb_i2z 0 = 0 := by decide
      refine nb_Wg (q_tk_isLetter_4 _ _ _) ?_
      simp only [E3]
      clear E3
      refine nb_Gs ?_
      show nb_W 287 4 [(4, 3), v1, (0, l2), (0, l3)] [(0, 0)] M _
      refine nb_Wg (q_tk_endOfToken_4 _ _ _ _ _ _) ?_
      refine nb_Gt (by decide) ?_
      refine nb_Gr ?_
      refine nb_Wg (q_tk_endOfToken_12 _ _ _ _ _) ?_
      refine nb_Gs ?_
      exact nb_Hu H W
    · have H := nb_Hw ((nb_Hu H).2 (by omega))
      have c8 : 97 ≤ M.1 3 l3 := by omega
      refine nb_Gr ?_
      refine nb_Wg (q_tk_isLetter_1 _ _) ?_
      refine nb_Gi (fun c7 => ?_) (fun c7 => ?_)
      · have H := nb_Hw ((nb_Hu H).1 c7)
        refine nb_Gr ?_
        refine nb_Wg (q_tk_isLetter_3 _ _) ?_
        refine nb_Gr ?_
        have E4 : nb_i2z 0 = 0 := by decide
        refine nb_Wg (q_tk_isLetter_4 _ _ _) ?_
        simp only [E4]
        clear E4
        refine nb_Gs ?_
        show nb_W 287 4 [(4, 3), v1, (0, l2), (0, l3)] [(0, 0)] M _
        refine nb_Wg (q_tk_endOfToken_4 _ _ _ _ _ _) ?_
        refine nb_Gt (by decide) ?_
        refine nb_Gr ?_
        refine nb_Wg (q_tk_endOfToken_12 _ _ _ _ _) ?_
        refine nb_Gs ?_
        exact nb_Hu H W
      · have H := nb_Hw ((nb_Hu H).2 (by omega))
        have c7 : M.1 3 l3 ≤ 122 := by omega
        refine nb_Gr ?_
        refine nb_Wg (q_tk_isLetter_2 _ _) ?_
        refine nb_Gr ?_
        have E5 : nb_i2z 1 = 1 := by decide
        refine nb_Wg (q_tk_isLetter_4 _ _ _) ?_
        simp only [E5]
        clear E5
        refine nb_Gs ?_
        show nb_W 287 4 [(4, 3), v1, (0, l2), (0, l3)] [(0, 1)] M _
        refine nb_Wg (q_tk_endOfToken_4 _ _ _ _ _ _) ?_
        refine nb_Gf (by decide) ?_
        refine nb_Gr ?_
        have E6 : nb_add l3 1 = l3 + 1 := nb_add_eq (by omega) (by omega)
        refine nb_Wg (q_tk_endOfToken_5 _ _ _ _ _) ?_
        simp only [E6]
        clear E6
        refine nb_Gr ?_
        exact nb_Hu H
  · have H := nb_Hw ((nb_Hu H).2 (by omega))
    have c9 : l2 ≤ l3 := by omega
    refine nb_Gr ?_
    refine nb_Wg (q_tk_endOfToken_12 _ _ _ _ _) ?_
    refine nb_Gs ?_
    exact nb_Hu H W

theorem w_tk_endOfToken_8 {l2 l3 : Int} {v1 : nb_V} {M : nb_M} {Q : List nb_V → nb_M → Prop} (W : nb_Lay M)  (b0_ : 0 ≤ l2 ∧ l2 ≤ 1000) (b1_ : 0 ≤ l3 ∧ l3 ≤ 1000) (H : (l3 < l2 → (M.1 3 l3 < 48 → (nb_Lay M → Q [(0, l3)] M)) ∧ (48 ≤ M.1 3 l3 → (57 < M.1 3 l3 → (nb_Lay M → Q [(0, l3)] M)) ∧ (M.1 3 l3 ≤ 57 → nb_W 287 8 [(4, 3), v1, (0, l2), (0, l3 + 1)] [] M Q))) ∧ (l2 ≤ l3 → (nb_Lay M → Q [(0, l3)] M))) :
    nb_W 287 8 [(4, 3), v1, (0, l2), (0, l3)] [] M Q := by
  replace H := nb_Hw H
  refine nb_Wg (q_tk_endOfToken_8 _ _ _ _ _) ?_
  refine nb_Gi (fun c9 => ?_) (fun c9 => ?_)
  · have H := nb_Hw ((nb_Hu H).1 c9)
    refine nb_Gr ?_
    have N1 : nb_ln M 3 = 1000 := W.lk (by decide) (by decide +kernel)
    have E2 : nb_rd M 3 l3 = M.1 3 l3 := nb_rd_1 _ _ _
    refine nb_Wg (q_tk_endOfToken_9 _ _ _ _ _ (by omega) (by omega) (by rw [N1]; first | done | omega)) ?_
    simp only [E2]
    clear N1 E2
    refine nb_Gb ?_
    refine nb_Wg (q_tk_isDigit_0 _ _) ?_
    refine nb_Gi (fun c8 => ?_) (fun c8 => ?_)
    · have H := nb_Hw ((nb_Hu H).1 c8)
      refine nb_Gr ?_
      refine nb_Wg (q_tk_isDigit_3 _ _) ?_
      refine nb_Gr ?_
      have E3 : nb_i2z 0 = 0 := by decide
      refine nb_Wg (q_tk_isDigit_4 _ _ _) ?_
      simp only [E3]
      clear E3
      refine nb_Gs ?_
      show nb_W 287 10 [(4, 3), v1, (0, l2), (0, l3)] [(0, 0)] M _
      refine nb_Wg (q_tk_endOfToken_10 _ _ _ _ _ _) ?_
      refine nb_Gt (by decide) ?_
      refine nb_Gr ?_
      refine nb_Wg (q_tk_endOfToken_12 _ _ _ _ _) ?_
      refine nb_Gs ?_
      exact nb_Hu H W
    · have H := nb_Hw ((nb_Hu H).2 (by omega))
      have c8 : 48 ≤ M.1 3 l3 := by omega
      refine nb_Gr ?_
      refine nb_Wg (q_tk_isDigit_1 _ _) ?_
      refine nb_Gi (fun c7 => ?_) (fun c7 => ?_)
      · have H := nb_Hw ((nb_Hu H).1 c7)
        refine nb_Gr ?_
        refine nb_Wg (q_tk_isDigit_3 _ _) ?_
        refine nb_Gr ?_
        have E4 : nb_i2z 0 = 0 := by decide
        refine nb_Wg (q_tk_isDigit_4 _ _ _) ?_
        simp only [E4]
        clear E4
        refine nb_Gs ?_
        show nb_W 287 10 [(4, 3), v1, (0, l2), (0, l3)] [(0, 0)] M _
        refine nb_Wg (q_tk_endOfToken_10 _ _ _ _ _ _) ?_
        refine nb_Gt (by decide) ?_
        refine nb_Gr ?_
        refine nb_Wg (q_tk_endOfToken_12 _ _ _ _ _) ?_
        refine nb_Gs ?_
        exact nb_Hu H W
      · have H := nb_Hw ((nb_Hu H).2 (by omega))
        have c7 : M.1 3 l3 ≤ 57 := by omega
        refine nb_Gr ?_
        refine nb_Wg (q_tk_isDigit_2 _ _) ?_
        refine nb_Gr ?_
        have E5 : nb_i2z 1 = 1 := by decide
        refine nb_Wg (q_tk_isDigit_4 _ _ _) ?_
        simp only [E5]
        clear E5
        refine nb_Gs ?_
        show nb_W 287 10 [(4, 3), v1, (0, l2), (0, l3)] [(0, 1)] M _
        refine nb_Wg (q_tk_endOfToken_10 _ _ _ _ _ _) ?_
        refine nb_Gf (by decide) ?_
        refine nb_Gr ?_
        have E6 : nb_add l3 1 = l3 + 1 := nb_add_eq (by omega) (by omega)
        refine nb_Wg (q_tk_endOfToken_11 _ _ _ _ _) ?_
        simp only [E6]
        clear E6
        refine nb_Gr ?_
        exact nb_Hu H
  · have H := nb_Hw ((nb_Hu H).2 (by omega))
    have c9 : l2 ≤ l3 := by omega
    refine nb_Gr ?_
    refine nb_Wg (q_tk_endOfToken_12 _ _ _ _ _) ?_
    refine nb_Gs ?_
    exact nb_Hu H W

theorem w_tk_add_0 {l2 l3 : Int} {M : nb_M} {Q : List nb_V → nb_M → Prop} (W : nb_Lay M)  (b0_ : 0 ≤ l2 ∧ l2 ≤ 999) (H : 0 ≤ M.1 77 3 ∧ M.1 77 3 ≤ 999 ∧ (M.1 3 l2 < 97 → (M.1 3 l2 < 48 → (M.1 3 l2 = 44 → (nb_Lay (nb_wr (nb_wr (nb_wr (nb_wr M 79 (M.1 77 3) l2) 80 (M.1 77 3) 0) 78 (M.1 77 3) 5) 77 3 (M.1 77 3 + 1)) → Q [] (nb_wr (nb_wr (nb_wr (nb_wr M 79 (M.1 77 3) l2) 80 (M.1 77 3) 0) 78 (M.1 77 3) 5) 77 3 (M.1 77 3 + 1)))) ∧ (M.1 3 l2 ≠ 44 → (nb_Lay (nb_wr (nb_wr (nb_wr (nb_wr M 79 (M.1 77 3) l2) 80 (M.1 77 3) 0) 78 (M.1 77 3) 6) 77 3 (M.1 77 3 + 1)) → Q [] (nb_wr (nb_wr (nb_wr (nb_wr M 79 (M.1 77 3) l2) 80 (M.1 77 3) 0) 78 (M.1 77 3) 6) 77 3 (M.1 77 3 + 1))))) ∧ (48 ≤ M.1 3 l2 → (57 < M.1 3 l2 → (M.1 3 l2 = 59 → (nb_Lay (nb_wr (nb_wr (nb_wr (nb_wr M 79 (M.1 77 3) l2) 80 (M.1 77 3) 0) 78 (M.1 77 3) 4) 77 3 (M.1 77 3 + 1)) → Q [] (nb_wr (nb_wr (nb_wr (nb_wr M 79 (M.1 77 3) l2) 80 (M.1 77 3) 0) 78 (M.1 77 3) 4) 77 3 (M.1 77 3 + 1)))) ∧ (M.1 3 l2 ≠ 59 → (nb_Lay (nb_wr (nb_wr (nb_wr (nb_wr M 79 (M.1 77 3) l2) 80 (M.1 77 3) 0) 78 (M.1 77 3) 6) 77 3 (M.1 77 3 + 1)) → Q [] (nb_wr (nb_wr (nb_wr (nb_wr M 79 (M.1 77 3) l2) 80 (M.1 77 3) 0) 78 (M.1 77 3) 6) 77 3 (M.1 77 3 + 1))))) ∧ (M.1 3 l2 ≤ 57 → nb_W 290 0 [(18, 77), (4, 3), (0, l2), (0, l3), (98, 0), (98, 0), (98, 0)] [] (nb_wr (nb_wr M 79 (M.1 77 3) l2) 80 (M.1 77 3) 0) (fun r M54 => r = [] ∧ nb_Lay M54 ∧ (nb_Lay (nb_wr M54 77 3 (nb_add (M54.1 77 3) 1)) → Q [] (nb_wr M54 77 3 (nb_add (M54.1 77 3) 1))))))) ∧ (97 ≤ M.1 3 l2 → (122 < M.1 3 l2 → (nb_Lay (nb_wr (nb_wr (nb_wr (nb_wr M 79 (M.1 77 3) l2) 80 (M.1 77 3) 0) 78 (M.1 77 3) 6) 77 3 (M.1 77 3 + 1)) → Q [] (nb_wr (nb_wr (nb_wr (nb_wr M 79 (M.1 77 3) l2) 80 (M.1 77 3) 0) 78 (M.1 77 3) 6) 77 3 (M.1 77 3 + 1)))) ∧ (M.1 3 l2 ≤ 122 → nb_W 289 0 [(18, 77), (4, 3), (0, l2), (0, l3), (98, 0), (98, 0), (98, 0)] [] (nb_wr (nb_wr M 79 (M.1 77 3) l2) 80 (M.1 77 3) 0) (fun r M77 => r = [] ∧ nb_Lay M77 ∧ (nb_Lay (nb_wr M77 77 3 (nb_add (M77.1 77 3) 1)) → Q [] (nb_wr M77 77 3 (nb_add (M77.1 77 3) 1))))))) :
    nb_W 288 0 [(18, 77), (4, 3), (0, l2), (0, l3)] [] M Q := by
  replace H := nb_Hw H
  obtain ⟨p0_, p1_, H⟩ := H
  replace H := nb_Hw H
  have E1 : nb_rd M 77 1 = 79 := W.k1
  have E2 : nb_rd M 77 3 = M.1 77 3 := nb_rd_1 _ _ _
  have N3 : nb_ln M 79 = 1001 := W.lk (by decide) (by decide +kernel)
  refine nb_Wg (q_tk_add_0 _ _ _ _ _ (by omega) (by rw [E1]; first | done | omega) (by rw [E1]; first | done | omega) (by rw [E2]; first | done | omega) (by rw [E2, E1, N3]; first | done | omega)) ?_
  simp only [E1, E2]
  clear E1 E2 N3
  have W4 : nb_Lay (nb_wr M 79 (M.1 77 3) l2) := W.wr (fun w => (nb_nnum (by decide) (by decide)))
  refine nb_Gr ?_
  have E5 : nb_rd (nb_wr M 79 (M.1 77 3) l2) 77 2 = 80 := W4.k2
  have E6 : nb_rd (nb_wr M 79 (M.1 77 3) l2) 77 3 = M.1 77 3 := nb_rdw (Or.inl (by decide)) (nb_rd_1 _ _ _)
  have N7 : nb_ln (nb_wr M 79 (M.1 77 3) l2) 80 = 1001 := W4.lk (by decide) (by decide +kernel)
  refine nb_Wg (q_tk_add_1 _ _ _ _ _ (by omega) (by rw [E5]; first | done | omega) (by rw [E5]; first | done | omega) (by rw [E6]; first | done | omega) (by rw [E6, E5, N7]; first | done | omega)) ?_
  simp only [E5, E6]
  clear E5 E6 N7
  have W8 : nb_Lay (nb_wr (nb_wr M 79 (M.1 77 3) l2) 80 (M.1 77 3) 0) := W4.wr (fun w => (nb_nnum (by decide) (by decide)))
  refine nb_Gr ?_
  have N9 : nb_ln (nb_wr (nb_wr M 79 (M.1 77 3) l2) 80 (M.1 77 3) 0) 3 = 1000 := W8.lk (by decide) (by decide +kernel)
  have E10 : nb_rd (nb_wr (nb_wr M 79 (M.1 77 3) l2) 80 (M.1 77 3) 0) 3 l2 = M.1 3 l2 := nb_rdw (Or.inl (by decide)) (nb_rdw (Or.inl (by decide)) (nb_rd_1 _ _ _))
  refine nb_Wg (q_tk_add_2 _ _ _ _ _ (by omega) (by omega) (by rw [N9]; first | done | omega)) ?_
  simp only [E10]
  clear N9 E10
  refine nb_Gb ?_
  refine nb_Wg (q_tk_isLetter_0 _ _) ?_
  refine nb_Gi (fun c82 => ?_) (fun c82 => ?_)
  · have H := nb_Hw ((nb_Hu H).1 c82)
    refine nb_Gr ?_
    refine nb_Wg (q_tk_isLetter_3 _ _) ?_
    refine nb_Gr ?_
    have E11 : nb_i2z 0 = 0 := by decide
    refine nb_Wg (q_tk_isLetter_4 _ _ _) ?_
    simp only [E11]
    clear E11
    refine nb_Gs ?_
    show nb_W 288 3 [(18, 77), (4, 3), (0, l2), (0, l3)] [(0, 0)] (nb_wr (nb_wr M 79 (M.1 77 3) l2) 80 (M.1 77 3) 0) _
    refine nb_Wg (q_tk_add_3 _ _ _ _ _ _) ?_
    refine nb_Gt (by decide) ?_
    refine nb_Gr ?_
    have N12 : nb_ln (nb_wr (nb_wr M 79 (M.1 77 3) l2) 80 (M.1 77 3) 0) 3 = 1000 := W8.lk (by decide) (by decide +kernel)
    have E13 : nb_rd (nb_wr (nb_wr M 79 (M.1 77 3) l2) 80 (M.1 77 3) 0) 3 l2 = M.1 3 l2 := nb_rdw (Or.inl (by decide)) (nb_rdw (Or.inl (by decide)) (nb_rd_1 _ _ _))
    refine nb_Wg (q_tk_add_6 _ _ _ _ _ (by omega) (by omega) (by rw [N12]; first | done | omega)) ?_
    simp only [E13]
    clear N12 E13
    refine nb_Gb ?_
    refine nb_Wg (q_tk_isDigit_0 _ _) ?_
    refine nb_Gi (fun c59 => ?_) (fun c59 => ?_)
    · have H := nb_Hw ((nb_Hu H).1 c59)
      refine nb_Gr ?_
      refine nb_Wg (q_tk_isDigit_3 _ _) ?_
      refine nb_Gr ?_
      have E14 : nb_i2z 0 = 0 := by decide
      refine nb_Wg (q_tk_isDigit_4 _ _ _) ?_
      simp only [E14]
      clear E14
      refine nb_Gs ?_
      show nb_W 288 7 [(18, 77), (4, 3), (0, l2), (0, l3)] [(0, 0)] (nb_wr (nb_wr M 79 (M.1 77 3) l2) 80 (M.1 77 3) 0) _
      refine nb_Wg (q_tk_add_7 _ _ _ _ _ _) ?_
      refine nb_Gt (by decide) ?_
      refine nb_Gr ?_
      have N15 : nb_ln (nb_wr (nb_wr M 79 (M.1 77 3) l2) 80 (M.1 77 3) 0) 3 = 1000 := W8.lk (by decide) (by decide +kernel)
      have E16 : nb_rd (nb_wr (nb_wr M 79 (M.1 77 3) l2) 80 (M.1 77 3) 0) 3 l2 = M.1 3 l2 := nb_rdw (Or.inl (by decide)) (nb_rdw (Or.inl (by decide)) (nb_rd_1 _ _ _))
      refine nb_Wg (q_tk_add_10 _ _ _ _ _ (by omega) (by omega) (by rw [N15]; first | done | omega)) ?_
      simp only [E16]
      clear N15 E16
      refine nb_Gf (by omega) ?_
      refine nb_Gr ?_
      have E17 : nb_rd (nb_wr (nb_wr M 79 (M.1 77 3) l2) 80 (M.1 77 3) 0) 77 0 = 78 := W8.k0
      have E18 : nb_rd (nb_wr (nb_wr M 79 (M.1 77 3) l2) 80 (M.1 77 3) 0) 77 3 = M.1 77 3 := nb_rdw (Or.inl (by decide)) (nb_rdw (Or.inl (by decide)) (nb_rd_1 _ _ _))
      have N19 : nb_ln (nb_wr (nb_wr M 79 (M.1 77 3) l2) 80 (M.1 77 3) 0) 3 = 1000 := W8.lk (by decide) (by decide +kernel)
      have E20 : nb_rd (nb_wr (nb_wr M 79 (M.1 77 3) l2) 80 (M.1 77 3) 0) 3 l2 = M.1 3 l2 := nb_rdw (Or.inl (by decide)) (nb_rdw (Or.inl (by decide)) (nb_rd_1 _ _ _))
      refine nb_Wg (q_tk_add_13 _ _ _ _ _ (by omega) (by omega) (by omega) (by rw [N19]; first | done | omega)) ?_
      simp only [E17, E18, E20]
      clear E17 E18 N19 E20
      refine nb_Gi (fun c31 => ?_) (fun c31 => ?_)
      · have H := nb_Hw ((nb_Hu H).1 c31)
        refine nb_Gr ?_
        refine nb_Wg (q_tk_add_14 _ _ _ _ _ _ _) ?_
        refine nb_Gr ?_
        have N21 : nb_ln (nb_wr (nb_wr M 79 (M.1 77 3) l2) 80 (M.1 77 3) 0) 78 = 1001 := W8.lk (by decide) (by decide +kernel)
        refine nb_Wg (q_tk_add_16 _ _ _ _ _ _ _ _ (by omega) (by omega) (by omega) (by rw [N21]; first | done | omega)) ?_
        clear N21
        have W22 : nb_Lay (nb_wr (nb_wr (nb_wr M 79 (M.1 77 3) l2) 80 (M.1 77 3) 0) 78 (M.1 77 3) 5) := W8.wr (fun w => (nb_nnum (by decide) (by decide)))
        refine nb_Gr ?_
        have E23 : nb_rd (nb_wr (nb_wr (nb_wr M 79 (M.1 77 3) l2) 80 (M.1 77 3) 0) 78 (M.1 77 3) 5) 77 3 = M.1 77 3 := nb_rdw (Or.inl (by decide)) (nb_rdw (Or.inl (by decide)) (nb_rdw (Or.inl (by decide)) (nb_rd_1 _ _ _)))
        have E24 : nb_add (M.1 77 3) 1 = M.1 77 3 + 1 := nb_add_eq (by omega) (by omega)
        refine nb_Wg (q_tk_add_17 _ _ _ _ _ (by omega)) ?_
        simp only [E23, E24]
        clear E23 E24
        have W25 : nb_Lay (nb_wr (nb_wr (nb_wr (nb_wr M 79 (M.1 77 3) l2) 80 (M.1 77 3) 0) 78 (M.1 77 3) 5) 77 3 (M.1 77 3 + 1)) := W22.wr (fun w => (nb_nlit (by decide) (by decide)))
        refine nb_Gr ?_
        refine nb_Wg (q_tk_add_18 _ _ _ _ _) ?_
        refine nb_Gs ?_
        exact nb_Hu H W25
      · have H := nb_Hw ((nb_Hu H).2 (by omega))
        have c31 : M.1 3 l2 ≠ 44 := by omega
        refine nb_Gr ?_
        refine nb_Wg (q_tk_add_15 _ _ _ _ _ _ _) ?_
        refine nb_Gr ?_
        have N26 : nb_ln (nb_wr (nb_wr M 79 (M.1 77 3) l2) 80 (M.1 77 3) 0) 78 = 1001 := W8.lk (by decide) (by decide +kernel)
        refine nb_Wg (q_tk_add_16 _ _ _ _ _ _ _ _ (by omega) (by omega) (by omega) (by rw [N26]; first | done | omega)) ?_
        clear N26
        have W27 : nb_Lay (nb_wr (nb_wr (nb_wr M 79 (M.1 77 3) l2) 80 (M.1 77 3) 0) 78 (M.1 77 3) 6) := W8.wr (fun w => (nb_nnum (by decide) (by decide)))
        refine nb_Gr ?_
        have E28 : nb_rd (nb_wr (nb_wr (nb_wr M 79 (M.1 77 3) l2) 80 (M.1 77 3) 0) 78 (M.1 77 3) 6) 77 3 = M.1 77 3 := nb_rdw (Or.inl (by decide)) (nb_rdw (Or.inl (by decide)) (nb_rdw (Or.inl (by decide)) (nb_rd_1 _ _ _)))
        have E29 : nb_add (M.1 77 3) 1 = M.1 77 3 + 1 := nb_add_eq (by omega) (by omega)
        refine nb_Wg (q_tk_add_17 _ _ _ _ _ (by omega)) ?_
        simp only [E28, E29]
        clear E28 E29
        have W30 : nb_Lay (nb_wr (nb_wr (nb_wr (nb_wr M 79 (M.1 77 3) l2) 80 (M.1 77 3) 0) 78 (M.1 77 3) 6) 77 3 (M.1 77 3 + 1)) := W27.wr (fun w => (nb_nlit (by decide) (by decide)))
        refine nb_Gr ?_
        refine nb_Wg (q_tk_add_18 _ _ _ _ _) ?_
        refine nb_Gs ?_
        exact nb_Hu H W30
    · have H := nb_Hw ((nb_Hu H).2 (by omega))
      have c59 : 48 ≤ M.1 3 l2 := by omega
      refine nb_Gr ?_
      refine nb_Wg (q_tk_isDigit_1 _ _) ?_
      refine nb_Gi (fun c58 => ?_) (fun c58 => ?_)
      · have H := nb_Hw ((nb_Hu H).1 c58)
        refine nb_Gr ?_
        refine nb_Wg (q_tk_isDigit_3 _ _) ?_
        refine nb_Gr ?_
        have E32 : nb_i2z 0 = 0 := by decide
        refine nb_Wg (q_tk_isDigit_4 _ _ _) ?_
        simp only [E32]
        clear E32
        refine nb_Gs ?_
        show nb_W 288 7 [(18, 77), (4, 3), (0, l2), (0, l3)] [(0, 0)] (nb_wr (nb_wr M 79 (M.1 77 3) l2) 80 (M.1 77 3) 0) _
        refine nb_Wg (q_tk_add_7 _ _ _ _ _ _) ?_
        refine nb_Gt (by decide) ?_
        refine nb_Gr ?_
        have N33 : nb_ln (nb_wr (nb_wr M 79 (M.1 77 3) l2) 80 (M.1 77 3) 0) 3 = 1000 := W8.lk (by decide) (by decide +kernel)
        have E34 : nb_rd (nb_wr (nb_wr M 79 (M.1 77 3) l2) 80 (M.1 77 3) 0) 3 l2 = M.1 3 l2 := nb_rdw (Or.inl (by decide)) (nb_rdw (Or.inl (by decide)) (nb_rd_1 _ _ _))
        refine nb_Wg (q_tk_add_10 _ _ _ _ _ (by omega) (by omega) (by rw [N33]; first | done | omega)) ?_
        simp only [E34]
        clear N33 E34
        refine nb_Gi (fun c51 => ?_) (fun c51 => ?_)
        · have H := nb_Hw ((nb_Hu H).1 c51)
          refine nb_Gr ?_
          have E35 : nb_rd (nb_wr (nb_wr M 79 (M.1 77 3) l2) 80 (M.1 77 3) 0) 77 0 = 78 := W8.k0
          have E36 : nb_rd (nb_wr (nb_wr M 79 (M.1 77 3) l2) 80 (M.1 77 3) 0) 77 3 = M.1 77 3 := nb_rdw (Or.inl (by decide)) (nb_rdw (Or.inl (by decide)) (nb_rd_1 _ _ _))
          have N37 : nb_ln (nb_wr (nb_wr M 79 (M.1 77 3) l2) 80 (M.1 77 3) 0) 78 = 1001 := W8.lk (by decide) (by decide +kernel)
          refine nb_Wg (q_tk_add_11 _ _ _ _ _ (by omega) (by rw [E35]; first | done | omega) (by rw [E35]; first | done | omega) (by rw [E36]; first | done | omega) (by rw [E36, E35, N37]; first | done | omega)) ?_
          simp only [E35, E36]
          clear E35 E36 N37
          have W38 : nb_Lay (nb_wr (nb_wr (nb_wr M 79 (M.1 77 3) l2) 80 (M.1 77 3) 0) 78 (M.1 77 3) 4) := W8.wr (fun w => (nb_nnum (by decide) (by decide)))
          refine nb_Gr ?_
          refine nb_Wg (q_tk_add_12 _ _ _ _ _) ?_
          refine nb_Gr ?_
          have E39 : nb_rd (nb_wr (nb_wr (nb_wr M 79 (M.1 77 3) l2) 80 (M.1 77 3) 0) 78 (M.1 77 3) 4) 77 3 = M.1 77 3 := nb_rdw (Or.inl (by decide)) (nb_rdw (Or.inl (by decide)) (nb_rdw (Or.inl (by decide)) (nb_rd_1 _ _ _)))
          have E40 : nb_add (M.1 77 3) 1 = M.1 77 3 + 1 := nb_add_eq (by omega) (by omega)
          refine nb_Wg (q_tk_add_17 _ _ _ _ _ (by omega)) ?_
          simp only [E39, E40]
          clear E39 E40
          have W41 : nb_Lay (nb_wr (nb_wr (nb_wr (nb_wr M 79 (M.1 77 3) l2) 80 (M.1 77 3) 0) 78 (M.1 77 3) 4) 77 3 (M.1 77 3 + 1)) := W38.wr (fun w => (nb_nlit (by decide) (by decide)))
          refine nb_Gr ?_
          refine nb_Wg (q_tk_add_18 _ _ _ _ _) ?_
          refine nb_Gs ?_
          exact nb_Hu H W41
        · have H := nb_Hw ((nb_Hu H).2 (by omega))
          have c51 : M.1 3 l2 ≠ 59 := by omega
          refine nb_Gr ?_
          have E42 : nb_rd (nb_wr (nb_wr M 79 (M.1 77 3) l2) 80 (M.1 77 3) 0) 77 0 = 78 := W8.k0
          have E43 : nb_rd (nb_wr (nb_wr M 79 (M.1 77 3) l2) 80 (M.1 77 3) 0) 77 3 = M.1 77 3 := nb_rdw (Or.inl (by decide)) (nb_rdw (Or.inl (by decide)) (nb_rd_1 _ _ _))
          have N44 : nb_ln (nb_wr (nb_wr M 79 (M.1 77 3) l2) 80 (M.1 77 3) 0) 3 = 1000 := W8.lk (by decide) (by decide +kernel)
          have E45 : nb_rd (nb_wr (nb_wr M 79 (M.1 77 3) l2) 80 (M.1 77 3) 0) 3 l2 = M.1 3 l2 := nb_rdw (Or.inl (by decide)) (nb_rdw (Or.inl (by decide)) (nb_rd_1 _ _ _))
          refine nb_Wg (q_tk_add_13 _ _ _ _ _ (by omega) (by omega) (by omega) (by rw [N44]; first | done | omega)) ?_
          simp only [E42, E43, E45]
          clear E42 E43 N44 E45
          refine nb_Gf (by omega) ?_
          refine nb_Gr ?_
          refine nb_Wg (q_tk_add_15 _ _ _ _ _ _ _) ?_
          refine nb_Gr ?_
          have N46 : nb_ln (nb_wr (nb_wr M 79 (M.1 77 3) l2) 80 (M.1 77 3) 0) 78 = 1001 := W8.lk (by decide) (by decide +kernel)
          refine nb_Wg (q_tk_add_16 _ _ _ _ _ _ _ _ (by omega) (by omega) (by omega) (by rw [N46]; first | done | omega)) ?_
          clear N46
          have W47 : nb_Lay (nb_wr (nb_wr (nb_wr M 79 (M.1 77 3) l2) 80 (M.1 77 3) 0) 78 (M.1 77 3) 6) := W8.wr (fun w => (nb_nnum (by decide) (by decide)))
          refine nb_Gr ?_
          have E48 : nb_rd (nb_wr (nb_wr (nb_wr M 79 (M.1 77 3) l2) 80 (M.1 77 3) 0) 78 (M.1 77 3) 6) 77 3 = M.1 77 3 := nb_rdw (Or.inl (by decide)) (nb_rdw (Or.inl (by decide)) (nb_rdw (Or.inl (by decide)) (nb_rd_1 _ _ _)))
          have E49 : nb_add (M.1 77 3) 1 = M.1 77 3 + 1 := nb_add_eq (by omega) (by omega)
          refine nb_Wg (q_tk_add_17 _ _ _ _ _ (by omega)) ?_
          simp only [E48, E49]
          clear E48 E49
          have W50 : nb_Lay (nb_wr (nb_wr (nb_wr (nb_wr M 79 (M.1 77 3) l2) 80 (M.1 77 3) 0) 78 (M.1 77 3) 6) 77 3 (M.1 77 3 + 1)) := W47.wr (fun w => (nb_nlit (by decide) (by decide)))
          refine nb_Gr ?_
          refine nb_Wg (q_tk_add_18 _ _ _ _ _) ?_
          refine nb_Gs ?_
          exact nb_Hu H W50
      · have H := nb_Hw ((nb_Hu H).2 (by omega))
        have c58 : M.1 3 l2 ≤ 57 := by omega
        refine nb_Gr ?_
        refine nb_Wg (q_tk_isDigit_2 _ _) ?_
        refine nb_Gr ?_
        have E52 : nb_i2z 1 = 1 := by decide
        refine nb_Wg (q_tk_isDigit_4 _ _ _) ?_
        simp only [E52]
        clear E52
        refine nb_Gs ?_
        show nb_W 288 7 [(18, 77), (4, 3), (0, l2), (0, l3)] [(0, 1)] (nb_wr (nb_wr M 79 (M.1 77 3) l2) 80 (M.1 77 3) 0) _
        refine nb_Wg (q_tk_add_7 _ _ _ _ _ _) ?_
        refine nb_Gf (by decide) ?_
        refine nb_Gr ?_
        refine nb_Wg (q_tk_add_8 _ _ _ _ _ (by omega)) ?_
        refine nb_Gb ?_
        refine nb_W.imp (nb_Hu H) (fun r M54 H => ?_)
        obtain ⟨rfl, W55, H⟩ := H
        replace H := nb_Hw H
        show nb_W 288 9 [(18, 77), (4, 3), (0, l2), (0, l3)] [] M54 _
        refine nb_Wg (q_tk_add_9 _ _ _ _ _) ?_
        refine nb_Gr ?_
        have E56 : nb_rd M54 77 3 = M54.1 77 3 := nb_rd_1 _ _ _
        refine nb_Wg (q_tk_add_17 _ _ _ _ _ (by omega)) ?_
        simp only [E56]
        clear E56
        have W57 : nb_Lay (nb_wr M54 77 3 (nb_add (M54.1 77 3) 1)) := W55.wr (fun w => (nb_nlit (by decide) (by decide)))
        refine nb_Gr ?_
        refine nb_Wg (q_tk_add_18 _ _ _ _ _) ?_
        refine nb_Gs ?_
        exact nb_Hu H W57
  · have H := nb_Hw ((nb_Hu H).2 (by omega))
    have c82 : 97 ≤ M.1 3 l2 := by omega
    refine nb_Gr ?_
    refine nb_Wg (q_tk_isLetter_1 _ _) ?_
    refine nb_Gi (fun c81 => ?_) (fun c81 => ?_)
    · have H := nb_Hw ((nb_Hu H).1 c81)
      refine nb_Gr ?_
      refine nb_Wg (q_tk_isLetter_3 _ _) ?_
      refine nb_Gr ?_
      have E60 : nb_i2z 0 = 0 := by decide
      refine nb_Wg (q_tk_isLetter_4 _ _ _) ?_
      simp only [E60]
      clear E60
      refine nb_Gs ?_
      show nb_W 288 3 [(18, 77), (4, 3), (0, l2), (0, l3)] [(0, 0)] (nb_wr (nb_wr M 79 (M.1 77 3) l2) 80 (M.1 77 3) 0) _
      refine nb_Wg (q_tk_add_3 _ _ _ _ _ _) ?_
      refine nb_Gt (by decide) ?_
      refine nb_Gr ?_
      have N61 : nb_ln (nb_wr (nb_wr M 79 (M.1 77 3) l2) 80 (M.1 77 3) 0) 3 = 1000 := W8.lk (by decide) (by decide +kernel)
      have E62 : nb_rd (nb_wr (nb_wr M 79 (M.1 77 3) l2) 80 (M.1 77 3) 0) 3 l2 = M.1 3 l2 := nb_rdw (Or.inl (by decide)) (nb_rdw (Or.inl (by decide)) (nb_rd_1 _ _ _))
      refine nb_Wg (q_tk_add_6 _ _ _ _ _ (by omega) (by omega) (by rw [N61]; first | done | omega)) ?_
      simp only [E62]
      clear N61 E62
      refine nb_Gb ?_
      refine nb_Wg (q_tk_isDigit_0 _ _) ?_
      refine nb_Gf (by omega) ?_
      refine nb_Gr ?_
      refine nb_Wg (q_tk_isDigit_1 _ _) ?_
      refine nb_Gt (by omega) ?_
      refine nb_Gr ?_
      refine nb_Wg (q_tk_isDigit_3 _ _) ?_
      refine nb_Gr ?_
      have E63 : nb_i2z 0 = 0 := by decide
      refine nb_Wg (q_tk_isDigit_4 _ _ _) ?_
      simp only [E63]
      clear E63
      refine nb_Gs ?_
      show nb_W 288 7 [(18, 77), (4, 3), (0, l2), (0, l3)] [(0, 0)] (nb_wr (nb_wr M 79 (M.1 77 3) l2) 80 (M.1 77 3) 0) _
      refine nb_Wg (q_tk_add_7 _ _ _ _ _ _) ?_
      refine nb_Gt (by decide) ?_
      refine nb_Gr ?_
      have N64 : nb_ln (nb_wr (nb_wr M 79 (M.1 77 3) l2) 80 (M.1 77 3) 0) 3 = 1000 := W8.lk (by decide) (by decide +kernel)
      have E65 : nb_rd (nb_wr (nb_wr M 79 (M.1 77 3) l2) 80 (M.1 77 3) 0) 3 l2 = M.1 3 l2 := nb_rdw (Or.inl (by decide)) (nb_rdw (Or.inl (by decide)) (nb_rd_1 _ _ _))
      refine nb_Wg (q_tk_add_10 _ _ _ _ _ (by omega) (by omega) (by rw [N64]; first | done | omega)) ?_
      simp only [E65]
      clear N64 E65
      refine nb_Gf (by omega) ?_
      refine nb_Gr ?_
      have E66 : nb_rd (nb_wr (nb_wr M 79 (M.1 77 3) l2) 80 (M.1 77 3) 0) 77 0 = 78 := W8.k0
      have E67 : nb_rd (nb_wr (nb_wr M 79 (M.1 77 3) l2) 80 (M.1 77 3) 0) 77 3 = M.1 77 3 := nb_rdw (Or.inl (by decide)) (nb_rdw (Or.inl (by decide)) (nb_rd_1 _ _ _))
      have N68 : nb_ln (nb_wr (nb_wr M 79 (M.1 77 3) l2) 80 (M.1 77 3) 0) 3 = 1000 := W8.lk (by decide) (by decide +kernel)
      have E69 : nb_rd (nb_wr (nb_wr M 79 (M.1 77 3) l2) 80 (M.1 77 3) 0) 3 l2 = M.1 3 l2 := nb_rdw (Or.inl (by decide)) (nb_rdw (Or.inl (by decide)) (nb_rd_1 _ _ _))
      refine nb_Wg (q_tk_add_13 _ _ _ _ _ (by omega) (by omega) (by omega) (by rw [N68]; first | done | omega)) ?_
      simp only [E66, E67, E69]
      clear E66 E67 N68 E69
      refine nb_Gf (by omega) ?_
      refine nb_Gr ?_
      refine nb_Wg (q_tk_add_15 _ _ _ _ _ _ _) ?_
      refine nb_Gr ?_
      have N70 : nb_ln (nb_wr (nb_wr M 79 (M.1 77 3) l2) 80 (M.1 77 3) 0) 78 = 1001 := W8.lk (by decide) (by decide +kernel)
      refine nb_Wg (q_tk_add_16 _ _ _ _ _ _ _ _ (by omega) (by omega) (by omega) (by rw [N70]; first | done | omega)) ?_
      clear N70
      have W71 : nb_Lay (nb_wr (nb_wr (nb_wr M 79 (M.1 77 3) l2) 80 (M.1 77 3) 0) 78 (M.1 77 3) 6) := W8.wr (fun w => (nb_nnum (by decide) (by decide)))
      refine nb_Gr ?_
      have E72 : nb_rd (nb_wr (nb_wr (nb_wr M 79 (M.1 77 3) l2) 80 (M.1 77 3) 0) 78 (M.1 77 3) 6) 77 3 = M.1 77 3 := nb_rdw (Or.inl (by decide)) (nb_rdw (Or.inl (by decide)) (nb_rdw (Or.inl (by decide)) (nb_rd_1 _ _ _)))
      have E73 : nb_add (M.1 77 3) 1 = M.1 77 3 + 1 := nb_add_eq (by omega) (by omega)
      refine nb_Wg (q_tk_add_17 _ _ _ _ _ (by omega)) ?_
      simp only [E72, E73]
      clear E72 E73
      have W74 : nb_Lay (nb_wr (nb_wr (nb_wr (nb_wr M 79 (M.1 77 3) l2) 80 (M.1 77 3) 0) 78 (M.1 77 3) 6) 77 3 (M.1 77 3 + 1)) := W71.wr (fun w => (nb_nlit (by decide) (by decide)))
      refine nb_Gr ?_
      refine nb_Wg (q_tk_add_18 _ _ _ _ _) ?_
      refine nb_Gs ?_
      exact nb_Hu H W74
    · have H := nb_Hw ((nb_Hu H).2 (by omega))
      have c81 : M.1 3 l2 ≤ 122 := by omega
      refine nb_Gr ?_
      refine nb_Wg (q_tk_isLetter_2 _ _) ?_
      refine nb_Gr ?_
      have E75 : nb_i2z 1 = 1 := by decide
      refine nb_Wg (q_tk_isLetter_4 _ _ _) ?_
      simp only [E75]
      clear E75
      refine nb_Gs ?_
      show nb_W 288 3 [(18, 77), (4, 3), (0, l2), (0, l3)] [(0, 1)] (nb_wr (nb_wr M 79 (M.1 77 3) l2) 80 (M.1 77 3) 0) _
      refine nb_Wg (q_tk_add_3 _ _ _ _ _ _) ?_
      refine nb_Gf (by decide) ?_
      refine nb_Gr ?_
      refine nb_Wg (q_tk_add_4 _ _ _ _ _ (by omega)) ?_
      refine nb_Gb ?_
      refine nb_W.imp (nb_Hu H) (fun r M77 H => ?_)
      obtain ⟨rfl, W78, H⟩ := H
      replace H := nb_Hw H
      show nb_W 288 5 [(18, 77), (4, 3), (0, l2), (0, l3)] [] M77 _
      refine nb_Wg (q_tk_add_5 _ _ _ _ _) ?_
      refine nb_Gr ?_
      have E79 : nb_rd M77 77 3 = M77.1 77 3 := nb_rd_1 _ _ _
      refine nb_Wg (q_tk_add_17 _ _ _ _ _ (by omega)) ?_
      simp only [E79]
      clear E79
      have W80 : nb_Lay (nb_wr M77 77 3 (nb_add (M77.1 77 3) 1)) := W78.wr (fun w => (nb_nlit (by decide) (by decide)))
      refine nb_Gr ?_
      refine nb_Wg (q_tk_add_18 _ _ _ _ _) ?_
      refine nb_Gs ?_
      exact nb_Hu H W80

theorem w_tk_addWord_0 {l2 l3 : Int} {v4 v5 v6 : nb_V} {M : nb_M} {Q : List nb_V → nb_M → Prop} (W : nb_Lay M)  (b0_ : 0 ≤ l2 ∧ l2 ≤ 999) (b1_ : 0 ≤ l3 ∧ l3 ≤ 1000) (H : (8 < l3 - l2 → 0 ≤ M.1 77 3 ∧ M.1 77 3 < 1001 ∧ (nb_Lay (nb_wr M 78 (M.1 77 3) 6) → Q [] (nb_wr M 78 (M.1 77 3) 6))) ∧ (l3 - l2 ≤ 8 → nb_W 289 4 [(18, 77), (4, 3), (0, l2), (0, l3), (1, 0), (98, 0), (0, l2)] [] M Q)) :
    nb_W 289 0 [(18, 77), (4, 3), (0, l2), (0, l3), v4, v5, v6] [] M Q := by
  replace H := nb_Hw H
  have E1 : nb_sub l3 l2 = l3 - l2 := nb_sub_eq (by omega) (by omega)
  refine nb_Wg (q_tk_addWord_0 _ _ _ _ _ _ _ _) ?_
  simp only [E1]
  clear E1
  refine nb_Gi (fun c6 => ?_) (fun c6 => ?_)
  · have H := nb_Hw ((nb_Hu H).1 c6)
    refine nb_Gr ?_
    obtain ⟨p0_, p1_, H⟩ := H
    replace H := nb_Hw H
    have E2 : nb_rd M 77 0 = 78 := W.k0
    have E3 : nb_rd M 77 3 = M.1 77 3 := nb_rd_1 _ _ _
    have N4 : nb_ln M 78 = 1001 := W.lk (by decide) (by decide +kernel)
    refine nb_Wg (q_tk_addWord_1 _ _ _ _ _ _ _ _ (by omega) (by rw [E2]; first | done | omega) (by rw [E2]; first | done | omega) (by rw [E3]; first | done | omega) (by rw [E3, E2, N4]; first | done | omega)) ?_
    simp only [E2, E3]
    clear E2 E3 N4
    have W5 : nb_Lay (nb_wr M 78 (M.1 77 3) 6) := W.wr (fun w => (nb_nnum (by decide) (by decide)))
    refine nb_Gr ?_
    refine nb_Wg (q_tk_addWord_2 _ _ _ _ _ _ _ _) ?_
    refine nb_Gs ?_
    exact nb_Hu H W5
  · have H := nb_Hw ((nb_Hu H).2 (by omega))
    have c6 : l3 - l2 ≤ 8 := by omega
    refine nb_Gr ?_
    refine nb_Wg (q_tk_addWord_3 _ _ _ _ _ _ _ _) ?_
    refine nb_Gr ?_
    exact nb_Hu H

theorem w_tk_addWord_4 {l3 l4 l6 : Int} {v2 v5 : nb_V} {M : nb_M} {Q : List nb_V → nb_M → Prop} (W : nb_Lay M)  (b0_ : 0 ≤ l3 ∧ l3 ≤ 1000) (b1_ : 0 ≤ l6 ∧ l6 ≤ 1000) (H : (l6 < l3 → nb_W 289 4 [(18, 77), (4, 3), v2, (0, l3), (1, nb_lor (nb_lshl l4 5) (nb_i2l (nb_add (nb_sub (M.1 3 l6) 97) 1))), (98, 0), (0, l6 + 1)] [] M Q) ∧ (l3 ≤ l6 → 0 ≤ M.1 77 3 ∧ M.1 77 3 < 1001 ∧ nb_W 291 0 [(1, l4), (98, 0)] [] (nb_wr M 80 (M.1 77 3) l4) (fun r M11 => ∃ x10 : Int, r = [(0, x10)] ∧ nb_Lay M11 ∧ (x10 = 0 → (nb_Lay (nb_wr M11 78 (M.1 77 3) 1) → Q [] (nb_wr M11 78 (M.1 77 3) 1))) ∧ (x10 ≠ 0 → (nb_Lay (nb_wr M11 78 (M.1 77 3) 2) → Q [] (nb_wr M11 78 (M.1 77 3) 2)))))) :
    nb_W 289 4 [(18, 77), (4, 3), v2, (0, l3), (1, l4), v5, (0, l6)] [] M Q := by
  replace H := nb_Hw H
  refine nb_Wg (q_tk_addWord_4 _ _ _ _ _ _ _ _) ?_
  refine nb_Gi (fun c18 => ?_) (fun c18 => ?_)
  · have H := nb_Hw ((nb_Hu H).1 c18)
    refine nb_Gr ?_
    have N1 : nb_ln M 3 = 1000 := W.lk (by decide) (by decide +kernel)
    have E2 : nb_rd M 3 l6 = M.1 3 l6 := nb_rd_1 _ _ _
    have E3 : nb_add l6 1 = l6 + 1 := nb_add_eq (by omega) (by omega)
    refine nb_Wg (q_tk_addWord_5 _ _ _ _ _ _ _ _ (by omega) (by omega) (by rw [N1]; first | done | omega)) ?_
    simp only [E2, E3]
    clear N1 E2 E3
    refine nb_Gr ?_
    exact nb_Hu H
  · have H := nb_Hw ((nb_Hu H).2 (by omega))
    have c18 : l3 ≤ l6 := by omega
    refine nb_Gr ?_
    obtain ⟨p0_, p1_, H⟩ := H
    replace H := nb_Hw H
    have E4 : nb_rd M 77 2 = 80 := W.k2
    have E5 : nb_rd M 77 3 = M.1 77 3 := nb_rd_1 _ _ _
    have N6 : nb_ln M 80 = 1001 := W.lk (by decide) (by decide +kernel)
    refine nb_Wg (q_tk_addWord_6 _ _ _ _ _ _ _ _ (by omega) (by rw [E4]; first | done | omega) (by rw [E4]; first | done | omega) (by rw [E5]; first | done | omega) (by rw [E5, E4, N6]; first | done | omega)) ?_
    simp only [E4, E5]
    clear E4 E5 N6
    have W7 : nb_Lay (nb_wr M 80 (M.1 77 3) l4) := W.wr (fun w => (nb_nnum (by decide) (by decide)))
    refine nb_Gr ?_
    have E8 : nb_rd (nb_wr M 80 (M.1 77 3) l4) 77 0 = 78 := W7.k0
    have E9 : nb_rd (nb_wr M 80 (M.1 77 3) l4) 77 3 = M.1 77 3 := nb_rdw (Or.inl (by decide)) (nb_rd_1 _ _ _)
    refine nb_Wg (q_tk_addWord_7 _ _ _ _ _ _ _ _ (by omega)) ?_
    simp only [E8, E9]
    clear E8 E9
    refine nb_Gb ?_
    refine nb_W.imp (nb_Hu H) (fun r M11 H => ?_)
    obtain ⟨x10, rfl, W12, H⟩ := H
    replace H := nb_Hw H
    show nb_W 289 8 [(18, 77), (4, 3), v2, (0, l3), (1, l4), v5, (0, l6)] [(0, x10), (0, M.1 77 3), (3, 78)] M11 _
    refine nb_Wg (q_tk_addWord_8 _ _ _ _ _ _ _ _ _ _ _) ?_
    refine nb_Gi (fun c17 => ?_) (fun c17 => ?_)
    · have H := nb_Hw ((nb_Hu H).1 c17)
      refine nb_Gr ?_
      refine nb_Wg (q_tk_addWord_10 _ _ _ _ _ _ _ _ _ _) ?_
      refine nb_Gr ?_
      have N13 : nb_ln M11 78 = 1001 := W12.lk (by decide) (by decide +kernel)
      refine nb_Wg (q_tk_addWord_11 _ _ _ _ _ _ _ _ _ _ _ (by omega) (by omega) (by omega) (by rw [N13]; first | done | omega)) ?_
      clear N13
      have W14 : nb_Lay (nb_wr M11 78 (M.1 77 3) 1) := W12.wr (fun w => (nb_nnum (by decide) (by decide)))
      refine nb_Gr ?_
      refine nb_Wg (q_tk_addWord_12 _ _ _ _ _ _ _ _) ?_
      refine nb_Gs ?_
      exact nb_Hu H W14
    · have H := nb_Hw ((nb_Hu H).2 (by omega))
      have c17 : x10 ≠ 0 := by omega
      refine nb_Gr ?_
      refine nb_Wg (q_tk_addWord_9 _ _ _ _ _ _ _ _ _ _) ?_
      refine nb_Gr ?_
      have N15 : nb_ln M11 78 = 1001 := W12.lk (by decide) (by decide +kernel)
      refine nb_Wg (q_tk_addWord_11 _ _ _ _ _ _ _ _ _ _ _ (by omega) (by omega) (by omega) (by rw [N15]; first | done | omega)) ?_
      clear N15
      have W16 : nb_Lay (nb_wr M11 78 (M.1 77 3) 2) := W12.wr (fun w => (nb_nnum (by decide) (by decide)))
      refine nb_Gr ?_
      refine nb_Wg (q_tk_addWord_12 _ _ _ _ _ _ _ _) ?_
      refine nb_Gs ?_
      exact nb_Hu H W16

theorem w_tk_addWhole_0 {l2 l3 : Int} {v4 v5 v6 : nb_V} {M : nb_M} {Q : List nb_V → nb_M → Prop} (W : nb_Lay M)  (b0_ : 0 ≤ l2 ∧ l2 ≤ 999) (b1_ : 0 ≤ l3 ∧ l3 ≤ 1000) (H : (3 < l3 - l2 → 0 ≤ M.1 77 3 ∧ M.1 77 3 < 1001 ∧ (nb_Lay (nb_wr M 78 (M.1 77 3) 6) → Q [] (nb_wr M 78 (M.1 77 3) 6))) ∧ (l3 - l2 ≤ 3 → nb_W 290 4 [(18, 77), (4, 3), (0, l2), (0, l3), (1, 0), (98, 0), (0, l2)] [] M Q)) :
    nb_W 290 0 [(18, 77), (4, 3), (0, l2), (0, l3), v4, v5, v6] [] M Q := by
  replace H := nb_Hw H
  have E1 : nb_sub l3 l2 = l3 - l2 := nb_sub_eq (by omega) (by omega)
  refine nb_Wg (q_tk_addWhole_0 _ _ _ _ _ _ _ _) ?_
  simp only [E1]
  clear E1
  refine nb_Gi (fun c6 => ?_) (fun c6 => ?_)
  · have H := nb_Hw ((nb_Hu H).1 c6)
    refine nb_Gr ?_
    obtain ⟨p0_, p1_, H⟩ := H
    replace H := nb_Hw H
    have E2 : nb_rd M 77 0 = 78 := W.k0
    have E3 : nb_rd M 77 3 = M.1 77 3 := nb_rd_1 _ _ _
    have N4 : nb_ln M 78 = 1001 := W.lk (by decide) (by decide +kernel)
    refine nb_Wg (q_tk_addWhole_1 _ _ _ _ _ _ _ _ (by omega) (by rw [E2]; first | done | omega) (by rw [E2]; first | done | omega) (by rw [E3]; first | done | omega) (by rw [E3, E2, N4]; first | done | omega)) ?_
    simp only [E2, E3]
    clear E2 E3 N4
    have W5 : nb_Lay (nb_wr M 78 (M.1 77 3) 6) := W.wr (fun w => (nb_nnum (by decide) (by decide)))
    refine nb_Gr ?_
    refine nb_Wg (q_tk_addWhole_2 _ _ _ _ _ _ _ _) ?_
    refine nb_Gs ?_
    exact nb_Hu H W5
  · have H := nb_Hw ((nb_Hu H).2 (by omega))
    have c6 : l3 - l2 ≤ 3 := by omega
    refine nb_Gr ?_
    refine nb_Wg (q_tk_addWhole_3 _ _ _ _ _ _ _ _) ?_
    refine nb_Gr ?_
    exact nb_Hu H

theorem w_tk_addWhole_4 {l3 l4 l6 : Int} {v2 v5 : nb_V} {M : nb_M} {Q : List nb_V → nb_M → Prop} (W : nb_Lay M)  (b0_ : 0 ≤ l3 ∧ l3 ≤ 1000) (b1_ : 0 ≤ l6 ∧ l6 ≤ 1000) (H : (l6 < l3 → nb_W 290 4 [(18, 77), (4, 3), v2, (0, l3), (1, nb_lsub (nb_ladd (nb_lmul l4 10) (nb_i2l (M.1 3 l6))) 48), (98, 0), (0, l6 + 1)] [] M Q) ∧ (l3 ≤ l6 → 0 ≤ M.1 77 3 ∧ M.1 77 3 < 1001 ∧ (nb_Lay (nb_wr (nb_wr M 80 (M.1 77 3) l4) 78 (M.1 77 3) 3) → Q [] (nb_wr (nb_wr M 80 (M.1 77 3) l4) 78 (M.1 77 3) 3)))) :
    nb_W 290 4 [(18, 77), (4, 3), v2, (0, l3), (1, l4), v5, (0, l6)] [] M Q := by
  replace H := nb_Hw H
  refine nb_Wg (q_tk_addWhole_4 _ _ _ _ _ _ _ _) ?_
  refine nb_Gi (fun c12 => ?_) (fun c12 => ?_)
  · have H := nb_Hw ((nb_Hu H).1 c12)
    refine nb_Gr ?_
    have N1 : nb_ln M 3 = 1000 := W.lk (by decide) (by decide +kernel)
    have E2 : nb_rd M 3 l6 = M.1 3 l6 := nb_rd_1 _ _ _
    have E3 : nb_add l6 1 = l6 + 1 := nb_add_eq (by omega) (by omega)
    refine nb_Wg (q_tk_addWhole_5 _ _ _ _ _ _ _ _ (by omega) (by omega) (by rw [N1]; first | done | omega)) ?_
    simp only [E2, E3]
    clear N1 E2 E3
    refine nb_Gr ?_
    exact nb_Hu H
  · have H := nb_Hw ((nb_Hu H).2 (by omega))
    have c12 : l3 ≤ l6 := by omega
    refine nb_Gr ?_
    obtain ⟨p0_, p1_, H⟩ := H
    replace H := nb_Hw H
    have E4 : nb_rd M 77 2 = 80 := W.k2
    have E5 : nb_rd M 77 3 = M.1 77 3 := nb_rd_1 _ _ _
    have N6 : nb_ln M 80 = 1001 := W.lk (by decide) (by decide +kernel)
    refine nb_Wg (q_tk_addWhole_6 _ _ _ _ _ _ _ _ (by omega) (by rw [E4]; first | done | omega) (by rw [E4]; first | done | omega) (by rw [E5]; first | done | omega) (by rw [E5, E4, N6]; first | done | omega)) ?_
    simp only [E4, E5]
    clear E4 E5 N6
    have W7 : nb_Lay (nb_wr M 80 (M.1 77 3) l4) := W.wr (fun w => (nb_nnum (by decide) (by decide)))
    refine nb_Gr ?_
    have E8 : nb_rd (nb_wr M 80 (M.1 77 3) l4) 77 0 = 78 := W7.k0
    have E9 : nb_rd (nb_wr M 80 (M.1 77 3) l4) 77 3 = M.1 77 3 := nb_rdw (Or.inl (by decide)) (nb_rd_1 _ _ _)
    have N10 : nb_ln (nb_wr M 80 (M.1 77 3) l4) 78 = 1001 := W7.lk (by decide) (by decide +kernel)
    refine nb_Wg (q_tk_addWhole_7 _ _ _ _ _ _ _ _ (by omega) (by rw [E8]; first | done | omega) (by rw [E8]; first | done | omega) (by rw [E9]; first | done | omega) (by rw [E9, E8, N10]; first | done | omega)) ?_
    simp only [E8, E9]
    clear E8 E9 N10
    have W11 : nb_Lay (nb_wr (nb_wr M 80 (M.1 77 3) l4) 78 (M.1 77 3) 3) := W7.wr (fun w => (nb_nnum (by decide) (by decide)))
    refine nb_Gr ?_
    refine nb_Wg (q_tk_addWhole_8 _ _ _ _ _ _ _ _) ?_
    refine nb_Gs ?_
    exact nb_Hu H W11

theorem w_tk_isLineWord_0 {l0 : Int} {v1 : nb_V} {M : nb_M} {Q : List nb_V → nb_M → Prop} (W : nb_Lay M) (H : nb_W 292 0 [(2, 60), (98, 0), (98, 0), (98, 0)] [] M (fun r M2 => ∃ x1 : Int, r = [(1, x1)] ∧ nb_Lay M2 ∧ (nb_lcmp l0 x1 = 0 → (nb_Lay M2 → Q [(0, 1)] M2)) ∧ (nb_lcmp l0 x1 ≠ 0 → nb_W 292 0 [(2, 61), (98, 0), (98, 0), (98, 0)] [] M2 (fun r M6 => ∃ x5 : Int, r = [(1, x5)] ∧ nb_Lay M6 ∧ (nb_lcmp l0 x5 = 0 → (nb_Lay M6 → Q [(0, 1)] M6)) ∧ (nb_lcmp l0 x5 ≠ 0 → nb_W 292 0 [(2, 62), (98, 0), (98, 0), (98, 0)] [] M6 (fun r M10 => ∃ x9 : Int, r = [(1, x9)] ∧ nb_Lay M10 ∧ (nb_lcmp l0 x9 = 0 → (nb_Lay M10 → Q [(0, 1)] M10)) ∧ (nb_lcmp l0 x9 ≠ 0 → nb_W 292 0 [(2, 63), (98, 0), (98, 0), (98, 0)] [] M10 (fun r M14 => ∃ x13 : Int, r = [(1, x13)] ∧ nb_Lay M14 ∧ (nb_lcmp l0 x13 = 0 → (nb_Lay M14 → Q [(0, 1)] M14)) ∧ (nb_lcmp l0 x13 ≠ 0 → nb_W 292 0 [(2, 64), (98, 0), (98, 0), (98, 0)] [] M14 (fun r M18 => ∃ x17 : Int, r = [(1, x17)] ∧ nb_Lay M18 ∧ (nb_lcmp l0 x17 = 0 → (nb_Lay M18 → Q [(0, 1)] M18)) ∧ (nb_lcmp l0 x17 ≠ 0 → nb_W 292 0 [(2, 65), (98, 0), (98, 0), (98, 0)] [] M18 (fun r M22 => ∃ x21 : Int, r = [(1, x21)] ∧ nb_Lay M22 ∧ (nb_lcmp l0 x21 = 0 → (nb_Lay M22 → Q [(0, 1)] M22)) ∧ (nb_lcmp l0 x21 ≠ 0 → (nb_Lay M22 → Q [(0, 0)] M22)))))))))))))) :
    nb_W 291 0 [(1, l0), v1] [] M Q := by
  replace H := nb_Hw H
  refine nb_Wg (q_tk_isLineWord_0 _ _ _) ?_
  refine nb_Gb ?_
  refine nb_W.imp (nb_Hu H) (fun r M2 H => ?_)
  obtain ⟨x1, rfl, W3, H⟩ := H
  replace H := nb_Hw H
  show nb_W 291 1 [(1, l0), v1] [(1, x1), (1, l0)] M2 _
  refine nb_Wg (q_tk_isLineWord_1 _ _ _ _ _) ?_
  refine nb_Gi (fun c31 => ?_) (fun c31 => ?_)
  · have H := nb_Hw ((nb_Hu H).1 c31)
    refine nb_Gr ?_
    refine nb_Wg (q_tk_isLineWord_12 _ _ _) ?_
    refine nb_Gr ?_
    have E4 : nb_i2z 1 = 1 := by decide
    refine nb_Wg (q_tk_isLineWord_14 _ _ _ _) ?_
    simp only [E4]
    clear E4
    refine nb_Gs ?_
    exact nb_Hu H W3
  · have H := nb_Hw ((nb_Hu H).2 (by omega))
    have c31 : nb_lcmp l0 x1 ≠ 0 := by omega
    refine nb_Gr ?_
    refine nb_Wg (q_tk_isLineWord_2 _ _ _) ?_
    refine nb_Gb ?_
    refine nb_W.imp (nb_Hu H) (fun r M6 H => ?_)
    obtain ⟨x5, rfl, W7, H⟩ := H
    replace H := nb_Hw H
    show nb_W 291 3 [(1, l0), v1] [(1, x5), (1, l0)] M6 _
    refine nb_Wg (q_tk_isLineWord_3 _ _ _ _ _) ?_
    refine nb_Gi (fun c30 => ?_) (fun c30 => ?_)
    · have H := nb_Hw ((nb_Hu H).1 c30)
      refine nb_Gr ?_
      refine nb_Wg (q_tk_isLineWord_12 _ _ _) ?_
      refine nb_Gr ?_
      have E8 : nb_i2z 1 = 1 := by decide
      refine nb_Wg (q_tk_isLineWord_14 _ _ _ _) ?_
      simp only [E8]
      clear E8
      refine nb_Gs ?_
      exact nb_Hu H W7
    · have H := nb_Hw ((nb_Hu H).2 (by omega))
      have c30 : nb_lcmp l0 x5 ≠ 0 := by omega
      refine nb_Gr ?_
      refine nb_Wg (q_tk_isLineWord_4 _ _ _) ?_
      refine nb_Gb ?_
      refine nb_W.imp (nb_Hu H) (fun r M10 H => ?_)
      obtain ⟨x9, rfl, W11, H⟩ := H
      replace H := nb_Hw H
      show nb_W 291 5 [(1, l0), v1] [(1, x9), (1, l0)] M10 _
      refine nb_Wg (q_tk_isLineWord_5 _ _ _ _ _) ?_
      refine nb_Gi (fun c29 => ?_) (fun c29 => ?_)
      · have H := nb_Hw ((nb_Hu H).1 c29)
        refine nb_Gr ?_
        refine nb_Wg (q_tk_isLineWord_12 _ _ _) ?_
        refine nb_Gr ?_
        have E12 : nb_i2z 1 = 1 := by decide
        refine nb_Wg (q_tk_isLineWord_14 _ _ _ _) ?_
        simp only [E12]
        clear E12
        refine nb_Gs ?_
        exact nb_Hu H W11
      · have H := nb_Hw ((nb_Hu H).2 (by omega))
        have c29 : nb_lcmp l0 x9 ≠ 0 := by omega
        refine nb_Gr ?_
        refine nb_Wg (q_tk_isLineWord_6 _ _ _) ?_
        refine nb_Gb ?_
        refine nb_W.imp (nb_Hu H) (fun r M14 H => ?_)
        obtain ⟨x13, rfl, W15, H⟩ := H
        replace H := nb_Hw H
        show nb_W 291 7 [(1, l0), v1] [(1, x13), (1, l0)] M14 _
        refine nb_Wg (q_tk_isLineWord_7 _ _ _ _ _) ?_
        refine nb_Gi (fun c28 => ?_) (fun c28 => ?_)
        · have H := nb_Hw ((nb_Hu H).1 c28)
          refine nb_Gr ?_
          refine nb_Wg (q_tk_isLineWord_12 _ _ _) ?_
          refine nb_Gr ?_
          have E16 : nb_i2z 1 = 1 := by decide
          refine nb_Wg (q_tk_isLineWord_14 _ _ _ _) ?_
          simp only [E16]
          clear E16
          refine nb_Gs ?_
          exact nb_Hu H W15
        · have H := nb_Hw ((nb_Hu H).2 (by omega))
          have c28 : nb_lcmp l0 x13 ≠ 0 := by omega
          refine nb_Gr ?_
          refine nb_Wg (q_tk_isLineWord_8 _ _ _) ?_
          refine nb_Gb ?_
          refine nb_W.imp (nb_Hu H) (fun r M18 H => ?_)
          obtain ⟨x17, rfl, W19, H⟩ := H
          replace H := nb_Hw H
          show nb_W 291 9 [(1, l0), v1] [(1, x17), (1, l0)] M18 _
          refine nb_Wg (q_tk_isLineWord_9 _ _ _ _ _) ?_
          refine nb_Gi (fun c27 => ?_) (fun c27 => ?_)
          · have H := nb_Hw ((nb_Hu H).1 c27)
            refine nb_Gr ?_
            refine nb_Wg (q_tk_isLineWord_12 _ _ _) ?_
            refine nb_Gr ?_
            have E20 : nb_i2z 1 = 1 := by decide
            refine nb_Wg (q_tk_isLineWord_14 _ _ _ _) ?_
            simp only [E20]
            clear E20
            refine nb_Gs ?_
            exact nb_Hu H W19
          · have H := nb_Hw ((nb_Hu H).2 (by omega))
            have c27 : nb_lcmp l0 x17 ≠ 0 := by omega
            refine nb_Gr ?_
            refine nb_Wg (q_tk_isLineWord_10 _ _ _) ?_
            refine nb_Gb ?_
            refine nb_W.imp (nb_Hu H) (fun r M22 H => ?_)
            obtain ⟨x21, rfl, W23, H⟩ := H
            replace H := nb_Hw H
            show nb_W 291 11 [(1, l0), v1] [(1, x21), (1, l0)] M22 _
            refine nb_Wg (q_tk_isLineWord_11 _ _ _ _ _) ?_
            refine nb_Gi (fun c26 => ?_) (fun c26 => ?_)
            · have H := nb_Hw ((nb_Hu H).1 c26)
              refine nb_Gr ?_
              refine nb_Wg (q_tk_isLineWord_12 _ _ _) ?_
              refine nb_Gr ?_
              have E24 : nb_i2z 1 = 1 := by decide
              refine nb_Wg (q_tk_isLineWord_14 _ _ _ _) ?_
              simp only [E24]
              clear E24
              refine nb_Gs ?_
              exact nb_Hu H W23
            · have H := nb_Hw ((nb_Hu H).2 (by omega))
              have c26 : nb_lcmp l0 x21 ≠ 0 := by omega
              refine nb_Gr ?_
              refine nb_Wg (q_tk_isLineWord_13 _ _ _) ?_
              refine nb_Gr ?_
              have E25 : nb_i2z 0 = 0 := by decide
              refine nb_Wg (q_tk_isLineWord_14 _ _ _ _) ?_
              simp only [E25]
              clear E25
              refine nb_Gs ?_
              exact nb_Hu H W23

