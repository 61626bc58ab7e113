/-! rules, printed by wip/gen -/
theorem w_c_keep_0 {Ho : Int} {M : nb_M} {Q : List nb_V → nb_M → Prop} (W : nb_Lay M) (hHo : nb_hs Ho) (hx2 : M.1 2 2 = Ho) (H : (M.1 2 9 = 12 → -2147483648 ≤ M.1 2 8 + 1 ∧ M.1 2 8 + 1 ≤ 2147483647 ∧ -2147483648 ≤ nb_rem (M.1 2 8 + 1) 12 + (M.1 2 9 - 1) ∧ nb_rem (M.1 2 8 + 1) 12 + (M.1 2 9 - 1) ≤ 2147483647 ∧ 0 ≤ nb_rem (nb_rem (M.1 2 8 + 1) 12 + (M.1 2 9 - 1)) 12 ∧ nb_rem (nb_rem (M.1 2 8 + 1) 12 + (M.1 2 9 - 1)) 12 < 12 ∧ nb_W 255 0 [(15, 273 + 22 * (nb_rem (nb_rem (M.1 2 8 + 1) 12 + (M.1 2 9 - 1)) 12)), (15, 84), (98, 0)] [] (nb_wr (nb_wr M 2 8 (nb_rem (M.1 2 8 + 1) 12)) 2 9 (M.1 2 9 - 1)) (fun r M16 => r = [] ∧ nb_Lay M16 ∧ M16.1 2 2 = Ho ∧ -2147483648 ≤ M16.1 2 9 + 1 ∧ M16.1 2 9 + 1 ≤ 2147483647 ∧ (nb_Lay (nb_wr M16 2 9 (M16.1 2 9 + 1)) → Q [] (nb_wr M16 2 9 (M16.1 2 9 + 1))))) ∧ (M.1 2 9 ≠ 12 → -2147483648 ≤ M.1 2 8 + M.1 2 9 ∧ M.1 2 8 + M.1 2 9 ≤ 2147483647 ∧ 0 ≤ nb_rem (M.1 2 8 + M.1 2 9) 12 ∧ nb_rem (M.1 2 8 + M.1 2 9) 12 < 12 ∧ nb_W 255 0 [(15, 273 + 22 * (nb_rem (M.1 2 8 + M.1 2 9) 12)), (15, 84), (98, 0)] [] M (fun r M30 => r = [] ∧ nb_Lay M30 ∧ M30.1 2 2 = Ho ∧ -2147483648 ≤ M30.1 2 9 + 1 ∧ M30.1 2 9 + 1 ≤ 2147483647 ∧ (nb_Lay (nb_wr M30 2 9 (M30.1 2 9 + 1)) → Q [] (nb_wr M30 2 9 (M30.1 2 9 + 1)))))) :
    nb_W 63 0 [(19, 2)] [] M Q := by
  replace H := nb_Hw H
  have uhHo := hHo
  unfold nb_hs at uhHo
  have E1 : nb_rd M 2 9 = M.1 2 9 := nb_rd_1 _ _ _
  refine nb_Wg (q_c_keep_0 _ _ (by omega)) ?_
  simp only [E1]
  clear E1
  refine nb_Gi (fun c36 => ?_) (fun c36 => ?_)
  · have H := nb_Hw ((nb_Hu H).1 c36)
    refine nb_Gr ?_
    obtain ⟨p0_, p1_, H⟩ := H
    replace H := nb_Hw H
    have E2 : nb_rd M 2 8 = M.1 2 8 := nb_rd_1 _ _ _
    have E3 : nb_add (M.1 2 8) 1 = M.1 2 8 + 1 := nb_add_eq (by omega) (by omega)
    refine nb_Wg (q_c_keep_1 _ _ (by omega)) ?_
    simp only [E2, E3]
    clear E2 E3
    have W4 : nb_Lay (nb_wr M 2 8 (nb_rem (M.1 2 8 + 1) 12)) := W.wr (fun w => (nb_nlit (by decide) (by decide)))
    refine nb_Gr ?_
    have E5 : nb_rd (nb_wr M 2 8 (nb_rem (M.1 2 8 + 1) 12)) 2 9 = M.1 2 9 := nb_rdw (Or.inr (by decide)) (nb_rd_1 _ _ _)
    have E6 : nb_sub (M.1 2 9) 1 = M.1 2 9 - 1 := nb_sub_eq (by omega) (by omega)
    refine nb_Wg (q_c_keep_2 _ _ (by omega)) ?_
    simp only [E5, E6]
    clear E5 E6
    have W7 : nb_Lay (nb_wr (nb_wr M 2 8 (nb_rem (M.1 2 8 + 1) 12)) 2 9 (M.1 2 9 - 1)) := W4.wr (fun w => (nb_nlit (by decide) (by decide)))
    refine nb_Gr ?_
    obtain ⟨p0_, p1_, p2_, p3_, H⟩ := H
    replace H := nb_Hw H
    have E8 : nb_rd (nb_wr (nb_wr M 2 8 (nb_rem (M.1 2 8 + 1) 12)) 2 9 (M.1 2 9 - 1)) 2 7 = 128 := W7.c7
    have E9 : nb_rd (nb_wr (nb_wr M 2 8 (nb_rem (M.1 2 8 + 1) 12)) 2 9 (M.1 2 9 - 1)) 2 8 = nb_rem (M.1 2 8 + 1) 12 := nb_rdw (Or.inr (by decide)) (nb_rd_same _ _ _ _)
    have E10 : nb_rd (nb_wr (nb_wr M 2 8 (nb_rem (M.1 2 8 + 1) 12)) 2 9 (M.1 2 9 - 1)) 2 9 = M.1 2 9 - 1 := nb_rd_same _ _ _ _
    have E11 : nb_add (nb_rem (M.1 2 8 + 1) 12) (M.1 2 9 - 1) = nb_rem (M.1 2 8 + 1) 12 + (M.1 2 9 - 1) := nb_add_eq (by omega) (by omega)
    have N12 : nb_ln (nb_wr (nb_wr M 2 8 (nb_rem (M.1 2 8 + 1) 12)) 2 9 (M.1 2 9 - 1)) 128 = 12 := W7.lk (by decide) (by decide +kernel)
    have E13 : nb_rd (nb_wr (nb_wr M 2 8 (nb_rem (M.1 2 8 + 1) 12)) 2 9 (M.1 2 9 - 1)) 128 (nb_rem (nb_rem (M.1 2 8 + 1) 12 + (M.1 2 9 - 1)) 12) = 273 + 22 * (nb_rem (nb_rem (M.1 2 8 + 1) 12 + (M.1 2 9 - 1)) 12) := W7.sarr (i := nb_rem (nb_rem (M.1 2 8 + 1) 12 + (M.1 2 9 - 1)) 12) (by omega) (by omega)
    have E14 : nb_rd (nb_wr (nb_wr M 2 8 (nb_rem (M.1 2 8 + 1) 12)) 2 9 (M.1 2 9 - 1)) 2 5 = 84 := W7.c5
    refine nb_Wg (q_c_keep_3 _ _ (by omega) (by rw [E8]; first | done | omega) (by rw [E9, E10, E11]; first | done | omega) (by rw [E9, E10, E11, E8, N12]; first | done | omega) (by rw [E8, E9, E10, E11, E13]; first | done | omega)) ?_
    simp only [E8, E9, E10, E11, E13, E14]
    clear E8 E9 E10 E11 N12 E13 E14
    refine nb_Gb ?_
    refine nb_W.imp (nb_Hu H) (fun r M16 H => ?_)
    obtain ⟨rfl, W17, g18, H⟩ := H
    replace H := nb_Hw H
    show nb_W 63 4 [(19, 2)] [] M16 _
    obtain ⟨p0_, p1_, H⟩ := H
    replace H := nb_Hw H
    have E19 : nb_rd M16 2 9 = M16.1 2 9 := nb_rd_1 _ _ _
    have E20 : nb_add (M16.1 2 9) 1 = M16.1 2 9 + 1 := nb_add_eq (by omega) (by omega)
    refine nb_Wg (q_c_keep_4 _ _ (by omega)) ?_
    simp only [E19, E20]
    clear E19 E20
    have W21 : nb_Lay (nb_wr M16 2 9 (M16.1 2 9 + 1)) := W17.wr (fun w => (nb_nlit (by decide) (by decide)))
    refine nb_Gr ?_
    refine nb_Wg (q_c_keep_5 _ _) ?_
    refine nb_Gs ?_
    exact nb_Hu H W21
  · have H := nb_Hw ((nb_Hu H).2 (by omega))
    have c36 : M.1 2 9 ≠ 12 := by omega
    refine nb_Gr ?_
    obtain ⟨p0_, p1_, p2_, p3_, H⟩ := H
    replace H := nb_Hw H
    have E22 : nb_rd M 2 7 = 128 := W.c7
    have E23 : nb_rd M 2 8 = M.1 2 8 := nb_rd_1 _ _ _
    have E24 : nb_rd M 2 9 = M.1 2 9 := nb_rd_1 _ _ _
    have E25 : nb_add (M.1 2 8) (M.1 2 9) = M.1 2 8 + M.1 2 9 := (nb_add_eq (x := M.1 2 8) (y := M.1 2 9) (by omega) (by omega)).trans (by omega)
    have N26 : nb_ln M 128 = 12 := W.lk (by decide) (by decide +kernel)
    have E27 : nb_rd M 128 (nb_rem (M.1 2 8 + M.1 2 9) 12) = 273 + 22 * (nb_rem (M.1 2 8 + M.1 2 9) 12) := W.sarr (i := nb_rem (M.1 2 8 + M.1 2 9) 12) (by omega) (by omega)
    have E28 : nb_rd M 2 5 = 84 := W.c5
    refine nb_Wg (q_c_keep_3 _ _ (by omega) (by rw [E22]; first | done | omega) (by rw [E23, E24, E25]; first | done | omega) (by rw [E23, E24, E25, E22, N26]; first | done | omega) (by rw [E22, E23, E24, E25, E27]; first | done | omega)) ?_
    simp only [E22, E23, E24, E25, E27, E28]
    clear E22 E23 E24 E25 N26 E27 E28
    refine nb_Gb ?_
    refine nb_W.imp (nb_Hu H) (fun r M30 H => ?_)
    obtain ⟨rfl, W31, g32, H⟩ := H
    replace H := nb_Hw H
    show nb_W 63 4 [(19, 2)] [] M30 _
    obtain ⟨p0_, p1_, H⟩ := H
    replace H := nb_Hw H
    have E33 : nb_rd M30 2 9 = M30.1 2 9 := nb_rd_1 _ _ _
    have E34 : nb_add (M30.1 2 9) 1 = M30.1 2 9 + 1 := nb_add_eq (by omega) (by omega)
    refine nb_Wg (q_c_keep_4 _ _ (by omega)) ?_
    simp only [E33, E34]
    clear E33 E34
    have W35 : nb_Lay (nb_wr M30 2 9 (M30.1 2 9 + 1)) := W31.wr (fun w => (nb_nlit (by decide) (by decide)))
    refine nb_Gr ?_
    refine nb_Wg (q_c_keep_5 _ _) ?_
    refine nb_Gs ?_
    exact nb_Hu H W35

theorem w_c_pass_0 {l1 Ho : Int} {M : nb_M} {Q : List nb_V → nb_M → Prop} (W : nb_Lay M) (hHo : nb_hs Ho) (hx2 : M.1 2 2 = Ho) (H : 0 ≤ M.1 Ho 13 ∧ M.1 Ho 13 ≤ 10 ∧ (0 < M.1 Ho 13 → (l1 < 1 → (nb_Lay (nb_wr (nb_wr M 2 15 0) 2 15 2) → Q [(0, (-1))] (nb_wr (nb_wr M 2 15 0) 2 15 2))) ∧ (1 ≤ l1 → (200 < l1 → (nb_Lay (nb_wr (nb_wr M 2 15 0) 2 15 2) → Q [(0, (-1))] (nb_wr (nb_wr M 2 15 0) 2 15 2))) ∧ (l1 ≤ 200 → -2147483648 ≤ M.1 84 7 + l1 ∧ M.1 84 7 + l1 ≤ 2147483647 ∧ -2147483648 ≤ M.1 84 7 + l1 - 1 ∧ M.1 84 7 + l1 - 1 ≤ 2147483647 ∧ 0 ≤ M.1 Ho 10 ∧ M.1 Ho 10 ≤ 600 ∧ (M.1 Ho 10 < M.1 84 7 + l1 - 1 → (nb_Lay (nb_wr (nb_wr (nb_wr M 2 15 0) 2 15 0) 2 15 3) → Q [(0, (-1))] (nb_wr (nb_wr (nb_wr M 2 15 0) 2 15 0) 2 15 3))) ∧ (M.1 84 7 + l1 - 1 ≤ M.1 Ho 10 → nb_W 63 0 [(19, 2)] [] (nb_wr (nb_wr (nb_wr M 2 15 0) 2 15 0) 2 15 0) (fun r M23 => r = [] ∧ nb_Lay M23 ∧ M23.1 2 2 = Ho ∧ -2147483648 ≤ M23.1 84 7 + l1 ∧ M23.1 84 7 + l1 ≤ 2147483647 ∧ -2147483648 ≤ M23.1 84 7 + l1 - 1 ∧ M23.1 84 7 + l1 - 1 ≤ 2147483647 ∧ nb_W 257 0 [(15, 84), (0, M23.1 84 7 + l1 - 1), (98, 0), (98, 0)] [] M23 (fun r M32 => r = [] ∧ nb_Lay M32 ∧ M32.1 2 2 = Ho ∧ (nb_Lay M32 → Q [(0, M32.1 84 7)] M32))))))) ∧ (M.1 Ho 13 ≤ 0 → (nb_Lay (nb_wr M 2 15 1) → Q [(0, (-1))] (nb_wr M 2 15 1)))) :
    nb_W 64 0 [(19, 2), (0, l1)] [] M Q := by
  replace H := nb_Hw H
  have uhHo := hHo
  unfold nb_hs at uhHo
  refine nb_Wg (q_c_pass_0 _ _ _ (by omega)) ?_
  refine nb_Gb ?_
  obtain ⟨p0_, p1_, H⟩ := H
  replace H := nb_Hw H
  have E1 : nb_rd M 2 2 = Ho := hx2
  have E2 : nb_rd M Ho 13 = M.1 Ho 13 := nb_rd_1 _ _ _
  refine nb_Wg (q_c_isOpen_0 _ _ (by omega) (by rw [E1]; first | done | omega)) ?_
  simp only [E1, E2]
  clear E1 E2
  refine nb_Gi (fun c43 => ?_) (fun c43 => ?_)
  · have H := nb_Hw ((nb_Hu H).1 c43)
    refine nb_Gr ?_
    refine nb_Wg (q_c_isOpen_1 _ _) ?_
    refine nb_Gr ?_
    have E3 : nb_i2z 1 = 1 := by decide
    refine nb_Wg (q_c_isOpen_3 _ _ _) ?_
    simp only [E3]
    clear E3
    refine nb_Gs ?_
    show nb_W 64 1 [(19, 2), (0, l1)] [(0, 1), (19, 2)] M _
    refine nb_Wg (q_c_pass_1 _ _ _ _ _ (by omega)) ?_
    refine nb_Gb ?_
    refine nb_Wg (q_c_granted_0 _ _ _ _) ?_
    refine nb_Gf (by decide) ?_
    refine nb_Gr ?_
    refine nb_Wg (q_c_granted_1 _ _ _ _ _) ?_
    refine nb_Gr ?_
    refine nb_Wg (q_c_granted_3 _ _ _ _ _ _ (by omega)) ?_
    have W4 : nb_Lay (nb_wr M 2 15 0) := W.wr (fun w => (nb_nlit (by decide) (by decide)))
    refine nb_Gr ?_
    have E5 : nb_i2z 1 = 1 := by decide
    refine nb_Wg (q_c_granted_4 _ _ _ _) ?_
    simp only [E5]
    clear E5
    refine nb_Gs ?_
    show nb_W 64 2 [(19, 2), (0, l1)] [(0, 1)] (nb_wr M 2 15 0) _
    refine nb_Wg (q_c_pass_2 _ _ _ _) ?_
    refine nb_Gf (by decide) ?_
    refine nb_Gr ?_
    refine nb_Wg (q_c_pass_3 _ _ _) ?_
    refine nb_Gi (fun c39 => ?_) (fun c39 => ?_)
    · have H := nb_Hw ((nb_Hu H).1 c39)
      refine nb_Gr ?_
      refine nb_Wg (q_c_pass_6 _ _ _ _) ?_
      refine nb_Gr ?_
      refine nb_Wg (q_c_pass_7 _ _ _ _ _ (by omega)) ?_
      refine nb_Gb ?_
      refine nb_Wg (q_c_granted_0 _ _ _ _) ?_
      refine nb_Gt (by decide) ?_
      refine nb_Gr ?_
      refine nb_Wg (q_c_granted_2 _ _ _ _ _) ?_
      refine nb_Gr ?_
      refine nb_Wg (q_c_granted_3 _ _ _ _ _ _ (by omega)) ?_
      have W6 : nb_Lay (nb_wr (nb_wr M 2 15 0) 2 15 2) := W4.wr (fun w => (nb_nlit (by decide) (by decide)))
      refine nb_Gr ?_
      have E7 : nb_i2z 0 = 0 := by decide
      refine nb_Wg (q_c_granted_4 _ _ _ _) ?_
      simp only [E7]
      clear E7
      refine nb_Gs ?_
      show nb_W 64 8 [(19, 2), (0, l1)] [(0, 0)] (nb_wr (nb_wr M 2 15 0) 2 15 2) _
      refine nb_Wg (q_c_pass_8 _ _ _ _) ?_
      refine nb_Gt (by decide) ?_
      refine nb_Gr ?_
      refine nb_Wg (q_c_pass_14 _ _ _) ?_
      refine nb_Gs ?_
      exact nb_Hu H W6
    · have H := nb_Hw ((nb_Hu H).2 (by omega))
      have c39 : 1 ≤ l1 := by omega
      refine nb_Gr ?_
      refine nb_Wg (q_c_pass_4 _ _ _ _) ?_
      refine nb_Gi (fun c38 => ?_) (fun c38 => ?_)
      · have H := nb_Hw ((nb_Hu H).1 c38)
        refine nb_Gr ?_
        refine nb_Wg (q_c_pass_6 _ _ _ _) ?_
        refine nb_Gr ?_
        refine nb_Wg (q_c_pass_7 _ _ _ _ _ (by omega)) ?_
        refine nb_Gb ?_
        refine nb_Wg (q_c_granted_0 _ _ _ _) ?_
        refine nb_Gt (by decide) ?_
        refine nb_Gr ?_
        refine nb_Wg (q_c_granted_2 _ _ _ _ _) ?_
        refine nb_Gr ?_
        refine nb_Wg (q_c_granted_3 _ _ _ _ _ _ (by omega)) ?_
        have W8 : nb_Lay (nb_wr (nb_wr M 2 15 0) 2 15 2) := W4.wr (fun w => (nb_nlit (by decide) (by decide)))
        refine nb_Gr ?_
        have E9 : nb_i2z 0 = 0 := by decide
        refine nb_Wg (q_c_granted_4 _ _ _ _) ?_
        simp only [E9]
        clear E9
        refine nb_Gs ?_
        show nb_W 64 8 [(19, 2), (0, l1)] [(0, 0)] (nb_wr (nb_wr M 2 15 0) 2 15 2) _
        refine nb_Wg (q_c_pass_8 _ _ _ _) ?_
        refine nb_Gt (by decide) ?_
        refine nb_Gr ?_
        refine nb_Wg (q_c_pass_14 _ _ _) ?_
        refine nb_Gs ?_
        exact nb_Hu H W8
      · have H := nb_Hw ((nb_Hu H).2 (by omega))
        have c38 : l1 ≤ 200 := by omega
        refine nb_Gr ?_
        refine nb_Wg (q_c_pass_5 _ _ _ _) ?_
        refine nb_Gr ?_
        refine nb_Wg (q_c_pass_7 _ _ _ _ _ (by omega)) ?_
        refine nb_Gb ?_
        refine nb_Wg (q_c_granted_0 _ _ _ _) ?_
        refine nb_Gf (by decide) ?_
        refine nb_Gr ?_
        refine nb_Wg (q_c_granted_1 _ _ _ _ _) ?_
        refine nb_Gr ?_
        refine nb_Wg (q_c_granted_3 _ _ _ _ _ _ (by omega)) ?_
        have W10 : nb_Lay (nb_wr (nb_wr M 2 15 0) 2 15 0) := W4.wr (fun w => (nb_nlit (by decide) (by decide)))
        refine nb_Gr ?_
        have E11 : nb_i2z 1 = 1 := by decide
        refine nb_Wg (q_c_granted_4 _ _ _ _) ?_
        simp only [E11]
        clear E11
        refine nb_Gs ?_
        show nb_W 64 8 [(19, 2), (0, l1)] [(0, 1)] (nb_wr (nb_wr M 2 15 0) 2 15 0) _
        refine nb_Wg (q_c_pass_8 _ _ _ _) ?_
        refine nb_Gf (by decide) ?_
        refine nb_Gr ?_
        obtain ⟨p0_, p1_, p2_, p3_, p4_, p5_, H⟩ := H
        replace H := nb_Hw H
        have E12 : nb_rd (nb_wr (nb_wr M 2 15 0) 2 15 0) 2 5 = 84 := W10.c5
        have E13 : nb_rd (nb_wr (nb_wr M 2 15 0) 2 15 0) 84 7 = M.1 84 7 := nb_rdw (Or.inl (by decide)) (nb_rdw (Or.inl (by decide)) (nb_rd_1 _ _ _))
        have E14 : nb_add (M.1 84 7) l1 = M.1 84 7 + l1 := nb_add_eq (by omega) (by omega)
        have E15 : nb_sub (M.1 84 7 + l1) 1 = M.1 84 7 + l1 - 1 := nb_sub_eq (by omega) (by omega)
        have E16 : nb_rd (nb_wr (nb_wr M 2 15 0) 2 15 0) 2 2 = Ho := nb_rdw (Or.inr (by decide)) (nb_rdw (Or.inr (by decide)) (hx2))
        have E17 : nb_rd (nb_wr (nb_wr M 2 15 0) 2 15 0) Ho 10 = M.1 Ho 10 := nb_rdw (Or.inr (by decide)) (nb_rdw (Or.inr (by decide)) (nb_rd_1 _ _ _))
        refine nb_Wg (q_c_pass_9 _ _ _ (by omega) (by rw [E12]; first | done | omega) (by rw [E16]; first | done | omega)) ?_
        simp only [E12, E13, E14, E15, E16, E17]
        clear E12 E13 E14 E15 E16 E17
        refine nb_Gi (fun c37 => ?_) (fun c37 => ?_)
        · have H := nb_Hw ((nb_Hu H).1 c37)
          refine nb_Gr ?_
          refine nb_Wg (q_c_pass_11 _ _ _ _) ?_
          refine nb_Gr ?_
          refine nb_Wg (q_c_pass_12 _ _ _ _ _ (by omega)) ?_
          refine nb_Gb ?_
          refine nb_Wg (q_c_granted_0 _ _ _ _) ?_
          refine nb_Gt (by decide) ?_
          refine nb_Gr ?_
          refine nb_Wg (q_c_granted_2 _ _ _ _ _) ?_
          refine nb_Gr ?_
          refine nb_Wg (q_c_granted_3 _ _ _ _ _ _ (by omega)) ?_
          have W18 : nb_Lay (nb_wr (nb_wr (nb_wr M 2 15 0) 2 15 0) 2 15 3) := W10.wr (fun w => (nb_nlit (by decide) (by decide)))
          refine nb_Gr ?_
          have E19 : nb_i2z 0 = 0 := by decide
          refine nb_Wg (q_c_granted_4 _ _ _ _) ?_
          simp only [E19]
          clear E19
          refine nb_Gs ?_
          show nb_W 64 13 [(19, 2), (0, l1)] [(0, 0)] (nb_wr (nb_wr (nb_wr M 2 15 0) 2 15 0) 2 15 3) _
          refine nb_Wg (q_c_pass_13 _ _ _ _) ?_
          refine nb_Gt (by decide) ?_
          refine nb_Gr ?_
          refine nb_Wg (q_c_pass_14 _ _ _) ?_
          refine nb_Gs ?_
          exact nb_Hu H W18
        · have H := nb_Hw ((nb_Hu H).2 (by omega))
          have c37 : M.1 84 7 + l1 - 1 ≤ M.1 Ho 10 := by omega
          refine nb_Gr ?_
          refine nb_Wg (q_c_pass_10 _ _ _ _) ?_
          refine nb_Gr ?_
          refine nb_Wg (q_c_pass_12 _ _ _ _ _ (by omega)) ?_
          refine nb_Gb ?_
          refine nb_Wg (q_c_granted_0 _ _ _ _) ?_
          refine nb_Gf (by decide) ?_
          refine nb_Gr ?_
          refine nb_Wg (q_c_granted_1 _ _ _ _ _) ?_
          refine nb_Gr ?_
          refine nb_Wg (q_c_granted_3 _ _ _ _ _ _ (by omega)) ?_
          have W20 : nb_Lay (nb_wr (nb_wr (nb_wr M 2 15 0) 2 15 0) 2 15 0) := W10.wr (fun w => (nb_nlit (by decide) (by decide)))
          refine nb_Gr ?_
          have E21 : nb_i2z 1 = 1 := by decide
          refine nb_Wg (q_c_granted_4 _ _ _ _) ?_
          simp only [E21]
          clear E21
          refine nb_Gs ?_
          show nb_W 64 13 [(19, 2), (0, l1)] [(0, 1)] (nb_wr (nb_wr (nb_wr M 2 15 0) 2 15 0) 2 15 0) _
          refine nb_Wg (q_c_pass_13 _ _ _ _) ?_
          refine nb_Gf (by decide) ?_
          refine nb_Gr ?_
          refine nb_Wg (q_c_pass_15 _ _ _ (by omega)) ?_
          refine nb_Gb ?_
          refine nb_W.imp (nb_Hu H) (fun r M23 H => ?_)
          obtain ⟨rfl, W24, g25, H⟩ := H
          replace H := nb_Hw H
          show nb_W 64 16 [(19, 2), (0, l1)] [] M23 _
          obtain ⟨p0_, p1_, p2_, p3_, H⟩ := H
          replace H := nb_Hw H
          have E26 : nb_rd M23 2 5 = 84 := W24.c5
          have E27 : nb_rd M23 2 5 = 84 := W24.c5
          have E28 : nb_rd M23 84 7 = M23.1 84 7 := nb_rd_1 _ _ _
          have E29 : nb_add (M23.1 84 7) l1 = M23.1 84 7 + l1 := nb_add_eq (by omega) (by omega)
          have E30 : nb_sub (M23.1 84 7 + l1) 1 = M23.1 84 7 + l1 - 1 := nb_sub_eq (by omega) (by omega)
          refine nb_Wg (q_c_pass_16 _ _ _ (by omega) (by rw [E27]; first | done | omega)) ?_
          simp only [E26, E27, E28, E29, E30]
          clear E26 E27 E28 E29 E30
          refine nb_Gb ?_
          refine nb_W.imp (nb_Hu H) (fun r M32 H => ?_)
          obtain ⟨rfl, W33, g34, H⟩ := H
          replace H := nb_Hw H
          show nb_W 64 17 [(19, 2), (0, l1)] [] M32 _
          have E35 : nb_rd M32 2 5 = 84 := W33.c5
          have E36 : nb_rd M32 84 7 = M32.1 84 7 := nb_rd_1 _ _ _
          refine nb_Wg (q_c_pass_17 _ _ _ (by omega) (by rw [E35]; first | done | omega)) ?_
          simp only [E35, E36]
          clear E35 E36
          refine nb_Gs ?_
          exact nb_Hu H W33
  · have H := nb_Hw ((nb_Hu H).2 (by omega))
    have c43 : M.1 Ho 13 ≤ 0 := by omega
    refine nb_Gr ?_
    refine nb_Wg (q_c_isOpen_2 _ _) ?_
    refine nb_Gr ?_
    have E40 : nb_i2z 0 = 0 := by decide
    refine nb_Wg (q_c_isOpen_3 _ _ _) ?_
    simp only [E40]
    clear E40
    refine nb_Gs ?_
    show nb_W 64 1 [(19, 2), (0, l1)] [(0, 0), (19, 2)] M _
    refine nb_Wg (q_c_pass_1 _ _ _ _ _ (by omega)) ?_
    refine nb_Gb ?_
    refine nb_Wg (q_c_granted_0 _ _ _ _) ?_
    refine nb_Gt (by decide) ?_
    refine nb_Gr ?_
    refine nb_Wg (q_c_granted_2 _ _ _ _ _) ?_
    refine nb_Gr ?_
    refine nb_Wg (q_c_granted_3 _ _ _ _ _ _ (by omega)) ?_
    have W41 : nb_Lay (nb_wr M 2 15 1) := W.wr (fun w => (nb_nlit (by decide) (by decide)))
    refine nb_Gr ?_
    have E42 : nb_i2z 0 = 0 := by decide
    refine nb_Wg (q_c_granted_4 _ _ _ _) ?_
    simp only [E42]
    clear E42
    refine nb_Gs ?_
    show nb_W 64 2 [(19, 2), (0, l1)] [(0, 0)] (nb_wr M 2 15 1) _
    refine nb_Wg (q_c_pass_2 _ _ _ _) ?_
    refine nb_Gt (by decide) ?_
    refine nb_Gr ?_
    refine nb_Wg (q_c_pass_14 _ _ _) ?_
    refine nb_Gs ?_
    exact nb_Hu H W41

theorem w_c_moves_0 {l1 l2 Ho : Int} {M : nb_M} {Q : List nb_V → nb_M → Prop} (W : nb_Lay M) (hHo : nb_hs Ho) (hx2 : M.1 2 2 = Ho) (H : (l1 < 0 → (nb_Lay (nb_wr M 2 15 1) → Q [(0, 0)] (nb_wr M 2 15 1))) ∧ (0 ≤ l1 → 0 ≤ M.1 Ho 13 ∧ M.1 Ho 13 ≤ 10 ∧ (l1 < M.1 Ho 13 → (l2 < 0 → (nb_Lay (nb_wr M 2 15 1) → Q [(0, 0)] (nb_wr M 2 15 1))) ∧ (0 ≤ l2 → 0 ≤ M.1 Ho 9 ∧ M.1 Ho 9 ≤ 20 ∧ (l2 < M.1 Ho 9 → (M.1 (88 + l1) 8 = 1 → (M.1 (88 + l1) 3 = l2 → (nb_Lay (nb_wr (nb_wr M 2 15 0) 2 15 5) → Q [(0, 0)] (nb_wr (nb_wr M 2 15 0) 2 15 5))) ∧ (M.1 (88 + l1) 3 ≠ l2 → nb_W 63 0 [(19, 2)] [] (nb_wr (nb_wr M 2 15 0) 2 15 0) (fun r M31 => r = [] ∧ nb_Lay M31 ∧ M31.1 2 2 = Ho ∧ l1 < 10 ∧ (nb_Lay (nb_wr M31 (88 + l1) 3 l2) → Q [(0, 1)] (nb_wr M31 (88 + l1) 3 l2))))) ∧ (M.1 (88 + l1) 8 ≠ 1 → (nb_Lay (nb_wr (nb_wr M 2 15 0) 2 15 5) → Q [(0, 0)] (nb_wr (nb_wr M 2 15 0) 2 15 5)))) ∧ (M.1 Ho 9 ≤ l2 → (nb_Lay (nb_wr M 2 15 1) → Q [(0, 0)] (nb_wr M 2 15 1))))) ∧ (M.1 Ho 13 ≤ l1 → (nb_Lay (nb_wr M 2 15 1) → Q [(0, 0)] (nb_wr M 2 15 1))))) :
    nb_W 65 0 [(19, 2), (0, l1), (0, l2)] [] M Q := by
  replace H := nb_Hw H
  have uhHo := hHo
  unfold nb_hs at uhHo
  refine nb_Wg (q_c_moves_0 _ _ _ _ (by omega)) ?_
  refine nb_Gb ?_
  refine nb_Wg (q_c_isPerson_0 _ _ _) ?_
  refine nb_Gi (fun c53 => ?_) (fun c53 => ?_)
  · have H := nb_Hw ((nb_Hu H).1 c53)
    refine nb_Gr ?_
    refine nb_Wg (q_c_isPerson_3 _ _ _) ?_
    refine nb_Gr ?_
    have E1 : nb_i2z 0 = 0 := by decide
    refine nb_Wg (q_c_isPerson_4 _ _ _ _) ?_
    simp only [E1]
    clear E1
    refine nb_Gs ?_
    show nb_W 65 1 [(19, 2), (0, l1), (0, l2)] [(0, 0), (19, 2)] M _
    refine nb_Wg (q_c_moves_1 _ _ _ _ _ _) ?_
    refine nb_Gt (by decide) ?_
    refine nb_Gr ?_
    refine nb_Wg (q_c_moves_5 _ _ _ _ _) ?_
    refine nb_Gr ?_
    refine nb_Wg (q_c_moves_6 _ _ _ _ _ _ (by omega)) ?_
    refine nb_Gb ?_
    refine nb_Wg (q_c_granted_0 _ _ _ _) ?_
    refine nb_Gt (by decide) ?_
    refine nb_Gr ?_
    refine nb_Wg (q_c_granted_2 _ _ _ _ _) ?_
    refine nb_Gr ?_
    refine nb_Wg (q_c_granted_3 _ _ _ _ _ _ (by omega)) ?_
    have W2 : nb_Lay (nb_wr M 2 15 1) := W.wr (fun w => (nb_nlit (by decide) (by decide)))
    refine nb_Gr ?_
    have E3 : nb_i2z 0 = 0 := by decide
    refine nb_Wg (q_c_granted_4 _ _ _ _) ?_
    simp only [E3]
    clear E3
    refine nb_Gs ?_
    show nb_W 65 7 [(19, 2), (0, l1), (0, l2)] [(0, 0)] (nb_wr M 2 15 1) _
    refine nb_Wg (q_c_moves_7 _ _ _ _ _) ?_
    refine nb_Gt (by decide) ?_
    refine nb_Gr ?_
    refine nb_Wg (q_c_moves_15 _ _ _ _) ?_
    refine nb_Gs ?_
    exact nb_Hu H W2
  · have H := nb_Hw ((nb_Hu H).2 (by omega))
    have c53 : 0 ≤ l1 := by omega
    refine nb_Gr ?_
    obtain ⟨p0_, p1_, H⟩ := H
    replace H := nb_Hw H
    have E4 : nb_rd M 2 2 = Ho := hx2
    have E5 : nb_rd M Ho 13 = M.1 Ho 13 := nb_rd_1 _ _ _
    refine nb_Wg (q_c_isPerson_1 _ _ _ (by omega) (by rw [E4]; first | done | omega)) ?_
    simp only [E4, E5]
    clear E4 E5
    refine nb_Gi (fun c52 => ?_) (fun c52 => ?_)
    · have H := nb_Hw ((nb_Hu H).1 c52)
      refine nb_Gr ?_
      refine nb_Wg (q_c_isPerson_2 _ _ _) ?_
      refine nb_Gr ?_
      have E6 : nb_i2z 1 = 1 := by decide
      refine nb_Wg (q_c_isPerson_4 _ _ _ _) ?_
      simp only [E6]
      clear E6
      refine nb_Gs ?_
      show nb_W 65 1 [(19, 2), (0, l1), (0, l2)] [(0, 1), (19, 2)] M _
      refine nb_Wg (q_c_moves_1 _ _ _ _ _ _) ?_
      refine nb_Gf (by decide) ?_
      refine nb_Gr ?_
      refine nb_Wg (q_c_moves_2 _ _ _ _ _ (by omega)) ?_
      refine nb_Gb ?_
      refine nb_Wg (q_c_isPlace_0 _ _ _) ?_
      refine nb_Gi (fun c48 => ?_) (fun c48 => ?_)
      · have H := nb_Hw ((nb_Hu H).1 c48)
        refine nb_Gr ?_
        refine nb_Wg (q_c_isPlace_3 _ _ _) ?_
        refine nb_Gr ?_
        have E7 : nb_i2z 0 = 0 := by decide
        refine nb_Wg (q_c_isPlace_4 _ _ _ _) ?_
        simp only [E7]
        clear E7
        refine nb_Gs ?_
        show nb_W 65 3 [(19, 2), (0, l1), (0, l2)] [(0, 0), (19, 2)] M _
        refine nb_Wg (q_c_moves_3 _ _ _ _ _ _) ?_
        refine nb_Gt (by decide) ?_
        refine nb_Gr ?_
        refine nb_Wg (q_c_moves_5 _ _ _ _ _) ?_
        refine nb_Gr ?_
        refine nb_Wg (q_c_moves_6 _ _ _ _ _ _ (by omega)) ?_
        refine nb_Gb ?_
        refine nb_Wg (q_c_granted_0 _ _ _ _) ?_
        refine nb_Gt (by decide) ?_
        refine nb_Gr ?_
        refine nb_Wg (q_c_granted_2 _ _ _ _ _) ?_
        refine nb_Gr ?_
        refine nb_Wg (q_c_granted_3 _ _ _ _ _ _ (by omega)) ?_
        have W8 : nb_Lay (nb_wr M 2 15 1) := W.wr (fun w => (nb_nlit (by decide) (by decide)))
        refine nb_Gr ?_
        have E9 : nb_i2z 0 = 0 := by decide
        refine nb_Wg (q_c_granted_4 _ _ _ _) ?_
        simp only [E9]
        clear E9
        refine nb_Gs ?_
        show nb_W 65 7 [(19, 2), (0, l1), (0, l2)] [(0, 0)] (nb_wr M 2 15 1) _
        refine nb_Wg (q_c_moves_7 _ _ _ _ _) ?_
        refine nb_Gt (by decide) ?_
        refine nb_Gr ?_
        refine nb_Wg (q_c_moves_15 _ _ _ _) ?_
        refine nb_Gs ?_
        exact nb_Hu H W8
      · have H := nb_Hw ((nb_Hu H).2 (by omega))
        have c48 : 0 ≤ l2 := by omega
        refine nb_Gr ?_
        obtain ⟨p0_, p1_, H⟩ := H
        replace H := nb_Hw H
        have E10 : nb_rd M 2 2 = Ho := hx2
        have E11 : nb_rd M Ho 9 = M.1 Ho 9 := nb_rd_1 _ _ _
        refine nb_Wg (q_c_isPlace_1 _ _ _ (by omega) (by rw [E10]; first | done | omega)) ?_
        simp only [E10, E11]
        clear E10 E11
        refine nb_Gi (fun c47 => ?_) (fun c47 => ?_)
        · have H := nb_Hw ((nb_Hu H).1 c47)
          refine nb_Gr ?_
          refine nb_Wg (q_c_isPlace_2 _ _ _) ?_
          refine nb_Gr ?_
          have E12 : nb_i2z 1 = 1 := by decide
          refine nb_Wg (q_c_isPlace_4 _ _ _ _) ?_
          simp only [E12]
          clear E12
          refine nb_Gs ?_
          show nb_W 65 3 [(19, 2), (0, l1), (0, l2)] [(0, 1), (19, 2)] M _
          refine nb_Wg (q_c_moves_3 _ _ _ _ _ _) ?_
          refine nb_Gf (by decide) ?_
          refine nb_Gr ?_
          refine nb_Wg (q_c_moves_4 _ _ _ _ _) ?_
          refine nb_Gr ?_
          refine nb_Wg (q_c_moves_6 _ _ _ _ _ _ (by omega)) ?_
          refine nb_Gb ?_
          refine nb_Wg (q_c_granted_0 _ _ _ _) ?_
          refine nb_Gf (by decide) ?_
          refine nb_Gr ?_
          refine nb_Wg (q_c_granted_1 _ _ _ _ _) ?_
          refine nb_Gr ?_
          refine nb_Wg (q_c_granted_3 _ _ _ _ _ _ (by omega)) ?_
          have W13 : nb_Lay (nb_wr M 2 15 0) := W.wr (fun w => (nb_nlit (by decide) (by decide)))
          refine nb_Gr ?_
          have E14 : nb_i2z 1 = 1 := by decide
          refine nb_Wg (q_c_granted_4 _ _ _ _) ?_
          simp only [E14]
          clear E14
          refine nb_Gs ?_
          show nb_W 65 7 [(19, 2), (0, l1), (0, l2)] [(0, 1)] (nb_wr M 2 15 0) _
          refine nb_Wg (q_c_moves_7 _ _ _ _ _) ?_
          refine nb_Gf (by decide) ?_
          refine nb_Gr ?_
          refine nb_Wg (q_c_moves_8 _ _ _ _ (by omega)) ?_
          refine nb_Gb ?_
          have E15 : nb_rd (nb_wr M 2 15 0) 2 5 = 84 := W13.c5
          have E16 : nb_rd (nb_wr M 2 15 0) 84 0 = 85 := W13.s0 (A := 84) nb_sc84
          have N17 : nb_ln (nb_wr M 2 15 0) 85 = 10 := W13.sn1 (A := 84) nb_sc84
          have E18 : nb_rd (nb_wr M 2 15 0) 85 l1 = 88 + l1 := W13.sg (A := 84) (i := l1) nb_sc84 (by omega) (by omega)
          have E19 : nb_rd (nb_wr M 2 15 0) (88 + l1) 8 = M.1 (88 + l1) 8 := nb_rdw (Or.inr (by decide)) (nb_rd_1 _ _ _)
          refine nb_Wg (q_c_isWaiting_0 _ _ _ (by omega) (by rw [E15]; first | done | omega) (by rw [E15, E16]; first | done | omega) (by omega) (by rw [E15, E16, N17]; first | done | omega) (by rw [E15, E16, E18]; first | done | omega)) ?_
          simp only [E15, E16, E18, E19]
          clear E15 E16 N17 E18 E19
          refine nb_Gi (fun c43 => ?_) (fun c43 => ?_)
          · have H := nb_Hw ((nb_Hu H).1 c43)
            refine nb_Gr ?_
            refine nb_Wg (q_c_isWaiting_1 _ _ _) ?_
            refine nb_Gr ?_
            have E20 : nb_i2z 1 = 1 := by decide
            refine nb_Wg (q_c_isWaiting_3 _ _ _ _) ?_
            simp only [E20]
            clear E20
            refine nb_Gs ?_
            show nb_W 65 9 [(19, 2), (0, l1), (0, l2)] [(0, 1), (19, 2)] (nb_wr M 2 15 0) _
            refine nb_Wg (q_c_moves_9 _ _ _ _ _ _) ?_
            refine nb_Gf (by decide) ?_
            refine nb_Gr ?_
            have E21 : nb_rd (nb_wr M 2 15 0) 2 5 = 84 := W13.c5
            have E22 : nb_rd (nb_wr M 2 15 0) 84 0 = 85 := W13.s0 (A := 84) nb_sc84
            have N23 : nb_ln (nb_wr M 2 15 0) 85 = 10 := W13.sn1 (A := 84) nb_sc84
            have E24 : nb_rd (nb_wr M 2 15 0) 85 l1 = 88 + l1 := W13.sg (A := 84) (i := l1) nb_sc84 (by omega) (by omega)
            have E25 : nb_rd (nb_wr M 2 15 0) (88 + l1) 3 = M.1 (88 + l1) 3 := nb_rdw (Or.inr (by decide)) (nb_rd_1 _ _ _)
            refine nb_Wg (q_c_moves_10 _ _ _ _ _ (by omega) (by rw [E21]; first | done | omega) (by rw [E21, E22]; first | done | omega) (by omega) (by rw [E21, E22, N23]; first | done | omega) (by rw [E21, E22, E24]; first | done | omega)) ?_
            simp only [E21, E22, E24, E25]
            clear E21 E22 N23 E24 E25
            refine nb_Gi (fun c39 => ?_) (fun c39 => ?_)
            · have H := nb_Hw ((nb_Hu H).1 c39)
              refine nb_Gr ?_
              refine nb_Wg (q_c_moves_12 _ _ _ _ _) ?_
              refine nb_Gr ?_
              refine nb_Wg (q_c_moves_13 _ _ _ _ _ _ (by omega)) ?_
              refine nb_Gb ?_
              refine nb_Wg (q_c_granted_0 _ _ _ _) ?_
              refine nb_Gt (by decide) ?_
              refine nb_Gr ?_
              refine nb_Wg (q_c_granted_2 _ _ _ _ _) ?_
              refine nb_Gr ?_
              refine nb_Wg (q_c_granted_3 _ _ _ _ _ _ (by omega)) ?_
              have W26 : nb_Lay (nb_wr (nb_wr M 2 15 0) 2 15 5) := W13.wr (fun w => (nb_nlit (by decide) (by decide)))
              refine nb_Gr ?_
              have E27 : nb_i2z 0 = 0 := by decide
              refine nb_Wg (q_c_granted_4 _ _ _ _) ?_
              simp only [E27]
              clear E27
              refine nb_Gs ?_
              show nb_W 65 14 [(19, 2), (0, l1), (0, l2)] [(0, 0)] (nb_wr (nb_wr M 2 15 0) 2 15 5) _
              refine nb_Wg (q_c_moves_14 _ _ _ _ _) ?_
              refine nb_Gt (by decide) ?_
              refine nb_Gr ?_
              refine nb_Wg (q_c_moves_15 _ _ _ _) ?_
              refine nb_Gs ?_
              exact nb_Hu H W26
            · have H := nb_Hw ((nb_Hu H).2 (by omega))
              have c39 : M.1 (88 + l1) 3 ≠ l2 := by omega
              refine nb_Gr ?_
              refine nb_Wg (q_c_moves_11 _ _ _ _ _) ?_
              refine nb_Gr ?_
              refine nb_Wg (q_c_moves_13 _ _ _ _ _ _ (by omega)) ?_
              refine nb_Gb ?_
              refine nb_Wg (q_c_granted_0 _ _ _ _) ?_
              refine nb_Gf (by decide) ?_
              refine nb_Gr ?_
              refine nb_Wg (q_c_granted_1 _ _ _ _ _) ?_
              refine nb_Gr ?_
              refine nb_Wg (q_c_granted_3 _ _ _ _ _ _ (by omega)) ?_
              have W28 : nb_Lay (nb_wr (nb_wr M 2 15 0) 2 15 0) := W13.wr (fun w => (nb_nlit (by decide) (by decide)))
              refine nb_Gr ?_
              have E29 : nb_i2z 1 = 1 := by decide
              refine nb_Wg (q_c_granted_4 _ _ _ _) ?_
              simp only [E29]
              clear E29
              refine nb_Gs ?_
              show nb_W 65 14 [(19, 2), (0, l1), (0, l2)] [(0, 1)] (nb_wr (nb_wr M 2 15 0) 2 15 0) _
              refine nb_Wg (q_c_moves_14 _ _ _ _ _) ?_
              refine nb_Gf (by decide) ?_
              refine nb_Gr ?_
              refine nb_Wg (q_c_moves_16 _ _ _ _ (by omega)) ?_
              refine nb_Gb ?_
              refine nb_W.imp (nb_Hu H) (fun r M31 H => ?_)
              obtain ⟨rfl, W32, g33, H⟩ := H
              replace H := nb_Hw H
              show nb_W 65 17 [(19, 2), (0, l1), (0, l2)] [] M31 _
              obtain ⟨p0_, H⟩ := H
              replace H := nb_Hw H
              have E34 : nb_rd M31 2 5 = 84 := W32.c5
              have E35 : nb_rd M31 84 0 = 85 := W32.s0 (A := 84) nb_sc84
              have N36 : nb_ln M31 85 = 10 := W32.sn1 (A := 84) nb_sc84
              have E37 : nb_rd M31 85 l1 = 88 + l1 := W32.sg (A := 84) (i := l1) nb_sc84 (by omega) (by omega)
              refine nb_Wg (q_c_moves_17 _ _ _ _ (by omega) (by rw [E34]; first | done | omega) (by rw [E34, E35]; first | done | omega) (by omega) (by rw [E34, E35, N36]; first | done | omega) (by rw [E34, E35, E37]; first | done | omega)) ?_
              simp only [E34, E35, E37]
              clear E34 E35 N36 E37
              have W38 : nb_Lay (nb_wr M31 (88 + l1) 3 l2) := W32.wr (fun w => (nb_nsg (A := 84) (i := l1) nb_sc84 (by omega) (by omega)))
              refine nb_Gr ?_
              refine nb_Wg (q_c_moves_18 _ _ _ _) ?_
              refine nb_Gs ?_
              exact nb_Hu H W38
          · have H := nb_Hw ((nb_Hu H).2 (by omega))
            have c43 : M.1 (88 + l1) 8 ≠ 1 := by omega
            refine nb_Gr ?_
            refine nb_Wg (q_c_isWaiting_2 _ _ _) ?_
            refine nb_Gr ?_
            have E40 : nb_i2z 0 = 0 := by decide
            refine nb_Wg (q_c_isWaiting_3 _ _ _ _) ?_
            simp only [E40]
            clear E40
            refine nb_Gs ?_
            show nb_W 65 9 [(19, 2), (0, l1), (0, l2)] [(0, 0), (19, 2)] (nb_wr M 2 15 0) _
            refine nb_Wg (q_c_moves_9 _ _ _ _ _ _) ?_
            refine nb_Gt (by decide) ?_
            refine nb_Gr ?_
            refine nb_Wg (q_c_moves_12 _ _ _ _ _) ?_
            refine nb_Gr ?_
            refine nb_Wg (q_c_moves_13 _ _ _ _ _ _ (by omega)) ?_
            refine nb_Gb ?_
            refine nb_Wg (q_c_granted_0 _ _ _ _) ?_
            refine nb_Gt (by decide) ?_
            refine nb_Gr ?_
            refine nb_Wg (q_c_granted_2 _ _ _ _ _) ?_
            refine nb_Gr ?_
            refine nb_Wg (q_c_granted_3 _ _ _ _ _ _ (by omega)) ?_
            have W41 : nb_Lay (nb_wr (nb_wr M 2 15 0) 2 15 5) := W13.wr (fun w => (nb_nlit (by decide) (by decide)))
            refine nb_Gr ?_
            have E42 : nb_i2z 0 = 0 := by decide
            refine nb_Wg (q_c_granted_4 _ _ _ _) ?_
            simp only [E42]
            clear E42
            refine nb_Gs ?_
            show nb_W 65 14 [(19, 2), (0, l1), (0, l2)] [(0, 0)] (nb_wr (nb_wr M 2 15 0) 2 15 5) _
            refine nb_Wg (q_c_moves_14 _ _ _ _ _) ?_
            refine nb_Gt (by decide) ?_
            refine nb_Gr ?_
            refine nb_Wg (q_c_moves_15 _ _ _ _) ?_
            refine nb_Gs ?_
            exact nb_Hu H W41
        · have H := nb_Hw ((nb_Hu H).2 (by omega))
          have c47 : M.1 Ho 9 ≤ l2 := by omega
          refine nb_Gr ?_
          refine nb_Wg (q_c_isPlace_3 _ _ _) ?_
          refine nb_Gr ?_
          have E44 : nb_i2z 0 = 0 := by decide
          refine nb_Wg (q_c_isPlace_4 _ _ _ _) ?_
          simp only [E44]
          clear E44
          refine nb_Gs ?_
          show nb_W 65 3 [(19, 2), (0, l1), (0, l2)] [(0, 0), (19, 2)] M _
          refine nb_Wg (q_c_moves_3 _ _ _ _ _ _) ?_
          refine nb_Gt (by decide) ?_
          refine nb_Gr ?_
          refine nb_Wg (q_c_moves_5 _ _ _ _ _) ?_
          refine nb_Gr ?_
          refine nb_Wg (q_c_moves_6 _ _ _ _ _ _ (by omega)) ?_
          refine nb_Gb ?_
          refine nb_Wg (q_c_granted_0 _ _ _ _) ?_
          refine nb_Gt (by decide) ?_
          refine nb_Gr ?_
          refine nb_Wg (q_c_granted_2 _ _ _ _ _) ?_
          refine nb_Gr ?_
          refine nb_Wg (q_c_granted_3 _ _ _ _ _ _ (by omega)) ?_
          have W45 : nb_Lay (nb_wr M 2 15 1) := W.wr (fun w => (nb_nlit (by decide) (by decide)))
          refine nb_Gr ?_
          have E46 : nb_i2z 0 = 0 := by decide
          refine nb_Wg (q_c_granted_4 _ _ _ _) ?_
          simp only [E46]
          clear E46
          refine nb_Gs ?_
          show nb_W 65 7 [(19, 2), (0, l1), (0, l2)] [(0, 0)] (nb_wr M 2 15 1) _
          refine nb_Wg (q_c_moves_7 _ _ _ _ _) ?_
          refine nb_Gt (by decide) ?_
          refine nb_Gr ?_
          refine nb_Wg (q_c_moves_15 _ _ _ _) ?_
          refine nb_Gs ?_
          exact nb_Hu H W45
    · have H := nb_Hw ((nb_Hu H).2 (by omega))
      have c52 : M.1 Ho 13 ≤ l1 := by omega
      refine nb_Gr ?_
      refine nb_Wg (q_c_isPerson_3 _ _ _) ?_
      refine nb_Gr ?_
      have E49 : nb_i2z 0 = 0 := by decide
      refine nb_Wg (q_c_isPerson_4 _ _ _ _) ?_
      simp only [E49]
      clear E49
      refine nb_Gs ?_
      show nb_W 65 1 [(19, 2), (0, l1), (0, l2)] [(0, 0), (19, 2)] M _
      refine nb_Wg (q_c_moves_1 _ _ _ _ _ _) ?_
      refine nb_Gt (by decide) ?_
      refine nb_Gr ?_
      refine nb_Wg (q_c_moves_5 _ _ _ _ _) ?_
      refine nb_Gr ?_
      refine nb_Wg (q_c_moves_6 _ _ _ _ _ _ (by omega)) ?_
      refine nb_Gb ?_
      refine nb_Wg (q_c_granted_0 _ _ _ _) ?_
      refine nb_Gt (by decide) ?_
      refine nb_Gr ?_
      refine nb_Wg (q_c_granted_2 _ _ _ _ _) ?_
      refine nb_Gr ?_
      refine nb_Wg (q_c_granted_3 _ _ _ _ _ _ (by omega)) ?_
      have W50 : nb_Lay (nb_wr M 2 15 1) := W.wr (fun w => (nb_nlit (by decide) (by decide)))
      refine nb_Gr ?_
      have E51 : nb_i2z 0 = 0 := by decide
      refine nb_Wg (q_c_granted_4 _ _ _ _) ?_
      simp only [E51]
      clear E51
      refine nb_Gs ?_
      show nb_W 65 7 [(19, 2), (0, l1), (0, l2)] [(0, 0)] (nb_wr M 2 15 1) _
      refine nb_Wg (q_c_moves_7 _ _ _ _ _) ?_
      refine nb_Gt (by decide) ?_
      refine nb_Gr ?_
      refine nb_Wg (q_c_moves_15 _ _ _ _) ?_
      refine nb_Gs ?_
      exact nb_Hu H W50

theorem w_c_lets_0 {l1 l2 Ho : Int} {M : nb_M} {Q : List nb_V → nb_M → Prop} (W : nb_Lay M) (hHo : nb_hs Ho) (hx2 : M.1 2 2 = Ho) (H : (l1 < 0 → (nb_Lay (nb_wr M 2 15 1) → Q [(0, 0)] (nb_wr M 2 15 1))) ∧ (0 ≤ l1 → 0 ≤ M.1 Ho 13 ∧ M.1 Ho 13 ≤ 10 ∧ (l1 < M.1 Ho 13 → (l2 < 0 → (nb_Lay (nb_wr M 2 15 1) → Q [(0, 0)] (nb_wr M 2 15 1))) ∧ (0 ≤ l2 → (l2 < M.1 Ho 13 → (l1 = l2 → (nb_Lay (nb_wr M 2 15 1) → Q [(0, 0)] (nb_wr M 2 15 1))) ∧ (l1 ≠ l2 → (M.1 (88 + l1) 8 = 1 → (M.1 (88 + l2) 8 = 1 → (M.1 (88 + l2) 7 < M.1 (88 + l1) 7 → (nb_Lay (nb_wr (nb_wr (nb_wr M 2 15 0) 2 15 0) 2 15 5) → Q [(0, 0)] (nb_wr (nb_wr (nb_wr M 2 15 0) 2 15 0) 2 15 5))) ∧ (M.1 (88 + l1) 7 ≤ M.1 (88 + l2) 7 → nb_W 63 0 [(19, 2)] [] (nb_wr (nb_wr (nb_wr M 2 15 0) 2 15 0) 2 15 0) (fun r M55 => r = [] ∧ nb_Lay M55 ∧ M55.1 2 2 = Ho ∧ l1 < 10 ∧ l2 < 10 ∧ -2147483648 ≤ M55.1 (88 + l2) 7 + 1 ∧ M55.1 (88 + l2) 7 + 1 ≤ 2147483647 ∧ (nb_Lay (nb_wr M55 (88 + l1) 7 (M55.1 (88 + l2) 7 + 1)) → Q [(0, 1)] (nb_wr M55 (88 + l1) 7 (M55.1 (88 + l2) 7 + 1)))))) ∧ (M.1 (88 + l2) 8 ≠ 1 → (nb_Lay (nb_wr (nb_wr M 2 15 0) 2 15 5) → Q [(0, 0)] (nb_wr (nb_wr M 2 15 0) 2 15 5)))) ∧ (M.1 (88 + l1) 8 ≠ 1 → (nb_Lay (nb_wr (nb_wr M 2 15 0) 2 15 5) → Q [(0, 0)] (nb_wr (nb_wr M 2 15 0) 2 15 5))))) ∧ (M.1 Ho 13 ≤ l2 → (nb_Lay (nb_wr M 2 15 1) → Q [(0, 0)] (nb_wr M 2 15 1))))) ∧ (M.1 Ho 13 ≤ l1 → (nb_Lay (nb_wr M 2 15 1) → Q [(0, 0)] (nb_wr M 2 15 1))))) :
    nb_W 66 0 [(19, 2), (0, l1), (0, l2)] [] M Q := by
  replace H := nb_Hw H
  have uhHo := hHo
  unfold nb_hs at uhHo
  refine nb_Wg (q_c_lets_0 _ _ _ _ (by omega)) ?_
  refine nb_Gb ?_
  refine nb_Wg (q_c_mayLet_0 _ _ _ _ (by omega)) ?_
  refine nb_Gb ?_
  refine nb_Wg (q_c_areTwo_0 _ _ _ _ (by omega)) ?_
  refine nb_Gb ?_
  refine nb_Wg (q_c_isPerson_0 _ _ _) ?_
  refine nb_Gi (fun c93 => ?_) (fun c93 => ?_)
  · have H := nb_Hw ((nb_Hu H).1 c93)
    refine nb_Gr ?_
    refine nb_Wg (q_c_isPerson_3 _ _ _) ?_
    refine nb_Gr ?_
    have E1 : nb_i2z 0 = 0 := by decide
    refine nb_Wg (q_c_isPerson_4 _ _ _ _) ?_
    simp only [E1]
    clear E1
    refine nb_Gs ?_
    show nb_W 10 1 [(19, 2), (0, l1), (0, l2)] [(0, 0)] M _
    refine nb_Wg (q_c_areTwo_1 _ _ _ _ _) ?_
    refine nb_Gt (by decide) ?_
    refine nb_Gr ?_
    refine nb_Wg (q_c_areTwo_6 _ _ _ _) ?_
    refine nb_Gr ?_
    have E2 : nb_i2z 0 = 0 := by decide
    refine nb_Wg (q_c_areTwo_7 _ _ _ _ _) ?_
    simp only [E2]
    clear E2
    refine nb_Gs ?_
    show nb_W 48 1 [(19, 2), (0, l1), (0, l2)] [(0, 0), (19, 2)] M _
    refine nb_Wg (q_c_mayLet_1 _ _ _ _ _ _ (by omega)) ?_
    refine nb_Gb ?_
    refine nb_Wg (q_c_granted_0 _ _ _ _) ?_
    refine nb_Gt (by decide) ?_
    refine nb_Gr ?_
    refine nb_Wg (q_c_granted_2 _ _ _ _ _) ?_
    refine nb_Gr ?_
    refine nb_Wg (q_c_granted_3 _ _ _ _ _ _ (by omega)) ?_
    have W3 : nb_Lay (nb_wr M 2 15 1) := W.wr (fun w => (nb_nlit (by decide) (by decide)))
    refine nb_Gr ?_
    have E4 : nb_i2z 0 = 0 := by decide
    refine nb_Wg (q_c_granted_4 _ _ _ _) ?_
    simp only [E4]
    clear E4
    refine nb_Gs ?_
    show nb_W 48 2 [(19, 2), (0, l1), (0, l2)] [(0, 0)] (nb_wr M 2 15 1) _
    refine nb_Wg (q_c_mayLet_2 _ _ _ _ _) ?_
    refine nb_Gt (by decide) ?_
    refine nb_Gr ?_
    refine nb_Wg (q_c_mayLet_17 _ _ _ _) ?_
    refine nb_Gr ?_
    have E5 : nb_i2z 0 = 0 := by decide
    refine nb_Wg (q_c_mayLet_18 _ _ _ _ _) ?_
    simp only [E5]
    clear E5
    refine nb_Gs ?_
    show nb_W 66 1 [(19, 2), (0, l1), (0, l2)] [(0, 0)] (nb_wr M 2 15 1) _
    refine nb_Wg (q_c_lets_1 _ _ _ _ _) ?_
    refine nb_Gt (by decide) ?_
    refine nb_Gr ?_
    refine nb_Wg (q_c_lets_2 _ _ _ _) ?_
    refine nb_Gs ?_
    exact nb_Hu H W3
  · have H := nb_Hw ((nb_Hu H).2 (by omega))
    have c93 : 0 ≤ l1 := by omega
    refine nb_Gr ?_
    obtain ⟨p0_, p1_, H⟩ := H
    replace H := nb_Hw H
    have E6 : nb_rd M 2 2 = Ho := hx2
    have E7 : nb_rd M Ho 13 = M.1 Ho 13 := nb_rd_1 _ _ _
    refine nb_Wg (q_c_isPerson_1 _ _ _ (by omega) (by rw [E6]; first | done | omega)) ?_
    simp only [E6, E7]
    clear E6 E7
    refine nb_Gi (fun c92 => ?_) (fun c92 => ?_)
    · have H := nb_Hw ((nb_Hu H).1 c92)
      refine nb_Gr ?_
      refine nb_Wg (q_c_isPerson_2 _ _ _) ?_
      refine nb_Gr ?_
      have E8 : nb_i2z 1 = 1 := by decide
      refine nb_Wg (q_c_isPerson_4 _ _ _ _) ?_
      simp only [E8]
      clear E8
      refine nb_Gs ?_
      show nb_W 10 1 [(19, 2), (0, l1), (0, l2)] [(0, 1)] M _
      refine nb_Wg (q_c_areTwo_1 _ _ _ _ _) ?_
      refine nb_Gf (by decide) ?_
      refine nb_Gr ?_
      refine nb_Wg (q_c_areTwo_2 _ _ _ _ (by omega)) ?_
      refine nb_Gb ?_
      refine nb_Wg (q_c_isPerson_0 _ _ _) ?_
      refine nb_Gi (fun c86 => ?_) (fun c86 => ?_)
      · have H := nb_Hw ((nb_Hu H).1 c86)
        refine nb_Gr ?_
        refine nb_Wg (q_c_isPerson_3 _ _ _) ?_
        refine nb_Gr ?_
        have E9 : nb_i2z 0 = 0 := by decide
        refine nb_Wg (q_c_isPerson_4 _ _ _ _) ?_
        simp only [E9]
        clear E9
        refine nb_Gs ?_
        show nb_W 10 3 [(19, 2), (0, l1), (0, l2)] [(0, 0)] M _
        refine nb_Wg (q_c_areTwo_3 _ _ _ _ _) ?_
        refine nb_Gt (by decide) ?_
        refine nb_Gr ?_
        refine nb_Wg (q_c_areTwo_6 _ _ _ _) ?_
        refine nb_Gr ?_
        have E10 : nb_i2z 0 = 0 := by decide
        refine nb_Wg (q_c_areTwo_7 _ _ _ _ _) ?_
        simp only [E10]
        clear E10
        refine nb_Gs ?_
        show nb_W 48 1 [(19, 2), (0, l1), (0, l2)] [(0, 0), (19, 2)] M _
        refine nb_Wg (q_c_mayLet_1 _ _ _ _ _ _ (by omega)) ?_
        refine nb_Gb ?_
        refine nb_Wg (q_c_granted_0 _ _ _ _) ?_
        refine nb_Gt (by decide) ?_
        refine nb_Gr ?_
        refine nb_Wg (q_c_granted_2 _ _ _ _ _) ?_
        refine nb_Gr ?_
        refine nb_Wg (q_c_granted_3 _ _ _ _ _ _ (by omega)) ?_
        have W11 : nb_Lay (nb_wr M 2 15 1) := W.wr (fun w => (nb_nlit (by decide) (by decide)))
        refine nb_Gr ?_
        have E12 : nb_i2z 0 = 0 := by decide
        refine nb_Wg (q_c_granted_4 _ _ _ _) ?_
        simp only [E12]
        clear E12
        refine nb_Gs ?_
        show nb_W 48 2 [(19, 2), (0, l1), (0, l2)] [(0, 0)] (nb_wr M 2 15 1) _
        refine nb_Wg (q_c_mayLet_2 _ _ _ _ _) ?_
        refine nb_Gt (by decide) ?_
        refine nb_Gr ?_
        refine nb_Wg (q_c_mayLet_17 _ _ _ _) ?_
        refine nb_Gr ?_
        have E13 : nb_i2z 0 = 0 := by decide
        refine nb_Wg (q_c_mayLet_18 _ _ _ _ _) ?_
        simp only [E13]
        clear E13
        refine nb_Gs ?_
        show nb_W 66 1 [(19, 2), (0, l1), (0, l2)] [(0, 0)] (nb_wr M 2 15 1) _
        refine nb_Wg (q_c_lets_1 _ _ _ _ _) ?_
        refine nb_Gt (by decide) ?_
        refine nb_Gr ?_
        refine nb_Wg (q_c_lets_2 _ _ _ _) ?_
        refine nb_Gs ?_
        exact nb_Hu H W11
      · have H := nb_Hw ((nb_Hu H).2 (by omega))
        have c86 : 0 ≤ l2 := by omega
        refine nb_Gr ?_
        have E14 : nb_rd M 2 2 = Ho := hx2
        have E15 : nb_rd M Ho 13 = M.1 Ho 13 := nb_rd_1 _ _ _
        refine nb_Wg (q_c_isPerson_1 _ _ _ (by omega) (by rw [E14]; first | done | omega)) ?_
        simp only [E14, E15]
        clear E14 E15
        refine nb_Gi (fun c85 => ?_) (fun c85 => ?_)
        · have H := nb_Hw ((nb_Hu H).1 c85)
          refine nb_Gr ?_
          refine nb_Wg (q_c_isPerson_2 _ _ _) ?_
          refine nb_Gr ?_
          have E16 : nb_i2z 1 = 1 := by decide
          refine nb_Wg (q_c_isPerson_4 _ _ _ _) ?_
          simp only [E16]
          clear E16
          refine nb_Gs ?_
          show nb_W 10 3 [(19, 2), (0, l1), (0, l2)] [(0, 1)] M _
          refine nb_Wg (q_c_areTwo_3 _ _ _ _ _) ?_
          refine nb_Gf (by decide) ?_
          refine nb_Gr ?_
          refine nb_Wg (q_c_areTwo_4 _ _ _ _) ?_
          refine nb_Gi (fun c79 => ?_) (fun c79 => ?_)
          · have H := nb_Hw ((nb_Hu H).1 c79)
            refine nb_Gr ?_
            refine nb_Wg (q_c_areTwo_6 _ _ _ _) ?_
            refine nb_Gr ?_
            have E17 : nb_i2z 0 = 0 := by decide
            refine nb_Wg (q_c_areTwo_7 _ _ _ _ _) ?_
            simp only [E17]
            clear E17
            refine nb_Gs ?_
            show nb_W 48 1 [(19, 2), (0, l1), (0, l2)] [(0, 0), (19, 2)] M _
            refine nb_Wg (q_c_mayLet_1 _ _ _ _ _ _ (by omega)) ?_
            refine nb_Gb ?_
            refine nb_Wg (q_c_granted_0 _ _ _ _) ?_
            refine nb_Gt (by decide) ?_
            refine nb_Gr ?_
            refine nb_Wg (q_c_granted_2 _ _ _ _ _) ?_
            refine nb_Gr ?_
            refine nb_Wg (q_c_granted_3 _ _ _ _ _ _ (by omega)) ?_
            have W18 : nb_Lay (nb_wr M 2 15 1) := W.wr (fun w => (nb_nlit (by decide) (by decide)))
            refine nb_Gr ?_
            have E19 : nb_i2z 0 = 0 := by decide
            refine nb_Wg (q_c_granted_4 _ _ _ _) ?_
            simp only [E19]
            clear E19
            refine nb_Gs ?_
            show nb_W 48 2 [(19, 2), (0, l1), (0, l2)] [(0, 0)] (nb_wr M 2 15 1) _
            refine nb_Wg (q_c_mayLet_2 _ _ _ _ _) ?_
            refine nb_Gt (by decide) ?_
            refine nb_Gr ?_
            refine nb_Wg (q_c_mayLet_17 _ _ _ _) ?_
            refine nb_Gr ?_
            have E20 : nb_i2z 0 = 0 := by decide
            refine nb_Wg (q_c_mayLet_18 _ _ _ _ _) ?_
            simp only [E20]
            clear E20
            refine nb_Gs ?_
            show nb_W 66 1 [(19, 2), (0, l1), (0, l2)] [(0, 0)] (nb_wr M 2 15 1) _
            refine nb_Wg (q_c_lets_1 _ _ _ _ _) ?_
            refine nb_Gt (by decide) ?_
            refine nb_Gr ?_
            refine nb_Wg (q_c_lets_2 _ _ _ _) ?_
            refine nb_Gs ?_
            exact nb_Hu H W18
          · have H := nb_Hw ((nb_Hu H).2 (by omega))
            have c79 : l1 ≠ l2 := by omega
            refine nb_Gr ?_
            refine nb_Wg (q_c_areTwo_5 _ _ _ _) ?_
            refine nb_Gr ?_
            have E21 : nb_i2z 1 = 1 := by decide
            refine nb_Wg (q_c_areTwo_7 _ _ _ _ _) ?_
            simp only [E21]
            clear E21
            refine nb_Gs ?_
            show nb_W 48 1 [(19, 2), (0, l1), (0, l2)] [(0, 1), (19, 2)] M _
            refine nb_Wg (q_c_mayLet_1 _ _ _ _ _ _ (by omega)) ?_
            refine nb_Gb ?_
            refine nb_Wg (q_c_granted_0 _ _ _ _) ?_
            refine nb_Gf (by decide) ?_
            refine nb_Gr ?_
            refine nb_Wg (q_c_granted_1 _ _ _ _ _) ?_
            refine nb_Gr ?_
            refine nb_Wg (q_c_granted_3 _ _ _ _ _ _ (by omega)) ?_
            have W22 : nb_Lay (nb_wr M 2 15 0) := W.wr (fun w => (nb_nlit (by decide) (by decide)))
            refine nb_Gr ?_
            have E23 : nb_i2z 1 = 1 := by decide
            refine nb_Wg (q_c_granted_4 _ _ _ _) ?_
            simp only [E23]
            clear E23
            refine nb_Gs ?_
            show nb_W 48 2 [(19, 2), (0, l1), (0, l2)] [(0, 1)] (nb_wr M 2 15 0) _
            refine nb_Wg (q_c_mayLet_2 _ _ _ _ _) ?_
            refine nb_Gf (by decide) ?_
            refine nb_Gr ?_
            refine nb_Wg (q_c_mayLet_3 _ _ _ _ (by omega)) ?_
            refine nb_Gb ?_
            have E24 : nb_rd (nb_wr M 2 15 0) 2 5 = 84 := W22.c5
            have E25 : nb_rd (nb_wr M 2 15 0) 84 0 = 85 := W22.s0 (A := 84) nb_sc84
            have N26 : nb_ln (nb_wr M 2 15 0) 85 = 10 := W22.sn1 (A := 84) nb_sc84
            have E27 : nb_rd (nb_wr M 2 15 0) 85 l1 = 88 + l1 := W22.sg (A := 84) (i := l1) nb_sc84 (by omega) (by omega)
            have E28 : nb_rd (nb_wr M 2 15 0) (88 + l1) 8 = M.1 (88 + l1) 8 := nb_rdw (Or.inr (by decide)) (nb_rd_1 _ _ _)
            refine nb_Wg (q_c_isWaiting_0 _ _ _ (by omega) (by rw [E24]; first | done | omega) (by rw [E24, E25]; first | done | omega) (by omega) (by rw [E24, E25, N26]; first | done | omega) (by rw [E24, E25, E27]; first | done | omega)) ?_
            simp only [E24, E25, E27, E28]
            clear E24 E25 N26 E27 E28
            refine nb_Gi (fun c78 => ?_) (fun c78 => ?_)
            · have H := nb_Hw ((nb_Hu H).1 c78)
              refine nb_Gr ?_
              refine nb_Wg (q_c_isWaiting_1 _ _ _) ?_
              refine nb_Gr ?_
              have E29 : nb_i2z 1 = 1 := by decide
              refine nb_Wg (q_c_isWaiting_3 _ _ _ _) ?_
              simp only [E29]
              clear E29
              refine nb_Gs ?_
              show nb_W 48 4 [(19, 2), (0, l1), (0, l2)] [(0, 1), (19, 2)] (nb_wr M 2 15 0) _
              refine nb_Wg (q_c_mayLet_4 _ _ _ _ _ _) ?_
              refine nb_Gf (by decide) ?_
              refine nb_Gr ?_
              refine nb_Wg (q_c_mayLet_5 _ _ _ _ _ (by omega)) ?_
              refine nb_Gb ?_
              have E30 : nb_rd (nb_wr M 2 15 0) 2 5 = 84 := W22.c5
              have E31 : nb_rd (nb_wr M 2 15 0) 84 0 = 85 := W22.s0 (A := 84) nb_sc84
              have N32 : nb_ln (nb_wr M 2 15 0) 85 = 10 := W22.sn1 (A := 84) nb_sc84
              have E33 : nb_rd (nb_wr M 2 15 0) 85 l2 = 88 + l2 := W22.sg (A := 84) (i := l2) nb_sc84 (by omega) (by omega)
              have E34 : nb_rd (nb_wr M 2 15 0) (88 + l2) 8 = M.1 (88 + l2) 8 := nb_rdw (Or.inr (by decide)) (nb_rd_1 _ _ _)
              refine nb_Wg (q_c_isWaiting_0 _ _ _ (by omega) (by rw [E30]; first | done | omega) (by rw [E30, E31]; first | done | omega) (by omega) (by rw [E30, E31, N32]; first | done | omega) (by rw [E30, E31, E33]; first | done | omega)) ?_
              simp only [E30, E31, E33, E34]
              clear E30 E31 N32 E33 E34
              refine nb_Gi (fun c73 => ?_) (fun c73 => ?_)
              · have H := nb_Hw ((nb_Hu H).1 c73)
                refine nb_Gr ?_
                refine nb_Wg (q_c_isWaiting_1 _ _ _) ?_
                refine nb_Gr ?_
                have E35 : nb_i2z 1 = 1 := by decide
                refine nb_Wg (q_c_isWaiting_3 _ _ _ _) ?_
                simp only [E35]
                clear E35
                refine nb_Gs ?_
                show nb_W 48 6 [(19, 2), (0, l1), (0, l2)] [(0, 1), (19, 2)] (nb_wr M 2 15 0) _
                refine nb_Wg (q_c_mayLet_6 _ _ _ _ _ _) ?_
                refine nb_Gf (by decide) ?_
                refine nb_Gr ?_
                refine nb_Wg (q_c_mayLet_7 _ _ _ _ _) ?_
                refine nb_Gr ?_
                refine nb_Wg (q_c_mayLet_9 _ _ _ _ _ _ (by omega)) ?_
                refine nb_Gb ?_
                refine nb_Wg (q_c_granted_0 _ _ _ _) ?_
                refine nb_Gf (by decide) ?_
                refine nb_Gr ?_
                refine nb_Wg (q_c_granted_1 _ _ _ _ _) ?_
                refine nb_Gr ?_
                refine nb_Wg (q_c_granted_3 _ _ _ _ _ _ (by omega)) ?_
                have W36 : nb_Lay (nb_wr (nb_wr M 2 15 0) 2 15 0) := W22.wr (fun w => (nb_nlit (by decide) (by decide)))
                refine nb_Gr ?_
                have E37 : nb_i2z 1 = 1 := by decide
                refine nb_Wg (q_c_granted_4 _ _ _ _) ?_
                simp only [E37]
                clear E37
                refine nb_Gs ?_
                show nb_W 48 10 [(19, 2), (0, l1), (0, l2)] [(0, 1)] (nb_wr (nb_wr M 2 15 0) 2 15 0) _
                refine nb_Wg (q_c_mayLet_10 _ _ _ _ _) ?_
                refine nb_Gf (by decide) ?_
                refine nb_Gr ?_
                have E38 : nb_rd (nb_wr (nb_wr M 2 15 0) 2 15 0) 2 5 = 84 := W36.c5
                have E39 : nb_rd (nb_wr (nb_wr M 2 15 0) 2 15 0) 84 0 = 85 := W36.s0 (A := 84) nb_sc84
                have N40 : nb_ln (nb_wr (nb_wr M 2 15 0) 2 15 0) 85 = 10 := W36.sn1 (A := 84) nb_sc84
                have E41 : nb_rd (nb_wr (nb_wr M 2 15 0) 2 15 0) 85 l1 = 88 + l1 := W36.sg (A := 84) (i := l1) nb_sc84 (by omega) (by omega)
                have E42 : nb_rd (nb_wr (nb_wr M 2 15 0) 2 15 0) (88 + l1) 7 = M.1 (88 + l1) 7 := nb_rdw (Or.inr (by decide)) (nb_rdw (Or.inr (by decide)) (nb_rd_1 _ _ _))
                have E43 : nb_rd (nb_wr (nb_wr M 2 15 0) 2 15 0) 2 5 = 84 := W36.c5
                have E44 : nb_rd (nb_wr (nb_wr M 2 15 0) 2 15 0) 84 0 = 85 := W36.s0 (A := 84) nb_sc84
                have N45 : nb_ln (nb_wr (nb_wr M 2 15 0) 2 15 0) 85 = 10 := W36.sn1 (A := 84) nb_sc84
                have E46 : nb_rd (nb_wr (nb_wr M 2 15 0) 2 15 0) 85 l2 = 88 + l2 := W36.sg (A := 84) (i := l2) nb_sc84 (by omega) (by omega)
                have E47 : nb_rd (nb_wr (nb_wr M 2 15 0) 2 15 0) (88 + l2) 7 = M.1 (88 + l2) 7 := nb_rdw (Or.inr (by decide)) (nb_rdw (Or.inr (by decide)) (nb_rd_1 _ _ _))
                refine nb_Wg (q_c_mayLet_11 _ _ _ _ (by omega) (by rw [E38]; first | done | omega) (by rw [E38, E39]; first | done | omega) (by omega) (by rw [E38, E39, N40]; first | done | omega) (by rw [E38, E39, E41]; first | done | omega) (by omega) (by rw [E43, E44, N45]; first | done | omega) (by rw [E43, E44, E46]; first | done | omega)) ?_
                simp only [E38, E39, E41, E42, E43, E44, E46, E47]
                clear E38 E39 N40 E41 E42 E43 E44 N45 E46 E47
                refine nb_Gi (fun c68 => ?_) (fun c68 => ?_)
                · have H := nb_Hw ((nb_Hu H).1 c68)
                  refine nb_Gr ?_
                  refine nb_Wg (q_c_mayLet_13 _ _ _ _ _) ?_
                  refine nb_Gr ?_
                  refine nb_Wg (q_c_mayLet_14 _ _ _ _ _ _ (by omega)) ?_
                  refine nb_Gb ?_
                  refine nb_Wg (q_c_granted_0 _ _ _ _) ?_
                  refine nb_Gt (by decide) ?_
                  refine nb_Gr ?_
                  refine nb_Wg (q_c_granted_2 _ _ _ _ _) ?_
                  refine nb_Gr ?_
                  refine nb_Wg (q_c_granted_3 _ _ _ _ _ _ (by omega)) ?_
                  have W48 : nb_Lay (nb_wr (nb_wr (nb_wr M 2 15 0) 2 15 0) 2 15 5) := W36.wr (fun w => (nb_nlit (by decide) (by decide)))
                  refine nb_Gr ?_
                  have E49 : nb_i2z 0 = 0 := by decide
                  refine nb_Wg (q_c_granted_4 _ _ _ _) ?_
                  simp only [E49]
                  clear E49
                  refine nb_Gs ?_
                  show nb_W 48 15 [(19, 2), (0, l1), (0, l2)] [(0, 0)] (nb_wr (nb_wr (nb_wr M 2 15 0) 2 15 0) 2 15 5) _
                  refine nb_Wg (q_c_mayLet_15 _ _ _ _ _) ?_
                  refine nb_Gt (by decide) ?_
                  refine nb_Gr ?_
                  refine nb_Wg (q_c_mayLet_17 _ _ _ _) ?_
                  refine nb_Gr ?_
                  have E50 : nb_i2z 0 = 0 := by decide
                  refine nb_Wg (q_c_mayLet_18 _ _ _ _ _) ?_
                  simp only [E50]
                  clear E50
                  refine nb_Gs ?_
                  show nb_W 66 1 [(19, 2), (0, l1), (0, l2)] [(0, 0)] (nb_wr (nb_wr (nb_wr M 2 15 0) 2 15 0) 2 15 5) _
                  refine nb_Wg (q_c_lets_1 _ _ _ _ _) ?_
                  refine nb_Gt (by decide) ?_
                  refine nb_Gr ?_
                  refine nb_Wg (q_c_lets_2 _ _ _ _) ?_
                  refine nb_Gs ?_
                  exact nb_Hu H W48
                · have H := nb_Hw ((nb_Hu H).2 (by omega))
                  have c68 : M.1 (88 + l1) 7 ≤ M.1 (88 + l2) 7 := by omega
                  refine nb_Gr ?_
                  refine nb_Wg (q_c_mayLet_12 _ _ _ _ _) ?_
                  refine nb_Gr ?_
                  refine nb_Wg (q_c_mayLet_14 _ _ _ _ _ _ (by omega)) ?_
                  refine nb_Gb ?_
                  refine nb_Wg (q_c_granted_0 _ _ _ _) ?_
                  refine nb_Gf (by decide) ?_
                  refine nb_Gr ?_
                  refine nb_Wg (q_c_granted_1 _ _ _ _ _) ?_
                  refine nb_Gr ?_
                  refine nb_Wg (q_c_granted_3 _ _ _ _ _ _ (by omega)) ?_
                  have W51 : nb_Lay (nb_wr (nb_wr (nb_wr M 2 15 0) 2 15 0) 2 15 0) := W36.wr (fun w => (nb_nlit (by decide) (by decide)))
                  refine nb_Gr ?_
                  have E52 : nb_i2z 1 = 1 := by decide
                  refine nb_Wg (q_c_granted_4 _ _ _ _) ?_
                  simp only [E52]
                  clear E52
                  refine nb_Gs ?_
                  show nb_W 48 15 [(19, 2), (0, l1), (0, l2)] [(0, 1)] (nb_wr (nb_wr (nb_wr M 2 15 0) 2 15 0) 2 15 0) _
                  refine nb_Wg (q_c_mayLet_15 _ _ _ _ _) ?_
                  refine nb_Gf (by decide) ?_
                  refine nb_Gr ?_
                  refine nb_Wg (q_c_mayLet_16 _ _ _ _) ?_
                  refine nb_Gr ?_
                  have E53 : nb_i2z 1 = 1 := by decide
                  refine nb_Wg (q_c_mayLet_18 _ _ _ _ _) ?_
                  simp only [E53]
                  clear E53
                  refine nb_Gs ?_
                  show nb_W 66 1 [(19, 2), (0, l1), (0, l2)] [(0, 1)] (nb_wr (nb_wr (nb_wr M 2 15 0) 2 15 0) 2 15 0) _
                  refine nb_Wg (q_c_lets_1 _ _ _ _ _) ?_
                  refine nb_Gf (by decide) ?_
                  refine nb_Gr ?_
                  refine nb_Wg (q_c_lets_3 _ _ _ _ (by omega)) ?_
                  refine nb_Gb ?_
                  refine nb_W.imp (nb_Hu H) (fun r M55 H => ?_)
                  obtain ⟨rfl, W56, g57, H⟩ := H
                  replace H := nb_Hw H
                  show nb_W 66 4 [(19, 2), (0, l1), (0, l2)] [] M55 _
                  have E58 : nb_rd M55 2 5 = 84 := W56.c5
                  refine nb_Wg (q_c_lets_4 _ _ _ _ (by omega)) ?_
                  simp only [E58]
                  clear E58
                  refine nb_Gb ?_
                  obtain ⟨p0_, p1_, p2_, p3_, H⟩ := H
                  replace H := nb_Hw H
                  have E59 : nb_rd M55 84 0 = 85 := W56.s0 (A := 84) nb_sc84
                  have N60 : nb_ln M55 85 = 10 := W56.sn1 (A := 84) nb_sc84
                  have E61 : nb_rd M55 85 l1 = 88 + l1 := W56.sg (A := 84) (i := l1) nb_sc84 (by omega) (by omega)
                  have E62 : nb_rd M55 84 0 = 85 := W56.s0 (A := 84) nb_sc84
                  have N63 : nb_ln M55 85 = 10 := W56.sn1 (A := 84) nb_sc84
                  have E64 : nb_rd M55 85 l2 = 88 + l2 := W56.sg (A := 84) (i := l2) nb_sc84 (by omega) (by omega)
                  have E65 : nb_rd M55 (88 + l2) 7 = M55.1 (88 + l2) 7 := nb_rd_1 _ _ _
                  have E66 : nb_add (M55.1 (88 + l2) 7) 1 = M55.1 (88 + l2) 7 + 1 := nb_add_eq (by omega) (by omega)
                  refine nb_Wg (q_c_letFirst_0 _ _ _ _ (by omega) (by rw [E59]; first | done | omega) (by omega) (by rw [E59, N60]; first | done | omega) (by omega) (by rw [E62, N63]; first | done | omega) (by rw [E62, E64]; first | done | omega) (by rw [E59, E61]; first | done | omega)) ?_
                  simp only [E59, E61, E62, E64, E65, E66]
                  clear E59 N60 E61 E62 N63 E64 E65 E66
                  have W67 : nb_Lay (nb_wr M55 (88 + l1) 7 (M55.1 (88 + l2) 7 + 1)) := W56.wr (fun w => (nb_nsg (A := 84) (i := l1) nb_sc84 (by omega) (by omega)))
                  refine nb_Gr ?_
                  refine nb_Wg (q_c_letFirst_1 _ _ _ _) ?_
                  refine nb_Gs ?_
                  show nb_W 66 5 [(19, 2), (0, l1), (0, l2)] [] (nb_wr M55 (88 + l1) 7 (M55.1 (88 + l2) 7 + 1)) _
                  refine nb_Wg (q_c_lets_5 _ _ _ _) ?_
                  refine nb_Gs ?_
                  exact nb_Hu H W67
              · have H := nb_Hw ((nb_Hu H).2 (by omega))
                have c73 : M.1 (88 + l2) 8 ≠ 1 := by omega
                refine nb_Gr ?_
                refine nb_Wg (q_c_isWaiting_2 _ _ _) ?_
                refine nb_Gr ?_
                have E69 : nb_i2z 0 = 0 := by decide
                refine nb_Wg (q_c_isWaiting_3 _ _ _ _) ?_
                simp only [E69]
                clear E69
                refine nb_Gs ?_
                show nb_W 48 6 [(19, 2), (0, l1), (0, l2)] [(0, 0), (19, 2)] (nb_wr M 2 15 0) _
                refine nb_Wg (q_c_mayLet_6 _ _ _ _ _ _) ?_
                refine nb_Gt (by decide) ?_
                refine nb_Gr ?_
                refine nb_Wg (q_c_mayLet_8 _ _ _ _ _) ?_
                refine nb_Gr ?_
                refine nb_Wg (q_c_mayLet_9 _ _ _ _ _ _ (by omega)) ?_
                refine nb_Gb ?_
                refine nb_Wg (q_c_granted_0 _ _ _ _) ?_
                refine nb_Gt (by decide) ?_
                refine nb_Gr ?_
                refine nb_Wg (q_c_granted_2 _ _ _ _ _) ?_
                refine nb_Gr ?_
                refine nb_Wg (q_c_granted_3 _ _ _ _ _ _ (by omega)) ?_
                have W70 : nb_Lay (nb_wr (nb_wr M 2 15 0) 2 15 5) := W22.wr (fun w => (nb_nlit (by decide) (by decide)))
                refine nb_Gr ?_
                have E71 : nb_i2z 0 = 0 := by decide
                refine nb_Wg (q_c_granted_4 _ _ _ _) ?_
                simp only [E71]
                clear E71
                refine nb_Gs ?_
                show nb_W 48 10 [(19, 2), (0, l1), (0, l2)] [(0, 0)] (nb_wr (nb_wr M 2 15 0) 2 15 5) _
                refine nb_Wg (q_c_mayLet_10 _ _ _ _ _) ?_
                refine nb_Gt (by decide) ?_
                refine nb_Gr ?_
                refine nb_Wg (q_c_mayLet_17 _ _ _ _) ?_
                refine nb_Gr ?_
                have E72 : nb_i2z 0 = 0 := by decide
                refine nb_Wg (q_c_mayLet_18 _ _ _ _ _) ?_
                simp only [E72]
                clear E72
                refine nb_Gs ?_
                show nb_W 66 1 [(19, 2), (0, l1), (0, l2)] [(0, 0)] (nb_wr (nb_wr M 2 15 0) 2 15 5) _
                refine nb_Wg (q_c_lets_1 _ _ _ _ _) ?_
                refine nb_Gt (by decide) ?_
                refine nb_Gr ?_
                refine nb_Wg (q_c_lets_2 _ _ _ _) ?_
                refine nb_Gs ?_
                exact nb_Hu H W70
            · have H := nb_Hw ((nb_Hu H).2 (by omega))
              have c78 : M.1 (88 + l1) 8 ≠ 1 := by omega
              refine nb_Gr ?_
              refine nb_Wg (q_c_isWaiting_2 _ _ _) ?_
              refine nb_Gr ?_
              have E74 : nb_i2z 0 = 0 := by decide
              refine nb_Wg (q_c_isWaiting_3 _ _ _ _) ?_
              simp only [E74]
              clear E74
              refine nb_Gs ?_
              show nb_W 48 4 [(19, 2), (0, l1), (0, l2)] [(0, 0), (19, 2)] (nb_wr M 2 15 0) _
              refine nb_Wg (q_c_mayLet_4 _ _ _ _ _ _) ?_
              refine nb_Gt (by decide) ?_
              refine nb_Gr ?_
              refine nb_Wg (q_c_mayLet_8 _ _ _ _ _) ?_
              refine nb_Gr ?_
              refine nb_Wg (q_c_mayLet_9 _ _ _ _ _ _ (by omega)) ?_
              refine nb_Gb ?_
              refine nb_Wg (q_c_granted_0 _ _ _ _) ?_
              refine nb_Gt (by decide) ?_
              refine nb_Gr ?_
              refine nb_Wg (q_c_granted_2 _ _ _ _ _) ?_
              refine nb_Gr ?_
              refine nb_Wg (q_c_granted_3 _ _ _ _ _ _ (by omega)) ?_
              have W75 : nb_Lay (nb_wr (nb_wr M 2 15 0) 2 15 5) := W22.wr (fun w => (nb_nlit (by decide) (by decide)))
              refine nb_Gr ?_
              have E76 : nb_i2z 0 = 0 := by decide
              refine nb_Wg (q_c_granted_4 _ _ _ _) ?_
              simp only [E76]
              clear E76
              refine nb_Gs ?_
              show nb_W 48 10 [(19, 2), (0, l1), (0, l2)] [(0, 0)] (nb_wr (nb_wr M 2 15 0) 2 15 5) _
              refine nb_Wg (q_c_mayLet_10 _ _ _ _ _) ?_
              refine nb_Gt (by decide) ?_
              refine nb_Gr ?_
              refine nb_Wg (q_c_mayLet_17 _ _ _ _) ?_
              refine nb_Gr ?_
              have E77 : nb_i2z 0 = 0 := by decide
              refine nb_Wg (q_c_mayLet_18 _ _ _ _ _) ?_
              simp only [E77]
              clear E77
              refine nb_Gs ?_
              show nb_W 66 1 [(19, 2), (0, l1), (0, l2)] [(0, 0)] (nb_wr (nb_wr M 2 15 0) 2 15 5) _
              refine nb_Wg (q_c_lets_1 _ _ _ _ _) ?_
              refine nb_Gt (by decide) ?_
              refine nb_Gr ?_
              refine nb_Wg (q_c_lets_2 _ _ _ _) ?_
              refine nb_Gs ?_
              exact nb_Hu H W75
        · have H := nb_Hw ((nb_Hu H).2 (by omega))
          have c85 : M.1 Ho 13 ≤ l2 := by omega
          refine nb_Gr ?_
          refine nb_Wg (q_c_isPerson_3 _ _ _) ?_
          refine nb_Gr ?_
          have E80 : nb_i2z 0 = 0 := by decide
          refine nb_Wg (q_c_isPerson_4 _ _ _ _) ?_
          simp only [E80]
          clear E80
          refine nb_Gs ?_
          show nb_W 10 3 [(19, 2), (0, l1), (0, l2)] [(0, 0)] M _
          refine nb_Wg (q_c_areTwo_3 _ _ _ _ _) ?_
          refine nb_Gt (by decide) ?_
          refine nb_Gr ?_
          refine nb_Wg (q_c_areTwo_6 _ _ _ _) ?_
          refine nb_Gr ?_
          have E81 : nb_i2z 0 = 0 := by decide
          refine nb_Wg (q_c_areTwo_7 _ _ _ _ _) ?_
          simp only [E81]
          clear E81
          refine nb_Gs ?_
          show nb_W 48 1 [(19, 2), (0, l1), (0, l2)] [(0, 0), (19, 2)] M _
          refine nb_Wg (q_c_mayLet_1 _ _ _ _ _ _ (by omega)) ?_
          refine nb_Gb ?_
          refine nb_Wg (q_c_granted_0 _ _ _ _) ?_
          refine nb_Gt (by decide) ?_
          refine nb_Gr ?_
          refine nb_Wg (q_c_granted_2 _ _ _ _ _) ?_
          refine nb_Gr ?_
          refine nb_Wg (q_c_granted_3 _ _ _ _ _ _ (by omega)) ?_
          have W82 : nb_Lay (nb_wr M 2 15 1) := W.wr (fun w => (nb_nlit (by decide) (by decide)))
          refine nb_Gr ?_
          have E83 : nb_i2z 0 = 0 := by decide
          refine nb_Wg (q_c_granted_4 _ _ _ _) ?_
          simp only [E83]
          clear E83
          refine nb_Gs ?_
          show nb_W 48 2 [(19, 2), (0, l1), (0, l2)] [(0, 0)] (nb_wr M 2 15 1) _
          refine nb_Wg (q_c_mayLet_2 _ _ _ _ _) ?_
          refine nb_Gt (by decide) ?_
          refine nb_Gr ?_
          refine nb_Wg (q_c_mayLet_17 _ _ _ _) ?_
          refine nb_Gr ?_
          have E84 : nb_i2z 0 = 0 := by decide
          refine nb_Wg (q_c_mayLet_18 _ _ _ _ _) ?_
          simp only [E84]
          clear E84
          refine nb_Gs ?_
          show nb_W 66 1 [(19, 2), (0, l1), (0, l2)] [(0, 0)] (nb_wr M 2 15 1) _
          refine nb_Wg (q_c_lets_1 _ _ _ _ _) ?_
          refine nb_Gt (by decide) ?_
          refine nb_Gr ?_
          refine nb_Wg (q_c_lets_2 _ _ _ _) ?_
          refine nb_Gs ?_
          exact nb_Hu H W82
    · have H := nb_Hw ((nb_Hu H).2 (by omega))
      have c92 : M.1 Ho 13 ≤ l1 := by omega
      refine nb_Gr ?_
      refine nb_Wg (q_c_isPerson_3 _ _ _) ?_
      refine nb_Gr ?_
      have E87 : nb_i2z 0 = 0 := by decide
      refine nb_Wg (q_c_isPerson_4 _ _ _ _) ?_
      simp only [E87]
      clear E87
      refine nb_Gs ?_
      show nb_W 10 1 [(19, 2), (0, l1), (0, l2)] [(0, 0)] M _
      refine nb_Wg (q_c_areTwo_1 _ _ _ _ _) ?_
      refine nb_Gt (by decide) ?_
      refine nb_Gr ?_
      refine nb_Wg (q_c_areTwo_6 _ _ _ _) ?_
      refine nb_Gr ?_
      have E88 : nb_i2z 0 = 0 := by decide
      refine nb_Wg (q_c_areTwo_7 _ _ _ _ _) ?_
      simp only [E88]
      clear E88
      refine nb_Gs ?_
      show nb_W 48 1 [(19, 2), (0, l1), (0, l2)] [(0, 0), (19, 2)] M _
      refine nb_Wg (q_c_mayLet_1 _ _ _ _ _ _ (by omega)) ?_
      refine nb_Gb ?_
      refine nb_Wg (q_c_granted_0 _ _ _ _) ?_
      refine nb_Gt (by decide) ?_
      refine nb_Gr ?_
      refine nb_Wg (q_c_granted_2 _ _ _ _ _) ?_
      refine nb_Gr ?_
      refine nb_Wg (q_c_granted_3 _ _ _ _ _ _ (by omega)) ?_
      have W89 : nb_Lay (nb_wr M 2 15 1) := W.wr (fun w => (nb_nlit (by decide) (by decide)))
      refine nb_Gr ?_
      have E90 : nb_i2z 0 = 0 := by decide
      refine nb_Wg (q_c_granted_4 _ _ _ _) ?_
      simp only [E90]
      clear E90
      refine nb_Gs ?_
      show nb_W 48 2 [(19, 2), (0, l1), (0, l2)] [(0, 0)] (nb_wr M 2 15 1) _
      refine nb_Wg (q_c_mayLet_2 _ _ _ _ _) ?_
      refine nb_Gt (by decide) ?_
      refine nb_Gr ?_
      refine nb_Wg (q_c_mayLet_17 _ _ _ _) ?_
      refine nb_Gr ?_
      have E91 : nb_i2z 0 = 0 := by decide
      refine nb_Wg (q_c_mayLet_18 _ _ _ _ _) ?_
      simp only [E91]
      clear E91
      refine nb_Gs ?_
      show nb_W 66 1 [(19, 2), (0, l1), (0, l2)] [(0, 0)] (nb_wr M 2 15 1) _
      refine nb_Wg (q_c_lets_1 _ _ _ _ _) ?_
      refine nb_Gt (by decide) ?_
      refine nb_Gr ?_
      refine nb_Wg (q_c_lets_2 _ _ _ _) ?_
      refine nb_Gs ?_
      exact nb_Hu H W89

theorem w_c_calls_0 {l1 Ho : Int} {v2 : nb_V} {M : nb_M} {Q : List nb_V → nb_M → Prop} (W : nb_Lay M) (hHo : nb_hs Ho) (hx2 : M.1 2 2 = Ho) (H : (l1 < 0 → (nb_Lay (nb_wr M 2 15 1) → Q [(0, (-1))] (nb_wr M 2 15 1))) ∧ (0 ≤ l1 → 0 ≤ M.1 Ho 13 ∧ M.1 Ho 13 ≤ 10 ∧ (l1 < M.1 Ho 13 → (M.1 (88 + l1) 8 = 1 → nb_W 63 0 [(19, 2)] [] (nb_wr (nb_wr M 2 15 0) 2 15 0) (fun r M20 => r = [] ∧ nb_Lay M20 ∧ M20.1 2 2 = Ho ∧ l1 < 10 ∧ -2147483648 ≤ M20.1 (88 + l1) 5 + 5 ∧ M20.1 (88 + l1) 5 + 5 ≤ 2147483647 ∧ (nb_Lay (nb_wr M20 (88 + l1) 5 (if M20.1 (88 + l1) 5 + 5 < 99 then M20.1 (88 + l1) 5 + 5 else 99)) → Q [(0, if M20.1 (88 + l1) 5 + 5 < 99 then M20.1 (88 + l1) 5 + 5 else 99)] (nb_wr M20 (88 + l1) 5 (if M20.1 (88 + l1) 5 + 5 < 99 then M20.1 (88 + l1) 5 + 5 else 99))))) ∧ (M.1 (88 + l1) 8 ≠ 1 → (nb_Lay (nb_wr (nb_wr M 2 15 0) 2 15 5) → Q [(0, (-1))] (nb_wr (nb_wr M 2 15 0) 2 15 5)))) ∧ (M.1 Ho 13 ≤ l1 → (nb_Lay (nb_wr M 2 15 1) → Q [(0, (-1))] (nb_wr M 2 15 1))))) :
    nb_W 67 0 [(19, 2), (0, l1), v2] [] M Q := by
  replace H := nb_Hw H
  have uhHo := hHo
  unfold nb_hs at uhHo
  refine nb_Wg (q_c_calls_0 _ _ _ _ (by omega)) ?_
  refine nb_Gb ?_
  refine nb_Wg (q_c_isPersonWaiting_0 _ _ _ (by omega)) ?_
  refine nb_Gb ?_
  refine nb_Wg (q_c_isPerson_0 _ _ _) ?_
  refine nb_Gi (fun c41 => ?_) (fun c41 => ?_)
  · have H := nb_Hw ((nb_Hu H).1 c41)
    refine nb_Gr ?_
    refine nb_Wg (q_c_isPerson_3 _ _ _) ?_
    refine nb_Gr ?_
    have E1 : nb_i2z 0 = 0 := by decide
    refine nb_Wg (q_c_isPerson_4 _ _ _ _) ?_
    simp only [E1]
    clear E1
    refine nb_Gs ?_
    show nb_W 69 1 [(19, 2), (0, l1)] [(0, 0), (19, 2)] M _
    refine nb_Wg (q_c_isPersonWaiting_1 _ _ _ _ _ (by omega)) ?_
    refine nb_Gb ?_
    refine nb_Wg (q_c_granted_0 _ _ _ _) ?_
    refine nb_Gt (by decide) ?_
    refine nb_Gr ?_
    refine nb_Wg (q_c_granted_2 _ _ _ _ _) ?_
    refine nb_Gr ?_
    refine nb_Wg (q_c_granted_3 _ _ _ _ _ _ (by omega)) ?_
    have W2 : nb_Lay (nb_wr M 2 15 1) := W.wr (fun w => (nb_nlit (by decide) (by decide)))
    refine nb_Gr ?_
    have E3 : nb_i2z 0 = 0 := by decide
    refine nb_Wg (q_c_granted_4 _ _ _ _) ?_
    simp only [E3]
    clear E3
    refine nb_Gs ?_
    show nb_W 69 2 [(19, 2), (0, l1)] [(0, 0)] (nb_wr M 2 15 1) _
    refine nb_Wg (q_c_isPersonWaiting_2 _ _ _ _) ?_
    refine nb_Gt (by decide) ?_
    refine nb_Gr ?_
    refine nb_Wg (q_c_isPersonWaiting_7 _ _ _) ?_
    refine nb_Gr ?_
    have E4 : nb_i2z 0 = 0 := by decide
    refine nb_Wg (q_c_isPersonWaiting_8 _ _ _ _) ?_
    simp only [E4]
    clear E4
    refine nb_Gs ?_
    show nb_W 67 1 [(19, 2), (0, l1), v2] [(0, 0)] (nb_wr M 2 15 1) _
    refine nb_Wg (q_c_calls_1 _ _ _ _ _) ?_
    refine nb_Gt (by decide) ?_
    refine nb_Gr ?_
    refine nb_Wg (q_c_calls_2 _ _ _ _) ?_
    refine nb_Gs ?_
    exact nb_Hu H W2
  · have H := nb_Hw ((nb_Hu H).2 (by omega))
    have c41 : 0 ≤ l1 := by omega
    refine nb_Gr ?_
    obtain ⟨p0_, p1_, H⟩ := H
    replace H := nb_Hw H
    have E5 : nb_rd M 2 2 = Ho := hx2
    have E6 : nb_rd M Ho 13 = M.1 Ho 13 := nb_rd_1 _ _ _
    refine nb_Wg (q_c_isPerson_1 _ _ _ (by omega) (by rw [E5]; first | done | omega)) ?_
    simp only [E5, E6]
    clear E5 E6
    refine nb_Gi (fun c40 => ?_) (fun c40 => ?_)
    · have H := nb_Hw ((nb_Hu H).1 c40)
      refine nb_Gr ?_
      refine nb_Wg (q_c_isPerson_2 _ _ _) ?_
      refine nb_Gr ?_
      have E7 : nb_i2z 1 = 1 := by decide
      refine nb_Wg (q_c_isPerson_4 _ _ _ _) ?_
      simp only [E7]
      clear E7
      refine nb_Gs ?_
      show nb_W 69 1 [(19, 2), (0, l1)] [(0, 1), (19, 2)] M _
      refine nb_Wg (q_c_isPersonWaiting_1 _ _ _ _ _ (by omega)) ?_
      refine nb_Gb ?_
      refine nb_Wg (q_c_granted_0 _ _ _ _) ?_
      refine nb_Gf (by decide) ?_
      refine nb_Gr ?_
      refine nb_Wg (q_c_granted_1 _ _ _ _ _) ?_
      refine nb_Gr ?_
      refine nb_Wg (q_c_granted_3 _ _ _ _ _ _ (by omega)) ?_
      have W8 : nb_Lay (nb_wr M 2 15 0) := W.wr (fun w => (nb_nlit (by decide) (by decide)))
      refine nb_Gr ?_
      have E9 : nb_i2z 1 = 1 := by decide
      refine nb_Wg (q_c_granted_4 _ _ _ _) ?_
      simp only [E9]
      clear E9
      refine nb_Gs ?_
      show nb_W 69 2 [(19, 2), (0, l1)] [(0, 1)] (nb_wr M 2 15 0) _
      refine nb_Wg (q_c_isPersonWaiting_2 _ _ _ _) ?_
      refine nb_Gf (by decide) ?_
      refine nb_Gr ?_
      refine nb_Wg (q_c_isPersonWaiting_3 _ _ _ (by omega)) ?_
      refine nb_Gb ?_
      have E10 : nb_rd (nb_wr M 2 15 0) 2 5 = 84 := W8.c5
      have E11 : nb_rd (nb_wr M 2 15 0) 84 0 = 85 := W8.s0 (A := 84) nb_sc84
      have N12 : nb_ln (nb_wr M 2 15 0) 85 = 10 := W8.sn1 (A := 84) nb_sc84
      have E13 : nb_rd (nb_wr M 2 15 0) 85 l1 = 88 + l1 := W8.sg (A := 84) (i := l1) nb_sc84 (by omega) (by omega)
      have E14 : nb_rd (nb_wr M 2 15 0) (88 + l1) 8 = M.1 (88 + l1) 8 := nb_rdw (Or.inr (by decide)) (nb_rd_1 _ _ _)
      refine nb_Wg (q_c_isWaiting_0 _ _ _ (by omega) (by rw [E10]; first | done | omega) (by rw [E10, E11]; first | done | omega) (by omega) (by rw [E10, E11, N12]; first | done | omega) (by rw [E10, E11, E13]; first | done | omega)) ?_
      simp only [E10, E11, E13, E14]
      clear E10 E11 N12 E13 E14
      refine nb_Gi (fun c35 => ?_) (fun c35 => ?_)
      · have H := nb_Hw ((nb_Hu H).1 c35)
        refine nb_Gr ?_
        refine nb_Wg (q_c_isWaiting_1 _ _ _) ?_
        refine nb_Gr ?_
        have E15 : nb_i2z 1 = 1 := by decide
        refine nb_Wg (q_c_isWaiting_3 _ _ _ _) ?_
        simp only [E15]
        clear E15
        refine nb_Gs ?_
        show nb_W 69 4 [(19, 2), (0, l1)] [(0, 1), (19, 2)] (nb_wr M 2 15 0) _
        refine nb_Wg (q_c_isPersonWaiting_4 _ _ _ _ _ (by omega)) ?_
        refine nb_Gb ?_
        refine nb_Wg (q_c_granted_0 _ _ _ _) ?_
        refine nb_Gf (by decide) ?_
        refine nb_Gr ?_
        refine nb_Wg (q_c_granted_1 _ _ _ _ _) ?_
        refine nb_Gr ?_
        refine nb_Wg (q_c_granted_3 _ _ _ _ _ _ (by omega)) ?_
        have W16 : nb_Lay (nb_wr (nb_wr M 2 15 0) 2 15 0) := W8.wr (fun w => (nb_nlit (by decide) (by decide)))
        refine nb_Gr ?_
        have E17 : nb_i2z 1 = 1 := by decide
        refine nb_Wg (q_c_granted_4 _ _ _ _) ?_
        simp only [E17]
        clear E17
        refine nb_Gs ?_
        show nb_W 69 5 [(19, 2), (0, l1)] [(0, 1)] (nb_wr (nb_wr M 2 15 0) 2 15 0) _
        refine nb_Wg (q_c_isPersonWaiting_5 _ _ _ _) ?_
        refine nb_Gf (by decide) ?_
        refine nb_Gr ?_
        refine nb_Wg (q_c_isPersonWaiting_6 _ _ _) ?_
        refine nb_Gr ?_
        have E18 : nb_i2z 1 = 1 := by decide
        refine nb_Wg (q_c_isPersonWaiting_8 _ _ _ _) ?_
        simp only [E18]
        clear E18
        refine nb_Gs ?_
        show nb_W 67 1 [(19, 2), (0, l1), v2] [(0, 1)] (nb_wr (nb_wr M 2 15 0) 2 15 0) _
        refine nb_Wg (q_c_calls_1 _ _ _ _ _) ?_
        refine nb_Gf (by decide) ?_
        refine nb_Gr ?_
        refine nb_Wg (q_c_calls_3 _ _ _ _ (by omega)) ?_
        refine nb_Gb ?_
        refine nb_W.imp (nb_Hu H) (fun r M20 H => ?_)
        obtain ⟨rfl, W21, g22, H⟩ := H
        replace H := nb_Hw H
        show nb_W 67 4 [(19, 2), (0, l1), v2] [] M20 _
        obtain ⟨p0_, p1_, p2_, H⟩ := H
        replace H := nb_Hw H
        have E23 : nb_rd M20 2 5 = 84 := W21.c5
        have E24 : nb_rd M20 84 0 = 85 := W21.s0 (A := 84) nb_sc84
        have N25 : nb_ln M20 85 = 10 := W21.sn1 (A := 84) nb_sc84
        have E26 : nb_rd M20 85 l1 = 88 + l1 := W21.sg (A := 84) (i := l1) nb_sc84 (by omega) (by omega)
        have E27 : nb_rd M20 (88 + l1) 5 = M20.1 (88 + l1) 5 := nb_rd_1 _ _ _
        have E28 : nb_add (M20.1 (88 + l1) 5) 5 = M20.1 (88 + l1) 5 + 5 := nb_add_eq (by omega) (by omega)
        refine nb_Wg (q_c_calls_4 _ _ _ _ (by omega) (by rw [E23]; first | done | omega) (by rw [E23, E24]; first | done | omega) (by omega) (by rw [E23, E24, N25]; first | done | omega) (by rw [E23, E24, E26]; first | done | omega)) ?_
        simp only [E23, E24, E26, E27, E28]
        clear E23 E24 N25 E26 E27 E28
        refine nb_Gp ?_
        show nb_W 67 5 [(19, 2), (0, l1), (11, 88 + l1)] [(0, if M20.1 (88 + l1) 5 + 5 < 99 then M20.1 (88 + l1) 5 + 5 else 99), (11, 88 + l1)] M20 _
        refine nb_Wg (q_c_calls_5 _ _ _ _ _ _ (by omega)) ?_
        have W29 : nb_Lay (nb_wr M20 (88 + l1) 5 (if M20.1 (88 + l1) 5 + 5 < 99 then M20.1 (88 + l1) 5 + 5 else 99)) := W21.wr (fun w => (nb_nsg (A := 84) (i := l1) nb_sc84 (by omega) (by omega)))
        refine nb_Gr ?_
        have E30 : nb_rd (nb_wr M20 (88 + l1) 5 (if M20.1 (88 + l1) 5 + 5 < 99 then M20.1 (88 + l1) 5 + 5 else 99)) (88 + l1) 5 = if M20.1 (88 + l1) 5 + 5 < 99 then M20.1 (88 + l1) 5 + 5 else 99 := nb_rd_same _ _ _ _
        refine nb_Wg (q_c_calls_6 _ _ _ _ (by omega)) ?_
        simp only [E30]
        clear E30
        refine nb_Gs ?_
        exact nb_Hu H W29
      · have H := nb_Hw ((nb_Hu H).2 (by omega))
        have c35 : M.1 (88 + l1) 8 ≠ 1 := by omega
        refine nb_Gr ?_
        refine nb_Wg (q_c_isWaiting_2 _ _ _) ?_
        refine nb_Gr ?_
        have E31 : nb_i2z 0 = 0 := by decide
        refine nb_Wg (q_c_isWaiting_3 _ _ _ _) ?_
        simp only [E31]
        clear E31
        refine nb_Gs ?_
        show nb_W 69 4 [(19, 2), (0, l1)] [(0, 0), (19, 2)] (nb_wr M 2 15 0) _
        refine nb_Wg (q_c_isPersonWaiting_4 _ _ _ _ _ (by omega)) ?_
        refine nb_Gb ?_
        refine nb_Wg (q_c_granted_0 _ _ _ _) ?_
        refine nb_Gt (by decide) ?_
        refine nb_Gr ?_
        refine nb_Wg (q_c_granted_2 _ _ _ _ _) ?_
        refine nb_Gr ?_
        refine nb_Wg (q_c_granted_3 _ _ _ _ _ _ (by omega)) ?_
        have W32 : nb_Lay (nb_wr (nb_wr M 2 15 0) 2 15 5) := W8.wr (fun w => (nb_nlit (by decide) (by decide)))
        refine nb_Gr ?_
        have E33 : nb_i2z 0 = 0 := by decide
        refine nb_Wg (q_c_granted_4 _ _ _ _) ?_
        simp only [E33]
        clear E33
        refine nb_Gs ?_
        show nb_W 69 5 [(19, 2), (0, l1)] [(0, 0)] (nb_wr (nb_wr M 2 15 0) 2 15 5) _
        refine nb_Wg (q_c_isPersonWaiting_5 _ _ _ _) ?_
        refine nb_Gt (by decide) ?_
        refine nb_Gr ?_
        refine nb_Wg (q_c_isPersonWaiting_7 _ _ _) ?_
        refine nb_Gr ?_
        have E34 : nb_i2z 0 = 0 := by decide
        refine nb_Wg (q_c_isPersonWaiting_8 _ _ _ _) ?_
        simp only [E34]
        clear E34
        refine nb_Gs ?_
        show nb_W 67 1 [(19, 2), (0, l1), v2] [(0, 0)] (nb_wr (nb_wr M 2 15 0) 2 15 5) _
        refine nb_Wg (q_c_calls_1 _ _ _ _ _) ?_
        refine nb_Gt (by decide) ?_
        refine nb_Gr ?_
        refine nb_Wg (q_c_calls_2 _ _ _ _) ?_
        refine nb_Gs ?_
        exact nb_Hu H W32
    · have H := nb_Hw ((nb_Hu H).2 (by omega))
      have c40 : M.1 Ho 13 ≤ l1 := by omega
      refine nb_Gr ?_
      refine nb_Wg (q_c_isPerson_3 _ _ _) ?_
      refine nb_Gr ?_
      have E36 : nb_i2z 0 = 0 := by decide
      refine nb_Wg (q_c_isPerson_4 _ _ _ _) ?_
      simp only [E36]
      clear E36
      refine nb_Gs ?_
      show nb_W 69 1 [(19, 2), (0, l1)] [(0, 0), (19, 2)] M _
      refine nb_Wg (q_c_isPersonWaiting_1 _ _ _ _ _ (by omega)) ?_
      refine nb_Gb ?_
      refine nb_Wg (q_c_granted_0 _ _ _ _) ?_
      refine nb_Gt (by decide) ?_
      refine nb_Gr ?_
      refine nb_Wg (q_c_granted_2 _ _ _ _ _) ?_
      refine nb_Gr ?_
      refine nb_Wg (q_c_granted_3 _ _ _ _ _ _ (by omega)) ?_
      have W37 : nb_Lay (nb_wr M 2 15 1) := W.wr (fun w => (nb_nlit (by decide) (by decide)))
      refine nb_Gr ?_
      have E38 : nb_i2z 0 = 0 := by decide
      refine nb_Wg (q_c_granted_4 _ _ _ _) ?_
      simp only [E38]
      clear E38
      refine nb_Gs ?_
      show nb_W 69 2 [(19, 2), (0, l1)] [(0, 0)] (nb_wr M 2 15 1) _
      refine nb_Wg (q_c_isPersonWaiting_2 _ _ _ _) ?_
      refine nb_Gt (by decide) ?_
      refine nb_Gr ?_
      refine nb_Wg (q_c_isPersonWaiting_7 _ _ _) ?_
      refine nb_Gr ?_
      have E39 : nb_i2z 0 = 0 := by decide
      refine nb_Wg (q_c_isPersonWaiting_8 _ _ _ _) ?_
      simp only [E39]
      clear E39
      refine nb_Gs ?_
      show nb_W 67 1 [(19, 2), (0, l1), v2] [(0, 0)] (nb_wr M 2 15 1) _
      refine nb_Wg (q_c_calls_1 _ _ _ _ _) ?_
      refine nb_Gt (by decide) ?_
      refine nb_Gr ?_
      refine nb_Wg (q_c_calls_2 _ _ _ _) ?_
      refine nb_Gs ?_
      exact nb_Hu H W37

theorem w_c_leaves_0 {l1 Ho : Int} {M : nb_M} {Q : List nb_V → nb_M → Prop} (W : nb_Lay M) (hHo : nb_hs Ho) (hx2 : M.1 2 2 = Ho) (H : (l1 < 0 → (nb_Lay (nb_wr M 2 15 1) → Q [(0, 0)] (nb_wr M 2 15 1))) ∧ (0 ≤ l1 → 0 ≤ M.1 Ho 13 ∧ M.1 Ho 13 ≤ 10 ∧ (l1 < M.1 Ho 13 → (M.1 (88 + l1) 8 = 1 → nb_W 63 0 [(19, 2)] [] (nb_wr (nb_wr M 2 15 0) 2 15 0) (fun r M20 => r = [] ∧ nb_Lay M20 ∧ M20.1 2 2 = Ho ∧ l1 < 10 ∧ (nb_Lay (nb_wr M20 (88 + l1) 8 5) → Q [(0, 1)] (nb_wr M20 (88 + l1) 8 5)))) ∧ (M.1 (88 + l1) 8 ≠ 1 → (nb_Lay (nb_wr (nb_wr M 2 15 0) 2 15 5) → Q [(0, 0)] (nb_wr (nb_wr M 2 15 0) 2 15 5)))) ∧ (M.1 Ho 13 ≤ l1 → (nb_Lay (nb_wr M 2 15 1) → Q [(0, 0)] (nb_wr M 2 15 1))))) :
    nb_W 68 0 [(19, 2), (0, l1)] [] M Q := by
  replace H := nb_Hw H
  have uhHo := hHo
  unfold nb_hs at uhHo
  refine nb_Wg (q_c_leaves_0 _ _ _ (by omega)) ?_
  refine nb_Gb ?_
  refine nb_Wg (q_c_isPersonWaiting_0 _ _ _ (by omega)) ?_
  refine nb_Gb ?_
  refine nb_Wg (q_c_isPerson_0 _ _ _) ?_
  refine nb_Gi (fun c38 => ?_) (fun c38 => ?_)
  · have H := nb_Hw ((nb_Hu H).1 c38)
    refine nb_Gr ?_
    refine nb_Wg (q_c_isPerson_3 _ _ _) ?_
    refine nb_Gr ?_
    have E1 : nb_i2z 0 = 0 := by decide
    refine nb_Wg (q_c_isPerson_4 _ _ _ _) ?_
    simp only [E1]
    clear E1
    refine nb_Gs ?_
    show nb_W 69 1 [(19, 2), (0, l1)] [(0, 0), (19, 2)] M _
    refine nb_Wg (q_c_isPersonWaiting_1 _ _ _ _ _ (by omega)) ?_
    refine nb_Gb ?_
    refine nb_Wg (q_c_granted_0 _ _ _ _) ?_
    refine nb_Gt (by decide) ?_
    refine nb_Gr ?_
    refine nb_Wg (q_c_granted_2 _ _ _ _ _) ?_
    refine nb_Gr ?_
    refine nb_Wg (q_c_granted_3 _ _ _ _ _ _ (by omega)) ?_
    have W2 : nb_Lay (nb_wr M 2 15 1) := W.wr (fun w => (nb_nlit (by decide) (by decide)))
    refine nb_Gr ?_
    have E3 : nb_i2z 0 = 0 := by decide
    refine nb_Wg (q_c_granted_4 _ _ _ _) ?_
    simp only [E3]
    clear E3
    refine nb_Gs ?_
    show nb_W 69 2 [(19, 2), (0, l1)] [(0, 0)] (nb_wr M 2 15 1) _
    refine nb_Wg (q_c_isPersonWaiting_2 _ _ _ _) ?_
    refine nb_Gt (by decide) ?_
    refine nb_Gr ?_
    refine nb_Wg (q_c_isPersonWaiting_7 _ _ _) ?_
    refine nb_Gr ?_
    have E4 : nb_i2z 0 = 0 := by decide
    refine nb_Wg (q_c_isPersonWaiting_8 _ _ _ _) ?_
    simp only [E4]
    clear E4
    refine nb_Gs ?_
    show nb_W 68 1 [(19, 2), (0, l1)] [(0, 0)] (nb_wr M 2 15 1) _
    refine nb_Wg (q_c_leaves_1 _ _ _ _) ?_
    refine nb_Gt (by decide) ?_
    refine nb_Gr ?_
    refine nb_Wg (q_c_leaves_2 _ _ _) ?_
    refine nb_Gs ?_
    exact nb_Hu H W2
  · have H := nb_Hw ((nb_Hu H).2 (by omega))
    have c38 : 0 ≤ l1 := by omega
    refine nb_Gr ?_
    obtain ⟨p0_, p1_, H⟩ := H
    replace H := nb_Hw H
    have E5 : nb_rd M 2 2 = Ho := hx2
    have E6 : nb_rd M Ho 13 = M.1 Ho 13 := nb_rd_1 _ _ _
    refine nb_Wg (q_c_isPerson_1 _ _ _ (by omega) (by rw [E5]; first | done | omega)) ?_
    simp only [E5, E6]
    clear E5 E6
    refine nb_Gi (fun c37 => ?_) (fun c37 => ?_)
    · have H := nb_Hw ((nb_Hu H).1 c37)
      refine nb_Gr ?_
      refine nb_Wg (q_c_isPerson_2 _ _ _) ?_
      refine nb_Gr ?_
      have E7 : nb_i2z 1 = 1 := by decide
      refine nb_Wg (q_c_isPerson_4 _ _ _ _) ?_
      simp only [E7]
      clear E7
      refine nb_Gs ?_
      show nb_W 69 1 [(19, 2), (0, l1)] [(0, 1), (19, 2)] M _
      refine nb_Wg (q_c_isPersonWaiting_1 _ _ _ _ _ (by omega)) ?_
      refine nb_Gb ?_
      refine nb_Wg (q_c_granted_0 _ _ _ _) ?_
      refine nb_Gf (by decide) ?_
      refine nb_Gr ?_
      refine nb_Wg (q_c_granted_1 _ _ _ _ _) ?_
      refine nb_Gr ?_
      refine nb_Wg (q_c_granted_3 _ _ _ _ _ _ (by omega)) ?_
      have W8 : nb_Lay (nb_wr M 2 15 0) := W.wr (fun w => (nb_nlit (by decide) (by decide)))
      refine nb_Gr ?_
      have E9 : nb_i2z 1 = 1 := by decide
      refine nb_Wg (q_c_granted_4 _ _ _ _) ?_
      simp only [E9]
      clear E9
      refine nb_Gs ?_
      show nb_W 69 2 [(19, 2), (0, l1)] [(0, 1)] (nb_wr M 2 15 0) _
      refine nb_Wg (q_c_isPersonWaiting_2 _ _ _ _) ?_
      refine nb_Gf (by decide) ?_
      refine nb_Gr ?_
      refine nb_Wg (q_c_isPersonWaiting_3 _ _ _ (by omega)) ?_
      refine nb_Gb ?_
      have E10 : nb_rd (nb_wr M 2 15 0) 2 5 = 84 := W8.c5
      have E11 : nb_rd (nb_wr M 2 15 0) 84 0 = 85 := W8.s0 (A := 84) nb_sc84
      have N12 : nb_ln (nb_wr M 2 15 0) 85 = 10 := W8.sn1 (A := 84) nb_sc84
      have E13 : nb_rd (nb_wr M 2 15 0) 85 l1 = 88 + l1 := W8.sg (A := 84) (i := l1) nb_sc84 (by omega) (by omega)
      have E14 : nb_rd (nb_wr M 2 15 0) (88 + l1) 8 = M.1 (88 + l1) 8 := nb_rdw (Or.inr (by decide)) (nb_rd_1 _ _ _)
      refine nb_Wg (q_c_isWaiting_0 _ _ _ (by omega) (by rw [E10]; first | done | omega) (by rw [E10, E11]; first | done | omega) (by omega) (by rw [E10, E11, N12]; first | done | omega) (by rw [E10, E11, E13]; first | done | omega)) ?_
      simp only [E10, E11, E13, E14]
      clear E10 E11 N12 E13 E14
      refine nb_Gi (fun c32 => ?_) (fun c32 => ?_)
      · have H := nb_Hw ((nb_Hu H).1 c32)
        refine nb_Gr ?_
        refine nb_Wg (q_c_isWaiting_1 _ _ _) ?_
        refine nb_Gr ?_
        have E15 : nb_i2z 1 = 1 := by decide
        refine nb_Wg (q_c_isWaiting_3 _ _ _ _) ?_
        simp only [E15]
        clear E15
        refine nb_Gs ?_
        show nb_W 69 4 [(19, 2), (0, l1)] [(0, 1), (19, 2)] (nb_wr M 2 15 0) _
        refine nb_Wg (q_c_isPersonWaiting_4 _ _ _ _ _ (by omega)) ?_
        refine nb_Gb ?_
        refine nb_Wg (q_c_granted_0 _ _ _ _) ?_
        refine nb_Gf (by decide) ?_
        refine nb_Gr ?_
        refine nb_Wg (q_c_granted_1 _ _ _ _ _) ?_
        refine nb_Gr ?_
        refine nb_Wg (q_c_granted_3 _ _ _ _ _ _ (by omega)) ?_
        have W16 : nb_Lay (nb_wr (nb_wr M 2 15 0) 2 15 0) := W8.wr (fun w => (nb_nlit (by decide) (by decide)))
        refine nb_Gr ?_
        have E17 : nb_i2z 1 = 1 := by decide
        refine nb_Wg (q_c_granted_4 _ _ _ _) ?_
        simp only [E17]
        clear E17
        refine nb_Gs ?_
        show nb_W 69 5 [(19, 2), (0, l1)] [(0, 1)] (nb_wr (nb_wr M 2 15 0) 2 15 0) _
        refine nb_Wg (q_c_isPersonWaiting_5 _ _ _ _) ?_
        refine nb_Gf (by decide) ?_
        refine nb_Gr ?_
        refine nb_Wg (q_c_isPersonWaiting_6 _ _ _) ?_
        refine nb_Gr ?_
        have E18 : nb_i2z 1 = 1 := by decide
        refine nb_Wg (q_c_isPersonWaiting_8 _ _ _ _) ?_
        simp only [E18]
        clear E18
        refine nb_Gs ?_
        show nb_W 68 1 [(19, 2), (0, l1)] [(0, 1)] (nb_wr (nb_wr M 2 15 0) 2 15 0) _
        refine nb_Wg (q_c_leaves_1 _ _ _ _) ?_
        refine nb_Gf (by decide) ?_
        refine nb_Gr ?_
        refine nb_Wg (q_c_leaves_3 _ _ _ (by omega)) ?_
        refine nb_Gb ?_
        refine nb_W.imp (nb_Hu H) (fun r M20 H => ?_)
        obtain ⟨rfl, W21, g22, H⟩ := H
        replace H := nb_Hw H
        show nb_W 68 4 [(19, 2), (0, l1)] [] M20 _
        obtain ⟨p0_, H⟩ := H
        replace H := nb_Hw H
        have E23 : nb_rd M20 2 5 = 84 := W21.c5
        have E24 : nb_rd M20 84 0 = 85 := W21.s0 (A := 84) nb_sc84
        have N25 : nb_ln M20 85 = 10 := W21.sn1 (A := 84) nb_sc84
        have E26 : nb_rd M20 85 l1 = 88 + l1 := W21.sg (A := 84) (i := l1) nb_sc84 (by omega) (by omega)
        refine nb_Wg (q_c_leaves_4 _ _ _ (by omega) (by rw [E23]; first | done | omega) (by rw [E23, E24]; first | done | omega) (by omega) (by rw [E23, E24, N25]; first | done | omega) (by rw [E23, E24, E26]; first | done | omega)) ?_
        simp only [E23, E24, E26]
        clear E23 E24 N25 E26
        have W27 : nb_Lay (nb_wr M20 (88 + l1) 8 5) := W21.wr (fun w => (nb_nsg (A := 84) (i := l1) nb_sc84 (by omega) (by omega)))
        refine nb_Gr ?_
        refine nb_Wg (q_c_leaves_5 _ _ _) ?_
        refine nb_Gs ?_
        exact nb_Hu H W27
      · have H := nb_Hw ((nb_Hu H).2 (by omega))
        have c32 : M.1 (88 + l1) 8 ≠ 1 := by omega
        refine nb_Gr ?_
        refine nb_Wg (q_c_isWaiting_2 _ _ _) ?_
        refine nb_Gr ?_
        have E28 : nb_i2z 0 = 0 := by decide
        refine nb_Wg (q_c_isWaiting_3 _ _ _ _) ?_
        simp only [E28]
        clear E28
        refine nb_Gs ?_
        show nb_W 69 4 [(19, 2), (0, l1)] [(0, 0), (19, 2)] (nb_wr M 2 15 0) _
        refine nb_Wg (q_c_isPersonWaiting_4 _ _ _ _ _ (by omega)) ?_
        refine nb_Gb ?_
        refine nb_Wg (q_c_granted_0 _ _ _ _) ?_
        refine nb_Gt (by decide) ?_
        refine nb_Gr ?_
        refine nb_Wg (q_c_granted_2 _ _ _ _ _) ?_
        refine nb_Gr ?_
        refine nb_Wg (q_c_granted_3 _ _ _ _ _ _ (by omega)) ?_
        have W29 : nb_Lay (nb_wr (nb_wr M 2 15 0) 2 15 5) := W8.wr (fun w => (nb_nlit (by decide) (by decide)))
        refine nb_Gr ?_
        have E30 : nb_i2z 0 = 0 := by decide
        refine nb_Wg (q_c_granted_4 _ _ _ _) ?_
        simp only [E30]
        clear E30
        refine nb_Gs ?_
        show nb_W 69 5 [(19, 2), (0, l1)] [(0, 0)] (nb_wr (nb_wr M 2 15 0) 2 15 5) _
        refine nb_Wg (q_c_isPersonWaiting_5 _ _ _ _) ?_
        refine nb_Gt (by decide) ?_
        refine nb_Gr ?_
        refine nb_Wg (q_c_isPersonWaiting_7 _ _ _) ?_
        refine nb_Gr ?_
        have E31 : nb_i2z 0 = 0 := by decide
        refine nb_Wg (q_c_isPersonWaiting_8 _ _ _ _) ?_
        simp only [E31]
        clear E31
        refine nb_Gs ?_
        show nb_W 68 1 [(19, 2), (0, l1)] [(0, 0)] (nb_wr (nb_wr M 2 15 0) 2 15 5) _
        refine nb_Wg (q_c_leaves_1 _ _ _ _) ?_
        refine nb_Gt (by decide) ?_
        refine nb_Gr ?_
        refine nb_Wg (q_c_leaves_2 _ _ _) ?_
        refine nb_Gs ?_
        exact nb_Hu H W29
    · have H := nb_Hw ((nb_Hu H).2 (by omega))
      have c37 : M.1 Ho 13 ≤ l1 := by omega
      refine nb_Gr ?_
      refine nb_Wg (q_c_isPerson_3 _ _ _) ?_
      refine nb_Gr ?_
      have E33 : nb_i2z 0 = 0 := by decide
      refine nb_Wg (q_c_isPerson_4 _ _ _ _) ?_
      simp only [E33]
      clear E33
      refine nb_Gs ?_
      show nb_W 69 1 [(19, 2), (0, l1)] [(0, 0), (19, 2)] M _
      refine nb_Wg (q_c_isPersonWaiting_1 _ _ _ _ _ (by omega)) ?_
      refine nb_Gb ?_
      refine nb_Wg (q_c_granted_0 _ _ _ _) ?_
      refine nb_Gt (by decide) ?_
      refine nb_Gr ?_
      refine nb_Wg (q_c_granted_2 _ _ _ _ _) ?_
      refine nb_Gr ?_
      refine nb_Wg (q_c_granted_3 _ _ _ _ _ _ (by omega)) ?_
      have W34 : nb_Lay (nb_wr M 2 15 1) := W.wr (fun w => (nb_nlit (by decide) (by decide)))
      refine nb_Gr ?_
      have E35 : nb_i2z 0 = 0 := by decide
      refine nb_Wg (q_c_granted_4 _ _ _ _) ?_
      simp only [E35]
      clear E35
      refine nb_Gs ?_
      show nb_W 69 2 [(19, 2), (0, l1)] [(0, 0)] (nb_wr M 2 15 1) _
      refine nb_Wg (q_c_isPersonWaiting_2 _ _ _ _) ?_
      refine nb_Gt (by decide) ?_
      refine nb_Gr ?_
      refine nb_Wg (q_c_isPersonWaiting_7 _ _ _) ?_
      refine nb_Gr ?_
      have E36 : nb_i2z 0 = 0 := by decide
      refine nb_Wg (q_c_isPersonWaiting_8 _ _ _ _) ?_
      simp only [E36]
      clear E36
      refine nb_Gs ?_
      show nb_W 68 1 [(19, 2), (0, l1)] [(0, 0)] (nb_wr M 2 15 1) _
      refine nb_Wg (q_c_leaves_1 _ _ _ _) ?_
      refine nb_Gt (by decide) ?_
      refine nb_Gr ?_
      refine nb_Wg (q_c_leaves_2 _ _ _) ?_
      refine nb_Gs ?_
      exact nb_Hu H W34

theorem w_c_undo_0 {Ho : Int} {M : nb_M} {Q : List nb_V → nb_M → Prop} (W : nb_Lay M) (hHo : nb_hs Ho) (hx2 : M.1 2 2 = Ho) (H : (0 < M.1 2 9 → -2147483648 ≤ M.1 2 9 - 1 ∧ M.1 2 9 - 1 ≤ 2147483647 ∧ -2147483648 ≤ M.1 2 8 + (M.1 2 9 - 1) ∧ M.1 2 8 + (M.1 2 9 - 1) ≤ 2147483647 ∧ 0 ≤ nb_rem (M.1 2 8 + (M.1 2 9 - 1)) 12 ∧ nb_rem (M.1 2 8 + (M.1 2 9 - 1)) 12 < 12 ∧ nb_W 255 0 [(15, 84), (15, 273 + 22 * (nb_rem (M.1 2 8 + (M.1 2 9 - 1)) 12)), (98, 0)] [] (nb_wr (nb_wr M 2 15 0) 2 9 (M.1 2 9 - 1)) (fun r M15 => r = [] ∧ nb_Lay M15 ∧ M15.1 2 2 = Ho ∧ (nb_Lay M15 → Q [(0, 1)] M15))) ∧ (M.1 2 9 ≤ 0 → (nb_Lay (nb_wr M 2 15 6) → Q [(0, 0)] (nb_wr M 2 15 6)))) :
    nb_W 70 0 [(19, 2)] [] M Q := by
  replace H := nb_Hw H
  have uhHo := hHo
  unfold nb_hs at uhHo
  have E1 : nb_rd M 2 9 = M.1 2 9 := nb_rd_1 _ _ _
  refine nb_Wg (q_c_undo_0 _ _ (by omega)) ?_
  simp only [E1]
  clear E1
  refine nb_Gi (fun c20 => ?_) (fun c20 => ?_)
  · have H := nb_Hw ((nb_Hu H).1 c20)
    refine nb_Gr ?_
    refine nb_Wg (q_c_undo_1 _ _ _) ?_
    refine nb_Gr ?_
    refine nb_Wg (q_c_undo_3 _ _ _ _ (by omega)) ?_
    refine nb_Gb ?_
    refine nb_Wg (q_c_granted_0 _ _ _ _) ?_
    refine nb_Gf (by decide) ?_
    refine nb_Gr ?_
    refine nb_Wg (q_c_granted_1 _ _ _ _ _) ?_
    refine nb_Gr ?_
    refine nb_Wg (q_c_granted_3 _ _ _ _ _ _ (by omega)) ?_
    have W2 : nb_Lay (nb_wr M 2 15 0) := W.wr (fun w => (nb_nlit (by decide) (by decide)))
    refine nb_Gr ?_
    have E3 : nb_i2z 1 = 1 := by decide
    refine nb_Wg (q_c_granted_4 _ _ _ _) ?_
    simp only [E3]
    clear E3
    refine nb_Gs ?_
    show nb_W 70 4 [(19, 2)] [(0, 1)] (nb_wr M 2 15 0) _
    refine nb_Wg (q_c_undo_4 _ _ _) ?_
    refine nb_Gf (by decide) ?_
    refine nb_Gr ?_
    obtain ⟨p0_, p1_, H⟩ := H
    replace H := nb_Hw H
    have E4 : nb_rd (nb_wr M 2 15 0) 2 9 = M.1 2 9 := nb_rdw (Or.inr (by decide)) (nb_rd_1 _ _ _)
    have E5 : nb_sub (M.1 2 9) 1 = M.1 2 9 - 1 := nb_sub_eq (by omega) (by omega)
    refine nb_Wg (q_c_undo_6 _ _ (by omega)) ?_
    simp only [E4, E5]
    clear E4 E5
    have W6 : nb_Lay (nb_wr (nb_wr M 2 15 0) 2 9 (M.1 2 9 - 1)) := W2.wr (fun w => (nb_nlit (by decide) (by decide)))
    refine nb_Gr ?_
    obtain ⟨p0_, p1_, p2_, p3_, H⟩ := H
    replace H := nb_Hw H
    have E7 : nb_rd (nb_wr (nb_wr M 2 15 0) 2 9 (M.1 2 9 - 1)) 2 5 = 84 := W6.c5
    have E8 : nb_rd (nb_wr (nb_wr M 2 15 0) 2 9 (M.1 2 9 - 1)) 2 7 = 128 := W6.c7
    have E9 : nb_rd (nb_wr (nb_wr M 2 15 0) 2 9 (M.1 2 9 - 1)) 2 8 = M.1 2 8 := nb_rdw (Or.inr (by decide)) (nb_rdw (Or.inr (by decide)) (nb_rd_1 _ _ _))
    have E10 : nb_rd (nb_wr (nb_wr M 2 15 0) 2 9 (M.1 2 9 - 1)) 2 9 = M.1 2 9 - 1 := nb_rd_same _ _ _ _
    have E11 : nb_add (M.1 2 8) (M.1 2 9 - 1) = M.1 2 8 + (M.1 2 9 - 1) := nb_add_eq (by omega) (by omega)
    have N12 : nb_ln (nb_wr (nb_wr M 2 15 0) 2 9 (M.1 2 9 - 1)) 128 = 12 := W6.lk (by decide) (by decide +kernel)
    have E13 : nb_rd (nb_wr (nb_wr M 2 15 0) 2 9 (M.1 2 9 - 1)) 128 (nb_rem (M.1 2 8 + (M.1 2 9 - 1)) 12) = 273 + 22 * (nb_rem (M.1 2 8 + (M.1 2 9 - 1)) 12) := W6.sarr (i := nb_rem (M.1 2 8 + (M.1 2 9 - 1)) 12) (by omega) (by omega)
    refine nb_Wg (q_c_undo_7 _ _ (by omega) (by rw [E8]; first | done | omega) (by rw [E9, E10, E11]; first | done | omega) (by rw [E9, E10, E11, E8, N12]; first | done | omega) (by rw [E7]; first | done | omega)) ?_
    simp only [E7, E8, E9, E10, E11, E13]
    clear E7 E8 E9 E10 E11 N12 E13
    refine nb_Gb ?_
    refine nb_W.imp (nb_Hu H) (fun r M15 H => ?_)
    obtain ⟨rfl, W16, g17, H⟩ := H
    replace H := nb_Hw H
    show nb_W 70 8 [(19, 2)] [] M15 _
    refine nb_Wg (q_c_undo_8 _ _) ?_
    refine nb_Gs ?_
    exact nb_Hu H W16
  · have H := nb_Hw ((nb_Hu H).2 (by omega))
    have c20 : M.1 2 9 ≤ 0 := by omega
    refine nb_Gr ?_
    refine nb_Wg (q_c_undo_2 _ _ _) ?_
    refine nb_Gr ?_
    refine nb_Wg (q_c_undo_3 _ _ _ _ (by omega)) ?_
    refine nb_Gb ?_
    refine nb_Wg (q_c_granted_0 _ _ _ _) ?_
    refine nb_Gt (by decide) ?_
    refine nb_Gr ?_
    refine nb_Wg (q_c_granted_2 _ _ _ _ _) ?_
    refine nb_Gr ?_
    refine nb_Wg (q_c_granted_3 _ _ _ _ _ _ (by omega)) ?_
    have W18 : nb_Lay (nb_wr M 2 15 6) := W.wr (fun w => (nb_nlit (by decide) (by decide)))
    refine nb_Gr ?_
    have E19 : nb_i2z 0 = 0 := by decide
    refine nb_Wg (q_c_granted_4 _ _ _ _) ?_
    simp only [E19]
    clear E19
    refine nb_Gs ?_
    show nb_W 70 4 [(19, 2)] [(0, 0)] (nb_wr M 2 15 6) _
    refine nb_Wg (q_c_undo_4 _ _ _) ?_
    refine nb_Gt (by decide) ?_
    refine nb_Gr ?_
    refine nb_Wg (q_c_undo_5 _ _) ?_
    refine nb_Gs ?_
    exact nb_Hu H W18

theorem w_c_image_0 {Ho : Int} {M : nb_M} {Q : List nb_V → nb_M → Prop} (W : nb_Lay M) (hHo : nb_hs Ho) (hx2 : M.1 2 2 = Ho) (H : 0 ≤ M.1 Ho 13 ∧ M.1 Ho 13 ≤ 10 ∧ (0 < M.1 Ho 13 → (M.1 2 11 < 3 → 0 ≤ M.1 2 11 ∧ nb_W 255 0 [(15, 537 + 22 * (M.1 2 11)), (15, 84), (98, 0)] [] (nb_wr (nb_wr M 2 15 0) 2 15 0) (fun r M15 => r = [] ∧ nb_Lay M15 ∧ M15.1 2 2 = Ho ∧ -2147483648 ≤ M15.1 2 11 + 1 ∧ M15.1 2 11 + 1 ≤ 2147483647 ∧ -2147483648 ≤ M15.1 2 11 + 1 - 1 ∧ M15.1 2 11 + 1 - 1 ≤ 2147483647 ∧ (nb_Lay (nb_wr M15 2 11 (M15.1 2 11 + 1)) → Q [(0, M15.1 2 11 + 1 - 1)] (nb_wr M15 2 11 (M15.1 2 11 + 1))))) ∧ (3 ≤ M.1 2 11 → (nb_Lay (nb_wr (nb_wr M 2 15 0) 2 15 3) → Q [(0, (-1))] (nb_wr (nb_wr M 2 15 0) 2 15 3)))) ∧ (M.1 Ho 13 ≤ 0 → (nb_Lay (nb_wr M 2 15 1) → Q [(0, (-1))] (nb_wr M 2 15 1)))) :
    nb_W 71 0 [(19, 2)] [] M Q := by
  replace H := nb_Hw H
  have uhHo := hHo
  unfold nb_hs at uhHo
  refine nb_Wg (q_c_image_0 _ _ (by omega)) ?_
  refine nb_Gb ?_
  obtain ⟨p0_, p1_, H⟩ := H
  replace H := nb_Hw H
  have E1 : nb_rd M 2 2 = Ho := hx2
  have E2 : nb_rd M Ho 13 = M.1 Ho 13 := nb_rd_1 _ _ _
  refine nb_Wg (q_c_isOpen_0 _ _ (by omega) (by rw [E1]; first | done | omega)) ?_
  simp only [E1, E2]
  clear E1 E2
  refine nb_Gi (fun c29 => ?_) (fun c29 => ?_)
  · have H := nb_Hw ((nb_Hu H).1 c29)
    refine nb_Gr ?_
    refine nb_Wg (q_c_isOpen_1 _ _) ?_
    refine nb_Gr ?_
    have E3 : nb_i2z 1 = 1 := by decide
    refine nb_Wg (q_c_isOpen_3 _ _ _) ?_
    simp only [E3]
    clear E3
    refine nb_Gs ?_
    show nb_W 71 1 [(19, 2)] [(0, 1), (19, 2)] M _
    refine nb_Wg (q_c_image_1 _ _ _ _ (by omega)) ?_
    refine nb_Gb ?_
    refine nb_Wg (q_c_granted_0 _ _ _ _) ?_
    refine nb_Gf (by decide) ?_
    refine nb_Gr ?_
    refine nb_Wg (q_c_granted_1 _ _ _ _ _) ?_
    refine nb_Gr ?_
    refine nb_Wg (q_c_granted_3 _ _ _ _ _ _ (by omega)) ?_
    have W4 : nb_Lay (nb_wr M 2 15 0) := W.wr (fun w => (nb_nlit (by decide) (by decide)))
    refine nb_Gr ?_
    have E5 : nb_i2z 1 = 1 := by decide
    refine nb_Wg (q_c_granted_4 _ _ _ _) ?_
    simp only [E5]
    clear E5
    refine nb_Gs ?_
    show nb_W 71 2 [(19, 2)] [(0, 1)] (nb_wr M 2 15 0) _
    refine nb_Wg (q_c_image_2 _ _ _) ?_
    refine nb_Gf (by decide) ?_
    refine nb_Gr ?_
    have E6 : nb_rd (nb_wr M 2 15 0) 2 11 = M.1 2 11 := nb_rdw (Or.inr (by decide)) (nb_rd_1 _ _ _)
    refine nb_Wg (q_c_image_3 _ _ (by omega)) ?_
    simp only [E6]
    clear E6
    refine nb_Gi (fun c25 => ?_) (fun c25 => ?_)
    · have H := nb_Hw ((nb_Hu H).1 c25)
      refine nb_Gr ?_
      refine nb_Wg (q_c_image_4 _ _ _) ?_
      refine nb_Gr ?_
      refine nb_Wg (q_c_image_6 _ _ _ _ (by omega)) ?_
      refine nb_Gb ?_
      refine nb_Wg (q_c_granted_0 _ _ _ _) ?_
      refine nb_Gf (by decide) ?_
      refine nb_Gr ?_
      refine nb_Wg (q_c_granted_1 _ _ _ _ _) ?_
      refine nb_Gr ?_
      refine nb_Wg (q_c_granted_3 _ _ _ _ _ _ (by omega)) ?_
      have W7 : nb_Lay (nb_wr (nb_wr M 2 15 0) 2 15 0) := W4.wr (fun w => (nb_nlit (by decide) (by decide)))
      refine nb_Gr ?_
      have E8 : nb_i2z 1 = 1 := by decide
      refine nb_Wg (q_c_granted_4 _ _ _ _) ?_
      simp only [E8]
      clear E8
      refine nb_Gs ?_
      show nb_W 71 7 [(19, 2)] [(0, 1)] (nb_wr (nb_wr M 2 15 0) 2 15 0) _
      refine nb_Wg (q_c_image_7 _ _ _) ?_
      refine nb_Gf (by decide) ?_
      refine nb_Gr ?_
      obtain ⟨p0_, H⟩ := H
      replace H := nb_Hw H
      have E9 : nb_rd (nb_wr (nb_wr M 2 15 0) 2 15 0) 2 10 = 129 := W7.c10
      have E10 : nb_rd (nb_wr (nb_wr M 2 15 0) 2 15 0) 2 11 = M.1 2 11 := nb_rdw (Or.inr (by decide)) (nb_rdw (Or.inr (by decide)) (nb_rd_1 _ _ _))
      have N11 : nb_ln (nb_wr (nb_wr M 2 15 0) 2 15 0) 129 = 3 := W7.lk (by decide) (by decide +kernel)
      have E12 : nb_rd (nb_wr (nb_wr M 2 15 0) 2 15 0) 129 (M.1 2 11) = 537 + 22 * (M.1 2 11) := W7.iarr (i := M.1 2 11) (by omega) (by omega)
      have E13 : nb_rd (nb_wr (nb_wr M 2 15 0) 2 15 0) 2 5 = 84 := W7.c5
      refine nb_Wg (q_c_image_9 _ _ (by omega) (by rw [E9]; first | done | omega) (by rw [E10]; first | done | omega) (by rw [E10, E9, N11]; first | done | omega) (by rw [E9, E10, E12]; first | done | omega)) ?_
      simp only [E9, E10, E12, E13]
      clear E9 E10 N11 E12 E13
      refine nb_Gb ?_
      refine nb_W.imp (nb_Hu H) (fun r M15 H => ?_)
      obtain ⟨rfl, W16, g17, H⟩ := H
      replace H := nb_Hw H
      show nb_W 71 10 [(19, 2)] [] M15 _
      obtain ⟨p0_, p1_, H⟩ := H
      replace H := nb_Hw H
      have E18 : nb_rd M15 2 11 = M15.1 2 11 := nb_rd_1 _ _ _
      have E19 : nb_add (M15.1 2 11) 1 = M15.1 2 11 + 1 := nb_add_eq (by omega) (by omega)
      refine nb_Wg (q_c_image_10 _ _ (by omega)) ?_
      simp only [E18, E19]
      clear E18 E19
      have W20 : nb_Lay (nb_wr M15 2 11 (M15.1 2 11 + 1)) := W16.wr (fun w => (nb_nlit (by decide) (by decide)))
      refine nb_Gr ?_
      obtain ⟨p0_, p1_, H⟩ := H
      replace H := nb_Hw H
      have E21 : nb_rd (nb_wr M15 2 11 (M15.1 2 11 + 1)) 2 11 = M15.1 2 11 + 1 := nb_rd_same _ _ _ _
      have E22 : nb_sub (M15.1 2 11 + 1) 1 = M15.1 2 11 + 1 - 1 := nb_sub_eq (by omega) (by omega)
      refine nb_Wg (q_c_image_11 _ _ (by omega)) ?_
      simp only [E21, E22]
      clear E21 E22
      refine nb_Gs ?_
      exact nb_Hu H W20
    · have H := nb_Hw ((nb_Hu H).2 (by omega))
      have c25 : 3 ≤ M.1 2 11 := by omega
      refine nb_Gr ?_
      refine nb_Wg (q_c_image_5 _ _ _) ?_
      refine nb_Gr ?_
      refine nb_Wg (q_c_image_6 _ _ _ _ (by omega)) ?_
      refine nb_Gb ?_
      refine nb_Wg (q_c_granted_0 _ _ _ _) ?_
      refine nb_Gt (by decide) ?_
      refine nb_Gr ?_
      refine nb_Wg (q_c_granted_2 _ _ _ _ _) ?_
      refine nb_Gr ?_
      refine nb_Wg (q_c_granted_3 _ _ _ _ _ _ (by omega)) ?_
      have W23 : nb_Lay (nb_wr (nb_wr M 2 15 0) 2 15 3) := W4.wr (fun w => (nb_nlit (by decide) (by decide)))
      refine nb_Gr ?_
      have E24 : nb_i2z 0 = 0 := by decide
      refine nb_Wg (q_c_granted_4 _ _ _ _) ?_
      simp only [E24]
      clear E24
      refine nb_Gs ?_
      show nb_W 71 7 [(19, 2)] [(0, 0)] (nb_wr (nb_wr M 2 15 0) 2 15 3) _
      refine nb_Wg (q_c_image_7 _ _ _) ?_
      refine nb_Gt (by decide) ?_
      refine nb_Gr ?_
      refine nb_Wg (q_c_image_8 _ _) ?_
      refine nb_Gs ?_
      exact nb_Hu H W23
  · have H := nb_Hw ((nb_Hu H).2 (by omega))
    have c29 : M.1 Ho 13 ≤ 0 := by omega
    refine nb_Gr ?_
    refine nb_Wg (q_c_isOpen_2 _ _) ?_
    refine nb_Gr ?_
    have E26 : nb_i2z 0 = 0 := by decide
    refine nb_Wg (q_c_isOpen_3 _ _ _) ?_
    simp only [E26]
    clear E26
    refine nb_Gs ?_
    show nb_W 71 1 [(19, 2)] [(0, 0), (19, 2)] M _
    refine nb_Wg (q_c_image_1 _ _ _ _ (by omega)) ?_
    refine nb_Gb ?_
    refine nb_Wg (q_c_granted_0 _ _ _ _) ?_
    refine nb_Gt (by decide) ?_
    refine nb_Gr ?_
    refine nb_Wg (q_c_granted_2 _ _ _ _ _) ?_
    refine nb_Gr ?_
    refine nb_Wg (q_c_granted_3 _ _ _ _ _ _ (by omega)) ?_
    have W27 : nb_Lay (nb_wr M 2 15 1) := W.wr (fun w => (nb_nlit (by decide) (by decide)))
    refine nb_Gr ?_
    have E28 : nb_i2z 0 = 0 := by decide
    refine nb_Wg (q_c_granted_4 _ _ _ _) ?_
    simp only [E28]
    clear E28
    refine nb_Gs ?_
    show nb_W 71 2 [(19, 2)] [(0, 0)] (nb_wr M 2 15 1) _
    refine nb_Wg (q_c_image_2 _ _ _) ?_
    refine nb_Gt (by decide) ?_
    refine nb_Gr ?_
    refine nb_Wg (q_c_image_8 _ _) ?_
    refine nb_Gs ?_
    exact nb_Hu H W27

theorem w_c_back_0 {l1 Ho : Int} {M : nb_M} {Q : List nb_V → nb_M → Prop} (W : nb_Lay M) (hHo : nb_hs Ho) (hx2 : M.1 2 2 = Ho) (H : (l1 < 0 → (nb_Lay (nb_wr M 2 15 1) → Q [(0, 0)] (nb_wr M 2 15 1))) ∧ (0 ≤ l1 → (l1 < M.1 2 11 → l1 < 3 ∧ nb_W 255 0 [(15, 84), (15, 537 + 22 * l1), (98, 0)] [] (nb_wr M 2 15 0) (fun r M11 => r = [] ∧ nb_Lay M11 ∧ M11.1 2 2 = Ho ∧ (nb_Lay (nb_wr M11 2 9 0) → Q [(0, 1)] (nb_wr M11 2 9 0)))) ∧ (M.1 2 11 ≤ l1 → (nb_Lay (nb_wr M 2 15 1) → Q [(0, 0)] (nb_wr M 2 15 1))))) :
    nb_W 72 0 [(19, 2), (0, l1)] [] M Q := by
  replace H := nb_Hw H
  have uhHo := hHo
  unfold nb_hs at uhHo
  refine nb_Wg (q_c_back_0 _ _ _) ?_
  refine nb_Gi (fun c18 => ?_) (fun c18 => ?_)
  · have H := nb_Hw ((nb_Hu H).1 c18)
    refine nb_Gr ?_
    refine nb_Wg (q_c_back_3 _ _ _ _) ?_
    refine nb_Gr ?_
    refine nb_Wg (q_c_back_4 _ _ _ _ _ (by omega)) ?_
    refine nb_Gb ?_
    refine nb_Wg (q_c_granted_0 _ _ _ _) ?_
    refine nb_Gt (by decide) ?_
    refine nb_Gr ?_
    refine nb_Wg (q_c_granted_2 _ _ _ _ _) ?_
    refine nb_Gr ?_
    refine nb_Wg (q_c_granted_3 _ _ _ _ _ _ (by omega)) ?_
    have W1 : nb_Lay (nb_wr M 2 15 1) := W.wr (fun w => (nb_nlit (by decide) (by decide)))
    refine nb_Gr ?_
    have E2 : nb_i2z 0 = 0 := by decide
    refine nb_Wg (q_c_granted_4 _ _ _ _) ?_
    simp only [E2]
    clear E2
    refine nb_Gs ?_
    show nb_W 72 5 [(19, 2), (0, l1)] [(0, 0)] (nb_wr M 2 15 1) _
    refine nb_Wg (q_c_back_5 _ _ _ _) ?_
    refine nb_Gt (by decide) ?_
    refine nb_Gr ?_
    refine nb_Wg (q_c_back_6 _ _ _) ?_
    refine nb_Gs ?_
    exact nb_Hu H W1
  · have H := nb_Hw ((nb_Hu H).2 (by omega))
    have c18 : 0 ≤ l1 := by omega
    refine nb_Gr ?_
    have E3 : nb_rd M 2 11 = M.1 2 11 := nb_rd_1 _ _ _
    refine nb_Wg (q_c_back_1 _ _ _ _ (by omega)) ?_
    simp only [E3]
    clear E3
    refine nb_Gi (fun c17 => ?_) (fun c17 => ?_)
    · have H := nb_Hw ((nb_Hu H).1 c17)
      refine nb_Gr ?_
      refine nb_Wg (q_c_back_2 _ _ _ _) ?_
      refine nb_Gr ?_
      refine nb_Wg (q_c_back_4 _ _ _ _ _ (by omega)) ?_
      refine nb_Gb ?_
      refine nb_Wg (q_c_granted_0 _ _ _ _) ?_
      refine nb_Gf (by decide) ?_
      refine nb_Gr ?_
      refine nb_Wg (q_c_granted_1 _ _ _ _ _) ?_
      refine nb_Gr ?_
      refine nb_Wg (q_c_granted_3 _ _ _ _ _ _ (by omega)) ?_
      have W4 : nb_Lay (nb_wr M 2 15 0) := W.wr (fun w => (nb_nlit (by decide) (by decide)))
      refine nb_Gr ?_
      have E5 : nb_i2z 1 = 1 := by decide
      refine nb_Wg (q_c_granted_4 _ _ _ _) ?_
      simp only [E5]
      clear E5
      refine nb_Gs ?_
      show nb_W 72 5 [(19, 2), (0, l1)] [(0, 1)] (nb_wr M 2 15 0) _
      refine nb_Wg (q_c_back_5 _ _ _ _) ?_
      refine nb_Gf (by decide) ?_
      refine nb_Gr ?_
      obtain ⟨p0_, H⟩ := H
      replace H := nb_Hw H
      have E6 : nb_rd (nb_wr M 2 15 0) 2 5 = 84 := W4.c5
      have E7 : nb_rd (nb_wr M 2 15 0) 2 10 = 129 := W4.c10
      have N8 : nb_ln (nb_wr M 2 15 0) 129 = 3 := W4.lk (by decide) (by decide +kernel)
      have E9 : nb_rd (nb_wr M 2 15 0) 129 l1 = 537 + 22 * l1 := W4.iarr (i := l1) (by omega) (by omega)
      refine nb_Wg (q_c_back_7 _ _ _ (by omega) (by rw [E7]; first | done | omega) (by omega) (by rw [E7, N8]; first | done | omega) (by rw [E6]; first | done | omega)) ?_
      simp only [E6, E7, E9]
      clear E6 E7 N8 E9
      refine nb_Gb ?_
      refine nb_W.imp (nb_Hu H) (fun r M11 H => ?_)
      obtain ⟨rfl, W12, g13, H⟩ := H
      replace H := nb_Hw H
      show nb_W 72 8 [(19, 2), (0, l1)] [] M11 _
      refine nb_Wg (q_c_back_8 _ _ _ (by omega)) ?_
      have W14 : nb_Lay (nb_wr M11 2 9 0) := W12.wr (fun w => (nb_nlit (by decide) (by decide)))
      refine nb_Gr ?_
      refine nb_Wg (q_c_back_9 _ _ _) ?_
      refine nb_Gs ?_
      exact nb_Hu H W14
    · have H := nb_Hw ((nb_Hu H).2 (by omega))
      have c17 : M.1 2 11 ≤ l1 := by omega
      refine nb_Gr ?_
      refine nb_Wg (q_c_back_3 _ _ _ _) ?_
      refine nb_Gr ?_
      refine nb_Wg (q_c_back_4 _ _ _ _ _ (by omega)) ?_
      refine nb_Gb ?_
      refine nb_Wg (q_c_granted_0 _ _ _ _) ?_
      refine nb_Gt (by decide) ?_
      refine nb_Gr ?_
      refine nb_Wg (q_c_granted_2 _ _ _ _ _) ?_
      refine nb_Gr ?_
      refine nb_Wg (q_c_granted_3 _ _ _ _ _ _ (by omega)) ?_
      have W15 : nb_Lay (nb_wr M 2 15 1) := W.wr (fun w => (nb_nlit (by decide) (by decide)))
      refine nb_Gr ?_
      have E16 : nb_i2z 0 = 0 := by decide
      refine nb_Wg (q_c_granted_4 _ _ _ _) ?_
      simp only [E16]
      clear E16
      refine nb_Gs ?_
      show nb_W 72 5 [(19, 2), (0, l1)] [(0, 0)] (nb_wr M 2 15 1) _
      refine nb_Wg (q_c_back_5 _ _ _ _) ?_
      refine nb_Gt (by decide) ?_
      refine nb_Gr ?_
      refine nb_Wg (q_c_back_6 _ _ _) ?_
      refine nb_Gs ?_
      exact nb_Hu H W15

theorem w_m_note_0 {v1 : nb_V} {M : nb_M} {Q : List nb_V → nb_M → Prop} (W : nb_Lay M) (H : (M.1 603 21 = 12 → nb_W 200 2 [(20, 603), (0, 0)] [] M Q) ∧ (M.1 603 21 ≠ 12 → -2147483648 ≤ 108 * (M.1 603 21) ∧ 108 * (M.1 603 21) ≤ 2147483647 ∧ nb_W 86 0 [(3, 608), (0, 0), (3, 610), (0, 108 * (M.1 603 21)), (0, 108), (98, 0)] [] M (fun r M7 => r = [] ∧ nb_Lay M7 ∧ -2147483648 ≤ M7.1 603 21 + 1 ∧ M7.1 603 21 + 1 ≤ 2147483647 ∧ (nb_Lay (nb_wr M7 603 21 (M7.1 603 21 + 1)) → Q [] (nb_wr M7 603 21 (M7.1 603 21 + 1)))))) :
    nb_W 200 0 [(20, 603), v1] [] M Q := by
  replace H := nb_Hw H
  have E1 : nb_rd M 603 21 = M.1 603 21 := nb_rd_1 _ _ _
  refine nb_Wg (q_m_note_0 _ _ _ (by omega)) ?_
  simp only [E1]
  clear E1
  refine nb_Gi (fun c12 => ?_) (fun c12 => ?_)
  · have H := nb_Hw ((nb_Hu H).1 c12)
    refine nb_Gr ?_
    refine nb_Wg (q_m_note_1 _ _ _) ?_
    refine nb_Gr ?_
    exact nb_Hu H
  · have H := nb_Hw ((nb_Hu H).2 (by omega))
    have c12 : M.1 603 21 ≠ 12 := by omega
    refine nb_Gr ?_
    obtain ⟨p0_, p1_, H⟩ := H
    replace H := nb_Hw H
    have E2 : nb_rd M 603 17 = 608 := W.m17
    have E3 : nb_rd M 603 19 = 610 := W.m19
    have E4 : nb_rd M 603 21 = M.1 603 21 := nb_rd_1 _ _ _
    have E5 : nb_mul 108 (M.1 603 21) = 108 * (M.1 603 21) := nb_mul_eq (by omega) (by omega)
    refine nb_Wg (q_m_note_6 _ _ _ (by omega)) ?_
    simp only [E2, E3, E4, E5]
    clear E2 E3 E4 E5
    refine nb_Gb ?_
    refine nb_W.imp (nb_Hu H) (fun r M7 H => ?_)
    obtain ⟨rfl, W8, H⟩ := H
    replace H := nb_Hw H
    show nb_W 200 7 [(20, 603), v1] [] M7 _
    obtain ⟨p0_, p1_, H⟩ := H
    replace H := nb_Hw H
    have E9 : nb_rd M7 603 21 = M7.1 603 21 := nb_rd_1 _ _ _
    have E10 : nb_add (M7.1 603 21) 1 = M7.1 603 21 + 1 := nb_add_eq (by omega) (by omega)
    refine nb_Wg (q_m_note_7 _ _ _ (by omega)) ?_
    simp only [E9, E10]
    clear E9 E10
    have W11 : nb_Lay (nb_wr M7 603 21 (M7.1 603 21 + 1)) := W8.wr (fun w => (nb_nlit (by decide) (by decide)))
    refine nb_Gr ?_
    refine nb_Wg (q_m_note_8 _ _ _) ?_
    refine nb_Gs ?_
    exact nb_Hu H W11

theorem w_m_pass_0 {l1 : Int} {v2 : nb_V} {M : nb_M} {Q : List nb_V → nb_M → Prop} (W : nb_Lay M) (H : 0 ≤ M.1 603 14 ∧ M.1 603 14 ≤ 1 ∧ (M.1 603 14 = 0 → (nb_Lay (nb_wr (nb_wr (nb_wr M 603 0 0) 603 11 0) 603 11 1) → Q [(0, (-1))] (nb_wr (nb_wr (nb_wr M 603 0 0) 603 11 0) 603 11 1))) ∧ (M.1 603 14 ≠ 0 → (l1 < 1 → (nb_Lay (nb_wr (nb_wr (nb_wr M 603 0 0) 603 11 0) 603 11 2) → Q [(0, (-1))] (nb_wr (nb_wr (nb_wr M 603 0 0) 603 11 0) 603 11 2))) ∧ (1 ≤ l1 → (200 < l1 → (nb_Lay (nb_wr (nb_wr (nb_wr M 603 0 0) 603 11 0) 603 11 2) → Q [(0, (-1))] (nb_wr (nb_wr (nb_wr M 603 0 0) 603 11 0) 603 11 2))) ∧ (l1 ≤ 200 → -2147483648 ≤ M.1 608 0 + l1 ∧ M.1 608 0 + l1 ≤ 2147483647 ∧ -2147483648 ≤ M.1 606 2 + 1 ∧ M.1 606 2 + 1 ≤ 2147483647 ∧ (M.1 606 2 + 1 < M.1 608 0 + l1 → (nb_Lay (nb_wr (nb_wr (nb_wr M 603 0 0) 603 11 0) 603 11 3) → Q [(0, (-1))] (nb_wr (nb_wr (nb_wr M 603 0 0) 603 11 0) 603 11 3))) ∧ (M.1 608 0 + l1 ≤ M.1 606 2 + 1 → nb_W 200 0 [(20, 603), (98, 0)] [] (nb_wr (nb_wr M 603 0 0) 603 11 0) (fun r M20 => r = [] ∧ nb_Lay M20 ∧ nb_W 121 0 [(20, 603)] [] M20 (fun r M23 => r = [] ∧ nb_Lay M23 ∧ nb_W 201 14 [(20, 603), (0, l1), (0, 0)] [] M23 Q))))))) :
    nb_W 201 0 [(20, 603), (0, l1), v2] [] M Q := by
  replace H := nb_Hw H
  refine nb_Wg (q_m_pass_0 _ _ _ _ (by omega)) ?_
  refine nb_Gb ?_
  refine nb_Wg (q_m_good_0 _ _ (by omega)) ?_
  have W1 : nb_Lay (nb_wr M 603 0 0) := W.wr (fun w => (nb_nlit (by decide) (by decide)))
  refine nb_Gr ?_
  refine nb_Wg (q_m_good_1 _ _ (by omega)) ?_
  have W2 : nb_Lay (nb_wr (nb_wr M 603 0 0) 603 11 0) := W1.wr (fun w => (nb_nlit (by decide) (by decide)))
  refine nb_Gr ?_
  refine nb_Wg (q_m_good_2 _ _) ?_
  refine nb_Gs ?_
  show nb_W 201 1 [(20, 603), (0, l1), v2] [] (nb_wr (nb_wr M 603 0 0) 603 11 0) _
  obtain ⟨p0_, p1_, H⟩ := H
  replace H := nb_Hw H
  have E3 : nb_rd (nb_wr (nb_wr M 603 0 0) 603 11 0) 603 14 = M.1 603 14 := nb_rdw (Or.inr (by decide)) (nb_rdw (Or.inr (by decide)) (nb_rd_1 _ _ _))
  refine nb_Wg (q_m_pass_1 _ _ _ _ (by omega)) ?_
  simp only [E3]
  clear E3
  refine nb_Gi (fun c28 => ?_) (fun c28 => ?_)
  · have H := nb_Hw ((nb_Hu H).1 c28)
    refine nb_Gr ?_
    refine nb_Wg (q_m_pass_2 _ _ _ _ (by omega)) ?_
    refine nb_Gb ?_
    refine nb_Wg (q_m_no_0 _ _ _ (by omega)) ?_
    have W4 : nb_Lay (nb_wr (nb_wr (nb_wr M 603 0 0) 603 11 0) 603 11 1) := W2.wr (fun w => (nb_nlit (by decide) (by decide)))
    refine nb_Gr ?_
    refine nb_Wg (q_m_no_1 _ _ _) ?_
    refine nb_Gs ?_
    show nb_W 201 3 [(20, 603), (0, l1), v2] [(0, (-1))] (nb_wr (nb_wr (nb_wr M 603 0 0) 603 11 0) 603 11 1) _
    refine nb_Wg (q_m_pass_3 _ _ _ _ _) ?_
    refine nb_Gs ?_
    exact nb_Hu H W4
  · have H := nb_Hw ((nb_Hu H).2 (by omega))
    have c28 : M.1 603 14 ≠ 0 := by omega
    refine nb_Gr ?_
    refine nb_Wg (q_m_pass_4 _ _ _ _) ?_
    refine nb_Gb ?_
    refine nb_Wg (q_m_within_0 _ _ _ _) ?_
    refine nb_Gi (fun c27 => ?_) (fun c27 => ?_)
    · have H := nb_Hw ((nb_Hu H).1 c27)
      refine nb_Gr ?_
      refine nb_Wg (q_m_within_3 _ _ _ _) ?_
      refine nb_Gr ?_
      have E5 : nb_i2z 0 = 0 := by decide
      refine nb_Wg (q_m_within_4 _ _ _ _ _) ?_
      simp only [E5]
      clear E5
      refine nb_Gs ?_
      show nb_W 201 5 [(20, 603), (0, l1), v2] [(0, 0)] (nb_wr (nb_wr M 603 0 0) 603 11 0) _
      refine nb_Wg (q_m_pass_5 _ _ _ _ _) ?_
      refine nb_Gt (by decide) ?_
      refine nb_Gr ?_
      refine nb_Wg (q_m_pass_6 _ _ _ _ (by omega)) ?_
      refine nb_Gb ?_
      refine nb_Wg (q_m_no_0 _ _ _ (by omega)) ?_
      have W6 : nb_Lay (nb_wr (nb_wr (nb_wr M 603 0 0) 603 11 0) 603 11 2) := W2.wr (fun w => (nb_nlit (by decide) (by decide)))
      refine nb_Gr ?_
      refine nb_Wg (q_m_no_1 _ _ _) ?_
      refine nb_Gs ?_
      show nb_W 201 7 [(20, 603), (0, l1), v2] [(0, (-1))] (nb_wr (nb_wr (nb_wr M 603 0 0) 603 11 0) 603 11 2) _
      refine nb_Wg (q_m_pass_7 _ _ _ _ _) ?_
      refine nb_Gs ?_
      exact nb_Hu H W6
    · have H := nb_Hw ((nb_Hu H).2 (by omega))
      have c27 : 1 ≤ l1 := by omega
      refine nb_Gr ?_
      refine nb_Wg (q_m_within_1 _ _ _ _) ?_
      refine nb_Gi (fun c26 => ?_) (fun c26 => ?_)
      · have H := nb_Hw ((nb_Hu H).1 c26)
        refine nb_Gr ?_
        refine nb_Wg (q_m_within_3 _ _ _ _) ?_
        refine nb_Gr ?_
        have E7 : nb_i2z 0 = 0 := by decide
        refine nb_Wg (q_m_within_4 _ _ _ _ _) ?_
        simp only [E7]
        clear E7
        refine nb_Gs ?_
        show nb_W 201 5 [(20, 603), (0, l1), v2] [(0, 0)] (nb_wr (nb_wr M 603 0 0) 603 11 0) _
        refine nb_Wg (q_m_pass_5 _ _ _ _ _) ?_
        refine nb_Gt (by decide) ?_
        refine nb_Gr ?_
        refine nb_Wg (q_m_pass_6 _ _ _ _ (by omega)) ?_
        refine nb_Gb ?_
        refine nb_Wg (q_m_no_0 _ _ _ (by omega)) ?_
        have W8 : nb_Lay (nb_wr (nb_wr (nb_wr M 603 0 0) 603 11 0) 603 11 2) := W2.wr (fun w => (nb_nlit (by decide) (by decide)))
        refine nb_Gr ?_
        refine nb_Wg (q_m_no_1 _ _ _) ?_
        refine nb_Gs ?_
        show nb_W 201 7 [(20, 603), (0, l1), v2] [(0, (-1))] (nb_wr (nb_wr (nb_wr M 603 0 0) 603 11 0) 603 11 2) _
        refine nb_Wg (q_m_pass_7 _ _ _ _ _) ?_
        refine nb_Gs ?_
        exact nb_Hu H W8
      · have H := nb_Hw ((nb_Hu H).2 (by omega))
        have c26 : l1 ≤ 200 := by omega
        refine nb_Gr ?_
        refine nb_Wg (q_m_within_2 _ _ _ _) ?_
        refine nb_Gr ?_
        have E9 : nb_i2z 1 = 1 := by decide
        refine nb_Wg (q_m_within_4 _ _ _ _ _) ?_
        simp only [E9]
        clear E9
        refine nb_Gs ?_
        show nb_W 201 5 [(20, 603), (0, l1), v2] [(0, 1)] (nb_wr (nb_wr M 603 0 0) 603 11 0) _
        refine nb_Wg (q_m_pass_5 _ _ _ _ _) ?_
        refine nb_Gf (by decide) ?_
        refine nb_Gr ?_
        obtain ⟨p0_, p1_, p2_, p3_, H⟩ := H
        replace H := nb_Hw H
        have E10 : nb_rd (nb_wr (nb_wr M 603 0 0) 603 11 0) 603 17 = 608 := W2.m17
        have N11 : nb_ln (nb_wr (nb_wr M 603 0 0) 603 11 0) 608 = 108 := W2.lk (by decide) (by decide +kernel)
        have E12 : nb_rd (nb_wr (nb_wr M 603 0 0) 603 11 0) 608 0 = M.1 608 0 := nb_rdw (Or.inl (by decide)) (nb_rdw (Or.inl (by decide)) (nb_rd_1 _ _ _))
        have E13 : nb_add (M.1 608 0) l1 = M.1 608 0 + l1 := nb_add_eq (by omega) (by omega)
        have E14 : nb_rd (nb_wr (nb_wr M 603 0 0) 603 11 0) 603 15 = 606 := W2.m15
        have N15 : nb_ln (nb_wr (nb_wr M 603 0 0) 603 11 0) 606 = 347 := W2.lk (by decide) (by decide +kernel)
        have E16 : nb_rd (nb_wr (nb_wr M 603 0 0) 603 11 0) 606 2 = M.1 606 2 := nb_rdw (Or.inl (by decide)) (nb_rdw (Or.inl (by decide)) (nb_rd_1 _ _ _))
        have E17 : nb_add (M.1 606 2) 1 = M.1 606 2 + 1 := nb_add_eq (by omega) (by omega)
        refine nb_Wg (q_m_pass_8 _ _ _ _ (by omega) (by rw [E10]; first | done | omega) (by omega) (by rw [E10, N11]; first | done | omega) (by rw [E14]; first | done | omega) (by omega) (by rw [E14, N15]; first | done | omega)) ?_
        simp only [E10, E12, E13, E14, E16, E17]
        clear E10 N11 E12 E13 E14 N15 E16 E17
        refine nb_Gi (fun c25 => ?_) (fun c25 => ?_)
        · have H := nb_Hw ((nb_Hu H).1 c25)
          refine nb_Gr ?_
          refine nb_Wg (q_m_pass_9 _ _ _ _ (by omega)) ?_
          refine nb_Gb ?_
          refine nb_Wg (q_m_no_0 _ _ _ (by omega)) ?_
          have W18 : nb_Lay (nb_wr (nb_wr (nb_wr M 603 0 0) 603 11 0) 603 11 3) := W2.wr (fun w => (nb_nlit (by decide) (by decide)))
          refine nb_Gr ?_
          refine nb_Wg (q_m_no_1 _ _ _) ?_
          refine nb_Gs ?_
          show nb_W 201 10 [(20, 603), (0, l1), v2] [(0, (-1))] (nb_wr (nb_wr (nb_wr M 603 0 0) 603 11 0) 603 11 3) _
          refine nb_Wg (q_m_pass_10 _ _ _ _ _) ?_
          refine nb_Gs ?_
          exact nb_Hu H W18
        · have H := nb_Hw ((nb_Hu H).2 (by omega))
          have c25 : M.1 608 0 + l1 ≤ M.1 606 2 + 1 := by omega
          refine nb_Gr ?_
          refine nb_Wg (q_m_pass_11 _ _ _ _ (by omega)) ?_
          refine nb_Gb ?_
          refine nb_W.imp (nb_Hu H) (fun r M20 H => ?_)
          obtain ⟨rfl, W21, H⟩ := H
          replace H := nb_Hw H
          show nb_W 201 12 [(20, 603), (0, l1), v2] [] M20 _
          refine nb_Wg (q_m_pass_12 _ _ _ _ (by omega)) ?_
          refine nb_Gb ?_
          refine nb_W.imp (nb_Hu H) (fun r M23 H => ?_)
          obtain ⟨rfl, W24, H⟩ := H
          replace H := nb_Hw H
          show nb_W 201 13 [(20, 603), (0, l1), v2] [] M23 _
          refine nb_Wg (q_m_pass_13 _ _ _ _) ?_
          refine nb_Gr ?_
          exact nb_Hu H

theorem w_m_moves_0 {l1 l2 : Int} {M : nb_M} {Q : List nb_V → nb_M → Prop} (W : nb_Lay M) (H : 0 ≤ M.1 603 14 ∧ M.1 603 14 ≤ 1 ∧ (M.1 603 14 = 0 → (nb_Lay (nb_wr (nb_wr (nb_wr M 603 0 0) 603 11 0) 603 11 1) → Q [(0, 0)] (nb_wr (nb_wr (nb_wr M 603 0 0) 603 11 0) 603 11 1))) ∧ (M.1 603 14 ≠ 0 → 0 ≤ M.1 606 5 ∧ M.1 606 5 ≤ 10 ∧ (l1 < 0 → (nb_Lay (nb_wr (nb_wr (nb_wr M 603 0 0) 603 11 0) 603 11 1) → Q [(0, 0)] (nb_wr (nb_wr (nb_wr M 603 0 0) 603 11 0) 603 11 1))) ∧ (0 ≤ l1 → (M.1 606 5 - 1 < l1 → (nb_Lay (nb_wr (nb_wr (nb_wr M 603 0 0) 603 11 0) 603 11 1) → Q [(0, 0)] (nb_wr (nb_wr (nb_wr M 603 0 0) 603 11 0) 603 11 1))) ∧ (l1 ≤ M.1 606 5 - 1 → 0 ≤ M.1 606 1 ∧ M.1 606 1 ≤ 20 ∧ (l2 < 0 → (nb_Lay (nb_wr (nb_wr (nb_wr M 603 0 0) 603 11 0) 603 11 1) → Q [(0, 0)] (nb_wr (nb_wr (nb_wr M 603 0 0) 603 11 0) 603 11 1))) ∧ (0 ≤ l2 → (M.1 606 1 - 1 < l2 → (nb_Lay (nb_wr (nb_wr (nb_wr M 603 0 0) 603 11 0) 603 11 1) → Q [(0, 0)] (nb_wr (nb_wr (nb_wr M 603 0 0) 603 11 0) 603 11 1))) ∧ (l2 ≤ M.1 606 1 - 1 → (M.1 608 (12 + 8 * l1) = 1 → (M.1 608 (12 + 8 * l1 + 1) = l2 → (nb_Lay (nb_wr (nb_wr (nb_wr M 603 0 0) 603 11 0) 603 11 5) → Q [(0, 0)] (nb_wr (nb_wr (nb_wr M 603 0 0) 603 11 0) 603 11 5))) ∧ (M.1 608 (12 + 8 * l1 + 1) ≠ l2 → nb_W 200 0 [(20, 603), (98, 0)] [] (nb_wr (nb_wr M 603 0 0) 603 11 0) (fun r M52 => r = [] ∧ nb_Lay M52 ∧ -2147483648 ≤ 8 * l1 ∧ 8 * l1 ≤ 2147483647 ∧ -2147483648 ≤ 12 + 8 * l1 ∧ 12 + 8 * l1 ≤ 2147483647 ∧ -2147483648 ≤ 12 + 8 * l1 + 1 ∧ 12 + 8 * l1 + 1 ≤ 2147483647 ∧ 0 ≤ 12 + 8 * l1 + 1 ∧ 12 + 8 * l1 + 1 < 108 ∧ (nb_Lay (nb_wr M52 608 (12 + 8 * l1 + 1) l2) → Q [(0, 1)] (nb_wr M52 608 (12 + 8 * l1 + 1) l2))))) ∧ (M.1 608 (12 + 8 * l1) ≠ 1 → (nb_Lay (nb_wr (nb_wr (nb_wr M 603 0 0) 603 11 0) 603 11 5) → Q [(0, 0)] (nb_wr (nb_wr (nb_wr M 603 0 0) 603 11 0) 603 11 5))))))))) :
    nb_W 202 0 [(20, 603), (0, l1), (0, l2)] [] M Q := by
  replace H := nb_Hw H
  refine nb_Wg (q_m_moves_0 _ _ _ _ (by omega)) ?_
  refine nb_Gb ?_
  refine nb_Wg (q_m_good_0 _ _ (by omega)) ?_
  have W1 : nb_Lay (nb_wr M 603 0 0) := W.wr (fun w => (nb_nlit (by decide) (by decide)))
  refine nb_Gr ?_
  refine nb_Wg (q_m_good_1 _ _ (by omega)) ?_
  have W2 : nb_Lay (nb_wr (nb_wr M 603 0 0) 603 11 0) := W1.wr (fun w => (nb_nlit (by decide) (by decide)))
  refine nb_Gr ?_
  refine nb_Wg (q_m_good_2 _ _) ?_
  refine nb_Gs ?_
  show nb_W 202 1 [(20, 603), (0, l1), (0, l2)] [] (nb_wr (nb_wr M 603 0 0) 603 11 0) _
  refine nb_Wg (q_m_moves_1 _ _ _ _ (by omega)) ?_
  refine nb_Gb ?_
  obtain ⟨p0_, p1_, H⟩ := H
  replace H := nb_Hw H
  have E3 : nb_rd (nb_wr (nb_wr M 603 0 0) 603 11 0) 603 14 = M.1 603 14 := nb_rdw (Or.inr (by decide)) (nb_rdw (Or.inr (by decide)) (nb_rd_1 _ _ _))
  refine nb_Wg (q_m_isPerson_0 _ _ _ (by omega)) ?_
  simp only [E3]
  clear E3
  refine nb_Gi (fun c69 => ?_) (fun c69 => ?_)
  · have H := nb_Hw ((nb_Hu H).1 c69)
    refine nb_Gr ?_
    refine nb_Wg (q_m_isPerson_4 _ _ _) ?_
    refine nb_Gr ?_
    have E4 : nb_i2z 0 = 0 := by decide
    refine nb_Wg (q_m_isPerson_5 _ _ _ _) ?_
    simp only [E4]
    clear E4
    refine nb_Gs ?_
    show nb_W 202 2 [(20, 603), (0, l1), (0, l2)] [(0, 0)] (nb_wr (nb_wr M 603 0 0) 603 11 0) _
    refine nb_Wg (q_m_moves_2 _ _ _ _ _) ?_
    refine nb_Gt (by decide) ?_
    refine nb_Gr ?_
    refine nb_Wg (q_m_moves_5 _ _ _ _ (by omega)) ?_
    refine nb_Gb ?_
    refine nb_Wg (q_m_isNot_0 _ _ _ (by omega)) ?_
    have W5 : nb_Lay (nb_wr (nb_wr (nb_wr M 603 0 0) 603 11 0) 603 11 1) := W2.wr (fun w => (nb_nlit (by decide) (by decide)))
    refine nb_Gr ?_
    refine nb_Wg (q_m_isNot_1 _ _ _) ?_
    refine nb_Gs ?_
    show nb_W 202 6 [(20, 603), (0, l1), (0, l2)] [(0, 0)] (nb_wr (nb_wr (nb_wr M 603 0 0) 603 11 0) 603 11 1) _
    have E6 : nb_i2z 0 = 0 := by decide
    refine nb_Wg (q_m_moves_6 _ _ _ _ _) ?_
    simp only [E6]
    clear E6
    refine nb_Gs ?_
    exact nb_Hu H W5
  · have H := nb_Hw ((nb_Hu H).2 (by omega))
    have c69 : M.1 603 14 ≠ 0 := by omega
    refine nb_Gr ?_
    obtain ⟨p0_, p1_, H⟩ := H
    replace H := nb_Hw H
    have E7 : nb_rd (nb_wr (nb_wr M 603 0 0) 603 11 0) 603 15 = 606 := W2.m15
    have N8 : nb_ln (nb_wr (nb_wr M 603 0 0) 603 11 0) 606 = 347 := W2.lk (by decide) (by decide +kernel)
    have E9 : nb_rd (nb_wr (nb_wr M 603 0 0) 603 11 0) 606 5 = M.1 606 5 := nb_rdw (Or.inl (by decide)) (nb_rdw (Or.inl (by decide)) (nb_rd_1 _ _ _))
    have E10 : nb_sub (M.1 606 5) 1 = M.1 606 5 - 1 := nb_sub_eq (by omega) (by omega)
    refine nb_Wg (q_m_isPerson_1 _ _ _ (by omega) (by rw [E7]; first | done | omega) (by omega) (by rw [E7, N8]; first | done | omega)) ?_
    simp only [E7, E9, E10]
    clear E7 N8 E9 E10
    refine nb_Gb ?_
    refine nb_Wg (q_m_within_0 _ _ _ _) ?_
    refine nb_Gi (fun c68 => ?_) (fun c68 => ?_)
    · have H := nb_Hw ((nb_Hu H).1 c68)
      refine nb_Gr ?_
      refine nb_Wg (q_m_within_3 _ _ _ _) ?_
      refine nb_Gr ?_
      have E11 : nb_i2z 0 = 0 := by decide
      refine nb_Wg (q_m_within_4 _ _ _ _ _) ?_
      simp only [E11]
      clear E11
      refine nb_Gs ?_
      show nb_W 116 2 [(20, 603), (0, l1)] [(0, 0)] (nb_wr (nb_wr M 603 0 0) 603 11 0) _
      refine nb_Wg (q_m_isPerson_2 _ _ _ _) ?_
      refine nb_Gt (by decide) ?_
      refine nb_Gr ?_
      refine nb_Wg (q_m_isPerson_4 _ _ _) ?_
      refine nb_Gr ?_
      have E12 : nb_i2z 0 = 0 := by decide
      refine nb_Wg (q_m_isPerson_5 _ _ _ _) ?_
      simp only [E12]
      clear E12
      refine nb_Gs ?_
      show nb_W 202 2 [(20, 603), (0, l1), (0, l2)] [(0, 0)] (nb_wr (nb_wr M 603 0 0) 603 11 0) _
      refine nb_Wg (q_m_moves_2 _ _ _ _ _) ?_
      refine nb_Gt (by decide) ?_
      refine nb_Gr ?_
      refine nb_Wg (q_m_moves_5 _ _ _ _ (by omega)) ?_
      refine nb_Gb ?_
      refine nb_Wg (q_m_isNot_0 _ _ _ (by omega)) ?_
      have W13 : nb_Lay (nb_wr (nb_wr (nb_wr M 603 0 0) 603 11 0) 603 11 1) := W2.wr (fun w => (nb_nlit (by decide) (by decide)))
      refine nb_Gr ?_
      refine nb_Wg (q_m_isNot_1 _ _ _) ?_
      refine nb_Gs ?_
      show nb_W 202 6 [(20, 603), (0, l1), (0, l2)] [(0, 0)] (nb_wr (nb_wr (nb_wr M 603 0 0) 603 11 0) 603 11 1) _
      have E14 : nb_i2z 0 = 0 := by decide
      refine nb_Wg (q_m_moves_6 _ _ _ _ _) ?_
      simp only [E14]
      clear E14
      refine nb_Gs ?_
      exact nb_Hu H W13
    · have H := nb_Hw ((nb_Hu H).2 (by omega))
      have c68 : 0 ≤ l1 := by omega
      refine nb_Gr ?_
      refine nb_Wg (q_m_within_1 _ _ _ _) ?_
      refine nb_Gi (fun c67 => ?_) (fun c67 => ?_)
      · have H := nb_Hw ((nb_Hu H).1 c67)
        refine nb_Gr ?_
        refine nb_Wg (q_m_within_3 _ _ _ _) ?_
        refine nb_Gr ?_
        have E15 : nb_i2z 0 = 0 := by decide
        refine nb_Wg (q_m_within_4 _ _ _ _ _) ?_
        simp only [E15]
        clear E15
        refine nb_Gs ?_
        show nb_W 116 2 [(20, 603), (0, l1)] [(0, 0)] (nb_wr (nb_wr M 603 0 0) 603 11 0) _
        refine nb_Wg (q_m_isPerson_2 _ _ _ _) ?_
        refine nb_Gt (by decide) ?_
        refine nb_Gr ?_
        refine nb_Wg (q_m_isPerson_4 _ _ _) ?_
        refine nb_Gr ?_
        have E16 : nb_i2z 0 = 0 := by decide
        refine nb_Wg (q_m_isPerson_5 _ _ _ _) ?_
        simp only [E16]
        clear E16
        refine nb_Gs ?_
        show nb_W 202 2 [(20, 603), (0, l1), (0, l2)] [(0, 0)] (nb_wr (nb_wr M 603 0 0) 603 11 0) _
        refine nb_Wg (q_m_moves_2 _ _ _ _ _) ?_
        refine nb_Gt (by decide) ?_
        refine nb_Gr ?_
        refine nb_Wg (q_m_moves_5 _ _ _ _ (by omega)) ?_
        refine nb_Gb ?_
        refine nb_Wg (q_m_isNot_0 _ _ _ (by omega)) ?_
        have W17 : nb_Lay (nb_wr (nb_wr (nb_wr M 603 0 0) 603 11 0) 603 11 1) := W2.wr (fun w => (nb_nlit (by decide) (by decide)))
        refine nb_Gr ?_
        refine nb_Wg (q_m_isNot_1 _ _ _) ?_
        refine nb_Gs ?_
        show nb_W 202 6 [(20, 603), (0, l1), (0, l2)] [(0, 0)] (nb_wr (nb_wr (nb_wr M 603 0 0) 603 11 0) 603 11 1) _
        have E18 : nb_i2z 0 = 0 := by decide
        refine nb_Wg (q_m_moves_6 _ _ _ _ _) ?_
        simp only [E18]
        clear E18
        refine nb_Gs ?_
        exact nb_Hu H W17
      · have H := nb_Hw ((nb_Hu H).2 (by omega))
        have c67 : l1 ≤ M.1 606 5 - 1 := by omega
        refine nb_Gr ?_
        refine nb_Wg (q_m_within_2 _ _ _ _) ?_
        refine nb_Gr ?_
        have E19 : nb_i2z 1 = 1 := by decide
        refine nb_Wg (q_m_within_4 _ _ _ _ _) ?_
        simp only [E19]
        clear E19
        refine nb_Gs ?_
        show nb_W 116 2 [(20, 603), (0, l1)] [(0, 1)] (nb_wr (nb_wr M 603 0 0) 603 11 0) _
        refine nb_Wg (q_m_isPerson_2 _ _ _ _) ?_
        refine nb_Gf (by decide) ?_
        refine nb_Gr ?_
        refine nb_Wg (q_m_isPerson_3 _ _ _) ?_
        refine nb_Gr ?_
        have E20 : nb_i2z 1 = 1 := by decide
        refine nb_Wg (q_m_isPerson_5 _ _ _ _) ?_
        simp only [E20]
        clear E20
        refine nb_Gs ?_
        show nb_W 202 2 [(20, 603), (0, l1), (0, l2)] [(0, 1)] (nb_wr (nb_wr M 603 0 0) 603 11 0) _
        refine nb_Wg (q_m_moves_2 _ _ _ _ _) ?_
        refine nb_Gf (by decide) ?_
        refine nb_Gr ?_
        refine nb_Wg (q_m_moves_3 _ _ _ _ (by omega)) ?_
        refine nb_Gb ?_
        have E21 : nb_rd (nb_wr (nb_wr M 603 0 0) 603 11 0) 603 14 = M.1 603 14 := nb_rdw (Or.inr (by decide)) (nb_rdw (Or.inr (by decide)) (nb_rd_1 _ _ _))
        refine nb_Wg (q_m_isSpot_0 _ _ _ (by omega)) ?_
        simp only [E21]
        clear E21
        refine nb_Gf (by omega) ?_
        refine nb_Gr ?_
        obtain ⟨p0_, p1_, H⟩ := H
        replace H := nb_Hw H
        have E22 : nb_rd (nb_wr (nb_wr M 603 0 0) 603 11 0) 603 15 = 606 := W2.m15
        have N23 : nb_ln (nb_wr (nb_wr M 603 0 0) 603 11 0) 606 = 347 := W2.lk (by decide) (by decide +kernel)
        have E24 : nb_rd (nb_wr (nb_wr M 603 0 0) 603 11 0) 606 1 = M.1 606 1 := nb_rdw (Or.inl (by decide)) (nb_rdw (Or.inl (by decide)) (nb_rd_1 _ _ _))
        have E25 : nb_sub (M.1 606 1) 1 = M.1 606 1 - 1 := nb_sub_eq (by omega) (by omega)
        refine nb_Wg (q_m_isSpot_1 _ _ _ (by omega) (by rw [E22]; first | done | omega) (by omega) (by rw [E22, N23]; first | done | omega)) ?_
        simp only [E22, E24, E25]
        clear E22 N23 E24 E25
        refine nb_Gb ?_
        refine nb_Wg (q_m_within_0 _ _ _ _) ?_
        refine nb_Gi (fun c66 => ?_) (fun c66 => ?_)
        · have H := nb_Hw ((nb_Hu H).1 c66)
          refine nb_Gr ?_
          refine nb_Wg (q_m_within_3 _ _ _ _) ?_
          refine nb_Gr ?_
          have E26 : nb_i2z 0 = 0 := by decide
          refine nb_Wg (q_m_within_4 _ _ _ _ _) ?_
          simp only [E26]
          clear E26
          refine nb_Gs ?_
          show nb_W 118 2 [(20, 603), (0, l2)] [(0, 0)] (nb_wr (nb_wr M 603 0 0) 603 11 0) _
          refine nb_Wg (q_m_isSpot_2 _ _ _ _) ?_
          refine nb_Gt (by decide) ?_
          refine nb_Gr ?_
          refine nb_Wg (q_m_isSpot_4 _ _ _) ?_
          refine nb_Gr ?_
          have E27 : nb_i2z 0 = 0 := by decide
          refine nb_Wg (q_m_isSpot_5 _ _ _ _) ?_
          simp only [E27]
          clear E27
          refine nb_Gs ?_
          show nb_W 202 4 [(20, 603), (0, l1), (0, l2)] [(0, 0)] (nb_wr (nb_wr M 603 0 0) 603 11 0) _
          refine nb_Wg (q_m_moves_4 _ _ _ _ _) ?_
          refine nb_Gt (by decide) ?_
          refine nb_Gr ?_
          refine nb_Wg (q_m_moves_5 _ _ _ _ (by omega)) ?_
          refine nb_Gb ?_
          refine nb_Wg (q_m_isNot_0 _ _ _ (by omega)) ?_
          have W28 : nb_Lay (nb_wr (nb_wr (nb_wr M 603 0 0) 603 11 0) 603 11 1) := W2.wr (fun w => (nb_nlit (by decide) (by decide)))
          refine nb_Gr ?_
          refine nb_Wg (q_m_isNot_1 _ _ _) ?_
          refine nb_Gs ?_
          show nb_W 202 6 [(20, 603), (0, l1), (0, l2)] [(0, 0)] (nb_wr (nb_wr (nb_wr M 603 0 0) 603 11 0) 603 11 1) _
          have E29 : nb_i2z 0 = 0 := by decide
          refine nb_Wg (q_m_moves_6 _ _ _ _ _) ?_
          simp only [E29]
          clear E29
          refine nb_Gs ?_
          exact nb_Hu H W28
        · have H := nb_Hw ((nb_Hu H).2 (by omega))
          have c66 : 0 ≤ l2 := by omega
          refine nb_Gr ?_
          refine nb_Wg (q_m_within_1 _ _ _ _) ?_
          refine nb_Gi (fun c65 => ?_) (fun c65 => ?_)
          · have H := nb_Hw ((nb_Hu H).1 c65)
            refine nb_Gr ?_
            refine nb_Wg (q_m_within_3 _ _ _ _) ?_
            refine nb_Gr ?_
            have E30 : nb_i2z 0 = 0 := by decide
            refine nb_Wg (q_m_within_4 _ _ _ _ _) ?_
            simp only [E30]
            clear E30
            refine nb_Gs ?_
            show nb_W 118 2 [(20, 603), (0, l2)] [(0, 0)] (nb_wr (nb_wr M 603 0 0) 603 11 0) _
            refine nb_Wg (q_m_isSpot_2 _ _ _ _) ?_
            refine nb_Gt (by decide) ?_
            refine nb_Gr ?_
            refine nb_Wg (q_m_isSpot_4 _ _ _) ?_
            refine nb_Gr ?_
            have E31 : nb_i2z 0 = 0 := by decide
            refine nb_Wg (q_m_isSpot_5 _ _ _ _) ?_
            simp only [E31]
            clear E31
            refine nb_Gs ?_
            show nb_W 202 4 [(20, 603), (0, l1), (0, l2)] [(0, 0)] (nb_wr (nb_wr M 603 0 0) 603 11 0) _
            refine nb_Wg (q_m_moves_4 _ _ _ _ _) ?_
            refine nb_Gt (by decide) ?_
            refine nb_Gr ?_
            refine nb_Wg (q_m_moves_5 _ _ _ _ (by omega)) ?_
            refine nb_Gb ?_
            refine nb_Wg (q_m_isNot_0 _ _ _ (by omega)) ?_
            have W32 : nb_Lay (nb_wr (nb_wr (nb_wr M 603 0 0) 603 11 0) 603 11 1) := W2.wr (fun w => (nb_nlit (by decide) (by decide)))
            refine nb_Gr ?_
            refine nb_Wg (q_m_isNot_1 _ _ _) ?_
            refine nb_Gs ?_
            show nb_W 202 6 [(20, 603), (0, l1), (0, l2)] [(0, 0)] (nb_wr (nb_wr (nb_wr M 603 0 0) 603 11 0) 603 11 1) _
            have E33 : nb_i2z 0 = 0 := by decide
            refine nb_Wg (q_m_moves_6 _ _ _ _ _) ?_
            simp only [E33]
            clear E33
            refine nb_Gs ?_
            exact nb_Hu H W32
          · have H := nb_Hw ((nb_Hu H).2 (by omega))
            have c65 : l2 ≤ M.1 606 1 - 1 := by omega
            refine nb_Gr ?_
            refine nb_Wg (q_m_within_2 _ _ _ _) ?_
            refine nb_Gr ?_
            have E34 : nb_i2z 1 = 1 := by decide
            refine nb_Wg (q_m_within_4 _ _ _ _ _) ?_
            simp only [E34]
            clear E34
            refine nb_Gs ?_
            show nb_W 118 2 [(20, 603), (0, l2)] [(0, 1)] (nb_wr (nb_wr M 603 0 0) 603 11 0) _
            refine nb_Wg (q_m_isSpot_2 _ _ _ _) ?_
            refine nb_Gf (by decide) ?_
            refine nb_Gr ?_
            refine nb_Wg (q_m_isSpot_3 _ _ _) ?_
            refine nb_Gr ?_
            have E35 : nb_i2z 1 = 1 := by decide
            refine nb_Wg (q_m_isSpot_5 _ _ _ _) ?_
            simp only [E35]
            clear E35
            refine nb_Gs ?_
            show nb_W 202 4 [(20, 603), (0, l1), (0, l2)] [(0, 1)] (nb_wr (nb_wr M 603 0 0) 603 11 0) _
            refine nb_Wg (q_m_moves_4 _ _ _ _ _) ?_
            refine nb_Gf (by decide) ?_
            refine nb_Gr ?_
            have E36 : nb_rd (nb_wr (nb_wr M 603 0 0) 603 11 0) 603 17 = 608 := W2.m17
            refine nb_Wg (q_m_moves_7 _ _ _ _ (by omega)) ?_
            simp only [E36]
            clear E36
            refine nb_Gb ?_
            refine nb_Wg (q_m_isWaiting_0 _ _ _) ?_
            refine nb_Gb ?_
            have E37 : nb_mul 8 l1 = 8 * l1 := nb_mul_eq (by omega) (by omega)
            have E38 : nb_add 12 (8 * l1) = 12 + 8 * l1 := (nb_add_eq (x := 12) (y := 8 * l1) (by omega) (by omega)).trans (by omega)
            have E39 : nb_add (12 + 8 * l1) 0 = 12 + 8 * l1 := (nb_add_eq (x := 12 + 8 * l1) (y := 0) (by omega) (by omega)).trans (by omega)
            have N40 : nb_ln (nb_wr (nb_wr M 603 0 0) 603 11 0) 608 = 108 := W2.lk (by decide) (by decide +kernel)
            have E41 : nb_rd (nb_wr (nb_wr M 603 0 0) 603 11 0) 608 (12 + 8 * l1) = M.1 608 (12 + 8 * l1) := nb_rdw (Or.inl (by decide)) (nb_rdw (Or.inl (by decide)) (nb_rd_1 _ _ _))
            refine nb_Wg (q_m_its_0 _ _ _ _ (by omega) (by rw [E37, E38, E39]; first | done | omega) (by rw [E37, E38, E39, N40]; first | done | omega)) ?_
            simp only [E37, E38, E39, E41]
            clear E37 E38 E39 N40 E41
            refine nb_Gs ?_
            show nb_W 126 1 [(3, 608), (0, l1)] [(0, M.1 608 (12 + 8 * l1))] (nb_wr (nb_wr M 603 0 0) 603 11 0) _
            refine nb_Wg (q_m_isWaiting_1 _ _ _ _) ?_
            refine nb_Gi (fun c64 => ?_) (fun c64 => ?_)
            · have H := nb_Hw ((nb_Hu H).1 c64)
              refine nb_Gr ?_
              refine nb_Wg (q_m_isWaiting_2 _ _ _) ?_
              refine nb_Gr ?_
              have E42 : nb_i2z 1 = 1 := by decide
              refine nb_Wg (q_m_isWaiting_4 _ _ _ _) ?_
              simp only [E42]
              clear E42
              refine nb_Gs ?_
              show nb_W 202 8 [(20, 603), (0, l1), (0, l2)] [(0, 1)] (nb_wr (nb_wr M 603 0 0) 603 11 0) _
              refine nb_Wg (q_m_moves_8 _ _ _ _ _) ?_
              refine nb_Gf (by decide) ?_
              refine nb_Gr ?_
              have E43 : nb_rd (nb_wr (nb_wr M 603 0 0) 603 11 0) 603 17 = 608 := W2.m17
              refine nb_Wg (q_m_moves_9 _ _ _ _ (by omega)) ?_
              simp only [E43]
              clear E43
              refine nb_Gb ?_
              have E44 : nb_mul 8 l1 = 8 * l1 := nb_mul_eq (by omega) (by omega)
              have E45 : nb_add 12 (8 * l1) = 12 + 8 * l1 := (nb_add_eq (x := 12) (y := 8 * l1) (by omega) (by omega)).trans (by omega)
              have E46 : nb_add (12 + 8 * l1) 1 = 12 + 8 * l1 + 1 := nb_add_eq (by omega) (by omega)
              have N47 : nb_ln (nb_wr (nb_wr M 603 0 0) 603 11 0) 608 = 108 := W2.lk (by decide) (by decide +kernel)
              have E48 : nb_rd (nb_wr (nb_wr M 603 0 0) 603 11 0) 608 (12 + 8 * l1 + 1) = M.1 608 (12 + 8 * l1 + 1) := nb_rdw (Or.inl (by decide)) (nb_rdw (Or.inl (by decide)) (nb_rd_1 _ _ _))
              refine nb_Wg (q_m_its_0 _ _ _ _ (by omega) (by rw [E44, E45, E46]; first | done | omega) (by rw [E44, E45, E46, N47]; first | done | omega)) ?_
              simp only [E44, E45, E46, E48]
              clear E44 E45 E46 N47 E48
              refine nb_Gs ?_
              show nb_W 202 10 [(20, 603), (0, l1), (0, l2)] [(0, M.1 608 (12 + 8 * l1 + 1))] (nb_wr (nb_wr M 603 0 0) 603 11 0) _
              refine nb_Wg (q_m_moves_10 _ _ _ _ _) ?_
              refine nb_Gi (fun c60 => ?_) (fun c60 => ?_)
              · have H := nb_Hw ((nb_Hu H).1 c60)
                refine nb_Gr ?_
                refine nb_Wg (q_m_moves_11 _ _ _ _ (by omega)) ?_
                refine nb_Gb ?_
                refine nb_Wg (q_m_isNot_0 _ _ _ (by omega)) ?_
                have W49 : nb_Lay (nb_wr (nb_wr (nb_wr M 603 0 0) 603 11 0) 603 11 5) := W2.wr (fun w => (nb_nlit (by decide) (by decide)))
                refine nb_Gr ?_
                refine nb_Wg (q_m_isNot_1 _ _ _) ?_
                refine nb_Gs ?_
                show nb_W 202 12 [(20, 603), (0, l1), (0, l2)] [(0, 0)] (nb_wr (nb_wr (nb_wr M 603 0 0) 603 11 0) 603 11 5) _
                have E50 : nb_i2z 0 = 0 := by decide
                refine nb_Wg (q_m_moves_12 _ _ _ _ _) ?_
                simp only [E50]
                clear E50
                refine nb_Gs ?_
                exact nb_Hu H W49
              · have H := nb_Hw ((nb_Hu H).2 (by omega))
                have c60 : M.1 608 (12 + 8 * l1 + 1) ≠ l2 := by omega
                refine nb_Gr ?_
                refine nb_Wg (q_m_moves_13 _ _ _ _ (by omega)) ?_
                refine nb_Gb ?_
                refine nb_W.imp (nb_Hu H) (fun r M52 H => ?_)
                obtain ⟨rfl, W53, H⟩ := H
                replace H := nb_Hw H
                show nb_W 202 14 [(20, 603), (0, l1), (0, l2)] [] M52 _
                obtain ⟨p0_, p1_, p2_, p3_, p4_, p5_, p6_, p7_, H⟩ := H
                replace H := nb_Hw H
                have E54 : nb_rd M52 603 17 = 608 := W53.m17
                have E55 : nb_mul 8 l1 = 8 * l1 := nb_mul_eq (by omega) (by omega)
                have E56 : nb_add 12 (8 * l1) = 12 + 8 * l1 := (nb_add_eq (x := 12) (y := 8 * l1) (by omega) (by omega)).trans (by omega)
                have E57 : nb_add (12 + 8 * l1) 1 = 12 + 8 * l1 + 1 := nb_add_eq (by omega) (by omega)
                have N58 : nb_ln M52 608 = 108 := W53.lk (by decide) (by decide +kernel)
                refine nb_Wg (q_m_moves_14 _ _ _ _ (by omega) (by rw [E54]; first | done | omega) (by rw [E54]; first | done | omega) (by rw [E55, E56, E57]; first | done | omega) (by rw [E55, E56, E57, E54, N58]; first | done | omega)) ?_
                simp only [E54, E55, E56, E57]
                clear E54 E55 E56 E57 N58
                have W59 : nb_Lay (nb_wr M52 608 (12 + 8 * l1 + 1) l2) := W53.wr (fun w => (nb_nnum (by decide) (by decide)))
                refine nb_Gr ?_
                refine nb_Wg (q_m_moves_15 _ _ _ _) ?_
                refine nb_Gs ?_
                exact nb_Hu H W59
            · have H := nb_Hw ((nb_Hu H).2 (by omega))
              have c64 : M.1 608 (12 + 8 * l1) ≠ 1 := by omega
              refine nb_Gr ?_
              refine nb_Wg (q_m_isWaiting_3 _ _ _) ?_
              refine nb_Gr ?_
              have E61 : nb_i2z 0 = 0 := by decide
              refine nb_Wg (q_m_isWaiting_4 _ _ _ _) ?_
              simp only [E61]
              clear E61
              refine nb_Gs ?_
              show nb_W 202 8 [(20, 603), (0, l1), (0, l2)] [(0, 0)] (nb_wr (nb_wr M 603 0 0) 603 11 0) _
              refine nb_Wg (q_m_moves_8 _ _ _ _ _) ?_
              refine nb_Gt (by decide) ?_
              refine nb_Gr ?_
              refine nb_Wg (q_m_moves_11 _ _ _ _ (by omega)) ?_
              refine nb_Gb ?_
              refine nb_Wg (q_m_isNot_0 _ _ _ (by omega)) ?_
              have W62 : nb_Lay (nb_wr (nb_wr (nb_wr M 603 0 0) 603 11 0) 603 11 5) := W2.wr (fun w => (nb_nlit (by decide) (by decide)))
              refine nb_Gr ?_
              refine nb_Wg (q_m_isNot_1 _ _ _) ?_
              refine nb_Gs ?_
              show nb_W 202 12 [(20, 603), (0, l1), (0, l2)] [(0, 0)] (nb_wr (nb_wr (nb_wr M 603 0 0) 603 11 0) 603 11 5) _
              have E63 : nb_i2z 0 = 0 := by decide
              refine nb_Wg (q_m_moves_12 _ _ _ _ _) ?_
              simp only [E63]
              clear E63
              refine nb_Gs ?_
              exact nb_Hu H W62

theorem w_m_lets_0 {l1 l2 : Int} {M : nb_M} {Q : List nb_V → nb_M → Prop} (W : nb_Lay M) (H : 0 ≤ M.1 603 14 ∧ M.1 603 14 ≤ 1 ∧ (M.1 603 14 = 0 → (nb_Lay (nb_wr (nb_wr (nb_wr M 603 0 0) 603 11 0) 603 11 1) → Q [(0, 0)] (nb_wr (nb_wr (nb_wr M 603 0 0) 603 11 0) 603 11 1))) ∧ (M.1 603 14 ≠ 0 → 0 ≤ M.1 606 5 ∧ M.1 606 5 ≤ 10 ∧ (l1 < 0 → (nb_Lay (nb_wr (nb_wr (nb_wr M 603 0 0) 603 11 0) 603 11 1) → Q [(0, 0)] (nb_wr (nb_wr (nb_wr M 603 0 0) 603 11 0) 603 11 1))) ∧ (0 ≤ l1 → (M.1 606 5 - 1 < l1 → (nb_Lay (nb_wr (nb_wr (nb_wr M 603 0 0) 603 11 0) 603 11 1) → Q [(0, 0)] (nb_wr (nb_wr (nb_wr M 603 0 0) 603 11 0) 603 11 1))) ∧ (l1 ≤ M.1 606 5 - 1 → (l2 < 0 → (nb_Lay (nb_wr (nb_wr (nb_wr M 603 0 0) 603 11 0) 603 11 1) → Q [(0, 0)] (nb_wr (nb_wr (nb_wr M 603 0 0) 603 11 0) 603 11 1))) ∧ (0 ≤ l2 → (M.1 606 5 - 1 < l2 → (nb_Lay (nb_wr (nb_wr (nb_wr M 603 0 0) 603 11 0) 603 11 1) → Q [(0, 0)] (nb_wr (nb_wr (nb_wr M 603 0 0) 603 11 0) 603 11 1))) ∧ (l2 ≤ M.1 606 5 - 1 → (l1 = l2 → (nb_Lay (nb_wr (nb_wr (nb_wr M 603 0 0) 603 11 0) 603 11 1) → Q [(0, 0)] (nb_wr (nb_wr (nb_wr M 603 0 0) 603 11 0) 603 11 1))) ∧ (l1 ≠ l2 → (M.1 608 (12 + 8 * l1) = 1 → (M.1 608 (12 + 8 * l2) = 1 → (M.1 608 (12 + 8 * l2 + 3) < M.1 608 (12 + 8 * l1 + 3) → (nb_Lay (nb_wr (nb_wr (nb_wr M 603 0 0) 603 11 0) 603 11 5) → Q [(0, 0)] (nb_wr (nb_wr (nb_wr M 603 0 0) 603 11 0) 603 11 5))) ∧ (M.1 608 (12 + 8 * l1 + 3) ≤ M.1 608 (12 + 8 * l2 + 3) → nb_W 200 0 [(20, 603), (98, 0)] [] (nb_wr (nb_wr M 603 0 0) 603 11 0) (fun r M69 => r = [] ∧ nb_Lay M69 ∧ -2147483648 ≤ 8 * l1 ∧ 8 * l1 ≤ 2147483647 ∧ -2147483648 ≤ 12 + 8 * l1 ∧ 12 + 8 * l1 ≤ 2147483647 ∧ -2147483648 ≤ 12 + 8 * l1 + 3 ∧ 12 + 8 * l1 + 3 ≤ 2147483647 ∧ -2147483648 ≤ 8 * l2 ∧ 8 * l2 ≤ 2147483647 ∧ -2147483648 ≤ 12 + 8 * l2 ∧ 12 + 8 * l2 ≤ 2147483647 ∧ -2147483648 ≤ 12 + 8 * l2 + 3 ∧ 12 + 8 * l2 + 3 ≤ 2147483647 ∧ 0 ≤ 12 + 8 * l2 + 3 ∧ 12 + 8 * l2 + 3 < 108 ∧ -2147483648 ≤ M69.1 608 (12 + 8 * l2 + 3) + 1 ∧ M69.1 608 (12 + 8 * l2 + 3) + 1 ≤ 2147483647 ∧ 0 ≤ 12 + 8 * l1 + 3 ∧ 12 + 8 * l1 + 3 < 108 ∧ (nb_Lay (nb_wr M69 608 (12 + 8 * l1 + 3) (M69.1 608 (12 + 8 * l2 + 3) + 1)) → Q [(0, 1)] (nb_wr M69 608 (12 + 8 * l1 + 3) (M69.1 608 (12 + 8 * l2 + 3) + 1)))))) ∧ (M.1 608 (12 + 8 * l2) ≠ 1 → (nb_Lay (nb_wr (nb_wr (nb_wr M 603 0 0) 603 11 0) 603 11 5) → Q [(0, 0)] (nb_wr (nb_wr (nb_wr M 603 0 0) 603 11 0) 603 11 5)))) ∧ (M.1 608 (12 + 8 * l1) ≠ 1 → (nb_Lay (nb_wr (nb_wr (nb_wr M 603 0 0) 603 11 0) 603 11 5) → Q [(0, 0)] (nb_wr (nb_wr (nb_wr M 603 0 0) 603 11 0) 603 11 5)))))))))) :
    nb_W 203 0 [(20, 603), (0, l1), (0, l2)] [] M Q := by
  replace H := nb_Hw H
  refine nb_Wg (q_m_lets_0 _ _ _ _ (by omega)) ?_
  refine nb_Gb ?_
  refine nb_Wg (q_m_good_0 _ _ (by omega)) ?_
  have W1 : nb_Lay (nb_wr M 603 0 0) := W.wr (fun w => (nb_nlit (by decide) (by decide)))
  refine nb_Gr ?_
  refine nb_Wg (q_m_good_1 _ _ (by omega)) ?_
  have W2 : nb_Lay (nb_wr (nb_wr M 603 0 0) 603 11 0) := W1.wr (fun w => (nb_nlit (by decide) (by decide)))
  refine nb_Gr ?_
  refine nb_Wg (q_m_good_2 _ _) ?_
  refine nb_Gs ?_
  show nb_W 203 1 [(20, 603), (0, l1), (0, l2)] [] (nb_wr (nb_wr M 603 0 0) 603 11 0) _
  refine nb_Wg (q_m_lets_1 _ _ _ _ (by omega)) ?_
  refine nb_Gb ?_
  obtain ⟨p0_, p1_, H⟩ := H
  replace H := nb_Hw H
  have E3 : nb_rd (nb_wr (nb_wr M 603 0 0) 603 11 0) 603 14 = M.1 603 14 := nb_rdw (Or.inr (by decide)) (nb_rdw (Or.inr (by decide)) (nb_rd_1 _ _ _))
  refine nb_Wg (q_m_isPerson_0 _ _ _ (by omega)) ?_
  simp only [E3]
  clear E3
  refine nb_Gi (fun c100 => ?_) (fun c100 => ?_)
  · have H := nb_Hw ((nb_Hu H).1 c100)
    refine nb_Gr ?_
    refine nb_Wg (q_m_isPerson_4 _ _ _) ?_
    refine nb_Gr ?_
    have E4 : nb_i2z 0 = 0 := by decide
    refine nb_Wg (q_m_isPerson_5 _ _ _ _) ?_
    simp only [E4]
    clear E4
    refine nb_Gs ?_
    show nb_W 203 2 [(20, 603), (0, l1), (0, l2)] [(0, 0)] (nb_wr (nb_wr M 603 0 0) 603 11 0) _
    refine nb_Wg (q_m_lets_2 _ _ _ _ _) ?_
    refine nb_Gt (by decide) ?_
    refine nb_Gr ?_
    refine nb_Wg (q_m_lets_6 _ _ _ _ (by omega)) ?_
    refine nb_Gb ?_
    refine nb_Wg (q_m_isNot_0 _ _ _ (by omega)) ?_
    have W5 : nb_Lay (nb_wr (nb_wr (nb_wr M 603 0 0) 603 11 0) 603 11 1) := W2.wr (fun w => (nb_nlit (by decide) (by decide)))
    refine nb_Gr ?_
    refine nb_Wg (q_m_isNot_1 _ _ _) ?_
    refine nb_Gs ?_
    show nb_W 203 7 [(20, 603), (0, l1), (0, l2)] [(0, 0)] (nb_wr (nb_wr (nb_wr M 603 0 0) 603 11 0) 603 11 1) _
    have E6 : nb_i2z 0 = 0 := by decide
    refine nb_Wg (q_m_lets_7 _ _ _ _ _) ?_
    simp only [E6]
    clear E6
    refine nb_Gs ?_
    exact nb_Hu H W5
  · have H := nb_Hw ((nb_Hu H).2 (by omega))
    have c100 : M.1 603 14 ≠ 0 := by omega
    refine nb_Gr ?_
    obtain ⟨p0_, p1_, H⟩ := H
    replace H := nb_Hw H
    have E7 : nb_rd (nb_wr (nb_wr M 603 0 0) 603 11 0) 603 15 = 606 := W2.m15
    have N8 : nb_ln (nb_wr (nb_wr M 603 0 0) 603 11 0) 606 = 347 := W2.lk (by decide) (by decide +kernel)
    have E9 : nb_rd (nb_wr (nb_wr M 603 0 0) 603 11 0) 606 5 = M.1 606 5 := nb_rdw (Or.inl (by decide)) (nb_rdw (Or.inl (by decide)) (nb_rd_1 _ _ _))
    have E10 : nb_sub (M.1 606 5) 1 = M.1 606 5 - 1 := nb_sub_eq (by omega) (by omega)
    refine nb_Wg (q_m_isPerson_1 _ _ _ (by omega) (by rw [E7]; first | done | omega) (by omega) (by rw [E7, N8]; first | done | omega)) ?_
    simp only [E7, E9, E10]
    clear E7 N8 E9 E10
    refine nb_Gb ?_
    refine nb_Wg (q_m_within_0 _ _ _ _) ?_
    refine nb_Gi (fun c99 => ?_) (fun c99 => ?_)
    · have H := nb_Hw ((nb_Hu H).1 c99)
      refine nb_Gr ?_
      refine nb_Wg (q_m_within_3 _ _ _ _) ?_
      refine nb_Gr ?_
      have E11 : nb_i2z 0 = 0 := by decide
      refine nb_Wg (q_m_within_4 _ _ _ _ _) ?_
      simp only [E11]
      clear E11
      refine nb_Gs ?_
      show nb_W 116 2 [(20, 603), (0, l1)] [(0, 0)] (nb_wr (nb_wr M 603 0 0) 603 11 0) _
      refine nb_Wg (q_m_isPerson_2 _ _ _ _) ?_
      refine nb_Gt (by decide) ?_
      refine nb_Gr ?_
      refine nb_Wg (q_m_isPerson_4 _ _ _) ?_
      refine nb_Gr ?_
      have E12 : nb_i2z 0 = 0 := by decide
      refine nb_Wg (q_m_isPerson_5 _ _ _ _) ?_
      simp only [E12]
      clear E12
      refine nb_Gs ?_
      show nb_W 203 2 [(20, 603), (0, l1), (0, l2)] [(0, 0)] (nb_wr (nb_wr M 603 0 0) 603 11 0) _
      refine nb_Wg (q_m_lets_2 _ _ _ _ _) ?_
      refine nb_Gt (by decide) ?_
      refine nb_Gr ?_
      refine nb_Wg (q_m_lets_6 _ _ _ _ (by omega)) ?_
      refine nb_Gb ?_
      refine nb_Wg (q_m_isNot_0 _ _ _ (by omega)) ?_
      have W13 : nb_Lay (nb_wr (nb_wr (nb_wr M 603 0 0) 603 11 0) 603 11 1) := W2.wr (fun w => (nb_nlit (by decide) (by decide)))
      refine nb_Gr ?_
      refine nb_Wg (q_m_isNot_1 _ _ _) ?_
      refine nb_Gs ?_
      show nb_W 203 7 [(20, 603), (0, l1), (0, l2)] [(0, 0)] (nb_wr (nb_wr (nb_wr M 603 0 0) 603 11 0) 603 11 1) _
      have E14 : nb_i2z 0 = 0 := by decide
      refine nb_Wg (q_m_lets_7 _ _ _ _ _) ?_
      simp only [E14]
      clear E14
      refine nb_Gs ?_
      exact nb_Hu H W13
    · have H := nb_Hw ((nb_Hu H).2 (by omega))
      have c99 : 0 ≤ l1 := by omega
      refine nb_Gr ?_
      refine nb_Wg (q_m_within_1 _ _ _ _) ?_
      refine nb_Gi (fun c98 => ?_) (fun c98 => ?_)
      · have H := nb_Hw ((nb_Hu H).1 c98)
        refine nb_Gr ?_
        refine nb_Wg (q_m_within_3 _ _ _ _) ?_
        refine nb_Gr ?_
        have E15 : nb_i2z 0 = 0 := by decide
        refine nb_Wg (q_m_within_4 _ _ _ _ _) ?_
        simp only [E15]
        clear E15
        refine nb_Gs ?_
        show nb_W 116 2 [(20, 603), (0, l1)] [(0, 0)] (nb_wr (nb_wr M 603 0 0) 603 11 0) _
        refine nb_Wg (q_m_isPerson_2 _ _ _ _) ?_
        refine nb_Gt (by decide) ?_
        refine nb_Gr ?_
        refine nb_Wg (q_m_isPerson_4 _ _ _) ?_
        refine nb_Gr ?_
        have E16 : nb_i2z 0 = 0 := by decide
        refine nb_Wg (q_m_isPerson_5 _ _ _ _) ?_
        simp only [E16]
        clear E16
        refine nb_Gs ?_
        show nb_W 203 2 [(20, 603), (0, l1), (0, l2)] [(0, 0)] (nb_wr (nb_wr M 603 0 0) 603 11 0) _
        refine nb_Wg (q_m_lets_2 _ _ _ _ _) ?_
        refine nb_Gt (by decide) ?_
        refine nb_Gr ?_
        refine nb_Wg (q_m_lets_6 _ _ _ _ (by omega)) ?_
        refine nb_Gb ?_
        refine nb_Wg (q_m_isNot_0 _ _ _ (by omega)) ?_
        have W17 : nb_Lay (nb_wr (nb_wr (nb_wr M 603 0 0) 603 11 0) 603 11 1) := W2.wr (fun w => (nb_nlit (by decide) (by decide)))
        refine nb_Gr ?_
        refine nb_Wg (q_m_isNot_1 _ _ _) ?_
        refine nb_Gs ?_
        show nb_W 203 7 [(20, 603), (0, l1), (0, l2)] [(0, 0)] (nb_wr (nb_wr (nb_wr M 603 0 0) 603 11 0) 603 11 1) _
        have E18 : nb_i2z 0 = 0 := by decide
        refine nb_Wg (q_m_lets_7 _ _ _ _ _) ?_
        simp only [E18]
        clear E18
        refine nb_Gs ?_
        exact nb_Hu H W17
      · have H := nb_Hw ((nb_Hu H).2 (by omega))
        have c98 : l1 ≤ M.1 606 5 - 1 := by omega
        refine nb_Gr ?_
        refine nb_Wg (q_m_within_2 _ _ _ _) ?_
        refine nb_Gr ?_
        have E19 : nb_i2z 1 = 1 := by decide
        refine nb_Wg (q_m_within_4 _ _ _ _ _) ?_
        simp only [E19]
        clear E19
        refine nb_Gs ?_
        show nb_W 116 2 [(20, 603), (0, l1)] [(0, 1)] (nb_wr (nb_wr M 603 0 0) 603 11 0) _
        refine nb_Wg (q_m_isPerson_2 _ _ _ _) ?_
        refine nb_Gf (by decide) ?_
        refine nb_Gr ?_
        refine nb_Wg (q_m_isPerson_3 _ _ _) ?_
        refine nb_Gr ?_
        have E20 : nb_i2z 1 = 1 := by decide
        refine nb_Wg (q_m_isPerson_5 _ _ _ _) ?_
        simp only [E20]
        clear E20
        refine nb_Gs ?_
        show nb_W 203 2 [(20, 603), (0, l1), (0, l2)] [(0, 1)] (nb_wr (nb_wr M 603 0 0) 603 11 0) _
        refine nb_Wg (q_m_lets_2 _ _ _ _ _) ?_
        refine nb_Gf (by decide) ?_
        refine nb_Gr ?_
        refine nb_Wg (q_m_lets_3 _ _ _ _ (by omega)) ?_
        refine nb_Gb ?_
        have E21 : nb_rd (nb_wr (nb_wr M 603 0 0) 603 11 0) 603 14 = M.1 603 14 := nb_rdw (Or.inr (by decide)) (nb_rdw (Or.inr (by decide)) (nb_rd_1 _ _ _))
        refine nb_Wg (q_m_isPerson_0 _ _ _ (by omega)) ?_
        simp only [E21]
        clear E21
        refine nb_Gf (by omega) ?_
        refine nb_Gr ?_
        have E22 : nb_rd (nb_wr (nb_wr M 603 0 0) 603 11 0) 603 15 = 606 := W2.m15
        have N23 : nb_ln (nb_wr (nb_wr M 603 0 0) 603 11 0) 606 = 347 := W2.lk (by decide) (by decide +kernel)
        have E24 : nb_rd (nb_wr (nb_wr M 603 0 0) 603 11 0) 606 5 = M.1 606 5 := nb_rdw (Or.inl (by decide)) (nb_rdw (Or.inl (by decide)) (nb_rd_1 _ _ _))
        have E25 : nb_sub (M.1 606 5) 1 = M.1 606 5 - 1 := nb_sub_eq (by omega) (by omega)
        refine nb_Wg (q_m_isPerson_1 _ _ _ (by omega) (by rw [E22]; first | done | omega) (by omega) (by rw [E22, N23]; first | done | omega)) ?_
        simp only [E22, E24, E25]
        clear E22 N23 E24 E25
        refine nb_Gb ?_
        refine nb_Wg (q_m_within_0 _ _ _ _) ?_
        refine nb_Gi (fun c97 => ?_) (fun c97 => ?_)
        · have H := nb_Hw ((nb_Hu H).1 c97)
          refine nb_Gr ?_
          refine nb_Wg (q_m_within_3 _ _ _ _) ?_
          refine nb_Gr ?_
          have E26 : nb_i2z 0 = 0 := by decide
          refine nb_Wg (q_m_within_4 _ _ _ _ _) ?_
          simp only [E26]
          clear E26
          refine nb_Gs ?_
          show nb_W 116 2 [(20, 603), (0, l2)] [(0, 0)] (nb_wr (nb_wr M 603 0 0) 603 11 0) _
          refine nb_Wg (q_m_isPerson_2 _ _ _ _) ?_
          refine nb_Gt (by decide) ?_
          refine nb_Gr ?_
          refine nb_Wg (q_m_isPerson_4 _ _ _) ?_
          refine nb_Gr ?_
          have E27 : nb_i2z 0 = 0 := by decide
          refine nb_Wg (q_m_isPerson_5 _ _ _ _) ?_
          simp only [E27]
          clear E27
          refine nb_Gs ?_
          show nb_W 203 4 [(20, 603), (0, l1), (0, l2)] [(0, 0)] (nb_wr (nb_wr M 603 0 0) 603 11 0) _
          refine nb_Wg (q_m_lets_4 _ _ _ _ _) ?_
          refine nb_Gt (by decide) ?_
          refine nb_Gr ?_
          refine nb_Wg (q_m_lets_6 _ _ _ _ (by omega)) ?_
          refine nb_Gb ?_
          refine nb_Wg (q_m_isNot_0 _ _ _ (by omega)) ?_
          have W28 : nb_Lay (nb_wr (nb_wr (nb_wr M 603 0 0) 603 11 0) 603 11 1) := W2.wr (fun w => (nb_nlit (by decide) (by decide)))
          refine nb_Gr ?_
          refine nb_Wg (q_m_isNot_1 _ _ _) ?_
          refine nb_Gs ?_
          show nb_W 203 7 [(20, 603), (0, l1), (0, l2)] [(0, 0)] (nb_wr (nb_wr (nb_wr M 603 0 0) 603 11 0) 603 11 1) _
          have E29 : nb_i2z 0 = 0 := by decide
          refine nb_Wg (q_m_lets_7 _ _ _ _ _) ?_
          simp only [E29]
          clear E29
          refine nb_Gs ?_
          exact nb_Hu H W28
        · have H := nb_Hw ((nb_Hu H).2 (by omega))
          have c97 : 0 ≤ l2 := by omega
          refine nb_Gr ?_
          refine nb_Wg (q_m_within_1 _ _ _ _) ?_
          refine nb_Gi (fun c96 => ?_) (fun c96 => ?_)
          · have H := nb_Hw ((nb_Hu H).1 c96)
            refine nb_Gr ?_
            refine nb_Wg (q_m_within_3 _ _ _ _) ?_
            refine nb_Gr ?_
            have E30 : nb_i2z 0 = 0 := by decide
            refine nb_Wg (q_m_within_4 _ _ _ _ _) ?_
            simp only [E30]
            clear E30
            refine nb_Gs ?_
            show nb_W 116 2 [(20, 603), (0, l2)] [(0, 0)] (nb_wr (nb_wr M 603 0 0) 603 11 0) _
            refine nb_Wg (q_m_isPerson_2 _ _ _ _) ?_
            refine nb_Gt (by decide) ?_
            refine nb_Gr ?_
            refine nb_Wg (q_m_isPerson_4 _ _ _) ?_
            refine nb_Gr ?_
            have E31 : nb_i2z 0 = 0 := by decide
            refine nb_Wg (q_m_isPerson_5 _ _ _ _) ?_
            simp only [E31]
            clear E31
            refine nb_Gs ?_
            show nb_W 203 4 [(20, 603), (0, l1), (0, l2)] [(0, 0)] (nb_wr (nb_wr M 603 0 0) 603 11 0) _
            refine nb_Wg (q_m_lets_4 _ _ _ _ _) ?_
            refine nb_Gt (by decide) ?_
            refine nb_Gr ?_
            refine nb_Wg (q_m_lets_6 _ _ _ _ (by omega)) ?_
            refine nb_Gb ?_
            refine nb_Wg (q_m_isNot_0 _ _ _ (by omega)) ?_
            have W32 : nb_Lay (nb_wr (nb_wr (nb_wr M 603 0 0) 603 11 0) 603 11 1) := W2.wr (fun w => (nb_nlit (by decide) (by decide)))
            refine nb_Gr ?_
            refine nb_Wg (q_m_isNot_1 _ _ _) ?_
            refine nb_Gs ?_
            show nb_W 203 7 [(20, 603), (0, l1), (0, l2)] [(0, 0)] (nb_wr (nb_wr (nb_wr M 603 0 0) 603 11 0) 603 11 1) _
            have E33 : nb_i2z 0 = 0 := by decide
            refine nb_Wg (q_m_lets_7 _ _ _ _ _) ?_
            simp only [E33]
            clear E33
            refine nb_Gs ?_
            exact nb_Hu H W32
          · have H := nb_Hw ((nb_Hu H).2 (by omega))
            have c96 : l2 ≤ M.1 606 5 - 1 := by omega
            refine nb_Gr ?_
            refine nb_Wg (q_m_within_2 _ _ _ _) ?_
            refine nb_Gr ?_
            have E34 : nb_i2z 1 = 1 := by decide
            refine nb_Wg (q_m_within_4 _ _ _ _ _) ?_
            simp only [E34]
            clear E34
            refine nb_Gs ?_
            show nb_W 116 2 [(20, 603), (0, l2)] [(0, 1)] (nb_wr (nb_wr M 603 0 0) 603 11 0) _
            refine nb_Wg (q_m_isPerson_2 _ _ _ _) ?_
            refine nb_Gf (by decide) ?_
            refine nb_Gr ?_
            refine nb_Wg (q_m_isPerson_3 _ _ _) ?_
            refine nb_Gr ?_
            have E35 : nb_i2z 1 = 1 := by decide
            refine nb_Wg (q_m_isPerson_5 _ _ _ _) ?_
            simp only [E35]
            clear E35
            refine nb_Gs ?_
            show nb_W 203 4 [(20, 603), (0, l1), (0, l2)] [(0, 1)] (nb_wr (nb_wr M 603 0 0) 603 11 0) _
            refine nb_Wg (q_m_lets_4 _ _ _ _ _) ?_
            refine nb_Gf (by decide) ?_
            refine nb_Gr ?_
            refine nb_Wg (q_m_lets_5 _ _ _ _) ?_
            refine nb_Gi (fun c95 => ?_) (fun c95 => ?_)
            · have H := nb_Hw ((nb_Hu H).1 c95)
              refine nb_Gr ?_
              refine nb_Wg (q_m_lets_6 _ _ _ _ (by omega)) ?_
              refine nb_Gb ?_
              refine nb_Wg (q_m_isNot_0 _ _ _ (by omega)) ?_
              have W36 : nb_Lay (nb_wr (nb_wr (nb_wr M 603 0 0) 603 11 0) 603 11 1) := W2.wr (fun w => (nb_nlit (by decide) (by decide)))
              refine nb_Gr ?_
              refine nb_Wg (q_m_isNot_1 _ _ _) ?_
              refine nb_Gs ?_
              show nb_W 203 7 [(20, 603), (0, l1), (0, l2)] [(0, 0)] (nb_wr (nb_wr (nb_wr M 603 0 0) 603 11 0) 603 11 1) _
              have E37 : nb_i2z 0 = 0 := by decide
              refine nb_Wg (q_m_lets_7 _ _ _ _ _) ?_
              simp only [E37]
              clear E37
              refine nb_Gs ?_
              exact nb_Hu H W36
            · have H := nb_Hw ((nb_Hu H).2 (by omega))
              have c95 : l1 ≠ l2 := by omega
              refine nb_Gr ?_
              refine nb_Wg (q_m_lets_8 _ _ _ _ (by omega)) ?_
              refine nb_Gb ?_
              have E38 : nb_rd (nb_wr (nb_wr M 603 0 0) 603 11 0) 603 17 = 608 := W2.m17
              refine nb_Wg (q_m_canNotLet_0 _ _ _ _ (by omega)) ?_
              simp only [E38]
              clear E38
              refine nb_Gb ?_
              refine nb_Wg (q_m_isWaiting_0 _ _ _) ?_
              refine nb_Gb ?_
              have E39 : nb_mul 8 l1 = 8 * l1 := nb_mul_eq (by omega) (by omega)
              have E40 : nb_add 12 (8 * l1) = 12 + 8 * l1 := (nb_add_eq (x := 12) (y := 8 * l1) (by omega) (by omega)).trans (by omega)
              have E41 : nb_add (12 + 8 * l1) 0 = 12 + 8 * l1 := (nb_add_eq (x := 12 + 8 * l1) (y := 0) (by omega) (by omega)).trans (by omega)
              have N42 : nb_ln (nb_wr (nb_wr M 603 0 0) 603 11 0) 608 = 108 := W2.lk (by decide) (by decide +kernel)
              have E43 : nb_rd (nb_wr (nb_wr M 603 0 0) 603 11 0) 608 (12 + 8 * l1) = M.1 608 (12 + 8 * l1) := nb_rdw (Or.inl (by decide)) (nb_rdw (Or.inl (by decide)) (nb_rd_1 _ _ _))
              refine nb_Wg (q_m_its_0 _ _ _ _ (by omega) (by rw [E39, E40, E41]; first | done | omega) (by rw [E39, E40, E41, N42]; first | done | omega)) ?_
              simp only [E39, E40, E41, E43]
              clear E39 E40 E41 N42 E43
              refine nb_Gs ?_
              show nb_W 126 1 [(3, 608), (0, l1)] [(0, M.1 608 (12 + 8 * l1))] (nb_wr (nb_wr M 603 0 0) 603 11 0) _
              refine nb_Wg (q_m_isWaiting_1 _ _ _ _) ?_
              refine nb_Gi (fun c94 => ?_) (fun c94 => ?_)
              · have H := nb_Hw ((nb_Hu H).1 c94)
                refine nb_Gr ?_
                refine nb_Wg (q_m_isWaiting_2 _ _ _) ?_
                refine nb_Gr ?_
                have E44 : nb_i2z 1 = 1 := by decide
                refine nb_Wg (q_m_isWaiting_4 _ _ _ _) ?_
                simp only [E44]
                clear E44
                refine nb_Gs ?_
                show nb_W 175 1 [(20, 603), (0, l1), (0, l2)] [(0, 1)] (nb_wr (nb_wr M 603 0 0) 603 11 0) _
                refine nb_Wg (q_m_canNotLet_1 _ _ _ _ _) ?_
                refine nb_Gf (by decide) ?_
                refine nb_Gr ?_
                have E45 : nb_rd (nb_wr (nb_wr M 603 0 0) 603 11 0) 603 17 = 608 := W2.m17
                refine nb_Wg (q_m_canNotLet_2 _ _ _ _ (by omega)) ?_
                simp only [E45]
                clear E45
                refine nb_Gb ?_
                refine nb_Wg (q_m_isWaiting_0 _ _ _) ?_
                refine nb_Gb ?_
                have E46 : nb_mul 8 l2 = 8 * l2 := nb_mul_eq (by omega) (by omega)
                have E47 : nb_add 12 (8 * l2) = 12 + 8 * l2 := (nb_add_eq (x := 12) (y := 8 * l2) (by omega) (by omega)).trans (by omega)
                have E48 : nb_add (12 + 8 * l2) 0 = 12 + 8 * l2 := (nb_add_eq (x := 12 + 8 * l2) (y := 0) (by omega) (by omega)).trans (by omega)
                have N49 : nb_ln (nb_wr (nb_wr M 603 0 0) 603 11 0) 608 = 108 := W2.lk (by decide) (by decide +kernel)
                have E50 : nb_rd (nb_wr (nb_wr M 603 0 0) 603 11 0) 608 (12 + 8 * l2) = M.1 608 (12 + 8 * l2) := nb_rdw (Or.inl (by decide)) (nb_rdw (Or.inl (by decide)) (nb_rd_1 _ _ _))
                refine nb_Wg (q_m_its_0 _ _ _ _ (by omega) (by rw [E46, E47, E48]; first | done | omega) (by rw [E46, E47, E48, N49]; first | done | omega)) ?_
                simp only [E46, E47, E48, E50]
                clear E46 E47 E48 N49 E50
                refine nb_Gs ?_
                show nb_W 126 1 [(3, 608), (0, l2)] [(0, M.1 608 (12 + 8 * l2))] (nb_wr (nb_wr M 603 0 0) 603 11 0) _
                refine nb_Wg (q_m_isWaiting_1 _ _ _ _) ?_
                refine nb_Gi (fun c89 => ?_) (fun c89 => ?_)
                · have H := nb_Hw ((nb_Hu H).1 c89)
                  refine nb_Gr ?_
                  refine nb_Wg (q_m_isWaiting_2 _ _ _) ?_
                  refine nb_Gr ?_
                  have E51 : nb_i2z 1 = 1 := by decide
                  refine nb_Wg (q_m_isWaiting_4 _ _ _ _) ?_
                  simp only [E51]
                  clear E51
                  refine nb_Gs ?_
                  show nb_W 175 3 [(20, 603), (0, l1), (0, l2)] [(0, 1)] (nb_wr (nb_wr M 603 0 0) 603 11 0) _
                  refine nb_Wg (q_m_canNotLet_3 _ _ _ _ _) ?_
                  refine nb_Gf (by decide) ?_
                  refine nb_Gr ?_
                  have E52 : nb_rd (nb_wr (nb_wr M 603 0 0) 603 11 0) 603 17 = 608 := W2.m17
                  refine nb_Wg (q_m_canNotLet_4 _ _ _ _ (by omega)) ?_
                  simp only [E52]
                  clear E52
                  refine nb_Gb ?_
                  have E53 : nb_mul 8 l1 = 8 * l1 := nb_mul_eq (by omega) (by omega)
                  have E54 : nb_add 12 (8 * l1) = 12 + 8 * l1 := (nb_add_eq (x := 12) (y := 8 * l1) (by omega) (by omega)).trans (by omega)
                  have E55 : nb_add (12 + 8 * l1) 3 = 12 + 8 * l1 + 3 := nb_add_eq (by omega) (by omega)
                  have N56 : nb_ln (nb_wr (nb_wr M 603 0 0) 603 11 0) 608 = 108 := W2.lk (by decide) (by decide +kernel)
                  have E57 : nb_rd (nb_wr (nb_wr M 603 0 0) 603 11 0) 608 (12 + 8 * l1 + 3) = M.1 608 (12 + 8 * l1 + 3) := nb_rdw (Or.inl (by decide)) (nb_rdw (Or.inl (by decide)) (nb_rd_1 _ _ _))
                  refine nb_Wg (q_m_its_0 _ _ _ _ (by omega) (by rw [E53, E54, E55]; first | done | omega) (by rw [E53, E54, E55, N56]; first | done | omega)) ?_
                  simp only [E53, E54, E55, E57]
                  clear E53 E54 E55 N56 E57
                  refine nb_Gs ?_
                  show nb_W 175 5 [(20, 603), (0, l1), (0, l2)] [(0, M.1 608 (12 + 8 * l1 + 3))] (nb_wr (nb_wr M 603 0 0) 603 11 0) _
                  have E58 : nb_rd (nb_wr (nb_wr M 603 0 0) 603 11 0) 603 17 = 608 := W2.m17
                  refine nb_Wg (q_m_canNotLet_5 _ _ _ _ _ (by omega)) ?_
                  simp only [E58]
                  clear E58
                  refine nb_Gb ?_
                  have E59 : nb_mul 8 l2 = 8 * l2 := nb_mul_eq (by omega) (by omega)
                  have E60 : nb_add 12 (8 * l2) = 12 + 8 * l2 := (nb_add_eq (x := 12) (y := 8 * l2) (by omega) (by omega)).trans (by omega)
                  have E61 : nb_add (12 + 8 * l2) 3 = 12 + 8 * l2 + 3 := nb_add_eq (by omega) (by omega)
                  have N62 : nb_ln (nb_wr (nb_wr M 603 0 0) 603 11 0) 608 = 108 := W2.lk (by decide) (by decide +kernel)
                  have E63 : nb_rd (nb_wr (nb_wr M 603 0 0) 603 11 0) 608 (12 + 8 * l2 + 3) = M.1 608 (12 + 8 * l2 + 3) := nb_rdw (Or.inl (by decide)) (nb_rdw (Or.inl (by decide)) (nb_rd_1 _ _ _))
                  refine nb_Wg (q_m_its_0 _ _ _ _ (by omega) (by rw [E59, E60, E61]; first | done | omega) (by rw [E59, E60, E61, N62]; first | done | omega)) ?_
                  simp only [E59, E60, E61, E63]
                  clear E59 E60 E61 N62 E63
                  refine nb_Gs ?_
                  show nb_W 175 6 [(20, 603), (0, l1), (0, l2)] [(0, M.1 608 (12 + 8 * l2 + 3)), (0, M.1 608 (12 + 8 * l1 + 3))] (nb_wr (nb_wr M 603 0 0) 603 11 0) _
                  refine nb_Wg (q_m_canNotLet_6 _ _ _ _ _ _) ?_
                  refine nb_Gi (fun c84 => ?_) (fun c84 => ?_)
                  · have H := nb_Hw ((nb_Hu H).1 c84)
                    refine nb_Gr ?_
                    refine nb_Wg (q_m_canNotLet_7 _ _ _ _) ?_
                    refine nb_Gr ?_
                    have E64 : nb_i2z 1 = 1 := by decide
                    refine nb_Wg (q_m_canNotLet_9 _ _ _ _ _) ?_
                    simp only [E64]
                    clear E64
                    refine nb_Gs ?_
                    show nb_W 203 9 [(20, 603), (0, l1), (0, l2)] [(0, 1)] (nb_wr (nb_wr M 603 0 0) 603 11 0) _
                    refine nb_Wg (q_m_lets_9 _ _ _ _ _) ?_
                    refine nb_Gf (by decide) ?_
                    refine nb_Gr ?_
                    refine nb_Wg (q_m_lets_10 _ _ _ _ (by omega)) ?_
                    refine nb_Gb ?_
                    refine nb_Wg (q_m_isNot_0 _ _ _ (by omega)) ?_
                    have W65 : nb_Lay (nb_wr (nb_wr (nb_wr M 603 0 0) 603 11 0) 603 11 5) := W2.wr (fun w => (nb_nlit (by decide) (by decide)))
                    refine nb_Gr ?_
                    refine nb_Wg (q_m_isNot_1 _ _ _) ?_
                    refine nb_Gs ?_
                    show nb_W 203 11 [(20, 603), (0, l1), (0, l2)] [(0, 0)] (nb_wr (nb_wr (nb_wr M 603 0 0) 603 11 0) 603 11 5) _
                    have E66 : nb_i2z 0 = 0 := by decide
                    refine nb_Wg (q_m_lets_11 _ _ _ _ _) ?_
                    simp only [E66]
                    clear E66
                    refine nb_Gs ?_
                    exact nb_Hu H W65
                  · have H := nb_Hw ((nb_Hu H).2 (by omega))
                    have c84 : M.1 608 (12 + 8 * l1 + 3) ≤ M.1 608 (12 + 8 * l2 + 3) := by omega
                    refine nb_Gr ?_
                    refine nb_Wg (q_m_canNotLet_8 _ _ _ _) ?_
                    refine nb_Gr ?_
                    have E67 : nb_i2z 0 = 0 := by decide
                    refine nb_Wg (q_m_canNotLet_9 _ _ _ _ _) ?_
                    simp only [E67]
                    clear E67
                    refine nb_Gs ?_
                    show nb_W 203 9 [(20, 603), (0, l1), (0, l2)] [(0, 0)] (nb_wr (nb_wr M 603 0 0) 603 11 0) _
                    refine nb_Wg (q_m_lets_9 _ _ _ _ _) ?_
                    refine nb_Gt (by decide) ?_
                    refine nb_Gr ?_
                    refine nb_Wg (q_m_lets_12 _ _ _ _ (by omega)) ?_
                    refine nb_Gb ?_
                    refine nb_W.imp (nb_Hu H) (fun r M69 H => ?_)
                    obtain ⟨rfl, W70, H⟩ := H
                    replace H := nb_Hw H
                    show nb_W 203 13 [(20, 603), (0, l1), (0, l2)] [] M69 _
                    obtain ⟨p0_, p1_, p2_, p3_, p4_, p5_, H⟩ := H
                    replace H := nb_Hw H
                    have E71 : nb_rd M69 603 17 = 608 := W70.m17
                    have E72 : nb_mul 8 l1 = 8 * l1 := nb_mul_eq (by omega) (by omega)
                    have E73 : nb_add 12 (8 * l1) = 12 + 8 * l1 := (nb_add_eq (x := 12) (y := 8 * l1) (by omega) (by omega)).trans (by omega)
                    have E74 : nb_add (12 + 8 * l1) 3 = 12 + 8 * l1 + 3 := nb_add_eq (by omega) (by omega)
                    have E75 : nb_rd M69 603 17 = 608 := W70.m17
                    refine nb_Wg (q_m_lets_13 _ _ _ _ (by omega)) ?_
                    simp only [E71, E72, E73, E74, E75]
                    clear E71 E72 E73 E74 E75
                    refine nb_Gb ?_
                    obtain ⟨p0_, p1_, p2_, p3_, p4_, p5_, p6_, p7_, H⟩ := H
                    replace H := nb_Hw H
                    have E76 : nb_mul 8 l2 = 8 * l2 := nb_mul_eq (by omega) (by omega)
                    have E77 : nb_add 12 (8 * l2) = 12 + 8 * l2 := (nb_add_eq (x := 12) (y := 8 * l2) (by omega) (by omega)).trans (by omega)
                    have E78 : nb_add (12 + 8 * l2) 3 = 12 + 8 * l2 + 3 := nb_add_eq (by omega) (by omega)
                    have N79 : nb_ln M69 608 = 108 := W70.lk (by decide) (by decide +kernel)
                    have E80 : nb_rd M69 608 (12 + 8 * l2 + 3) = M69.1 608 (12 + 8 * l2 + 3) := nb_rd_1 _ _ _
                    refine nb_Wg (q_m_its_0 _ _ _ _ (by omega) (by rw [E76, E77, E78]; first | done | omega) (by rw [E76, E77, E78, N79]; first | done | omega)) ?_
                    simp only [E76, E77, E78, E80]
                    clear E76 E77 E78 N79 E80
                    refine nb_Gs ?_
                    show nb_W 203 14 [(20, 603), (0, l1), (0, l2)] [(0, M69.1 608 (12 + 8 * l2 + 3)), (0, 12 + 8 * l1 + 3), (3, 608)] M69 _
                    obtain ⟨p0_, p1_, p2_, p3_, H⟩ := H
                    replace H := nb_Hw H
                    have E81 : nb_add (M69.1 608 (12 + 8 * l2 + 3)) 1 = M69.1 608 (12 + 8 * l2 + 3) + 1 := nb_add_eq (by omega) (by omega)
                    have N82 : nb_ln M69 608 = 108 := W70.lk (by decide) (by decide +kernel)
                    refine nb_Wg (q_m_lets_14 _ _ _ _ _ _ _ (by omega) (by omega) (by omega) (by rw [N82]; first | done | omega)) ?_
                    simp only [E81]
                    clear E81 N82
                    have W83 : nb_Lay (nb_wr M69 608 (12 + 8 * l1 + 3) (M69.1 608 (12 + 8 * l2 + 3) + 1)) := W70.wr (fun w => (nb_nnum (by decide) (by decide)))
                    refine nb_Gr ?_
                    refine nb_Wg (q_m_lets_15 _ _ _ _) ?_
                    refine nb_Gs ?_
                    exact nb_Hu H W83
                · have H := nb_Hw ((nb_Hu H).2 (by omega))
                  have c89 : M.1 608 (12 + 8 * l2) ≠ 1 := by omega
                  refine nb_Gr ?_
                  refine nb_Wg (q_m_isWaiting_3 _ _ _) ?_
                  refine nb_Gr ?_
                  have E85 : nb_i2z 0 = 0 := by decide
                  refine nb_Wg (q_m_isWaiting_4 _ _ _ _) ?_
                  simp only [E85]
                  clear E85
                  refine nb_Gs ?_
                  show nb_W 175 3 [(20, 603), (0, l1), (0, l2)] [(0, 0)] (nb_wr (nb_wr M 603 0 0) 603 11 0) _
                  refine nb_Wg (q_m_canNotLet_3 _ _ _ _ _) ?_
                  refine nb_Gt (by decide) ?_
                  refine nb_Gr ?_
                  refine nb_Wg (q_m_canNotLet_7 _ _ _ _) ?_
                  refine nb_Gr ?_
                  have E86 : nb_i2z 1 = 1 := by decide
                  refine nb_Wg (q_m_canNotLet_9 _ _ _ _ _) ?_
                  simp only [E86]
                  clear E86
                  refine nb_Gs ?_
                  show nb_W 203 9 [(20, 603), (0, l1), (0, l2)] [(0, 1)] (nb_wr (nb_wr M 603 0 0) 603 11 0) _
                  refine nb_Wg (q_m_lets_9 _ _ _ _ _) ?_
                  refine nb_Gf (by decide) ?_
                  refine nb_Gr ?_
                  refine nb_Wg (q_m_lets_10 _ _ _ _ (by omega)) ?_
                  refine nb_Gb ?_
                  refine nb_Wg (q_m_isNot_0 _ _ _ (by omega)) ?_
                  have W87 : nb_Lay (nb_wr (nb_wr (nb_wr M 603 0 0) 603 11 0) 603 11 5) := W2.wr (fun w => (nb_nlit (by decide) (by decide)))
                  refine nb_Gr ?_
                  refine nb_Wg (q_m_isNot_1 _ _ _) ?_
                  refine nb_Gs ?_
                  show nb_W 203 11 [(20, 603), (0, l1), (0, l2)] [(0, 0)] (nb_wr (nb_wr (nb_wr M 603 0 0) 603 11 0) 603 11 5) _
                  have E88 : nb_i2z 0 = 0 := by decide
                  refine nb_Wg (q_m_lets_11 _ _ _ _ _) ?_
                  simp only [E88]
                  clear E88
                  refine nb_Gs ?_
                  exact nb_Hu H W87
              · have H := nb_Hw ((nb_Hu H).2 (by omega))
                have c94 : M.1 608 (12 + 8 * l1) ≠ 1 := by omega
                refine nb_Gr ?_
                refine nb_Wg (q_m_isWaiting_3 _ _ _) ?_
                refine nb_Gr ?_
                have E90 : nb_i2z 0 = 0 := by decide
                refine nb_Wg (q_m_isWaiting_4 _ _ _ _) ?_
                simp only [E90]
                clear E90
                refine nb_Gs ?_
                show nb_W 175 1 [(20, 603), (0, l1), (0, l2)] [(0, 0)] (nb_wr (nb_wr M 603 0 0) 603 11 0) _
                refine nb_Wg (q_m_canNotLet_1 _ _ _ _ _) ?_
                refine nb_Gt (by decide) ?_
                refine nb_Gr ?_
                refine nb_Wg (q_m_canNotLet_7 _ _ _ _) ?_
                refine nb_Gr ?_
                have E91 : nb_i2z 1 = 1 := by decide
                refine nb_Wg (q_m_canNotLet_9 _ _ _ _ _) ?_
                simp only [E91]
                clear E91
                refine nb_Gs ?_
                show nb_W 203 9 [(20, 603), (0, l1), (0, l2)] [(0, 1)] (nb_wr (nb_wr M 603 0 0) 603 11 0) _
                refine nb_Wg (q_m_lets_9 _ _ _ _ _) ?_
                refine nb_Gf (by decide) ?_
                refine nb_Gr ?_
                refine nb_Wg (q_m_lets_10 _ _ _ _ (by omega)) ?_
                refine nb_Gb ?_
                refine nb_Wg (q_m_isNot_0 _ _ _ (by omega)) ?_
                have W92 : nb_Lay (nb_wr (nb_wr (nb_wr M 603 0 0) 603 11 0) 603 11 5) := W2.wr (fun w => (nb_nlit (by decide) (by decide)))
                refine nb_Gr ?_
                refine nb_Wg (q_m_isNot_1 _ _ _) ?_
                refine nb_Gs ?_
                show nb_W 203 11 [(20, 603), (0, l1), (0, l2)] [(0, 0)] (nb_wr (nb_wr (nb_wr M 603 0 0) 603 11 0) 603 11 5) _
                have E93 : nb_i2z 0 = 0 := by decide
                refine nb_Wg (q_m_lets_11 _ _ _ _ _) ?_
                simp only [E93]
                clear E93
                refine nb_Gs ?_
                exact nb_Hu H W92

theorem w_m_calls_0 {l1 : Int} {v2 : nb_V} {M : nb_M} {Q : List nb_V → nb_M → Prop} (W : nb_Lay M) (H : 0 ≤ M.1 603 14 ∧ M.1 603 14 ≤ 1 ∧ (M.1 603 14 = 0 → (nb_Lay (nb_wr (nb_wr (nb_wr M 603 0 0) 603 11 0) 603 11 1) → Q [(0, (-1))] (nb_wr (nb_wr (nb_wr M 603 0 0) 603 11 0) 603 11 1))) ∧ (M.1 603 14 ≠ 0 → 0 ≤ M.1 606 5 ∧ M.1 606 5 ≤ 10 ∧ (l1 < 0 → (nb_Lay (nb_wr (nb_wr (nb_wr M 603 0 0) 603 11 0) 603 11 1) → Q [(0, (-1))] (nb_wr (nb_wr (nb_wr M 603 0 0) 603 11 0) 603 11 1))) ∧ (0 ≤ l1 → (M.1 606 5 - 1 < l1 → (nb_Lay (nb_wr (nb_wr (nb_wr M 603 0 0) 603 11 0) 603 11 1) → Q [(0, (-1))] (nb_wr (nb_wr (nb_wr M 603 0 0) 603 11 0) 603 11 1))) ∧ (l1 ≤ M.1 606 5 - 1 → (M.1 608 (12 + 8 * l1) = 1 → nb_W 200 0 [(20, 603), (98, 0)] [] (nb_wr (nb_wr M 603 0 0) 603 11 0) (fun r M26 => r = [] ∧ nb_Lay M26 ∧ -2147483648 ≤ 8 * l1 ∧ 8 * l1 ≤ 2147483647 ∧ -2147483648 ≤ 12 + 8 * l1 ∧ 12 + 8 * l1 ≤ 2147483647 ∧ -2147483648 ≤ 12 + 8 * l1 + 2 ∧ 12 + 8 * l1 + 2 ≤ 2147483647 ∧ 0 ≤ 12 + 8 * l1 + 2 ∧ 12 + 8 * l1 + 2 < 108 ∧ -2147483648 ≤ M26.1 608 (12 + 8 * l1 + 2) + 5 ∧ M26.1 608 (12 + 8 * l1 + 2) + 5 ≤ 2147483647 ∧ (99 < M26.1 608 (12 + 8 * l1 + 2) + 5 → (nb_Lay (nb_wr M26 608 (12 + 8 * l1 + 2) 99) → Q [(0, 99)] (nb_wr M26 608 (12 + 8 * l1 + 2) 99))) ∧ (M26.1 608 (12 + 8 * l1 + 2) + 5 ≤ 99 → (nb_Lay (nb_wr M26 608 (12 + 8 * l1 + 2) (M26.1 608 (12 + 8 * l1 + 2) + 5)) → Q [(0, M26.1 608 (12 + 8 * l1 + 2) + 5)] (nb_wr M26 608 (12 + 8 * l1 + 2) (M26.1 608 (12 + 8 * l1 + 2) + 5)))))) ∧ (M.1 608 (12 + 8 * l1) ≠ 1 → (nb_Lay (nb_wr (nb_wr (nb_wr M 603 0 0) 603 11 0) 603 11 5) → Q [(0, (-1))] (nb_wr (nb_wr (nb_wr M 603 0 0) 603 11 0) 603 11 5))))))) :
    nb_W 204 0 [(20, 603), (0, l1), v2] [] M Q := by
  replace H := nb_Hw H
  refine nb_Wg (q_m_calls_0 _ _ _ _ (by omega)) ?_
  refine nb_Gb ?_
  refine nb_Wg (q_m_good_0 _ _ (by omega)) ?_
  have W1 : nb_Lay (nb_wr M 603 0 0) := W.wr (fun w => (nb_nlit (by decide) (by decide)))
  refine nb_Gr ?_
  refine nb_Wg (q_m_good_1 _ _ (by omega)) ?_
  have W2 : nb_Lay (nb_wr (nb_wr M 603 0 0) 603 11 0) := W1.wr (fun w => (nb_nlit (by decide) (by decide)))
  refine nb_Gr ?_
  refine nb_Wg (q_m_good_2 _ _) ?_
  refine nb_Gs ?_
  show nb_W 204 1 [(20, 603), (0, l1), v2] [] (nb_wr (nb_wr M 603 0 0) 603 11 0) _
  refine nb_Wg (q_m_calls_1 _ _ _ _ (by omega)) ?_
  refine nb_Gb ?_
  obtain ⟨p0_, p1_, H⟩ := H
  replace H := nb_Hw H
  have E3 : nb_rd (nb_wr (nb_wr M 603 0 0) 603 11 0) 603 14 = M.1 603 14 := nb_rdw (Or.inr (by decide)) (nb_rdw (Or.inr (by decide)) (nb_rd_1 _ _ _))
  refine nb_Wg (q_m_isPerson_0 _ _ _ (by omega)) ?_
  simp only [E3]
  clear E3
  refine nb_Gi (fun c56 => ?_) (fun c56 => ?_)
  · have H := nb_Hw ((nb_Hu H).1 c56)
    refine nb_Gr ?_
    refine nb_Wg (q_m_isPerson_4 _ _ _) ?_
    refine nb_Gr ?_
    have E4 : nb_i2z 0 = 0 := by decide
    refine nb_Wg (q_m_isPerson_5 _ _ _ _) ?_
    simp only [E4]
    clear E4
    refine nb_Gs ?_
    show nb_W 204 2 [(20, 603), (0, l1), v2] [(0, 0)] (nb_wr (nb_wr M 603 0 0) 603 11 0) _
    refine nb_Wg (q_m_calls_2 _ _ _ _ _) ?_
    refine nb_Gt (by decide) ?_
    refine nb_Gr ?_
    refine nb_Wg (q_m_calls_3 _ _ _ _ (by omega)) ?_
    refine nb_Gb ?_
    refine nb_Wg (q_m_no_0 _ _ _ (by omega)) ?_
    have W5 : nb_Lay (nb_wr (nb_wr (nb_wr M 603 0 0) 603 11 0) 603 11 1) := W2.wr (fun w => (nb_nlit (by decide) (by decide)))
    refine nb_Gr ?_
    refine nb_Wg (q_m_no_1 _ _ _) ?_
    refine nb_Gs ?_
    show nb_W 204 4 [(20, 603), (0, l1), v2] [(0, (-1))] (nb_wr (nb_wr (nb_wr M 603 0 0) 603 11 0) 603 11 1) _
    refine nb_Wg (q_m_calls_4 _ _ _ _ _) ?_
    refine nb_Gs ?_
    exact nb_Hu H W5
  · have H := nb_Hw ((nb_Hu H).2 (by omega))
    have c56 : M.1 603 14 ≠ 0 := by omega
    refine nb_Gr ?_
    obtain ⟨p0_, p1_, H⟩ := H
    replace H := nb_Hw H
    have E6 : nb_rd (nb_wr (nb_wr M 603 0 0) 603 11 0) 603 15 = 606 := W2.m15
    have N7 : nb_ln (nb_wr (nb_wr M 603 0 0) 603 11 0) 606 = 347 := W2.lk (by decide) (by decide +kernel)
    have E8 : nb_rd (nb_wr (nb_wr M 603 0 0) 603 11 0) 606 5 = M.1 606 5 := nb_rdw (Or.inl (by decide)) (nb_rdw (Or.inl (by decide)) (nb_rd_1 _ _ _))
    have E9 : nb_sub (M.1 606 5) 1 = M.1 606 5 - 1 := nb_sub_eq (by omega) (by omega)
    refine nb_Wg (q_m_isPerson_1 _ _ _ (by omega) (by rw [E6]; first | done | omega) (by omega) (by rw [E6, N7]; first | done | omega)) ?_
    simp only [E6, E8, E9]
    clear E6 N7 E8 E9
    refine nb_Gb ?_
    refine nb_Wg (q_m_within_0 _ _ _ _) ?_
    refine nb_Gi (fun c55 => ?_) (fun c55 => ?_)
    · have H := nb_Hw ((nb_Hu H).1 c55)
      refine nb_Gr ?_
      refine nb_Wg (q_m_within_3 _ _ _ _) ?_
      refine nb_Gr ?_
      have E10 : nb_i2z 0 = 0 := by decide
      refine nb_Wg (q_m_within_4 _ _ _ _ _) ?_
      simp only [E10]
      clear E10
      refine nb_Gs ?_
      show nb_W 116 2 [(20, 603), (0, l1)] [(0, 0)] (nb_wr (nb_wr M 603 0 0) 603 11 0) _
      refine nb_Wg (q_m_isPerson_2 _ _ _ _) ?_
      refine nb_Gt (by decide) ?_
      refine nb_Gr ?_
      refine nb_Wg (q_m_isPerson_4 _ _ _) ?_
      refine nb_Gr ?_
      have E11 : nb_i2z 0 = 0 := by decide
      refine nb_Wg (q_m_isPerson_5 _ _ _ _) ?_
      simp only [E11]
      clear E11
      refine nb_Gs ?_
      show nb_W 204 2 [(20, 603), (0, l1), v2] [(0, 0)] (nb_wr (nb_wr M 603 0 0) 603 11 0) _
      refine nb_Wg (q_m_calls_2 _ _ _ _ _) ?_
      refine nb_Gt (by decide) ?_
      refine nb_Gr ?_
      refine nb_Wg (q_m_calls_3 _ _ _ _ (by omega)) ?_
      refine nb_Gb ?_
      refine nb_Wg (q_m_no_0 _ _ _ (by omega)) ?_
      have W12 : nb_Lay (nb_wr (nb_wr (nb_wr M 603 0 0) 603 11 0) 603 11 1) := W2.wr (fun w => (nb_nlit (by decide) (by decide)))
      refine nb_Gr ?_
      refine nb_Wg (q_m_no_1 _ _ _) ?_
      refine nb_Gs ?_
      show nb_W 204 4 [(20, 603), (0, l1), v2] [(0, (-1))] (nb_wr (nb_wr (nb_wr M 603 0 0) 603 11 0) 603 11 1) _
      refine nb_Wg (q_m_calls_4 _ _ _ _ _) ?_
      refine nb_Gs ?_
      exact nb_Hu H W12
    · have H := nb_Hw ((nb_Hu H).2 (by omega))
      have c55 : 0 ≤ l1 := by omega
      refine nb_Gr ?_
      refine nb_Wg (q_m_within_1 _ _ _ _) ?_
      refine nb_Gi (fun c54 => ?_) (fun c54 => ?_)
      · have H := nb_Hw ((nb_Hu H).1 c54)
        refine nb_Gr ?_
        refine nb_Wg (q_m_within_3 _ _ _ _) ?_
        refine nb_Gr ?_
        have E13 : nb_i2z 0 = 0 := by decide
        refine nb_Wg (q_m_within_4 _ _ _ _ _) ?_
        simp only [E13]
        clear E13
        refine nb_Gs ?_
        show nb_W 116 2 [(20, 603), (0, l1)] [(0, 0)] (nb_wr (nb_wr M 603 0 0) 603 11 0) _
        refine nb_Wg (q_m_isPerson_2 _ _ _ _) ?_
        refine nb_Gt (by decide) ?_
        refine nb_Gr ?_
        refine nb_Wg (q_m_isPerson_4 _ _ _) ?_
        refine nb_Gr ?_
        have E14 : nb_i2z 0 = 0 := by decide
        refine nb_Wg (q_m_isPerson_5 _ _ _ _) ?_
        simp only [E14]
        clear E14
        refine nb_Gs ?_
        show nb_W 204 2 [(20, 603), (0, l1), v2] [(0, 0)] (nb_wr (nb_wr M 603 0 0) 603 11 0) _
        refine nb_Wg (q_m_calls_2 _ _ _ _ _) ?_
        refine nb_Gt (by decide) ?_
        refine nb_Gr ?_
        refine nb_Wg (q_m_calls_3 _ _ _ _ (by omega)) ?_
        refine nb_Gb ?_
        refine nb_Wg (q_m_no_0 _ _ _ (by omega)) ?_
        have W15 : nb_Lay (nb_wr (nb_wr (nb_wr M 603 0 0) 603 11 0) 603 11 1) := W2.wr (fun w => (nb_nlit (by decide) (by decide)))
        refine nb_Gr ?_
        refine nb_Wg (q_m_no_1 _ _ _) ?_
        refine nb_Gs ?_
        show nb_W 204 4 [(20, 603), (0, l1), v2] [(0, (-1))] (nb_wr (nb_wr (nb_wr M 603 0 0) 603 11 0) 603 11 1) _
        refine nb_Wg (q_m_calls_4 _ _ _ _ _) ?_
        refine nb_Gs ?_
        exact nb_Hu H W15
      · have H := nb_Hw ((nb_Hu H).2 (by omega))
        have c54 : l1 ≤ M.1 606 5 - 1 := by omega
        refine nb_Gr ?_
        refine nb_Wg (q_m_within_2 _ _ _ _) ?_
        refine nb_Gr ?_
        have E16 : nb_i2z 1 = 1 := by decide
        refine nb_Wg (q_m_within_4 _ _ _ _ _) ?_
        simp only [E16]
        clear E16
        refine nb_Gs ?_
        show nb_W 116 2 [(20, 603), (0, l1)] [(0, 1)] (nb_wr (nb_wr M 603 0 0) 603 11 0) _
        refine nb_Wg (q_m_isPerson_2 _ _ _ _) ?_
        refine nb_Gf (by decide) ?_
        refine nb_Gr ?_
        refine nb_Wg (q_m_isPerson_3 _ _ _) ?_
        refine nb_Gr ?_
        have E17 : nb_i2z 1 = 1 := by decide
        refine nb_Wg (q_m_isPerson_5 _ _ _ _) ?_
        simp only [E17]
        clear E17
        refine nb_Gs ?_
        show nb_W 204 2 [(20, 603), (0, l1), v2] [(0, 1)] (nb_wr (nb_wr M 603 0 0) 603 11 0) _
        refine nb_Wg (q_m_calls_2 _ _ _ _ _) ?_
        refine nb_Gf (by decide) ?_
        refine nb_Gr ?_
        have E18 : nb_rd (nb_wr (nb_wr M 603 0 0) 603 11 0) 603 17 = 608 := W2.m17
        refine nb_Wg (q_m_calls_5 _ _ _ _ (by omega)) ?_
        simp only [E18]
        clear E18
        refine nb_Gb ?_
        refine nb_Wg (q_m_isWaiting_0 _ _ _) ?_
        refine nb_Gb ?_
        have E19 : nb_mul 8 l1 = 8 * l1 := nb_mul_eq (by omega) (by omega)
        have E20 : nb_add 12 (8 * l1) = 12 + 8 * l1 := (nb_add_eq (x := 12) (y := 8 * l1) (by omega) (by omega)).trans (by omega)
        have E21 : nb_add (12 + 8 * l1) 0 = 12 + 8 * l1 := (nb_add_eq (x := 12 + 8 * l1) (y := 0) (by omega) (by omega)).trans (by omega)
        have N22 : nb_ln (nb_wr (nb_wr M 603 0 0) 603 11 0) 608 = 108 := W2.lk (by decide) (by decide +kernel)
        have E23 : nb_rd (nb_wr (nb_wr M 603 0 0) 603 11 0) 608 (12 + 8 * l1) = M.1 608 (12 + 8 * l1) := nb_rdw (Or.inl (by decide)) (nb_rdw (Or.inl (by decide)) (nb_rd_1 _ _ _))
        refine nb_Wg (q_m_its_0 _ _ _ _ (by omega) (by rw [E19, E20, E21]; first | done | omega) (by rw [E19, E20, E21, N22]; first | done | omega)) ?_
        simp only [E19, E20, E21, E23]
        clear E19 E20 E21 N22 E23
        refine nb_Gs ?_
        show nb_W 126 1 [(3, 608), (0, l1)] [(0, M.1 608 (12 + 8 * l1))] (nb_wr (nb_wr M 603 0 0) 603 11 0) _
        refine nb_Wg (q_m_isWaiting_1 _ _ _ _) ?_
        refine nb_Gi (fun c53 => ?_) (fun c53 => ?_)
        · have H := nb_Hw ((nb_Hu H).1 c53)
          refine nb_Gr ?_
          refine nb_Wg (q_m_isWaiting_2 _ _ _) ?_
          refine nb_Gr ?_
          have E24 : nb_i2z 1 = 1 := by decide
          refine nb_Wg (q_m_isWaiting_4 _ _ _ _) ?_
          simp only [E24]
          clear E24
          refine nb_Gs ?_
          show nb_W 204 6 [(20, 603), (0, l1), v2] [(0, 1)] (nb_wr (nb_wr M 603 0 0) 603 11 0) _
          refine nb_Wg (q_m_calls_6 _ _ _ _ _) ?_
          refine nb_Gf (by decide) ?_
          refine nb_Gr ?_
          refine nb_Wg (q_m_calls_9 _ _ _ _ (by omega)) ?_
          refine nb_Gb ?_
          refine nb_W.imp (nb_Hu H) (fun r M26 H => ?_)
          obtain ⟨rfl, W27, H⟩ := H
          replace H := nb_Hw H
          show nb_W 204 10 [(20, 603), (0, l1), v2] [] M26 _
          obtain ⟨p0_, p1_, p2_, p3_, p4_, p5_, p6_, p7_, p8_, p9_, H⟩ := H
          replace H := nb_Hw H
          have E28 : nb_mul 8 l1 = 8 * l1 := nb_mul_eq (by omega) (by omega)
          have E29 : nb_add 12 (8 * l1) = 12 + 8 * l1 := (nb_add_eq (x := 12) (y := 8 * l1) (by omega) (by omega)).trans (by omega)
          have E30 : nb_add (12 + 8 * l1) 2 = 12 + 8 * l1 + 2 := nb_add_eq (by omega) (by omega)
          have E31 : nb_rd M26 603 17 = 608 := W27.m17
          have E32 : nb_rd M26 603 17 = 608 := W27.m17
          have N33 : nb_ln M26 608 = 108 := W27.lk (by decide) (by decide +kernel)
          have E34 : nb_rd M26 608 (12 + 8 * l1 + 2) = M26.1 608 (12 + 8 * l1 + 2) := nb_rd_1 _ _ _
          have E35 : nb_add (M26.1 608 (12 + 8 * l1 + 2)) 5 = M26.1 608 (12 + 8 * l1 + 2) + 5 := nb_add_eq (by omega) (by omega)
          refine nb_Wg (q_m_calls_10 _ _ _ _ (by omega) (by rw [E32]; first | done | omega) (by rw [E28, E29, E30]; first | done | omega) (by rw [E28, E29, E30, E32, N33]; first | done | omega)) ?_
          simp only [E28, E29, E30, E31, E32, E34, E35]
          clear E28 E29 E30 E31 E32 N33 E34 E35
          refine nb_Gi (fun c50 => ?_) (fun c50 => ?_)
          · have H := nb_Hw ((nb_Hu H).1 c50)
            refine nb_Gr ?_
            refine nb_Wg (q_m_calls_11 _ _ _ _ _ _) ?_
            refine nb_Gr ?_
            have N36 : nb_ln M26 608 = 108 := W27.lk (by decide) (by decide +kernel)
            refine nb_Wg (q_m_calls_13 _ _ _ _ _ _ _ (by omega) (by omega) (by omega) (by rw [N36]; first | done | omega)) ?_
            clear N36
            have W37 : nb_Lay (nb_wr M26 608 (12 + 8 * l1 + 2) 99) := W27.wr (fun w => (nb_nnum (by decide) (by decide)))
            refine nb_Gr ?_
            have E38 : nb_rd (nb_wr M26 608 (12 + 8 * l1 + 2) 99) 603 17 = 608 := W37.m17
            have N39 : nb_ln (nb_wr M26 608 (12 + 8 * l1 + 2) 99) 608 = 108 := W37.lk (by decide) (by decide +kernel)
            have E40 : nb_rd (nb_wr M26 608 (12 + 8 * l1 + 2) 99) 608 (12 + 8 * l1 + 2) = 99 := nb_rd_same _ _ _ _
            refine nb_Wg (q_m_calls_14 _ _ _ _ (by omega) (by rw [E38]; first | done | omega) (by omega) (by rw [E38, N39]; first | done | omega)) ?_
            simp only [E38, E40]
            clear E38 N39 E40
            refine nb_Gs ?_
            exact nb_Hu H W37
          · have H := nb_Hw ((nb_Hu H).2 (by omega))
            have c50 : M26.1 608 (12 + 8 * l1 + 2) + 5 ≤ 99 := by omega
            refine nb_Gr ?_
            have E41 : nb_rd M26 603 17 = 608 := W27.m17
            have N42 : nb_ln M26 608 = 108 := W27.lk (by decide) (by decide +kernel)
            have E43 : nb_rd M26 608 (12 + 8 * l1 + 2) = M26.1 608 (12 + 8 * l1 + 2) := nb_rd_1 _ _ _
            have E44 : nb_add (M26.1 608 (12 + 8 * l1 + 2)) 5 = M26.1 608 (12 + 8 * l1 + 2) + 5 := nb_add_eq (by omega) (by omega)
            refine nb_Wg (q_m_calls_12 _ _ _ _ _ _ (by omega) (by rw [E41]; first | done | omega) (by omega) (by rw [E41, N42]; first | done | omega)) ?_
            simp only [E41, E43, E44]
            clear E41 N42 E43 E44
            refine nb_Gr ?_
            have N45 : nb_ln M26 608 = 108 := W27.lk (by decide) (by decide +kernel)
            refine nb_Wg (q_m_calls_13 _ _ _ _ _ _ _ (by omega) (by omega) (by omega) (by rw [N45]; first | done | omega)) ?_
            clear N45
            have W46 : nb_Lay (nb_wr M26 608 (12 + 8 * l1 + 2) (M26.1 608 (12 + 8 * l1 + 2) + 5)) := W27.wr (fun w => (nb_nnum (by decide) (by decide)))
            refine nb_Gr ?_
            have E47 : nb_rd (nb_wr M26 608 (12 + 8 * l1 + 2) (M26.1 608 (12 + 8 * l1 + 2) + 5)) 603 17 = 608 := W46.m17
            have N48 : nb_ln (nb_wr M26 608 (12 + 8 * l1 + 2) (M26.1 608 (12 + 8 * l1 + 2) + 5)) 608 = 108 := W46.lk (by decide) (by decide +kernel)
            have E49 : nb_rd (nb_wr M26 608 (12 + 8 * l1 + 2) (M26.1 608 (12 + 8 * l1 + 2) + 5)) 608 (12 + 8 * l1 + 2) = M26.1 608 (12 + 8 * l1 + 2) + 5 := nb_rd_same _ _ _ _
            refine nb_Wg (q_m_calls_14 _ _ _ _ (by omega) (by rw [E47]; first | done | omega) (by omega) (by rw [E47, N48]; first | done | omega)) ?_
            simp only [E47, E49]
            clear E47 N48 E49
            refine nb_Gs ?_
            exact nb_Hu H W46
        · have H := nb_Hw ((nb_Hu H).2 (by omega))
          have c53 : M.1 608 (12 + 8 * l1) ≠ 1 := by omega
          refine nb_Gr ?_
          refine nb_Wg (q_m_isWaiting_3 _ _ _) ?_
          refine nb_Gr ?_
          have E51 : nb_i2z 0 = 0 := by decide
          refine nb_Wg (q_m_isWaiting_4 _ _ _ _) ?_
          simp only [E51]
          clear E51
          refine nb_Gs ?_
          show nb_W 204 6 [(20, 603), (0, l1), v2] [(0, 0)] (nb_wr (nb_wr M 603 0 0) 603 11 0) _
          refine nb_Wg (q_m_calls_6 _ _ _ _ _) ?_
          refine nb_Gt (by decide) ?_
          refine nb_Gr ?_
          refine nb_Wg (q_m_calls_7 _ _ _ _ (by omega)) ?_
          refine nb_Gb ?_
          refine nb_Wg (q_m_no_0 _ _ _ (by omega)) ?_
          have W52 : nb_Lay (nb_wr (nb_wr (nb_wr M 603 0 0) 603 11 0) 603 11 5) := W2.wr (fun w => (nb_nlit (by decide) (by decide)))
          refine nb_Gr ?_
          refine nb_Wg (q_m_no_1 _ _ _) ?_
          refine nb_Gs ?_
          show nb_W 204 8 [(20, 603), (0, l1), v2] [(0, (-1))] (nb_wr (nb_wr (nb_wr M 603 0 0) 603 11 0) 603 11 5) _
          refine nb_Wg (q_m_calls_8 _ _ _ _ _) ?_
          refine nb_Gs ?_
          exact nb_Hu H W52

theorem w_m_leaves_0 {l1 : Int} {M : nb_M} {Q : List nb_V → nb_M → Prop} (W : nb_Lay M) (H : 0 ≤ M.1 603 14 ∧ M.1 603 14 ≤ 1 ∧ (M.1 603 14 = 0 → (nb_Lay (nb_wr (nb_wr (nb_wr M 603 0 0) 603 11 0) 603 11 1) → Q [(0, 0)] (nb_wr (nb_wr (nb_wr M 603 0 0) 603 11 0) 603 11 1))) ∧ (M.1 603 14 ≠ 0 → 0 ≤ M.1 606 5 ∧ M.1 606 5 ≤ 10 ∧ (l1 < 0 → (nb_Lay (nb_wr (nb_wr (nb_wr M 603 0 0) 603 11 0) 603 11 1) → Q [(0, 0)] (nb_wr (nb_wr (nb_wr M 603 0 0) 603 11 0) 603 11 1))) ∧ (0 ≤ l1 → (M.1 606 5 - 1 < l1 → (nb_Lay (nb_wr (nb_wr (nb_wr M 603 0 0) 603 11 0) 603 11 1) → Q [(0, 0)] (nb_wr (nb_wr (nb_wr M 603 0 0) 603 11 0) 603 11 1))) ∧ (l1 ≤ M.1 606 5 - 1 → (M.1 608 (12 + 8 * l1) = 1 → nb_W 200 0 [(20, 603), (98, 0)] [] (nb_wr (nb_wr M 603 0 0) 603 11 0) (fun r M29 => r = [] ∧ nb_Lay M29 ∧ -2147483648 ≤ 8 * l1 ∧ 8 * l1 ≤ 2147483647 ∧ -2147483648 ≤ 12 + 8 * l1 ∧ 12 + 8 * l1 ≤ 2147483647 ∧ 0 ≤ 12 + 8 * l1 ∧ 12 + 8 * l1 < 108 ∧ -2147483648 ≤ 12 + 8 * l1 + 7 ∧ 12 + 8 * l1 + 7 ≤ 2147483647 ∧ 0 ≤ 12 + 8 * l1 + 7 ∧ 12 + 8 * l1 + 7 < 108 ∧ (nb_Lay (nb_wr (nb_wr M29 608 (12 + 8 * l1) 5) 608 (12 + 8 * l1 + 7) ((nb_wr M29 608 (12 + 8 * l1) 5).1 608 0)) → Q [(0, 1)] (nb_wr (nb_wr M29 608 (12 + 8 * l1) 5) 608 (12 + 8 * l1 + 7) ((nb_wr M29 608 (12 + 8 * l1) 5).1 608 0))))) ∧ (M.1 608 (12 + 8 * l1) ≠ 1 → (nb_Lay (nb_wr (nb_wr (nb_wr M 603 0 0) 603 11 0) 603 11 5) → Q [(0, 0)] (nb_wr (nb_wr (nb_wr M 603 0 0) 603 11 0) 603 11 5))))))) :
    nb_W 205 0 [(20, 603), (0, l1)] [] M Q := by
  replace H := nb_Hw H
  refine nb_Wg (q_m_leaves_0 _ _ _ (by omega)) ?_
  refine nb_Gb ?_
  refine nb_Wg (q_m_good_0 _ _ (by omega)) ?_
  have W1 : nb_Lay (nb_wr M 603 0 0) := W.wr (fun w => (nb_nlit (by decide) (by decide)))
  refine nb_Gr ?_
  refine nb_Wg (q_m_good_1 _ _ (by omega)) ?_
  have W2 : nb_Lay (nb_wr (nb_wr M 603 0 0) 603 11 0) := W1.wr (fun w => (nb_nlit (by decide) (by decide)))
  refine nb_Gr ?_
  refine nb_Wg (q_m_good_2 _ _) ?_
  refine nb_Gs ?_
  show nb_W 205 1 [(20, 603), (0, l1)] [] (nb_wr (nb_wr M 603 0 0) 603 11 0) _
  refine nb_Wg (q_m_leaves_1 _ _ _ (by omega)) ?_
  refine nb_Gb ?_
  obtain ⟨p0_, p1_, H⟩ := H
  replace H := nb_Hw H
  have E3 : nb_rd (nb_wr (nb_wr M 603 0 0) 603 11 0) 603 14 = M.1 603 14 := nb_rdw (Or.inr (by decide)) (nb_rdw (Or.inr (by decide)) (nb_rd_1 _ _ _))
  refine nb_Wg (q_m_isPerson_0 _ _ _ (by omega)) ?_
  simp only [E3]
  clear E3
  refine nb_Gi (fun c52 => ?_) (fun c52 => ?_)
  · have H := nb_Hw ((nb_Hu H).1 c52)
    refine nb_Gr ?_
    refine nb_Wg (q_m_isPerson_4 _ _ _) ?_
    refine nb_Gr ?_
    have E4 : nb_i2z 0 = 0 := by decide
    refine nb_Wg (q_m_isPerson_5 _ _ _ _) ?_
    simp only [E4]
    clear E4
    refine nb_Gs ?_
    show nb_W 205 2 [(20, 603), (0, l1)] [(0, 0)] (nb_wr (nb_wr M 603 0 0) 603 11 0) _
    refine nb_Wg (q_m_leaves_2 _ _ _ _) ?_
    refine nb_Gt (by decide) ?_
    refine nb_Gr ?_
    refine nb_Wg (q_m_leaves_3 _ _ _ (by omega)) ?_
    refine nb_Gb ?_
    refine nb_Wg (q_m_isNot_0 _ _ _ (by omega)) ?_
    have W5 : nb_Lay (nb_wr (nb_wr (nb_wr M 603 0 0) 603 11 0) 603 11 1) := W2.wr (fun w => (nb_nlit (by decide) (by decide)))
    refine nb_Gr ?_
    refine nb_Wg (q_m_isNot_1 _ _ _) ?_
    refine nb_Gs ?_
    show nb_W 205 4 [(20, 603), (0, l1)] [(0, 0)] (nb_wr (nb_wr (nb_wr M 603 0 0) 603 11 0) 603 11 1) _
    have E6 : nb_i2z 0 = 0 := by decide
    refine nb_Wg (q_m_leaves_4 _ _ _ _) ?_
    simp only [E6]
    clear E6
    refine nb_Gs ?_
    exact nb_Hu H W5
  · have H := nb_Hw ((nb_Hu H).2 (by omega))
    have c52 : M.1 603 14 ≠ 0 := by omega
    refine nb_Gr ?_
    obtain ⟨p0_, p1_, H⟩ := H
    replace H := nb_Hw H
    have E7 : nb_rd (nb_wr (nb_wr M 603 0 0) 603 11 0) 603 15 = 606 := W2.m15
    have N8 : nb_ln (nb_wr (nb_wr M 603 0 0) 603 11 0) 606 = 347 := W2.lk (by decide) (by decide +kernel)
    have E9 : nb_rd (nb_wr (nb_wr M 603 0 0) 603 11 0) 606 5 = M.1 606 5 := nb_rdw (Or.inl (by decide)) (nb_rdw (Or.inl (by decide)) (nb_rd_1 _ _ _))
    have E10 : nb_sub (M.1 606 5) 1 = M.1 606 5 - 1 := nb_sub_eq (by omega) (by omega)
    refine nb_Wg (q_m_isPerson_1 _ _ _ (by omega) (by rw [E7]; first | done | omega) (by omega) (by rw [E7, N8]; first | done | omega)) ?_
    simp only [E7, E9, E10]
    clear E7 N8 E9 E10
    refine nb_Gb ?_
    refine nb_Wg (q_m_within_0 _ _ _ _) ?_
    refine nb_Gi (fun c51 => ?_) (fun c51 => ?_)
    · have H := nb_Hw ((nb_Hu H).1 c51)
      refine nb_Gr ?_
      refine nb_Wg (q_m_within_3 _ _ _ _) ?_
      refine nb_Gr ?_
      have E11 : nb_i2z 0 = 0 := by decide
      refine nb_Wg (q_m_within_4 _ _ _ _ _) ?_
      simp only [E11]
      clear E11
      refine nb_Gs ?_
      show nb_W 116 2 [(20, 603), (0, l1)] [(0, 0)] (nb_wr (nb_wr M 603 0 0) 603 11 0) _
      refine nb_Wg (q_m_isPerson_2 _ _ _ _) ?_
      refine nb_Gt (by decide) ?_
      refine nb_Gr ?_
      refine nb_Wg (q_m_isPerson_4 _ _ _) ?_
      refine nb_Gr ?_
      have E12 : nb_i2z 0 = 0 := by decide
      refine nb_Wg (q_m_isPerson_5 _ _ _ _) ?_
      simp only [E12]
      clear E12
      refine nb_Gs ?_
      show nb_W 205 2 [(20, 603), (0, l1)] [(0, 0)] (nb_wr (nb_wr M 603 0 0) 603 11 0) _
      refine nb_Wg (q_m_leaves_2 _ _ _ _) ?_
      refine nb_Gt (by decide) ?_
      refine nb_Gr ?_
      refine nb_Wg (q_m_leaves_3 _ _ _ (by omega)) ?_
      refine nb_Gb ?_
      refine nb_Wg (q_m_isNot_0 _ _ _ (by omega)) ?_
      have W13 : nb_Lay (nb_wr (nb_wr (nb_wr M 603 0 0) 603 11 0) 603 11 1) := W2.wr (fun w => (nb_nlit (by decide) (by decide)))
      refine nb_Gr ?_
      refine nb_Wg (q_m_isNot_1 _ _ _) ?_
      refine nb_Gs ?_
      show nb_W 205 4 [(20, 603), (0, l1)] [(0, 0)] (nb_wr (nb_wr (nb_wr M 603 0 0) 603 11 0) 603 11 1) _
      have E14 : nb_i2z 0 = 0 := by decide
      refine nb_Wg (q_m_leaves_4 _ _ _ _) ?_
      simp only [E14]
      clear E14
      refine nb_Gs ?_
      exact nb_Hu H W13
    · have H := nb_Hw ((nb_Hu H).2 (by omega))
      have c51 : 0 ≤ l1 := by omega
      refine nb_Gr ?_
      refine nb_Wg (q_m_within_1 _ _ _ _) ?_
      refine nb_Gi (fun c50 => ?_) (fun c50 => ?_)
      · have H := nb_Hw ((nb_Hu H).1 c50)
        refine nb_Gr ?_
        refine nb_Wg (q_m_within_3 _ _ _ _) ?_
        refine nb_Gr ?_
        have E15 : nb_i2z 0 = 0 := by decide
        refine nb_Wg (q_m_within_4 _ _ _ _ _) ?_
        simp only [E15]
        clear E15
        refine nb_Gs ?_
        show nb_W 116 2 [(20, 603), (0, l1)] [(0, 0)] (nb_wr (nb_wr M 603 0 0) 603 11 0) _
        refine nb_Wg (q_m_isPerson_2 _ _ _ _) ?_
        refine nb_Gt (by decide) ?_
        refine nb_Gr ?_
        refine nb_Wg (q_m_isPerson_4 _ _ _) ?_
        refine nb_Gr ?_
        have E16 : nb_i2z 0 = 0 := by decide
        refine nb_Wg (q_m_isPerson_5 _ _ _ _) ?_
        simp only [E16]
        clear E16
        refine nb_Gs ?_
        show nb_W 205 2 [(20, 603), (0, l1)] [(0, 0)] (nb_wr (nb_wr M 603 0 0) 603 11 0) _
        refine nb_Wg (q_m_leaves_2 _ _ _ _) ?_
        refine nb_Gt (by decide) ?_
        refine nb_Gr ?_
        refine nb_Wg (q_m_leaves_3 _ _ _ (by omega)) ?_
        refine nb_Gb ?_
        refine nb_Wg (q_m_isNot_0 _ _ _ (by omega)) ?_
        have W17 : nb_Lay (nb_wr (nb_wr (nb_wr M 603 0 0) 603 11 0) 603 11 1) := W2.wr (fun w => (nb_nlit (by decide) (by decide)))
        refine nb_Gr ?_
        refine nb_Wg (q_m_isNot_1 _ _ _) ?_
        refine nb_Gs ?_
        show nb_W 205 4 [(20, 603), (0, l1)] [(0, 0)] (nb_wr (nb_wr (nb_wr M 603 0 0) 603 11 0) 603 11 1) _
        have E18 : nb_i2z 0 = 0 := by decide
        refine nb_Wg (q_m_leaves_4 _ _ _ _) ?_
        simp only [E18]
        clear E18
        refine nb_Gs ?_
        exact nb_Hu H W17
      · have H := nb_Hw ((nb_Hu H).2 (by omega))
        have c50 : l1 ≤ M.1 606 5 - 1 := by omega
        refine nb_Gr ?_
        refine nb_Wg (q_m_within_2 _ _ _ _) ?_
        refine nb_Gr ?_
        have E19 : nb_i2z 1 = 1 := by decide
        refine nb_Wg (q_m_within_4 _ _ _ _ _) ?_
        simp only [E19]
        clear E19
        refine nb_Gs ?_
        show nb_W 116 2 [(20, 603), (0, l1)] [(0, 1)] (nb_wr (nb_wr M 603 0 0) 603 11 0) _
        refine nb_Wg (q_m_isPerson_2 _ _ _ _) ?_
        refine nb_Gf (by decide) ?_
        refine nb_Gr ?_
        refine nb_Wg (q_m_isPerson_3 _ _ _) ?_
        refine nb_Gr ?_
        have E20 : nb_i2z 1 = 1 := by decide
        refine nb_Wg (q_m_isPerson_5 _ _ _ _) ?_
        simp only [E20]
        clear E20
        refine nb_Gs ?_
        show nb_W 205 2 [(20, 603), (0, l1)] [(0, 1)] (nb_wr (nb_wr M 603 0 0) 603 11 0) _
        refine nb_Wg (q_m_leaves_2 _ _ _ _) ?_
        refine nb_Gf (by decide) ?_
        refine nb_Gr ?_
        have E21 : nb_rd (nb_wr (nb_wr M 603 0 0) 603 11 0) 603 17 = 608 := W2.m17
        refine nb_Wg (q_m_leaves_5 _ _ _ (by omega)) ?_
        simp only [E21]
        clear E21
        refine nb_Gb ?_
        refine nb_Wg (q_m_isWaiting_0 _ _ _) ?_
        refine nb_Gb ?_
        have E22 : nb_mul 8 l1 = 8 * l1 := nb_mul_eq (by omega) (by omega)
        have E23 : nb_add 12 (8 * l1) = 12 + 8 * l1 := (nb_add_eq (x := 12) (y := 8 * l1) (by omega) (by omega)).trans (by omega)
        have E24 : nb_add (12 + 8 * l1) 0 = 12 + 8 * l1 := (nb_add_eq (x := 12 + 8 * l1) (y := 0) (by omega) (by omega)).trans (by omega)
        have N25 : nb_ln (nb_wr (nb_wr M 603 0 0) 603 11 0) 608 = 108 := W2.lk (by decide) (by decide +kernel)
        have E26 : nb_rd (nb_wr (nb_wr M 603 0 0) 603 11 0) 608 (12 + 8 * l1) = M.1 608 (12 + 8 * l1) := nb_rdw (Or.inl (by decide)) (nb_rdw (Or.inl (by decide)) (nb_rd_1 _ _ _))
        refine nb_Wg (q_m_its_0 _ _ _ _ (by omega) (by rw [E22, E23, E24]; first | done | omega) (by rw [E22, E23, E24, N25]; first | done | omega)) ?_
        simp only [E22, E23, E24, E26]
        clear E22 E23 E24 N25 E26
        refine nb_Gs ?_
        show nb_W 126 1 [(3, 608), (0, l1)] [(0, M.1 608 (12 + 8 * l1))] (nb_wr (nb_wr M 603 0 0) 603 11 0) _
        refine nb_Wg (q_m_isWaiting_1 _ _ _ _) ?_
        refine nb_Gi (fun c49 => ?_) (fun c49 => ?_)
        · have H := nb_Hw ((nb_Hu H).1 c49)
          refine nb_Gr ?_
          refine nb_Wg (q_m_isWaiting_2 _ _ _) ?_
          refine nb_Gr ?_
          have E27 : nb_i2z 1 = 1 := by decide
          refine nb_Wg (q_m_isWaiting_4 _ _ _ _) ?_
          simp only [E27]
          clear E27
          refine nb_Gs ?_
          show nb_W 205 6 [(20, 603), (0, l1)] [(0, 1)] (nb_wr (nb_wr M 603 0 0) 603 11 0) _
          refine nb_Wg (q_m_leaves_6 _ _ _ _) ?_
          refine nb_Gf (by decide) ?_
          refine nb_Gr ?_
          refine nb_Wg (q_m_leaves_9 _ _ _ (by omega)) ?_
          refine nb_Gb ?_
          refine nb_W.imp (nb_Hu H) (fun r M29 H => ?_)
          obtain ⟨rfl, W30, H⟩ := H
          replace H := nb_Hw H
          show nb_W 205 10 [(20, 603), (0, l1)] [] M29 _
          obtain ⟨p0_, p1_, p2_, p3_, p4_, p5_, H⟩ := H
          replace H := nb_Hw H
          have E31 : nb_rd M29 603 17 = 608 := W30.m17
          have E32 : nb_mul 8 l1 = 8 * l1 := nb_mul_eq (by omega) (by omega)
          have E33 : nb_add 12 (8 * l1) = 12 + 8 * l1 := (nb_add_eq (x := 12) (y := 8 * l1) (by omega) (by omega)).trans (by omega)
          have E34 : nb_add (12 + 8 * l1) 0 = 12 + 8 * l1 := (nb_add_eq (x := 12 + 8 * l1) (y := 0) (by omega) (by omega)).trans (by omega)
          have N35 : nb_ln M29 608 = 108 := W30.lk (by decide) (by decide +kernel)
          refine nb_Wg (q_m_leaves_10 _ _ _ (by omega) (by rw [E31]; first | done | omega) (by rw [E31]; first | done | omega) (by rw [E32, E33, E34]; first | done | omega) (by rw [E32, E33, E34, E31, N35]; first | done | omega)) ?_
          simp only [E31, E32, E33, E34]
          clear E31 E32 E33 E34 N35
          have W36 : nb_Lay (nb_wr M29 608 (12 + 8 * l1) 5) := W30.wr (fun w => (nb_nnum (by decide) (by decide)))
          refine nb_Gr ?_
          obtain ⟨p0_, p1_, p2_, p3_, H⟩ := H
          replace H := nb_Hw H
          have E37 : nb_rd (nb_wr M29 608 (12 + 8 * l1) 5) 603 17 = 608 := W36.m17
          have E38 : nb_mul 8 l1 = 8 * l1 := nb_mul_eq (by omega) (by omega)
          have E39 : nb_add 12 (8 * l1) = 12 + 8 * l1 := (nb_add_eq (x := 12) (y := 8 * l1) (by omega) (by omega)).trans (by omega)
          have E40 : nb_add (12 + 8 * l1) 7 = 12 + 8 * l1 + 7 := nb_add_eq (by omega) (by omega)
          have E41 : nb_rd (nb_wr M29 608 (12 + 8 * l1) 5) 603 17 = 608 := W36.m17
          have N42 : nb_ln (nb_wr M29 608 (12 + 8 * l1) 5) 608 = 108 := W36.lk (by decide) (by decide +kernel)
          have E43 : nb_rd (nb_wr M29 608 (12 + 8 * l1) 5) 608 0 = (nb_wr M29 608 (12 + 8 * l1) 5).1 608 0 := nb_rd_1 _ _ _
          have N44 : nb_ln (nb_wr M29 608 (12 + 8 * l1) 5) 608 = 108 := W36.lk (by decide) (by decide +kernel)
          refine nb_Wg (q_m_leaves_11 _ _ _ (by omega) (by rw [E41]; first | done | omega) (by omega) (by rw [E41, N42]; first | done | omega) (by rw [E37]; first | done | omega) (by rw [E38, E39, E40]; first | done | omega) (by rw [E38, E39, E40, E37, N44]; first | done | omega)) ?_
          simp only [E37, E38, E39, E40, E41, E43]
          clear E37 E38 E39 E40 E41 N42 E43 N44
          have W45 : nb_Lay (nb_wr (nb_wr M29 608 (12 + 8 * l1) 5) 608 (12 + 8 * l1 + 7) ((nb_wr M29 608 (12 + 8 * l1) 5).1 608 0)) := W36.wr (fun w => (nb_nnum (by decide) (by decide)))
          refine nb_Gr ?_
          refine nb_Wg (q_m_leaves_12 _ _ _) ?_
          refine nb_Gs ?_
          exact nb_Hu H W45
        · have H := nb_Hw ((nb_Hu H).2 (by omega))
          have c49 : M.1 608 (12 + 8 * l1) ≠ 1 := by omega
          refine nb_Gr ?_
          refine nb_Wg (q_m_isWaiting_3 _ _ _) ?_
          refine nb_Gr ?_
          have E46 : nb_i2z 0 = 0 := by decide
          refine nb_Wg (q_m_isWaiting_4 _ _ _ _) ?_
          simp only [E46]
          clear E46
          refine nb_Gs ?_
          show nb_W 205 6 [(20, 603), (0, l1)] [(0, 0)] (nb_wr (nb_wr M 603 0 0) 603 11 0) _
          refine nb_Wg (q_m_leaves_6 _ _ _ _) ?_
          refine nb_Gt (by decide) ?_
          refine nb_Gr ?_
          refine nb_Wg (q_m_leaves_7 _ _ _ (by omega)) ?_
          refine nb_Gb ?_
          refine nb_Wg (q_m_isNot_0 _ _ _ (by omega)) ?_
          have W47 : nb_Lay (nb_wr (nb_wr (nb_wr M 603 0 0) 603 11 0) 603 11 5) := W2.wr (fun w => (nb_nlit (by decide) (by decide)))
          refine nb_Gr ?_
          refine nb_Wg (q_m_isNot_1 _ _ _) ?_
          refine nb_Gs ?_
          show nb_W 205 8 [(20, 603), (0, l1)] [(0, 0)] (nb_wr (nb_wr (nb_wr M 603 0 0) 603 11 0) 603 11 5) _
          have E48 : nb_i2z 0 = 0 := by decide
          refine nb_Wg (q_m_leaves_8 _ _ _ _) ?_
          simp only [E48]
          clear E48
          refine nb_Gs ?_
          exact nb_Hu H W47

theorem w_m_undo_0 {M : nb_M} {Q : List nb_V → nb_M → Prop} (W : nb_Lay M) (H : (M.1 603 21 = 0 → (nb_Lay (nb_wr (nb_wr (nb_wr M 603 0 0) 603 11 0) 603 11 6) → Q [(0, 0)] (nb_wr (nb_wr (nb_wr M 603 0 0) 603 11 0) 603 11 6))) ∧ (M.1 603 21 ≠ 0 → -2147483648 ≤ M.1 603 21 - 1 ∧ M.1 603 21 - 1 ≤ 2147483647 ∧ -2147483648 ≤ 108 * (M.1 603 21 - 1) ∧ 108 * (M.1 603 21 - 1) ≤ 2147483647 ∧ nb_W 86 0 [(3, 610), (0, 108 * (M.1 603 21 - 1)), (3, 608), (0, 0), (0, 108), (98, 0)] [] (nb_wr (nb_wr (nb_wr M 603 0 0) 603 11 0) 603 21 (M.1 603 21 - 1)) (fun r M14 => r = [] ∧ nb_Lay M14 ∧ (nb_Lay M14 → Q [(0, 1)] M14)))) :
    nb_W 206 0 [(20, 603)] [] M Q := by
  replace H := nb_Hw H
  refine nb_Wg (q_m_undo_0 _ _ (by omega)) ?_
  refine nb_Gb ?_
  refine nb_Wg (q_m_good_0 _ _ (by omega)) ?_
  have W1 : nb_Lay (nb_wr M 603 0 0) := W.wr (fun w => (nb_nlit (by decide) (by decide)))
  refine nb_Gr ?_
  refine nb_Wg (q_m_good_1 _ _ (by omega)) ?_
  have W2 : nb_Lay (nb_wr (nb_wr M 603 0 0) 603 11 0) := W1.wr (fun w => (nb_nlit (by decide) (by decide)))
  refine nb_Gr ?_
  refine nb_Wg (q_m_good_2 _ _) ?_
  refine nb_Gs ?_
  show nb_W 206 1 [(20, 603)] [] (nb_wr (nb_wr M 603 0 0) 603 11 0) _
  have E3 : nb_rd (nb_wr (nb_wr M 603 0 0) 603 11 0) 603 21 = M.1 603 21 := nb_rdw (Or.inr (by decide)) (nb_rdw (Or.inr (by decide)) (nb_rd_1 _ _ _))
  refine nb_Wg (q_m_undo_1 _ _ (by omega)) ?_
  simp only [E3]
  clear E3
  refine nb_Gi (fun c16 => ?_) (fun c16 => ?_)
  · have H := nb_Hw ((nb_Hu H).1 c16)
    refine nb_Gr ?_
    refine nb_Wg (q_m_undo_2 _ _ (by omega)) ?_
    refine nb_Gb ?_
    refine nb_Wg (q_m_isNot_0 _ _ _ (by omega)) ?_
    have W4 : nb_Lay (nb_wr (nb_wr (nb_wr M 603 0 0) 603 11 0) 603 11 6) := W2.wr (fun w => (nb_nlit (by decide) (by decide)))
    refine nb_Gr ?_
    refine nb_Wg (q_m_isNot_1 _ _ _) ?_
    refine nb_Gs ?_
    show nb_W 206 3 [(20, 603)] [(0, 0)] (nb_wr (nb_wr (nb_wr M 603 0 0) 603 11 0) 603 11 6) _
    have E5 : nb_i2z 0 = 0 := by decide
    refine nb_Wg (q_m_undo_3 _ _ _) ?_
    simp only [E5]
    clear E5
    refine nb_Gs ?_
    exact nb_Hu H W4
  · have H := nb_Hw ((nb_Hu H).2 (by omega))
    have c16 : M.1 603 21 ≠ 0 := by omega
    refine nb_Gr ?_
    obtain ⟨p0_, p1_, H⟩ := H
    replace H := nb_Hw H
    have E6 : nb_rd (nb_wr (nb_wr M 603 0 0) 603 11 0) 603 21 = M.1 603 21 := nb_rdw (Or.inr (by decide)) (nb_rdw (Or.inr (by decide)) (nb_rd_1 _ _ _))
    have E7 : nb_sub (M.1 603 21) 1 = M.1 603 21 - 1 := nb_sub_eq (by omega) (by omega)
    refine nb_Wg (q_m_undo_4 _ _ (by omega)) ?_
    simp only [E6, E7]
    clear E6 E7
    have W8 : nb_Lay (nb_wr (nb_wr (nb_wr M 603 0 0) 603 11 0) 603 21 (M.1 603 21 - 1)) := W2.wr (fun w => (nb_nlit (by decide) (by decide)))
    refine nb_Gr ?_
    obtain ⟨p0_, p1_, H⟩ := H
    replace H := nb_Hw H
    have E9 : nb_rd (nb_wr (nb_wr (nb_wr M 603 0 0) 603 11 0) 603 21 (M.1 603 21 - 1)) 603 19 = 610 := W8.m19
    have E10 : nb_rd (nb_wr (nb_wr (nb_wr M 603 0 0) 603 11 0) 603 21 (M.1 603 21 - 1)) 603 21 = M.1 603 21 - 1 := nb_rd_same _ _ _ _
    have E11 : nb_mul 108 (M.1 603 21 - 1) = 108 * (M.1 603 21 - 1) := nb_mul_eq (by omega) (by omega)
    have E12 : nb_rd (nb_wr (nb_wr (nb_wr M 603 0 0) 603 11 0) 603 21 (M.1 603 21 - 1)) 603 17 = 608 := W8.m17
    refine nb_Wg (q_m_undo_5 _ _ (by omega)) ?_
    simp only [E9, E10, E11, E12]
    clear E9 E10 E11 E12
    refine nb_Gb ?_
    refine nb_W.imp (nb_Hu H) (fun r M14 H => ?_)
    obtain ⟨rfl, W15, H⟩ := H
    replace H := nb_Hw H
    show nb_W 206 6 [(20, 603)] [] M14 _
    refine nb_Wg (q_m_undo_6 _ _) ?_
    refine nb_Gs ?_
    exact nb_Hu H W15

theorem w_m_image_0 {M : nb_M} {Q : List nb_V → nb_M → Prop} (W : nb_Lay M) (H : 0 ≤ M.1 603 14 ∧ M.1 603 14 ≤ 1 ∧ (M.1 603 14 = 0 → (nb_Lay (nb_wr (nb_wr (nb_wr M 603 0 0) 603 11 0) 603 11 1) → Q [(0, (-1))] (nb_wr (nb_wr (nb_wr M 603 0 0) 603 11 0) 603 11 1))) ∧ (M.1 603 14 ≠ 0 → (M.1 603 22 = 3 → (nb_Lay (nb_wr (nb_wr (nb_wr M 603 0 0) 603 11 0) 603 11 3) → Q [(0, (-1))] (nb_wr (nb_wr (nb_wr M 603 0 0) 603 11 0) 603 11 3))) ∧ (M.1 603 22 ≠ 3 → -2147483648 ≤ 108 * (M.1 603 22) ∧ 108 * (M.1 603 22) ≤ 2147483647 ∧ nb_W 86 0 [(3, 608), (0, 0), (3, 611), (0, 108 * (M.1 603 22)), (0, 108), (98, 0)] [] (nb_wr (nb_wr M 603 0 0) 603 11 0) (fun r M12 => r = [] ∧ nb_Lay M12 ∧ -2147483648 ≤ M12.1 603 22 + 1 ∧ M12.1 603 22 + 1 ≤ 2147483647 ∧ -2147483648 ≤ M12.1 603 22 + 1 - 1 ∧ M12.1 603 22 + 1 - 1 ≤ 2147483647 ∧ (nb_Lay (nb_wr M12 603 22 (M12.1 603 22 + 1)) → Q [(0, M12.1 603 22 + 1 - 1)] (nb_wr M12 603 22 (M12.1 603 22 + 1))))))) :
    nb_W 207 0 [(20, 603)] [] M Q := by
  replace H := nb_Hw H
  refine nb_Wg (q_m_image_0 _ _ (by omega)) ?_
  refine nb_Gb ?_
  refine nb_Wg (q_m_good_0 _ _ (by omega)) ?_
  have W1 : nb_Lay (nb_wr M 603 0 0) := W.wr (fun w => (nb_nlit (by decide) (by decide)))
  refine nb_Gr ?_
  refine nb_Wg (q_m_good_1 _ _ (by omega)) ?_
  have W2 : nb_Lay (nb_wr (nb_wr M 603 0 0) 603 11 0) := W1.wr (fun w => (nb_nlit (by decide) (by decide)))
  refine nb_Gr ?_
  refine nb_Wg (q_m_good_2 _ _) ?_
  refine nb_Gs ?_
  show nb_W 207 1 [(20, 603)] [] (nb_wr (nb_wr M 603 0 0) 603 11 0) _
  obtain ⟨p0_, p1_, H⟩ := H
  replace H := nb_Hw H
  have E3 : nb_rd (nb_wr (nb_wr M 603 0 0) 603 11 0) 603 14 = M.1 603 14 := nb_rdw (Or.inr (by decide)) (nb_rdw (Or.inr (by decide)) (nb_rd_1 _ _ _))
  refine nb_Wg (q_m_image_1 _ _ (by omega)) ?_
  simp only [E3]
  clear E3
  refine nb_Gi (fun c20 => ?_) (fun c20 => ?_)
  · have H := nb_Hw ((nb_Hu H).1 c20)
    refine nb_Gr ?_
    refine nb_Wg (q_m_image_2 _ _ (by omega)) ?_
    refine nb_Gb ?_
    refine nb_Wg (q_m_no_0 _ _ _ (by omega)) ?_
    have W4 : nb_Lay (nb_wr (nb_wr (nb_wr M 603 0 0) 603 11 0) 603 11 1) := W2.wr (fun w => (nb_nlit (by decide) (by decide)))
    refine nb_Gr ?_
    refine nb_Wg (q_m_no_1 _ _ _) ?_
    refine nb_Gs ?_
    show nb_W 207 3 [(20, 603)] [(0, (-1))] (nb_wr (nb_wr (nb_wr M 603 0 0) 603 11 0) 603 11 1) _
    refine nb_Wg (q_m_image_3 _ _ _) ?_
    refine nb_Gs ?_
    exact nb_Hu H W4
  · have H := nb_Hw ((nb_Hu H).2 (by omega))
    have c20 : M.1 603 14 ≠ 0 := by omega
    refine nb_Gr ?_
    have E5 : nb_rd (nb_wr (nb_wr M 603 0 0) 603 11 0) 603 22 = M.1 603 22 := nb_rdw (Or.inr (by decide)) (nb_rdw (Or.inr (by decide)) (nb_rd_1 _ _ _))
    refine nb_Wg (q_m_image_4 _ _ (by omega)) ?_
    simp only [E5]
    clear E5
    refine nb_Gi (fun c19 => ?_) (fun c19 => ?_)
    · have H := nb_Hw ((nb_Hu H).1 c19)
      refine nb_Gr ?_
      refine nb_Wg (q_m_image_5 _ _ (by omega)) ?_
      refine nb_Gb ?_
      refine nb_Wg (q_m_no_0 _ _ _ (by omega)) ?_
      have W6 : nb_Lay (nb_wr (nb_wr (nb_wr M 603 0 0) 603 11 0) 603 11 3) := W2.wr (fun w => (nb_nlit (by decide) (by decide)))
      refine nb_Gr ?_
      refine nb_Wg (q_m_no_1 _ _ _) ?_
      refine nb_Gs ?_
      show nb_W 207 6 [(20, 603)] [(0, (-1))] (nb_wr (nb_wr (nb_wr M 603 0 0) 603 11 0) 603 11 3) _
      refine nb_Wg (q_m_image_6 _ _ _) ?_
      refine nb_Gs ?_
      exact nb_Hu H W6
    · have H := nb_Hw ((nb_Hu H).2 (by omega))
      have c19 : M.1 603 22 ≠ 3 := by omega
      refine nb_Gr ?_
      obtain ⟨p0_, p1_, H⟩ := H
      replace H := nb_Hw H
      have E7 : nb_rd (nb_wr (nb_wr M 603 0 0) 603 11 0) 603 17 = 608 := W2.m17
      have E8 : nb_rd (nb_wr (nb_wr M 603 0 0) 603 11 0) 603 20 = 611 := W2.m20
      have E9 : nb_rd (nb_wr (nb_wr M 603 0 0) 603 11 0) 603 22 = M.1 603 22 := nb_rdw (Or.inr (by decide)) (nb_rdw (Or.inr (by decide)) (nb_rd_1 _ _ _))
      have E10 : nb_mul 108 (M.1 603 22) = 108 * (M.1 603 22) := nb_mul_eq (by omega) (by omega)
      refine nb_Wg (q_m_image_7 _ _ (by omega)) ?_
      simp only [E7, E8, E9, E10]
      clear E7 E8 E9 E10
      refine nb_Gb ?_
      refine nb_W.imp (nb_Hu H) (fun r M12 H => ?_)
      obtain ⟨rfl, W13, H⟩ := H
      replace H := nb_Hw H
      show nb_W 207 8 [(20, 603)] [] M12 _
      obtain ⟨p0_, p1_, H⟩ := H
      replace H := nb_Hw H
      have E14 : nb_rd M12 603 22 = M12.1 603 22 := nb_rd_1 _ _ _
      have E15 : nb_add (M12.1 603 22) 1 = M12.1 603 22 + 1 := nb_add_eq (by omega) (by omega)
      refine nb_Wg (q_m_image_8 _ _ (by omega)) ?_
      simp only [E14, E15]
      clear E14 E15
      have W16 : nb_Lay (nb_wr M12 603 22 (M12.1 603 22 + 1)) := W13.wr (fun w => (nb_nlit (by decide) (by decide)))
      refine nb_Gr ?_
      obtain ⟨p0_, p1_, H⟩ := H
      replace H := nb_Hw H
      have E17 : nb_rd (nb_wr M12 603 22 (M12.1 603 22 + 1)) 603 22 = M12.1 603 22 + 1 := nb_rd_same _ _ _ _
      have E18 : nb_sub (M12.1 603 22 + 1) 1 = M12.1 603 22 + 1 - 1 := nb_sub_eq (by omega) (by omega)
      refine nb_Wg (q_m_image_9 _ _ (by omega)) ?_
      simp only [E17, E18]
      clear E17 E18
      refine nb_Gs ?_
      exact nb_Hu H W16

theorem w_m_back_0 {l1 : Int} {M : nb_M} {Q : List nb_V → nb_M → Prop} (W : nb_Lay M) (H : -2147483648 ≤ M.1 603 22 - 1 ∧ M.1 603 22 - 1 ≤ 2147483647 ∧ (l1 < 0 → (nb_Lay (nb_wr (nb_wr (nb_wr M 603 0 0) 603 11 0) 603 11 1) → Q [(0, 0)] (nb_wr (nb_wr (nb_wr M 603 0 0) 603 11 0) 603 11 1))) ∧ (0 ≤ l1 → (M.1 603 22 - 1 < l1 → (nb_Lay (nb_wr (nb_wr (nb_wr M 603 0 0) 603 11 0) 603 11 1) → Q [(0, 0)] (nb_wr (nb_wr (nb_wr M 603 0 0) 603 11 0) 603 11 1))) ∧ (l1 ≤ M.1 603 22 - 1 → -2147483648 ≤ 108 * l1 ∧ 108 * l1 ≤ 2147483647 ∧ nb_W 86 0 [(3, 611), (0, 108 * l1), (3, 608), (0, 0), (0, 108), (98, 0)] [] (nb_wr (nb_wr M 603 0 0) 603 11 0) (fun r M16 => r = [] ∧ nb_Lay M16 ∧ (nb_Lay (nb_wr M16 603 21 0) → Q [(0, 1)] (nb_wr M16 603 21 0)))))) :
    nb_W 208 0 [(20, 603), (0, l1)] [] M Q := by
  replace H := nb_Hw H
  refine nb_Wg (q_m_back_0 _ _ _ (by omega)) ?_
  refine nb_Gb ?_
  refine nb_Wg (q_m_good_0 _ _ (by omega)) ?_
  have W1 : nb_Lay (nb_wr M 603 0 0) := W.wr (fun w => (nb_nlit (by decide) (by decide)))
  refine nb_Gr ?_
  refine nb_Wg (q_m_good_1 _ _ (by omega)) ?_
  have W2 : nb_Lay (nb_wr (nb_wr M 603 0 0) 603 11 0) := W1.wr (fun w => (nb_nlit (by decide) (by decide)))
  refine nb_Gr ?_
  refine nb_Wg (q_m_good_2 _ _) ?_
  refine nb_Gs ?_
  show nb_W 208 1 [(20, 603), (0, l1)] [] (nb_wr (nb_wr M 603 0 0) 603 11 0) _
  obtain ⟨p0_, p1_, H⟩ := H
  replace H := nb_Hw H
  have E3 : nb_rd (nb_wr (nb_wr M 603 0 0) 603 11 0) 603 22 = M.1 603 22 := nb_rdw (Or.inr (by decide)) (nb_rdw (Or.inr (by decide)) (nb_rd_1 _ _ _))
  have E4 : nb_sub (M.1 603 22) 1 = M.1 603 22 - 1 := nb_sub_eq (by omega) (by omega)
  refine nb_Wg (q_m_back_1 _ _ _ (by omega)) ?_
  simp only [E3, E4]
  clear E3 E4
  refine nb_Gb ?_
  refine nb_Wg (q_m_within_0 _ _ _ _) ?_
  refine nb_Gi (fun c20 => ?_) (fun c20 => ?_)
  · have H := nb_Hw ((nb_Hu H).1 c20)
    refine nb_Gr ?_
    refine nb_Wg (q_m_within_3 _ _ _ _) ?_
    refine nb_Gr ?_
    have E5 : nb_i2z 0 = 0 := by decide
    refine nb_Wg (q_m_within_4 _ _ _ _ _) ?_
    simp only [E5]
    clear E5
    refine nb_Gs ?_
    show nb_W 208 2 [(20, 603), (0, l1)] [(0, 0)] (nb_wr (nb_wr M 603 0 0) 603 11 0) _
    refine nb_Wg (q_m_back_2 _ _ _ _) ?_
    refine nb_Gt (by decide) ?_
    refine nb_Gr ?_
    refine nb_Wg (q_m_back_3 _ _ _ (by omega)) ?_
    refine nb_Gb ?_
    refine nb_Wg (q_m_isNot_0 _ _ _ (by omega)) ?_
    have W6 : nb_Lay (nb_wr (nb_wr (nb_wr M 603 0 0) 603 11 0) 603 11 1) := W2.wr (fun w => (nb_nlit (by decide) (by decide)))
    refine nb_Gr ?_
    refine nb_Wg (q_m_isNot_1 _ _ _) ?_
    refine nb_Gs ?_
    show nb_W 208 4 [(20, 603), (0, l1)] [(0, 0)] (nb_wr (nb_wr (nb_wr M 603 0 0) 603 11 0) 603 11 1) _
    have E7 : nb_i2z 0 = 0 := by decide
    refine nb_Wg (q_m_back_4 _ _ _ _) ?_
    simp only [E7]
    clear E7
    refine nb_Gs ?_
    exact nb_Hu H W6
  · have H := nb_Hw ((nb_Hu H).2 (by omega))
    have c20 : 0 ≤ l1 := by omega
    refine nb_Gr ?_
    refine nb_Wg (q_m_within_1 _ _ _ _) ?_
    refine nb_Gi (fun c19 => ?_) (fun c19 => ?_)
    · have H := nb_Hw ((nb_Hu H).1 c19)
      refine nb_Gr ?_
      refine nb_Wg (q_m_within_3 _ _ _ _) ?_
      refine nb_Gr ?_
      have E8 : nb_i2z 0 = 0 := by decide
      refine nb_Wg (q_m_within_4 _ _ _ _ _) ?_
      simp only [E8]
      clear E8
      refine nb_Gs ?_
      show nb_W 208 2 [(20, 603), (0, l1)] [(0, 0)] (nb_wr (nb_wr M 603 0 0) 603 11 0) _
      refine nb_Wg (q_m_back_2 _ _ _ _) ?_
      refine nb_Gt (by decide) ?_
      refine nb_Gr ?_
      refine nb_Wg (q_m_back_3 _ _ _ (by omega)) ?_
      refine nb_Gb ?_
      refine nb_Wg (q_m_isNot_0 _ _ _ (by omega)) ?_
      have W9 : nb_Lay (nb_wr (nb_wr (nb_wr M 603 0 0) 603 11 0) 603 11 1) := W2.wr (fun w => (nb_nlit (by decide) (by decide)))
      refine nb_Gr ?_
      refine nb_Wg (q_m_isNot_1 _ _ _) ?_
      refine nb_Gs ?_
      show nb_W 208 4 [(20, 603), (0, l1)] [(0, 0)] (nb_wr (nb_wr (nb_wr M 603 0 0) 603 11 0) 603 11 1) _
      have E10 : nb_i2z 0 = 0 := by decide
      refine nb_Wg (q_m_back_4 _ _ _ _) ?_
      simp only [E10]
      clear E10
      refine nb_Gs ?_
      exact nb_Hu H W9
    · have H := nb_Hw ((nb_Hu H).2 (by omega))
      have c19 : l1 ≤ M.1 603 22 - 1 := by omega
      refine nb_Gr ?_
      refine nb_Wg (q_m_within_2 _ _ _ _) ?_
      refine nb_Gr ?_
      have E11 : nb_i2z 1 = 1 := by decide
      refine nb_Wg (q_m_within_4 _ _ _ _ _) ?_
      simp only [E11]
      clear E11
      refine nb_Gs ?_
      show nb_W 208 2 [(20, 603), (0, l1)] [(0, 1)] (nb_wr (nb_wr M 603 0 0) 603 11 0) _
      refine nb_Wg (q_m_back_2 _ _ _ _) ?_
      refine nb_Gf (by decide) ?_
      refine nb_Gr ?_
      obtain ⟨p0_, p1_, H⟩ := H
      replace H := nb_Hw H
      have E12 : nb_rd (nb_wr (nb_wr M 603 0 0) 603 11 0) 603 20 = 611 := W2.m20
      have E13 : nb_mul 108 l1 = 108 * l1 := nb_mul_eq (by omega) (by omega)
      have E14 : nb_rd (nb_wr (nb_wr M 603 0 0) 603 11 0) 603 17 = 608 := W2.m17
      refine nb_Wg (q_m_back_5 _ _ _ (by omega)) ?_
      simp only [E12, E13, E14]
      clear E12 E13 E14
      refine nb_Gb ?_
      refine nb_W.imp (nb_Hu H) (fun r M16 H => ?_)
      obtain ⟨rfl, W17, H⟩ := H
      replace H := nb_Hw H
      show nb_W 208 6 [(20, 603), (0, l1)] [] M16 _
      refine nb_Wg (q_m_back_6 _ _ _ (by omega)) ?_
      have W18 : nb_Lay (nb_wr M16 603 21 0) := W17.wr (fun w => (nb_nlit (by decide) (by decide)))
      refine nb_Gr ?_
      refine nb_Wg (q_m_back_7 _ _ _) ?_
      refine nb_Gs ?_
      exact nb_Hu H W18

theorem w_m_note_2 {l1 : Int} {M : nb_M} {Q : List nb_V → nb_M → Prop} (W : nb_Lay M)  (b0_ : 0 ≤ l1 ∧ l1 ≤ 1188) (H : (l1 < 1188 → nb_W 200 2 [(20, 603), (0, l1 + 1)] [] (nb_wr M 610 l1 (M.1 610 (l1 + 108))) Q) ∧ (1188 ≤ l1 → -2147483648 ≤ M.1 603 21 - 1 ∧ M.1 603 21 - 1 ≤ 2147483647 ∧ -2147483648 ≤ 108 * (M.1 603 21 - 1) ∧ 108 * (M.1 603 21 - 1) ≤ 2147483647 ∧ nb_W 86 0 [(3, 608), (0, 0), (3, 610), (0, 108 * (M.1 603 21 - 1)), (0, 108), (98, 0)] [] (nb_wr M 603 21 (M.1 603 21 - 1)) (fun r M17 => r = [] ∧ nb_Lay M17 ∧ -2147483648 ≤ M17.1 603 21 + 1 ∧ M17.1 603 21 + 1 ≤ 2147483647 ∧ (nb_Lay (nb_wr M17 603 21 (M17.1 603 21 + 1)) → Q [] (nb_wr M17 603 21 (M17.1 603 21 + 1)))))) :
    nb_W 200 2 [(20, 603), (0, l1)] [] M Q := by
  replace H := nb_Hw H
  refine nb_Wg (q_m_note_2 _ _ _) ?_
  refine nb_Gi (fun c22 => ?_) (fun c22 => ?_)
  · have H := nb_Hw ((nb_Hu H).1 c22)
    refine nb_Gr ?_
    have E1 : nb_rd M 603 19 = 610 := W.m19
    have E2 : nb_rd M 603 19 = 610 := W.m19
    have E3 : nb_add l1 108 = l1 + 108 := nb_add_eq (by omega) (by omega)
    have N4 : nb_ln M 610 = 1296 := W.lk (by decide) (by decide +kernel)
    have E5 : nb_rd M 610 (l1 + 108) = M.1 610 (l1 + 108) := nb_rd_1 _ _ _
    have N6 : nb_ln M 610 = 1296 := W.lk (by decide) (by decide +kernel)
    refine nb_Wg (q_m_note_3 _ _ _ (by omega) (by rw [E2]; first | done | omega) (by rw [E3]; first | done | omega) (by rw [E3, E2, N4]; first | done | omega) (by rw [E1]; first | done | omega) (by omega) (by rw [E1, N6]; first | done | omega)) ?_
    simp only [E1, E2, E3, E5]
    clear E1 E2 E3 N4 E5 N6
    have W7 : nb_Lay (nb_wr M 610 l1 (M.1 610 (l1 + 108))) := W.wr (fun w => (nb_nnum (by decide) (by decide)))
    refine nb_Gr ?_
    have E8 : nb_add l1 1 = l1 + 1 := nb_add_eq (by omega) (by omega)
    refine nb_Wg (q_m_note_4 _ _ _) ?_
    simp only [E8]
    clear E8
    refine nb_Gr ?_
    exact nb_Hu H
  · have H := nb_Hw ((nb_Hu H).2 (by omega))
    have c22 : 1188 ≤ l1 := by omega
    refine nb_Gr ?_
    obtain ⟨p0_, p1_, H⟩ := H
    replace H := nb_Hw H
    have E9 : nb_rd M 603 21 = M.1 603 21 := nb_rd_1 _ _ _
    have E10 : nb_sub (M.1 603 21) 1 = M.1 603 21 - 1 := nb_sub_eq (by omega) (by omega)
    refine nb_Wg (q_m_note_5 _ _ _ (by omega)) ?_
    simp only [E9, E10]
    clear E9 E10
    have W11 : nb_Lay (nb_wr M 603 21 (M.1 603 21 - 1)) := W.wr (fun w => (nb_nlit (by decide) (by decide)))
    refine nb_Gr ?_
    obtain ⟨p0_, p1_, H⟩ := H
    replace H := nb_Hw H
    have E12 : nb_rd (nb_wr M 603 21 (M.1 603 21 - 1)) 603 17 = 608 := W11.m17
    have E13 : nb_rd (nb_wr M 603 21 (M.1 603 21 - 1)) 603 19 = 610 := W11.m19
    have E14 : nb_rd (nb_wr M 603 21 (M.1 603 21 - 1)) 603 21 = M.1 603 21 - 1 := nb_rd_same _ _ _ _
    have E15 : nb_mul 108 (M.1 603 21 - 1) = 108 * (M.1 603 21 - 1) := nb_mul_eq (by omega) (by omega)
    refine nb_Wg (q_m_note_6 _ _ _ (by omega)) ?_
    simp only [E12, E13, E14, E15]
    clear E12 E13 E14 E15
    refine nb_Gb ?_
    refine nb_W.imp (nb_Hu H) (fun r M17 H => ?_)
    obtain ⟨rfl, W18, H⟩ := H
    replace H := nb_Hw H
    show nb_W 200 7 [(20, 603), (0, l1)] [] M17 _
    obtain ⟨p0_, p1_, H⟩ := H
    replace H := nb_Hw H
    have E19 : nb_rd M17 603 21 = M17.1 603 21 := nb_rd_1 _ _ _
    have E20 : nb_add (M17.1 603 21) 1 = M17.1 603 21 + 1 := nb_add_eq (by omega) (by omega)
    refine nb_Wg (q_m_note_7 _ _ _ (by omega)) ?_
    simp only [E19, E20]
    clear E19 E20
    have W21 : nb_Lay (nb_wr M17 603 21 (M17.1 603 21 + 1)) := W18.wr (fun w => (nb_nlit (by decide) (by decide)))
    refine nb_Gr ?_
    refine nb_Wg (q_m_note_8 _ _ _) ?_
    refine nb_Gs ?_
    exact nb_Hu H W21

theorem w_m_pass_14 {l1 l2 : Int} {M : nb_M} {Q : List nb_V → nb_M → Prop} (W : nb_Lay M)  (b0_ : 0 ≤ l2 ∧ l2 ≤ 200) (H : (l2 < l1 → nb_W 132 0 [(20, 603), (3, 608), (98, 0), (98, 0), (98, 0), (98, 0)] [] M (fun r M3 => r = [] ∧ nb_Lay M3 ∧ nb_W 201 14 [(20, 603), (0, l1), (0, l2 + 1)] [] M3 Q)) ∧ (l1 ≤ l2 → (nb_Lay M → Q [(0, M.1 608 0)] M))) :
    nb_W 201 14 [(20, 603), (0, l1), (0, l2)] [] M Q := by
  replace H := nb_Hw H
  refine nb_Wg (q_m_pass_14 _ _ _ _) ?_
  refine nb_Gi (fun c9 => ?_) (fun c9 => ?_)
  · have H := nb_Hw ((nb_Hu H).1 c9)
    refine nb_Gr ?_
    have E1 : nb_rd M 603 17 = 608 := W.m17
    refine nb_Wg (q_m_pass_15 _ _ _ _ (by omega)) ?_
    simp only [E1]
    clear E1
    refine nb_Gb ?_
    refine nb_W.imp (nb_Hu H) (fun r M3 H => ?_)
    obtain ⟨rfl, W4, H⟩ := H
    replace H := nb_Hw H
    show nb_W 201 16 [(20, 603), (0, l1), (0, l2)] [] M3 _
    have E5 : nb_add l2 1 = l2 + 1 := nb_add_eq (by omega) (by omega)
    refine nb_Wg (q_m_pass_16 _ _ _ _) ?_
    simp only [E5]
    clear E5
    refine nb_Gr ?_
    exact nb_Hu H
  · have H := nb_Hw ((nb_Hu H).2 (by omega))
    have c9 : l1 ≤ l2 := by omega
    refine nb_Gr ?_
    have E6 : nb_rd M 603 17 = 608 := W.m17
    have N7 : nb_ln M 608 = 108 := W.lk (by decide) (by decide +kernel)
    have E8 : nb_rd M 608 0 = M.1 608 0 := nb_rd_1 _ _ _
    refine nb_Wg (q_m_pass_17 _ _ _ _ (by omega) (by rw [E6]; first | done | omega) (by omega) (by rw [E6, N7]; first | done | omega)) ?_
    simp only [E6, E8]
    clear E6 N7 E8
    refine nb_Gs ?_
    exact nb_Hu H W

