/-! rules, printed by wip/gen -/
theorem w_sc_countOf_0 {A l1 : Int} {v2 v3 : nb_V} {M : nb_M} {Q : List nb_V → nb_M → Prop} (W : nb_Lay M) (hA : nb_sc A) (H : nb_W 265 1 [(15, A), (0, l1), (0, 0), (0, 0)] [] M Q) :
    nb_W 265 0 [(15, A), (0, l1), v2, v3] [] M Q := by
  replace H := nb_Hw H
  have uhA := hA
  unfold nb_sc at uhA
  refine nb_Wg (q_sc_countOf_0 _ _ _ _ _) ?_
  refine nb_Gr ?_
  exact nb_Hu H

theorem w_sc_countOf_1 {A l1 l2 l3 : Int} {M : nb_M} {Q : List nb_V → nb_M → Prop} (W : nb_Lay M) (hA : nb_sc A) (b0_ : 0 ≤ l2 ∧ l2 ≤ 10) (b1_ : 0 ≤ l3 ∧ l3 ≤ 10) (H : 0 ≤ M.1 A 4 ∧ M.1 A 4 ≤ 10 ∧ (l3 < M.1 A 4 → (M.1 (A + 4 + l3) 8 = l1 → nb_W 265 1 [(15, A), (0, l1), (0, l2 + 1), (0, l3 + 1)] [] M Q) ∧ (M.1 (A + 4 + l3) 8 ≠ l1 → nb_W 265 1 [(15, A), (0, l1), (0, l2), (0, l3 + 1)] [] M Q)) ∧ (M.1 A 4 ≤ l3 → Q [(0, l2)] M)) :
    nb_W 265 1 [(15, A), (0, l1), (0, l2), (0, l3)] [] M Q := by
  replace H := nb_Hw H
  have uhA := hA
  unfold nb_sc at uhA
  obtain ⟨p0_, p1_, H⟩ := H
  replace H := nb_Hw H
  have E1 : nb_rd M A 4 = M.1 A 4 := nb_rd_1 _ _ _
  refine nb_Wg (q_sc_countOf_1 _ _ _ _ _ (by omega)) ?_
  simp only [E1]
  clear E1
  refine nb_Gi (fun c10 => ?_) (fun c10 => ?_)
  · have H := nb_Hw ((nb_Hu H).1 c10)
    refine nb_Gr ?_
    have E2 : nb_rd M A 0 = A + 1 := W.s0 (A := A) hA
    have N3 : nb_ln M (A + 1) = 10 := W.sn1 (A := A) hA
    have E4 : nb_rd M (A + 1) l3 = A + 4 + l3 := W.sg (A := A) (i := l3) hA (by omega) (by omega)
    have E5 : nb_rd M (A + 4 + l3) 8 = M.1 (A + 4 + l3) 8 := nb_rd_1 _ _ _
    refine nb_Wg (q_sc_countOf_2 _ _ _ _ _ (by omega) (by rw [E2]; first | done | omega) (by omega) (by rw [E2, N3]; first | done | omega) (by rw [E2, E4]; first | done | omega)) ?_
    simp only [E2, E4, E5]
    clear E2 N3 E4 E5
    refine nb_Gi (fun c9 => ?_) (fun c9 => ?_)
    · have H := nb_Hw ((nb_Hu H).1 c9)
      refine nb_Gr ?_
      have E6 : nb_add l2 1 = l2 + 1 := nb_add_eq (by omega) (by omega)
      refine nb_Wg (q_sc_countOf_3 _ _ _ _ _) ?_
      simp only [E6]
      clear E6
      refine nb_Gr ?_
      have E7 : nb_add l3 1 = l3 + 1 := nb_add_eq (by omega) (by omega)
      refine nb_Wg (q_sc_countOf_4 _ _ _ _ _) ?_
      simp only [E7]
      clear E7
      refine nb_Gr ?_
      exact nb_Hu H
    · have H := nb_Hw ((nb_Hu H).2 (by omega))
      have c9 : M.1 (A + 4 + l3) 8 ≠ l1 := by omega
      refine nb_Gr ?_
      have E8 : nb_add l3 1 = l3 + 1 := nb_add_eq (by omega) (by omega)
      refine nb_Wg (q_sc_countOf_4 _ _ _ _ _) ?_
      simp only [E8]
      clear E8
      refine nb_Gr ?_
      exact nb_Hu H
  · have H := nb_Hw ((nb_Hu H).2 (by omega))
    have c10 : M.1 A 4 ≤ l3 := by omega
    refine nb_Gr ?_
    refine nb_Wg (q_sc_countOf_5 _ _ _ _ _) ?_
    refine nb_Gs ?_
    exact nb_Hu H

theorem w_sc_waitOf_0 {A l1 : Int} {v2 : nb_V} {M : nb_M} {Q : List nb_V → nb_M → Prop} (W : nb_Lay M) (hA : nb_sc A) (b0_ : 0 ≤ l1 ∧ l1 ≤ 9) (H : (M.1 (A + 4 + l1) 8 = 0 → Q [(0, 0)] M) ∧ (M.1 (A + 4 + l1) 8 ≠ 0 → (M.1 (A + 4 + l1) 8 = 5 → Q [(0, 0)] M) ∧ (M.1 (A + 4 + l1) 8 ≠ 5 → (M.1 (A + 4 + l1) 8 = 1 → -2147483648 ≤ M.1 A 8 - (M.1 (A + 4 + l1) 2) ∧ M.1 A 8 - (M.1 (A + 4 + l1) 2) ≤ 2147483647 ∧ Q [(0, M.1 A 8 - (M.1 (A + 4 + l1) 2))] M) ∧ (M.1 (A + 4 + l1) 8 ≠ 1 → -2147483648 ≤ M.1 (A + 4 + l1) 11 - (M.1 (A + 4 + l1) 2) ∧ M.1 (A + 4 + l1) 11 - (M.1 (A + 4 + l1) 2) ≤ 2147483647 ∧ Q [(0, M.1 (A + 4 + l1) 11 - (M.1 (A + 4 + l1) 2))] M)))) :
    nb_W 266 0 [(15, A), (0, l1), v2] [] M Q := by
  replace H := nb_Hw H
  have uhA := hA
  unfold nb_sc at uhA
  have E1 : nb_rd M A 0 = A + 1 := W.s0 (A := A) hA
  have N2 : nb_ln M (A + 1) = 10 := W.sn1 (A := A) hA
  have E3 : nb_rd M (A + 1) l1 = A + 4 + l1 := W.sg (A := A) (i := l1) hA (by omega) (by omega)
  have E4 : nb_rd M (A + 4 + l1) 8 = M.1 (A + 4 + l1) 8 := nb_rd_1 _ _ _
  refine nb_Wg (q_sc_waitOf_0 _ _ _ _ (by omega) (by rw [E1]; first | done | omega) (by omega) (by rw [E1, N2]; first | done | omega) (by rw [E1, E3]; first | done | omega)) ?_
  simp only [E1, E3, E4]
  clear E1 N2 E3 E4
  refine nb_Gi (fun c15 => ?_) (fun c15 => ?_)
  · have H := nb_Hw ((nb_Hu H).1 c15)
    refine nb_Gr ?_
    refine nb_Wg (q_sc_waitOf_2 _ _ _ _) ?_
    refine nb_Gs ?_
    exact nb_Hu H
  · have H := nb_Hw ((nb_Hu H).2 (by omega))
    have c15 : M.1 (A + 4 + l1) 8 ≠ 0 := by omega
    refine nb_Gr ?_
    have E5 : nb_rd M (A + 4 + l1) 8 = M.1 (A + 4 + l1) 8 := nb_rd_1 _ _ _
    refine nb_Wg (q_sc_waitOf_1 _ _ _ _ (by omega)) ?_
    simp only [E5]
    clear E5
    refine nb_Gi (fun c14 => ?_) (fun c14 => ?_)
    · have H := nb_Hw ((nb_Hu H).1 c14)
      refine nb_Gr ?_
      refine nb_Wg (q_sc_waitOf_2 _ _ _ _) ?_
      refine nb_Gs ?_
      exact nb_Hu H
    · have H := nb_Hw ((nb_Hu H).2 (by omega))
      have c14 : M.1 (A + 4 + l1) 8 ≠ 5 := by omega
      refine nb_Gr ?_
      have E6 : nb_rd M (A + 4 + l1) 8 = M.1 (A + 4 + l1) 8 := nb_rd_1 _ _ _
      refine nb_Wg (q_sc_waitOf_3 _ _ _ _ (by omega)) ?_
      simp only [E6]
      clear E6
      refine nb_Gi (fun c13 => ?_) (fun c13 => ?_)
      · have H := nb_Hw ((nb_Hu H).1 c13)
        refine nb_Gr ?_
        have E7 : nb_rd M A 8 = M.1 A 8 := nb_rd_1 _ _ _
        refine nb_Wg (q_sc_waitOf_4 _ _ _ _ (by omega)) ?_
        simp only [E7]
        clear E7
        refine nb_Gr ?_
        obtain ⟨p0_, p1_, H⟩ := H
        replace H := nb_Hw H
        have E8 : nb_rd M (A + 4 + l1) 2 = M.1 (A + 4 + l1) 2 := nb_rd_1 _ _ _
        have E9 : nb_sub (M.1 A 8) (M.1 (A + 4 + l1) 2) = M.1 A 8 - (M.1 (A + 4 + l1) 2) := nb_sub_eq (by omega) (by omega)
        refine nb_Wg (q_sc_waitOf_6 _ _ _ _ _ (by omega)) ?_
        simp only [E8, E9]
        clear E8 E9
        refine nb_Gs ?_
        exact nb_Hu H
      · have H := nb_Hw ((nb_Hu H).2 (by omega))
        have c13 : M.1 (A + 4 + l1) 8 ≠ 1 := by omega
        refine nb_Gr ?_
        have E10 : nb_rd M (A + 4 + l1) 11 = M.1 (A + 4 + l1) 11 := nb_rd_1 _ _ _
        refine nb_Wg (q_sc_waitOf_5 _ _ _ _ (by omega)) ?_
        simp only [E10]
        clear E10
        refine nb_Gr ?_
        obtain ⟨p0_, p1_, H⟩ := H
        replace H := nb_Hw H
        have E11 : nb_rd M (A + 4 + l1) 2 = M.1 (A + 4 + l1) 2 := nb_rd_1 _ _ _
        have E12 : nb_sub (M.1 (A + 4 + l1) 11) (M.1 (A + 4 + l1) 2) = M.1 (A + 4 + l1) 11 - (M.1 (A + 4 + l1) 2) := nb_sub_eq (by omega) (by omega)
        refine nb_Wg (q_sc_waitOf_6 _ _ _ _ _ (by omega)) ?_
        simp only [E11, E12]
        clear E11 E12
        refine nb_Gs ?_
        exact nb_Hu H

theorem w_sc_servedWait_0 {A l1 : Int} {M : nb_M} {Q : List nb_V → nb_M → Prop} (W : nb_Lay M) (hA : nb_sc A) (b0_ : 0 ≤ l1 ∧ l1 ≤ 9) (H : (M.1 (A + 4 + l1) 8 = 2 → -2147483648 ≤ M.1 (A + 4 + l1) 11 - (M.1 (A + 4 + l1) 2) ∧ M.1 (A + 4 + l1) 11 - (M.1 (A + 4 + l1) 2) ≤ 2147483647 ∧ Q [(0, M.1 (A + 4 + l1) 11 - (M.1 (A + 4 + l1) 2))] M) ∧ (M.1 (A + 4 + l1) 8 ≠ 2 → (M.1 (A + 4 + l1) 8 = 3 → -2147483648 ≤ M.1 (A + 4 + l1) 11 - (M.1 (A + 4 + l1) 2) ∧ M.1 (A + 4 + l1) 11 - (M.1 (A + 4 + l1) 2) ≤ 2147483647 ∧ Q [(0, M.1 (A + 4 + l1) 11 - (M.1 (A + 4 + l1) 2))] M) ∧ (M.1 (A + 4 + l1) 8 ≠ 3 → Q [(0, 1000000)] M))) :
    nb_W 267 0 [(15, A), (0, l1)] [] M Q := by
  replace H := nb_Hw H
  have uhA := hA
  unfold nb_sc at uhA
  have E1 : nb_rd M A 0 = A + 1 := W.s0 (A := A) hA
  have N2 : nb_ln M (A + 1) = 10 := W.sn1 (A := A) hA
  have E3 : nb_rd M (A + 1) l1 = A + 4 + l1 := W.sg (A := A) (i := l1) hA (by omega) (by omega)
  refine nb_Wg (q_sc_servedWait_0 _ _ _ (by omega) (by rw [E1]; first | done | omega) (by omega) (by rw [E1, N2]; first | done | omega) (by rw [E1, E3]; first | done | omega)) ?_
  simp only [E1, E3]
  clear E1 N2 E3
  refine nb_Gb ?_
  have E4 : nb_rd M (A + 4 + l1) 8 = M.1 (A + 4 + l1) 8 := nb_rd_1 _ _ _
  refine nb_Wg (q_g_isServed_0 _ _ (by omega)) ?_
  simp only [E4]
  clear E4
  refine nb_Gi (fun c28 => ?_) (fun c28 => ?_)
  · have H := nb_Hw ((nb_Hu H).1 c28)
    refine nb_Gr ?_
    refine nb_Wg (q_g_isServed_2 _ _) ?_
    refine nb_Gr ?_
    have E5 : nb_i2z 1 = 1 := by decide
    refine nb_Wg (q_g_isServed_4 _ _ _) ?_
    simp only [E5]
    clear E5
    refine nb_Gs ?_
    show nb_W 267 1 [(15, A), (0, l1)] [(0, 1)] M _
    refine nb_Wg (q_sc_servedWait_1 _ _ _ _) ?_
    refine nb_Gf (by decide) ?_
    refine nb_Gr ?_
    refine nb_Wg (q_sc_servedWait_2 _ _ _ (by omega)) ?_
    refine nb_Gb ?_
    have E6 : nb_rd M A 0 = A + 1 := W.s0 (A := A) hA
    have N7 : nb_ln M (A + 1) = 10 := W.sn1 (A := A) hA
    have E8 : nb_rd M (A + 1) l1 = A + 4 + l1 := W.sg (A := A) (i := l1) hA (by omega) (by omega)
    have E9 : nb_rd M (A + 4 + l1) 8 = M.1 (A + 4 + l1) 8 := nb_rd_1 _ _ _
    refine nb_Wg (q_sc_waitOf_0 _ _ _ _ (by omega) (by rw [E6]; first | done | omega) (by omega) (by rw [E6, N7]; first | done | omega) (by rw [E6, E8]; first | done | omega)) ?_
    simp only [E6, E8, E9]
    clear E6 N7 E8 E9
    refine nb_Gf (by omega) ?_
    refine nb_Gr ?_
    have E10 : nb_rd M (A + 4 + l1) 8 = M.1 (A + 4 + l1) 8 := nb_rd_1 _ _ _
    refine nb_Wg (q_sc_waitOf_1 _ _ _ _ (by omega)) ?_
    simp only [E10]
    clear E10
    refine nb_Gf (by omega) ?_
    refine nb_Gr ?_
    have E11 : nb_rd M (A + 4 + l1) 8 = M.1 (A + 4 + l1) 8 := nb_rd_1 _ _ _
    refine nb_Wg (q_sc_waitOf_3 _ _ _ _ (by omega)) ?_
    simp only [E11]
    clear E11
    refine nb_Gf (by omega) ?_
    refine nb_Gr ?_
    have E12 : nb_rd M (A + 4 + l1) 11 = M.1 (A + 4 + l1) 11 := nb_rd_1 _ _ _
    refine nb_Wg (q_sc_waitOf_5 _ _ _ _ (by omega)) ?_
    simp only [E12]
    clear E12
    refine nb_Gr ?_
    obtain ⟨p0_, p1_, H⟩ := H
    replace H := nb_Hw H
    have E13 : nb_rd M (A + 4 + l1) 2 = M.1 (A + 4 + l1) 2 := nb_rd_1 _ _ _
    have E14 : nb_sub (M.1 (A + 4 + l1) 11) (M.1 (A + 4 + l1) 2) = M.1 (A + 4 + l1) 11 - (M.1 (A + 4 + l1) 2) := nb_sub_eq (by omega) (by omega)
    refine nb_Wg (q_sc_waitOf_6 _ _ _ _ _ (by omega)) ?_
    simp only [E13, E14]
    clear E13 E14
    refine nb_Gs ?_
    show nb_W 267 3 [(15, A), (0, l1)] [(0, M.1 (A + 4 + l1) 11 - (M.1 (A + 4 + l1) 2))] M _
    refine nb_Wg (q_sc_servedWait_3 _ _ _ _) ?_
    refine nb_Gr ?_
    refine nb_Wg (q_sc_servedWait_5 _ _ _ _) ?_
    refine nb_Gs ?_
    exact nb_Hu H
  · have H := nb_Hw ((nb_Hu H).2 (by omega))
    have c28 : M.1 (A + 4 + l1) 8 ≠ 2 := by omega
    refine nb_Gr ?_
    have E15 : nb_rd M (A + 4 + l1) 8 = M.1 (A + 4 + l1) 8 := nb_rd_1 _ _ _
    refine nb_Wg (q_g_isServed_1 _ _ (by omega)) ?_
    simp only [E15]
    clear E15
    refine nb_Gi (fun c27 => ?_) (fun c27 => ?_)
    · have H := nb_Hw ((nb_Hu H).1 c27)
      refine nb_Gr ?_
      refine nb_Wg (q_g_isServed_2 _ _) ?_
      refine nb_Gr ?_
      have E16 : nb_i2z 1 = 1 := by decide
      refine nb_Wg (q_g_isServed_4 _ _ _) ?_
      simp only [E16]
      clear E16
      refine nb_Gs ?_
      show nb_W 267 1 [(15, A), (0, l1)] [(0, 1)] M _
      refine nb_Wg (q_sc_servedWait_1 _ _ _ _) ?_
      refine nb_Gf (by decide) ?_
      refine nb_Gr ?_
      refine nb_Wg (q_sc_servedWait_2 _ _ _ (by omega)) ?_
      refine nb_Gb ?_
      have E17 : nb_rd M A 0 = A + 1 := W.s0 (A := A) hA
      have N18 : nb_ln M (A + 1) = 10 := W.sn1 (A := A) hA
      have E19 : nb_rd M (A + 1) l1 = A + 4 + l1 := W.sg (A := A) (i := l1) hA (by omega) (by omega)
      have E20 : nb_rd M (A + 4 + l1) 8 = M.1 (A + 4 + l1) 8 := nb_rd_1 _ _ _
      refine nb_Wg (q_sc_waitOf_0 _ _ _ _ (by omega) (by rw [E17]; first | done | omega) (by omega) (by rw [E17, N18]; first | done | omega) (by rw [E17, E19]; first | done | omega)) ?_
      simp only [E17, E19, E20]
      clear E17 N18 E19 E20
      refine nb_Gf (by omega) ?_
      refine nb_Gr ?_
      have E21 : nb_rd M (A + 4 + l1) 8 = M.1 (A + 4 + l1) 8 := nb_rd_1 _ _ _
      refine nb_Wg (q_sc_waitOf_1 _ _ _ _ (by omega)) ?_
      simp only [E21]
      clear E21
      refine nb_Gf (by omega) ?_
      refine nb_Gr ?_
      have E22 : nb_rd M (A + 4 + l1) 8 = M.1 (A + 4 + l1) 8 := nb_rd_1 _ _ _
      refine nb_Wg (q_sc_waitOf_3 _ _ _ _ (by omega)) ?_
      simp only [E22]
      clear E22
      refine nb_Gf (by omega) ?_
      refine nb_Gr ?_
      have E23 : nb_rd M (A + 4 + l1) 11 = M.1 (A + 4 + l1) 11 := nb_rd_1 _ _ _
      refine nb_Wg (q_sc_waitOf_5 _ _ _ _ (by omega)) ?_
      simp only [E23]
      clear E23
      refine nb_Gr ?_
      obtain ⟨p0_, p1_, H⟩ := H
      replace H := nb_Hw H
      have E24 : nb_rd M (A + 4 + l1) 2 = M.1 (A + 4 + l1) 2 := nb_rd_1 _ _ _
      have E25 : nb_sub (M.1 (A + 4 + l1) 11) (M.1 (A + 4 + l1) 2) = M.1 (A + 4 + l1) 11 - (M.1 (A + 4 + l1) 2) := nb_sub_eq (by omega) (by omega)
      refine nb_Wg (q_sc_waitOf_6 _ _ _ _ _ (by omega)) ?_
      simp only [E24, E25]
      clear E24 E25
      refine nb_Gs ?_
      show nb_W 267 3 [(15, A), (0, l1)] [(0, M.1 (A + 4 + l1) 11 - (M.1 (A + 4 + l1) 2))] M _
      refine nb_Wg (q_sc_servedWait_3 _ _ _ _) ?_
      refine nb_Gr ?_
      refine nb_Wg (q_sc_servedWait_5 _ _ _ _) ?_
      refine nb_Gs ?_
      exact nb_Hu H
    · have H := nb_Hw ((nb_Hu H).2 (by omega))
      have c27 : M.1 (A + 4 + l1) 8 ≠ 3 := by omega
      refine nb_Gr ?_
      refine nb_Wg (q_g_isServed_3 _ _) ?_
      refine nb_Gr ?_
      have E26 : nb_i2z 0 = 0 := by decide
      refine nb_Wg (q_g_isServed_4 _ _ _) ?_
      simp only [E26]
      clear E26
      refine nb_Gs ?_
      show nb_W 267 1 [(15, A), (0, l1)] [(0, 0)] M _
      refine nb_Wg (q_sc_servedWait_1 _ _ _ _) ?_
      refine nb_Gt (by decide) ?_
      refine nb_Gr ?_
      refine nb_Wg (q_sc_servedWait_4 _ _ _) ?_
      refine nb_Gr ?_
      refine nb_Wg (q_sc_servedWait_5 _ _ _ _) ?_
      refine nb_Gs ?_
      exact nb_Hu H

theorem w_sc_waitN_0 {A l1 : Int} {v2 v3 : nb_V} {M : nb_M} {Q : List nb_V → nb_M → Prop} (W : nb_Lay M) (hA : nb_sc A) (H : nb_W 0 1 [(15, A), (0, l1), (0, l1), (0, 0)] [] M Q) :
    nb_W 0 0 [(15, A), (0, l1), v2, v3] [] M Q := by
  replace H := nb_Hw H
  have uhA := hA
  unfold nb_sc at uhA
  refine nb_Wg (q_sc_waitingAsNumber_0 _ _ _ _ _) ?_
  refine nb_Gr ?_
  exact nb_Hu H

theorem w_sc_waitN_1 {A l2 l3 : Int} {v1 : nb_V} {M : nb_M} {Q : List nb_V → nb_M → Prop} (W : nb_Lay M) (hA : nb_sc A) (b0_ : 0 ≤ l3 ∧ l3 ≤ 10) (b1_ : (-1) ≤ l2 ∧ l2 ≤ 2147483647) (H : 0 ≤ M.1 A 4 ∧ M.1 A 4 ≤ 10 ∧ (l3 < M.1 A 4 → (M.1 (A + 4 + l3) 8 = 1 → (l2 = 0 → Q [(0, l3)] M) ∧ (l2 ≠ 0 → nb_W 0 1 [(15, A), nb_clr v1, (0, l2 - 1), (0, l3 + 1)] [] M Q)) ∧ (M.1 (A + 4 + l3) 8 ≠ 1 → nb_W 0 1 [(15, A), v1, (0, l2), (0, l3 + 1)] [] M Q)) ∧ (M.1 A 4 ≤ l3 → Q [(0, (-1))] M)) :
    nb_W 0 1 [(15, A), v1, (0, l2), (0, l3)] [] M Q := by
  replace H := nb_Hw H
  have uhA := hA
  unfold nb_sc at uhA
  obtain ⟨p0_, p1_, H⟩ := H
  replace H := nb_Hw H
  have E1 : nb_rd M A 4 = M.1 A 4 := nb_rd_1 _ _ _
  refine nb_Wg (q_sc_waitingAsNumber_1 _ _ _ _ _ (by omega)) ?_
  simp only [E1]
  clear E1
  refine nb_Gi (fun c11 => ?_) (fun c11 => ?_)
  · have H := nb_Hw ((nb_Hu H).1 c11)
    refine nb_Gr ?_
    have E2 : nb_rd M A 0 = A + 1 := W.s0 (A := A) hA
    have N3 : nb_ln M (A + 1) = 10 := W.sn1 (A := A) hA
    have E4 : nb_rd M (A + 1) l3 = A + 4 + l3 := W.sg (A := A) (i := l3) hA (by omega) (by omega)
    have E5 : nb_rd M (A + 4 + l3) 8 = M.1 (A + 4 + l3) 8 := nb_rd_1 _ _ _
    refine nb_Wg (q_sc_waitingAsNumber_2 _ _ _ _ _ (by omega) (by rw [E2]; first | done | omega) (by omega) (by rw [E2, N3]; first | done | omega) (by rw [E2, E4]; first | done | omega)) ?_
    simp only [E2, E4, E5]
    clear E2 N3 E4 E5
    refine nb_Gi (fun c10 => ?_) (fun c10 => ?_)
    · have H := nb_Hw ((nb_Hu H).1 c10)
      refine nb_Gr ?_
      refine nb_Wg (q_sc_waitingAsNumber_3 _ _ _ _ _) ?_
      refine nb_Gi (fun c8 => ?_) (fun c8 => ?_)
      · have H := nb_Hw ((nb_Hu H).1 c8)
        refine nb_Gr ?_
        refine nb_Wg (q_sc_waitingAsNumber_4 _ _ _ _ _) ?_
        refine nb_Gs ?_
        exact nb_Hu H
      · have H := nb_Hw ((nb_Hu H).2 (by omega))
        have c8 : l2 ≠ 0 := by omega
        refine nb_Gr ?_
        have E6 : nb_add l2 (-1) = l2 - 1 := (nb_add_eq (x := l2) (y := (-1)) (by omega) (by omega)).trans (by omega)
        refine nb_Wg (q_sc_waitingAsNumber_5 _ _ _ _ _) ?_
        simp only [E6]
        clear E6
        refine nb_Gr ?_
        have E7 : nb_add l3 1 = l3 + 1 := nb_add_eq (by omega) (by omega)
        refine nb_Wg (q_sc_waitingAsNumber_6 _ _ _ _ _) ?_
        simp only [E7]
        clear E7
        refine nb_Gr ?_
        exact nb_Hu H
    · have H := nb_Hw ((nb_Hu H).2 (by omega))
      have c10 : M.1 (A + 4 + l3) 8 ≠ 1 := by omega
      refine nb_Gr ?_
      have E9 : nb_add l3 1 = l3 + 1 := nb_add_eq (by omega) (by omega)
      refine nb_Wg (q_sc_waitingAsNumber_6 _ _ _ _ _) ?_
      simp only [E9]
      clear E9
      refine nb_Gr ?_
      exact nb_Hu H
  · have H := nb_Hw ((nb_Hu H).2 (by omega))
    have c11 : M.1 A 4 ≤ l3 := by omega
    refine nb_Gr ?_
    refine nb_Wg (q_sc_waitingAsNumber_7 _ _ _ _ _) ?_
    refine nb_Gs ?_
    exact nb_Hu H

theorem w_m_fateOf_0 {l1 : Int} {M : nb_M} {Q : List nb_V → nb_M → Prop} (W : nb_Lay M)  (b0_ : 0 ≤ l1 ∧ l1 ≤ 9) (H : (M.1 609 (12 + 8 * l1) = 2 → Q [(0, 0)] M) ∧ (M.1 609 (12 + 8 * l1) = 3 → (M.1 609 (12 + 8 * l1 + 4) = (-2) → Q [(0, 1)] M) ∧ (M.1 609 (12 + 8 * l1 + 4) ≠ (-2) → Q [(0, 0)] M)) ∧ (M.1 609 (12 + 8 * l1) = 4 → Q [(0, 2)] M) ∧ (M.1 609 (12 + 8 * l1) = 5 → Q [(0, 4)] M) ∧ (M.1 609 (12 + 8 * l1) ≠ 2 → M.1 609 (12 + 8 * l1) ≠ 3 → M.1 609 (12 + 8 * l1) ≠ 4 → M.1 609 (12 + 8 * l1) ≠ 5 → Q [(0, 3)] M)) :
    nb_W 135 0 [(20, 603), (0, l1)] [] M Q := by
  replace H := nb_Hw H
  have E1 : nb_rd M 603 18 = 609 := W.m18
  refine nb_Wg (q_m_fateOf_0 _ _ _ (by omega)) ?_
  simp only [E1]
  clear E1
  refine nb_Gb ?_
  have E2 : nb_mul 8 l1 = 8 * l1 := nb_mul_eq (by omega) (by omega)
  have E3 : nb_add 12 (8 * l1) = 12 + 8 * l1 := (nb_add_eq (x := 12) (y := 8 * l1) (by omega) (by omega)).trans (by omega)
  have E4 : nb_add (12 + 8 * l1) 0 = 12 + 8 * l1 := (nb_add_eq (x := 12 + 8 * l1) (y := 0) (by omega) (by omega)).trans (by omega)
  have N5 : nb_ln M 609 = 108 := W.lk (by decide) (by decide +kernel)
  have E6 : nb_rd M 609 (12 + 8 * l1) = M.1 609 (12 + 8 * l1) := nb_rd_1 _ _ _
  refine nb_Wg (q_m_its_0 _ _ _ _ (by omega) (by rw [E2, E3, E4]; first | done | omega) (by rw [E2, E3, E4, N5]; first | done | omega)) ?_
  simp only [E2, E3, E4, E6]
  clear E2 E3 E4 N5 E6
  refine nb_Gs ?_
  show nb_W 135 1 [(20, 603), (0, l1)] [(0, M.1 609 (12 + 8 * l1))] M _
  refine nb_Wg (q_m_fateOf_1 _ _ _ _) ?_
  refine nb_Gi (fun c7 => ?_) (fun c7 => ?_)
  · have H := nb_Hw ((nb_Hu H).1 c7)
    refine nb_Gr ?_
    refine nb_Wg (q_m_fateOf_2 _ _ _) ?_
    refine nb_Gs ?_
    exact nb_Hu H
  refine nb_Gi (fun c15 => ?_) (fun c15 => ?_)
  · have H := nb_Hw ((nb_Hu H).2.1 c15)
    refine nb_Gr ?_
    have E8 : nb_rd M 603 18 = 609 := W.m18
    refine nb_Wg (q_m_fateOf_3 _ _ _ (by omega)) ?_
    simp only [E8]
    clear E8
    refine nb_Gb ?_
    have E9 : nb_mul 8 l1 = 8 * l1 := nb_mul_eq (by omega) (by omega)
    have E10 : nb_add 12 (8 * l1) = 12 + 8 * l1 := (nb_add_eq (x := 12) (y := 8 * l1) (by omega) (by omega)).trans (by omega)
    have E11 : nb_add (12 + 8 * l1) 4 = 12 + 8 * l1 + 4 := nb_add_eq (by omega) (by omega)
    have N12 : nb_ln M 609 = 108 := W.lk (by decide) (by decide +kernel)
    have E13 : nb_rd M 609 (12 + 8 * l1 + 4) = M.1 609 (12 + 8 * l1 + 4) := nb_rd_1 _ _ _
    refine nb_Wg (q_m_its_0 _ _ _ _ (by omega) (by rw [E9, E10, E11]; first | done | omega) (by rw [E9, E10, E11, N12]; first | done | omega)) ?_
    simp only [E9, E10, E11, E13]
    clear E9 E10 E11 N12 E13
    refine nb_Gs ?_
    show nb_W 135 4 [(20, 603), (0, l1)] [(0, M.1 609 (12 + 8 * l1 + 4))] M _
    refine nb_Wg (q_m_fateOf_4 _ _ _ _) ?_
    refine nb_Gi (fun c14 => ?_) (fun c14 => ?_)
    · have H := nb_Hw ((nb_Hu H).1 c14)
      refine nb_Gr ?_
      refine nb_Wg (q_m_fateOf_5 _ _ _) ?_
      refine nb_Gr ?_
      refine nb_Wg (q_m_fateOf_7 _ _ _ _) ?_
      refine nb_Gs ?_
      exact nb_Hu H
    · have H := nb_Hw ((nb_Hu H).2 (by omega))
      have c14 : M.1 609 (12 + 8 * l1 + 4) ≠ (-2) := by omega
      refine nb_Gr ?_
      refine nb_Wg (q_m_fateOf_6 _ _ _) ?_
      refine nb_Gr ?_
      refine nb_Wg (q_m_fateOf_7 _ _ _ _) ?_
      refine nb_Gs ?_
      exact nb_Hu H
  refine nb_Gi (fun c16 => ?_) (fun c16 => ?_)
  · have H := nb_Hw ((nb_Hu H).2.2.1 c16)
    refine nb_Gr ?_
    refine nb_Wg (q_m_fateOf_8 _ _ _) ?_
    refine nb_Gs ?_
    exact nb_Hu H
  refine nb_Gi (fun c17 => ?_) (fun c17 => ?_)
  · have H := nb_Hw ((nb_Hu H).2.2.2.1 c17)
    refine nb_Gr ?_
    refine nb_Wg (q_m_fateOf_9 _ _ _) ?_
    refine nb_Gs ?_
    exact nb_Hu H
  have H := nb_Hw ((nb_Hu H).2.2.2.2 (by omega) (by omega) (by omega) (by omega))
  refine nb_Gr ?_
  refine nb_Wg (q_m_fateOf_10 _ _ _) ?_
  refine nb_Gs ?_
  exact nb_Hu H

theorem w_m_waitOf_0 {l1 : Int} {v2 : nb_V} {M : nb_M} {Q : List nb_V → nb_M → Prop} (W : nb_Lay M)  (b0_ : 0 ≤ l1 ∧ l1 ≤ 9) (H : (M.1 609 (12 + 8 * l1) = 2 → (M.1 609 (12 + 8 * l1 + 4) = (-2) → (M.1 609 (12 + 8 * l1 + 7) = (-2) → -2147483648 ≤ M.1 603 26 - (M.1 613 (7 * l1 + 2)) ∧ M.1 603 26 - (M.1 613 (7 * l1 + 2)) ≤ 2147483647 ∧ Q [(0, M.1 603 26 - (M.1 613 (7 * l1 + 2)))] M) ∧ (M.1 609 (12 + 8 * l1 + 7) ≠ (-2) → -2147483648 ≤ M.1 609 (12 + 8 * l1 + 7) - (M.1 613 (7 * l1 + 2)) ∧ M.1 609 (12 + 8 * l1 + 7) - (M.1 613 (7 * l1 + 2)) ≤ 2147483647 ∧ Q [(0, M.1 609 (12 + 8 * l1 + 7) - (M.1 613 (7 * l1 + 2)))] M)) ∧ (M.1 609 (12 + 8 * l1 + 4) ≠ (-2) → -2147483648 ≤ M.1 609 (12 + 8 * l1 + 4) - (M.1 613 (7 * l1 + 2)) ∧ M.1 609 (12 + 8 * l1 + 4) - (M.1 613 (7 * l1 + 2)) ≤ 2147483647 ∧ Q [(0, M.1 609 (12 + 8 * l1 + 4) - (M.1 613 (7 * l1 + 2)))] M)) ∧ (M.1 609 (12 + 8 * l1) = 3 → (M.1 609 (12 + 8 * l1 + 4) = (-2) → (M.1 609 (12 + 8 * l1 + 7) = (-2) → -2147483648 ≤ M.1 603 26 - (M.1 613 (7 * l1 + 2)) ∧ M.1 603 26 - (M.1 613 (7 * l1 + 2)) ≤ 2147483647 ∧ Q [(0, M.1 603 26 - (M.1 613 (7 * l1 + 2)))] M) ∧ (M.1 609 (12 + 8 * l1 + 7) ≠ (-2) → -2147483648 ≤ M.1 609 (12 + 8 * l1 + 7) - (M.1 613 (7 * l1 + 2)) ∧ M.1 609 (12 + 8 * l1 + 7) - (M.1 613 (7 * l1 + 2)) ≤ 2147483647 ∧ Q [(0, M.1 609 (12 + 8 * l1 + 7) - (M.1 613 (7 * l1 + 2)))] M)) ∧ (M.1 609 (12 + 8 * l1 + 4) ≠ (-2) → -2147483648 ≤ M.1 609 (12 + 8 * l1 + 4) - (M.1 613 (7 * l1 + 2)) ∧ M.1 609 (12 + 8 * l1 + 4) - (M.1 613 (7 * l1 + 2)) ≤ 2147483647 ∧ Q [(0, M.1 609 (12 + 8 * l1 + 4) - (M.1 613 (7 * l1 + 2)))] M)) ∧ (M.1 609 (12 + 8 * l1) = 4 → (M.1 609 (12 + 8 * l1 + 4) = (-2) → (M.1 609 (12 + 8 * l1 + 7) = (-2) → -2147483648 ≤ M.1 603 26 - (M.1 613 (7 * l1 + 2)) ∧ M.1 603 26 - (M.1 613 (7 * l1 + 2)) ≤ 2147483647 ∧ Q [(0, M.1 603 26 - (M.1 613 (7 * l1 + 2)))] M) ∧ (M.1 609 (12 + 8 * l1 + 7) ≠ (-2) → -2147483648 ≤ M.1 609 (12 + 8 * l1 + 7) - (M.1 613 (7 * l1 + 2)) ∧ M.1 609 (12 + 8 * l1 + 7) - (M.1 613 (7 * l1 + 2)) ≤ 2147483647 ∧ Q [(0, M.1 609 (12 + 8 * l1 + 7) - (M.1 613 (7 * l1 + 2)))] M)) ∧ (M.1 609 (12 + 8 * l1 + 4) ≠ (-2) → -2147483648 ≤ M.1 609 (12 + 8 * l1 + 4) - (M.1 613 (7 * l1 + 2)) ∧ M.1 609 (12 + 8 * l1 + 4) - (M.1 613 (7 * l1 + 2)) ≤ 2147483647 ∧ Q [(0, M.1 609 (12 + 8 * l1 + 4) - (M.1 613 (7 * l1 + 2)))] M)) ∧ (M.1 609 (12 + 8 * l1) = 5 → Q [(0, (-2))] M) ∧ (M.1 609 (12 + 8 * l1) ≠ 2 → M.1 609 (12 + 8 * l1) ≠ 3 → M.1 609 (12 + 8 * l1) ≠ 4 → M.1 609 (12 + 8 * l1) ≠ 5 → (M.1 609 (12 + 8 * l1 + 4) = (-2) → (M.1 609 (12 + 8 * l1 + 7) = (-2) → -2147483648 ≤ M.1 603 26 - (M.1 613 (7 * l1 + 2)) ∧ M.1 603 26 - (M.1 613 (7 * l1 + 2)) ≤ 2147483647 ∧ Q [(0, M.1 603 26 - (M.1 613 (7 * l1 + 2)))] M) ∧ (M.1 609 (12 + 8 * l1 + 7) ≠ (-2) → -2147483648 ≤ M.1 609 (12 + 8 * l1 + 7) - (M.1 613 (7 * l1 + 2)) ∧ M.1 609 (12 + 8 * l1 + 7) - (M.1 613 (7 * l1 + 2)) ≤ 2147483647 ∧ Q [(0, M.1 609 (12 + 8 * l1 + 7) - (M.1 613 (7 * l1 + 2)))] M)) ∧ (M.1 609 (12 + 8 * l1 + 4) ≠ (-2) → -2147483648 ≤ M.1 609 (12 + 8 * l1 + 4) - (M.1 613 (7 * l1 + 2)) ∧ M.1 609 (12 + 8 * l1 + 4) - (M.1 613 (7 * l1 + 2)) ≤ 2147483647 ∧ Q [(0, M.1 609 (12 + 8 * l1 + 4) - (M.1 613 (7 * l1 + 2)))] M))) :
    nb_W 136 0 [(20, 603), (0, l1), v2] [] M Q := by
  replace H := nb_Hw H
  refine nb_Wg (q_m_waitOf_0 _ _ _ _ (by omega)) ?_
  refine nb_Gb ?_
  have E1 : nb_rd M 603 18 = 609 := W.m18
  refine nb_Wg (q_m_fateOf_0 _ _ _ (by omega)) ?_
  simp only [E1]
  clear E1
  refine nb_Gb ?_
  have E2 : nb_mul 8 l1 = 8 * l1 := nb_mul_eq (by omega) (by omega)
  have E3 : nb_add 12 (8 * l1) = 12 + 8 * l1 := (nb_add_eq (x := 12) (y := 8 * l1) (by omega) (by omega)).trans (by omega)
  have E4 : nb_add (12 + 8 * l1) 0 = 12 + 8 * l1 := (nb_add_eq (x := 12 + 8 * l1) (y := 0) (by omega) (by omega)).trans (by omega)
  have N5 : nb_ln M 609 = 108 := W.lk (by decide) (by decide +kernel)
  have E6 : nb_rd M 609 (12 + 8 * l1) = M.1 609 (12 + 8 * l1) := nb_rd_1 _ _ _
  refine nb_Wg (q_m_its_0 _ _ _ _ (by omega) (by rw [E2, E3, E4]; first | done | omega) (by rw [E2, E3, E4, N5]; first | done | omega)) ?_
  simp only [E2, E3, E4, E6]
  clear E2 E3 E4 N5 E6
  refine nb_Gs ?_
  show nb_W 135 1 [(20, 603), (0, l1)] [(0, M.1 609 (12 + 8 * l1))] M _
  refine nb_Wg (q_m_fateOf_1 _ _ _ _) ?_
  refine nb_Gi (fun c52 => ?_) (fun c52 => ?_)
  · have H := nb_Hw ((nb_Hu H).1 c52)
    refine nb_Gr ?_
    refine nb_Wg (q_m_fateOf_2 _ _ _) ?_
    refine nb_Gs ?_
    show nb_W 136 1 [(20, 603), (0, l1), v2] [(0, 0)] M _
    refine nb_Wg (q_m_waitOf_1 _ _ _ _ _) ?_
    refine nb_Gf (by decide) ?_
    refine nb_Gr ?_
    have E7 : nb_rd M 603 18 = 609 := W.m18
    refine nb_Wg (q_m_waitOf_3 _ _ _ _ (by omega)) ?_
    simp only [E7]
    clear E7
    refine nb_Gb ?_
    have E8 : nb_mul 8 l1 = 8 * l1 := nb_mul_eq (by omega) (by omega)
    have E9 : nb_add 12 (8 * l1) = 12 + 8 * l1 := (nb_add_eq (x := 12) (y := 8 * l1) (by omega) (by omega)).trans (by omega)
    have E10 : nb_add (12 + 8 * l1) 4 = 12 + 8 * l1 + 4 := nb_add_eq (by omega) (by omega)
    have N11 : nb_ln M 609 = 108 := W.lk (by decide) (by decide +kernel)
    have E12 : nb_rd M 609 (12 + 8 * l1 + 4) = M.1 609 (12 + 8 * l1 + 4) := nb_rd_1 _ _ _
    refine nb_Wg (q_m_its_0 _ _ _ _ (by omega) (by rw [E8, E9, E10]; first | done | omega) (by rw [E8, E9, E10, N11]; first | done | omega)) ?_
    simp only [E8, E9, E10, E12]
    clear E8 E9 E10 N11 E12
    refine nb_Gs ?_
    show nb_W 136 4 [(20, 603), (0, l1), v2] [(0, M.1 609 (12 + 8 * l1 + 4))] M _
    refine nb_Wg (q_m_waitOf_4 _ _ _ _ _) ?_
    refine nb_Gi (fun c51 => ?_) (fun c51 => ?_)
    · have H := nb_Hw ((nb_Hu H).1 c51)
      refine nb_Gr ?_
      have E13 : nb_rd M 603 18 = 609 := W.m18
      refine nb_Wg (q_m_waitOf_7 _ _ _ _ (by omega)) ?_
      simp only [E13]
      clear E13
      refine nb_Gb ?_
      have E14 : nb_mul 8 l1 = 8 * l1 := nb_mul_eq (by omega) (by omega)
      have E15 : nb_add 12 (8 * l1) = 12 + 8 * l1 := (nb_add_eq (x := 12) (y := 8 * l1) (by omega) (by omega)).trans (by omega)
      have E16 : nb_add (12 + 8 * l1) 7 = 12 + 8 * l1 + 7 := nb_add_eq (by omega) (by omega)
      have N17 : nb_ln M 609 = 108 := W.lk (by decide) (by decide +kernel)
      have E18 : nb_rd M 609 (12 + 8 * l1 + 7) = M.1 609 (12 + 8 * l1 + 7) := nb_rd_1 _ _ _
      refine nb_Wg (q_m_its_0 _ _ _ _ (by omega) (by rw [E14, E15, E16]; first | done | omega) (by rw [E14, E15, E16, N17]; first | done | omega)) ?_
      simp only [E14, E15, E16, E18]
      clear E14 E15 E16 N17 E18
      refine nb_Gs ?_
      show nb_W 136 8 [(20, 603), (0, l1), v2] [(0, M.1 609 (12 + 8 * l1 + 7))] M _
      refine nb_Wg (q_m_waitOf_8 _ _ _ _ _) ?_
      refine nb_Gi (fun c38 => ?_) (fun c38 => ?_)
      · have H := nb_Hw ((nb_Hu H).1 c38)
        refine nb_Gr ?_
        have E19 : nb_rd M 603 26 = M.1 603 26 := nb_rd_1 _ _ _
        refine nb_Wg (q_m_waitOf_11 _ _ _ _ (by omega)) ?_
        simp only [E19]
        clear E19
        refine nb_Gr ?_
        refine nb_Wg (q_m_waitOf_12 _ _ _ _ _ (by omega)) ?_
        refine nb_Gb ?_
        have E20 : nb_rd M 603 24 = 613 := W.m24
        have E21 : nb_mul 7 l1 = 7 * l1 := nb_mul_eq (by omega) (by omega)
        have E22 : nb_add (7 * l1) 2 = 7 * l1 + 2 := nb_add_eq (by omega) (by omega)
        have N23 : nb_ln M 613 = 70 := W.lk (by decide) (by decide +kernel)
        have E24 : nb_rd M 613 (7 * l1 + 2) = M.1 613 (7 * l1 + 2) := nb_rd_1 _ _ _
        refine nb_Wg (q_m_man_0 _ _ _ _ (by omega) (by rw [E20]; first | done | omega) (by rw [E21, E22]; first | done | omega) (by rw [E21, E22, E20, N23]; first | done | omega)) ?_
        simp only [E20, E21, E22, E24]
        clear E20 E21 E22 N23 E24
        refine nb_Gs ?_
        show nb_W 136 13 [(20, 603), (0, l1), (0, M.1 603 26)] [(0, M.1 613 (7 * l1 + 2)), (0, M.1 603 26)] M _
        obtain ⟨p0_, p1_, H⟩ := H
        replace H := nb_Hw H
        have E25 : nb_sub (M.1 603 26) (M.1 613 (7 * l1 + 2)) = M.1 603 26 - (M.1 613 (7 * l1 + 2)) := nb_sub_eq (by omega) (by omega)
        refine nb_Wg (q_m_waitOf_13 _ _ _ _ _ _) ?_
        simp only [E25]
        clear E25
        refine nb_Gs ?_
        exact nb_Hu H
      · have H := nb_Hw ((nb_Hu H).2 (by omega))
        have c38 : M.1 609 (12 + 8 * l1 + 7) ≠ (-2) := by omega
        refine nb_Gr ?_
        have E26 : nb_rd M 603 18 = 609 := W.m18
        refine nb_Wg (q_m_waitOf_9 _ _ _ _ (by omega)) ?_
        simp only [E26]
        clear E26
        refine nb_Gb ?_
        have E27 : nb_mul 8 l1 = 8 * l1 := nb_mul_eq (by omega) (by omega)
        have E28 : nb_add 12 (8 * l1) = 12 + 8 * l1 := (nb_add_eq (x := 12) (y := 8 * l1) (by omega) (by omega)).trans (by omega)
        have E29 : nb_add (12 + 8 * l1) 7 = 12 + 8 * l1 + 7 := nb_add_eq (by omega) (by omega)
        have N30 : nb_ln M 609 = 108 := W.lk (by decide) (by decide +kernel)
        have E31 : nb_rd M 609 (12 + 8 * l1 + 7) = M.1 609 (12 + 8 * l1 + 7) := nb_rd_1 _ _ _
        refine nb_Wg (q_m_its_0 _ _ _ _ (by omega) (by rw [E27, E28, E29]; first | done | omega) (by rw [E27, E28, E29, N30]; first | done | omega)) ?_
        simp only [E27, E28, E29, E31]
        clear E27 E28 E29 N30 E31
        refine nb_Gs ?_
        show nb_W 136 10 [(20, 603), (0, l1), v2] [(0, M.1 609 (12 + 8 * l1 + 7))] M _
        refine nb_Wg (q_m_waitOf_10 _ _ _ _ _) ?_
        refine nb_Gr ?_
        refine nb_Wg (q_m_waitOf_12 _ _ _ _ _ (by omega)) ?_
        refine nb_Gb ?_
        have E32 : nb_rd M 603 24 = 613 := W.m24
        have E33 : nb_mul 7 l1 = 7 * l1 := nb_mul_eq (by omega) (by omega)
        have E34 : nb_add (7 * l1) 2 = 7 * l1 + 2 := nb_add_eq (by omega) (by omega)
        have N35 : nb_ln M 613 = 70 := W.lk (by decide) (by decide +kernel)
        have E36 : nb_rd M 613 (7 * l1 + 2) = M.1 613 (7 * l1 + 2) := nb_rd_1 _ _ _
        refine nb_Wg (q_m_man_0 _ _ _ _ (by omega) (by rw [E32]; first | done | omega) (by rw [E33, E34]; first | done | omega) (by rw [E33, E34, E32, N35]; first | done | omega)) ?_
        simp only [E32, E33, E34, E36]
        clear E32 E33 E34 N35 E36
        refine nb_Gs ?_
        show nb_W 136 13 [(20, 603), (0, l1), (0, M.1 609 (12 + 8 * l1 + 7))] [(0, M.1 613 (7 * l1 + 2)), (0, M.1 609 (12 + 8 * l1 + 7))] M _
        obtain ⟨p0_, p1_, H⟩ := H
        replace H := nb_Hw H
        have E37 : nb_sub (M.1 609 (12 + 8 * l1 + 7)) (M.1 613 (7 * l1 + 2)) = M.1 609 (12 + 8 * l1 + 7) - (M.1 613 (7 * l1 + 2)) := nb_sub_eq (by omega) (by omega)
        refine nb_Wg (q_m_waitOf_13 _ _ _ _ _ _) ?_
        simp only [E37]
        clear E37
        refine nb_Gs ?_
        exact nb_Hu H
    · have H := nb_Hw ((nb_Hu H).2 (by omega))
      have c51 : M.1 609 (12 + 8 * l1 + 4) ≠ (-2) := by omega
      refine nb_Gr ?_
      have E39 : nb_rd M 603 18 = 609 := W.m18
      refine nb_Wg (q_m_waitOf_5 _ _ _ _ (by omega)) ?_
      simp only [E39]
      clear E39
      refine nb_Gb ?_
      have E40 : nb_mul 8 l1 = 8 * l1 := nb_mul_eq (by omega) (by omega)
      have E41 : nb_add 12 (8 * l1) = 12 + 8 * l1 := (nb_add_eq (x := 12) (y := 8 * l1) (by omega) (by omega)).trans (by omega)
      have E42 : nb_add (12 + 8 * l1) 4 = 12 + 8 * l1 + 4 := nb_add_eq (by omega) (by omega)
      have N43 : nb_ln M 609 = 108 := W.lk (by decide) (by decide +kernel)
      have E44 : nb_rd M 609 (12 + 8 * l1 + 4) = M.1 609 (12 + 8 * l1 + 4) := nb_rd_1 _ _ _
      refine nb_Wg (q_m_its_0 _ _ _ _ (by omega) (by rw [E40, E41, E42]; first | done | omega) (by rw [E40, E41, E42, N43]; first | done | omega)) ?_
      simp only [E40, E41, E42, E44]
      clear E40 E41 E42 N43 E44
      refine nb_Gs ?_
      show nb_W 136 6 [(20, 603), (0, l1), v2] [(0, M.1 609 (12 + 8 * l1 + 4))] M _
      refine nb_Wg (q_m_waitOf_6 _ _ _ _ _) ?_
      refine nb_Gr ?_
      refine nb_Wg (q_m_waitOf_12 _ _ _ _ _ (by omega)) ?_
      refine nb_Gb ?_
      have E45 : nb_rd M 603 24 = 613 := W.m24
      have E46 : nb_mul 7 l1 = 7 * l1 := nb_mul_eq (by omega) (by omega)
      have E47 : nb_add (7 * l1) 2 = 7 * l1 + 2 := nb_add_eq (by omega) (by omega)
      have N48 : nb_ln M 613 = 70 := W.lk (by decide) (by decide +kernel)
      have E49 : nb_rd M 613 (7 * l1 + 2) = M.1 613 (7 * l1 + 2) := nb_rd_1 _ _ _
      refine nb_Wg (q_m_man_0 _ _ _ _ (by omega) (by rw [E45]; first | done | omega) (by rw [E46, E47]; first | done | omega) (by rw [E46, E47, E45, N48]; first | done | omega)) ?_
      simp only [E45, E46, E47, E49]
      clear E45 E46 E47 N48 E49
      refine nb_Gs ?_
      show nb_W 136 13 [(20, 603), (0, l1), (0, M.1 609 (12 + 8 * l1 + 4))] [(0, M.1 613 (7 * l1 + 2)), (0, M.1 609 (12 + 8 * l1 + 4))] M _
      obtain ⟨p0_, p1_, H⟩ := H
      replace H := nb_Hw H
      have E50 : nb_sub (M.1 609 (12 + 8 * l1 + 4)) (M.1 613 (7 * l1 + 2)) = M.1 609 (12 + 8 * l1 + 4) - (M.1 613 (7 * l1 + 2)) := nb_sub_eq (by omega) (by omega)
      refine nb_Wg (q_m_waitOf_13 _ _ _ _ _ _) ?_
      simp only [E50]
      clear E50
      refine nb_Gs ?_
      exact nb_Hu H
  refine nb_Gi (fun c110 => ?_) (fun c110 => ?_)
  · have H := nb_Hw ((nb_Hu H).2.1 c110)
    refine nb_Gr ?_
    have E53 : nb_rd M 603 18 = 609 := W.m18
    refine nb_Wg (q_m_fateOf_3 _ _ _ (by omega)) ?_
    simp only [E53]
    clear E53
    refine nb_Gb ?_
    have E54 : nb_mul 8 l1 = 8 * l1 := nb_mul_eq (by omega) (by omega)
    have E55 : nb_add 12 (8 * l1) = 12 + 8 * l1 := (nb_add_eq (x := 12) (y := 8 * l1) (by omega) (by omega)).trans (by omega)
    have E56 : nb_add (12 + 8 * l1) 4 = 12 + 8 * l1 + 4 := nb_add_eq (by omega) (by omega)
    have N57 : nb_ln M 609 = 108 := W.lk (by decide) (by decide +kernel)
    have E58 : nb_rd M 609 (12 + 8 * l1 + 4) = M.1 609 (12 + 8 * l1 + 4) := nb_rd_1 _ _ _
    refine nb_Wg (q_m_its_0 _ _ _ _ (by omega) (by rw [E54, E55, E56]; first | done | omega) (by rw [E54, E55, E56, N57]; first | done | omega)) ?_
    simp only [E54, E55, E56, E58]
    clear E54 E55 E56 N57 E58
    refine nb_Gs ?_
    show nb_W 135 4 [(20, 603), (0, l1)] [(0, M.1 609 (12 + 8 * l1 + 4))] M _
    refine nb_Wg (q_m_fateOf_4 _ _ _ _) ?_
    refine nb_Gi (fun c109 => ?_) (fun c109 => ?_)
    · have H := nb_Hw ((nb_Hu H).1 c109)
      refine nb_Gr ?_
      refine nb_Wg (q_m_fateOf_5 _ _ _) ?_
      refine nb_Gr ?_
      refine nb_Wg (q_m_fateOf_7 _ _ _ _) ?_
      refine nb_Gs ?_
      show nb_W 136 1 [(20, 603), (0, l1), v2] [(0, 1)] M _
      refine nb_Wg (q_m_waitOf_1 _ _ _ _ _) ?_
      refine nb_Gf (by decide) ?_
      refine nb_Gr ?_
      have E59 : nb_rd M 603 18 = 609 := W.m18
      refine nb_Wg (q_m_waitOf_3 _ _ _ _ (by omega)) ?_
      simp only [E59]
      clear E59
      refine nb_Gb ?_
      have E60 : nb_mul 8 l1 = 8 * l1 := nb_mul_eq (by omega) (by omega)
      have E61 : nb_add 12 (8 * l1) = 12 + 8 * l1 := (nb_add_eq (x := 12) (y := 8 * l1) (by omega) (by omega)).trans (by omega)
      have E62 : nb_add (12 + 8 * l1) 4 = 12 + 8 * l1 + 4 := nb_add_eq (by omega) (by omega)
      have N63 : nb_ln M 609 = 108 := W.lk (by decide) (by decide +kernel)
      have E64 : nb_rd M 609 (12 + 8 * l1 + 4) = M.1 609 (12 + 8 * l1 + 4) := nb_rd_1 _ _ _
      refine nb_Wg (q_m_its_0 _ _ _ _ (by omega) (by rw [E60, E61, E62]; first | done | omega) (by rw [E60, E61, E62, N63]; first | done | omega)) ?_
      simp only [E60, E61, E62, E64]
      clear E60 E61 E62 N63 E64
      refine nb_Gs ?_
      show nb_W 136 4 [(20, 603), (0, l1), v2] [(0, M.1 609 (12 + 8 * l1 + 4))] M _
      refine nb_Wg (q_m_waitOf_4 _ _ _ _ _) ?_
      refine nb_Gt (by omega) ?_
      refine nb_Gr ?_
      have E65 : nb_rd M 603 18 = 609 := W.m18
      refine nb_Wg (q_m_waitOf_7 _ _ _ _ (by omega)) ?_
      simp only [E65]
      clear E65
      refine nb_Gb ?_
      have E66 : nb_mul 8 l1 = 8 * l1 := nb_mul_eq (by omega) (by omega)
      have E67 : nb_add 12 (8 * l1) = 12 + 8 * l1 := (nb_add_eq (x := 12) (y := 8 * l1) (by omega) (by omega)).trans (by omega)
      have E68 : nb_add (12 + 8 * l1) 7 = 12 + 8 * l1 + 7 := nb_add_eq (by omega) (by omega)
      have N69 : nb_ln M 609 = 108 := W.lk (by decide) (by decide +kernel)
      have E70 : nb_rd M 609 (12 + 8 * l1 + 7) = M.1 609 (12 + 8 * l1 + 7) := nb_rd_1 _ _ _
      refine nb_Wg (q_m_its_0 _ _ _ _ (by omega) (by rw [E66, E67, E68]; first | done | omega) (by rw [E66, E67, E68, N69]; first | done | omega)) ?_
      simp only [E66, E67, E68, E70]
      clear E66 E67 E68 N69 E70
      refine nb_Gs ?_
      show nb_W 136 8 [(20, 603), (0, l1), v2] [(0, M.1 609 (12 + 8 * l1 + 7))] M _
      refine nb_Wg (q_m_waitOf_8 _ _ _ _ _) ?_
      refine nb_Gi (fun c90 => ?_) (fun c90 => ?_)
      · have H := nb_Hw ((nb_Hu H).1 c90)
        refine nb_Gr ?_
        have E71 : nb_rd M 603 26 = M.1 603 26 := nb_rd_1 _ _ _
        refine nb_Wg (q_m_waitOf_11 _ _ _ _ (by omega)) ?_
        simp only [E71]
        clear E71
        refine nb_Gr ?_
        refine nb_Wg (q_m_waitOf_12 _ _ _ _ _ (by omega)) ?_
        refine nb_Gb ?_
        have E72 : nb_rd M 603 24 = 613 := W.m24
        have E73 : nb_mul 7 l1 = 7 * l1 := nb_mul_eq (by omega) (by omega)
        have E74 : nb_add (7 * l1) 2 = 7 * l1 + 2 := nb_add_eq (by omega) (by omega)
        have N75 : nb_ln M 613 = 70 := W.lk (by decide) (by decide +kernel)
        have E76 : nb_rd M 613 (7 * l1 + 2) = M.1 613 (7 * l1 + 2) := nb_rd_1 _ _ _
        refine nb_Wg (q_m_man_0 _ _ _ _ (by omega) (by rw [E72]; first | done | omega) (by rw [E73, E74]; first | done | omega) (by rw [E73, E74, E72, N75]; first | done | omega)) ?_
        simp only [E72, E73, E74, E76]
        clear E72 E73 E74 N75 E76
        refine nb_Gs ?_
        show nb_W 136 13 [(20, 603), (0, l1), (0, M.1 603 26)] [(0, M.1 613 (7 * l1 + 2)), (0, M.1 603 26)] M _
        obtain ⟨p0_, p1_, H⟩ := H
        replace H := nb_Hw H
        have E77 : nb_sub (M.1 603 26) (M.1 613 (7 * l1 + 2)) = M.1 603 26 - (M.1 613 (7 * l1 + 2)) := nb_sub_eq (by omega) (by omega)
        refine nb_Wg (q_m_waitOf_13 _ _ _ _ _ _) ?_
        simp only [E77]
        clear E77
        refine nb_Gs ?_
        exact nb_Hu H
      · have H := nb_Hw ((nb_Hu H).2 (by omega))
        have c90 : M.1 609 (12 + 8 * l1 + 7) ≠ (-2) := by omega
        refine nb_Gr ?_
        have E78 : nb_rd M 603 18 = 609 := W.m18
        refine nb_Wg (q_m_waitOf_9 _ _ _ _ (by omega)) ?_
        simp only [E78]
        clear E78
        refine nb_Gb ?_
        have E79 : nb_mul 8 l1 = 8 * l1 := nb_mul_eq (by omega) (by omega)
        have E80 : nb_add 12 (8 * l1) = 12 + 8 * l1 := (nb_add_eq (x := 12) (y := 8 * l1) (by omega) (by omega)).trans (by omega)
        have E81 : nb_add (12 + 8 * l1) 7 = 12 + 8 * l1 + 7 := nb_add_eq (by omega) (by omega)
        have N82 : nb_ln M 609 = 108 := W.lk (by decide) (by decide +kernel)
        have E83 : nb_rd M 609 (12 + 8 * l1 + 7) = M.1 609 (12 + 8 * l1 + 7) := nb_rd_1 _ _ _
        refine nb_Wg (q_m_its_0 _ _ _ _ (by omega) (by rw [E79, E80, E81]; first | done | omega) (by rw [E79, E80, E81, N82]; first | done | omega)) ?_
        simp only [E79, E80, E81, E83]
        clear E79 E80 E81 N82 E83
        refine nb_Gs ?_
        show nb_W 136 10 [(20, 603), (0, l1), v2] [(0, M.1 609 (12 + 8 * l1 + 7))] M _
        refine nb_Wg (q_m_waitOf_10 _ _ _ _ _) ?_
        refine nb_Gr ?_
        refine nb_Wg (q_m_waitOf_12 _ _ _ _ _ (by omega)) ?_
        refine nb_Gb ?_
        have E84 : nb_rd M 603 24 = 613 := W.m24
        have E85 : nb_mul 7 l1 = 7 * l1 := nb_mul_eq (by omega) (by omega)
        have E86 : nb_add (7 * l1) 2 = 7 * l1 + 2 := nb_add_eq (by omega) (by omega)
        have N87 : nb_ln M 613 = 70 := W.lk (by decide) (by decide +kernel)
        have E88 : nb_rd M 613 (7 * l1 + 2) = M.1 613 (7 * l1 + 2) := nb_rd_1 _ _ _
        refine nb_Wg (q_m_man_0 _ _ _ _ (by omega) (by rw [E84]; first | done | omega) (by rw [E85, E86]; first | done | omega) (by rw [E85, E86, E84, N87]; first | done | omega)) ?_
        simp only [E84, E85, E86, E88]
        clear E84 E85 E86 N87 E88
        refine nb_Gs ?_
        show nb_W 136 13 [(20, 603), (0, l1), (0, M.1 609 (12 + 8 * l1 + 7))] [(0, M.1 613 (7 * l1 + 2)), (0, M.1 609 (12 + 8 * l1 + 7))] M _
        obtain ⟨p0_, p1_, H⟩ := H
        replace H := nb_Hw H
        have E89 : nb_sub (M.1 609 (12 + 8 * l1 + 7)) (M.1 613 (7 * l1 + 2)) = M.1 609 (12 + 8 * l1 + 7) - (M.1 613 (7 * l1 + 2)) := nb_sub_eq (by omega) (by omega)
        refine nb_Wg (q_m_waitOf_13 _ _ _ _ _ _) ?_
        simp only [E89]
        clear E89
        refine nb_Gs ?_
        exact nb_Hu H
    · have H := nb_Hw ((nb_Hu H).2 (by omega))
      have c109 : M.1 609 (12 + 8 * l1 + 4) ≠ (-2) := by omega
      refine nb_Gr ?_
      refine nb_Wg (q_m_fateOf_6 _ _ _) ?_
      refine nb_Gr ?_
      refine nb_Wg (q_m_fateOf_7 _ _ _ _) ?_
      refine nb_Gs ?_
      show nb_W 136 1 [(20, 603), (0, l1), v2] [(0, 0)] M _
      refine nb_Wg (q_m_waitOf_1 _ _ _ _ _) ?_
      refine nb_Gf (by decide) ?_
      refine nb_Gr ?_
      have E91 : nb_rd M 603 18 = 609 := W.m18
      refine nb_Wg (q_m_waitOf_3 _ _ _ _ (by omega)) ?_
      simp only [E91]
      clear E91
      refine nb_Gb ?_
      have E92 : nb_mul 8 l1 = 8 * l1 := nb_mul_eq (by omega) (by omega)
      have E93 : nb_add 12 (8 * l1) = 12 + 8 * l1 := (nb_add_eq (x := 12) (y := 8 * l1) (by omega) (by omega)).trans (by omega)
      have E94 : nb_add (12 + 8 * l1) 4 = 12 + 8 * l1 + 4 := nb_add_eq (by omega) (by omega)
      have N95 : nb_ln M 609 = 108 := W.lk (by decide) (by decide +kernel)
      have E96 : nb_rd M 609 (12 + 8 * l1 + 4) = M.1 609 (12 + 8 * l1 + 4) := nb_rd_1 _ _ _
      refine nb_Wg (q_m_its_0 _ _ _ _ (by omega) (by rw [E92, E93, E94]; first | done | omega) (by rw [E92, E93, E94, N95]; first | done | omega)) ?_
      simp only [E92, E93, E94, E96]
      clear E92 E93 E94 N95 E96
      refine nb_Gs ?_
      show nb_W 136 4 [(20, 603), (0, l1), v2] [(0, M.1 609 (12 + 8 * l1 + 4))] M _
      refine nb_Wg (q_m_waitOf_4 _ _ _ _ _) ?_
      refine nb_Gf (by omega) ?_
      refine nb_Gr ?_
      have E97 : nb_rd M 603 18 = 609 := W.m18
      refine nb_Wg (q_m_waitOf_5 _ _ _ _ (by omega)) ?_
      simp only [E97]
      clear E97
      refine nb_Gb ?_
      have E98 : nb_mul 8 l1 = 8 * l1 := nb_mul_eq (by omega) (by omega)
      have E99 : nb_add 12 (8 * l1) = 12 + 8 * l1 := (nb_add_eq (x := 12) (y := 8 * l1) (by omega) (by omega)).trans (by omega)
      have E100 : nb_add (12 + 8 * l1) 4 = 12 + 8 * l1 + 4 := nb_add_eq (by omega) (by omega)
      have N101 : nb_ln M 609 = 108 := W.lk (by decide) (by decide +kernel)
      have E102 : nb_rd M 609 (12 + 8 * l1 + 4) = M.1 609 (12 + 8 * l1 + 4) := nb_rd_1 _ _ _
      refine nb_Wg (q_m_its_0 _ _ _ _ (by omega) (by rw [E98, E99, E100]; first | done | omega) (by rw [E98, E99, E100, N101]; first | done | omega)) ?_
      simp only [E98, E99, E100, E102]
      clear E98 E99 E100 N101 E102
      refine nb_Gs ?_
      show nb_W 136 6 [(20, 603), (0, l1), v2] [(0, M.1 609 (12 + 8 * l1 + 4))] M _
      refine nb_Wg (q_m_waitOf_6 _ _ _ _ _) ?_
      refine nb_Gr ?_
      refine nb_Wg (q_m_waitOf_12 _ _ _ _ _ (by omega)) ?_
      refine nb_Gb ?_
      have E103 : nb_rd M 603 24 = 613 := W.m24
      have E104 : nb_mul 7 l1 = 7 * l1 := nb_mul_eq (by omega) (by omega)
      have E105 : nb_add (7 * l1) 2 = 7 * l1 + 2 := nb_add_eq (by omega) (by omega)
      have N106 : nb_ln M 613 = 70 := W.lk (by decide) (by decide +kernel)
      have E107 : nb_rd M 613 (7 * l1 + 2) = M.1 613 (7 * l1 + 2) := nb_rd_1 _ _ _
      refine nb_Wg (q_m_man_0 _ _ _ _ (by omega) (by rw [E103]; first | done | omega) (by rw [E104, E105]; first | done | omega) (by rw [E104, E105, E103, N106]; first | done | omega)) ?_
      simp only [E103, E104, E105, E107]
      clear E103 E104 E105 N106 E107
      refine nb_Gs ?_
      show nb_W 136 13 [(20, 603), (0, l1), (0, M.1 609 (12 + 8 * l1 + 4))] [(0, M.1 613 (7 * l1 + 2)), (0, M.1 609 (12 + 8 * l1 + 4))] M _
      obtain ⟨p0_, p1_, H⟩ := H
      replace H := nb_Hw H
      have E108 : nb_sub (M.1 609 (12 + 8 * l1 + 4)) (M.1 613 (7 * l1 + 2)) = M.1 609 (12 + 8 * l1 + 4) - (M.1 613 (7 * l1 + 2)) := nb_sub_eq (by omega) (by omega)
      refine nb_Wg (q_m_waitOf_13 _ _ _ _ _ _) ?_
      simp only [E108]
      clear E108
      refine nb_Gs ?_
      exact nb_Hu H
  refine nb_Gi (fun c156 => ?_) (fun c156 => ?_)
  · have H := nb_Hw ((nb_Hu H).2.2.1 c156)
    refine nb_Gr ?_
    refine nb_Wg (q_m_fateOf_8 _ _ _) ?_
    refine nb_Gs ?_
    show nb_W 136 1 [(20, 603), (0, l1), v2] [(0, 2)] M _
    refine nb_Wg (q_m_waitOf_1 _ _ _ _ _) ?_
    refine nb_Gf (by decide) ?_
    refine nb_Gr ?_
    have E111 : nb_rd M 603 18 = 609 := W.m18
    refine nb_Wg (q_m_waitOf_3 _ _ _ _ (by omega)) ?_
    simp only [E111]
    clear E111
    refine nb_Gb ?_
    have E112 : nb_mul 8 l1 = 8 * l1 := nb_mul_eq (by omega) (by omega)
    have E113 : nb_add 12 (8 * l1) = 12 + 8 * l1 := (nb_add_eq (x := 12) (y := 8 * l1) (by omega) (by omega)).trans (by omega)
    have E114 : nb_add (12 + 8 * l1) 4 = 12 + 8 * l1 + 4 := nb_add_eq (by omega) (by omega)
    have N115 : nb_ln M 609 = 108 := W.lk (by decide) (by decide +kernel)
    have E116 : nb_rd M 609 (12 + 8 * l1 + 4) = M.1 609 (12 + 8 * l1 + 4) := nb_rd_1 _ _ _
    refine nb_Wg (q_m_its_0 _ _ _ _ (by omega) (by rw [E112, E113, E114]; first | done | omega) (by rw [E112, E113, E114, N115]; first | done | omega)) ?_
    simp only [E112, E113, E114, E116]
    clear E112 E113 E114 N115 E116
    refine nb_Gs ?_
    show nb_W 136 4 [(20, 603), (0, l1), v2] [(0, M.1 609 (12 + 8 * l1 + 4))] M _
    refine nb_Wg (q_m_waitOf_4 _ _ _ _ _) ?_
    refine nb_Gi (fun c155 => ?_) (fun c155 => ?_)
    · have H := nb_Hw ((nb_Hu H).1 c155)
      refine nb_Gr ?_
      have E117 : nb_rd M 603 18 = 609 := W.m18
      refine nb_Wg (q_m_waitOf_7 _ _ _ _ (by omega)) ?_
      simp only [E117]
      clear E117
      refine nb_Gb ?_
      have E118 : nb_mul 8 l1 = 8 * l1 := nb_mul_eq (by omega) (by omega)
      have E119 : nb_add 12 (8 * l1) = 12 + 8 * l1 := (nb_add_eq (x := 12) (y := 8 * l1) (by omega) (by omega)).trans (by omega)
      have E120 : nb_add (12 + 8 * l1) 7 = 12 + 8 * l1 + 7 := nb_add_eq (by omega) (by omega)
      have N121 : nb_ln M 609 = 108 := W.lk (by decide) (by decide +kernel)
      have E122 : nb_rd M 609 (12 + 8 * l1 + 7) = M.1 609 (12 + 8 * l1 + 7) := nb_rd_1 _ _ _
      refine nb_Wg (q_m_its_0 _ _ _ _ (by omega) (by rw [E118, E119, E120]; first | done | omega) (by rw [E118, E119, E120, N121]; first | done | omega)) ?_
      simp only [E118, E119, E120, E122]
      clear E118 E119 E120 N121 E122
      refine nb_Gs ?_
      show nb_W 136 8 [(20, 603), (0, l1), v2] [(0, M.1 609 (12 + 8 * l1 + 7))] M _
      refine nb_Wg (q_m_waitOf_8 _ _ _ _ _) ?_
      refine nb_Gi (fun c142 => ?_) (fun c142 => ?_)
      · have H := nb_Hw ((nb_Hu H).1 c142)
        refine nb_Gr ?_
        have E123 : nb_rd M 603 26 = M.1 603 26 := nb_rd_1 _ _ _
        refine nb_Wg (q_m_waitOf_11 _ _ _ _ (by omega)) ?_
        simp only [E123]
        clear E123
        refine nb_Gr ?_
        refine nb_Wg (q_m_waitOf_12 _ _ _ _ _ (by omega)) ?_
        refine nb_Gb ?_
        have E124 : nb_rd M 603 24 = 613 := W.m24
        have E125 : nb_mul 7 l1 = 7 * l1 := nb_mul_eq (by omega) (by omega)
        have E126 : nb_add (7 * l1) 2 = 7 * l1 + 2 := nb_add_eq (by omega) (by omega)
        have N127 : nb_ln M 613 = 70 := W.lk (by decide) (by decide +kernel)
        have E128 : nb_rd M 613 (7 * l1 + 2) = M.1 613 (7 * l1 + 2) := nb_rd_1 _ _ _
        refine nb_Wg (q_m_man_0 _ _ _ _ (by omega) (by rw [E124]; first | done | omega) (by rw [E125, E126]; first | done | omega) (by rw [E125, E126, E124, N127]; first | done | omega)) ?_
        simp only [E124, E125, E126, E128]
        clear E124 E125 E126 N127 E128
        refine nb_Gs ?_
        show nb_W 136 13 [(20, 603), (0, l1), (0, M.1 603 26)] [(0, M.1 613 (7 * l1 + 2)), (0, M.1 603 26)] M _
        obtain ⟨p0_, p1_, H⟩ := H
        replace H := nb_Hw H
        have E129 : nb_sub (M.1 603 26) (M.1 613 (7 * l1 + 2)) = M.1 603 26 - (M.1 613 (7 * l1 + 2)) := nb_sub_eq (by omega) (by omega)
        refine nb_Wg (q_m_waitOf_13 _ _ _ _ _ _) ?_
        simp only [E129]
        clear E129
        refine nb_Gs ?_
        exact nb_Hu H
      · have H := nb_Hw ((nb_Hu H).2 (by omega))
        have c142 : M.1 609 (12 + 8 * l1 + 7) ≠ (-2) := by omega
        refine nb_Gr ?_
        have E130 : nb_rd M 603 18 = 609 := W.m18
        refine nb_Wg (q_m_waitOf_9 _ _ _ _ (by omega)) ?_
        simp only [E130]
        clear E130
        refine nb_Gb ?_
        have E131 : nb_mul 8 l1 = 8 * l1 := nb_mul_eq (by omega) (by omega)
        have E132 : nb_add 12 (8 * l1) = 12 + 8 * l1 := (nb_add_eq (x := 12) (y := 8 * l1) (by omega) (by omega)).trans (by omega)
        have E133 : nb_add (12 + 8 * l1) 7 = 12 + 8 * l1 + 7 := nb_add_eq (by omega) (by omega)
        have N134 : nb_ln M 609 = 108 := W.lk (by decide) (by decide +kernel)
        have E135 : nb_rd M 609 (12 + 8 * l1 + 7) = M.1 609 (12 + 8 * l1 + 7) := nb_rd_1 _ _ _
        refine nb_Wg (q_m_its_0 _ _ _ _ (by omega) (by rw [E131, E132, E133]; first | done | omega) (by rw [E131, E132, E133, N134]; first | done | omega)) ?_
        simp only [E131, E132, E133, E135]
        clear E131 E132 E133 N134 E135
        refine nb_Gs ?_
        show nb_W 136 10 [(20, 603), (0, l1), v2] [(0, M.1 609 (12 + 8 * l1 + 7))] M _
        refine nb_Wg (q_m_waitOf_10 _ _ _ _ _) ?_
        refine nb_Gr ?_
        refine nb_Wg (q_m_waitOf_12 _ _ _ _ _ (by omega)) ?_
        refine nb_Gb ?_
        have E136 : nb_rd M 603 24 = 613 := W.m24
        have E137 : nb_mul 7 l1 = 7 * l1 := nb_mul_eq (by omega) (by omega)
        have E138 : nb_add (7 * l1) 2 = 7 * l1 + 2 := nb_add_eq (by omega) (by omega)
        have N139 : nb_ln M 613 = 70 := W.lk (by decide) (by decide +kernel)
        have E140 : nb_rd M 613 (7 * l1 + 2) = M.1 613 (7 * l1 + 2) := nb_rd_1 _ _ _
        refine nb_Wg (q_m_man_0 _ _ _ _ (by omega) (by rw [E136]; first | done | omega) (by rw [E137, E138]; first | done | omega) (by rw [E137, E138, E136, N139]; first | done | omega)) ?_
        simp only [E136, E137, E138, E140]
        clear E136 E137 E138 N139 E140
        refine nb_Gs ?_
        show nb_W 136 13 [(20, 603), (0, l1), (0, M.1 609 (12 + 8 * l1 + 7))] [(0, M.1 613 (7 * l1 + 2)), (0, M.1 609 (12 + 8 * l1 + 7))] M _
        obtain ⟨p0_, p1_, H⟩ := H
        replace H := nb_Hw H
        have E141 : nb_sub (M.1 609 (12 + 8 * l1 + 7)) (M.1 613 (7 * l1 + 2)) = M.1 609 (12 + 8 * l1 + 7) - (M.1 613 (7 * l1 + 2)) := nb_sub_eq (by omega) (by omega)
        refine nb_Wg (q_m_waitOf_13 _ _ _ _ _ _) ?_
        simp only [E141]
        clear E141
        refine nb_Gs ?_
        exact nb_Hu H
    · have H := nb_Hw ((nb_Hu H).2 (by omega))
      have c155 : M.1 609 (12 + 8 * l1 + 4) ≠ (-2) := by omega
      refine nb_Gr ?_
      have E143 : nb_rd M 603 18 = 609 := W.m18
      refine nb_Wg (q_m_waitOf_5 _ _ _ _ (by omega)) ?_
      simp only [E143]
      clear E143
      refine nb_Gb ?_
      have E144 : nb_mul 8 l1 = 8 * l1 := nb_mul_eq (by omega) (by omega)
      have E145 : nb_add 12 (8 * l1) = 12 + 8 * l1 := (nb_add_eq (x := 12) (y := 8 * l1) (by omega) (by omega)).trans (by omega)
      have E146 : nb_add (12 + 8 * l1) 4 = 12 + 8 * l1 + 4 := nb_add_eq (by omega) (by omega)
      have N147 : nb_ln M 609 = 108 := W.lk (by decide) (by decide +kernel)
      have E148 : nb_rd M 609 (12 + 8 * l1 + 4) = M.1 609 (12 + 8 * l1 + 4) := nb_rd_1 _ _ _
      refine nb_Wg (q_m_its_0 _ _ _ _ (by omega) (by rw [E144, E145, E146]; first | done | omega) (by rw [E144, E145, E146, N147]; first | done | omega)) ?_
      simp only [E144, E145, E146, E148]
      clear E144 E145 E146 N147 E148
      refine nb_Gs ?_
      show nb_W 136 6 [(20, 603), (0, l1), v2] [(0, M.1 609 (12 + 8 * l1 + 4))] M _
      refine nb_Wg (q_m_waitOf_6 _ _ _ _ _) ?_
      refine nb_Gr ?_
      refine nb_Wg (q_m_waitOf_12 _ _ _ _ _ (by omega)) ?_
      refine nb_Gb ?_
      have E149 : nb_rd M 603 24 = 613 := W.m24
      have E150 : nb_mul 7 l1 = 7 * l1 := nb_mul_eq (by omega) (by omega)
      have E151 : nb_add (7 * l1) 2 = 7 * l1 + 2 := nb_add_eq (by omega) (by omega)
      have N152 : nb_ln M 613 = 70 := W.lk (by decide) (by decide +kernel)
      have E153 : nb_rd M 613 (7 * l1 + 2) = M.1 613 (7 * l1 + 2) := nb_rd_1 _ _ _
      refine nb_Wg (q_m_man_0 _ _ _ _ (by omega) (by rw [E149]; first | done | omega) (by rw [E150, E151]; first | done | omega) (by rw [E150, E151, E149, N152]; first | done | omega)) ?_
      simp only [E149, E150, E151, E153]
      clear E149 E150 E151 N152 E153
      refine nb_Gs ?_
      show nb_W 136 13 [(20, 603), (0, l1), (0, M.1 609 (12 + 8 * l1 + 4))] [(0, M.1 613 (7 * l1 + 2)), (0, M.1 609 (12 + 8 * l1 + 4))] M _
      obtain ⟨p0_, p1_, H⟩ := H
      replace H := nb_Hw H
      have E154 : nb_sub (M.1 609 (12 + 8 * l1 + 4)) (M.1 613 (7 * l1 + 2)) = M.1 609 (12 + 8 * l1 + 4) - (M.1 613 (7 * l1 + 2)) := nb_sub_eq (by omega) (by omega)
      refine nb_Wg (q_m_waitOf_13 _ _ _ _ _ _) ?_
      simp only [E154]
      clear E154
      refine nb_Gs ?_
      exact nb_Hu H
  refine nb_Gi (fun c157 => ?_) (fun c157 => ?_)
  · have H := nb_Hw ((nb_Hu H).2.2.2.1 c157)
    refine nb_Gr ?_
    refine nb_Wg (q_m_fateOf_9 _ _ _) ?_
    refine nb_Gs ?_
    show nb_W 136 1 [(20, 603), (0, l1), v2] [(0, 4)] M _
    refine nb_Wg (q_m_waitOf_1 _ _ _ _ _) ?_
    refine nb_Gt (by decide) ?_
    refine nb_Gr ?_
    refine nb_Wg (q_m_waitOf_2 _ _ _ _) ?_
    refine nb_Gs ?_
    exact nb_Hu H
  have H := nb_Hw ((nb_Hu H).2.2.2.2 (by omega) (by omega) (by omega) (by omega))
  refine nb_Gr ?_
  refine nb_Wg (q_m_fateOf_10 _ _ _) ?_
  refine nb_Gs ?_
  show nb_W 136 1 [(20, 603), (0, l1), v2] [(0, 3)] M _
  refine nb_Wg (q_m_waitOf_1 _ _ _ _ _) ?_
  refine nb_Gf (by decide) ?_
  refine nb_Gr ?_
  have E158 : nb_rd M 603 18 = 609 := W.m18
  refine nb_Wg (q_m_waitOf_3 _ _ _ _ (by omega)) ?_
  simp only [E158]
  clear E158
  refine nb_Gb ?_
  have E159 : nb_mul 8 l1 = 8 * l1 := nb_mul_eq (by omega) (by omega)
  have E160 : nb_add 12 (8 * l1) = 12 + 8 * l1 := (nb_add_eq (x := 12) (y := 8 * l1) (by omega) (by omega)).trans (by omega)
  have E161 : nb_add (12 + 8 * l1) 4 = 12 + 8 * l1 + 4 := nb_add_eq (by omega) (by omega)
  have N162 : nb_ln M 609 = 108 := W.lk (by decide) (by decide +kernel)
  have E163 : nb_rd M 609 (12 + 8 * l1 + 4) = M.1 609 (12 + 8 * l1 + 4) := nb_rd_1 _ _ _
  refine nb_Wg (q_m_its_0 _ _ _ _ (by omega) (by rw [E159, E160, E161]; first | done | omega) (by rw [E159, E160, E161, N162]; first | done | omega)) ?_
  simp only [E159, E160, E161, E163]
  clear E159 E160 E161 N162 E163
  refine nb_Gs ?_
  show nb_W 136 4 [(20, 603), (0, l1), v2] [(0, M.1 609 (12 + 8 * l1 + 4))] M _
  refine nb_Wg (q_m_waitOf_4 _ _ _ _ _) ?_
  refine nb_Gi (fun c202 => ?_) (fun c202 => ?_)
  · have H := nb_Hw ((nb_Hu H).1 c202)
    refine nb_Gr ?_
    have E164 : nb_rd M 603 18 = 609 := W.m18
    refine nb_Wg (q_m_waitOf_7 _ _ _ _ (by omega)) ?_
    simp only [E164]
    clear E164
    refine nb_Gb ?_
    have E165 : nb_mul 8 l1 = 8 * l1 := nb_mul_eq (by omega) (by omega)
    have E166 : nb_add 12 (8 * l1) = 12 + 8 * l1 := (nb_add_eq (x := 12) (y := 8 * l1) (by omega) (by omega)).trans (by omega)
    have E167 : nb_add (12 + 8 * l1) 7 = 12 + 8 * l1 + 7 := nb_add_eq (by omega) (by omega)
    have N168 : nb_ln M 609 = 108 := W.lk (by decide) (by decide +kernel)
    have E169 : nb_rd M 609 (12 + 8 * l1 + 7) = M.1 609 (12 + 8 * l1 + 7) := nb_rd_1 _ _ _
    refine nb_Wg (q_m_its_0 _ _ _ _ (by omega) (by rw [E165, E166, E167]; first | done | omega) (by rw [E165, E166, E167, N168]; first | done | omega)) ?_
    simp only [E165, E166, E167, E169]
    clear E165 E166 E167 N168 E169
    refine nb_Gs ?_
    show nb_W 136 8 [(20, 603), (0, l1), v2] [(0, M.1 609 (12 + 8 * l1 + 7))] M _
    refine nb_Wg (q_m_waitOf_8 _ _ _ _ _) ?_
    refine nb_Gi (fun c189 => ?_) (fun c189 => ?_)
    · have H := nb_Hw ((nb_Hu H).1 c189)
      refine nb_Gr ?_
      have E170 : nb_rd M 603 26 = M.1 603 26 := nb_rd_1 _ _ _
      refine nb_Wg (q_m_waitOf_11 _ _ _ _ (by omega)) ?_
      simp only [E170]
      clear E170
      refine nb_Gr ?_
      refine nb_Wg (q_m_waitOf_12 _ _ _ _ _ (by omega)) ?_
      refine nb_Gb ?_
      have E171 : nb_rd M 603 24 = 613 := W.m24
      have E172 : nb_mul 7 l1 = 7 * l1 := nb_mul_eq (by omega) (by omega)
      have E173 : nb_add (7 * l1) 2 = 7 * l1 + 2 := nb_add_eq (by omega) (by omega)
      have N174 : nb_ln M 613 = 70 := W.lk (by decide) (by decide +kernel)
      have E175 : nb_rd M 613 (7 * l1 + 2) = M.1 613 (7 * l1 + 2) := nb_rd_1 _ _ _
      refine nb_Wg (q_m_man_0 _ _ _ _ (by omega) (by rw [E171]; first | done | omega) (by rw [E172, E173]; first | done | omega) (by rw [E172, E173, E171, N174]; first | done | omega)) ?_
      simp only [E171, E172, E173, E175]
      clear E171 E172 E173 N174 E175
      refine nb_Gs ?_
      show nb_W 136 13 [(20, 603), (0, l1), (0, M.1 603 26)] [(0, M.1 613 (7 * l1 + 2)), (0, M.1 603 26)] M _
      obtain ⟨p0_, p1_, H⟩ := H
      replace H := nb_Hw H
      have E176 : nb_sub (M.1 603 26) (M.1 613 (7 * l1 + 2)) = M.1 603 26 - (M.1 613 (7 * l1 + 2)) := nb_sub_eq (by omega) (by omega)
      refine nb_Wg (q_m_waitOf_13 _ _ _ _ _ _) ?_
      simp only [E176]
      clear E176
      refine nb_Gs ?_
      exact nb_Hu H
    · have H := nb_Hw ((nb_Hu H).2 (by omega))
      have c189 : M.1 609 (12 + 8 * l1 + 7) ≠ (-2) := by omega
      refine nb_Gr ?_
      have E177 : nb_rd M 603 18 = 609 := W.m18
      refine nb_Wg (q_m_waitOf_9 _ _ _ _ (by omega)) ?_
      simp only [E177]
      clear E177
      refine nb_Gb ?_
      have E178 : nb_mul 8 l1 = 8 * l1 := nb_mul_eq (by omega) (by omega)
      have E179 : nb_add 12 (8 * l1) = 12 + 8 * l1 := (nb_add_eq (x := 12) (y := 8 * l1) (by omega) (by omega)).trans (by omega)
      have E180 : nb_add (12 + 8 * l1) 7 = 12 + 8 * l1 + 7 := nb_add_eq (by omega) (by omega)
      have N181 : nb_ln M 609 = 108 := W.lk (by decide) (by decide +kernel)
      have E182 : nb_rd M 609 (12 + 8 * l1 + 7) = M.1 609 (12 + 8 * l1 + 7) := nb_rd_1 _ _ _
      refine nb_Wg (q_m_its_0 _ _ _ _ (by omega) (by rw [E178, E179, E180]; first | done | omega) (by rw [E178, E179, E180, N181]; first | done | omega)) ?_
      simp only [E178, E179, E180, E182]
      clear E178 E179 E180 N181 E182
      refine nb_Gs ?_
      show nb_W 136 10 [(20, 603), (0, l1), v2] [(0, M.1 609 (12 + 8 * l1 + 7))] M _
      refine nb_Wg (q_m_waitOf_10 _ _ _ _ _) ?_
      refine nb_Gr ?_
      refine nb_Wg (q_m_waitOf_12 _ _ _ _ _ (by omega)) ?_
      refine nb_Gb ?_
      have E183 : nb_rd M 603 24 = 613 := W.m24
      have E184 : nb_mul 7 l1 = 7 * l1 := nb_mul_eq (by omega) (by omega)
      have E185 : nb_add (7 * l1) 2 = 7 * l1 + 2 := nb_add_eq (by omega) (by omega)
      have N186 : nb_ln M 613 = 70 := W.lk (by decide) (by decide +kernel)
      have E187 : nb_rd M 613 (7 * l1 + 2) = M.1 613 (7 * l1 + 2) := nb_rd_1 _ _ _
      refine nb_Wg (q_m_man_0 _ _ _ _ (by omega) (by rw [E183]; first | done | omega) (by rw [E184, E185]; first | done | omega) (by rw [E184, E185, E183, N186]; first | done | omega)) ?_
      simp only [E183, E184, E185, E187]
      clear E183 E184 E185 N186 E187
      refine nb_Gs ?_
      show nb_W 136 13 [(20, 603), (0, l1), (0, M.1 609 (12 + 8 * l1 + 7))] [(0, M.1 613 (7 * l1 + 2)), (0, M.1 609 (12 + 8 * l1 + 7))] M _
      obtain ⟨p0_, p1_, H⟩ := H
      replace H := nb_Hw H
      have E188 : nb_sub (M.1 609 (12 + 8 * l1 + 7)) (M.1 613 (7 * l1 + 2)) = M.1 609 (12 + 8 * l1 + 7) - (M.1 613 (7 * l1 + 2)) := nb_sub_eq (by omega) (by omega)
      refine nb_Wg (q_m_waitOf_13 _ _ _ _ _ _) ?_
      simp only [E188]
      clear E188
      refine nb_Gs ?_
      exact nb_Hu H
  · have H := nb_Hw ((nb_Hu H).2 (by omega))
    have c202 : M.1 609 (12 + 8 * l1 + 4) ≠ (-2) := by omega
    refine nb_Gr ?_
    have E190 : nb_rd M 603 18 = 609 := W.m18
    refine nb_Wg (q_m_waitOf_5 _ _ _ _ (by omega)) ?_
    simp only [E190]
    clear E190
    refine nb_Gb ?_
    have E191 : nb_mul 8 l1 = 8 * l1 := nb_mul_eq (by omega) (by omega)
    have E192 : nb_add 12 (8 * l1) = 12 + 8 * l1 := (nb_add_eq (x := 12) (y := 8 * l1) (by omega) (by omega)).trans (by omega)
    have E193 : nb_add (12 + 8 * l1) 4 = 12 + 8 * l1 + 4 := nb_add_eq (by omega) (by omega)
    have N194 : nb_ln M 609 = 108 := W.lk (by decide) (by decide +kernel)
    have E195 : nb_rd M 609 (12 + 8 * l1 + 4) = M.1 609 (12 + 8 * l1 + 4) := nb_rd_1 _ _ _
    refine nb_Wg (q_m_its_0 _ _ _ _ (by omega) (by rw [E191, E192, E193]; first | done | omega) (by rw [E191, E192, E193, N194]; first | done | omega)) ?_
    simp only [E191, E192, E193, E195]
    clear E191 E192 E193 N194 E195
    refine nb_Gs ?_
    show nb_W 136 6 [(20, 603), (0, l1), v2] [(0, M.1 609 (12 + 8 * l1 + 4))] M _
    refine nb_Wg (q_m_waitOf_6 _ _ _ _ _) ?_
    refine nb_Gr ?_
    refine nb_Wg (q_m_waitOf_12 _ _ _ _ _ (by omega)) ?_
    refine nb_Gb ?_
    have E196 : nb_rd M 603 24 = 613 := W.m24
    have E197 : nb_mul 7 l1 = 7 * l1 := nb_mul_eq (by omega) (by omega)
    have E198 : nb_add (7 * l1) 2 = 7 * l1 + 2 := nb_add_eq (by omega) (by omega)
    have N199 : nb_ln M 613 = 70 := W.lk (by decide) (by decide +kernel)
    have E200 : nb_rd M 613 (7 * l1 + 2) = M.1 613 (7 * l1 + 2) := nb_rd_1 _ _ _
    refine nb_Wg (q_m_man_0 _ _ _ _ (by omega) (by rw [E196]; first | done | omega) (by rw [E197, E198]; first | done | omega) (by rw [E197, E198, E196, N199]; first | done | omega)) ?_
    simp only [E196, E197, E198, E200]
    clear E196 E197 E198 N199 E200
    refine nb_Gs ?_
    show nb_W 136 13 [(20, 603), (0, l1), (0, M.1 609 (12 + 8 * l1 + 4))] [(0, M.1 613 (7 * l1 + 2)), (0, M.1 609 (12 + 8 * l1 + 4))] M _
    obtain ⟨p0_, p1_, H⟩ := H
    replace H := nb_Hw H
    have E201 : nb_sub (M.1 609 (12 + 8 * l1 + 4)) (M.1 613 (7 * l1 + 2)) = M.1 609 (12 + 8 * l1 + 4) - (M.1 613 (7 * l1 + 2)) := nb_sub_eq (by omega) (by omega)
    refine nb_Wg (q_m_waitOf_13 _ _ _ _ _ _) ?_
    simp only [E201]
    clear E201
    refine nb_Gs ?_
    exact nb_Hu H

theorem w_m_passedOf_0 {l1 : Int} {v2 v3 v4 v5 v6 : nb_V} {M : nb_M} {Q : List nb_V → nb_M → Prop} (W : nb_Lay M) (H : nb_W 138 1 [(20, 603), (0, l1), (0, 0), (0, 0), v4, v5, v6] [] M Q) :
    nb_W 138 0 [(20, 603), (0, l1), v2, v3, v4, v5, v6] [] M Q := by
  replace H := nb_Hw H
  refine nb_Wg (q_m_passedOf_0 _ _ _ _ _ _ _ _) ?_
  refine nb_Gr ?_
  exact nb_Hu H

theorem w_m_passedOf_1 {l1 l2 l3 : Int} {v4 v5 v6 : nb_V} {M : nb_M} {Q : List nb_V → nb_M → Prop} (W : nb_Lay M)  (b0_ : 0 ≤ l1 ∧ l1 ≤ 9) (b1_ : 0 ≤ l3 ∧ l3 ≤ 10) (H : 0 ≤ M.1 609 1 ∧ M.1 609 1 ≤ 10 ∧ (l3 < M.1 609 1 → 0 ≤ M.1 609 (2 + l3) ∧ M.1 609 (2 + l3) ≤ 9 ∧ (M.1 609 (2 + l3) = l1 → Q [(0, l2)] M) ∧ (M.1 609 (2 + l3) ≠ l1 → (M.1 609 (12 + 8 * l1 + 7) = (-2) → (M.1 613 (7 * l1 + 2) < M.1 613 (7 * (M.1 609 (2 + l3)) + 2) → (M.1 609 (12 + (8 * (M.1 609 (2 + l3))) + 4) < M.1 613 (7 * l1 + 2) → nb_W 138 1 [(20, 603), (0, l1), (0, l2), (0, l3 + 1), (0, M.1 609 (2 + l3)), (0, M.1 609 (12 + (8 * (M.1 609 (2 + l3))) + 4)), (0, 0)] [] M Q) ∧ (M.1 613 (7 * l1 + 2) ≤ M.1 609 (12 + (8 * (M.1 609 (2 + l3))) + 4) → nb_W 138 1 [(20, 603), (0, l1), (0, nb_or l2 (nb_shl 1 (M.1 609 (2 + l3)))), (0, l3 + 1), (0, M.1 609 (2 + l3)), (0, M.1 609 (12 + (8 * (M.1 609 (2 + l3))) + 4)), (0, 0)] [] M Q)) ∧ (M.1 613 (7 * (M.1 609 (2 + l3)) + 2) ≤ M.1 613 (7 * l1 + 2) → (M.1 613 (7 * (M.1 609 (2 + l3)) + 2) = M.1 613 (7 * l1 + 2) → (l1 < M.1 609 (2 + l3) → (M.1 609 (12 + (8 * (M.1 609 (2 + l3))) + 4) < M.1 613 (7 * l1 + 2) → nb_W 138 1 [(20, 603), (0, l1), (0, l2), (0, l3 + 1), (0, M.1 609 (2 + l3)), (0, M.1 609 (12 + (8 * (M.1 609 (2 + l3))) + 4)), (0, 0)] [] M Q) ∧ (M.1 613 (7 * l1 + 2) ≤ M.1 609 (12 + (8 * (M.1 609 (2 + l3))) + 4) → nb_W 138 1 [(20, 603), (0, l1), (0, nb_or l2 (nb_shl 1 (M.1 609 (2 + l3)))), (0, l3 + 1), (0, M.1 609 (2 + l3)), (0, M.1 609 (12 + (8 * (M.1 609 (2 + l3))) + 4)), (0, 0)] [] M Q)) ∧ (M.1 609 (2 + l3) ≤ l1 → nb_W 138 1 [(20, 603), (0, l1), (0, l2), (0, l3 + 1), (0, M.1 609 (2 + l3)), (0, M.1 609 (12 + (8 * (M.1 609 (2 + l3))) + 4)), (0, 0)] [] M Q)) ∧ (M.1 613 (7 * (M.1 609 (2 + l3)) + 2) ≠ M.1 613 (7 * l1 + 2) → nb_W 138 1 [(20, 603), (0, l1), (0, l2), (0, l3 + 1), (0, M.1 609 (2 + l3)), (0, M.1 609 (12 + (8 * (M.1 609 (2 + l3))) + 4)), (0, 0)] [] M Q))) ∧ (M.1 609 (12 + 8 * l1 + 7) ≠ (-2) → (M.1 609 (12 + (8 * (M.1 609 (2 + l3))) + 4) < M.1 609 (12 + 8 * l1 + 7) → (M.1 613 (7 * l1 + 2) < M.1 613 (7 * (M.1 609 (2 + l3)) + 2) → (M.1 609 (12 + (8 * (M.1 609 (2 + l3))) + 4) < M.1 613 (7 * l1 + 2) → nb_W 138 1 [(20, 603), (0, l1), (0, l2), (0, l3 + 1), (0, M.1 609 (2 + l3)), (0, M.1 609 (12 + (8 * (M.1 609 (2 + l3))) + 4)), (0, 0)] [] M Q) ∧ (M.1 613 (7 * l1 + 2) ≤ M.1 609 (12 + (8 * (M.1 609 (2 + l3))) + 4) → nb_W 138 1 [(20, 603), (0, l1), (0, nb_or l2 (nb_shl 1 (M.1 609 (2 + l3)))), (0, l3 + 1), (0, M.1 609 (2 + l3)), (0, M.1 609 (12 + (8 * (M.1 609 (2 + l3))) + 4)), (0, 0)] [] M Q)) ∧ (M.1 613 (7 * (M.1 609 (2 + l3)) + 2) ≤ M.1 613 (7 * l1 + 2) → (M.1 613 (7 * (M.1 609 (2 + l3)) + 2) = M.1 613 (7 * l1 + 2) → (l1 < M.1 609 (2 + l3) → (M.1 609 (12 + (8 * (M.1 609 (2 + l3))) + 4) < M.1 613 (7 * l1 + 2) → nb_W 138 1 [(20, 603), (0, l1), (0, l2), (0, l3 + 1), (0, M.1 609 (2 + l3)), (0, M.1 609 (12 + (8 * (M.1 609 (2 + l3))) + 4)), (0, 0)] [] M Q) ∧ (M.1 613 (7 * l1 + 2) ≤ M.1 609 (12 + (8 * (M.1 609 (2 + l3))) + 4) → nb_W 138 1 [(20, 603), (0, l1), (0, nb_or l2 (nb_shl 1 (M.1 609 (2 + l3)))), (0, l3 + 1), (0, M.1 609 (2 + l3)), (0, M.1 609 (12 + (8 * (M.1 609 (2 + l3))) + 4)), (0, 0)] [] M Q)) ∧ (M.1 609 (2 + l3) ≤ l1 → nb_W 138 1 [(20, 603), (0, l1), (0, l2), (0, l3 + 1), (0, M.1 609 (2 + l3)), (0, M.1 609 (12 + (8 * (M.1 609 (2 + l3))) + 4)), (0, 0)] [] M Q)) ∧ (M.1 613 (7 * (M.1 609 (2 + l3)) + 2) ≠ M.1 613 (7 * l1 + 2) → nb_W 138 1 [(20, 603), (0, l1), (0, l2), (0, l3 + 1), (0, M.1 609 (2 + l3)), (0, M.1 609 (12 + (8 * (M.1 609 (2 + l3))) + 4)), (0, 0)] [] M Q))) ∧ (M.1 609 (12 + 8 * l1 + 7) ≤ M.1 609 (12 + (8 * (M.1 609 (2 + l3))) + 4) → (M.1 613 (7 * l1 + 2) < M.1 613 (7 * (M.1 609 (2 + l3)) + 2) → (M.1 609 (12 + (8 * (M.1 609 (2 + l3))) + 4) < M.1 613 (7 * l1 + 2) → nb_W 138 1 [(20, 603), (0, l1), (0, l2), (0, l3 + 1), (0, M.1 609 (2 + l3)), (0, M.1 609 (12 + (8 * (M.1 609 (2 + l3))) + 4)), (0, 1)] [] M Q) ∧ (M.1 613 (7 * l1 + 2) ≤ M.1 609 (12 + (8 * (M.1 609 (2 + l3))) + 4) → nb_W 138 1 [(20, 603), (0, l1), (0, l2), (0, l3 + 1), (0, M.1 609 (2 + l3)), (0, M.1 609 (12 + (8 * (M.1 609 (2 + l3))) + 4)), (0, 1)] [] M Q)) ∧ (M.1 613 (7 * (M.1 609 (2 + l3)) + 2) ≤ M.1 613 (7 * l1 + 2) → (M.1 613 (7 * (M.1 609 (2 + l3)) + 2) = M.1 613 (7 * l1 + 2) → (l1 < M.1 609 (2 + l3) → (M.1 609 (12 + (8 * (M.1 609 (2 + l3))) + 4) < M.1 613 (7 * l1 + 2) → nb_W 138 1 [(20, 603), (0, l1), (0, l2), (0, l3 + 1), (0, M.1 609 (2 + l3)), (0, M.1 609 (12 + (8 * (M.1 609 (2 + l3))) + 4)), (0, 1)] [] M Q) ∧ (M.1 613 (7 * l1 + 2) ≤ M.1 609 (12 + (8 * (M.1 609 (2 + l3))) + 4) → nb_W 138 1 [(20, 603), (0, l1), (0, l2), (0, l3 + 1), (0, M.1 609 (2 + l3)), (0, M.1 609 (12 + (8 * (M.1 609 (2 + l3))) + 4)), (0, 1)] [] M Q)) ∧ (M.1 609 (2 + l3) ≤ l1 → nb_W 138 1 [(20, 603), (0, l1), (0, l2), (0, l3 + 1), (0, M.1 609 (2 + l3)), (0, M.1 609 (12 + (8 * (M.1 609 (2 + l3))) + 4)), (0, 1)] [] M Q)) ∧ (M.1 613 (7 * (M.1 609 (2 + l3)) + 2) ≠ M.1 613 (7 * l1 + 2) → nb_W 138 1 [(20, 603), (0, l1), (0, l2), (0, l3 + 1), (0, M.1 609 (2 + l3)), (0, M.1 609 (12 + (8 * (M.1 609 (2 + l3))) + 4)), (0, 1)] [] M Q)))))) ∧ (M.1 609 1 ≤ l3 → Q [(0, l2)] M)) :
    nb_W 138 1 [(20, 603), (0, l1), (0, l2), (0, l3), v4, v5, v6] [] M Q := by
  replace H := nb_Hw H
  obtain ⟨p0_, p1_, H⟩ := H
  replace H := nb_Hw H
  have E1 : nb_rd M 603 18 = 609 := W.m18
  have N2 : nb_ln M 609 = 108 := W.lk (by decide) (by decide +kernel)
  have E3 : nb_rd M 609 1 = M.1 609 1 := nb_rd_1 _ _ _
  refine nb_Wg (q_m_passedOf_1 _ _ _ _ _ _ _ _ (by omega) (by rw [E1]; first | done | omega) (by omega) (by rw [E1, N2]; first | done | omega)) ?_
  simp only [E1, E3]
  clear E1 N2 E3
  refine nb_Gi (fun c164 => ?_) (fun c164 => ?_)
  · have H := nb_Hw ((nb_Hu H).1 c164)
    refine nb_Gr ?_
    obtain ⟨p0_, p1_, H⟩ := H
    replace H := nb_Hw H
    have E4 : nb_rd M 603 18 = 609 := W.m18
    have E5 : nb_add 2 l3 = 2 + l3 := nb_add_eq (by omega) (by omega)
    have N6 : nb_ln M 609 = 108 := W.lk (by decide) (by decide +kernel)
    have E7 : nb_rd M 609 (2 + l3) = M.1 609 (2 + l3) := nb_rd_1 _ _ _
    refine nb_Wg (q_m_passedOf_2 _ _ _ _ _ _ _ _ (by omega) (by rw [E4]; first | done | omega) (by rw [E5]; first | done | omega) (by rw [E5, E4, N6]; first | done | omega)) ?_
    simp only [E4, E5, E7]
    clear E4 E5 N6 E7
    refine nb_Gi (fun c163 => ?_) (fun c163 => ?_)
    · have H := nb_Hw ((nb_Hu H).1 c163)
      refine nb_Gr ?_
      refine nb_Wg (q_m_passedOf_3 _ _ _ _ _ _ _ _) ?_
      refine nb_Gs ?_
      exact nb_Hu H
    · have H := nb_Hw ((nb_Hu H).2 (by omega))
      have c163 : M.1 609 (2 + l3) ≠ l1 := by omega
      refine nb_Gr ?_
      have E8 : nb_rd M 603 18 = 609 := W.m18
      refine nb_Wg (q_m_passedOf_4 _ _ _ _ _ _ _ _ (by omega)) ?_
      simp only [E8]
      clear E8
      refine nb_Gb ?_
      have E9 : nb_mul 8 (M.1 609 (2 + l3)) = 8 * (M.1 609 (2 + l3)) := nb_mul_eq (by omega) (by omega)
      have E10 : nb_add 12 (8 * (M.1 609 (2 + l3))) = 12 + (8 * (M.1 609 (2 + l3))) := nb_add_eq (by omega) (by omega)
      have E11 : nb_add (12 + (8 * (M.1 609 (2 + l3)))) 4 = 12 + (8 * (M.1 609 (2 + l3))) + 4 := nb_add_eq (by omega) (by omega)
      have N12 : nb_ln M 609 = 108 := W.lk (by decide) (by decide +kernel)
      have E13 : nb_rd M 609 (12 + (8 * (M.1 609 (2 + l3))) + 4) = M.1 609 (12 + (8 * (M.1 609 (2 + l3))) + 4) := nb_rd_1 _ _ _
      refine nb_Wg (q_m_its_0 _ _ _ _ (by omega) (by rw [E9, E10, E11]; first | done | omega) (by rw [E9, E10, E11, N12]; first | done | omega)) ?_
      simp only [E9, E10, E11, E13]
      clear E9 E10 E11 N12 E13
      refine nb_Gs ?_
      show nb_W 138 5 [(20, 603), (0, l1), (0, l2), (0, l3), (0, M.1 609 (2 + l3)), v5, v6] [(0, M.1 609 (12 + (8 * (M.1 609 (2 + l3))) + 4))] M _
      have E14 : nb_rd M 603 18 = 609 := W.m18
      refine nb_Wg (q_m_passedOf_5 _ _ _ _ _ _ _ _ _ (by omega)) ?_
      simp only [E14]
      clear E14
      refine nb_Gb ?_
      have E15 : nb_mul 8 l1 = 8 * l1 := nb_mul_eq (by omega) (by omega)
      have E16 : nb_add 12 (8 * l1) = 12 + 8 * l1 := (nb_add_eq (x := 12) (y := 8 * l1) (by omega) (by omega)).trans (by omega)
      have E17 : nb_add (12 + 8 * l1) 7 = 12 + 8 * l1 + 7 := nb_add_eq (by omega) (by omega)
      have N18 : nb_ln M 609 = 108 := W.lk (by decide) (by decide +kernel)
      have E19 : nb_rd M 609 (12 + 8 * l1 + 7) = M.1 609 (12 + 8 * l1 + 7) := nb_rd_1 _ _ _
      refine nb_Wg (q_m_its_0 _ _ _ _ (by omega) (by rw [E15, E16, E17]; first | done | omega) (by rw [E15, E16, E17, N18]; first | done | omega)) ?_
      simp only [E15, E16, E17, E19]
      clear E15 E16 E17 N18 E19
      refine nb_Gs ?_
      show nb_W 138 6 [(20, 603), (0, l1), (0, l2), (0, l3), (0, M.1 609 (2 + l3)), (0, M.1 609 (12 + (8 * (M.1 609 (2 + l3))) + 4)), v6] [(0, M.1 609 (12 + 8 * l1 + 7))] M _
      refine nb_Wg (q_m_passedOf_6 _ _ _ _ _ _ _ _ _) ?_
      refine nb_Gi (fun c162 => ?_) (fun c162 => ?_)
      · have H := nb_Hw ((nb_Hu H).1 c162)
        refine nb_Gr ?_
        refine nb_Wg (q_m_passedOf_10 _ _ _ _ _ _ _ _) ?_
        refine nb_Gr ?_
        refine nb_Wg (q_m_passedOf_11 _ _ _ _ _ _ _ _ _ (by omega)) ?_
        refine nb_Gb ?_
        refine nb_Wg (q_m_isBehind_0 _ _ _ _ (by omega)) ?_
        refine nb_Gb ?_
        have E20 : nb_rd M 603 24 = 613 := W.m24
        have E21 : nb_mul 7 (M.1 609 (2 + l3)) = 7 * (M.1 609 (2 + l3)) := nb_mul_eq (by omega) (by omega)
        have E22 : nb_add (7 * (M.1 609 (2 + l3))) 2 = 7 * (M.1 609 (2 + l3)) + 2 := nb_add_eq (by omega) (by omega)
        have N23 : nb_ln M 613 = 70 := W.lk (by decide) (by decide +kernel)
        have E24 : nb_rd M 613 (7 * (M.1 609 (2 + l3)) + 2) = M.1 613 (7 * (M.1 609 (2 + l3)) + 2) := nb_rd_1 _ _ _
        refine nb_Wg (q_m_man_0 _ _ _ _ (by omega) (by rw [E20]; first | done | omega) (by rw [E21, E22]; first | done | omega) (by rw [E21, E22, E20, N23]; first | done | omega)) ?_
        simp only [E20, E21, E22, E24]
        clear E20 E21 E22 N23 E24
        refine nb_Gs ?_
        show nb_W 137 1 [(20, 603), (0, M.1 609 (2 + l3)), (0, l1)] [(0, M.1 613 (7 * (M.1 609 (2 + l3)) + 2))] M _
        refine nb_Wg (q_m_isBehind_1 _ _ _ _ _ (by omega)) ?_
        refine nb_Gb ?_
        have E25 : nb_rd M 603 24 = 613 := W.m24
        have E26 : nb_mul 7 l1 = 7 * l1 := nb_mul_eq (by omega) (by omega)
        have E27 : nb_add (7 * l1) 2 = 7 * l1 + 2 := nb_add_eq (by omega) (by omega)
        have N28 : nb_ln M 613 = 70 := W.lk (by decide) (by decide +kernel)
        have E29 : nb_rd M 613 (7 * l1 + 2) = M.1 613 (7 * l1 + 2) := nb_rd_1 _ _ _
        refine nb_Wg (q_m_man_0 _ _ _ _ (by omega) (by rw [E25]; first | done | omega) (by rw [E26, E27]; first | done | omega) (by rw [E26, E27, E25, N28]; first | done | omega)) ?_
        simp only [E25, E26, E27, E29]
        clear E25 E26 E27 N28 E29
        refine nb_Gs ?_
        show nb_W 137 2 [(20, 603), (0, M.1 609 (2 + l3)), (0, l1)] [(0, M.1 613 (7 * l1 + 2)), (0, M.1 613 (7 * (M.1 609 (2 + l3)) + 2))] M _
        refine nb_Wg (q_m_isBehind_2 _ _ _ _ _ _) ?_
        refine nb_Gi (fun c64 => ?_) (fun c64 => ?_)
        · have H := nb_Hw ((nb_Hu H).1 c64)
          refine nb_Gr ?_
          refine nb_Wg (q_m_isBehind_7 _ _ _ _) ?_
          refine nb_Gr ?_
          have E30 : nb_i2z 1 = 1 := by decide
          refine nb_Wg (q_m_isBehind_9 _ _ _ _ _) ?_
          simp only [E30]
          clear E30
          refine nb_Gs ?_
          show nb_W 138 12 [(20, 603), (0, l1), (0, l2), (0, l3), (0, M.1 609 (2 + l3)), (0, M.1 609 (12 + (8 * (M.1 609 (2 + l3))) + 4)), (0, 0)] [(0, 1)] M _
          refine nb_Wg (q_m_passedOf_12 _ _ _ _ _ _ _ _ _) ?_
          refine nb_Gf (by decide) ?_
          refine nb_Gr ?_
          refine nb_Wg (q_m_passedOf_13 _ _ _ _ _ _ _ _ (by omega)) ?_
          refine nb_Gb ?_
          have E31 : nb_rd M 603 24 = 613 := W.m24
          have E32 : nb_mul 7 l1 = 7 * l1 := nb_mul_eq (by omega) (by omega)
          have E33 : nb_add (7 * l1) 2 = 7 * l1 + 2 := nb_add_eq (by omega) (by omega)
          have N34 : nb_ln M 613 = 70 := W.lk (by decide) (by decide +kernel)
          have E35 : nb_rd M 613 (7 * l1 + 2) = M.1 613 (7 * l1 + 2) := nb_rd_1 _ _ _
          refine nb_Wg (q_m_man_0 _ _ _ _ (by omega) (by rw [E31]; first | done | omega) (by rw [E32, E33]; first | done | omega) (by rw [E32, E33, E31, N34]; first | done | omega)) ?_
          simp only [E31, E32, E33, E35]
          clear E31 E32 E33 N34 E35
          refine nb_Gs ?_
          show nb_W 138 14 [(20, 603), (0, l1), (0, l2), (0, l3), (0, M.1 609 (2 + l3)), (0, M.1 609 (12 + (8 * (M.1 609 (2 + l3))) + 4)), (0, 0)] [(0, M.1 613 (7 * l1 + 2)), (0, M.1 609 (12 + (8 * (M.1 609 (2 + l3))) + 4))] M _
          refine nb_Wg (q_m_passedOf_14 _ _ _ _ _ _ _ _ _ _) ?_
          refine nb_Gi (fun c38 => ?_) (fun c38 => ?_)
          · have H := nb_Hw ((nb_Hu H).1 c38)
            refine nb_Gr ?_
            have E36 : nb_add l3 1 = l3 + 1 := nb_add_eq (by omega) (by omega)
            refine nb_Wg (q_m_passedOf_17 _ _ _ _ _ _ _ _) ?_
            simp only [E36]
            clear E36
            refine nb_Gr ?_
            exact nb_Hu H
          · have H := nb_Hw ((nb_Hu H).2 (by omega))
            have c38 : M.1 613 (7 * l1 + 2) ≤ M.1 609 (12 + (8 * (M.1 609 (2 + l3))) + 4) := by omega
            refine nb_Gr ?_
            refine nb_Wg (q_m_passedOf_15 _ _ _ _ _ _ _ _) ?_
            refine nb_Gt (by decide) ?_
            refine nb_Gr ?_
            refine nb_Wg (q_m_passedOf_16 _ _ _ _ _ _ _ _) ?_
            refine nb_Gr ?_
            have E37 : nb_add l3 1 = l3 + 1 := nb_add_eq (by omega) (by omega)
            refine nb_Wg (q_m_passedOf_17 _ _ _ _ _ _ _ _) ?_
            simp only [E37]
            clear E37
            refine nb_Gr ?_
            exact nb_Hu H
        · have H := nb_Hw ((nb_Hu H).2 (by omega))
          have c64 : M.1 613 (7 * (M.1 609 (2 + l3)) + 2) ≤ M.1 613 (7 * l1 + 2) := by omega
          refine nb_Gr ?_
          refine nb_Wg (q_m_isBehind_3 _ _ _ _ (by omega)) ?_
          refine nb_Gb ?_
          have E39 : nb_rd M 603 24 = 613 := W.m24
          have E40 : nb_mul 7 (M.1 609 (2 + l3)) = 7 * (M.1 609 (2 + l3)) := nb_mul_eq (by omega) (by omega)
          have E41 : nb_add (7 * (M.1 609 (2 + l3))) 2 = 7 * (M.1 609 (2 + l3)) + 2 := nb_add_eq (by omega) (by omega)
          have N42 : nb_ln M 613 = 70 := W.lk (by decide) (by decide +kernel)
          have E43 : nb_rd M 613 (7 * (M.1 609 (2 + l3)) + 2) = M.1 613 (7 * (M.1 609 (2 + l3)) + 2) := nb_rd_1 _ _ _
          refine nb_Wg (q_m_man_0 _ _ _ _ (by omega) (by rw [E39]; first | done | omega) (by rw [E40, E41]; first | done | omega) (by rw [E40, E41, E39, N42]; first | done | omega)) ?_
          simp only [E39, E40, E41, E43]
          clear E39 E40 E41 N42 E43
          refine nb_Gs ?_
          show nb_W 137 4 [(20, 603), (0, M.1 609 (2 + l3)), (0, l1)] [(0, M.1 613 (7 * (M.1 609 (2 + l3)) + 2))] M _
          refine nb_Wg (q_m_isBehind_4 _ _ _ _ _ (by omega)) ?_
          refine nb_Gb ?_
          have E44 : nb_rd M 603 24 = 613 := W.m24
          have E45 : nb_mul 7 l1 = 7 * l1 := nb_mul_eq (by omega) (by omega)
          have E46 : nb_add (7 * l1) 2 = 7 * l1 + 2 := nb_add_eq (by omega) (by omega)
          have N47 : nb_ln M 613 = 70 := W.lk (by decide) (by decide +kernel)
          have E48 : nb_rd M 613 (7 * l1 + 2) = M.1 613 (7 * l1 + 2) := nb_rd_1 _ _ _
          refine nb_Wg (q_m_man_0 _ _ _ _ (by omega) (by rw [E44]; first | done | omega) (by rw [E45, E46]; first | done | omega) (by rw [E45, E46, E44, N47]; first | done | omega)) ?_
          simp only [E44, E45, E46, E48]
          clear E44 E45 E46 N47 E48
          refine nb_Gs ?_
          show nb_W 137 5 [(20, 603), (0, M.1 609 (2 + l3)), (0, l1)] [(0, M.1 613 (7 * l1 + 2)), (0, M.1 613 (7 * (M.1 609 (2 + l3)) + 2))] M _
          refine nb_Wg (q_m_isBehind_5 _ _ _ _ _ _) ?_
          refine nb_Gi (fun c63 => ?_) (fun c63 => ?_)
          · have H := nb_Hw ((nb_Hu H).1 c63)
            refine nb_Gr ?_
            refine nb_Wg (q_m_isBehind_6 _ _ _ _) ?_
            refine nb_Gi (fun c60 => ?_) (fun c60 => ?_)
            · have H := nb_Hw ((nb_Hu H).1 c60)
              refine nb_Gr ?_
              refine nb_Wg (q_m_isBehind_7 _ _ _ _) ?_
              refine nb_Gr ?_
              have E49 : nb_i2z 1 = 1 := by decide
              refine nb_Wg (q_m_isBehind_9 _ _ _ _ _) ?_
              simp only [E49]
              clear E49
              refine nb_Gs ?_
              show nb_W 138 12 [(20, 603), (0, l1), (0, l2), (0, l3), (0, M.1 609 (2 + l3)), (0, M.1 609 (12 + (8 * (M.1 609 (2 + l3))) + 4)), (0, 0)] [(0, 1)] M _
              refine nb_Wg (q_m_passedOf_12 _ _ _ _ _ _ _ _ _) ?_
              refine nb_Gf (by decide) ?_
              refine nb_Gr ?_
              refine nb_Wg (q_m_passedOf_13 _ _ _ _ _ _ _ _ (by omega)) ?_
              refine nb_Gb ?_
              have E50 : nb_rd M 603 24 = 613 := W.m24
              have E51 : nb_mul 7 l1 = 7 * l1 := nb_mul_eq (by omega) (by omega)
              have E52 : nb_add (7 * l1) 2 = 7 * l1 + 2 := nb_add_eq (by omega) (by omega)
              have N53 : nb_ln M 613 = 70 := W.lk (by decide) (by decide +kernel)
              have E54 : nb_rd M 613 (7 * l1 + 2) = M.1 613 (7 * l1 + 2) := nb_rd_1 _ _ _
              refine nb_Wg (q_m_man_0 _ _ _ _ (by omega) (by rw [E50]; first | done | omega) (by rw [E51, E52]; first | done | omega) (by rw [E51, E52, E50, N53]; first | done | omega)) ?_
              simp only [E50, E51, E52, E54]
              clear E50 E51 E52 N53 E54
              refine nb_Gs ?_
              show nb_W 138 14 [(20, 603), (0, l1), (0, l2), (0, l3), (0, M.1 609 (2 + l3)), (0, M.1 609 (12 + (8 * (M.1 609 (2 + l3))) + 4)), (0, 0)] [(0, M.1 613 (7 * l1 + 2)), (0, M.1 609 (12 + (8 * (M.1 609 (2 + l3))) + 4))] M _
              refine nb_Wg (q_m_passedOf_14 _ _ _ _ _ _ _ _ _ _) ?_
              refine nb_Gi (fun c57 => ?_) (fun c57 => ?_)
              · have H := nb_Hw ((nb_Hu H).1 c57)
                refine nb_Gr ?_
                have E55 : nb_add l3 1 = l3 + 1 := nb_add_eq (by omega) (by omega)
                refine nb_Wg (q_m_passedOf_17 _ _ _ _ _ _ _ _) ?_
                simp only [E55]
                clear E55
                refine nb_Gr ?_
                exact nb_Hu H
              · have H := nb_Hw ((nb_Hu H).2 (by omega))
                have c57 : M.1 613 (7 * l1 + 2) ≤ M.1 609 (12 + (8 * (M.1 609 (2 + l3))) + 4) := by omega
                refine nb_Gr ?_
                refine nb_Wg (q_m_passedOf_15 _ _ _ _ _ _ _ _) ?_
                refine nb_Gt (by decide) ?_
                refine nb_Gr ?_
                refine nb_Wg (q_m_passedOf_16 _ _ _ _ _ _ _ _) ?_
                refine nb_Gr ?_
                have E56 : nb_add l3 1 = l3 + 1 := nb_add_eq (by omega) (by omega)
                refine nb_Wg (q_m_passedOf_17 _ _ _ _ _ _ _ _) ?_
                simp only [E56]
                clear E56
                refine nb_Gr ?_
                exact nb_Hu H
            · have H := nb_Hw ((nb_Hu H).2 (by omega))
              have c60 : M.1 609 (2 + l3) ≤ l1 := by omega
              refine nb_Gr ?_
              refine nb_Wg (q_m_isBehind_8 _ _ _ _) ?_
              refine nb_Gr ?_
              have E58 : nb_i2z 0 = 0 := by decide
              refine nb_Wg (q_m_isBehind_9 _ _ _ _ _) ?_
              simp only [E58]
              clear E58
              refine nb_Gs ?_
              show nb_W 138 12 [(20, 603), (0, l1), (0, l2), (0, l3), (0, M.1 609 (2 + l3)), (0, M.1 609 (12 + (8 * (M.1 609 (2 + l3))) + 4)), (0, 0)] [(0, 0)] M _
              refine nb_Wg (q_m_passedOf_12 _ _ _ _ _ _ _ _ _) ?_
              refine nb_Gt (by decide) ?_
              refine nb_Gr ?_
              have E59 : nb_add l3 1 = l3 + 1 := nb_add_eq (by omega) (by omega)
              refine nb_Wg (q_m_passedOf_17 _ _ _ _ _ _ _ _) ?_
              simp only [E59]
              clear E59
              refine nb_Gr ?_
              exact nb_Hu H
          · have H := nb_Hw ((nb_Hu H).2 (by omega))
            have c63 : M.1 613 (7 * (M.1 609 (2 + l3)) + 2) ≠ M.1 613 (7 * l1 + 2) := by omega
            refine nb_Gr ?_
            refine nb_Wg (q_m_isBehind_8 _ _ _ _) ?_
            refine nb_Gr ?_
            have E61 : nb_i2z 0 = 0 := by decide
            refine nb_Wg (q_m_isBehind_9 _ _ _ _ _) ?_
            simp only [E61]
            clear E61
            refine nb_Gs ?_
            show nb_W 138 12 [(20, 603), (0, l1), (0, l2), (0, l3), (0, M.1 609 (2 + l3)), (0, M.1 609 (12 + (8 * (M.1 609 (2 + l3))) + 4)), (0, 0)] [(0, 0)] M _
            refine nb_Wg (q_m_passedOf_12 _ _ _ _ _ _ _ _ _) ?_
            refine nb_Gt (by decide) ?_
            refine nb_Gr ?_
            have E62 : nb_add l3 1 = l3 + 1 := nb_add_eq (by omega) (by omega)
            refine nb_Wg (q_m_passedOf_17 _ _ _ _ _ _ _ _) ?_
            simp only [E62]
            clear E62
            refine nb_Gr ?_
            exact nb_Hu H
      · have H := nb_Hw ((nb_Hu H).2 (by omega))
        have c162 : M.1 609 (12 + 8 * l1 + 7) ≠ (-2) := by omega
        refine nb_Gr ?_
        have E65 : nb_rd M 603 18 = 609 := W.m18
        refine nb_Wg (q_m_passedOf_7 _ _ _ _ _ _ _ _ (by omega)) ?_
        simp only [E65]
        clear E65
        refine nb_Gb ?_
        have E66 : nb_mul 8 l1 = 8 * l1 := nb_mul_eq (by omega) (by omega)
        have E67 : nb_add 12 (8 * l1) = 12 + 8 * l1 := (nb_add_eq (x := 12) (y := 8 * l1) (by omega) (by omega)).trans (by omega)
        have E68 : nb_add (12 + 8 * l1) 7 = 12 + 8 * l1 + 7 := nb_add_eq (by omega) (by omega)
        have N69 : nb_ln M 609 = 108 := W.lk (by decide) (by decide +kernel)
        have E70 : nb_rd M 609 (12 + 8 * l1 + 7) = M.1 609 (12 + 8 * l1 + 7) := nb_rd_1 _ _ _
        refine nb_Wg (q_m_its_0 _ _ _ _ (by omega) (by rw [E66, E67, E68]; first | done | omega) (by rw [E66, E67, E68, N69]; first | done | omega)) ?_
        simp only [E66, E67, E68, E70]
        clear E66 E67 E68 N69 E70
        refine nb_Gs ?_
        show nb_W 138 8 [(20, 603), (0, l1), (0, l2), (0, l3), (0, M.1 609 (2 + l3)), (0, M.1 609 (12 + (8 * (M.1 609 (2 + l3))) + 4)), v6] [(0, M.1 609 (12 + 8 * l1 + 7)), (0, M.1 609 (12 + (8 * (M.1 609 (2 + l3))) + 4))] M _
        refine nb_Wg (q_m_passedOf_8 _ _ _ _ _ _ _ _ _ _) ?_
        refine nb_Gi (fun c161 => ?_) (fun c161 => ?_)
        · have H := nb_Hw ((nb_Hu H).1 c161)
          refine nb_Gr ?_
          refine nb_Wg (q_m_passedOf_10 _ _ _ _ _ _ _ _) ?_
          refine nb_Gr ?_
          refine nb_Wg (q_m_passedOf_11 _ _ _ _ _ _ _ _ _ (by omega)) ?_
          refine nb_Gb ?_
          refine nb_Wg (q_m_isBehind_0 _ _ _ _ (by omega)) ?_
          refine nb_Gb ?_
          have E71 : nb_rd M 603 24 = 613 := W.m24
          have E72 : nb_mul 7 (M.1 609 (2 + l3)) = 7 * (M.1 609 (2 + l3)) := nb_mul_eq (by omega) (by omega)
          have E73 : nb_add (7 * (M.1 609 (2 + l3))) 2 = 7 * (M.1 609 (2 + l3)) + 2 := nb_add_eq (by omega) (by omega)
          have N74 : nb_ln M 613 = 70 := W.lk (by decide) (by decide +kernel)
          have E75 : nb_rd M 613 (7 * (M.1 609 (2 + l3)) + 2) = M.1 613 (7 * (M.1 609 (2 + l3)) + 2) := nb_rd_1 _ _ _
          refine nb_Wg (q_m_man_0 _ _ _ _ (by omega) (by rw [E71]; first | done | omega) (by rw [E72, E73]; first | done | omega) (by rw [E72, E73, E71, N74]; first | done | omega)) ?_
          simp only [E71, E72, E73, E75]
          clear E71 E72 E73 N74 E75
          refine nb_Gs ?_
          show nb_W 137 1 [(20, 603), (0, M.1 609 (2 + l3)), (0, l1)] [(0, M.1 613 (7 * (M.1 609 (2 + l3)) + 2))] M _
          refine nb_Wg (q_m_isBehind_1 _ _ _ _ _ (by omega)) ?_
          refine nb_Gb ?_
          have E76 : nb_rd M 603 24 = 613 := W.m24
          have E77 : nb_mul 7 l1 = 7 * l1 := nb_mul_eq (by omega) (by omega)
          have E78 : nb_add (7 * l1) 2 = 7 * l1 + 2 := nb_add_eq (by omega) (by omega)
          have N79 : nb_ln M 613 = 70 := W.lk (by decide) (by decide +kernel)
          have E80 : nb_rd M 613 (7 * l1 + 2) = M.1 613 (7 * l1 + 2) := nb_rd_1 _ _ _
          refine nb_Wg (q_m_man_0 _ _ _ _ (by omega) (by rw [E76]; first | done | omega) (by rw [E77, E78]; first | done | omega) (by rw [E77, E78, E76, N79]; first | done | omega)) ?_
          simp only [E76, E77, E78, E80]
          clear E76 E77 E78 N79 E80
          refine nb_Gs ?_
          show nb_W 137 2 [(20, 603), (0, M.1 609 (2 + l3)), (0, l1)] [(0, M.1 613 (7 * l1 + 2)), (0, M.1 613 (7 * (M.1 609 (2 + l3)) + 2))] M _
          refine nb_Wg (q_m_isBehind_2 _ _ _ _ _ _) ?_
          refine nb_Gi (fun c115 => ?_) (fun c115 => ?_)
          · have H := nb_Hw ((nb_Hu H).1 c115)
            refine nb_Gr ?_
            refine nb_Wg (q_m_isBehind_7 _ _ _ _) ?_
            refine nb_Gr ?_
            have E81 : nb_i2z 1 = 1 := by decide
            refine nb_Wg (q_m_isBehind_9 _ _ _ _ _) ?_
            simp only [E81]
            clear E81
            refine nb_Gs ?_
            show nb_W 138 12 [(20, 603), (0, l1), (0, l2), (0, l3), (0, M.1 609 (2 + l3)), (0, M.1 609 (12 + (8 * (M.1 609 (2 + l3))) + 4)), (0, 0)] [(0, 1)] M _
            refine nb_Wg (q_m_passedOf_12 _ _ _ _ _ _ _ _ _) ?_
            refine nb_Gf (by decide) ?_
            refine nb_Gr ?_
            refine nb_Wg (q_m_passedOf_13 _ _ _ _ _ _ _ _ (by omega)) ?_
            refine nb_Gb ?_
            have E82 : nb_rd M 603 24 = 613 := W.m24
            have E83 : nb_mul 7 l1 = 7 * l1 := nb_mul_eq (by omega) (by omega)
            have E84 : nb_add (7 * l1) 2 = 7 * l1 + 2 := nb_add_eq (by omega) (by omega)
            have N85 : nb_ln M 613 = 70 := W.lk (by decide) (by decide +kernel)
            have E86 : nb_rd M 613 (7 * l1 + 2) = M.1 613 (7 * l1 + 2) := nb_rd_1 _ _ _
            refine nb_Wg (q_m_man_0 _ _ _ _ (by omega) (by rw [E82]; first | done | omega) (by rw [E83, E84]; first | done | omega) (by rw [E83, E84, E82, N85]; first | done | omega)) ?_
            simp only [E82, E83, E84, E86]
            clear E82 E83 E84 N85 E86
            refine nb_Gs ?_
            show nb_W 138 14 [(20, 603), (0, l1), (0, l2), (0, l3), (0, M.1 609 (2 + l3)), (0, M.1 609 (12 + (8 * (M.1 609 (2 + l3))) + 4)), (0, 0)] [(0, M.1 613 (7 * l1 + 2)), (0, M.1 609 (12 + (8 * (M.1 609 (2 + l3))) + 4))] M _
            refine nb_Wg (q_m_passedOf_14 _ _ _ _ _ _ _ _ _ _) ?_
            refine nb_Gi (fun c89 => ?_) (fun c89 => ?_)
            · have H := nb_Hw ((nb_Hu H).1 c89)
              refine nb_Gr ?_
              have E87 : nb_add l3 1 = l3 + 1 := nb_add_eq (by omega) (by omega)
              refine nb_Wg (q_m_passedOf_17 _ _ _ _ _ _ _ _) ?_
              simp only [E87]
              clear E87
              refine nb_Gr ?_
              exact nb_Hu H
            · have H := nb_Hw ((nb_Hu H).2 (by omega))
              have c89 : M.1 613 (7 * l1 + 2) ≤ M.1 609 (12 + (8 * (M.1 609 (2 + l3))) + 4) := by omega
              refine nb_Gr ?_
              refine nb_Wg (q_m_passedOf_15 _ _ _ _ _ _ _ _) ?_
              refine nb_Gt (by decide) ?_
              refine nb_Gr ?_
              refine nb_Wg (q_m_passedOf_16 _ _ _ _ _ _ _ _) ?_
              refine nb_Gr ?_
              have E88 : nb_add l3 1 = l3 + 1 := nb_add_eq (by omega) (by omega)
              refine nb_Wg (q_m_passedOf_17 _ _ _ _ _ _ _ _) ?_
              simp only [E88]
              clear E88
              refine nb_Gr ?_
              exact nb_Hu H
          · have H := nb_Hw ((nb_Hu H).2 (by omega))
            have c115 : M.1 613 (7 * (M.1 609 (2 + l3)) + 2) ≤ M.1 613 (7 * l1 + 2) := by omega
            refine nb_Gr ?_
            refine nb_Wg (q_m_isBehind_3 _ _ _ _ (by omega)) ?_
            refine nb_Gb ?_
            have E90 : nb_rd M 603 24 = 613 := W.m24
            have E91 : nb_mul 7 (M.1 609 (2 + l3)) = 7 * (M.1 609 (2 + l3)) := nb_mul_eq (by omega) (by omega)
            have E92 : nb_add (7 * (M.1 609 (2 + l3))) 2 = 7 * (M.1 609 (2 + l3)) + 2 := nb_add_eq (by omega) (by omega)
            have N93 : nb_ln M 613 = 70 := W.lk (by decide) (by decide +kernel)
            have E94 : nb_rd M 613 (7 * (M.1 609 (2 + l3)) + 2) = M.1 613 (7 * (M.1 609 (2 + l3)) + 2) := nb_rd_1 _ _ _
            refine nb_Wg (q_m_man_0 _ _ _ _ (by omega) (by rw [E90]; first | done | omega) (by rw [E91, E92]; first | done | omega) (by rw [E91, E92, E90, N93]; first | done | omega)) ?_
            simp only [E90, E91, E92, E94]
            clear E90 E91 E92 N93 E94
            refine nb_Gs ?_
            show nb_W 137 4 [(20, 603), (0, M.1 609 (2 + l3)), (0, l1)] [(0, M.1 613 (7 * (M.1 609 (2 + l3)) + 2))] M _
            refine nb_Wg (q_m_isBehind_4 _ _ _ _ _ (by omega)) ?_
            refine nb_Gb ?_
            have E95 : nb_rd M 603 24 = 613 := W.m24
            have E96 : nb_mul 7 l1 = 7 * l1 := nb_mul_eq (by omega) (by omega)
            have E97 : nb_add (7 * l1) 2 = 7 * l1 + 2 := nb_add_eq (by omega) (by omega)
            have N98 : nb_ln M 613 = 70 := W.lk (by decide) (by decide +kernel)
            have E99 : nb_rd M 613 (7 * l1 + 2) = M.1 613 (7 * l1 + 2) := nb_rd_1 _ _ _
            refine nb_Wg (q_m_man_0 _ _ _ _ (by omega) (by rw [E95]; first | done | omega) (by rw [E96, E97]; first | done | omega) (by rw [E96, E97, E95, N98]; first | done | omega)) ?_
            simp only [E95, E96, E97, E99]
            clear E95 E96 E97 N98 E99
            refine nb_Gs ?_
            show nb_W 137 5 [(20, 603), (0, M.1 609 (2 + l3)), (0, l1)] [(0, M.1 613 (7 * l1 + 2)), (0, M.1 613 (7 * (M.1 609 (2 + l3)) + 2))] M _
            refine nb_Wg (q_m_isBehind_5 _ _ _ _ _ _) ?_
            refine nb_Gi (fun c114 => ?_) (fun c114 => ?_)
            · have H := nb_Hw ((nb_Hu H).1 c114)
              refine nb_Gr ?_
              refine nb_Wg (q_m_isBehind_6 _ _ _ _) ?_
              refine nb_Gi (fun c111 => ?_) (fun c111 => ?_)
              · have H := nb_Hw ((nb_Hu H).1 c111)
                refine nb_Gr ?_
                refine nb_Wg (q_m_isBehind_7 _ _ _ _) ?_
                refine nb_Gr ?_
                have E100 : nb_i2z 1 = 1 := by decide
                refine nb_Wg (q_m_isBehind_9 _ _ _ _ _) ?_
                simp only [E100]
                clear E100
                refine nb_Gs ?_
                show nb_W 138 12 [(20, 603), (0, l1), (0, l2), (0, l3), (0, M.1 609 (2 + l3)), (0, M.1 609 (12 + (8 * (M.1 609 (2 + l3))) + 4)), (0, 0)] [(0, 1)] M _
                refine nb_Wg (q_m_passedOf_12 _ _ _ _ _ _ _ _ _) ?_
                refine nb_Gf (by decide) ?_
                refine nb_Gr ?_
                refine nb_Wg (q_m_passedOf_13 _ _ _ _ _ _ _ _ (by omega)) ?_
                refine nb_Gb ?_
                have E101 : nb_rd M 603 24 = 613 := W.m24
                have E102 : nb_mul 7 l1 = 7 * l1 := nb_mul_eq (by omega) (by omega)
                have E103 : nb_add (7 * l1) 2 = 7 * l1 + 2 := nb_add_eq (by omega) (by omega)
                have N104 : nb_ln M 613 = 70 := W.lk (by decide) (by decide +kernel)
                have E105 : nb_rd M 613 (7 * l1 + 2) = M.1 613 (7 * l1 + 2) := nb_rd_1 _ _ _
                refine nb_Wg (q_m_man_0 _ _ _ _ (by omega) (by rw [E101]; first | done | omega) (by rw [E102, E103]; first | done | omega) (by rw [E102, E103, E101, N104]; first | done | omega)) ?_
                simp only [E101, E102, E103, E105]
                clear E101 E102 E103 N104 E105
                refine nb_Gs ?_
                show nb_W 138 14 [(20, 603), (0, l1), (0, l2), (0, l3), (0, M.1 609 (2 + l3)), (0, M.1 609 (12 + (8 * (M.1 609 (2 + l3))) + 4)), (0, 0)] [(0, M.1 613 (7 * l1 + 2)), (0, M.1 609 (12 + (8 * (M.1 609 (2 + l3))) + 4))] M _
                refine nb_Wg (q_m_passedOf_14 _ _ _ _ _ _ _ _ _ _) ?_
                refine nb_Gi (fun c108 => ?_) (fun c108 => ?_)
                · have H := nb_Hw ((nb_Hu H).1 c108)
                  refine nb_Gr ?_
                  have E106 : nb_add l3 1 = l3 + 1 := nb_add_eq (by omega) (by omega)
                  refine nb_Wg (q_m_passedOf_17 _ _ _ _ _ _ _ _) ?_
                  simp only [E106]
                  clear E106
                  refine nb_Gr ?_
                  exact nb_Hu H
                · have H := nb_Hw ((nb_Hu H).2 (by omega))
                  have c108 : M.1 613 (7 * l1 + 2) ≤ M.1 609 (12 + (8 * (M.1 609 (2 + l3))) + 4) := by omega
                  refine nb_Gr ?_
                  refine nb_Wg (q_m_passedOf_15 _ _ _ _ _ _ _ _) ?_
                  refine nb_Gt (by decide) ?_
                  refine nb_Gr ?_
                  refine nb_Wg (q_m_passedOf_16 _ _ _ _ _ _ _ _) ?_
                  refine nb_Gr ?_
                  have E107 : nb_add l3 1 = l3 + 1 := nb_add_eq (by omega) (by omega)
                  refine nb_Wg (q_m_passedOf_17 _ _ _ _ _ _ _ _) ?_
                  simp only [E107]
                  clear E107
                  refine nb_Gr ?_
                  exact nb_Hu H
              · have H := nb_Hw ((nb_Hu H).2 (by omega))
                have c111 : M.1 609 (2 + l3) ≤ l1 := by omega
                refine nb_Gr ?_
                refine nb_Wg (q_m_isBehind_8 _ _ _ _) ?_
                refine nb_Gr ?_
                have E109 : nb_i2z 0 = 0 := by decide
                refine nb_Wg (q_m_isBehind_9 _ _ _ _ _) ?_
                simp only [E109]
                clear E109
                refine nb_Gs ?_
                show nb_W 138 12 [(20, 603), (0, l1), (0, l2), (0, l3), (0, M.1 609 (2 + l3)), (0, M.1 609 (12 + (8 * (M.1 609 (2 + l3))) + 4)), (0, 0)] [(0, 0)] M _
                refine nb_Wg (q_m_passedOf_12 _ _ _ _ _ _ _ _ _) ?_
                refine nb_Gt (by decide) ?_
                refine nb_Gr ?_
                have E110 : nb_add l3 1 = l3 + 1 := nb_add_eq (by omega) (by omega)
                refine nb_Wg (q_m_passedOf_17 _ _ _ _ _ _ _ _) ?_
                simp only [E110]
                clear E110
                refine nb_Gr ?_
                exact nb_Hu H
            · have H := nb_Hw ((nb_Hu H).2 (by omega))
              have c114 : M.1 613 (7 * (M.1 609 (2 + l3)) + 2) ≠ M.1 613 (7 * l1 + 2) := by omega
              refine nb_Gr ?_
              refine nb_Wg (q_m_isBehind_8 _ _ _ _) ?_
              refine nb_Gr ?_
              have E112 : nb_i2z 0 = 0 := by decide
              refine nb_Wg (q_m_isBehind_9 _ _ _ _ _) ?_
              simp only [E112]
              clear E112
              refine nb_Gs ?_
              show nb_W 138 12 [(20, 603), (0, l1), (0, l2), (0, l3), (0, M.1 609 (2 + l3)), (0, M.1 609 (12 + (8 * (M.1 609 (2 + l3))) + 4)), (0, 0)] [(0, 0)] M _
              refine nb_Wg (q_m_passedOf_12 _ _ _ _ _ _ _ _ _) ?_
              refine nb_Gt (by decide) ?_
              refine nb_Gr ?_
              have E113 : nb_add l3 1 = l3 + 1 := nb_add_eq (by omega) (by omega)
              refine nb_Wg (q_m_passedOf_17 _ _ _ _ _ _ _ _) ?_
              simp only [E113]
              clear E113
              refine nb_Gr ?_
              exact nb_Hu H
        · have H := nb_Hw ((nb_Hu H).2 (by omega))
          have c161 : M.1 609 (12 + 8 * l1 + 7) ≤ M.1 609 (12 + (8 * (M.1 609 (2 + l3))) + 4) := by omega
          refine nb_Gr ?_
          refine nb_Wg (q_m_passedOf_9 _ _ _ _ _ _ _ _) ?_
          refine nb_Gr ?_
          refine nb_Wg (q_m_passedOf_11 _ _ _ _ _ _ _ _ _ (by omega)) ?_
          refine nb_Gb ?_
          refine nb_Wg (q_m_isBehind_0 _ _ _ _ (by omega)) ?_
          refine nb_Gb ?_
          have E116 : nb_rd M 603 24 = 613 := W.m24
          have E117 : nb_mul 7 (M.1 609 (2 + l3)) = 7 * (M.1 609 (2 + l3)) := nb_mul_eq (by omega) (by omega)
          have E118 : nb_add (7 * (M.1 609 (2 + l3))) 2 = 7 * (M.1 609 (2 + l3)) + 2 := nb_add_eq (by omega) (by omega)
          have N119 : nb_ln M 613 = 70 := W.lk (by decide) (by decide +kernel)
          have E120 : nb_rd M 613 (7 * (M.1 609 (2 + l3)) + 2) = M.1 613 (7 * (M.1 609 (2 + l3)) + 2) := nb_rd_1 _ _ _
          refine nb_Wg (q_m_man_0 _ _ _ _ (by omega) (by rw [E116]; first | done | omega) (by rw [E117, E118]; first | done | omega) (by rw [E117, E118, E116, N119]; first | done | omega)) ?_
          simp only [E116, E117, E118, E120]
          clear E116 E117 E118 N119 E120
          refine nb_Gs ?_
          show nb_W 137 1 [(20, 603), (0, M.1 609 (2 + l3)), (0, l1)] [(0, M.1 613 (7 * (M.1 609 (2 + l3)) + 2))] M _
          refine nb_Wg (q_m_isBehind_1 _ _ _ _ _ (by omega)) ?_
          refine nb_Gb ?_
          have E121 : nb_rd M 603 24 = 613 := W.m24
          have E122 : nb_mul 7 l1 = 7 * l1 := nb_mul_eq (by omega) (by omega)
          have E123 : nb_add (7 * l1) 2 = 7 * l1 + 2 := nb_add_eq (by omega) (by omega)
          have N124 : nb_ln M 613 = 70 := W.lk (by decide) (by decide +kernel)
          have E125 : nb_rd M 613 (7 * l1 + 2) = M.1 613 (7 * l1 + 2) := nb_rd_1 _ _ _
          refine nb_Wg (q_m_man_0 _ _ _ _ (by omega) (by rw [E121]; first | done | omega) (by rw [E122, E123]; first | done | omega) (by rw [E122, E123, E121, N124]; first | done | omega)) ?_
          simp only [E121, E122, E123, E125]
          clear E121 E122 E123 N124 E125
          refine nb_Gs ?_
          show nb_W 137 2 [(20, 603), (0, M.1 609 (2 + l3)), (0, l1)] [(0, M.1 613 (7 * l1 + 2)), (0, M.1 613 (7 * (M.1 609 (2 + l3)) + 2))] M _
          refine nb_Wg (q_m_isBehind_2 _ _ _ _ _ _) ?_
          refine nb_Gi (fun c160 => ?_) (fun c160 => ?_)
          · have H := nb_Hw ((nb_Hu H).1 c160)
            refine nb_Gr ?_
            refine nb_Wg (q_m_isBehind_7 _ _ _ _) ?_
            refine nb_Gr ?_
            have E126 : nb_i2z 1 = 1 := by decide
            refine nb_Wg (q_m_isBehind_9 _ _ _ _ _) ?_
            simp only [E126]
            clear E126
            refine nb_Gs ?_
            show nb_W 138 12 [(20, 603), (0, l1), (0, l2), (0, l3), (0, M.1 609 (2 + l3)), (0, M.1 609 (12 + (8 * (M.1 609 (2 + l3))) + 4)), (0, 1)] [(0, 1)] M _
            refine nb_Wg (q_m_passedOf_12 _ _ _ _ _ _ _ _ _) ?_
            refine nb_Gf (by decide) ?_
            refine nb_Gr ?_
            refine nb_Wg (q_m_passedOf_13 _ _ _ _ _ _ _ _ (by omega)) ?_
            refine nb_Gb ?_
            have E127 : nb_rd M 603 24 = 613 := W.m24
            have E128 : nb_mul 7 l1 = 7 * l1 := nb_mul_eq (by omega) (by omega)
            have E129 : nb_add (7 * l1) 2 = 7 * l1 + 2 := nb_add_eq (by omega) (by omega)
            have N130 : nb_ln M 613 = 70 := W.lk (by decide) (by decide +kernel)
            have E131 : nb_rd M 613 (7 * l1 + 2) = M.1 613 (7 * l1 + 2) := nb_rd_1 _ _ _
            refine nb_Wg (q_m_man_0 _ _ _ _ (by omega) (by rw [E127]; first | done | omega) (by rw [E128, E129]; first | done | omega) (by rw [E128, E129, E127, N130]; first | done | omega)) ?_
            simp only [E127, E128, E129, E131]
            clear E127 E128 E129 N130 E131
            refine nb_Gs ?_
            show nb_W 138 14 [(20, 603), (0, l1), (0, l2), (0, l3), (0, M.1 609 (2 + l3)), (0, M.1 609 (12 + (8 * (M.1 609 (2 + l3))) + 4)), (0, 1)] [(0, M.1 613 (7 * l1 + 2)), (0, M.1 609 (12 + (8 * (M.1 609 (2 + l3))) + 4))] M _
            refine nb_Wg (q_m_passedOf_14 _ _ _ _ _ _ _ _ _ _) ?_
            refine nb_Gi (fun c134 => ?_) (fun c134 => ?_)
            · have H := nb_Hw ((nb_Hu H).1 c134)
              refine nb_Gr ?_
              have E132 : nb_add l3 1 = l3 + 1 := nb_add_eq (by omega) (by omega)
              refine nb_Wg (q_m_passedOf_17 _ _ _ _ _ _ _ _) ?_
              simp only [E132]
              clear E132
              refine nb_Gr ?_
              exact nb_Hu H
            · have H := nb_Hw ((nb_Hu H).2 (by omega))
              have c134 : M.1 613 (7 * l1 + 2) ≤ M.1 609 (12 + (8 * (M.1 609 (2 + l3))) + 4) := by omega
              refine nb_Gr ?_
              refine nb_Wg (q_m_passedOf_15 _ _ _ _ _ _ _ _) ?_
              refine nb_Gf (by decide) ?_
              refine nb_Gr ?_
              have E133 : nb_add l3 1 = l3 + 1 := nb_add_eq (by omega) (by omega)
              refine nb_Wg (q_m_passedOf_17 _ _ _ _ _ _ _ _) ?_
              simp only [E133]
              clear E133
              refine nb_Gr ?_
              exact nb_Hu H
          · have H := nb_Hw ((nb_Hu H).2 (by omega))
            have c160 : M.1 613 (7 * (M.1 609 (2 + l3)) + 2) ≤ M.1 613 (7 * l1 + 2) := by omega
            refine nb_Gr ?_
            refine nb_Wg (q_m_isBehind_3 _ _ _ _ (by omega)) ?_
            refine nb_Gb ?_
            have E135 : nb_rd M 603 24 = 613 := W.m24
            have E136 : nb_mul 7 (M.1 609 (2 + l3)) = 7 * (M.1 609 (2 + l3)) := nb_mul_eq (by omega) (by omega)
            have E137 : nb_add (7 * (M.1 609 (2 + l3))) 2 = 7 * (M.1 609 (2 + l3)) + 2 := nb_add_eq (by omega) (by omega)
            have N138 : nb_ln M 613 = 70 := W.lk (by decide) (by decide +kernel)
            have E139 : nb_rd M 613 (7 * (M.1 609 (2 + l3)) + 2) = M.1 613 (7 * (M.1 609 (2 + l3)) + 2) := nb_rd_1 _ _ _
            refine nb_Wg (q_m_man_0 _ _ _ _ (by omega) (by rw [E135]; first | done | omega) (by rw [E136, E137]; first | done | omega) (by rw [E136, E137, E135, N138]; first | done | omega)) ?_
            simp only [E135, E136, E137, E139]
            clear E135 E136 E137 N138 E139
            refine nb_Gs ?_
            show nb_W 137 4 [(20, 603), (0, M.1 609 (2 + l3)), (0, l1)] [(0, M.1 613 (7 * (M.1 609 (2 + l3)) + 2))] M _
            refine nb_Wg (q_m_isBehind_4 _ _ _ _ _ (by omega)) ?_
            refine nb_Gb ?_
            have E140 : nb_rd M 603 24 = 613 := W.m24
            have E141 : nb_mul 7 l1 = 7 * l1 := nb_mul_eq (by omega) (by omega)
            have E142 : nb_add (7 * l1) 2 = 7 * l1 + 2 := nb_add_eq (by omega) (by omega)
            have N143 : nb_ln M 613 = 70 := W.lk (by decide) (by decide +kernel)
            have E144 : nb_rd M 613 (7 * l1 + 2) = M.1 613 (7 * l1 + 2) := nb_rd_1 _ _ _
            refine nb_Wg (q_m_man_0 _ _ _ _ (by omega) (by rw [E140]; first | done | omega) (by rw [E141, E142]; first | done | omega) (by rw [E141, E142, E140, N143]; first | done | omega)) ?_
            simp only [E140, E141, E142, E144]
            clear E140 E141 E142 N143 E144
            refine nb_Gs ?_
            show nb_W 137 5 [(20, 603), (0, M.1 609 (2 + l3)), (0, l1)] [(0, M.1 613 (7 * l1 + 2)), (0, M.1 613 (7 * (M.1 609 (2 + l3)) + 2))] M _
            refine nb_Wg (q_m_isBehind_5 _ _ _ _ _ _) ?_
            refine nb_Gi (fun c159 => ?_) (fun c159 => ?_)
            · have H := nb_Hw ((nb_Hu H).1 c159)
              refine nb_Gr ?_
              refine nb_Wg (q_m_isBehind_6 _ _ _ _) ?_
              refine nb_Gi (fun c156 => ?_) (fun c156 => ?_)
              · have H := nb_Hw ((nb_Hu H).1 c156)
                refine nb_Gr ?_
                refine nb_Wg (q_m_isBehind_7 _ _ _ _) ?_
                refine nb_Gr ?_
                have E145 : nb_i2z 1 = 1 := by decide
                refine nb_Wg (q_m_isBehind_9 _ _ _ _ _) ?_
                simp only [E145]
                clear E145
                refine nb_Gs ?_
                show nb_W 138 12 [(20, 603), (0, l1), (0, l2), (0, l3), (0, M.1 609 (2 + l3)), (0, M.1 609 (12 + (8 * (M.1 609 (2 + l3))) + 4)), (0, 1)] [(0, 1)] M _
                refine nb_Wg (q_m_passedOf_12 _ _ _ _ _ _ _ _ _) ?_
                refine nb_Gf (by decide) ?_
                refine nb_Gr ?_
                refine nb_Wg (q_m_passedOf_13 _ _ _ _ _ _ _ _ (by omega)) ?_
                refine nb_Gb ?_
                have E146 : nb_rd M 603 24 = 613 := W.m24
                have E147 : nb_mul 7 l1 = 7 * l1 := nb_mul_eq (by omega) (by omega)
                have E148 : nb_add (7 * l1) 2 = 7 * l1 + 2 := nb_add_eq (by omega) (by omega)
                have N149 : nb_ln M 613 = 70 := W.lk (by decide) (by decide +kernel)
                have E150 : nb_rd M 613 (7 * l1 + 2) = M.1 613 (7 * l1 + 2) := nb_rd_1 _ _ _
                refine nb_Wg (q_m_man_0 _ _ _ _ (by omega) (by rw [E146]; first | done | omega) (by rw [E147, E148]; first | done | omega) (by rw [E147, E148, E146, N149]; first | done | omega)) ?_
                simp only [E146, E147, E148, E150]
                clear E146 E147 E148 N149 E150
                refine nb_Gs ?_
                show nb_W 138 14 [(20, 603), (0, l1), (0, l2), (0, l3), (0, M.1 609 (2 + l3)), (0, M.1 609 (12 + (8 * (M.1 609 (2 + l3))) + 4)), (0, 1)] [(0, M.1 613 (7 * l1 + 2)), (0, M.1 609 (12 + (8 * (M.1 609 (2 + l3))) + 4))] M _
                refine nb_Wg (q_m_passedOf_14 _ _ _ _ _ _ _ _ _ _) ?_
                refine nb_Gi (fun c153 => ?_) (fun c153 => ?_)
                · have H := nb_Hw ((nb_Hu H).1 c153)
                  refine nb_Gr ?_
                  have E151 : nb_add l3 1 = l3 + 1 := nb_add_eq (by omega) (by omega)
                  refine nb_Wg (q_m_passedOf_17 _ _ _ _ _ _ _ _) ?_
                  simp only [E151]
                  clear E151
                  refine nb_Gr ?_
                  exact nb_Hu H
                · have H := nb_Hw ((nb_Hu H).2 (by omega))
                  have c153 : M.1 613 (7 * l1 + 2) ≤ M.1 609 (12 + (8 * (M.1 609 (2 + l3))) + 4) := by omega
                  refine nb_Gr ?_
                  refine nb_Wg (q_m_passedOf_15 _ _ _ _ _ _ _ _) ?_
                  refine nb_Gf (by decide) ?_
                  refine nb_Gr ?_
                  have E152 : nb_add l3 1 = l3 + 1 := nb_add_eq (by omega) (by omega)
                  refine nb_Wg (q_m_passedOf_17 _ _ _ _ _ _ _ _) ?_
                  simp only [E152]
                  clear E152
                  refine nb_Gr ?_
                  exact nb_Hu H
              · have H := nb_Hw ((nb_Hu H).2 (by omega))
                have c156 : M.1 609 (2 + l3) ≤ l1 := by omega
                refine nb_Gr ?_
                refine nb_Wg (q_m_isBehind_8 _ _ _ _) ?_
                refine nb_Gr ?_
                have E154 : nb_i2z 0 = 0 := by decide
                refine nb_Wg (q_m_isBehind_9 _ _ _ _ _) ?_
                simp only [E154]
                clear E154
                refine nb_Gs ?_
                show nb_W 138 12 [(20, 603), (0, l1), (0, l2), (0, l3), (0, M.1 609 (2 + l3)), (0, M.1 609 (12 + (8 * (M.1 609 (2 + l3))) + 4)), (0, 1)] [(0, 0)] M _
                refine nb_Wg (q_m_passedOf_12 _ _ _ _ _ _ _ _ _) ?_
                refine nb_Gt (by decide) ?_
                refine nb_Gr ?_
                have E155 : nb_add l3 1 = l3 + 1 := nb_add_eq (by omega) (by omega)
                refine nb_Wg (q_m_passedOf_17 _ _ _ _ _ _ _ _) ?_
                simp only [E155]
                clear E155
                refine nb_Gr ?_
                exact nb_Hu H
            · have H := nb_Hw ((nb_Hu H).2 (by omega))
              have c159 : M.1 613 (7 * (M.1 609 (2 + l3)) + 2) ≠ M.1 613 (7 * l1 + 2) := by omega
              refine nb_Gr ?_
              refine nb_Wg (q_m_isBehind_8 _ _ _ _) ?_
              refine nb_Gr ?_
              have E157 : nb_i2z 0 = 0 := by decide
              refine nb_Wg (q_m_isBehind_9 _ _ _ _ _) ?_
              simp only [E157]
              clear E157
              refine nb_Gs ?_
              show nb_W 138 12 [(20, 603), (0, l1), (0, l2), (0, l3), (0, M.1 609 (2 + l3)), (0, M.1 609 (12 + (8 * (M.1 609 (2 + l3))) + 4)), (0, 1)] [(0, 0)] M _
              refine nb_Wg (q_m_passedOf_12 _ _ _ _ _ _ _ _ _) ?_
              refine nb_Gt (by decide) ?_
              refine nb_Gr ?_
              have E158 : nb_add l3 1 = l3 + 1 := nb_add_eq (by omega) (by omega)
              refine nb_Wg (q_m_passedOf_17 _ _ _ _ _ _ _ _) ?_
              simp only [E158]
              clear E158
              refine nb_Gr ?_
              exact nb_Hu H
  · have H := nb_Hw ((nb_Hu H).2 (by omega))
    have c164 : M.1 609 1 ≤ l3 := by omega
    refine nb_Gr ?_
    refine nb_Wg (q_m_passedOf_18 _ _ _ _ _ _ _ _) ?_
    refine nb_Gs ?_
    exact nb_Hu H
