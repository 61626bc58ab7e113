/-! rules, printed by wip/gen -/
theorem w_sc_choice_0 {A l1 Ho : Int} {v2 v3 v4 v5 v6 v7 : nb_V} {M : nb_M} {Q : List nb_V → nb_M → Prop} (W : nb_Lay M) (hA : nb_sc A) (hHo : nb_hs Ho) (hAh : M.1 A 3 = Ho) {cr pe R : Int → Int} (b0_ : 0 ≤ l1 ∧ l1 ≤ 3) (H : nb_W 262 1 [(15, A), (0, l1), (16, A + 14 + 2 * l1), (0, (-2)), (0, 0), (0, 0), v6, v7] [] M Q) :
    nb_W 262 0 [(15, A), (0, l1), v2, v3, v4, v5, v6, v7] [] M Q := by
  replace H := nb_Hw H
  have uhA := hA
  unfold nb_sc at uhA
  have uhHo := hHo
  unfold nb_hs at uhHo
  have E1 : nb_rd M A 1 = A + 2 := W.s1 (A := A) hA
  have N2 : nb_ln M (A + 2) = 4 := W.sn2 (A := A) hA
  have E3 : nb_rd M (A + 2) l1 = A + 14 + 2 * l1 := W.sv (A := A) (i := l1) hA (by omega) (by omega)
  refine nb_Wg (q_sc_choice_0 _ _ _ _ _ _ _ _ _ (by omega) (by rw [E1]; first | done | omega) (by omega) (by rw [E1, N2]; first | done | omega)) ?_
  simp only [E1, E3]
  clear E1 N2 E3
  refine nb_Gr ?_
  exact nb_Hu H

theorem w_sc_choice_1 {A l3 l4 l5 Ho l1 : Int} {v1 v6 v7 : nb_V} {M : nb_M} {Q : List nb_V → nb_M → Prop} (W : nb_Lay M) (hA : nb_sc A) (hHo : nb_hs Ho) (hAh : M.1 A 3 = Ho) {cr pe R : Int → Int} (b0_ : 0 ≤ l1 ∧ l1 ≤ 3) (b1_ : 0 ≤ l5 ∧ l5 ≤ 10) (b2_ : (-2) ≤ l3 ∧ l3 ≤ 9) (H : 0 ≤ M.1 A 4 ∧ M.1 A 4 ≤ 10 ∧ (l5 < M.1 A 4 → (M.1 (A + 4 + l5) 8 = 1 → (M.1 (A + 4 + l5) 3 < M.1 (A + 14 + 2 * l1) 3 → nb_W 262 1 [(15, A), v1, (16, A + 14 + 2 * l1), (0, l3), (0, l4), (0, l5 + 1), (11, A + 4 + l5), v7] [] M Q) ∧ (M.1 (A + 14 + 2 * l1) 3 ≤ M.1 (A + 4 + l5) 3 → (M.1 (A + 14 + 2 * l1) 4 < M.1 (A + 4 + l5) 3 → nb_W 262 1 [(15, A), v1, (16, A + 14 + 2 * l1), (0, l3), (0, l4), (0, l5 + 1), (11, A + 4 + l5), v7] [] M Q) ∧ (M.1 (A + 4 + l5) 3 ≤ M.1 (A + 14 + 2 * l1) 4 → pu_Rw R ∧ pu_G (M.1 (A + 4 + l5)) pe R l5 ∧ pu_V (M.1 (A + 14 + 2 * l1)) (M.1 (A + 14 + 2 * l1 + 1)) cr R l1 ∧ (l3 < 0 → nb_W 262 1 [(15, A), v1, (16, A + 14 + 2 * l1), (0, l5), (0, pu_rk cr pe R l1 l5), (0, l5 + 1), (11, A + 4 + l5), (0, pu_rk cr pe R l1 l5)] [] M Q) ∧ (0 ≤ l3 → (pu_rk cr pe R l1 l5 < l4 → nb_W 262 1 [(15, A), v1, (16, A + 14 + 2 * l1), (0, l5), (0, pu_rk cr pe R l1 l5), (0, l5 + 1), (11, A + 4 + l5), (0, pu_rk cr pe R l1 l5)] [] M Q) ∧ (l4 ≤ pu_rk cr pe R l1 l5 → (pu_rk cr pe R l1 l5 = l4 → (M.1 (A + 4 + l5) 2 < M.1 (A + 4 + l3) 2 → nb_W 262 1 [(15, A), v1, (16, A + 14 + 2 * l1), (0, l5), (0, pu_rk cr pe R l1 l5), (0, l5 + 1), (11, A + 4 + l5), (0, pu_rk cr pe R l1 l5)] [] M Q) ∧ (M.1 (A + 4 + l3) 2 ≤ M.1 (A + 4 + l5) 2 → nb_W 262 1 [(15, A), v1, (16, A + 14 + 2 * l1), (0, l3), (0, l4), (0, l5 + 1), (11, A + 4 + l5), (0, pu_rk cr pe R l1 l5)] [] M Q)) ∧ (pu_rk cr pe R l1 l5 ≠ l4 → nb_W 262 1 [(15, A), v1, (16, A + 14 + 2 * l1), (0, l3), (0, l4), (0, l5 + 1), (11, A + 4 + l5), (0, pu_rk cr pe R l1 l5)] [] M Q)))))) ∧ (M.1 (A + 4 + l5) 8 ≠ 1 → nb_W 262 1 [(15, A), v1, (16, A + 14 + 2 * l1), (0, l3), (0, l4), (0, l5 + 1), (11, A + 4 + l5), v7] [] M Q)) ∧ (M.1 A 4 ≤ l5 → Q [(0, l3)] M)) :
    nb_W 262 1 [(15, A), v1, (16, A + 14 + 2 * l1), (0, l3), (0, l4), (0, l5), v6, v7] [] M Q := by
  replace H := nb_Hw H
  have uhA := hA
  unfold nb_sc at uhA
  have uhHo := hHo
  unfold nb_hs at uhHo
  obtain ⟨p0_, p1_, H⟩ := H
  replace H := nb_Hw H
  have E1 : nb_rd M A 4 = M.1 A 4 := nb_rd_1 _ _ _
  refine nb_Wg (q_sc_choice_1 _ _ _ _ _ _ _ _ _ (by omega)) ?_
  simp only [E1]
  clear E1
  refine nb_Gi (fun c30 => ?_) (fun c30 => ?_)
  · have H := nb_Hw ((nb_Hu H).1 c30)
    refine nb_Gr ?_
    have E2 : nb_rd M A 0 = A + 1 := W.s0 (A := A) hA
    have N3 : nb_ln M (A + 1) = 10 := W.sn1 (A := A) hA
    have E4 : nb_rd M (A + 1) l5 = A + 4 + l5 := W.sg (A := A) (i := l5) hA (by omega) (by omega)
    have E5 : nb_rd M (A + 4 + l5) 8 = M.1 (A + 4 + l5) 8 := nb_rd_1 _ _ _
    refine nb_Wg (q_sc_choice_2 _ _ _ _ _ _ _ _ _ (by omega) (by rw [E2]; first | done | omega) (by omega) (by rw [E2, N3]; first | done | omega) (by rw [E2, E4]; first | done | omega)) ?_
    simp only [E2, E4, E5]
    clear E2 N3 E4 E5
    refine nb_Gi (fun c29 => ?_) (fun c29 => ?_)
    · have H := nb_Hw ((nb_Hu H).1 c29)
      refine nb_Gr ?_
      have E6 : nb_rd M (A + 4 + l5) 3 = M.1 (A + 4 + l5) 3 := nb_rd_1 _ _ _
      have E7 : nb_rd M (A + 14 + 2 * l1) 3 = M.1 (A + 14 + 2 * l1) 3 := nb_rd_1 _ _ _
      refine nb_Wg (q_sc_choice_3 _ _ _ _ _ _ _ _ _ (by omega) (by omega)) ?_
      simp only [E6, E7]
      clear E6 E7
      refine nb_Gi (fun c27 => ?_) (fun c27 => ?_)
      · have H := nb_Hw ((nb_Hu H).1 c27)
        refine nb_Gr ?_
        have E8 : nb_add l5 1 = l5 + 1 := nb_add_eq (by omega) (by omega)
        refine nb_Wg (q_sc_choice_12 _ _ _ _ _ _ _ _ _) ?_
        simp only [E8]
        clear E8
        refine nb_Gr ?_
        exact nb_Hu H
      · have H := nb_Hw ((nb_Hu H).2 (by omega))
        have c27 : M.1 (A + 14 + 2 * l1) 3 ≤ M.1 (A + 4 + l5) 3 := by omega
        refine nb_Gr ?_
        have E9 : nb_rd M (A + 4 + l5) 3 = M.1 (A + 4 + l5) 3 := nb_rd_1 _ _ _
        have E10 : nb_rd M (A + 14 + 2 * l1) 4 = M.1 (A + 14 + 2 * l1) 4 := nb_rd_1 _ _ _
        refine nb_Wg (q_sc_choice_4 _ _ _ _ _ _ _ _ _ (by omega) (by omega)) ?_
        simp only [E9, E10]
        clear E9 E10
        refine nb_Gi (fun c26 => ?_) (fun c26 => ?_)
        · have H := nb_Hw ((nb_Hu H).1 c26)
          refine nb_Gr ?_
          refine nb_Wg (q_sc_choice_5 _ _ _ _ _ _ _ _ _) ?_
          refine nb_Gr ?_
          have E11 : nb_add l5 1 = l5 + 1 := nb_add_eq (by omega) (by omega)
          refine nb_Wg (q_sc_choice_12 _ _ _ _ _ _ _ _ _) ?_
          simp only [E11]
          clear E11
          refine nb_Gr ?_
          exact nb_Hu H
        · have H := nb_Hw ((nb_Hu H).2 (by omega))
          have c26 : M.1 (A + 4 + l5) 3 ≤ M.1 (A + 14 + 2 * l1) 4 := by omega
          refine nb_Gr ?_
          obtain ⟨p0_, p1_, p2_, H⟩ := H
          replace H := nb_Hw H
          refine nb_Wg (q_sc_choice_6 _ _ _ _ _ _ _ _ _ (by omega)) ?_
          rw [show nb_R nb_P 278 0 [(16, A + 14 + 2 * l1), (11, A + 4 + l5), (98, 0)] [] M = some ([(0, pu_rk cr pe R l1 l5)], M) from sp_sv_rank (by omega) (by omega) (by assumption) (by omega) (by omega) (by assumption) (by assumption)]
          refine nb_Gp ?_
          show nb_W 262 7 [(15, A), v1, (16, A + 14 + 2 * l1), (0, l3), (0, l4), (0, l5), (11, A + 4 + l5), v7] [(0, pu_rk cr pe R l1 l5)] M _
          refine nb_Wg (q_sc_choice_7 _ _ _ _ _ _ _ _ _ _) ?_
          refine nb_Gi (fun c25 => ?_) (fun c25 => ?_)
          · have H := nb_Hw ((nb_Hu H).1 c25)
            refine nb_Gr ?_
            refine nb_Wg (q_sc_choice_11 _ _ _ _ _ _ _ _ _) ?_
            refine nb_Gr ?_
            have E12 : nb_add l5 1 = l5 + 1 := nb_add_eq (by omega) (by omega)
            refine nb_Wg (q_sc_choice_12 _ _ _ _ _ _ _ _ _) ?_
            simp only [E12]
            clear E12
            refine nb_Gr ?_
            exact nb_Hu H
          · have H := nb_Hw ((nb_Hu H).2 (by omega))
            have c25 : 0 ≤ l3 := by omega
            refine nb_Gr ?_
            refine nb_Wg (q_sc_choice_8 _ _ _ _ _ _ _ _ _) ?_
            refine nb_Gi (fun c24 => ?_) (fun c24 => ?_)
            · have H := nb_Hw ((nb_Hu H).1 c24)
              refine nb_Gr ?_
              refine nb_Wg (q_sc_choice_11 _ _ _ _ _ _ _ _ _) ?_
              refine nb_Gr ?_
              have E13 : nb_add l5 1 = l5 + 1 := nb_add_eq (by omega) (by omega)
              refine nb_Wg (q_sc_choice_12 _ _ _ _ _ _ _ _ _) ?_
              simp only [E13]
              clear E13
              refine nb_Gr ?_
              exact nb_Hu H
            · have H := nb_Hw ((nb_Hu H).2 (by omega))
              have c24 : l4 ≤ pu_rk cr pe R l1 l5 := by omega
              refine nb_Gr ?_
              refine nb_Wg (q_sc_choice_9 _ _ _ _ _ _ _ _ _) ?_
              refine nb_Gi (fun c23 => ?_) (fun c23 => ?_)
              · have H := nb_Hw ((nb_Hu H).1 c23)
                refine nb_Gr ?_
                have E14 : nb_rd M (A + 4 + l5) 2 = M.1 (A + 4 + l5) 2 := nb_rd_1 _ _ _
                have E15 : nb_rd M A 0 = A + 1 := W.s0 (A := A) hA
                have N16 : nb_ln M (A + 1) = 10 := W.sn1 (A := A) hA
                have E17 : nb_rd M (A + 1) l3 = A + 4 + l3 := W.sg (A := A) (i := l3) hA (by omega) (by omega)
                have E18 : nb_rd M (A + 4 + l3) 2 = M.1 (A + 4 + l3) 2 := nb_rd_1 _ _ _
                refine nb_Wg (q_sc_choice_10 _ _ _ _ _ _ _ _ _ (by omega) (by omega) (by rw [E15]; first | done | omega) (by omega) (by rw [E15, N16]; first | done | omega) (by rw [E15, E17]; first | done | omega)) ?_
                simp only [E14, E15, E17, E18]
                clear E14 E15 N16 E17 E18
                refine nb_Gi (fun c21 => ?_) (fun c21 => ?_)
                · have H := nb_Hw ((nb_Hu H).1 c21)
                  refine nb_Gr ?_
                  refine nb_Wg (q_sc_choice_11 _ _ _ _ _ _ _ _ _) ?_
                  refine nb_Gr ?_
                  have E19 : nb_add l5 1 = l5 + 1 := nb_add_eq (by omega) (by omega)
                  refine nb_Wg (q_sc_choice_12 _ _ _ _ _ _ _ _ _) ?_
                  simp only [E19]
                  clear E19
                  refine nb_Gr ?_
                  exact nb_Hu H
                · have H := nb_Hw ((nb_Hu H).2 (by omega))
                  have c21 : M.1 (A + 4 + l3) 2 ≤ M.1 (A + 4 + l5) 2 := by omega
                  refine nb_Gr ?_
                  have E20 : nb_add l5 1 = l5 + 1 := nb_add_eq (by omega) (by omega)
                  refine nb_Wg (q_sc_choice_12 _ _ _ _ _ _ _ _ _) ?_
                  simp only [E20]
                  clear E20
                  refine nb_Gr ?_
                  exact nb_Hu H
              · have H := nb_Hw ((nb_Hu H).2 (by omega))
                have c23 : pu_rk cr pe R l1 l5 ≠ l4 := by omega
                refine nb_Gr ?_
                have E22 : nb_add l5 1 = l5 + 1 := nb_add_eq (by omega) (by omega)
                refine nb_Wg (q_sc_choice_12 _ _ _ _ _ _ _ _ _) ?_
                simp only [E22]
                clear E22
                refine nb_Gr ?_
                exact nb_Hu H
    · have H := nb_Hw ((nb_Hu H).2 (by omega))
      have c29 : M.1 (A + 4 + l5) 8 ≠ 1 := by omega
      refine nb_Gr ?_
      have E28 : nb_add l5 1 = l5 + 1 := nb_add_eq (by omega) (by omega)
      refine nb_Wg (q_sc_choice_12 _ _ _ _ _ _ _ _ _) ?_
      simp only [E28]
      clear E28
      refine nb_Gr ?_
      exact nb_Hu H
  · have H := nb_Hw ((nb_Hu H).2 (by omega))
    have c30 : M.1 A 4 ≤ l5 := by omega
    refine nb_Gr ?_
    refine nb_Wg (q_sc_choice_13 _ _ _ _ _ _ _ _ _) ?_
    refine nb_Gs ?_
    exact nb_Hu H

theorem w_sc_begin_0 {A l1 l2 l3 l4 Ho : Int} {v5 v6 v7 : nb_V} {M : nb_M} {Q : List nb_V → nb_M → Prop} (W : nb_Lay M) (hA : nb_sc A) (hHo : nb_hs Ho) (hAh : M.1 A 3 = Ho) {r : Int → Int} (hr : pu_Rr r) (hh : pu_Ho M Ho r) (b0_ : 0 ≤ l1 ∧ l1 ≤ 3) (b1_ : 0 ≤ l2 ∧ l2 ≤ 1) (b2_ : 0 ≤ l3 ∧ l3 ≤ 9) (b3_ : 0 ≤ l4 ∧ l4 ≤ 10000) (H : 0 ≤ M.1 (A + 14 + 2 * l1) 5 ∧ M.1 (A + 14 + 2 * l1) 5 ≤ 9 ∧ 0 ≤ M.1 (A + 4 + l3) 3 ∧ M.1 (A + 4 + l3) 3 ≤ 19 ∧ 0 ≤ M.1 (A + 14 + 2 * l1) 2 ∧ M.1 (A + 14 + 2 * l1) 2 ≤ 19 ∧ -2147483648 ≤ (M.1 (A + 14 + 2 * l1) 5) * (if 0 ≤ M.1 (A + 4 + l3) 3 - (M.1 (A + 14 + 2 * l1) 2) then M.1 (A + 4 + l3) 3 - (M.1 (A + 14 + 2 * l1) 2) else -(M.1 (A + 4 + l3) 3 - (M.1 (A + 14 + 2 * l1) 2))) ∧ (M.1 (A + 14 + 2 * l1) 5) * (if 0 ≤ M.1 (A + 4 + l3) 3 - (M.1 (A + 14 + 2 * l1) 2) then M.1 (A + 4 + l3) 3 - (M.1 (A + 14 + 2 * l1) 2) else -(M.1 (A + 4 + l3) 3 - (M.1 (A + 14 + 2 * l1) 2))) ≤ 2147483647 ∧ -2147483648 ≤ l4 + ((M.1 (A + 14 + 2 * l1) 5) * (if 0 ≤ M.1 (A + 4 + l3) 3 - (M.1 (A + 14 + 2 * l1) 2) then M.1 (A + 4 + l3) 3 - (M.1 (A + 14 + 2 * l1) 2) else -(M.1 (A + 4 + l3) 3 - (M.1 (A + 14 + 2 * l1) 2)))) ∧ l4 + ((M.1 (A + 14 + 2 * l1) 5) * (if 0 ≤ M.1 (A + 4 + l3) 3 - (M.1 (A + 14 + 2 * l1) 2) then M.1 (A + 4 + l3) 3 - (M.1 (A + 14 + 2 * l1) 2) else -(M.1 (A + 4 + l3) 3 - (M.1 (A + 14 + 2 * l1) 2)))) ≤ 2147483647 ∧ (-1) ≤ M.1 (A + 14 + 2 * l1) 7 ∧ M.1 (A + 14 + 2 * l1) 7 ≤ 9 ∧ -1 ≤ M.1 (A + 14 + 2 * l1) 7 ∧ M.1 (A + 14 + 2 * l1) 7 < r 5 ∧ 0 ≤ l3 ∧ l3 < r 5 ∧ -2147483648 ≤ l4 + ((M.1 (A + 14 + 2 * l1) 5) * (if 0 ≤ M.1 (A + 4 + l3) 3 - (M.1 (A + 14 + 2 * l1) 2) then M.1 (A + 4 + l3) 3 - (M.1 (A + 14 + 2 * l1) 2) else -(M.1 (A + 4 + l3) 3 - (M.1 (A + 14 + 2 * l1) 2)))) + (pu_tb r (M.1 (A + 14 + 2 * l1) 7) l3) ∧ l4 + ((M.1 (A + 14 + 2 * l1) 5) * (if 0 ≤ M.1 (A + 4 + l3) 3 - (M.1 (A + 14 + 2 * l1) 2) then M.1 (A + 4 + l3) 3 - (M.1 (A + 14 + 2 * l1) 2) else -(M.1 (A + 4 + l3) 3 - (M.1 (A + 14 + 2 * l1) 2)))) + (pu_tb r (M.1 (A + 14 + 2 * l1) 7) l3) ≤ 2147483647 ∧ 0 ≤ M.1 A 6 ∧ M.1 A 6 ≤ 9 ∧ nb_W 264 0 [(15, A), (0, l3), (98, 0)] [] (nb_wr (nb_wr (nb_wr (nb_wr (nb_wr (nb_wr (nb_wr (nb_wr (nb_wr (nb_wr M (A + 4 + l3) 8 2) (A + 4 + l3) 9 l4) (A + 4 + l3) 11 l4) (A + 4 + l3) 12 l1) (A + 4 + l3) 10 (l4 + ((M.1 (A + 14 + 2 * l1) 5) * (if 0 ≤ M.1 (A + 4 + l3) 3 - (M.1 (A + 14 + 2 * l1) 2) then M.1 (A + 4 + l3) 3 - (M.1 (A + 14 + 2 * l1) 2) else -(M.1 (A + 4 + l3) 3 - (M.1 (A + 14 + 2 * l1) 2)))) + (pu_tb r (M.1 (A + 14 + 2 * l1) 7) l3))) (A + 14 + 2 * l1) 2 (M.1 (A + 4 + l3) 3)) (A + 14 + 2 * l1) 7 l3) ((A + 14 + 2 * l1) + 1) l2 (l4 + ((M.1 (A + 14 + 2 * l1) 5) * (if 0 ≤ M.1 (A + 4 + l3) 3 - (M.1 (A + 14 + 2 * l1) 2) then M.1 (A + 4 + l3) 3 - (M.1 (A + 14 + 2 * l1) 2) else -(M.1 (A + 4 + l3) 3 - (M.1 (A + 14 + 2 * l1) 2)))) + (pu_tb r (M.1 (A + 14 + 2 * l1) 7) l3))) (A + 3) (M.1 A 6) l3) A 6 (M.1 A 6 + 1)) (fun r M38 => r = [] ∧ nb_Lay M38 ∧ M38.1 A 3 = Ho ∧ Q [] M38)) :
    nb_W 263 0 [(15, A), (0, l1), (0, l2), (0, l3), (0, l4), v5, v6, v7] [] M Q := by
  replace H := nb_Hw H
  have uhA := hA
  unfold nb_sc at uhA
  have uhHo := hHo
  unfold nb_hs at uhHo
  obtain ⟨p0_, p1_, p2_, p3_, p4_, p5_, H⟩ := H
  replace H := nb_Hw H
  have E1 : nb_rd M A 1 = A + 2 := W.s1 (A := A) hA
  have N2 : nb_ln M (A + 2) = 4 := W.sn2 (A := A) hA
  have E3 : nb_rd M (A + 2) l1 = A + 14 + 2 * l1 := W.sv (A := A) (i := l1) hA (by omega) (by omega)
  have E4 : nb_rd M A 0 = A + 1 := W.s0 (A := A) hA
  have N5 : nb_ln M (A + 1) = 10 := W.sn1 (A := A) hA
  have E6 : nb_rd M (A + 1) l3 = A + 4 + l3 := W.sg (A := A) (i := l3) hA (by omega) (by omega)
  have E7 : nb_rd M (A + 14 + 2 * l1) 5 = M.1 (A + 14 + 2 * l1) 5 := nb_rd_1 _ _ _
  have E8 : nb_rd M (A + 4 + l3) 3 = M.1 (A + 4 + l3) 3 := nb_rd_1 _ _ _
  have E9 : nb_rd M (A + 14 + 2 * l1) 2 = M.1 (A + 14 + 2 * l1) 2 := nb_rd_1 _ _ _
  have E10 : nb_sub (M.1 (A + 4 + l3) 3) (M.1 (A + 14 + 2 * l1) 2) = M.1 (A + 4 + l3) 3 - (M.1 (A + 14 + 2 * l1) 2) := nb_sub_eq (by omega) (by omega)
  have E11 : nb_neg (M.1 (A + 4 + l3) 3 - (M.1 (A + 14 + 2 * l1) 2)) = -(M.1 (A + 4 + l3) 3 - (M.1 (A + 14 + 2 * l1) 2)) := nb_neg_eq (by omega) (by omega)
  refine nb_Wg (q_sc_begin_0 _ _ _ _ _ _ _ _ _ (by omega) (by rw [E1]; first | done | omega) (by omega) (by rw [E1, N2]; first | done | omega) (by rw [E4]; first | done | omega) (by omega) (by rw [E4, N5]; first | done | omega) (by rw [E1, E3]; first | done | omega) (by rw [E4, E6]; first | done | omega)) ?_
  simp only [E1, E3, E4, E6, E7, E8, E9, E10, E11]
  clear E1 N2 E3 E4 N5 E6 E7 E8 E9 E10 E11
  refine nb_Gp ?_
  show nb_W 263 1 [(15, A), (0, l1), (0, l2), (0, l3), (0, l4), (16, A + 14 + 2 * l1), (11, A + 4 + l3), v7] [(0, if 0 ≤ M.1 (A + 4 + l3) 3 - (M.1 (A + 14 + 2 * l1) 2) then M.1 (A + 4 + l3) 3 - (M.1 (A + 14 + 2 * l1) 2) else -(M.1 (A + 4 + l3) 3 - (M.1 (A + 14 + 2 * l1) 2))), (0, M.1 (A + 14 + 2 * l1) 5)] M _
  obtain ⟨p0_, p1_, H⟩ := H
  replace H := nb_Hw H
  have E12 : nb_mul (M.1 (A + 14 + 2 * l1) 5) (if 0 ≤ M.1 (A + 4 + l3) 3 - (M.1 (A + 14 + 2 * l1) 2) then M.1 (A + 4 + l3) 3 - (M.1 (A + 14 + 2 * l1) 2) else -(M.1 (A + 4 + l3) 3 - (M.1 (A + 14 + 2 * l1) 2))) = (M.1 (A + 14 + 2 * l1) 5) * (if 0 ≤ M.1 (A + 4 + l3) 3 - (M.1 (A + 14 + 2 * l1) 2) then M.1 (A + 4 + l3) 3 - (M.1 (A + 14 + 2 * l1) 2) else -(M.1 (A + 4 + l3) 3 - (M.1 (A + 14 + 2 * l1) 2))) := (nb_mul_eq (x := M.1 (A + 14 + 2 * l1) 5) (y := if 0 ≤ M.1 (A + 4 + l3) 3 - (M.1 (A + 14 + 2 * l1) 2) then M.1 (A + 4 + l3) 3 - (M.1 (A + 14 + 2 * l1) 2) else -(M.1 (A + 4 + l3) 3 - (M.1 (A + 14 + 2 * l1) 2))) (by omega) (by omega)).trans (by omega)
  refine nb_Wg (q_sc_begin_1 _ _ _ _ _ _ _ _ _ _ _ (by omega)) ?_
  simp only [E12]
  clear E12
  have W13 : nb_Lay (nb_wr M (A + 4 + l3) 8 2) := W.wr (fun w => (nb_nsg (A := A) (i := l3) hA (by omega) (by omega)))
  refine nb_Gr ?_
  refine nb_Wg (q_sc_begin_2 _ _ _ _ _ _ _ _ _ (by omega)) ?_
  have W14 : nb_Lay (nb_wr (nb_wr M (A + 4 + l3) 8 2) (A + 4 + l3) 9 l4) := W13.wr (fun w => (nb_nsg (A := A) (i := l3) hA (by omega) (by omega)))
  refine nb_Gr ?_
  refine nb_Wg (q_sc_begin_3 _ _ _ _ _ _ _ _ _ (by omega)) ?_
  have W15 : nb_Lay (nb_wr (nb_wr (nb_wr M (A + 4 + l3) 8 2) (A + 4 + l3) 9 l4) (A + 4 + l3) 11 l4) := W14.wr (fun w => (nb_nsg (A := A) (i := l3) hA (by omega) (by omega)))
  refine nb_Gr ?_
  refine nb_Wg (q_sc_begin_4 _ _ _ _ _ _ _ _ _ (by omega)) ?_
  have W16 : nb_Lay (nb_wr (nb_wr (nb_wr (nb_wr M (A + 4 + l3) 8 2) (A + 4 + l3) 9 l4) (A + 4 + l3) 11 l4) (A + 4 + l3) 12 l1) := W15.wr (fun w => (nb_nsg (A := A) (i := l3) hA (by omega) (by omega)))
  refine nb_Gr ?_
  obtain ⟨p0_, p1_, p2_, p3_, p4_, p5_, p6_, p7_, H⟩ := H
  replace H := nb_Hw H
  have E17 : nb_add l4 ((M.1 (A + 14 + 2 * l1) 5) * (if 0 ≤ M.1 (A + 4 + l3) 3 - (M.1 (A + 14 + 2 * l1) 2) then M.1 (A + 4 + l3) 3 - (M.1 (A + 14 + 2 * l1) 2) else -(M.1 (A + 4 + l3) 3 - (M.1 (A + 14 + 2 * l1) 2)))) = l4 + ((M.1 (A + 14 + 2 * l1) 5) * (if 0 ≤ M.1 (A + 4 + l3) 3 - (M.1 (A + 14 + 2 * l1) 2) then M.1 (A + 4 + l3) 3 - (M.1 (A + 14 + 2 * l1) 2) else -(M.1 (A + 4 + l3) 3 - (M.1 (A + 14 + 2 * l1) 2)))) := nb_add_eq (by omega) (by omega)
  have E18 : nb_rd (nb_wr (nb_wr (nb_wr (nb_wr M (A + 4 + l3) 8 2) (A + 4 + l3) 9 l4) (A + 4 + l3) 11 l4) (A + 4 + l3) 12 l1) A 3 = Ho := nb_rdw (Or.inr (by decide)) (nb_rdw (Or.inr (by decide)) (nb_rdw (Or.inr (by decide)) (nb_rdw (Or.inr (by decide)) (hAh))))
  have E19 : nb_rd (nb_wr (nb_wr (nb_wr (nb_wr M (A + 4 + l3) 8 2) (A + 4 + l3) 9 l4) (A + 4 + l3) 11 l4) (A + 4 + l3) 12 l1) (A + 14 + 2 * l1) 7 = M.1 (A + 14 + 2 * l1) 7 := nb_rdw (Or.inr (by decide)) (nb_rdw (Or.inr (by decide)) (nb_rdw (Or.inr (by decide)) (nb_rdw (Or.inr (by decide)) (nb_rd_1 _ _ _))))
  refine nb_Wg (q_sc_begin_5 _ _ _ _ _ _ _ _ _ (by omega) (by omega) (by rw [E18]; first | done | omega)) ?_
  simp only [E17, E18, E19]
  clear E17 E18 E19
  rw [show nb_R nb_P 220 0 [(12, Ho), (0, M.1 (A + 14 + 2 * l1) 7), (0, l3), (98, 0), (98, 0), (98, 0), (98, 0)] [] (nb_wr (nb_wr (nb_wr (nb_wr M (A + 4 + l3) 8 2) (A + 4 + l3) 9 l4) (A + 4 + l3) 11 l4) (A + 4 + l3) 12 l1) = some ([(0, pu_tb r (M.1 (A + 14 + 2 * l1) 7) l3)], nb_wr (nb_wr (nb_wr (nb_wr M (A + 4 + l3) 8 2) (A + 4 + l3) 9 l4) (A + 4 + l3) 11 l4) (A + 4 + l3) 12 l1) from sp_h_timeBehind W16 hHo hr (pu_Ho_wr (pu_Ho_wr (pu_Ho_wr (pu_Ho_wr hh hr (by omega)) hr (by omega)) hr (by omega)) hr (by omega)) (by omega) (by omega)]
  refine nb_Gp ?_
  show nb_W 263 6 [(15, A), (0, l1), (0, l2), (0, l3), (0, l4), (16, A + 14 + 2 * l1), (11, A + 4 + l3), (0, (M.1 (A + 14 + 2 * l1) 5) * (if 0 ≤ M.1 (A + 4 + l3) 3 - (M.1 (A + 14 + 2 * l1) 2) then M.1 (A + 4 + l3) 3 - (M.1 (A + 14 + 2 * l1) 2) else -(M.1 (A + 4 + l3) 3 - (M.1 (A + 14 + 2 * l1) 2))))] [(0, pu_tb r (M.1 (A + 14 + 2 * l1) 7) l3), (0, l4 + ((M.1 (A + 14 + 2 * l1) 5) * (if 0 ≤ M.1 (A + 4 + l3) 3 - (M.1 (A + 14 + 2 * l1) 2) then M.1 (A + 4 + l3) 3 - (M.1 (A + 14 + 2 * l1) 2) else -(M.1 (A + 4 + l3) 3 - (M.1 (A + 14 + 2 * l1) 2))))), (11, A + 4 + l3)] (nb_wr (nb_wr (nb_wr (nb_wr M (A + 4 + l3) 8 2) (A + 4 + l3) 9 l4) (A + 4 + l3) 11 l4) (A + 4 + l3) 12 l1) _
  obtain ⟨p0_, p1_, H⟩ := H
  replace H := nb_Hw H
  have E20 : nb_add (l4 + ((M.1 (A + 14 + 2 * l1) 5) * (if 0 ≤ M.1 (A + 4 + l3) 3 - (M.1 (A + 14 + 2 * l1) 2) then M.1 (A + 4 + l3) 3 - (M.1 (A + 14 + 2 * l1) 2) else -(M.1 (A + 4 + l3) 3 - (M.1 (A + 14 + 2 * l1) 2))))) (pu_tb r (M.1 (A + 14 + 2 * l1) 7) l3) = l4 + ((M.1 (A + 14 + 2 * l1) 5) * (if 0 ≤ M.1 (A + 4 + l3) 3 - (M.1 (A + 14 + 2 * l1) 2) then M.1 (A + 4 + l3) 3 - (M.1 (A + 14 + 2 * l1) 2) else -(M.1 (A + 4 + l3) 3 - (M.1 (A + 14 + 2 * l1) 2)))) + (pu_tb r (M.1 (A + 14 + 2 * l1) 7) l3) := nb_add_eq (by omega) (by omega)
  refine nb_Wg (q_sc_begin_6 _ _ _ _ _ _ _ _ _ _ _ _ (by omega)) ?_
  simp only [E20]
  clear E20
  have W21 : nb_Lay (nb_wr (nb_wr (nb_wr (nb_wr (nb_wr M (A + 4 + l3) 8 2) (A + 4 + l3) 9 l4) (A + 4 + l3) 11 l4) (A + 4 + l3) 12 l1) (A + 4 + l3) 10 (l4 + ((M.1 (A + 14 + 2 * l1) 5) * (if 0 ≤ M.1 (A + 4 + l3) 3 - (M.1 (A + 14 + 2 * l1) 2) then M.1 (A + 4 + l3) 3 - (M.1 (A + 14 + 2 * l1) 2) else -(M.1 (A + 4 + l3) 3 - (M.1 (A + 14 + 2 * l1) 2)))) + (pu_tb r (M.1 (A + 14 + 2 * l1) 7) l3))) := W16.wr (fun w => (nb_nsg (A := A) (i := l3) hA (by omega) (by omega)))
  refine nb_Gr ?_
  have E22 : nb_rd (nb_wr (nb_wr (nb_wr (nb_wr (nb_wr M (A + 4 + l3) 8 2) (A + 4 + l3) 9 l4) (A + 4 + l3) 11 l4) (A + 4 + l3) 12 l1) (A + 4 + l3) 10 (l4 + ((M.1 (A + 14 + 2 * l1) 5) * (if 0 ≤ M.1 (A + 4 + l3) 3 - (M.1 (A + 14 + 2 * l1) 2) then M.1 (A + 4 + l3) 3 - (M.1 (A + 14 + 2 * l1) 2) else -(M.1 (A + 4 + l3) 3 - (M.1 (A + 14 + 2 * l1) 2)))) + (pu_tb r (M.1 (A + 14 + 2 * l1) 7) l3))) (A + 4 + l3) 3 = M.1 (A + 4 + l3) 3 := nb_rdw (Or.inr (by decide)) (nb_rdw (Or.inr (by decide)) (nb_rdw (Or.inr (by decide)) (nb_rdw (Or.inr (by decide)) (nb_rdw (Or.inr (by decide)) (nb_rd_1 _ _ _)))))
  refine nb_Wg (q_sc_begin_7 _ _ _ _ _ _ _ _ _ (by omega) (by omega)) ?_
  simp only [E22]
  clear E22
  have W23 : nb_Lay (nb_wr (nb_wr (nb_wr (nb_wr (nb_wr (nb_wr M (A + 4 + l3) 8 2) (A + 4 + l3) 9 l4) (A + 4 + l3) 11 l4) (A + 4 + l3) 12 l1) (A + 4 + l3) 10 (l4 + ((M.1 (A + 14 + 2 * l1) 5) * (if 0 ≤ M.1 (A + 4 + l3) 3 - (M.1 (A + 14 + 2 * l1) 2) then M.1 (A + 4 + l3) 3 - (M.1 (A + 14 + 2 * l1) 2) else -(M.1 (A + 4 + l3) 3 - (M.1 (A + 14 + 2 * l1) 2)))) + (pu_tb r (M.1 (A + 14 + 2 * l1) 7) l3))) (A + 14 + 2 * l1) 2 (M.1 (A + 4 + l3) 3)) := W21.wr (fun w => (nb_nsv (A := A) (i := l1) hA (by omega) (by omega) (by omega)))
  refine nb_Gr ?_
  refine nb_Wg (q_sc_begin_8 _ _ _ _ _ _ _ _ _ (by omega)) ?_
  have W24 : nb_Lay (nb_wr (nb_wr (nb_wr (nb_wr (nb_wr (nb_wr (nb_wr M (A + 4 + l3) 8 2) (A + 4 + l3) 9 l4) (A + 4 + l3) 11 l4) (A + 4 + l3) 12 l1) (A + 4 + l3) 10 (l4 + ((M.1 (A + 14 + 2 * l1) 5) * (if 0 ≤ M.1 (A + 4 + l3) 3 - (M.1 (A + 14 + 2 * l1) 2) then M.1 (A + 4 + l3) 3 - (M.1 (A + 14 + 2 * l1) 2) else -(M.1 (A + 4 + l3) 3 - (M.1 (A + 14 + 2 * l1) 2)))) + (pu_tb r (M.1 (A + 14 + 2 * l1) 7) l3))) (A + 14 + 2 * l1) 2 (M.1 (A + 4 + l3) 3)) (A + 14 + 2 * l1) 7 l3) := W23.wr (fun w => (nb_nsv (A := A) (i := l1) hA (by omega) (by omega) (by omega)))
  refine nb_Gr ?_
  have E25 : nb_rd (nb_wr (nb_wr (nb_wr (nb_wr (nb_wr (nb_wr (nb_wr M (A + 4 + l3) 8 2) (A + 4 + l3) 9 l4) (A + 4 + l3) 11 l4) (A + 4 + l3) 12 l1) (A + 4 + l3) 10 (l4 + ((M.1 (A + 14 + 2 * l1) 5) * (if 0 ≤ M.1 (A + 4 + l3) 3 - (M.1 (A + 14 + 2 * l1) 2) then M.1 (A + 4 + l3) 3 - (M.1 (A + 14 + 2 * l1) 2) else -(M.1 (A + 4 + l3) 3 - (M.1 (A + 14 + 2 * l1) 2)))) + (pu_tb r (M.1 (A + 14 + 2 * l1) 7) l3))) (A + 14 + 2 * l1) 2 (M.1 (A + 4 + l3) 3)) (A + 14 + 2 * l1) 7 l3) (A + 14 + 2 * l1) 0 = (A + 14 + 2 * l1) + 1 := W24.sv0 (A := A) (i := l1) hA (by omega) (by omega)
  have E26 : nb_rd (nb_wr (nb_wr (nb_wr (nb_wr (nb_wr (nb_wr (nb_wr M (A + 4 + l3) 8 2) (A + 4 + l3) 9 l4) (A + 4 + l3) 11 l4) (A + 4 + l3) 12 l1) (A + 4 + l3) 10 (l4 + ((M.1 (A + 14 + 2 * l1) 5) * (if 0 ≤ M.1 (A + 4 + l3) 3 - (M.1 (A + 14 + 2 * l1) 2) then M.1 (A + 4 + l3) 3 - (M.1 (A + 14 + 2 * l1) 2) else -(M.1 (A + 4 + l3) 3 - (M.1 (A + 14 + 2 * l1) 2)))) + (pu_tb r (M.1 (A + 14 + 2 * l1) 7) l3))) (A + 14 + 2 * l1) 2 (M.1 (A + 4 + l3) 3)) (A + 14 + 2 * l1) 7 l3) (A + 4 + l3) 10 = l4 + ((M.1 (A + 14 + 2 * l1) 5) * (if 0 ≤ M.1 (A + 4 + l3) 3 - (M.1 (A + 14 + 2 * l1) 2) then M.1 (A + 4 + l3) 3 - (M.1 (A + 14 + 2 * l1) 2) else -(M.1 (A + 4 + l3) 3 - (M.1 (A + 14 + 2 * l1) 2)))) + (pu_tb r (M.1 (A + 14 + 2 * l1) 7) l3) := nb_rdw (Or.inr (by decide)) (nb_rdw (Or.inr (by decide)) (nb_rd_same _ _ _ _))
  have N27 : nb_ln (nb_wr (nb_wr (nb_wr (nb_wr (nb_wr (nb_wr (nb_wr M (A + 4 + l3) 8 2) (A + 4 + l3) 9 l4) (A + 4 + l3) 11 l4) (A + 4 + l3) 12 l1) (A + 4 + l3) 10 (l4 + ((M.1 (A + 14 + 2 * l1) 5) * (if 0 ≤ M.1 (A + 4 + l3) 3 - (M.1 (A + 14 + 2 * l1) 2) then M.1 (A + 4 + l3) 3 - (M.1 (A + 14 + 2 * l1) 2) else -(M.1 (A + 4 + l3) 3 - (M.1 (A + 14 + 2 * l1) 2)))) + (pu_tb r (M.1 (A + 14 + 2 * l1) 7) l3))) (A + 14 + 2 * l1) 2 (M.1 (A + 4 + l3) 3)) (A + 14 + 2 * l1) 7 l3) ((A + 14 + 2 * l1) + 1) = 2 := W24.snf (A := A) (i := l1) hA (by omega) (by omega)
  refine nb_Wg (q_sc_begin_9 _ _ _ _ _ _ _ _ _ (by omega) (by omega) (by rw [E25]; first | done | omega) (by rw [E25]; first | done | omega) (by omega) (by rw [E25, N27]; first | done | omega)) ?_
  simp only [E25, E26]
  clear E25 E26 N27
  have W28 : nb_Lay (nb_wr (nb_wr (nb_wr (nb_wr (nb_wr (nb_wr (nb_wr (nb_wr M (A + 4 + l3) 8 2) (A + 4 + l3) 9 l4) (A + 4 + l3) 11 l4) (A + 4 + l3) 12 l1) (A + 4 + l3) 10 (l4 + ((M.1 (A + 14 + 2 * l1) 5) * (if 0 ≤ M.1 (A + 4 + l3) 3 - (M.1 (A + 14 + 2 * l1) 2) then M.1 (A + 4 + l3) 3 - (M.1 (A + 14 + 2 * l1) 2) else -(M.1 (A + 4 + l3) 3 - (M.1 (A + 14 + 2 * l1) 2)))) + (pu_tb r (M.1 (A + 14 + 2 * l1) 7) l3))) (A + 14 + 2 * l1) 2 (M.1 (A + 4 + l3) 3)) (A + 14 + 2 * l1) 7 l3) ((A + 14 + 2 * l1) + 1) l2 (l4 + ((M.1 (A + 14 + 2 * l1) 5) * (if 0 ≤ M.1 (A + 4 + l3) 3 - (M.1 (A + 14 + 2 * l1) 2) then M.1 (A + 4 + l3) 3 - (M.1 (A + 14 + 2 * l1) 2) else -(M.1 (A + 4 + l3) 3 - (M.1 (A + 14 + 2 * l1) 2)))) + (pu_tb r (M.1 (A + 14 + 2 * l1) 7) l3))) := W24.wr (fun w => (nb_nsf (A := A) (i := l1) hA (by omega) (by omega)))
  refine nb_Gr ?_
  obtain ⟨p0_, p1_, H⟩ := H
  replace H := nb_Hw H
  have E29 : nb_rd (nb_wr (nb_wr (nb_wr (nb_wr (nb_wr (nb_wr (nb_wr (nb_wr M (A + 4 + l3) 8 2) (A + 4 + l3) 9 l4) (A + 4 + l3) 11 l4) (A + 4 + l3) 12 l1) (A + 4 + l3) 10 (l4 + ((M.1 (A + 14 + 2 * l1) 5) * (if 0 ≤ M.1 (A + 4 + l3) 3 - (M.1 (A + 14 + 2 * l1) 2) then M.1 (A + 4 + l3) 3 - (M.1 (A + 14 + 2 * l1) 2) else -(M.1 (A + 4 + l3) 3 - (M.1 (A + 14 + 2 * l1) 2)))) + (pu_tb r (M.1 (A + 14 + 2 * l1) 7) l3))) (A + 14 + 2 * l1) 2 (M.1 (A + 4 + l3) 3)) (A + 14 + 2 * l1) 7 l3) ((A + 14 + 2 * l1) + 1) l2 (l4 + ((M.1 (A + 14 + 2 * l1) 5) * (if 0 ≤ M.1 (A + 4 + l3) 3 - (M.1 (A + 14 + 2 * l1) 2) then M.1 (A + 4 + l3) 3 - (M.1 (A + 14 + 2 * l1) 2) else -(M.1 (A + 4 + l3) 3 - (M.1 (A + 14 + 2 * l1) 2)))) + (pu_tb r (M.1 (A + 14 + 2 * l1) 7) l3))) A 6 = M.1 A 6 := nb_rdw (Or.inl (by omega)) (nb_rdw (Or.inr (by decide)) (nb_rdw (Or.inr (by decide)) (nb_rdw (Or.inr (by decide)) (nb_rdw (Or.inr (by decide)) (nb_rdw (Or.inr (by decide)) (nb_rdw (Or.inr (by decide)) (nb_rdw (Or.inr (by decide)) (nb_rd_1 _ _ _))))))))
  refine nb_Wg (q_sc_begin_10 _ _ _ _ _ _ _ _ _ (by omega)) ?_
  simp only [E29]
  clear E29
  refine nb_Gt (by omega) ?_
  refine nb_Gr ?_
  have E30 : nb_rd (nb_wr (nb_wr (nb_wr (nb_wr (nb_wr (nb_wr (nb_wr (nb_wr M (A + 4 + l3) 8 2) (A + 4 + l3) 9 l4) (A + 4 + l3) 11 l4) (A + 4 + l3) 12 l1) (A + 4 + l3) 10 (l4 + ((M.1 (A + 14 + 2 * l1) 5) * (if 0 ≤ M.1 (A + 4 + l3) 3 - (M.1 (A + 14 + 2 * l1) 2) then M.1 (A + 4 + l3) 3 - (M.1 (A + 14 + 2 * l1) 2) else -(M.1 (A + 4 + l3) 3 - (M.1 (A + 14 + 2 * l1) 2)))) + (pu_tb r (M.1 (A + 14 + 2 * l1) 7) l3))) (A + 14 + 2 * l1) 2 (M.1 (A + 4 + l3) 3)) (A + 14 + 2 * l1) 7 l3) ((A + 14 + 2 * l1) + 1) l2 (l4 + ((M.1 (A + 14 + 2 * l1) 5) * (if 0 ≤ M.1 (A + 4 + l3) 3 - (M.1 (A + 14 + 2 * l1) 2) then M.1 (A + 4 + l3) 3 - (M.1 (A + 14 + 2 * l1) 2) else -(M.1 (A + 4 + l3) 3 - (M.1 (A + 14 + 2 * l1) 2)))) + (pu_tb r (M.1 (A + 14 + 2 * l1) 7) l3))) A 2 = A + 3 := W28.s2 (A := A) hA
  have E31 : nb_rd (nb_wr (nb_wr (nb_wr (nb_wr (nb_wr (nb_wr (nb_wr (nb_wr M (A + 4 + l3) 8 2) (A + 4 + l3) 9 l4) (A + 4 + l3) 11 l4) (A + 4 + l3) 12 l1) (A + 4 + l3) 10 (l4 + ((M.1 (A + 14 + 2 * l1) 5) * (if 0 ≤ M.1 (A + 4 + l3) 3 - (M.1 (A + 14 + 2 * l1) 2) then M.1 (A + 4 + l3) 3 - (M.1 (A + 14 + 2 * l1) 2) else -(M.1 (A + 4 + l3) 3 - (M.1 (A + 14 + 2 * l1) 2)))) + (pu_tb r (M.1 (A + 14 + 2 * l1) 7) l3))) (A + 14 + 2 * l1) 2 (M.1 (A + 4 + l3) 3)) (A + 14 + 2 * l1) 7 l3) ((A + 14 + 2 * l1) + 1) l2 (l4 + ((M.1 (A + 14 + 2 * l1) 5) * (if 0 ≤ M.1 (A + 4 + l3) 3 - (M.1 (A + 14 + 2 * l1) 2) then M.1 (A + 4 + l3) 3 - (M.1 (A + 14 + 2 * l1) 2) else -(M.1 (A + 4 + l3) 3 - (M.1 (A + 14 + 2 * l1) 2)))) + (pu_tb r (M.1 (A + 14 + 2 * l1) 7) l3))) A 6 = M.1 A 6 := nb_rdw (Or.inl (by omega)) (nb_rdw (Or.inr (by decide)) (nb_rdw (Or.inr (by decide)) (nb_rdw (Or.inr (by decide)) (nb_rdw (Or.inr (by decide)) (nb_rdw (Or.inr (by decide)) (nb_rdw (Or.inr (by decide)) (nb_rdw (Or.inr (by decide)) (nb_rd_1 _ _ _))))))))
  have N32 : nb_ln (nb_wr (nb_wr (nb_wr (nb_wr (nb_wr (nb_wr (nb_wr (nb_wr M (A + 4 + l3) 8 2) (A + 4 + l3) 9 l4) (A + 4 + l3) 11 l4) (A + 4 + l3) 12 l1) (A + 4 + l3) 10 (l4 + ((M.1 (A + 14 + 2 * l1) 5) * (if 0 ≤ M.1 (A + 4 + l3) 3 - (M.1 (A + 14 + 2 * l1) 2) then M.1 (A + 4 + l3) 3 - (M.1 (A + 14 + 2 * l1) 2) else -(M.1 (A + 4 + l3) 3 - (M.1 (A + 14 + 2 * l1) 2)))) + (pu_tb r (M.1 (A + 14 + 2 * l1) 7) l3))) (A + 14 + 2 * l1) 2 (M.1 (A + 4 + l3) 3)) (A + 14 + 2 * l1) 7 l3) ((A + 14 + 2 * l1) + 1) l2 (l4 + ((M.1 (A + 14 + 2 * l1) 5) * (if 0 ≤ M.1 (A + 4 + l3) 3 - (M.1 (A + 14 + 2 * l1) 2) then M.1 (A + 4 + l3) 3 - (M.1 (A + 14 + 2 * l1) 2) else -(M.1 (A + 4 + l3) 3 - (M.1 (A + 14 + 2 * l1) 2)))) + (pu_tb r (M.1 (A + 14 + 2 * l1) 7) l3))) (A + 3) = 10 := W28.sn3 (A := A) hA
  refine nb_Wg (q_sc_begin_11 _ _ _ _ _ _ _ _ _ (by omega) (by rw [E30]; first | done | omega) (by rw [E30]; first | done | omega) (by rw [E31]; first | done | omega) (by rw [E31, E30, N32]; first | done | omega)) ?_
  simp only [E30, E31]
  clear E30 E31 N32
  have W33 : nb_Lay (nb_wr (nb_wr (nb_wr (nb_wr (nb_wr (nb_wr (nb_wr (nb_wr (nb_wr M (A + 4 + l3) 8 2) (A + 4 + l3) 9 l4) (A + 4 + l3) 11 l4) (A + 4 + l3) 12 l1) (A + 4 + l3) 10 (l4 + ((M.1 (A + 14 + 2 * l1) 5) * (if 0 ≤ M.1 (A + 4 + l3) 3 - (M.1 (A + 14 + 2 * l1) 2) then M.1 (A + 4 + l3) 3 - (M.1 (A + 14 + 2 * l1) 2) else -(M.1 (A + 4 + l3) 3 - (M.1 (A + 14 + 2 * l1) 2)))) + (pu_tb r (M.1 (A + 14 + 2 * l1) 7) l3))) (A + 14 + 2 * l1) 2 (M.1 (A + 4 + l3) 3)) (A + 14 + 2 * l1) 7 l3) ((A + 14 + 2 * l1) + 1) l2 (l4 + ((M.1 (A + 14 + 2 * l1) 5) * (if 0 ≤ M.1 (A + 4 + l3) 3 - (M.1 (A + 14 + 2 * l1) 2) then M.1 (A + 4 + l3) 3 - (M.1 (A + 14 + 2 * l1) 2) else -(M.1 (A + 4 + l3) 3 - (M.1 (A + 14 + 2 * l1) 2)))) + (pu_tb r (M.1 (A + 14 + 2 * l1) 7) l3))) (A + 3) (M.1 A 6) l3) := W28.wr (fun w => (nb_nsr (A := A) hA))
  refine nb_Gr ?_
  have E34 : nb_rd (nb_wr (nb_wr (nb_wr (nb_wr (nb_wr (nb_wr (nb_wr (nb_wr (nb_wr M (A + 4 + l3) 8 2) (A + 4 + l3) 9 l4) (A + 4 + l3) 11 l4) (A + 4 + l3) 12 l1) (A + 4 + l3) 10 (l4 + ((M.1 (A + 14 + 2 * l1) 5) * (if 0 ≤ M.1 (A + 4 + l3) 3 - (M.1 (A + 14 + 2 * l1) 2) then M.1 (A + 4 + l3) 3 - (M.1 (A + 14 + 2 * l1) 2) else -(M.1 (A + 4 + l3) 3 - (M.1 (A + 14 + 2 * l1) 2)))) + (pu_tb r (M.1 (A + 14 + 2 * l1) 7) l3))) (A + 14 + 2 * l1) 2 (M.1 (A + 4 + l3) 3)) (A + 14 + 2 * l1) 7 l3) ((A + 14 + 2 * l1) + 1) l2 (l4 + ((M.1 (A + 14 + 2 * l1) 5) * (if 0 ≤ M.1 (A + 4 + l3) 3 - (M.1 (A + 14 + 2 * l1) 2) then M.1 (A + 4 + l3) 3 - (M.1 (A + 14 + 2 * l1) 2) else -(M.1 (A + 4 + l3) 3 - (M.1 (A + 14 + 2 * l1) 2)))) + (pu_tb r (M.1 (A + 14 + 2 * l1) 7) l3))) (A + 3) (M.1 A 6) l3) A 6 = M.1 A 6 := nb_rdw (Or.inl (by omega)) (nb_rdw (Or.inl (by omega)) (nb_rdw (Or.inr (by decide)) (nb_rdw (Or.inr (by decide)) (nb_rdw (Or.inr (by decide)) (nb_rdw (Or.inr (by decide)) (nb_rdw (Or.inr (by decide)) (nb_rdw (Or.inr (by decide)) (nb_rdw (Or.inr (by decide)) (nb_rd_1 _ _ _)))))))))
  have E35 : nb_add (M.1 A 6) 1 = M.1 A 6 + 1 := nb_add_eq (by omega) (by omega)
  refine nb_Wg (q_sc_begin_12 _ _ _ _ _ _ _ _ _ (by omega)) ?_
  simp only [E34, E35]
  clear E34 E35
  have W36 : nb_Lay (nb_wr (nb_wr (nb_wr (nb_wr (nb_wr (nb_wr (nb_wr (nb_wr (nb_wr (nb_wr M (A + 4 + l3) 8 2) (A + 4 + l3) 9 l4) (A + 4 + l3) 11 l4) (A + 4 + l3) 12 l1) (A + 4 + l3) 10 (l4 + ((M.1 (A + 14 + 2 * l1) 5) * (if 0 ≤ M.1 (A + 4 + l3) 3 - (M.1 (A + 14 + 2 * l1) 2) then M.1 (A + 4 + l3) 3 - (M.1 (A + 14 + 2 * l1) 2) else -(M.1 (A + 4 + l3) 3 - (M.1 (A + 14 + 2 * l1) 2)))) + (pu_tb r (M.1 (A + 14 + 2 * l1) 7) l3))) (A + 14 + 2 * l1) 2 (M.1 (A + 4 + l3) 3)) (A + 14 + 2 * l1) 7 l3) ((A + 14 + 2 * l1) + 1) l2 (l4 + ((M.1 (A + 14 + 2 * l1) 5) * (if 0 ≤ M.1 (A + 4 + l3) 3 - (M.1 (A + 14 + 2 * l1) 2) then M.1 (A + 4 + l3) 3 - (M.1 (A + 14 + 2 * l1) 2) else -(M.1 (A + 4 + l3) 3 - (M.1 (A + 14 + 2 * l1) 2)))) + (pu_tb r (M.1 (A + 14 + 2 * l1) 7) l3))) (A + 3) (M.1 A 6) l3) A 6 (M.1 A 6 + 1)) := W33.wr (fun w => (nb_nss (A := A) hA (by omega)))
  refine nb_Gr ?_
  refine nb_Wg (q_sc_begin_13 _ _ _ _ _ _ _ _ _ (by omega)) ?_
  refine nb_Gb ?_
  refine nb_W.imp (nb_Hu H) (fun r M38 H => ?_)
  obtain ⟨rfl, W39, g40, H⟩ := H
  replace H := nb_Hw H
  show nb_W 263 14 [(15, A), (0, l1), (0, l2), (0, l3), (0, l4), (16, A + 14 + 2 * l1), (11, A + 4 + l3), (0, (M.1 (A + 14 + 2 * l1) 5) * (if 0 ≤ M.1 (A + 4 + l3) 3 - (M.1 (A + 14 + 2 * l1) 2) then M.1 (A + 4 + l3) 3 - (M.1 (A + 14 + 2 * l1) 2) else -(M.1 (A + 4 + l3) 3 - (M.1 (A + 14 + 2 * l1) 2))))] [] M38 _
  refine nb_Wg (q_sc_begin_14 _ _ _ _ _ _ _ _ _) ?_
  refine nb_Gs ?_
  exact nb_Hu H

theorem w_sc_notePassed_0 {A l1 Ho : Int} {v2 : nb_V} {M : nb_M} {Q : List nb_V → nb_M → Prop} (W : nb_Lay M) (hA : nb_sc A) (hHo : nb_hs Ho) (hAh : M.1 A 3 = Ho) (b0_ : 0 ≤ l1 ∧ l1 ≤ 9) (H : nb_W 264 1 [(15, A), (0, l1), (0, 0)] [] M Q) :
    nb_W 264 0 [(15, A), (0, l1), v2] [] M Q := by
  replace H := nb_Hw H
  have uhA := hA
  unfold nb_sc at uhA
  have uhHo := hHo
  unfold nb_hs at uhHo
  refine nb_Wg (q_sc_notePassed_0 _ _ _ _) ?_
  refine nb_Gr ?_
  exact nb_Hu H

theorem w_sc_notePassed_1 {A l1 l2 Ho : Int} {M : nb_M} {Q : List nb_V → nb_M → Prop} (W : nb_Lay M) (hA : nb_sc A) (hHo : nb_hs Ho) (hAh : M.1 A 3 = Ho) (b0_ : 0 ≤ l1 ∧ l1 ≤ 9) (b1_ : 0 ≤ l2 ∧ l2 ≤ 10) (H : 0 ≤ M.1 A 4 ∧ M.1 A 4 ≤ 10 ∧ (l2 < M.1 A 4 → (M.1 (A + 4 + l2) 8 = 1 → (M.1 (Ho + 20 + l2) 2 < M.1 (Ho + 20 + l1) 2 → nb_W 264 1 [(15, A), (0, l1), (0, l2 + 1)] [] (nb_wr (nb_wr M (A + 4 + l2) 13 (nb_or (M.1 (A + 4 + l2) 13) (nb_shl 1 l1))) (A + 4 + l1) 14 (nb_or (M.1 (A + 4 + l1) 14) (nb_shl 1 l2))) Q) ∧ (M.1 (Ho + 20 + l1) 2 ≤ M.1 (Ho + 20 + l2) 2 → (M.1 (Ho + 20 + l2) 2 = M.1 (Ho + 20 + l1) 2 → (l2 < l1 → nb_W 264 1 [(15, A), (0, l1), (0, l2 + 1)] [] (nb_wr (nb_wr M (A + 4 + l2) 13 (nb_or (M.1 (A + 4 + l2) 13) (nb_shl 1 l1))) (A + 4 + l1) 14 (nb_or (M.1 (A + 4 + l1) 14) (nb_shl 1 l2))) Q) ∧ (l1 ≤ l2 → nb_W 264 1 [(15, A), (0, l1), (0, l2 + 1)] [] M Q)) ∧ (M.1 (Ho + 20 + l2) 2 ≠ M.1 (Ho + 20 + l1) 2 → nb_W 264 1 [(15, A), (0, l1), (0, l2 + 1)] [] M Q))) ∧ (M.1 (A + 4 + l2) 8 ≠ 1 → nb_W 264 1 [(15, A), (0, l1), (0, l2 + 1)] [] M Q)) ∧ (M.1 A 4 ≤ l2 → Q [] M)) :
    nb_W 264 1 [(15, A), (0, l1), (0, l2)] [] M Q := by
  replace H := nb_Hw H
  have uhA := hA
  unfold nb_sc at uhA
  have uhHo := hHo
  unfold nb_hs at uhHo
  obtain ⟨p0_, p1_, H⟩ := H
  replace H := nb_Hw H
  have E1 : nb_rd M A 4 = M.1 A 4 := nb_rd_1 _ _ _
  refine nb_Wg (q_sc_notePassed_1 _ _ _ _ (by omega)) ?_
  simp only [E1]
  clear E1
  refine nb_Gi (fun c48 => ?_) (fun c48 => ?_)
  · have H := nb_Hw ((nb_Hu H).1 c48)
    refine nb_Gr ?_
    have E2 : nb_rd M A 0 = A + 1 := W.s0 (A := A) hA
    have N3 : nb_ln M (A + 1) = 10 := W.sn1 (A := A) hA
    have E4 : nb_rd M (A + 1) l2 = A + 4 + l2 := W.sg (A := A) (i := l2) hA (by omega) (by omega)
    have E5 : nb_rd M (A + 4 + l2) 8 = M.1 (A + 4 + l2) 8 := nb_rd_1 _ _ _
    refine nb_Wg (q_sc_notePassed_2 _ _ _ _ (by omega) (by rw [E2]; first | done | omega) (by omega) (by rw [E2, N3]; first | done | omega) (by rw [E2, E4]; first | done | omega)) ?_
    simp only [E2, E4, E5]
    clear E2 N3 E4 E5
    refine nb_Gi (fun c47 => ?_) (fun c47 => ?_)
    · have H := nb_Hw ((nb_Hu H).1 c47)
      refine nb_Gr ?_
      have E6 : nb_rd M A 3 = Ho := hAh
      refine nb_Wg (q_sc_notePassed_3 _ _ _ _ (by omega) (by rw [E6]; first | done | omega)) ?_
      simp only [E6]
      clear E6
      refine nb_Gb ?_
      have E7 : nb_rd M Ho 4 = Ho + 15 := W.h4 (H := Ho) hHo
      have N8 : nb_ln M (Ho + 15) = 10 := W.hn15 (H := Ho) hHo
      have E9 : nb_rd M (Ho + 15) l2 = Ho + 20 + l2 := W.hg (H := Ho) (i := l2) hHo (by omega) (by omega)
      have E10 : nb_rd M (Ho + 20 + l2) 2 = M.1 (Ho + 20 + l2) 2 := nb_rd_1 _ _ _
      have E11 : nb_rd M Ho 4 = Ho + 15 := W.h4 (H := Ho) hHo
      have N12 : nb_ln M (Ho + 15) = 10 := W.hn15 (H := Ho) hHo
      have E13 : nb_rd M (Ho + 15) l1 = Ho + 20 + l1 := W.hg (H := Ho) (i := l1) hHo (by omega) (by omega)
      have E14 : nb_rd M (Ho + 20 + l1) 2 = M.1 (Ho + 20 + l1) 2 := nb_rd_1 _ _ _
      refine nb_Wg (q_h_cameAhead_0 _ _ _ _ _ _ (by omega) (by rw [E7]; first | done | omega) (by omega) (by rw [E7, N8]; first | done | omega) (by rw [E7, E9]; first | done | omega) (by omega) (by rw [E11, N12]; first | done | omega) (by rw [E11, E13]; first | done | omega)) ?_
      simp only [E7, E9, E10, E11, E13, E14]
      clear E7 N8 E9 E10 E11 N12 E13 E14
      refine nb_Gi (fun c45 => ?_) (fun c45 => ?_)
      · have H := nb_Hw ((nb_Hu H).1 c45)
        refine nb_Gr ?_
        refine nb_Wg (q_h_cameAhead_3 _ _ _ _ _ _) ?_
        refine nb_Gr ?_
        have E15 : nb_i2z 1 = 1 := by decide
        refine nb_Wg (q_h_cameAhead_5 _ _ _ _ _ _ _) ?_
        simp only [E15]
        clear E15
        refine nb_Gs ?_
        show nb_W 264 4 [(15, A), (0, l1), (0, l2)] [(0, 1)] M _
        refine nb_Wg (q_sc_notePassed_4 _ _ _ _ _) ?_
        refine nb_Gf (by decide) ?_
        refine nb_Gr ?_
        have E16 : nb_rd M A 0 = A + 1 := W.s0 (A := A) hA
        have N17 : nb_ln M (A + 1) = 10 := W.sn1 (A := A) hA
        have E18 : nb_rd M (A + 1) l2 = A + 4 + l2 := W.sg (A := A) (i := l2) hA (by omega) (by omega)
        have E19 : nb_rd M (A + 4 + l2) 13 = M.1 (A + 4 + l2) 13 := nb_rd_1 _ _ _
        refine nb_Wg (q_sc_notePassed_5 _ _ _ _ (by omega) (by rw [E16]; first | done | omega) (by omega) (by rw [E16, N17]; first | done | omega) (by rw [E16, E18]; first | done | omega)) ?_
        simp only [E16, E18, E19]
        clear E16 N17 E18 E19
        have W20 : nb_Lay (nb_wr M (A + 4 + l2) 13 (nb_or (M.1 (A + 4 + l2) 13) (nb_shl 1 l1))) := W.wr (fun w => (nb_nsg (A := A) (i := l2) hA (by omega) (by omega)))
        refine nb_Gr ?_
        have E21 : nb_rd (nb_wr M (A + 4 + l2) 13 (nb_or (M.1 (A + 4 + l2) 13) (nb_shl 1 l1))) A 0 = A + 1 := W20.s0 (A := A) hA
        have N22 : nb_ln (nb_wr M (A + 4 + l2) 13 (nb_or (M.1 (A + 4 + l2) 13) (nb_shl 1 l1))) (A + 1) = 10 := W20.sn1 (A := A) hA
        have E23 : nb_rd (nb_wr M (A + 4 + l2) 13 (nb_or (M.1 (A + 4 + l2) 13) (nb_shl 1 l1))) (A + 1) l1 = A + 4 + l1 := W20.sg (A := A) (i := l1) hA (by omega) (by omega)
        have E24 : nb_rd (nb_wr M (A + 4 + l2) 13 (nb_or (M.1 (A + 4 + l2) 13) (nb_shl 1 l1))) (A + 4 + l1) 14 = M.1 (A + 4 + l1) 14 := nb_rdw (Or.inr (by decide)) (nb_rd_1 _ _ _)
        refine nb_Wg (q_sc_notePassed_6 _ _ _ _ (by omega) (by rw [E21]; first | done | omega) (by omega) (by rw [E21, N22]; first | done | omega) (by rw [E21, E23]; first | done | omega)) ?_
        simp only [E21, E23, E24]
        clear E21 N22 E23 E24
        have W25 : nb_Lay (nb_wr (nb_wr M (A + 4 + l2) 13 (nb_or (M.1 (A + 4 + l2) 13) (nb_shl 1 l1))) (A + 4 + l1) 14 (nb_or (M.1 (A + 4 + l1) 14) (nb_shl 1 l2))) := W20.wr (fun w => (nb_nsg (A := A) (i := l1) hA (by omega) (by omega)))
        refine nb_Gr ?_
        have E26 : nb_add l2 1 = l2 + 1 := nb_add_eq (by omega) (by omega)
        refine nb_Wg (q_sc_notePassed_7 _ _ _ _) ?_
        simp only [E26]
        clear E26
        refine nb_Gr ?_
        exact nb_Hu H
      · have H := nb_Hw ((nb_Hu H).2 (by omega))
        have c45 : M.1 (Ho + 20 + l1) 2 ≤ M.1 (Ho + 20 + l2) 2 := by omega
        refine nb_Gr ?_
        refine nb_Wg (q_h_cameAhead_1 _ _ _ _ _ _) ?_
        refine nb_Gi (fun c44 => ?_) (fun c44 => ?_)
        · have H := nb_Hw ((nb_Hu H).1 c44)
          refine nb_Gr ?_
          refine nb_Wg (q_h_cameAhead_2 _ _ _ _ _ _) ?_
          refine nb_Gi (fun c41 => ?_) (fun c41 => ?_)
          · have H := nb_Hw ((nb_Hu H).1 c41)
            refine nb_Gr ?_
            refine nb_Wg (q_h_cameAhead_3 _ _ _ _ _ _) ?_
            refine nb_Gr ?_
            have E27 : nb_i2z 1 = 1 := by decide
            refine nb_Wg (q_h_cameAhead_5 _ _ _ _ _ _ _) ?_
            simp only [E27]
            clear E27
            refine nb_Gs ?_
            show nb_W 264 4 [(15, A), (0, l1), (0, l2)] [(0, 1)] M _
            refine nb_Wg (q_sc_notePassed_4 _ _ _ _ _) ?_
            refine nb_Gf (by decide) ?_
            refine nb_Gr ?_
            have E28 : nb_rd M A 0 = A + 1 := W.s0 (A := A) hA
            have N29 : nb_ln M (A + 1) = 10 := W.sn1 (A := A) hA
            have E30 : nb_rd M (A + 1) l2 = A + 4 + l2 := W.sg (A := A) (i := l2) hA (by omega) (by omega)
            have E31 : nb_rd M (A + 4 + l2) 13 = M.1 (A + 4 + l2) 13 := nb_rd_1 _ _ _
            refine nb_Wg (q_sc_notePassed_5 _ _ _ _ (by omega) (by rw [E28]; first | done | omega) (by omega) (by rw [E28, N29]; first | done | omega) (by rw [E28, E30]; first | done | omega)) ?_
            simp only [E28, E30, E31]
            clear E28 N29 E30 E31
            have W32 : nb_Lay (nb_wr M (A + 4 + l2) 13 (nb_or (M.1 (A + 4 + l2) 13) (nb_shl 1 l1))) := W.wr (fun w => (nb_nsg (A := A) (i := l2) hA (by omega) (by omega)))
            refine nb_Gr ?_
            have E33 : nb_rd (nb_wr M (A + 4 + l2) 13 (nb_or (M.1 (A + 4 + l2) 13) (nb_shl 1 l1))) A 0 = A + 1 := W32.s0 (A := A) hA
            have N34 : nb_ln (nb_wr M (A + 4 + l2) 13 (nb_or (M.1 (A + 4 + l2) 13) (nb_shl 1 l1))) (A + 1) = 10 := W32.sn1 (A := A) hA
            have E35 : nb_rd (nb_wr M (A + 4 + l2) 13 (nb_or (M.1 (A + 4 + l2) 13) (nb_shl 1 l1))) (A + 1) l1 = A + 4 + l1 := W32.sg (A := A) (i := l1) hA (by omega) (by omega)
            have E36 : nb_rd (nb_wr M (A + 4 + l2) 13 (nb_or (M.1 (A + 4 + l2) 13) (nb_shl 1 l1))) (A + 4 + l1) 14 = M.1 (A + 4 + l1) 14 := nb_rdw (Or.inr (by decide)) (nb_rd_1 _ _ _)
            refine nb_Wg (q_sc_notePassed_6 _ _ _ _ (by omega) (by rw [E33]; first | done | omega) (by omega) (by rw [E33, N34]; first | done | omega) (by rw [E33, E35]; first | done | omega)) ?_
            simp only [E33, E35, E36]
            clear E33 N34 E35 E36
            have W37 : nb_Lay (nb_wr (nb_wr M (A + 4 + l2) 13 (nb_or (M.1 (A + 4 + l2) 13) (nb_shl 1 l1))) (A + 4 + l1) 14 (nb_or (M.1 (A + 4 + l1) 14) (nb_shl 1 l2))) := W32.wr (fun w => (nb_nsg (A := A) (i := l1) hA (by omega) (by omega)))
            refine nb_Gr ?_
            have E38 : nb_add l2 1 = l2 + 1 := nb_add_eq (by omega) (by omega)
            refine nb_Wg (q_sc_notePassed_7 _ _ _ _) ?_
            simp only [E38]
            clear E38
            refine nb_Gr ?_
            exact nb_Hu H
          · have H := nb_Hw ((nb_Hu H).2 (by omega))
            have c41 : l1 ≤ l2 := by omega
            refine nb_Gr ?_
            refine nb_Wg (q_h_cameAhead_4 _ _ _ _ _ _) ?_
            refine nb_Gr ?_
            have E39 : nb_i2z 0 = 0 := by decide
            refine nb_Wg (q_h_cameAhead_5 _ _ _ _ _ _ _) ?_
            simp only [E39]
            clear E39
            refine nb_Gs ?_
            show nb_W 264 4 [(15, A), (0, l1), (0, l2)] [(0, 0)] M _
            refine nb_Wg (q_sc_notePassed_4 _ _ _ _ _) ?_
            refine nb_Gt (by decide) ?_
            refine nb_Gr ?_
            have E40 : nb_add l2 1 = l2 + 1 := nb_add_eq (by omega) (by omega)
            refine nb_Wg (q_sc_notePassed_7 _ _ _ _) ?_
            simp only [E40]
            clear E40
            refine nb_Gr ?_
            exact nb_Hu H
        · have H := nb_Hw ((nb_Hu H).2 (by omega))
          have c44 : M.1 (Ho + 20 + l2) 2 ≠ M.1 (Ho + 20 + l1) 2 := by omega
          refine nb_Gr ?_
          refine nb_Wg (q_h_cameAhead_4 _ _ _ _ _ _) ?_
          refine nb_Gr ?_
          have E42 : nb_i2z 0 = 0 := by decide
          refine nb_Wg (q_h_cameAhead_5 _ _ _ _ _ _ _) ?_
          simp only [E42]
          clear E42
          refine nb_Gs ?_
          show nb_W 264 4 [(15, A), (0, l1), (0, l2)] [(0, 0)] M _
          refine nb_Wg (q_sc_notePassed_4 _ _ _ _ _) ?_
          refine nb_Gt (by decide) ?_
          refine nb_Gr ?_
          have E43 : nb_add l2 1 = l2 + 1 := nb_add_eq (by omega) (by omega)
          refine nb_Wg (q_sc_notePassed_7 _ _ _ _) ?_
          simp only [E43]
          clear E43
          refine nb_Gr ?_
          exact nb_Hu H
    · have H := nb_Hw ((nb_Hu H).2 (by omega))
      have c47 : M.1 (A + 4 + l2) 8 ≠ 1 := by omega
      refine nb_Gr ?_
      have E46 : nb_add l2 1 = l2 + 1 := nb_add_eq (by omega) (by omega)
      refine nb_Wg (q_sc_notePassed_7 _ _ _ _) ?_
      simp only [E46]
      clear E46
      refine nb_Gr ?_
      exact nb_Hu H
  · have H := nb_Hw ((nb_Hu H).2 (by omega))
    have c48 : M.1 A 4 ≤ l2 := by omega
    refine nb_Gr ?_
    refine nb_Wg (q_sc_notePassed_8 _ _ _ _) ?_
    refine nb_Gs ?_
    exact nb_Hu H
