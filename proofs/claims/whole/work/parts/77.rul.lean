/-! rules, printed by wip/gen -/
theorem w_sc_added_0 {A l1 Ho : Int} {v2 v3 : nb_V} {M : nb_M} {Q : List nb_V → nb_M → Prop} (W : nb_Lay M) (hA : nb_sc A) (hHo : nb_hs Ho) (hAh : M.1 A 3 = Ho) (H : nb_W 269 1 [(15, A), (0, l1), (0, 0), (0, 0)] [] M Q) :
    nb_W 269 0 [(15, A), (0, l1), v2, v3] [] M Q := by
  replace H := nb_Hw H
  have uhA := hA
  unfold nb_sc at uhA
  have uhHo := hHo
  unfold nb_hs at uhHo
  refine nb_Wg (q_sc_added_0 _ _ _ _ _) ?_
  refine nb_Gr ?_
  exact nb_Hu H

theorem w_sc_added_1 {A l1 l2 l3 Ho : Int} {M : nb_M} {Q : List nb_V → nb_M → Prop} (W : nb_Lay M) (hA : nb_sc A) (hHo : nb_hs Ho) (hAh : M.1 A 3 = Ho) {cr pe R r : Int → Int} {np ns bell : Int} (hr : pu_Rr r) (hh : pu_Ho M Ho r) (h8 : M.1 A 8 = bell) (b0_ : 0 ≤ l3 ∧ l3 ≤ 10) (b1_ : (-1000000) ≤ l2 ∧ l2 ≤ 10000000) (H : 0 ≤ M.1 A 4 ∧ M.1 A 4 ≤ 10 ∧ (l3 < M.1 A 4 → (l1 = 3 → np ≤ 10 ∧ 0 ≤ l3 ∧ l3 < np ∧ pu_Rw R ∧ 0 ≤ pe (7 * l3 + 2) ∧ pe (7 * l3 + 2) ≤ 600 ∧ pu_S M A np ns cr pe R ∧ pu_X M A np pe R ∧ 0 ≤ bell ∧ bell ≤ 9000 ∧ -2147483648 ≤ l2 + pu_wc pe R bell l3 ∧ l2 + pu_wc pe R bell l3 ≤ 2147483647 ∧ nb_W 269 1 [(15, A), (0, l1), (0, l2 + pu_wc pe R bell l3), (0, l3 + 1)] [] M Q) ∧ (l1 ≠ 3 → (l1 = 4 → 0 ≤ M.1 (A + 4 + l3) 13 ∧ M.1 (A + 4 + l3) 13 < 1024 ∧ -2147483648 ≤ l2 + (pu_ones (M.1 (A + 4 + l3) 13)) ∧ l2 + (pu_ones (M.1 (A + 4 + l3) 13)) ≤ 2147483647 ∧ nb_W 269 1 [(15, A), (0, l1), (0, l2 + (pu_ones (M.1 (A + 4 + l3) 13))), (0, l3 + 1)] [] M Q) ∧ (l1 ≠ 4 → (l1 = 5 → (M.1 (A + 4 + l3) 8 = 2 → 0 ≤ l3 ∧ l3 < r 5 ∧ -2147483648 ≤ l2 + pu_co r l3 ∧ l2 + pu_co r l3 ≤ 2147483647 ∧ nb_W 269 1 [(15, A), (0, l1), (0, l2 + pu_co r l3), (0, l3 + 1)] [] M Q) ∧ (M.1 (A + 4 + l3) 8 ≠ 2 → (M.1 (A + 4 + l3) 8 = 3 → 0 ≤ l3 ∧ l3 < r 5 ∧ -2147483648 ≤ l2 + pu_co r l3 ∧ l2 + pu_co r l3 ≤ 2147483647 ∧ nb_W 269 1 [(15, A), (0, l1), (0, l2 + pu_co r l3), (0, l3 + 1)] [] M Q) ∧ (M.1 (A + 4 + l3) 8 ≠ 3 → nb_W 269 1 [(15, A), (0, l1), (0, l2), (0, l3 + 1)] [] M Q))) ∧ (l1 ≠ 5 → nb_W 269 1 [(15, A), (0, l1), (0, l2), (0, l3 + 1)] [] M Q)))) ∧ (M.1 A 4 ≤ l3 → Q [(0, l2)] M)) :
    nb_W 269 1 [(15, A), (0, l1), (0, l2), (0, l3)] [] M Q := by
  replace H := nb_Hw H
  have uhA := hA
  unfold nb_sc at uhA
  have uhHo := hHo
  unfold nb_hs at uhHo
  obtain ⟨p0_, p1_, H⟩ := H
  replace H := nb_Hw H
  have E1 : nb_rd M A 4 = M.1 A 4 := nb_rd_1 _ _ _
  refine nb_Wg (q_sc_added_1 _ _ _ _ _ (by omega)) ?_
  simp only [E1]
  clear E1
  refine nb_Gi (fun c31 => ?_) (fun c31 => ?_)
  · have H := nb_Hw ((nb_Hu H).1 c31)
    refine nb_Gr ?_
    refine nb_Wg (q_sc_added_2 _ _ _ _ _) ?_
    refine nb_Gi (fun c30 => ?_) (fun c30 => ?_)
    · have H := nb_Hw ((nb_Hu H).1 c30)
      refine nb_Gr ?_
      obtain ⟨p0_, p1_, p2_, p3_, p4_, p5_, p6_, p7_, p8_, p9_, H⟩ := H
      replace H := nb_Hw H
      refine nb_Wg (q_sc_added_3 _ _ _ _ _ (by omega)) ?_
      rw [show nb_R nb_P 266 0 [(15, A), (0, l3), (98, 0)] [] M = some ([(0, pu_wc pe R bell l3)], M) from sp_sc_waitOf W hA (by omega) (by omega) (by assumption) (by omega) (by assumption) (by assumption) h8 (by omega)]
      refine nb_Gp ?_
      show nb_W 269 4 [(15, A), (0, l1), (0, l2), (0, l3)] [(0, pu_wc pe R bell l3), (0, l2)] M _
      obtain ⟨p0_, p1_, H⟩ := H
      replace H := nb_Hw H
      have E2 : nb_add l2 (pu_wc pe R bell l3) = l2 + pu_wc pe R bell l3 := (nb_add_eq (x := l2) (y := pu_wc pe R bell l3) (by omega) (by omega)).trans (by omega)
      refine nb_Wg (q_sc_added_4 _ _ _ _ _ _ _) ?_
      simp only [E2]
      clear E2
      refine nb_Gr ?_
      have E3 : nb_add l3 1 = l3 + 1 := nb_add_eq (by omega) (by omega)
      refine nb_Wg (q_sc_added_13 _ _ _ _ _) ?_
      simp only [E3]
      clear E3
      refine nb_Gr ?_
      exact nb_Hu H
    · have H := nb_Hw ((nb_Hu H).2 (by omega))
      have c30 : l1 ≠ 3 := by omega
      refine nb_Gr ?_
      refine nb_Wg (q_sc_added_5 _ _ _ _ _) ?_
      refine nb_Gi (fun c29 => ?_) (fun c29 => ?_)
      · have H := nb_Hw ((nb_Hu H).1 c29)
        refine nb_Gr ?_
        obtain ⟨p0_, p1_, H⟩ := H
        replace H := nb_Hw H
        have E4 : nb_rd M A 0 = A + 1 := W.s0 (A := A) hA
        have N5 : nb_ln M (A + 1) = 10 := W.sn1 (A := A) hA
        have E6 : nb_rd M (A + 1) l3 = A + 4 + l3 := W.sg (A := A) (i := l3) hA (by omega) (by omega)
        have E7 : nb_rd M (A + 4 + l3) 13 = M.1 (A + 4 + l3) 13 := nb_rd_1 _ _ _
        refine nb_Wg (q_sc_added_6 _ _ _ _ _ (by omega) (by rw [E4]; first | done | omega) (by omega) (by rw [E4, N5]; first | done | omega) (by rw [E4, E6]; first | done | omega)) ?_
        simp only [E4, E6, E7]
        clear E4 N5 E6 E7
        rw [show nb_R nb_P 294 0 [(0, M.1 (A + 4 + l3) 13)] [] M = some ([(0, pu_ones (M.1 (A + 4 + l3) 13))], M) from sp_bitCount (by omega) (by omega)]
        refine nb_Gp ?_
        show nb_W 269 7 [(15, A), (0, l1), (0, l2), (0, l3)] [(0, pu_ones (M.1 (A + 4 + l3) 13)), (0, l2)] M _
        obtain ⟨p0_, p1_, H⟩ := H
        replace H := nb_Hw H
        have E8 : nb_add l2 (pu_ones (M.1 (A + 4 + l3) 13)) = l2 + (pu_ones (M.1 (A + 4 + l3) 13)) := nb_add_eq (by omega) (by omega)
        refine nb_Wg (q_sc_added_7 _ _ _ _ _ _ _) ?_
        simp only [E8]
        clear E8
        refine nb_Gr ?_
        have E9 : nb_add l3 1 = l3 + 1 := nb_add_eq (by omega) (by omega)
        refine nb_Wg (q_sc_added_13 _ _ _ _ _) ?_
        simp only [E9]
        clear E9
        refine nb_Gr ?_
        exact nb_Hu H
      · have H := nb_Hw ((nb_Hu H).2 (by omega))
        have c29 : l1 ≠ 4 := by omega
        refine nb_Gr ?_
        refine nb_Wg (q_sc_added_8 _ _ _ _ _) ?_
        refine nb_Gi (fun c28 => ?_) (fun c28 => ?_)
        · have H := nb_Hw ((nb_Hu H).1 c28)
          refine nb_Gr ?_
          have E10 : nb_rd M A 0 = A + 1 := W.s0 (A := A) hA
          have N11 : nb_ln M (A + 1) = 10 := W.sn1 (A := A) hA
          have E12 : nb_rd M (A + 1) l3 = A + 4 + l3 := W.sg (A := A) (i := l3) hA (by omega) (by omega)
          refine nb_Wg (q_sc_added_9 _ _ _ _ _ (by omega) (by rw [E10]; first | done | omega) (by omega) (by rw [E10, N11]; first | done | omega) (by rw [E10, E12]; first | done | omega)) ?_
          simp only [E10, E12]
          clear E10 N11 E12
          refine nb_Gb ?_
          have E13 : nb_rd M (A + 4 + l3) 8 = M.1 (A + 4 + l3) 8 := nb_rd_1 _ _ _
          refine nb_Wg (q_g_isServed_0 _ _ (by omega)) ?_
          simp only [E13]
          clear E13
          refine nb_Gi (fun c26 => ?_) (fun c26 => ?_)
          · have H := nb_Hw ((nb_Hu H).1 c26)
            refine nb_Gr ?_
            refine nb_Wg (q_g_isServed_2 _ _) ?_
            refine nb_Gr ?_
            have E14 : nb_i2z 1 = 1 := by decide
            refine nb_Wg (q_g_isServed_4 _ _ _) ?_
            simp only [E14]
            clear E14
            refine nb_Gs ?_
            show nb_W 269 10 [(15, A), (0, l1), (0, l2), (0, l3)] [(0, 1)] M _
            refine nb_Wg (q_sc_added_10 _ _ _ _ _ _) ?_
            refine nb_Gf (by decide) ?_
            refine nb_Gr ?_
            obtain ⟨p0_, p1_, H⟩ := H
            replace H := nb_Hw H
            have E15 : nb_rd M A 3 = Ho := hAh
            refine nb_Wg (q_sc_added_11 _ _ _ _ _ (by omega) (by rw [E15]; first | done | omega)) ?_
            simp only [E15]
            clear E15
            rw [show nb_R nb_P 221 0 [(12, Ho), (0, l3), (98, 0), (98, 0)] [] M = some ([(0, pu_co r l3)], M) from sp_h_priceOf W hHo hr hh (by omega)]
            refine nb_Gp ?_
            show nb_W 269 12 [(15, A), (0, l1), (0, l2), (0, l3)] [(0, pu_co r l3), (0, l2)] M _
            obtain ⟨p0_, p1_, H⟩ := H
            replace H := nb_Hw H
            have E16 : nb_add l2 (pu_co r l3) = l2 + pu_co r l3 := (nb_add_eq (x := l2) (y := pu_co r l3) (by omega) (by omega)).trans (by omega)
            refine nb_Wg (q_sc_added_12 _ _ _ _ _ _ _) ?_
            simp only [E16]
            clear E16
            refine nb_Gr ?_
            have E17 : nb_add l3 1 = l3 + 1 := nb_add_eq (by omega) (by omega)
            refine nb_Wg (q_sc_added_13 _ _ _ _ _) ?_
            simp only [E17]
            clear E17
            refine nb_Gr ?_
            exact nb_Hu H
          · have H := nb_Hw ((nb_Hu H).2 (by omega))
            have c26 : M.1 (A + 4 + l3) 8 ≠ 2 := by omega
            refine nb_Gr ?_
            have E18 : nb_rd M (A + 4 + l3) 8 = M.1 (A + 4 + l3) 8 := nb_rd_1 _ _ _
            refine nb_Wg (q_g_isServed_1 _ _ (by omega)) ?_
            simp only [E18]
            clear E18
            refine nb_Gi (fun c25 => ?_) (fun c25 => ?_)
            · have H := nb_Hw ((nb_Hu H).1 c25)
              refine nb_Gr ?_
              refine nb_Wg (q_g_isServed_2 _ _) ?_
              refine nb_Gr ?_
              have E19 : nb_i2z 1 = 1 := by decide
              refine nb_Wg (q_g_isServed_4 _ _ _) ?_
              simp only [E19]
              clear E19
              refine nb_Gs ?_
              show nb_W 269 10 [(15, A), (0, l1), (0, l2), (0, l3)] [(0, 1)] M _
              refine nb_Wg (q_sc_added_10 _ _ _ _ _ _) ?_
              refine nb_Gf (by decide) ?_
              refine nb_Gr ?_
              obtain ⟨p0_, p1_, H⟩ := H
              replace H := nb_Hw H
              have E20 : nb_rd M A 3 = Ho := hAh
              refine nb_Wg (q_sc_added_11 _ _ _ _ _ (by omega) (by rw [E20]; first | done | omega)) ?_
              simp only [E20]
              clear E20
              rw [show nb_R nb_P 221 0 [(12, Ho), (0, l3), (98, 0), (98, 0)] [] M = some ([(0, pu_co r l3)], M) from sp_h_priceOf W hHo hr hh (by omega)]
              refine nb_Gp ?_
              show nb_W 269 12 [(15, A), (0, l1), (0, l2), (0, l3)] [(0, pu_co r l3), (0, l2)] M _
              obtain ⟨p0_, p1_, H⟩ := H
              replace H := nb_Hw H
              have E21 : nb_add l2 (pu_co r l3) = l2 + pu_co r l3 := (nb_add_eq (x := l2) (y := pu_co r l3) (by omega) (by omega)).trans (by omega)
              refine nb_Wg (q_sc_added_12 _ _ _ _ _ _ _) ?_
              simp only [E21]
              clear E21
              refine nb_Gr ?_
              have E22 : nb_add l3 1 = l3 + 1 := nb_add_eq (by omega) (by omega)
              refine nb_Wg (q_sc_added_13 _ _ _ _ _) ?_
              simp only [E22]
              clear E22
              refine nb_Gr ?_
              exact nb_Hu H
            · have H := nb_Hw ((nb_Hu H).2 (by omega))
              have c25 : M.1 (A + 4 + l3) 8 ≠ 3 := by omega
              refine nb_Gr ?_
              refine nb_Wg (q_g_isServed_3 _ _) ?_
              refine nb_Gr ?_
              have E23 : nb_i2z 0 = 0 := by decide
              refine nb_Wg (q_g_isServed_4 _ _ _) ?_
              simp only [E23]
              clear E23
              refine nb_Gs ?_
              show nb_W 269 10 [(15, A), (0, l1), (0, l2), (0, l3)] [(0, 0)] M _
              refine nb_Wg (q_sc_added_10 _ _ _ _ _ _) ?_
              refine nb_Gt (by decide) ?_
              refine nb_Gr ?_
              have E24 : nb_add l3 1 = l3 + 1 := nb_add_eq (by omega) (by omega)
              refine nb_Wg (q_sc_added_13 _ _ _ _ _) ?_
              simp only [E24]
              clear E24
              refine nb_Gr ?_
              exact nb_Hu H
        · have H := nb_Hw ((nb_Hu H).2 (by omega))
          have c28 : l1 ≠ 5 := by omega
          refine nb_Gr ?_
          have E27 : nb_add l3 1 = l3 + 1 := nb_add_eq (by omega) (by omega)
          refine nb_Wg (q_sc_added_13 _ _ _ _ _) ?_
          simp only [E27]
          clear E27
          refine nb_Gr ?_
          exact nb_Hu H
  · have H := nb_Hw ((nb_Hu H).2 (by omega))
    have c31 : M.1 A 4 ≤ l3 := by omega
    refine nb_Gr ?_
    refine nb_Wg (q_sc_added_14 _ _ _ _ _) ?_
    refine nb_Gs ?_
    exact nb_Hu H

theorem w_sc_waitsOfSet_1 {A l1 l2 l3 : Int} {M : nb_M} {Q : List nb_V → nb_M → Prop} (W : nb_Lay M) (hA : nb_sc A) {cr pe R : Int → Int} {np ns bell : Int} (h8 : M.1 A 8 = bell) (b0_ : (-1000000) ≤ l2 ∧ l2 ≤ 10000000) (b1_ : 0 ≤ l3 ∧ l3 ≤ 10) (H : 0 ≤ M.1 A 4 ∧ M.1 A 4 ≤ 10 ∧ (l3 < M.1 A 4 → (nb_and (nb_shr l1 l3) 1 = 1 → np ≤ 10 ∧ 0 ≤ l3 ∧ l3 < np ∧ pu_Rw R ∧ 0 ≤ pe (7 * l3 + 2) ∧ pe (7 * l3 + 2) ≤ 600 ∧ pu_S M A np ns cr pe R ∧ pu_X M A np pe R ∧ 0 ≤ bell ∧ bell ≤ 9000 ∧ -2147483648 ≤ l2 + pu_wc pe R bell l3 ∧ l2 + pu_wc pe R bell l3 ≤ 2147483647 ∧ nb_W 270 1 [(15, A), (0, l1), (0, l2 + pu_wc pe R bell l3), (0, l3 + 1)] [] M Q) ∧ (nb_and (nb_shr l1 l3) 1 ≠ 1 → nb_W 270 1 [(15, A), (0, l1), (0, l2), (0, l3 + 1)] [] M Q)) ∧ (M.1 A 4 ≤ l3 → Q [(0, l2)] M)) :
    nb_W 270 1 [(15, A), (0, l1), (0, l2), (0, l3)] [] M Q := by
  replace H := nb_Hw H
  have uhA := hA
  unfold nb_sc at uhA
  obtain ⟨p0_, p1_, H⟩ := H
  replace H := nb_Hw H
  have E1 : nb_rd M A 4 = M.1 A 4 := nb_rd_1 _ _ _
  refine nb_Wg (q_sc_waitsOfSet_1 _ _ _ _ _ (by omega)) ?_
  simp only [E1]
  clear E1
  refine nb_Gi (fun c6 => ?_) (fun c6 => ?_)
  · have H := nb_Hw ((nb_Hu H).1 c6)
    refine nb_Gr ?_
    refine nb_Wg (q_sc_waitsOfSet_2 _ _ _ _ _) ?_
    refine nb_Gi (fun c5 => ?_) (fun c5 => ?_)
    · have H := nb_Hw ((nb_Hu H).1 c5)
      refine nb_Gr ?_
      obtain ⟨p0_, p1_, p2_, p3_, p4_, p5_, p6_, p7_, p8_, p9_, H⟩ := H
      replace H := nb_Hw H
      refine nb_Wg (q_sc_waitsOfSet_3 _ _ _ _ _ (by omega)) ?_
      rw [show nb_R nb_P 266 0 [(15, A), (0, l3), (98, 0)] [] M = some ([(0, pu_wc pe R bell l3)], M) from sp_sc_waitOf W hA (by omega) (by omega) (by assumption) (by omega) (by assumption) (by assumption) h8 (by omega)]
      refine nb_Gp ?_
      show nb_W 270 4 [(15, A), (0, l1), (0, l2), (0, l3)] [(0, pu_wc pe R bell l3), (0, l2)] M _
      obtain ⟨p0_, p1_, H⟩ := H
      replace H := nb_Hw H
      have E2 : nb_add l2 (pu_wc pe R bell l3) = l2 + pu_wc pe R bell l3 := (nb_add_eq (x := l2) (y := pu_wc pe R bell l3) (by omega) (by omega)).trans (by omega)
      refine nb_Wg (q_sc_waitsOfSet_4 _ _ _ _ _ _ _) ?_
      simp only [E2]
      clear E2
      refine nb_Gr ?_
      have E3 : nb_add l3 1 = l3 + 1 := nb_add_eq (by omega) (by omega)
      refine nb_Wg (q_sc_waitsOfSet_5 _ _ _ _ _) ?_
      simp only [E3]
      clear E3
      refine nb_Gr ?_
      exact nb_Hu H
    · have H := nb_Hw ((nb_Hu H).2 (by omega))
      have c5 : nb_and (nb_shr l1 l3) 1 ≠ 1 := by omega
      refine nb_Gr ?_
      have E4 : nb_add l3 1 = l3 + 1 := nb_add_eq (by omega) (by omega)
      refine nb_Wg (q_sc_waitsOfSet_5 _ _ _ _ _) ?_
      simp only [E4]
      clear E4
      refine nb_Gr ?_
      exact nb_Hu H
  · have H := nb_Hw ((nb_Hu H).2 (by omega))
    have c6 : M.1 A 4 ≤ l3 := by omega
    refine nb_Gr ?_
    refine nb_Wg (q_sc_waitsOfSet_6 _ _ _ _ _) ?_
    refine nb_Gs ?_
    exact nb_Hu H

theorem w_sc_waitsOfSet_0 {A l1 : Int} {v2 v3 : nb_V} {M : nb_M} {Q : List nb_V → nb_M → Prop} (W : nb_Lay M) (hA : nb_sc A) (H : nb_W 270 1 [(15, A), (0, l1), (0, 0), (0, 0)] [] M Q) :
    nb_W 270 0 [(15, A), (0, l1), v2, v3] [] M Q := by
  replace H := nb_Hw H
  have uhA := hA
  unfold nb_sc at uhA
  refine nb_Wg (q_sc_waitsOfSet_0 _ _ _ _ _) ?_
  refine nb_Gr ?_
  exact nb_Hu H
