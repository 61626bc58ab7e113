/-! rules, printed by wip/gen -/
theorem w_rd_readEnd_0 {So : Int} {M : nb_M} {Q : List nb_V → nb_M → Prop} (W : nb_Lay M) (hSo : nb_hs So) (h764 : M.1 76 4 = So) (H : (M.1 76 7 = 0 → (M.1 So 11 = 0 → nb_W 226 0 [(13, 76), (0, 6)] [] M (fun r M5 => r = [] ∧ nb_Lay M5 ∧ M5.1 76 4 = So ∧ (nb_Lay M5 → Q [] M5))) ∧ (M.1 So 11 ≠ 0 → (M.1 So 12 = 0 → nb_W 226 0 [(13, 76), (0, 6)] [] M (fun r M11 => r = [] ∧ nb_Lay M11 ∧ M11.1 76 4 = So ∧ (nb_Lay M11 → Q [] M11))) ∧ (M.1 So 12 ≠ 0 → (M.1 So 13 = 0 → nb_W 226 0 [(13, 76), (0, 6)] [] M (fun r M17 => r = [] ∧ nb_Lay M17 ∧ M17.1 76 4 = So ∧ (nb_Lay M17 → Q [] M17))) ∧ (M.1 So 13 ≠ 0 → (nb_Lay M → Q [] M))))) ∧ (M.1 76 7 ≠ 0 → nb_W 226 0 [(13, 76), (0, 1)] [] M (fun r M24 => r = [] ∧ nb_Lay M24 ∧ M24.1 76 4 = So ∧ (nb_Lay M24 → Q [] M24)))) :
    nb_W 228 0 [(13, 76)] [] M Q := by
  replace H := nb_Hw H
  have uhSo := hSo
  unfold nb_hs at uhSo
  have E1 : nb_rd M 76 7 = M.1 76 7 := nb_rd_1 _ _ _
  refine nb_Wg (q_rd_readEnd_0 _ _ (by omega)) ?_
  simp only [E1]
  clear E1
  refine nb_Gi (fun c27 => ?_) (fun c27 => ?_)
  · have H := nb_Hw ((nb_Hu H).1 c27)
    refine nb_Gr ?_
    have E2 : nb_rd M 76 4 = So := h764
    have E3 : nb_rd M So 11 = M.1 So 11 := nb_rd_1 _ _ _
    refine nb_Wg (q_rd_readEnd_3 _ _ (by omega) (by rw [E2]; first | done | omega)) ?_
    simp only [E2, E3]
    clear E2 E3
    refine nb_Gi (fun c22 => ?_) (fun c22 => ?_)
    · have H := nb_Hw ((nb_Hu H).1 c22)
      refine nb_Gr ?_
      refine nb_Wg (q_rd_readEnd_6 _ _ (by omega)) ?_
      refine nb_Gb ?_
      refine nb_W.imp (nb_Hu H) (fun r M5 H => ?_)
      obtain ⟨rfl, W6, g7, H⟩ := H
      replace H := nb_Hw H
      show nb_W 228 7 [(13, 76)] [] M5 _
      refine nb_Wg (q_rd_readEnd_7 _ _) ?_
      refine nb_Gs ?_
      exact nb_Hu H W6
    · have H := nb_Hw ((nb_Hu H).2 (by omega))
      have c22 : M.1 So 11 ≠ 0 := by omega
      refine nb_Gr ?_
      have E8 : nb_rd M 76 4 = So := h764
      have E9 : nb_rd M So 12 = M.1 So 12 := nb_rd_1 _ _ _
      refine nb_Wg (q_rd_readEnd_4 _ _ (by omega) (by rw [E8]; first | done | omega)) ?_
      simp only [E8, E9]
      clear E8 E9
      refine nb_Gi (fun c21 => ?_) (fun c21 => ?_)
      · have H := nb_Hw ((nb_Hu H).1 c21)
        refine nb_Gr ?_
        refine nb_Wg (q_rd_readEnd_6 _ _ (by omega)) ?_
        refine nb_Gb ?_
        refine nb_W.imp (nb_Hu H) (fun r M11 H => ?_)
        obtain ⟨rfl, W12, g13, H⟩ := H
        replace H := nb_Hw H
        show nb_W 228 7 [(13, 76)] [] M11 _
        refine nb_Wg (q_rd_readEnd_7 _ _) ?_
        refine nb_Gs ?_
        exact nb_Hu H W12
      · have H := nb_Hw ((nb_Hu H).2 (by omega))
        have c21 : M.1 So 12 ≠ 0 := by omega
        refine nb_Gr ?_
        have E14 : nb_rd M 76 4 = So := h764
        have E15 : nb_rd M So 13 = M.1 So 13 := nb_rd_1 _ _ _
        refine nb_Wg (q_rd_readEnd_5 _ _ (by omega) (by rw [E14]; first | done | omega)) ?_
        simp only [E14, E15]
        clear E14 E15
        refine nb_Gi (fun c20 => ?_) (fun c20 => ?_)
        · have H := nb_Hw ((nb_Hu H).1 c20)
          refine nb_Gr ?_
          refine nb_Wg (q_rd_readEnd_6 _ _ (by omega)) ?_
          refine nb_Gb ?_
          refine nb_W.imp (nb_Hu H) (fun r M17 H => ?_)
          obtain ⟨rfl, W18, g19, H⟩ := H
          replace H := nb_Hw H
          show nb_W 228 7 [(13, 76)] [] M17 _
          refine nb_Wg (q_rd_readEnd_7 _ _) ?_
          refine nb_Gs ?_
          exact nb_Hu H W18
        · have H := nb_Hw ((nb_Hu H).2 (by omega))
          have c20 : M.1 So 13 ≠ 0 := by omega
          refine nb_Gr ?_
          refine nb_Wg (q_rd_readEnd_7 _ _) ?_
          refine nb_Gs ?_
          exact nb_Hu H W
  · have H := nb_Hw ((nb_Hu H).2 (by omega))
    have c27 : M.1 76 7 ≠ 0 := by omega
    refine nb_Gr ?_
    refine nb_Wg (q_rd_readEnd_1 _ _ (by omega)) ?_
    refine nb_Gb ?_
    refine nb_W.imp (nb_Hu H) (fun r M24 H => ?_)
    obtain ⟨rfl, W25, g26, H⟩ := H
    replace H := nb_Hw H
    show nb_W 228 2 [(13, 76)] [] M24 _
    refine nb_Wg (q_rd_readEnd_2 _ _) ?_
    refine nb_Gr ?_
    refine nb_Wg (q_rd_readEnd_7 _ _) ?_
    refine nb_Gs ?_
    exact nb_Hu H W25

theorem w_rd_readLine_0 {So : Int} {M : nb_M} {Q : List nb_V → nb_M → Prop} (W : nb_Lay M) (hSo : nb_hs So) (h764 : M.1 76 4 = So) (H : (M.1 76 7 = 2 → nb_W 227 0 [(13, 76), (2, 31)] [] M (fun r M3 => ∃ x2 : Int, r = [(0, x2)] ∧ nb_Lay M3 ∧ M3.1 76 4 = So ∧ (x2 = 0 → (M3.1 So 9 = 0 → nb_W 226 0 [(13, 76), (0, 6)] [] M3 (fun r M9 => r = [] ∧ nb_Lay M9 ∧ M9.1 76 4 = So ∧ (nb_Lay M9 → Q [] M9))) ∧ (M3.1 So 9 ≠ 0 → nb_W 227 0 [(13, 76), (2, 32)] [] M3 (fun r M13 => ∃ x12 : Int, r = [(0, x12)] ∧ nb_Lay M13 ∧ M13.1 76 4 = So ∧ (x12 = 0 → nb_W 227 0 [(13, 76), (2, 33)] [] M13 (fun r M17 => ∃ x16 : Int, r = [(0, x16)] ∧ nb_Lay M17 ∧ M17.1 76 4 = So ∧ (x16 = 0 → nb_W 227 0 [(13, 76), (2, 34)] [] M17 (fun r M21 => ∃ x20 : Int, r = [(0, x20)] ∧ nb_Lay M21 ∧ M21.1 76 4 = So ∧ (x20 = 0 → nb_W 227 0 [(13, 76), (2, 35)] [] M21 (fun r M25 => ∃ x24 : Int, r = [(0, x24)] ∧ nb_Lay M25 ∧ M25.1 76 4 = So ∧ (x24 = 0 → nb_W 237 0 [(13, 76), (98, 0), (98, 0), (98, 0)] [] M25 (fun r M29 => r = [] ∧ nb_Lay M29 ∧ M29.1 76 4 = So ∧ (nb_Lay M29 → Q [] M29))) ∧ (x24 ≠ 0 → nb_W 236 0 [(13, 76), (98, 0)] [] M25 (fun r M33 => r = [] ∧ nb_Lay M33 ∧ M33.1 76 4 = So ∧ (nb_Lay M33 → Q [] M33))))) ∧ (x20 ≠ 0 → nb_W 233 0 [(13, 76), (98, 0), (98, 0), (98, 0), (98, 0), (98, 0), (98, 0), (98, 0)] [] M21 (fun r M38 => r = [] ∧ nb_Lay M38 ∧ M38.1 76 4 = So ∧ (nb_Lay M38 → Q [] M38))))) ∧ (x16 ≠ 0 → nb_W 232 0 [(13, 76), (98, 0), (98, 0), (98, 0), (98, 0), (98, 0), (98, 0), (98, 0), (98, 0)] [] M17 (fun r M43 => r = [] ∧ nb_Lay M43 ∧ M43.1 76 4 = So ∧ (nb_Lay M43 → Q [] M43))))) ∧ (x12 ≠ 0 → nb_W 231 0 [(13, 76), (98, 0), (98, 0), (98, 0)] [] M13 (fun r M48 => r = [] ∧ nb_Lay M48 ∧ M48.1 76 4 = So ∧ (nb_Lay M48 → Q [] M48)))))) ∧ (x2 ≠ 0 → nb_W 230 0 [(13, 76)] [] M3 (fun r M54 => r = [] ∧ nb_Lay M54 ∧ M54.1 76 4 = So ∧ (nb_Lay M54 → Q [] M54))))) ∧ (M.1 76 7 ≠ 2 → nb_W 226 0 [(13, 76), (0, 1)] [] M (fun r M59 => r = [] ∧ nb_Lay M59 ∧ M59.1 76 4 = So ∧ (nb_Lay M59 → Q [] M59)))) :
    nb_W 229 0 [(13, 76)] [] M Q := by
  replace H := nb_Hw H
  have uhSo := hSo
  unfold nb_hs at uhSo
  have E1 : nb_rd M 76 7 = M.1 76 7 := nb_rd_1 _ _ _
  refine nb_Wg (q_rd_readLine_0 _ _ (by omega)) ?_
  simp only [E1]
  clear E1
  refine nb_Gi (fun c62 => ?_) (fun c62 => ?_)
  · have H := nb_Hw ((nb_Hu H).1 c62)
    refine nb_Gr ?_
    refine nb_Wg (q_rd_readLine_3 _ _ (by omega)) ?_
    refine nb_Gb ?_
    refine nb_W.imp (nb_Hu H) (fun r M3 H => ?_)
    obtain ⟨x2, rfl, W4, g5, H⟩ := H
    replace H := nb_Hw H
    show nb_W 229 4 [(13, 76)] [(0, x2)] M3 _
    refine nb_Wg (q_rd_readLine_4 _ _ _) ?_
    refine nb_Gi (fun c57 => ?_) (fun c57 => ?_)
    · have H := nb_Hw ((nb_Hu H).1 c57)
      refine nb_Gr ?_
      have E6 : nb_rd M3 76 4 = So := g5
      have E7 : nb_rd M3 So 9 = M3.1 So 9 := nb_rd_1 _ _ _
      refine nb_Wg (q_rd_readLine_7 _ _ (by omega) (by rw [E6]; first | done | omega)) ?_
      simp only [E6, E7]
      clear E6 E7
      refine nb_Gi (fun c52 => ?_) (fun c52 => ?_)
      · have H := nb_Hw ((nb_Hu H).1 c52)
        refine nb_Gr ?_
        refine nb_Wg (q_rd_readLine_8 _ _ (by omega)) ?_
        refine nb_Gb ?_
        refine nb_W.imp (nb_Hu H) (fun r M9 H => ?_)
        obtain ⟨rfl, W10, g11, H⟩ := H
        replace H := nb_Hw H
        show nb_W 229 9 [(13, 76)] [] M9 _
        refine nb_Wg (q_rd_readLine_9 _ _) ?_
        refine nb_Gr ?_
        refine nb_Wg (q_rd_readLine_27 _ _) ?_
        refine nb_Gs ?_
        exact nb_Hu H W10
      · have H := nb_Hw ((nb_Hu H).2 (by omega))
        have c52 : M3.1 So 9 ≠ 0 := by omega
        refine nb_Gr ?_
        refine nb_Wg (q_rd_readLine_10 _ _ (by omega)) ?_
        refine nb_Gb ?_
        refine nb_W.imp (nb_Hu H) (fun r M13 H => ?_)
        obtain ⟨x12, rfl, W14, g15, H⟩ := H
        replace H := nb_Hw H
        show nb_W 229 11 [(13, 76)] [(0, x12)] M13 _
        refine nb_Wg (q_rd_readLine_11 _ _ _) ?_
        refine nb_Gi (fun c51 => ?_) (fun c51 => ?_)
        · have H := nb_Hw ((nb_Hu H).1 c51)
          refine nb_Gr ?_
          refine nb_Wg (q_rd_readLine_14 _ _ (by omega)) ?_
          refine nb_Gb ?_
          refine nb_W.imp (nb_Hu H) (fun r M17 H => ?_)
          obtain ⟨x16, rfl, W18, g19, H⟩ := H
          replace H := nb_Hw H
          show nb_W 229 15 [(13, 76)] [(0, x16)] M17 _
          refine nb_Wg (q_rd_readLine_15 _ _ _) ?_
          refine nb_Gi (fun c46 => ?_) (fun c46 => ?_)
          · have H := nb_Hw ((nb_Hu H).1 c46)
            refine nb_Gr ?_
            refine nb_Wg (q_rd_readLine_18 _ _ (by omega)) ?_
            refine nb_Gb ?_
            refine nb_W.imp (nb_Hu H) (fun r M21 H => ?_)
            obtain ⟨x20, rfl, W22, g23, H⟩ := H
            replace H := nb_Hw H
            show nb_W 229 19 [(13, 76)] [(0, x20)] M21 _
            refine nb_Wg (q_rd_readLine_19 _ _ _) ?_
            refine nb_Gi (fun c41 => ?_) (fun c41 => ?_)
            · have H := nb_Hw ((nb_Hu H).1 c41)
              refine nb_Gr ?_
              refine nb_Wg (q_rd_readLine_22 _ _ (by omega)) ?_
              refine nb_Gb ?_
              refine nb_W.imp (nb_Hu H) (fun r M25 H => ?_)
              obtain ⟨x24, rfl, W26, g27, H⟩ := H
              replace H := nb_Hw H
              show nb_W 229 23 [(13, 76)] [(0, x24)] M25 _
              refine nb_Wg (q_rd_readLine_23 _ _ _) ?_
              refine nb_Gi (fun c36 => ?_) (fun c36 => ?_)
              · have H := nb_Hw ((nb_Hu H).1 c36)
                refine nb_Gr ?_
                refine nb_Wg (q_rd_readLine_26 _ _ (by omega)) ?_
                refine nb_Gb ?_
                refine nb_W.imp (nb_Hu H) (fun r M29 H => ?_)
                obtain ⟨rfl, W30, g31, H⟩ := H
                replace H := nb_Hw H
                show nb_W 229 27 [(13, 76)] [] M29 _
                refine nb_Wg (q_rd_readLine_27 _ _) ?_
                refine nb_Gs ?_
                exact nb_Hu H W30
              · have H := nb_Hw ((nb_Hu H).2 (by omega))
                have c36 : x24 ≠ 0 := by omega
                refine nb_Gr ?_
                refine nb_Wg (q_rd_readLine_24 _ _ (by omega)) ?_
                refine nb_Gb ?_
                refine nb_W.imp (nb_Hu H) (fun r M33 H => ?_)
                obtain ⟨rfl, W34, g35, H⟩ := H
                replace H := nb_Hw H
                show nb_W 229 25 [(13, 76)] [] M33 _
                refine nb_Wg (q_rd_readLine_25 _ _) ?_
                refine nb_Gr ?_
                refine nb_Wg (q_rd_readLine_27 _ _) ?_
                refine nb_Gs ?_
                exact nb_Hu H W34
            · have H := nb_Hw ((nb_Hu H).2 (by omega))
              have c41 : x20 ≠ 0 := by omega
              refine nb_Gr ?_
              refine nb_Wg (q_rd_readLine_20 _ _ (by omega)) ?_
              refine nb_Gb ?_
              refine nb_W.imp (nb_Hu H) (fun r M38 H => ?_)
              obtain ⟨rfl, W39, g40, H⟩ := H
              replace H := nb_Hw H
              show nb_W 229 21 [(13, 76)] [] M38 _
              refine nb_Wg (q_rd_readLine_21 _ _) ?_
              refine nb_Gr ?_
              refine nb_Wg (q_rd_readLine_27 _ _) ?_
              refine nb_Gs ?_
              exact nb_Hu H W39
          · have H := nb_Hw ((nb_Hu H).2 (by omega))
            have c46 : x16 ≠ 0 := by omega
            refine nb_Gr ?_
            refine nb_Wg (q_rd_readLine_16 _ _ (by omega)) ?_
            refine nb_Gb ?_
            refine nb_W.imp (nb_Hu H) (fun r M43 H => ?_)
            obtain ⟨rfl, W44, g45, H⟩ := H
            replace H := nb_Hw H
            show nb_W 229 17 [(13, 76)] [] M43 _
            refine nb_Wg (q_rd_readLine_17 _ _) ?_
            refine nb_Gr ?_
            refine nb_Wg (q_rd_readLine_27 _ _) ?_
            refine nb_Gs ?_
            exact nb_Hu H W44
        · have H := nb_Hw ((nb_Hu H).2 (by omega))
          have c51 : x12 ≠ 0 := by omega
          refine nb_Gr ?_
          refine nb_Wg (q_rd_readLine_12 _ _ (by omega)) ?_
          refine nb_Gb ?_
          refine nb_W.imp (nb_Hu H) (fun r M48 H => ?_)
          obtain ⟨rfl, W49, g50, H⟩ := H
          replace H := nb_Hw H
          show nb_W 229 13 [(13, 76)] [] M48 _
          refine nb_Wg (q_rd_readLine_13 _ _) ?_
          refine nb_Gr ?_
          refine nb_Wg (q_rd_readLine_27 _ _) ?_
          refine nb_Gs ?_
          exact nb_Hu H W49
    · have H := nb_Hw ((nb_Hu H).2 (by omega))
      have c57 : x2 ≠ 0 := by omega
      refine nb_Gr ?_
      refine nb_Wg (q_rd_readLine_5 _ _ (by omega)) ?_
      refine nb_Gb ?_
      refine nb_W.imp (nb_Hu H) (fun r M54 H => ?_)
      obtain ⟨rfl, W55, g56, H⟩ := H
      replace H := nb_Hw H
      show nb_W 229 6 [(13, 76)] [] M54 _
      refine nb_Wg (q_rd_readLine_6 _ _) ?_
      refine nb_Gr ?_
      refine nb_Wg (q_rd_readLine_27 _ _) ?_
      refine nb_Gs ?_
      exact nb_Hu H W55
  · have H := nb_Hw ((nb_Hu H).2 (by omega))
    have c62 : M.1 76 7 ≠ 2 := by omega
    refine nb_Gr ?_
    refine nb_Wg (q_rd_readLine_1 _ _ (by omega)) ?_
    refine nb_Gb ?_
    refine nb_W.imp (nb_Hu H) (fun r M59 H => ?_)
    obtain ⟨rfl, W60, g61, H⟩ := H
    replace H := nb_Hw H
    show nb_W 229 2 [(13, 76)] [] M59 _
    refine nb_Wg (q_rd_readLine_2 _ _) ?_
    refine nb_Gr ?_
    refine nb_Wg (q_rd_readLine_27 _ _) ?_
    refine nb_Gs ?_
    exact nb_Hu H W60

theorem w_rd_readHouse_0 {So : Int} {M : nb_M} {Q : List nb_V → nb_M → Prop} (W : nb_Lay M) (hSo : nb_hs So) (h764 : M.1 76 4 = So) (H : (M.1 So 9 = 0 → nb_W 230 2 [(13, 76)] [] M Q) ∧ (M.1 So 9 ≠ 0 → nb_W 226 0 [(13, 76), (0, 3)] [] M (fun r M4 => r = [] ∧ nb_Lay M4 ∧ M4.1 76 4 = So ∧ nb_W 230 2 [(13, 76)] [] M4 Q))) :
    nb_W 230 0 [(13, 76)] [] M Q := by
  replace H := nb_Hw H
  have uhSo := hSo
  unfold nb_hs at uhSo
  have E1 : nb_rd M 76 4 = So := h764
  have E2 : nb_rd M So 9 = M.1 So 9 := nb_rd_1 _ _ _
  refine nb_Wg (q_rd_readHouse_0 _ _ (by omega) (by rw [E1]; first | done | omega)) ?_
  simp only [E1, E2]
  clear E1 E2
  refine nb_Gi (fun c7 => ?_) (fun c7 => ?_)
  · have H := nb_Hw ((nb_Hu H).1 c7)
    refine nb_Gr ?_
    exact nb_Hu H
  · have H := nb_Hw ((nb_Hu H).2 (by omega))
    have c7 : M.1 So 9 ≠ 0 := by omega
    refine nb_Gr ?_
    refine nb_Wg (q_rd_readHouse_1 _ _ (by omega)) ?_
    refine nb_Gb ?_
    refine nb_W.imp (nb_Hu H) (fun r M4 H => ?_)
    obtain ⟨rfl, W5, g6, H⟩ := H
    replace H := nb_Hw H
    show nb_W 230 2 [(13, 76)] [] M4 _
    exact nb_Hu H

theorem w_rd_readHouse_2 {So : Int} {M : nb_M} {Q : List nb_V → nb_M → Prop} (W : nb_Lay M) (hSo : nb_hs So) (h764 : M.1 76 4 = So) (H : nb_W 225 0 [(13, 76)] [] M (fun r M2 => r = [] ∧ nb_Lay M2 ∧ M2.1 76 4 = So ∧ nb_W 243 0 [(13, 76), (2, 36), (0, 1), (0, 20)] [] M2 (fun r M7 => ∃ x6 : Int, r = [(0, x6)] ∧ nb_Lay M7 ∧ M7.1 76 4 = So ∧ nb_W 243 0 [(13, 76), (2, 37), (0, 1), (0, 600)] [] (nb_wr M7 So 9 x6) (fun r M13 => ∃ x12 : Int, r = [(0, x12)] ∧ nb_Lay M13 ∧ M13.1 76 4 = So ∧ (nb_Lay (nb_wr M13 So 10 x12) → Q [] (nb_wr M13 So 10 x12)))))) :
    nb_W 230 2 [(13, 76)] [] M Q := by
  replace H := nb_Hw H
  have uhSo := hSo
  unfold nb_hs at uhSo
  refine nb_Wg (q_rd_readHouse_2 _ _ (by omega)) ?_
  refine nb_Gb ?_
  refine nb_W.imp (nb_Hu H) (fun r M2 H => ?_)
  obtain ⟨rfl, W3, g4, H⟩ := H
  replace H := nb_Hw H
  show nb_W 230 3 [(13, 76)] [] M2 _
  have E5 : nb_rd M2 76 4 = So := g4
  refine nb_Wg (q_rd_readHouse_3 _ _ (by omega)) ?_
  simp only [E5]
  clear E5
  refine nb_Gb ?_
  refine nb_W.imp (nb_Hu H) (fun r M7 H => ?_)
  obtain ⟨x6, rfl, W8, g9, H⟩ := H
  replace H := nb_Hw H
  show nb_W 230 4 [(13, 76)] [(0, x6), (12, So)] M7 _
  refine nb_Wg (q_rd_readHouse_4 _ _ _ _ (by omega)) ?_
  have W10 : nb_Lay (nb_wr M7 So 9 x6) := W8.wr (fun w => (nb_nhh (H := So) hSo (by omega)))
  refine nb_Gr ?_
  have E11 : nb_rd (nb_wr M7 So 9 x6) 76 4 = So := nb_rdw (Or.inr (by decide)) (g9)
  refine nb_Wg (q_rd_readHouse_5 _ _ (by omega)) ?_
  simp only [E11]
  clear E11
  refine nb_Gb ?_
  refine nb_W.imp (nb_Hu H) (fun r M13 H => ?_)
  obtain ⟨x12, rfl, W14, g15, H⟩ := H
  replace H := nb_Hw H
  show nb_W 230 6 [(13, 76)] [(0, x12), (12, So)] M13 _
  refine nb_Wg (q_rd_readHouse_6 _ _ _ _ (by omega)) ?_
  have W16 : nb_Lay (nb_wr M13 So 10 x12) := W14.wr (fun w => (nb_nhh (H := So) hSo (by omega)))
  refine nb_Gr ?_
  refine nb_Wg (q_rd_readHouse_7 _ _) ?_
  refine nb_Gs ?_
  exact nb_Hu H W16

theorem w_rd_readDrink_0 {So : Int} {v1 v2 v3 : nb_V} {M : nb_M} {Q : List nb_V → nb_M → Prop} (W : nb_Lay M) (hSo : nb_hs So) (h764 : M.1 76 4 = So) (H : 0 ≤ M.1 So 11 ∧ M.1 So 11 ≤ 5 ∧ nb_W 238 0 [(13, 76), (0, M.1 So 11), (0, 5)] [] M (fun r M4 => r = [] ∧ nb_Lay M4 ∧ M4.1 76 4 = So ∧ nb_W 239 0 [(13, 76), (0, 0), (0, M4.1 So 11)] [] M4 (fun r M10 => r = [] ∧ nb_Lay M10 ∧ M10.1 76 4 = So ∧ nb_W 243 0 [(13, 76), (2, 38), (0, 1), (0, 90)] [] M10 (fun r M14 => ∃ x13 : Int, r = [(0, x13)] ∧ nb_Lay M14 ∧ M14.1 76 4 = So ∧ nb_W 243 0 [(13, 76), (2, 39), (0, 0), (0, x13)] [] M14 (fun r M18 => ∃ x17 : Int, r = [(0, x17)] ∧ nb_Lay M18 ∧ M18.1 76 4 = So ∧ nb_W 243 0 [(13, 76), (2, 40), (0, 0), (0, 99)] [] M18 (fun r M22 => ∃ x21 : Int, r = [(0, x21)] ∧ nb_Lay M22 ∧ M22.1 76 4 = So ∧ (M22.1 76 9 = 0 → (M22.1 So 11 < 5 → 0 ≤ M22.1 So 11 ∧ (nb_Lay (nb_wr (nb_wr (nb_wr (nb_wr M22 (So + 1) (M22.1 So 11) x13) (So + 2) (M22.1 So 11) x17) (So + 3) (M22.1 So 11) x21) So 11 (nb_add (M22.1 So 11) 1)) → Q [] (nb_wr (nb_wr (nb_wr (nb_wr M22 (So + 1) (M22.1 So 11) x13) (So + 2) (M22.1 So 11) x17) (So + 3) (M22.1 So 11) x21) So 11 (nb_add (M22.1 So 11) 1)))) ∧ (5 ≤ M22.1 So 11 → (nb_Lay M22 → Q [] M22))) ∧ (M22.1 76 9 ≠ 0 → (nb_Lay M22 → Q [] M22)))))))) :
    nb_W 231 0 [(13, 76), v1, v2, v3] [] M Q := by
  replace H := nb_Hw H
  have uhSo := hSo
  unfold nb_hs at uhSo
  obtain ⟨p0_, p1_, H⟩ := H
  replace H := nb_Hw H
  have E1 : nb_rd M 76 4 = So := h764
  have E2 : nb_rd M So 11 = M.1 So 11 := nb_rd_1 _ _ _
  refine nb_Wg (q_rd_readDrink_0 _ _ _ _ _ (by omega) (by rw [E1]; first | done | omega)) ?_
  simp only [E1, E2]
  clear E1 E2
  refine nb_Gb ?_
  refine nb_W.imp (nb_Hu H) (fun r M4 H => ?_)
  obtain ⟨rfl, W5, g6, H⟩ := H
  replace H := nb_Hw H
  show nb_W 231 1 [(13, 76), v1, v2, v3] [] M4 _
  have E7 : nb_rd M4 76 4 = So := g6
  have E8 : nb_rd M4 So 11 = M4.1 So 11 := nb_rd_1 _ _ _
  refine nb_Wg (q_rd_readDrink_1 _ _ _ _ _ (by omega) (by rw [E7]; first | done | omega)) ?_
  simp only [E7, E8]
  clear E7 E8
  refine nb_Gb ?_
  refine nb_W.imp (nb_Hu H) (fun r M10 H => ?_)
  obtain ⟨rfl, W11, g12, H⟩ := H
  replace H := nb_Hw H
  show nb_W 231 2 [(13, 76), v1, v2, v3] [] M10 _
  refine nb_Wg (q_rd_readDrink_2 _ _ _ _ _ (by omega)) ?_
  refine nb_Gb ?_
  refine nb_W.imp (nb_Hu H) (fun r M14 H => ?_)
  obtain ⟨x13, rfl, W15, g16, H⟩ := H
  replace H := nb_Hw H
  show nb_W 231 3 [(13, 76), v1, v2, v3] [(0, x13)] M14 _
  refine nb_Wg (q_rd_readDrink_3 _ _ _ _ _ _ (by omega)) ?_
  refine nb_Gb ?_
  refine nb_W.imp (nb_Hu H) (fun r M18 H => ?_)
  obtain ⟨x17, rfl, W19, g20, H⟩ := H
  replace H := nb_Hw H
  show nb_W 231 4 [(13, 76), (0, x13), v2, v3] [(0, x17)] M18 _
  refine nb_Wg (q_rd_readDrink_4 _ _ _ _ _ _ (by omega)) ?_
  refine nb_Gb ?_
  refine nb_W.imp (nb_Hu H) (fun r M22 H => ?_)
  obtain ⟨x21, rfl, W23, g24, H⟩ := H
  replace H := nb_Hw H
  show nb_W 231 5 [(13, 76), (0, x13), (0, x17), v3] [(0, x21)] M22 _
  have E25 : nb_rd M22 76 9 = M22.1 76 9 := nb_rd_1 _ _ _
  refine nb_Wg (q_rd_readDrink_5 _ _ _ _ _ _ (by omega)) ?_
  simp only [E25]
  clear E25
  refine nb_Gi (fun c50 => ?_) (fun c50 => ?_)
  · have H := nb_Hw ((nb_Hu H).1 c50)
    refine nb_Gr ?_
    have E26 : nb_rd M22 76 4 = So := g24
    have E27 : nb_rd M22 So 11 = M22.1 So 11 := nb_rd_1 _ _ _
    refine nb_Wg (q_rd_readDrink_6 _ _ _ _ _ (by omega) (by rw [E26]; first | done | omega)) ?_
    simp only [E26, E27]
    clear E26 E27
    refine nb_Gi (fun c49 => ?_) (fun c49 => ?_)
    · have H := nb_Hw ((nb_Hu H).1 c49)
      refine nb_Gr ?_
      obtain ⟨p0_, H⟩ := H
      replace H := nb_Hw H
      have E28 : nb_rd M22 76 4 = So := g24
      have E29 : nb_rd M22 So 0 = So + 1 := W23.h0 (H := So) hSo
      have E30 : nb_rd M22 76 4 = So := g24
      have E31 : nb_rd M22 So 11 = M22.1 So 11 := nb_rd_1 _ _ _
      have N32 : nb_ln M22 (So + 1) = 5 := W23.hn1 (H := So) hSo
      refine nb_Wg (q_rd_readDrink_7 _ _ _ _ _ (by omega) (by rw [E28]; first | done | omega) (by rw [E28, E29]; first | done | omega) (by rw [E28, E29]; first | done | omega) (by rw [E30, E31]; first | done | omega) (by rw [E30, E31, E29, N32]; first | done | omega)) ?_
      simp only [E28, E29, E30, E31]
      clear E28 E29 E30 E31 N32
      have W33 : nb_Lay (nb_wr M22 (So + 1) (M22.1 So 11) x13) := W23.wr (fun w => (nb_nh1 (H := So) hSo))
      refine nb_Gr ?_
      have E34 : nb_rd (nb_wr M22 (So + 1) (M22.1 So 11) x13) 76 4 = So := nb_rdw (Or.inl (by omega)) (g24)
      have E35 : nb_rd (nb_wr M22 (So + 1) (M22.1 So 11) x13) So 1 = So + 2 := W33.h1 (H := So) hSo
      have E36 : nb_rd (nb_wr M22 (So + 1) (M22.1 So 11) x13) 76 4 = So := nb_rdw (Or.inl (by omega)) (g24)
      have E37 : nb_rd (nb_wr M22 (So + 1) (M22.1 So 11) x13) So 11 = M22.1 So 11 := nb_rdw (Or.inl (by omega)) (nb_rd_1 _ _ _)
      have N38 : nb_ln (nb_wr M22 (So + 1) (M22.1 So 11) x13) (So + 2) = 5 := W33.hn2 (H := So) hSo
      refine nb_Wg (q_rd_readDrink_8 _ _ _ _ _ (by omega) (by rw [E34]; first | done | omega) (by rw [E34, E35]; first | done | omega) (by rw [E34, E35]; first | done | omega) (by rw [E36, E37]; first | done | omega) (by rw [E36, E37, E35, N38]; first | done | omega)) ?_
      simp only [E34, E35, E36, E37]
      clear E34 E35 E36 E37 N38
      have W39 : nb_Lay (nb_wr (nb_wr M22 (So + 1) (M22.1 So 11) x13) (So + 2) (M22.1 So 11) x17) := W33.wr (fun w => (nb_nh2 (H := So) hSo))
      refine nb_Gr ?_
      have E40 : nb_rd (nb_wr (nb_wr M22 (So + 1) (M22.1 So 11) x13) (So + 2) (M22.1 So 11) x17) 76 4 = So := nb_rdw (Or.inl (by omega)) (nb_rdw (Or.inl (by omega)) (g24))
      have E41 : nb_rd (nb_wr (nb_wr M22 (So + 1) (M22.1 So 11) x13) (So + 2) (M22.1 So 11) x17) So 2 = So + 3 := W39.h2 (H := So) hSo
      have E42 : nb_rd (nb_wr (nb_wr M22 (So + 1) (M22.1 So 11) x13) (So + 2) (M22.1 So 11) x17) 76 4 = So := nb_rdw (Or.inl (by omega)) (nb_rdw (Or.inl (by omega)) (g24))
      have E43 : nb_rd (nb_wr (nb_wr M22 (So + 1) (M22.1 So 11) x13) (So + 2) (M22.1 So 11) x17) So 11 = M22.1 So 11 := nb_rdw (Or.inl (by omega)) (nb_rdw (Or.inl (by omega)) (nb_rd_1 _ _ _))
      have N44 : nb_ln (nb_wr (nb_wr M22 (So + 1) (M22.1 So 11) x13) (So + 2) (M22.1 So 11) x17) (So + 3) = 5 := W39.hn3 (H := So) hSo
      refine nb_Wg (q_rd_readDrink_9 _ _ _ _ _ (by omega) (by rw [E40]; first | done | omega) (by rw [E40, E41]; first | done | omega) (by rw [E40, E41]; first | done | omega) (by rw [E42, E43]; first | done | omega) (by rw [E42, E43, E41, N44]; first | done | omega)) ?_
      simp only [E40, E41, E42, E43]
      clear E40 E41 E42 E43 N44
      have W45 : nb_Lay (nb_wr (nb_wr (nb_wr M22 (So + 1) (M22.1 So 11) x13) (So + 2) (M22.1 So 11) x17) (So + 3) (M22.1 So 11) x21) := W39.wr (fun w => (nb_nh3 (H := So) hSo))
      refine nb_Gr ?_
      have E46 : nb_rd (nb_wr (nb_wr (nb_wr M22 (So + 1) (M22.1 So 11) x13) (So + 2) (M22.1 So 11) x17) (So + 3) (M22.1 So 11) x21) 76 4 = So := nb_rdw (Or.inl (by omega)) (nb_rdw (Or.inl (by omega)) (nb_rdw (Or.inl (by omega)) (g24)))
      have E47 : nb_rd (nb_wr (nb_wr (nb_wr M22 (So + 1) (M22.1 So 11) x13) (So + 2) (M22.1 So 11) x17) (So + 3) (M22.1 So 11) x21) So 11 = M22.1 So 11 := nb_rdw (Or.inl (by omega)) (nb_rdw (Or.inl (by omega)) (nb_rdw (Or.inl (by omega)) (nb_rd_1 _ _ _)))
      refine nb_Wg (q_rd_readDrink_10 _ _ _ _ _ (by omega) (by rw [E46]; first | done | omega)) ?_
      simp only [E46, E47]
      clear E46 E47
      have W48 : nb_Lay (nb_wr (nb_wr (nb_wr (nb_wr M22 (So + 1) (M22.1 So 11) x13) (So + 2) (M22.1 So 11) x17) (So + 3) (M22.1 So 11) x21) So 11 (nb_add (M22.1 So 11) 1)) := W45.wr (fun w => (nb_nhh (H := So) hSo (by omega)))
      refine nb_Gr ?_
      refine nb_Wg (q_rd_readDrink_11 _ _ _ _ _) ?_
      refine nb_Gs ?_
      exact nb_Hu H W48
    · have H := nb_Hw ((nb_Hu H).2 (by omega))
      have c49 : 5 ≤ M22.1 So 11 := by omega
      refine nb_Gr ?_
      refine nb_Wg (q_rd_readDrink_11 _ _ _ _ _) ?_
      refine nb_Gs ?_
      exact nb_Hu H W23
  · have H := nb_Hw ((nb_Hu H).2 (by omega))
    have c50 : M22.1 76 9 ≠ 0 := by omega
    refine nb_Gr ?_
    refine nb_Wg (q_rd_readDrink_11 _ _ _ _ _) ?_
    refine nb_Gs ?_
    exact nb_Hu H W23

theorem w_rd_readStaff_0 {So : Int} {v1 v2 v3 v4 v5 v6 v7 v8 : nb_V} {M : nb_M} {Q : List nb_V → nb_M → Prop} (W : nb_Lay M) (hSo : nb_hs So) (h764 : M.1 76 4 = So) (H : 0 ≤ M.1 So 12 ∧ M.1 So 12 ≤ 3 ∧ nb_W 238 0 [(13, 76), (0, M.1 So 12), (0, 3)] [] M (fun r M4 => r = [] ∧ nb_Lay M4 ∧ M4.1 76 4 = So ∧ nb_W 239 0 [(13, 76), (0, 1), (0, M4.1 So 12)] [] M4 (fun r M10 => r = [] ∧ nb_Lay M10 ∧ M10.1 76 4 = So ∧ nb_W 245 0 [(13, 76), (98, 0)] [] M10 (fun r M14 => ∃ x13 : Int, r = [(0, x13)] ∧ nb_Lay M14 ∧ M14.1 76 4 = So ∧ nb_W 243 0 [(13, 76), (2, 41), (0, 0), (0, nb_sub (M14.1 So 9) 1)] [] M14 (fun r M20 => ∃ x19 : Int, r = [(0, x19)] ∧ nb_Lay M20 ∧ M20.1 76 4 = So ∧ nb_W 243 0 [(13, 76), (2, 42), (0, 0), (0, nb_sub (M14.1 So 9) 1)] [] M20 (fun r M24 => ∃ x23 : Int, r = [(0, x23)] ∧ nb_Lay M24 ∧ M24.1 76 4 = So ∧ nb_W 243 0 [(13, 76), (2, 43), (0, x23), (0, nb_sub (M14.1 So 9) 1)] [] M24 (fun r M28 => ∃ x27 : Int, r = [(0, x27)] ∧ nb_Lay M28 ∧ M28.1 76 4 = So ∧ nb_W 243 0 [(13, 76), (2, 44), (0, 0), (0, 9)] [] M28 (fun r M32 => ∃ x31 : Int, r = [(0, x31)] ∧ nb_Lay M32 ∧ M32.1 76 4 = So ∧ nb_W 243 0 [(13, 76), (2, 45), (0, 1), (0, 2)] [] M32 (fun r M36 => ∃ x35 : Int, r = [(0, x35)] ∧ nb_Lay M36 ∧ M36.1 76 4 = So ∧ (M36.1 76 9 = 0 → (M36.1 So 12 < 3 → 0 ≤ M36.1 So 12 ∧ nb_W 272 0 [(16, So + 30 + 2 * (M36.1 So 12))] [] M36 (fun r M49 => r = [] ∧ nb_Lay M49 ∧ M49.1 76 4 = So ∧ nb_W 274 0 [(16, So + 30 + 2 * (M36.1 So 12)), (0, x23), (0, x27)] [] (nb_wr (nb_wr M49 (So + 30 + 2 * (M36.1 So 12)) 1 x13) (So + 30 + 2 * (M36.1 So 12)) 2 x19) (fun r M55 => r = [] ∧ nb_Lay M55 ∧ M55.1 76 4 = So ∧ (nb_Lay (nb_wr (nb_wr (nb_wr M55 (So + 30 + 2 * (M36.1 So 12)) 5 x31) (So + 30 + 2 * (M36.1 So 12)) 6 x35) So 12 (nb_add (M55.1 So 12) 1)) → Q [] (nb_wr (nb_wr (nb_wr M55 (So + 30 + 2 * (M36.1 So 12)) 5 x31) (So + 30 + 2 * (M36.1 So 12)) 6 x35) So 12 (nb_add (M55.1 So 12) 1)))))) ∧ (3 ≤ M36.1 So 12 → (nb_Lay M36 → Q [] M36))) ∧ (M36.1 76 9 ≠ 0 → (nb_Lay M36 → Q [] M36))))))))))) :
    nb_W 232 0 [(13, 76), v1, v2, v3, v4, v5, v6, v7, v8] [] M Q := by
  replace H := nb_Hw H
  have uhSo := hSo
  unfold nb_hs at uhSo
  obtain ⟨p0_, p1_, H⟩ := H
  replace H := nb_Hw H
  have E1 : nb_rd M 76 4 = So := h764
  have E2 : nb_rd M So 12 = M.1 So 12 := nb_rd_1 _ _ _
  refine nb_Wg (q_rd_readStaff_0 _ _ _ _ _ _ _ _ _ _ (by omega) (by rw [E1]; first | done | omega)) ?_
  simp only [E1, E2]
  clear E1 E2
  refine nb_Gb ?_
  refine nb_W.imp (nb_Hu H) (fun r M4 H => ?_)
  obtain ⟨rfl, W5, g6, H⟩ := H
  replace H := nb_Hw H
  show nb_W 232 1 [(13, 76), v1, v2, v3, v4, v5, v6, v7, v8] [] M4 _
  have E7 : nb_rd M4 76 4 = So := g6
  have E8 : nb_rd M4 So 12 = M4.1 So 12 := nb_rd_1 _ _ _
  refine nb_Wg (q_rd_readStaff_1 _ _ _ _ _ _ _ _ _ _ (by omega) (by rw [E7]; first | done | omega)) ?_
  simp only [E7, E8]
  clear E7 E8
  refine nb_Gb ?_
  refine nb_W.imp (nb_Hu H) (fun r M10 H => ?_)
  obtain ⟨rfl, W11, g12, H⟩ := H
  replace H := nb_Hw H
  show nb_W 232 2 [(13, 76), v1, v2, v3, v4, v5, v6, v7, v8] [] M10 _
  refine nb_Wg (q_rd_readStaff_2 _ _ _ _ _ _ _ _ _ _ (by omega)) ?_
  refine nb_Gb ?_
  refine nb_W.imp (nb_Hu H) (fun r M14 H => ?_)
  obtain ⟨x13, rfl, W15, g16, H⟩ := H
  replace H := nb_Hw H
  show nb_W 232 3 [(13, 76), v1, v2, v3, v4, v5, v6, v7, v8] [(0, x13)] M14 _
  have E17 : nb_rd M14 76 4 = So := g16
  have E18 : nb_rd M14 So 9 = M14.1 So 9 := nb_rd_1 _ _ _
  refine nb_Wg (q_rd_readStaff_3 _ _ _ _ _ _ _ _ _ _ _ (by omega) (by rw [E17]; first | done | omega)) ?_
  simp only [E17, E18]
  clear E17 E18
  refine nb_Gb ?_
  refine nb_W.imp (nb_Hu H) (fun r M20 H => ?_)
  obtain ⟨x19, rfl, W21, g22, H⟩ := H
  replace H := nb_Hw H
  show nb_W 232 4 [(13, 76), (0, x13), (0, nb_sub (M14.1 So 9) 1), v3, v4, v5, v6, v7, v8] [(0, x19)] M20 _
  refine nb_Wg (q_rd_readStaff_4 _ _ _ _ _ _ _ _ _ _ _ (by omega)) ?_
  refine nb_Gb ?_
  refine nb_W.imp (nb_Hu H) (fun r M24 H => ?_)
  obtain ⟨x23, rfl, W25, g26, H⟩ := H
  replace H := nb_Hw H
  show nb_W 232 5 [(13, 76), (0, x13), (0, nb_sub (M14.1 So 9) 1), (0, x19), v4, v5, v6, v7, v8] [(0, x23)] M24 _
  refine nb_Wg (q_rd_readStaff_5 _ _ _ _ _ _ _ _ _ _ _ (by omega)) ?_
  refine nb_Gb ?_
  refine nb_W.imp (nb_Hu H) (fun r M28 H => ?_)
  obtain ⟨x27, rfl, W29, g30, H⟩ := H
  replace H := nb_Hw H
  show nb_W 232 6 [(13, 76), (0, x13), (0, nb_sub (M14.1 So 9) 1), (0, x19), (0, x23), v5, v6, v7, v8] [(0, x27)] M28 _
  refine nb_Wg (q_rd_readStaff_6 _ _ _ _ _ _ _ _ _ _ _ (by omega)) ?_
  refine nb_Gb ?_
  refine nb_W.imp (nb_Hu H) (fun r M32 H => ?_)
  obtain ⟨x31, rfl, W33, g34, H⟩ := H
  replace H := nb_Hw H
  show nb_W 232 7 [(13, 76), (0, x13), (0, nb_sub (M14.1 So 9) 1), (0, x19), (0, x23), (0, x27), v6, v7, v8] [(0, x31)] M32 _
  refine nb_Wg (q_rd_readStaff_7 _ _ _ _ _ _ _ _ _ _ _ (by omega)) ?_
  refine nb_Gb ?_
  refine nb_W.imp (nb_Hu H) (fun r M36 H => ?_)
  obtain ⟨x35, rfl, W37, g38, H⟩ := H
  replace H := nb_Hw H
  show nb_W 232 8 [(13, 76), (0, x13), (0, nb_sub (M14.1 So 9) 1), (0, x19), (0, x23), (0, x27), (0, x31), v7, v8] [(0, x35)] M36 _
  have E39 : nb_rd M36 76 9 = M36.1 76 9 := nb_rd_1 _ _ _
  refine nb_Wg (q_rd_readStaff_8 _ _ _ _ _ _ _ _ _ _ _ (by omega)) ?_
  simp only [E39]
  clear E39
  refine nb_Gi (fun c64 => ?_) (fun c64 => ?_)
  · have H := nb_Hw ((nb_Hu H).1 c64)
    refine nb_Gr ?_
    have E40 : nb_rd M36 76 4 = So := g38
    have E41 : nb_rd M36 So 12 = M36.1 So 12 := nb_rd_1 _ _ _
    refine nb_Wg (q_rd_readStaff_9 _ _ _ _ _ _ _ _ _ _ (by omega) (by rw [E40]; first | done | omega)) ?_
    simp only [E40, E41]
    clear E40 E41
    refine nb_Gi (fun c63 => ?_) (fun c63 => ?_)
    · have H := nb_Hw ((nb_Hu H).1 c63)
      refine nb_Gr ?_
      obtain ⟨p0_, H⟩ := H
      replace H := nb_Hw H
      have E42 : nb_rd M36 76 4 = So := g38
      have E43 : nb_rd M36 So 5 = So + 16 := W37.h5 (H := So) hSo
      have E44 : nb_rd M36 76 4 = So := g38
      have E45 : nb_rd M36 So 12 = M36.1 So 12 := nb_rd_1 _ _ _
      have N46 : nb_ln M36 (So + 16) = 3 := W37.hn16 (H := So) hSo
      have E47 : nb_rd M36 (So + 16) (M36.1 So 12) = So + 30 + 2 * (M36.1 So 12) := W37.hv (H := So) (i := M36.1 So 12) hSo (by omega) (by omega)
      refine nb_Wg (q_rd_readStaff_10 _ _ _ _ _ _ _ _ _ _ (by omega) (by rw [E42]; first | done | omega) (by rw [E42, E43]; first | done | omega) (by rw [E44, E45]; first | done | omega) (by rw [E44, E45, E43, N46]; first | done | omega) (by rw [E42, E43, E45, E47]; first | done | omega)) ?_
      simp only [E42, E43, E44, E45, E47]
      clear E42 E43 E44 E45 N46 E47
      refine nb_Gb ?_
      refine nb_W.imp (nb_Hu H) (fun r M49 H => ?_)
      obtain ⟨rfl, W50, g51, H⟩ := H
      replace H := nb_Hw H
      show nb_W 232 11 [(13, 76), (0, x13), (0, nb_sub (M14.1 So 9) 1), (0, x19), (0, x23), (0, x27), (0, x31), (0, x35), (16, So + 30 + 2 * (M36.1 So 12))] [] M49 _
      refine nb_Wg (q_rd_readStaff_11 _ _ _ _ _ _ _ _ _ _ (by omega)) ?_
      have W52 : nb_Lay (nb_wr M49 (So + 30 + 2 * (M36.1 So 12)) 1 x13) := W50.wr (fun w => (nb_nhv (H := So) (i := M36.1 So 12) hSo (by omega) (by omega) (by omega)))
      refine nb_Gr ?_
      refine nb_Wg (q_rd_readStaff_12 _ _ _ _ _ _ _ _ _ _ (by omega)) ?_
      have W53 : nb_Lay (nb_wr (nb_wr M49 (So + 30 + 2 * (M36.1 So 12)) 1 x13) (So + 30 + 2 * (M36.1 So 12)) 2 x19) := W52.wr (fun w => (nb_nhv (H := So) (i := M36.1 So 12) hSo (by omega) (by omega) (by omega)))
      refine nb_Gr ?_
      refine nb_Wg (q_rd_readStaff_13 _ _ _ _ _ _ _ _ _ _ (by omega)) ?_
      refine nb_Gb ?_
      refine nb_W.imp (nb_Hu H) (fun r M55 H => ?_)
      obtain ⟨rfl, W56, g57, H⟩ := H
      replace H := nb_Hw H
      show nb_W 232 14 [(13, 76), (0, x13), (0, nb_sub (M14.1 So 9) 1), (0, x19), (0, x23), (0, x27), (0, x31), (0, x35), (16, So + 30 + 2 * (M36.1 So 12))] [] M55 _
      refine nb_Wg (q_rd_readStaff_14 _ _ _ _ _ _ _ _ _ _ (by omega)) ?_
      have W58 : nb_Lay (nb_wr M55 (So + 30 + 2 * (M36.1 So 12)) 5 x31) := W56.wr (fun w => (nb_nhv (H := So) (i := M36.1 So 12) hSo (by omega) (by omega) (by omega)))
      refine nb_Gr ?_
      refine nb_Wg (q_rd_readStaff_15 _ _ _ _ _ _ _ _ _ _ (by omega)) ?_
      have W59 : nb_Lay (nb_wr (nb_wr M55 (So + 30 + 2 * (M36.1 So 12)) 5 x31) (So + 30 + 2 * (M36.1 So 12)) 6 x35) := W58.wr (fun w => (nb_nhv (H := So) (i := M36.1 So 12) hSo (by omega) (by omega) (by omega)))
      refine nb_Gr ?_
      have E60 : nb_rd (nb_wr (nb_wr M55 (So + 30 + 2 * (M36.1 So 12)) 5 x31) (So + 30 + 2 * (M36.1 So 12)) 6 x35) 76 4 = So := nb_rdw (Or.inr (by decide)) (nb_rdw (Or.inr (by decide)) (g57))
      have E61 : nb_rd (nb_wr (nb_wr M55 (So + 30 + 2 * (M36.1 So 12)) 5 x31) (So + 30 + 2 * (M36.1 So 12)) 6 x35) So 12 = M55.1 So 12 := nb_rdw (Or.inr (by decide)) (nb_rdw (Or.inr (by decide)) (nb_rd_1 _ _ _))
      refine nb_Wg (q_rd_readStaff_16 _ _ _ _ _ _ _ _ _ _ (by omega) (by rw [E60]; first | done | omega)) ?_
      simp only [E60, E61]
      clear E60 E61
      have W62 : nb_Lay (nb_wr (nb_wr (nb_wr M55 (So + 30 + 2 * (M36.1 So 12)) 5 x31) (So + 30 + 2 * (M36.1 So 12)) 6 x35) So 12 (nb_add (M55.1 So 12) 1)) := W59.wr (fun w => (nb_nhh (H := So) hSo (by omega)))
      refine nb_Gr ?_
      refine nb_Wg (q_rd_readStaff_17 _ _ _ _ _ _ _ _ _ _) ?_
      refine nb_Gs ?_
      exact nb_Hu H W62
    · have H := nb_Hw ((nb_Hu H).2 (by omega))
      have c63 : 3 ≤ M36.1 So 12 := by omega
      refine nb_Gr ?_
      refine nb_Wg (q_rd_readStaff_17 _ _ _ _ _ _ _ _ _ _) ?_
      refine nb_Gs ?_
      exact nb_Hu H W37
  · have H := nb_Hw ((nb_Hu H).2 (by omega))
    have c64 : M36.1 76 9 ≠ 0 := by omega
    refine nb_Gr ?_
    refine nb_Wg (q_rd_readStaff_17 _ _ _ _ _ _ _ _ _ _) ?_
    refine nb_Gs ?_
    exact nb_Hu H W37

theorem w_rd_readPerson_0 {So : Int} {v1 v2 v3 v4 v5 v6 v7 : nb_V} {M : nb_M} {Q : List nb_V → nb_M → Prop} (W : nb_Lay M) (hSo : nb_hs So) (h764 : M.1 76 4 = So) (H : 0 ≤ M.1 So 13 ∧ M.1 So 13 ≤ 10 ∧ nb_W 238 0 [(13, 76), (0, M.1 So 13), (0, 10)] [] M (fun r M4 => r = [] ∧ nb_Lay M4 ∧ M4.1 76 4 = So ∧ nb_W 239 0 [(13, 76), (0, 2), (0, M4.1 So 13)] [] M4 (fun r M10 => r = [] ∧ nb_Lay M10 ∧ M10.1 76 4 = So ∧ nb_W 246 0 [(13, 76), (98, 0)] [] M10 (fun r M14 => ∃ x13 : Int, r = [(0, x13)] ∧ nb_Lay M14 ∧ M14.1 76 4 = So ∧ (x13 = 1 → nb_W 244 0 [(13, 76), (0, 1), (0, 99), (98, 0)] [] M14 (fun r M18 => ∃ x17 : Int, r = [(0, x17)] ∧ nb_Lay M18 ∧ M18.1 76 4 = So ∧ nb_W 233 7 [(13, 76), (0, x13), (0, x17), v3, v4, v5, v6, v7] [] M18 Q)) ∧ (x13 ≠ 1 → (x13 = 2 → nb_W 244 0 [(13, 76), (0, 1), (0, 99), (98, 0)] [] M14 (fun r M22 => ∃ x21 : Int, r = [(0, x21)] ∧ nb_Lay M22 ∧ M22.1 76 4 = So ∧ nb_W 233 7 [(13, 76), (0, x13), (0, x21), v3, v4, v5, v6, v7] [] M22 Q)) ∧ (x13 ≠ 2 → nb_W 233 7 [(13, 76), (0, x13), (0, 0), v3, v4, v5, v6, v7] [] M14 Q)))))) :
    nb_W 233 0 [(13, 76), v1, v2, v3, v4, v5, v6, v7] [] M Q := by
  replace H := nb_Hw H
  have uhSo := hSo
  unfold nb_hs at uhSo
  obtain ⟨p0_, p1_, H⟩ := H
  replace H := nb_Hw H
  have E1 : nb_rd M 76 4 = So := h764
  have E2 : nb_rd M So 13 = M.1 So 13 := nb_rd_1 _ _ _
  refine nb_Wg (q_rd_readPerson_0 _ _ _ _ _ _ _ _ _ (by omega) (by rw [E1]; first | done | omega)) ?_
  simp only [E1, E2]
  clear E1 E2
  refine nb_Gb ?_
  refine nb_W.imp (nb_Hu H) (fun r M4 H => ?_)
  obtain ⟨rfl, W5, g6, H⟩ := H
  replace H := nb_Hw H
  show nb_W 233 1 [(13, 76), v1, v2, v3, v4, v5, v6, v7] [] M4 _
  have E7 : nb_rd M4 76 4 = So := g6
  have E8 : nb_rd M4 So 13 = M4.1 So 13 := nb_rd_1 _ _ _
  refine nb_Wg (q_rd_readPerson_1 _ _ _ _ _ _ _ _ _ (by omega) (by rw [E7]; first | done | omega)) ?_
  simp only [E7, E8]
  clear E7 E8
  refine nb_Gb ?_
  refine nb_W.imp (nb_Hu H) (fun r M10 H => ?_)
  obtain ⟨rfl, W11, g12, H⟩ := H
  replace H := nb_Hw H
  show nb_W 233 2 [(13, 76), v1, v2, v3, v4, v5, v6, v7] [] M10 _
  refine nb_Wg (q_rd_readPerson_2 _ _ _ _ _ _ _ _ _ (by omega)) ?_
  refine nb_Gb ?_
  refine nb_W.imp (nb_Hu H) (fun r M14 H => ?_)
  obtain ⟨x13, rfl, W15, g16, H⟩ := H
  replace H := nb_Hw H
  show nb_W 233 3 [(13, 76), v1, v2, v3, v4, v5, v6, v7] [(0, x13)] M14 _
  refine nb_Wg (q_rd_readPerson_3 _ _ _ _ _ _ _ _ _ _) ?_
  refine nb_Gi (fun c26 => ?_) (fun c26 => ?_)
  · have H := nb_Hw ((nb_Hu H).1 c26)
    refine nb_Gr ?_
    refine nb_Wg (q_rd_readPerson_5 _ _ _ _ _ _ _ _ _ (by omega)) ?_
    refine nb_Gb ?_
    refine nb_W.imp (nb_Hu H) (fun r M18 H => ?_)
    obtain ⟨x17, rfl, W19, g20, H⟩ := H
    replace H := nb_Hw H
    show nb_W 233 6 [(13, 76), (0, x13), (0, 0), v3, v4, v5, v6, v7] [(0, x17)] M18 _
    refine nb_Wg (q_rd_readPerson_6 _ _ _ _ _ _ _ _ _ _) ?_
    refine nb_Gr ?_
    exact nb_Hu H
  · have H := nb_Hw ((nb_Hu H).2 (by omega))
    have c26 : x13 ≠ 1 := by omega
    refine nb_Gr ?_
    refine nb_Wg (q_rd_readPerson_4 _ _ _ _ _ _ _ _ _) ?_
    refine nb_Gi (fun c25 => ?_) (fun c25 => ?_)
    · have H := nb_Hw ((nb_Hu H).1 c25)
      refine nb_Gr ?_
      refine nb_Wg (q_rd_readPerson_5 _ _ _ _ _ _ _ _ _ (by omega)) ?_
      refine nb_Gb ?_
      refine nb_W.imp (nb_Hu H) (fun r M22 H => ?_)
      obtain ⟨x21, rfl, W23, g24, H⟩ := H
      replace H := nb_Hw H
      show nb_W 233 6 [(13, 76), (0, x13), (0, 0), v3, v4, v5, v6, v7] [(0, x21)] M22 _
      refine nb_Wg (q_rd_readPerson_6 _ _ _ _ _ _ _ _ _ _) ?_
      refine nb_Gr ?_
      exact nb_Hu H
    · have H := nb_Hw ((nb_Hu H).2 (by omega))
      have c25 : x13 ≠ 2 := by omega
      refine nb_Gr ?_
      exact nb_Hu H

theorem w_rd_readPerson_7 {l1 l2 So : Int} {v3 v4 v5 v6 v7 : nb_V} {M : nb_M} {Q : List nb_V → nb_M → Prop} (W : nb_Lay M) (hSo : nb_hs So) (h764 : M.1 76 4 = So) (H : nb_W 243 0 [(13, 76), (2, 46), (0, 0), (0, M.1 So 10)] [] M (fun r M4 => ∃ x3 : Int, r = [(0, x3)] ∧ nb_Lay M4 ∧ M4.1 76 4 = So ∧ nb_W 243 0 [(13, 76), (2, 41), (0, 0), (0, nb_sub (M4.1 So 9) 1)] [] M4 (fun r M10 => ∃ x9 : Int, r = [(0, x9)] ∧ nb_Lay M10 ∧ M10.1 76 4 = So ∧ nb_W 243 0 [(13, 76), (2, 47), (0, 0), (0, 600)] [] M10 (fun r M14 => ∃ x13 : Int, r = [(0, x13)] ∧ nb_Lay M14 ∧ M14.1 76 4 = So ∧ nb_W 243 0 [(13, 76), (2, 48), (0, 0), (0, 99)] [] M14 (fun r M18 => ∃ x17 : Int, r = [(0, x17)] ∧ nb_Lay M18 ∧ M18.1 76 4 = So ∧ nb_W 242 0 [(13, 76), (2, 49)] [] M18 (fun r M22 => r = [] ∧ nb_Lay M22 ∧ M22.1 76 4 = So ∧ (M22.1 76 9 = 0 → (M22.1 So 13 < 10 → 0 ≤ M22.1 So 13 ∧ nb_W 216 0 [(11, So + 20 + (M22.1 So 13)), (0, l1), (0, l2)] [] (nb_wr (nb_wr (nb_wr (nb_wr M22 (So + 20 + (M22.1 So 13)) 2 x3) (So + 20 + (M22.1 So 13)) 3 x9) (So + 20 + (M22.1 So 13)) 4 x13) (So + 20 + (M22.1 So 13)) 5 x17) (fun r M39 => r = [] ∧ nb_Lay M39 ∧ M39.1 76 4 = So ∧ 0 ≤ M39.1 So 13 ∧ M39.1 So 13 < 10 ∧ nb_W 234 0 [(13, 76), (3, So + 5 + (M39.1 So 13)), (98, 0)] [] M39 (fun r M49 => r = [] ∧ nb_Lay M49 ∧ M49.1 76 4 = So ∧ (nb_Lay (nb_wr M49 So 13 (nb_add (M49.1 So 13) 1)) → Q [] (nb_wr M49 So 13 (nb_add (M49.1 So 13) 1)))))) ∧ (10 ≤ M22.1 So 13 → (nb_Lay M22 → Q [] M22))) ∧ (M22.1 76 9 ≠ 0 → (nb_Lay M22 → Q [] M22)))))))) :
    nb_W 233 7 [(13, 76), (0, l1), (0, l2), v3, v4, v5, v6, v7] [] M Q := by
  replace H := nb_Hw H
  have uhSo := hSo
  unfold nb_hs at uhSo
  have E1 : nb_rd M 76 4 = So := h764
  have E2 : nb_rd M So 10 = M.1 So 10 := nb_rd_1 _ _ _
  refine nb_Wg (q_rd_readPerson_7 _ _ _ _ _ _ _ _ _ (by omega) (by rw [E1]; first | done | omega)) ?_
  simp only [E1, E2]
  clear E1 E2
  refine nb_Gb ?_
  refine nb_W.imp (nb_Hu H) (fun r M4 H => ?_)
  obtain ⟨x3, rfl, W5, g6, H⟩ := H
  replace H := nb_Hw H
  show nb_W 233 8 [(13, 76), (0, l1), (0, l2), v3, v4, v5, v6, v7] [(0, x3)] M4 _
  have E7 : nb_rd M4 76 4 = So := g6
  have E8 : nb_rd M4 So 9 = M4.1 So 9 := nb_rd_1 _ _ _
  refine nb_Wg (q_rd_readPerson_8 _ _ _ _ _ _ _ _ _ _ (by omega) (by rw [E7]; first | done | omega)) ?_
  simp only [E7, E8]
  clear E7 E8
  refine nb_Gb ?_
  refine nb_W.imp (nb_Hu H) (fun r M10 H => ?_)
  obtain ⟨x9, rfl, W11, g12, H⟩ := H
  replace H := nb_Hw H
  show nb_W 233 9 [(13, 76), (0, l1), (0, l2), (0, x3), v4, v5, v6, v7] [(0, x9)] M10 _
  refine nb_Wg (q_rd_readPerson_9 _ _ _ _ _ _ _ _ _ _ (by omega)) ?_
  refine nb_Gb ?_
  refine nb_W.imp (nb_Hu H) (fun r M14 H => ?_)
  obtain ⟨x13, rfl, W15, g16, H⟩ := H
  replace H := nb_Hw H
  show nb_W 233 10 [(13, 76), (0, l1), (0, l2), (0, x3), (0, x9), v5, v6, v7] [(0, x13)] M14 _
  refine nb_Wg (q_rd_readPerson_10 _ _ _ _ _ _ _ _ _ _ (by omega)) ?_
  refine nb_Gb ?_
  refine nb_W.imp (nb_Hu H) (fun r M18 H => ?_)
  obtain ⟨x17, rfl, W19, g20, H⟩ := H
  replace H := nb_Hw H
  show nb_W 233 11 [(13, 76), (0, l1), (0, l2), (0, x3), (0, x9), (0, x13), v6, v7] [(0, x17)] M18 _
  refine nb_Wg (q_rd_readPerson_11 _ _ _ _ _ _ _ _ _ _ (by omega)) ?_
  refine nb_Gb ?_
  refine nb_W.imp (nb_Hu H) (fun r M22 H => ?_)
  obtain ⟨rfl, W23, g24, H⟩ := H
  replace H := nb_Hw H
  show nb_W 233 12 [(13, 76), (0, l1), (0, l2), (0, x3), (0, x9), (0, x13), (0, x17), v7] [] M22 _
  have E25 : nb_rd M22 76 9 = M22.1 76 9 := nb_rd_1 _ _ _
  refine nb_Wg (q_rd_readPerson_12 _ _ _ _ _ _ _ _ _ (by omega)) ?_
  simp only [E25]
  clear E25
  refine nb_Gi (fun c56 => ?_) (fun c56 => ?_)
  · have H := nb_Hw ((nb_Hu H).1 c56)
    refine nb_Gr ?_
    have E26 : nb_rd M22 76 4 = So := g24
    have E27 : nb_rd M22 So 13 = M22.1 So 13 := nb_rd_1 _ _ _
    refine nb_Wg (q_rd_readPerson_13 _ _ _ _ _ _ _ _ _ (by omega) (by rw [E26]; first | done | omega)) ?_
    simp only [E26, E27]
    clear E26 E27
    refine nb_Gi (fun c55 => ?_) (fun c55 => ?_)
    · have H := nb_Hw ((nb_Hu H).1 c55)
      refine nb_Gr ?_
      obtain ⟨p0_, H⟩ := H
      replace H := nb_Hw H
      have E28 : nb_rd M22 76 4 = So := g24
      have E29 : nb_rd M22 So 4 = So + 15 := W23.h4 (H := So) hSo
      have E30 : nb_rd M22 76 4 = So := g24
      have E31 : nb_rd M22 So 13 = M22.1 So 13 := nb_rd_1 _ _ _
      have N32 : nb_ln M22 (So + 15) = 10 := W23.hn15 (H := So) hSo
      have E33 : nb_rd M22 (So + 15) (M22.1 So 13) = So + 20 + (M22.1 So 13) := W23.hg (H := So) (i := M22.1 So 13) hSo (by omega) (by omega)
      refine nb_Wg (q_rd_readPerson_14 _ _ _ _ _ _ _ _ _ (by omega) (by rw [E28]; first | done | omega) (by rw [E28, E29]; first | done | omega) (by rw [E30, E31]; first | done | omega) (by rw [E30, E31, E29, N32]; first | done | omega) (by rw [E28, E29, E31, E33]; first | done | omega)) ?_
      simp only [E28, E29, E30, E31, E33]
      clear E28 E29 E30 E31 N32 E33
      have W34 : nb_Lay (nb_wr M22 (So + 20 + (M22.1 So 13)) 2 x3) := W23.wr (fun w => (nb_nhg (H := So) (i := M22.1 So 13) hSo (by omega) (by omega)))
      refine nb_Gr ?_
      refine nb_Wg (q_rd_readPerson_15 _ _ _ _ _ _ _ _ _ (by omega)) ?_
      have W35 : nb_Lay (nb_wr (nb_wr M22 (So + 20 + (M22.1 So 13)) 2 x3) (So + 20 + (M22.1 So 13)) 3 x9) := W34.wr (fun w => (nb_nhg (H := So) (i := M22.1 So 13) hSo (by omega) (by omega)))
      refine nb_Gr ?_
      refine nb_Wg (q_rd_readPerson_16 _ _ _ _ _ _ _ _ _ (by omega)) ?_
      have W36 : nb_Lay (nb_wr (nb_wr (nb_wr M22 (So + 20 + (M22.1 So 13)) 2 x3) (So + 20 + (M22.1 So 13)) 3 x9) (So + 20 + (M22.1 So 13)) 4 x13) := W35.wr (fun w => (nb_nhg (H := So) (i := M22.1 So 13) hSo (by omega) (by omega)))
      refine nb_Gr ?_
      refine nb_Wg (q_rd_readPerson_17 _ _ _ _ _ _ _ _ _ (by omega)) ?_
      have W37 : nb_Lay (nb_wr (nb_wr (nb_wr (nb_wr M22 (So + 20 + (M22.1 So 13)) 2 x3) (So + 20 + (M22.1 So 13)) 3 x9) (So + 20 + (M22.1 So 13)) 4 x13) (So + 20 + (M22.1 So 13)) 5 x17) := W36.wr (fun w => (nb_nhg (H := So) (i := M22.1 So 13) hSo (by omega) (by omega)))
      refine nb_Gr ?_
      refine nb_Wg (q_rd_readPerson_18 _ _ _ _ _ _ _ _ _ (by omega)) ?_
      refine nb_Gb ?_
      refine nb_W.imp (nb_Hu H) (fun r M39 H => ?_)
      obtain ⟨rfl, W40, g41, H⟩ := H
      replace H := nb_Hw H
      show nb_W 233 19 [(13, 76), (0, l1), (0, l2), (0, x3), (0, x9), (0, x13), (0, x17), (11, So + 20 + (M22.1 So 13))] [] M39 _
      obtain ⟨p0_, p1_, H⟩ := H
      replace H := nb_Hw H
      have E42 : nb_rd M39 76 4 = So := g41
      have E43 : nb_rd M39 So 3 = So + 4 := W40.h3 (H := So) hSo
      have E44 : nb_rd M39 76 4 = So := g41
      have E45 : nb_rd M39 So 13 = M39.1 So 13 := nb_rd_1 _ _ _
      have N46 : nb_ln M39 (So + 4) = 10 := W40.hn4 (H := So) hSo
      have E47 : nb_rd M39 (So + 4) (M39.1 So 13) = So + 5 + (M39.1 So 13) := W40.hl (H := So) (i := M39.1 So 13) hSo (by omega) (by omega)
      refine nb_Wg (q_rd_readPerson_19 _ _ _ _ _ _ _ _ _ (by omega) (by rw [E42]; first | done | omega) (by rw [E42, E43]; first | done | omega) (by rw [E44, E45]; first | done | omega) (by rw [E44, E45, E43, N46]; first | done | omega)) ?_
      simp only [E42, E43, E44, E45, E47]
      clear E42 E43 E44 E45 N46 E47
      refine nb_Gb ?_
      refine nb_W.imp (nb_Hu H) (fun r M49 H => ?_)
      obtain ⟨rfl, W50, g51, H⟩ := H
      replace H := nb_Hw H
      show nb_W 233 20 [(13, 76), (0, l1), (0, l2), (0, x3), (0, x9), (0, x13), (0, x17), (11, So + 20 + (M22.1 So 13))] [] M49 _
      have E52 : nb_rd M49 76 4 = So := g51
      have E53 : nb_rd M49 So 13 = M49.1 So 13 := nb_rd_1 _ _ _
      refine nb_Wg (q_rd_readPerson_20 _ _ _ _ _ _ _ _ _ (by omega) (by rw [E52]; first | done | omega)) ?_
      simp only [E52, E53]
      clear E52 E53
      have W54 : nb_Lay (nb_wr M49 So 13 (nb_add (M49.1 So 13) 1)) := W50.wr (fun w => (nb_nhh (H := So) hSo (by omega)))
      refine nb_Gr ?_
      refine nb_Wg (q_rd_readPerson_21 _ _ _ _ _ _ _ _ _) ?_
      refine nb_Gs ?_
      exact nb_Hu H W54
    · have H := nb_Hw ((nb_Hu H).2 (by omega))
      have c55 : 10 ≤ M22.1 So 13 := by omega
      refine nb_Gr ?_
      refine nb_Wg (q_rd_readPerson_21 _ _ _ _ _ _ _ _ _) ?_
      refine nb_Gs ?_
      exact nb_Hu H W23
  · have H := nb_Hw ((nb_Hu H).2 (by omega))
    have c56 : M22.1 76 9 ≠ 0 := by omega
    refine nb_Gr ?_
    refine nb_Wg (q_rd_readPerson_21 _ _ _ _ _ _ _ _ _) ?_
    refine nb_Gs ?_
    exact nb_Hu H W23

theorem w_rd_readOrders_0 {So q : Int} {v2 : nb_V} {M : nb_M} {Q : List nb_V → nb_M → Prop} (W : nb_Lay M) (hSo : nb_hs So) (h764 : M.1 76 4 = So) (hq0 : 0 ≤ q) (hq1 : q < 10) (H : nb_W 235 0 [(13, 76), (3, So + 5 + q), (0, 1), (98, 0)] [] M (fun r M2 => r = [] ∧ nb_Lay M2 ∧ M2.1 76 4 = So ∧ nb_W 234 2 [(13, 76), (3, So + 5 + q), (0, 1)] [] M2 Q)) :
    nb_W 234 0 [(13, 76), (3, So + 5 + q), v2] [] M Q := by
  replace H := nb_Hw H
  have uhSo := hSo
  unfold nb_hs at uhSo
  refine nb_Wg (q_rd_readOrders_0 _ _ _ _ (by omega)) ?_
  refine nb_Gb ?_
  refine nb_W.imp (nb_Hu H) (fun r M2 H => ?_)
  obtain ⟨rfl, W3, g4, H⟩ := H
  replace H := nb_Hw H
  show nb_W 234 1 [(13, 76), (3, So + 5 + q), v2] [] M2 _
  refine nb_Wg (q_rd_readOrders_1 _ _ _ _) ?_
  refine nb_Gr ?_
  exact nb_Hu H

theorem w_rd_readOrders_2 {l2 So q : Int} {M : nb_M} {Q : List nb_V → nb_M → Prop} (W : nb_Lay M) (hSo : nb_hs So) (h764 : M.1 76 4 = So) (hq0 : 0 ≤ q) (hq1 : q < 10) (H : (3 < l2 → (nb_Lay M → Q [] M)) ∧ (l2 ≤ 3 → (M.1 76 9 = 0 → (M.1 76 7 = 5 → nb_W 225 0 [(13, 76)] [] M (fun r M4 => r = [] ∧ nb_Lay M4 ∧ M4.1 76 4 = So ∧ (l2 < 3 → nb_W 235 0 [(13, 76), (3, So + 5 + q), (0, 1), (98, 0)] [] M4 (fun r M8 => r = [] ∧ nb_Lay M8 ∧ M8.1 76 4 = So ∧ nb_W 234 2 [(13, 76), (3, So + 5 + q), (0, nb_add l2 1)] [] M8 Q)) ∧ (3 ≤ l2 → nb_W 235 0 [(13, 76), (3, So + 5 + q), (0, 0), (98, 0)] [] M4 (fun r M12 => r = [] ∧ nb_Lay M12 ∧ M12.1 76 4 = So ∧ nb_W 234 2 [(13, 76), (3, So + 5 + q), (0, nb_add l2 1)] [] M12 Q)))) ∧ (M.1 76 7 ≠ 5 → (nb_Lay M → Q [] M))) ∧ (M.1 76 9 ≠ 0 → (nb_Lay M → Q [] M)))) :
    nb_W 234 2 [(13, 76), (3, So + 5 + q), (0, l2)] [] M Q := by
  replace H := nb_Hw H
  have uhSo := hSo
  unfold nb_hs at uhSo
  refine nb_Wg (q_rd_readOrders_2 _ _ _ _) ?_
  refine nb_Gi (fun c18 => ?_) (fun c18 => ?_)
  · have H := nb_Hw ((nb_Hu H).1 c18)
    refine nb_Gr ?_
    refine nb_Wg (q_rd_readOrders_11 _ _ _ _) ?_
    refine nb_Gs ?_
    exact nb_Hu H W
  · have H := nb_Hw ((nb_Hu H).2 (by omega))
    have c18 : l2 ≤ 3 := by omega
    refine nb_Gr ?_
    have E1 : nb_rd M 76 9 = M.1 76 9 := nb_rd_1 _ _ _
    refine nb_Wg (q_rd_readOrders_3 _ _ _ _ (by omega)) ?_
    simp only [E1]
    clear E1
    refine nb_Gi (fun c17 => ?_) (fun c17 => ?_)
    · have H := nb_Hw ((nb_Hu H).1 c17)
      refine nb_Gr ?_
      have E2 : nb_rd M 76 7 = M.1 76 7 := nb_rd_1 _ _ _
      refine nb_Wg (q_rd_readOrders_4 _ _ _ _ (by omega)) ?_
      simp only [E2]
      clear E2
      refine nb_Gi (fun c16 => ?_) (fun c16 => ?_)
      · have H := nb_Hw ((nb_Hu H).1 c16)
        refine nb_Gr ?_
        refine nb_Wg (q_rd_readOrders_5 _ _ _ _ (by omega)) ?_
        refine nb_Gb ?_
        refine nb_W.imp (nb_Hu H) (fun r M4 H => ?_)
        obtain ⟨rfl, W5, g6, H⟩ := H
        replace H := nb_Hw H
        show nb_W 234 6 [(13, 76), (3, So + 5 + q), (0, l2)] [] M4 _
        refine nb_Wg (q_rd_readOrders_6 _ _ _ _) ?_
        refine nb_Gi (fun c15 => ?_) (fun c15 => ?_)
        · have H := nb_Hw ((nb_Hu H).1 c15)
          refine nb_Gr ?_
          refine nb_Wg (q_rd_readOrders_7 _ _ _ _ _ _) ?_
          refine nb_Gr ?_
          refine nb_Wg (q_rd_readOrders_9 _ _ _ _ _ _ _ (by omega)) ?_
          refine nb_Gb ?_
          refine nb_W.imp (nb_Hu H) (fun r M8 H => ?_)
          obtain ⟨rfl, W9, g10, H⟩ := H
          replace H := nb_Hw H
          show nb_W 234 10 [(13, 76), (3, So + 5 + q), (0, l2)] [] M8 _
          refine nb_Wg (q_rd_readOrders_10 _ _ _ _) ?_
          refine nb_Gr ?_
          exact nb_Hu H
        · have H := nb_Hw ((nb_Hu H).2 (by omega))
          have c15 : 3 ≤ l2 := by omega
          refine nb_Gr ?_
          refine nb_Wg (q_rd_readOrders_8 _ _ _ _ _ _) ?_
          refine nb_Gr ?_
          refine nb_Wg (q_rd_readOrders_9 _ _ _ _ _ _ _ (by omega)) ?_
          refine nb_Gb ?_
          refine nb_W.imp (nb_Hu H) (fun r M12 H => ?_)
          obtain ⟨rfl, W13, g14, H⟩ := H
          replace H := nb_Hw H
          show nb_W 234 10 [(13, 76), (3, So + 5 + q), (0, l2)] [] M12 _
          refine nb_Wg (q_rd_readOrders_10 _ _ _ _) ?_
          refine nb_Gr ?_
          exact nb_Hu H
      · have H := nb_Hw ((nb_Hu H).2 (by omega))
        have c16 : M.1 76 7 ≠ 5 := by omega
        refine nb_Gr ?_
        refine nb_Wg (q_rd_readOrders_11 _ _ _ _) ?_
        refine nb_Gs ?_
        exact nb_Hu H W
    · have H := nb_Hw ((nb_Hu H).2 (by omega))
      have c17 : M.1 76 9 ≠ 0 := by omega
      refine nb_Gr ?_
      refine nb_Wg (q_rd_readOrders_11 _ _ _ _) ?_
      refine nb_Gs ?_
      exact nb_Hu H W

theorem w_rd_readOrder_0 {l2 So q : Int} {v3 : nb_V} {M : nb_M} {Q : List nb_V → nb_M → Prop} (W : nb_Lay M) (hSo : nb_hs So) (h764 : M.1 76 4 = So) (hq0 : 0 ≤ q) (hq1 : q < 10) (H : nb_W 241 0 [(13, 76), (0, 0), (98, 0)] [] M (fun r M2 => ∃ x1 : Int, r = [(0, x1)] ∧ nb_Lay M2 ∧ M2.1 76 4 = So ∧ (x1 < 0 → (nb_Lay M2 → Q [] M2)) ∧ (0 ≤ x1 → (x1 < 5 → (0 < M2.1 (So + 5 + q) x1 → nb_W 226 0 [(13, 76), (0, 3)] [] M2 (fun r M8 => r = [] ∧ nb_Lay M8 ∧ M8.1 76 4 = So ∧ nb_W 225 0 [(13, 76)] [] M8 (fun r M12 => r = [] ∧ nb_Lay M12 ∧ M12.1 76 4 = So ∧ nb_W 244 0 [(13, 76), (0, 1), (0, 9), (98, 0)] [] M12 (fun r M16 => ∃ x15 : Int, r = [(0, x15)] ∧ nb_Lay M16 ∧ M16.1 76 4 = So ∧ (nb_Lay (nb_wr M16 (So + 5 + q) x1 x15) → Q [] (nb_wr M16 (So + 5 + q) x1 x15)))))) ∧ (M2.1 (So + 5 + q) x1 ≤ 0 → (l2 = 0 → nb_W 226 0 [(13, 76), (0, 5)] [] M2 (fun r M22 => r = [] ∧ nb_Lay M22 ∧ M22.1 76 4 = So ∧ nb_W 225 0 [(13, 76)] [] M22 (fun r M26 => r = [] ∧ nb_Lay M26 ∧ M26.1 76 4 = So ∧ nb_W 244 0 [(13, 76), (0, 1), (0, 9), (98, 0)] [] M26 (fun r M30 => ∃ x29 : Int, r = [(0, x29)] ∧ nb_Lay M30 ∧ M30.1 76 4 = So ∧ (nb_Lay (nb_wr M30 (So + 5 + q) x1 x29) → Q [] (nb_wr M30 (So + 5 + q) x1 x29)))))) ∧ (l2 ≠ 0 → nb_W 225 0 [(13, 76)] [] M2 (fun r M36 => r = [] ∧ nb_Lay M36 ∧ M36.1 76 4 = So ∧ nb_W 244 0 [(13, 76), (0, 1), (0, 9), (98, 0)] [] M36 (fun r M40 => ∃ x39 : Int, r = [(0, x39)] ∧ nb_Lay M40 ∧ M40.1 76 4 = So ∧ (nb_Lay (nb_wr M40 (So + 5 + q) x1 x39) → Q [] (nb_wr M40 (So + 5 + q) x1 x39))))))) ∧ (5 ≤ x1 → (nb_Lay M2 → Q [] M2))))) :
    nb_W 235 0 [(13, 76), (3, So + 5 + q), (0, l2), v3] [] M Q := by
  replace H := nb_Hw H
  have uhSo := hSo
  unfold nb_hs at uhSo
  refine nb_Wg (q_rd_readOrder_0 _ _ _ _ _ (by omega)) ?_
  refine nb_Gb ?_
  refine nb_W.imp (nb_Hu H) (fun r M2 H => ?_)
  obtain ⟨x1, rfl, W3, g4, H⟩ := H
  replace H := nb_Hw H
  show nb_W 235 1 [(13, 76), (3, So + 5 + q), (0, l2), v3] [(0, x1)] M2 _
  refine nb_Wg (q_rd_readOrder_1 _ _ _ _ _ _) ?_
  refine nb_Gi (fun c48 => ?_) (fun c48 => ?_)
  · have H := nb_Hw ((nb_Hu H).1 c48)
    refine nb_Gr ?_
    refine nb_Wg (q_rd_readOrder_3 _ _ _ _ _) ?_
    refine nb_Gs ?_
    exact nb_Hu H W3
  · have H := nb_Hw ((nb_Hu H).2 (by omega))
    have c48 : 0 ≤ x1 := by omega
    refine nb_Gr ?_
    refine nb_Wg (q_rd_readOrder_2 _ _ _ _ _) ?_
    refine nb_Gi (fun c47 => ?_) (fun c47 => ?_)
    · have H := nb_Hw ((nb_Hu H).1 c47)
      refine nb_Gr ?_
      have N5 : nb_ln M2 (So + 5 + q) = 5 := W3.hnl (H := So) (i := q) hSo hq0 hq1
      have E6 : nb_rd M2 (So + 5 + q) x1 = M2.1 (So + 5 + q) x1 := nb_rd_1 _ _ _
      refine nb_Wg (q_rd_readOrder_4 _ _ _ _ _ (by omega) (by omega) (by rw [N5]; first | done | omega)) ?_
      simp only [E6]
      clear N5 E6
      refine nb_Gi (fun c46 => ?_) (fun c46 => ?_)
      · have H := nb_Hw ((nb_Hu H).1 c46)
        refine nb_Gr ?_
        refine nb_Wg (q_rd_readOrder_5 _ _ _ _ _ (by omega)) ?_
        refine nb_Gb ?_
        refine nb_W.imp (nb_Hu H) (fun r M8 H => ?_)
        obtain ⟨rfl, W9, g10, H⟩ := H
        replace H := nb_Hw H
        show nb_W 235 6 [(13, 76), (3, So + 5 + q), (0, l2), (0, x1)] [] M8 _
        refine nb_Wg (q_rd_readOrder_6 _ _ _ _ _) ?_
        refine nb_Gr ?_
        refine nb_Wg (q_rd_readOrder_9 _ _ _ _ _ (by omega)) ?_
        refine nb_Gb ?_
        refine nb_W.imp (nb_Hu H) (fun r M12 H => ?_)
        obtain ⟨rfl, W13, g14, H⟩ := H
        replace H := nb_Hw H
        show nb_W 235 10 [(13, 76), (3, So + 5 + q), (0, l2), (0, x1)] [] M12 _
        refine nb_Wg (q_rd_readOrder_10 _ _ _ _ _ (by omega)) ?_
        refine nb_Gb ?_
        refine nb_W.imp (nb_Hu H) (fun r M16 H => ?_)
        obtain ⟨x15, rfl, W17, g18, H⟩ := H
        replace H := nb_Hw H
        show nb_W 235 11 [(13, 76), (3, So + 5 + q), (0, l2), (0, x1)] [(0, x15), (0, x1), (3, So + 5 + q)] M16 _
        have N19 : nb_ln M16 (So + 5 + q) = 5 := W17.hnl (H := So) (i := q) hSo hq0 hq1
        refine nb_Wg (q_rd_readOrder_11 _ _ _ _ _ _ _ _ (by omega) (by omega) (by omega) (by rw [N19]; first | done | omega)) ?_
        clear N19
        have W20 : nb_Lay (nb_wr M16 (So + 5 + q) x1 x15) := W17.wr (fun w => (nb_nhl (H := So) (i := q) hSo hq0 hq1))
        refine nb_Gr ?_
        refine nb_Wg (q_rd_readOrder_12 _ _ _ _ _) ?_
        refine nb_Gs ?_
        exact nb_Hu H W20
      · have H := nb_Hw ((nb_Hu H).2 (by omega))
        have c46 : M2.1 (So + 5 + q) x1 ≤ 0 := by omega
        refine nb_Gr ?_
        refine nb_Wg (q_rd_readOrder_7 _ _ _ _ _) ?_
        refine nb_Gi (fun c45 => ?_) (fun c45 => ?_)
        · have H := nb_Hw ((nb_Hu H).1 c45)
          refine nb_Gr ?_
          refine nb_Wg (q_rd_readOrder_8 _ _ _ _ _ (by omega)) ?_
          refine nb_Gb ?_
          refine nb_W.imp (nb_Hu H) (fun r M22 H => ?_)
          obtain ⟨rfl, W23, g24, H⟩ := H
          replace H := nb_Hw H
          show nb_W 235 9 [(13, 76), (3, So + 5 + q), (0, l2), (0, x1)] [] M22 _
          refine nb_Wg (q_rd_readOrder_9 _ _ _ _ _ (by omega)) ?_
          refine nb_Gb ?_
          refine nb_W.imp (nb_Hu H) (fun r M26 H => ?_)
          obtain ⟨rfl, W27, g28, H⟩ := H
          replace H := nb_Hw H
          show nb_W 235 10 [(13, 76), (3, So + 5 + q), (0, l2), (0, x1)] [] M26 _
          refine nb_Wg (q_rd_readOrder_10 _ _ _ _ _ (by omega)) ?_
          refine nb_Gb ?_
          refine nb_W.imp (nb_Hu H) (fun r M30 H => ?_)
          obtain ⟨x29, rfl, W31, g32, H⟩ := H
          replace H := nb_Hw H
          show nb_W 235 11 [(13, 76), (3, So + 5 + q), (0, l2), (0, x1)] [(0, x29), (0, x1), (3, So + 5 + q)] M30 _
          have N33 : nb_ln M30 (So + 5 + q) = 5 := W31.hnl (H := So) (i := q) hSo hq0 hq1
          refine nb_Wg (q_rd_readOrder_11 _ _ _ _ _ _ _ _ (by omega) (by omega) (by omega) (by rw [N33]; first | done | omega)) ?_
          clear N33
          have W34 : nb_Lay (nb_wr M30 (So + 5 + q) x1 x29) := W31.wr (fun w => (nb_nhl (H := So) (i := q) hSo hq0 hq1))
          refine nb_Gr ?_
          refine nb_Wg (q_rd_readOrder_12 _ _ _ _ _) ?_
          refine nb_Gs ?_
          exact nb_Hu H W34
        · have H := nb_Hw ((nb_Hu H).2 (by omega))
          have c45 : l2 ≠ 0 := by omega
          refine nb_Gr ?_
          refine nb_Wg (q_rd_readOrder_9 _ _ _ _ _ (by omega)) ?_
          refine nb_Gb ?_
          refine nb_W.imp (nb_Hu H) (fun r M36 H => ?_)
          obtain ⟨rfl, W37, g38, H⟩ := H
          replace H := nb_Hw H
          show nb_W 235 10 [(13, 76), (3, So + 5 + q), (0, l2), (0, x1)] [] M36 _
          refine nb_Wg (q_rd_readOrder_10 _ _ _ _ _ (by omega)) ?_
          refine nb_Gb ?_
          refine nb_W.imp (nb_Hu H) (fun r M40 H => ?_)
          obtain ⟨x39, rfl, W41, g42, H⟩ := H
          replace H := nb_Hw H
          show nb_W 235 11 [(13, 76), (3, So + 5 + q), (0, l2), (0, x1)] [(0, x39), (0, x1), (3, So + 5 + q)] M40 _
          have N43 : nb_ln M40 (So + 5 + q) = 5 := W41.hnl (H := So) (i := q) hSo hq0 hq1
          refine nb_Wg (q_rd_readOrder_11 _ _ _ _ _ _ _ _ (by omega) (by omega) (by omega) (by rw [N43]; first | done | omega)) ?_
          clear N43
          have W44 : nb_Lay (nb_wr M40 (So + 5 + q) x1 x39) := W41.wr (fun w => (nb_nhl (H := So) (i := q) hSo hq0 hq1))
          refine nb_Gr ?_
          refine nb_Wg (q_rd_readOrder_12 _ _ _ _ _) ?_
          refine nb_Gs ?_
          exact nb_Hu H W44
    · have H := nb_Hw ((nb_Hu H).2 (by omega))
      have c47 : 5 ≤ x1 := by omega
      refine nb_Gr ?_
      refine nb_Wg (q_rd_readOrder_3 _ _ _ _ _) ?_
      refine nb_Gs ?_
      exact nb_Hu H W3

theorem w_rd_readShelf_0 {So : Int} {v1 : nb_V} {M : nb_M} {Q : List nb_V → nb_M → Prop} (W : nb_Lay M) (hSo : nb_hs So) (h764 : M.1 76 4 = So) (H : nb_W 225 0 [(13, 76)] [] M (fun r M2 => r = [] ∧ nb_Lay M2 ∧ M2.1 76 4 = So ∧ nb_W 241 0 [(13, 76), (0, 2), (98, 0)] [] M2 (fun r M6 => ∃ x5 : Int, r = [(0, x5)] ∧ nb_Lay M6 ∧ M6.1 76 4 = So ∧ (x5 < 0 → (nb_Lay M6 → Q [] M6)) ∧ (0 ≤ x5 → (x5 < 10 → (M6.1 (So + 20 + x5) 6 = (-2) → nb_W 225 0 [(13, 76)] [] M6 (fun r M15 => r = [] ∧ nb_Lay M15 ∧ M15.1 76 4 = So ∧ nb_W 243 0 [(13, 76), (2, 50), (0, 0), (0, M15.1 So 10)] [] M15 (fun r M25 => ∃ x24 : Int, r = [(0, x24)] ∧ nb_Lay M25 ∧ M25.1 76 4 = So ∧ (nb_Lay (nb_wr (nb_wr M25 (So + 20 + x5) 6 x24) So 14 (nb_add (M25.1 So 14) 1)) → Q [] (nb_wr (nb_wr M25 (So + 20 + x5) 6 x24) So 14 (nb_add (M25.1 So 14) 1)))))) ∧ (M6.1 (So + 20 + x5) 6 ≠ (-2) → nb_W 226 0 [(13, 76), (0, 3)] [] M6 (fun r M33 => r = [] ∧ nb_Lay M33 ∧ M33.1 76 4 = So ∧ nb_W 225 0 [(13, 76)] [] M33 (fun r M37 => r = [] ∧ nb_Lay M37 ∧ M37.1 76 4 = So ∧ nb_W 243 0 [(13, 76), (2, 50), (0, 0), (0, M37.1 So 10)] [] M37 (fun r M47 => ∃ x46 : Int, r = [(0, x46)] ∧ nb_Lay M47 ∧ M47.1 76 4 = So ∧ (nb_Lay (nb_wr (nb_wr M47 (So + 20 + x5) 6 x46) So 14 (nb_add (M47.1 So 14) 1)) → Q [] (nb_wr (nb_wr M47 (So + 20 + x5) 6 x46) So 14 (nb_add (M47.1 So 14) 1)))))))) ∧ (10 ≤ x5 → (nb_Lay M6 → Q [] M6)))))) :
    nb_W 236 0 [(13, 76), v1] [] M Q := by
  replace H := nb_Hw H
  have uhSo := hSo
  unfold nb_hs at uhSo
  refine nb_Wg (q_rd_readShelf_0 _ _ _ (by omega)) ?_
  refine nb_Gb ?_
  refine nb_W.imp (nb_Hu H) (fun r M2 H => ?_)
  obtain ⟨rfl, W3, g4, H⟩ := H
  replace H := nb_Hw H
  show nb_W 236 1 [(13, 76), v1] [] M2 _
  refine nb_Wg (q_rd_readShelf_1 _ _ _ (by omega)) ?_
  refine nb_Gb ?_
  refine nb_W.imp (nb_Hu H) (fun r M6 H => ?_)
  obtain ⟨x5, rfl, W7, g8, H⟩ := H
  replace H := nb_Hw H
  show nb_W 236 2 [(13, 76), v1] [(0, x5)] M6 _
  refine nb_Wg (q_rd_readShelf_2 _ _ _ _) ?_
  refine nb_Gi (fun c56 => ?_) (fun c56 => ?_)
  · have H := nb_Hw ((nb_Hu H).1 c56)
    refine nb_Gr ?_
    refine nb_Wg (q_rd_readShelf_4 _ _ _) ?_
    refine nb_Gs ?_
    exact nb_Hu H W7
  · have H := nb_Hw ((nb_Hu H).2 (by omega))
    have c56 : 0 ≤ x5 := by omega
    refine nb_Gr ?_
    refine nb_Wg (q_rd_readShelf_3 _ _ _) ?_
    refine nb_Gi (fun c55 => ?_) (fun c55 => ?_)
    · have H := nb_Hw ((nb_Hu H).1 c55)
      refine nb_Gr ?_
      have E9 : nb_rd M6 76 4 = So := g8
      have E10 : nb_rd M6 So 4 = So + 15 := W7.h4 (H := So) hSo
      have N11 : nb_ln M6 (So + 15) = 10 := W7.hn15 (H := So) hSo
      have E12 : nb_rd M6 (So + 15) x5 = So + 20 + x5 := W7.hg (H := So) (i := x5) hSo (by omega) (by omega)
      have E13 : nb_rd M6 (So + 20 + x5) 6 = M6.1 (So + 20 + x5) 6 := nb_rd_1 _ _ _
      refine nb_Wg (q_rd_readShelf_5 _ _ _ (by omega) (by rw [E9]; first | done | omega) (by rw [E9, E10]; first | done | omega) (by omega) (by rw [E9, E10, N11]; first | done | omega) (by rw [E9, E10, E12]; first | done | omega)) ?_
      simp only [E9, E10, E12, E13]
      clear E9 E10 N11 E12 E13
      refine nb_Gi (fun c54 => ?_) (fun c54 => ?_)
      · have H := nb_Hw ((nb_Hu H).1 c54)
        refine nb_Gr ?_
        refine nb_Wg (q_rd_readShelf_7 _ _ _ (by omega)) ?_
        refine nb_Gb ?_
        refine nb_W.imp (nb_Hu H) (fun r M15 H => ?_)
        obtain ⟨rfl, W16, g17, H⟩ := H
        replace H := nb_Hw H
        show nb_W 236 8 [(13, 76), (0, x5)] [] M15 _
        have E18 : nb_rd M15 76 4 = So := g17
        have E19 : nb_rd M15 So 4 = So + 15 := W16.h4 (H := So) hSo
        have N20 : nb_ln M15 (So + 15) = 10 := W16.hn15 (H := So) hSo
        have E21 : nb_rd M15 (So + 15) x5 = So + 20 + x5 := W16.hg (H := So) (i := x5) hSo (by omega) (by omega)
        have E22 : nb_rd M15 76 4 = So := g17
        have E23 : nb_rd M15 So 10 = M15.1 So 10 := nb_rd_1 _ _ _
        refine nb_Wg (q_rd_readShelf_8 _ _ _ (by omega) (by rw [E18]; first | done | omega) (by rw [E18, E19]; first | done | omega) (by omega) (by rw [E18, E19, N20]; first | done | omega)) ?_
        simp only [E18, E19, E21, E22, E23]
        clear E18 E19 N20 E21 E22 E23
        refine nb_Gb ?_
        refine nb_W.imp (nb_Hu H) (fun r M25 H => ?_)
        obtain ⟨x24, rfl, W26, g27, H⟩ := H
        replace H := nb_Hw H
        show nb_W 236 9 [(13, 76), (0, x5)] [(0, x24), (11, So + 20 + x5)] M25 _
        refine nb_Wg (q_rd_readShelf_9 _ _ _ _ _ (by omega)) ?_
        have W28 : nb_Lay (nb_wr M25 (So + 20 + x5) 6 x24) := W26.wr (fun w => (nb_nhg (H := So) (i := x5) hSo (by omega) (by omega)))
        refine nb_Gr ?_
        have E29 : nb_rd (nb_wr M25 (So + 20 + x5) 6 x24) 76 4 = So := nb_rdw (Or.inr (by decide)) (g27)
        have E30 : nb_rd (nb_wr M25 (So + 20 + x5) 6 x24) So 14 = M25.1 So 14 := nb_rdw (Or.inr (by decide)) (nb_rd_1 _ _ _)
        refine nb_Wg (q_rd_readShelf_10 _ _ _ (by omega) (by rw [E29]; first | done | omega)) ?_
        simp only [E29, E30]
        clear E29 E30
        have W31 : nb_Lay (nb_wr (nb_wr M25 (So + 20 + x5) 6 x24) So 14 (nb_add (M25.1 So 14) 1)) := W28.wr (fun w => (nb_nhh (H := So) hSo (by omega)))
        refine nb_Gr ?_
        refine nb_Wg (q_rd_readShelf_11 _ _ _) ?_
        refine nb_Gs ?_
        exact nb_Hu H W31
      · have H := nb_Hw ((nb_Hu H).2 (by omega))
        have c54 : M6.1 (So + 20 + x5) 6 ≠ (-2) := by omega
        refine nb_Gr ?_
        refine nb_Wg (q_rd_readShelf_6 _ _ _ (by omega)) ?_
        refine nb_Gb ?_
        refine nb_W.imp (nb_Hu H) (fun r M33 H => ?_)
        obtain ⟨rfl, W34, g35, H⟩ := H
        replace H := nb_Hw H
        show nb_W 236 7 [(13, 76), (0, x5)] [] M33 _
        refine nb_Wg (q_rd_readShelf_7 _ _ _ (by omega)) ?_
        refine nb_Gb ?_
        refine nb_W.imp (nb_Hu H) (fun r M37 H => ?_)
        obtain ⟨rfl, W38, g39, H⟩ := H
        replace H := nb_Hw H
        show nb_W 236 8 [(13, 76), (0, x5)] [] M37 _
        have E40 : nb_rd M37 76 4 = So := g39
        have E41 : nb_rd M37 So 4 = So + 15 := W38.h4 (H := So) hSo
        have N42 : nb_ln M37 (So + 15) = 10 := W38.hn15 (H := So) hSo
        have E43 : nb_rd M37 (So + 15) x5 = So + 20 + x5 := W38.hg (H := So) (i := x5) hSo (by omega) (by omega)
        have E44 : nb_rd M37 76 4 = So := g39
        have E45 : nb_rd M37 So 10 = M37.1 So 10 := nb_rd_1 _ _ _
        refine nb_Wg (q_rd_readShelf_8 _ _ _ (by omega) (by rw [E40]; first | done | omega) (by rw [E40, E41]; first | done | omega) (by omega) (by rw [E40, E41, N42]; first | done | omega)) ?_
        simp only [E40, E41, E43, E44, E45]
        clear E40 E41 N42 E43 E44 E45
        refine nb_Gb ?_
        refine nb_W.imp (nb_Hu H) (fun r M47 H => ?_)
        obtain ⟨x46, rfl, W48, g49, H⟩ := H
        replace H := nb_Hw H
        show nb_W 236 9 [(13, 76), (0, x5)] [(0, x46), (11, So + 20 + x5)] M47 _
        refine nb_Wg (q_rd_readShelf_9 _ _ _ _ _ (by omega)) ?_
        have W50 : nb_Lay (nb_wr M47 (So + 20 + x5) 6 x46) := W48.wr (fun w => (nb_nhg (H := So) (i := x5) hSo (by omega) (by omega)))
        refine nb_Gr ?_
        have E51 : nb_rd (nb_wr M47 (So + 20 + x5) 6 x46) 76 4 = So := nb_rdw (Or.inr (by decide)) (g49)
        have E52 : nb_rd (nb_wr M47 (So + 20 + x5) 6 x46) So 14 = M47.1 So 14 := nb_rdw (Or.inr (by decide)) (nb_rd_1 _ _ _)
        refine nb_Wg (q_rd_readShelf_10 _ _ _ (by omega) (by rw [E51]; first | done | omega)) ?_
        simp only [E51, E52]
        clear E51 E52
        have W53 : nb_Lay (nb_wr (nb_wr M47 (So + 20 + x5) 6 x46) So 14 (nb_add (M47.1 So 14) 1)) := W50.wr (fun w => (nb_nhh (H := So) hSo (by omega)))
        refine nb_Gr ?_
        refine nb_Wg (q_rd_readShelf_11 _ _ _) ?_
        refine nb_Gs ?_
        exact nb_Hu H W53
    · have H := nb_Hw ((nb_Hu H).2 (by omega))
      have c55 : 10 ≤ x5 := by omega
      refine nb_Gr ?_
      refine nb_Wg (q_rd_readShelf_4 _ _ _) ?_
      refine nb_Gs ?_
      exact nb_Hu H W7

theorem w_rd_readTelling_0 {So : Int} {v1 v2 v3 : nb_V} {M : nb_M} {Q : List nb_V → nb_M → Prop} (W : nb_Lay M) (hSo : nb_hs So) (h764 : M.1 76 4 = So) (H : 0 ≤ M.1 So 15 ∧ M.1 So 15 ≤ 8 ∧ nb_W 238 0 [(13, 76), (0, M.1 So 15), (0, 8)] [] M (fun r M4 => r = [] ∧ nb_Lay M4 ∧ M4.1 76 4 = So ∧ nb_W 241 0 [(13, 76), (0, 2), (98, 0)] [] M4 (fun r M8 => ∃ x7 : Int, r = [(0, x7)] ∧ nb_Lay M8 ∧ M8.1 76 4 = So ∧ nb_W 225 0 [(13, 76)] [] M8 (fun r M12 => r = [] ∧ nb_Lay M12 ∧ M12.1 76 4 = So ∧ nb_W 241 0 [(13, 76), (0, 2), (98, 0)] [] M12 (fun r M16 => ∃ x15 : Int, r = [(0, x15)] ∧ nb_Lay M16 ∧ M16.1 76 4 = So ∧ nb_W 225 0 [(13, 76)] [] M16 (fun r M20 => r = [] ∧ nb_Lay M20 ∧ M20.1 76 4 = So ∧ nb_W 242 0 [(13, 76), (2, 51)] [] M20 (fun r M24 => r = [] ∧ nb_Lay M24 ∧ M24.1 76 4 = So ∧ nb_W 241 0 [(13, 76), (0, 2), (98, 0)] [] M24 (fun r M28 => ∃ x27 : Int, r = [(0, x27)] ∧ nb_Lay M28 ∧ M28.1 76 4 = So ∧ (x27 = x15 → nb_W 226 0 [(13, 76), (0, 3)] [] M28 (fun r M32 => r = [] ∧ nb_Lay M32 ∧ M32.1 76 4 = So ∧ nb_W 237 9 [(13, 76), (0, x7), (0, x15), (0, x27)] [] M32 Q)) ∧ (x27 ≠ x15 → nb_W 237 9 [(13, 76), (0, x7), (0, x15), (0, x27)] [] M28 Q))))))))) :
    nb_W 237 0 [(13, 76), v1, v2, v3] [] M Q := by
  replace H := nb_Hw H
  have uhSo := hSo
  unfold nb_hs at uhSo
  obtain ⟨p0_, p1_, H⟩ := H
  replace H := nb_Hw H
  have E1 : nb_rd M 76 4 = So := h764
  have E2 : nb_rd M So 15 = M.1 So 15 := nb_rd_1 _ _ _
  refine nb_Wg (q_rd_readTelling_0 _ _ _ _ _ (by omega) (by rw [E1]; first | done | omega)) ?_
  simp only [E1, E2]
  clear E1 E2
  refine nb_Gb ?_
  refine nb_W.imp (nb_Hu H) (fun r M4 H => ?_)
  obtain ⟨rfl, W5, g6, H⟩ := H
  replace H := nb_Hw H
  show nb_W 237 1 [(13, 76), v1, v2, v3] [] M4 _
  refine nb_Wg (q_rd_readTelling_1 _ _ _ _ _ (by omega)) ?_
  refine nb_Gb ?_
  refine nb_W.imp (nb_Hu H) (fun r M8 H => ?_)
  obtain ⟨x7, rfl, W9, g10, H⟩ := H
  replace H := nb_Hw H
  show nb_W 237 2 [(13, 76), v1, v2, v3] [(0, x7)] M8 _
  refine nb_Wg (q_rd_readTelling_2 _ _ _ _ _ _ (by omega)) ?_
  refine nb_Gb ?_
  refine nb_W.imp (nb_Hu H) (fun r M12 H => ?_)
  obtain ⟨rfl, W13, g14, H⟩ := H
  replace H := nb_Hw H
  show nb_W 237 3 [(13, 76), (0, x7), v2, v3] [] M12 _
  refine nb_Wg (q_rd_readTelling_3 _ _ _ _ _ (by omega)) ?_
  refine nb_Gb ?_
  refine nb_W.imp (nb_Hu H) (fun r M16 H => ?_)
  obtain ⟨x15, rfl, W17, g18, H⟩ := H
  replace H := nb_Hw H
  show nb_W 237 4 [(13, 76), (0, x7), v2, v3] [(0, x15)] M16 _
  refine nb_Wg (q_rd_readTelling_4 _ _ _ _ _ _ (by omega)) ?_
  refine nb_Gb ?_
  refine nb_W.imp (nb_Hu H) (fun r M20 H => ?_)
  obtain ⟨rfl, W21, g22, H⟩ := H
  replace H := nb_Hw H
  show nb_W 237 5 [(13, 76), (0, x7), (0, x15), v3] [] M20 _
  refine nb_Wg (q_rd_readTelling_5 _ _ _ _ _ (by omega)) ?_
  refine nb_Gb ?_
  refine nb_W.imp (nb_Hu H) (fun r M24 H => ?_)
  obtain ⟨rfl, W25, g26, H⟩ := H
  replace H := nb_Hw H
  show nb_W 237 6 [(13, 76), (0, x7), (0, x15), v3] [] M24 _
  refine nb_Wg (q_rd_readTelling_6 _ _ _ _ _ (by omega)) ?_
  refine nb_Gb ?_
  refine nb_W.imp (nb_Hu H) (fun r M28 H => ?_)
  obtain ⟨x27, rfl, W29, g30, H⟩ := H
  replace H := nb_Hw H
  show nb_W 237 7 [(13, 76), (0, x7), (0, x15), v3] [(0, x27)] M28 _
  refine nb_Wg (q_rd_readTelling_7 _ _ _ _ _ _) ?_
  refine nb_Gi (fun c35 => ?_) (fun c35 => ?_)
  · have H := nb_Hw ((nb_Hu H).1 c35)
    refine nb_Gr ?_
    refine nb_Wg (q_rd_readTelling_8 _ _ _ _ _ (by omega)) ?_
    refine nb_Gb ?_
    refine nb_W.imp (nb_Hu H) (fun r M32 H => ?_)
    obtain ⟨rfl, W33, g34, H⟩ := H
    replace H := nb_Hw H
    show nb_W 237 9 [(13, 76), (0, x7), (0, x15), (0, x27)] [] M32 _
    exact nb_Hu H
  · have H := nb_Hw ((nb_Hu H).2 (by omega))
    have c35 : x27 ≠ x15 := by omega
    refine nb_Gr ?_
    exact nb_Hu H

theorem w_rd_readTelling_9 {l1 l2 l3 So : Int} {M : nb_M} {Q : List nb_V → nb_M → Prop} (W : nb_Lay M) (hSo : nb_hs So) (h764 : M.1 76 4 = So) (H : nb_W 225 0 [(13, 76)] [] M (fun r M2 => r = [] ∧ nb_Lay M2 ∧ M2.1 76 4 = So ∧ (M2.1 76 9 = 0 → (M2.1 So 15 < 8 → 0 ≤ M2.1 So 15 ∧ (nb_Lay (nb_wr (nb_wr (nb_wr (nb_wr M2 (So + 17) (M2.1 So 15) l1) (So + 18) (M2.1 So 15) l2) (So + 19) (M2.1 So 15) l3) So 15 (nb_add (M2.1 So 15) 1)) → Q [] (nb_wr (nb_wr (nb_wr (nb_wr M2 (So + 17) (M2.1 So 15) l1) (So + 18) (M2.1 So 15) l2) (So + 19) (M2.1 So 15) l3) So 15 (nb_add (M2.1 So 15) 1)))) ∧ (8 ≤ M2.1 So 15 → (nb_Lay M2 → Q [] M2))) ∧ (M2.1 76 9 ≠ 0 → (nb_Lay M2 → Q [] M2)))) :
    nb_W 237 9 [(13, 76), (0, l1), (0, l2), (0, l3)] [] M Q := by
  replace H := nb_Hw H
  have uhSo := hSo
  unfold nb_hs at uhSo
  refine nb_Wg (q_rd_readTelling_9 _ _ _ _ _ (by omega)) ?_
  refine nb_Gb ?_
  refine nb_W.imp (nb_Hu H) (fun r M2 H => ?_)
  obtain ⟨rfl, W3, g4, H⟩ := H
  replace H := nb_Hw H
  show nb_W 237 10 [(13, 76), (0, l1), (0, l2), (0, l3)] [] M2 _
  have E5 : nb_rd M2 76 9 = M2.1 76 9 := nb_rd_1 _ _ _
  refine nb_Wg (q_rd_readTelling_10 _ _ _ _ _ (by omega)) ?_
  simp only [E5]
  clear E5
  refine nb_Gi (fun c30 => ?_) (fun c30 => ?_)
  · have H := nb_Hw ((nb_Hu H).1 c30)
    refine nb_Gr ?_
    have E6 : nb_rd M2 76 4 = So := g4
    have E7 : nb_rd M2 So 15 = M2.1 So 15 := nb_rd_1 _ _ _
    refine nb_Wg (q_rd_readTelling_11 _ _ _ _ _ (by omega) (by rw [E6]; first | done | omega)) ?_
    simp only [E6, E7]
    clear E6 E7
    refine nb_Gi (fun c29 => ?_) (fun c29 => ?_)
    · have H := nb_Hw ((nb_Hu H).1 c29)
      refine nb_Gr ?_
      obtain ⟨p0_, H⟩ := H
      replace H := nb_Hw H
      have E8 : nb_rd M2 76 4 = So := g4
      have E9 : nb_rd M2 So 6 = So + 17 := W3.h6 (H := So) hSo
      have E10 : nb_rd M2 76 4 = So := g4
      have E11 : nb_rd M2 So 15 = M2.1 So 15 := nb_rd_1 _ _ _
      have N12 : nb_ln M2 (So + 17) = 8 := W3.hn17 (H := So) hSo
      refine nb_Wg (q_rd_readTelling_12 _ _ _ _ _ (by omega) (by rw [E8]; first | done | omega) (by rw [E8, E9]; first | done | omega) (by rw [E8, E9]; first | done | omega) (by rw [E10, E11]; first | done | omega) (by rw [E10, E11, E9, N12]; first | done | omega)) ?_
      simp only [E8, E9, E10, E11]
      clear E8 E9 E10 E11 N12
      have W13 : nb_Lay (nb_wr M2 (So + 17) (M2.1 So 15) l1) := W3.wr (fun w => (nb_nh17 (H := So) hSo))
      refine nb_Gr ?_
      have E14 : nb_rd (nb_wr M2 (So + 17) (M2.1 So 15) l1) 76 4 = So := nb_rdw (Or.inl (by omega)) (g4)
      have E15 : nb_rd (nb_wr M2 (So + 17) (M2.1 So 15) l1) So 7 = So + 18 := W13.h7 (H := So) hSo
      have E16 : nb_rd (nb_wr M2 (So + 17) (M2.1 So 15) l1) 76 4 = So := nb_rdw (Or.inl (by omega)) (g4)
      have E17 : nb_rd (nb_wr M2 (So + 17) (M2.1 So 15) l1) So 15 = M2.1 So 15 := nb_rdw (Or.inl (by omega)) (nb_rd_1 _ _ _)
      have N18 : nb_ln (nb_wr M2 (So + 17) (M2.1 So 15) l1) (So + 18) = 8 := W13.hn18 (H := So) hSo
      refine nb_Wg (q_rd_readTelling_13 _ _ _ _ _ (by omega) (by rw [E14]; first | done | omega) (by rw [E14, E15]; first | done | omega) (by rw [E14, E15]; first | done | omega) (by rw [E16, E17]; first | done | omega) (by rw [E16, E17, E15, N18]; first | done | omega)) ?_
      simp only [E14, E15, E16, E17]
      clear E14 E15 E16 E17 N18
      have W19 : nb_Lay (nb_wr (nb_wr M2 (So + 17) (M2.1 So 15) l1) (So + 18) (M2.1 So 15) l2) := W13.wr (fun w => (nb_nh18 (H := So) hSo))
      refine nb_Gr ?_
      have E20 : nb_rd (nb_wr (nb_wr M2 (So + 17) (M2.1 So 15) l1) (So + 18) (M2.1 So 15) l2) 76 4 = So := nb_rdw (Or.inl (by omega)) (nb_rdw (Or.inl (by omega)) (g4))
      have E21 : nb_rd (nb_wr (nb_wr M2 (So + 17) (M2.1 So 15) l1) (So + 18) (M2.1 So 15) l2) So 8 = So + 19 := W19.h8 (H := So) hSo
      have E22 : nb_rd (nb_wr (nb_wr M2 (So + 17) (M2.1 So 15) l1) (So + 18) (M2.1 So 15) l2) 76 4 = So := nb_rdw (Or.inl (by omega)) (nb_rdw (Or.inl (by omega)) (g4))
      have E23 : nb_rd (nb_wr (nb_wr M2 (So + 17) (M2.1 So 15) l1) (So + 18) (M2.1 So 15) l2) So 15 = M2.1 So 15 := nb_rdw (Or.inl (by omega)) (nb_rdw (Or.inl (by omega)) (nb_rd_1 _ _ _))
      have N24 : nb_ln (nb_wr (nb_wr M2 (So + 17) (M2.1 So 15) l1) (So + 18) (M2.1 So 15) l2) (So + 19) = 8 := W19.hn19 (H := So) hSo
      refine nb_Wg (q_rd_readTelling_14 _ _ _ _ _ (by omega) (by rw [E20]; first | done | omega) (by rw [E20, E21]; first | done | omega) (by rw [E20, E21]; first | done | omega) (by rw [E22, E23]; first | done | omega) (by rw [E22, E23, E21, N24]; first | done | omega)) ?_
      simp only [E20, E21, E22, E23]
      clear E20 E21 E22 E23 N24
      have W25 : nb_Lay (nb_wr (nb_wr (nb_wr M2 (So + 17) (M2.1 So 15) l1) (So + 18) (M2.1 So 15) l2) (So + 19) (M2.1 So 15) l3) := W19.wr (fun w => (nb_nh19 (H := So) hSo))
      refine nb_Gr ?_
      have E26 : nb_rd (nb_wr (nb_wr (nb_wr M2 (So + 17) (M2.1 So 15) l1) (So + 18) (M2.1 So 15) l2) (So + 19) (M2.1 So 15) l3) 76 4 = So := nb_rdw (Or.inl (by omega)) (nb_rdw (Or.inl (by omega)) (nb_rdw (Or.inl (by omega)) (g4)))
      have E27 : nb_rd (nb_wr (nb_wr (nb_wr M2 (So + 17) (M2.1 So 15) l1) (So + 18) (M2.1 So 15) l2) (So + 19) (M2.1 So 15) l3) So 15 = M2.1 So 15 := nb_rdw (Or.inl (by omega)) (nb_rdw (Or.inl (by omega)) (nb_rdw (Or.inl (by omega)) (nb_rd_1 _ _ _)))
      refine nb_Wg (q_rd_readTelling_15 _ _ _ _ _ (by omega) (by rw [E26]; first | done | omega)) ?_
      simp only [E26, E27]
      clear E26 E27
      have W28 : nb_Lay (nb_wr (nb_wr (nb_wr (nb_wr M2 (So + 17) (M2.1 So 15) l1) (So + 18) (M2.1 So 15) l2) (So + 19) (M2.1 So 15) l3) So 15 (nb_add (M2.1 So 15) 1)) := W25.wr (fun w => (nb_nhh (H := So) hSo (by omega)))
      refine nb_Gr ?_
      refine nb_Wg (q_rd_readTelling_16 _ _ _ _ _) ?_
      refine nb_Gs ?_
      exact nb_Hu H W28
    · have H := nb_Hw ((nb_Hu H).2 (by omega))
      have c29 : 8 ≤ M2.1 So 15 := by omega
      refine nb_Gr ?_
      refine nb_Wg (q_rd_readTelling_16 _ _ _ _ _) ?_
      refine nb_Gs ?_
      exact nb_Hu H W3
  · have H := nb_Hw ((nb_Hu H).2 (by omega))
    have c30 : M2.1 76 9 ≠ 0 := by omega
    refine nb_Gr ?_
    refine nb_Wg (q_rd_readTelling_16 _ _ _ _ _) ?_
    refine nb_Gs ?_
    exact nb_Hu H W3

theorem w_rd_reads_0 {l2 So : Int} {v4 : nb_V} {M : nb_M} {Q : List nb_V → nb_M → Prop} (W : nb_Lay M) (hSo : nb_hs So) (H : nb_W 284 0 [(18, 77), (4, 3), (0, l2), (98, 0), (98, 0), (98, 0)] [] M (fun r M3 => r = [] ∧ nb_Lay M3 ∧ nb_W 219 0 [(12, So), (98, 0)] [] (nb_wr M3 76 4 So) (fun r M8 => r = [] ∧ nb_Lay M8 ∧ nb_W 229 0 [(13, 76)] [] (nb_wr (nb_wr (nb_wr (nb_wr (nb_wr (nb_wr M8 76 5 0) 76 9 0) 76 10 (-1)) 76 6 0) 76 7 (M8.1 78 0)) 76 8 (M8.1 80 0)) (fun r M25 => r = [] ∧ nb_Lay M25 ∧ nb_W 224 11 [(13, 76), (4, 3), (0, l2), nb_clr ((12, So)), (0, M25.1 77 3)] [] M25 Q)))) :
    nb_W 224 0 [(13, 76), (4, 3), (0, l2), (12, So), v4] [] M Q := by
  replace H := nb_Hw H
  have uhSo := hSo
  unfold nb_hs at uhSo
  have E1 : nb_rd M 76 0 = 77 := W.r0
  refine nb_Wg (q_rd_reads_0 _ _ _ _ _ _ (by omega) (by rw [E1]; first | done | omega)) ?_
  simp only [E1]
  clear E1
  refine nb_Gb ?_
  refine nb_W.imp (nb_Hu H) (fun r M3 H => ?_)
  obtain ⟨rfl, W4, H⟩ := H
  replace H := nb_Hw H
  show nb_W 224 1 [(13, 76), (4, 3), (0, l2), (12, So), v4] [] M3 _
  refine nb_Wg (q_rd_reads_1 _ _ _ _ _ _ (by omega)) ?_
  have W5 : nb_Lay (nb_wr M3 76 4 So) := W4.wr (fun w => (nb_nlit (by decide) (by decide)))
  refine nb_Gr ?_
  have E6 : nb_rd (nb_wr M3 76 4 So) 76 4 = So := nb_rd_same _ _ _ _
  refine nb_Wg (q_rd_reads_2 _ _ _ _ _ _ (by omega) (by rw [E6]; first | done | omega)) ?_
  simp only [E6]
  clear E6
  refine nb_Gb ?_
  refine nb_W.imp (nb_Hu H) (fun r M8 H => ?_)
  obtain ⟨rfl, W9, H⟩ := H
  replace H := nb_Hw H
  show nb_W 224 3 [(13, 76), (4, 3), (0, l2), (12, So), v4] [] M8 _
  refine nb_Wg (q_rd_reads_3 _ _ _ _ _ _ (by omega)) ?_
  have W10 : nb_Lay (nb_wr M8 76 5 0) := W9.wr (fun w => (nb_nlit (by decide) (by decide)))
  refine nb_Gr ?_
  refine nb_Wg (q_rd_reads_4 _ _ _ _ _ _ (by omega)) ?_
  have W11 : nb_Lay (nb_wr (nb_wr M8 76 5 0) 76 9 0) := W10.wr (fun w => (nb_nlit (by decide) (by decide)))
  refine nb_Gr ?_
  refine nb_Wg (q_rd_reads_5 _ _ _ _ _ _ (by omega)) ?_
  have W12 : nb_Lay (nb_wr (nb_wr (nb_wr M8 76 5 0) 76 9 0) 76 10 (-1)) := W11.wr (fun w => (nb_nlit (by decide) (by decide)))
  refine nb_Gr ?_
  refine nb_Wg (q_rd_reads_6 _ _ _ _ _ _ (by omega)) ?_
  have W13 : nb_Lay (nb_wr (nb_wr (nb_wr (nb_wr M8 76 5 0) 76 9 0) 76 10 (-1)) 76 6 0) := W12.wr (fun w => (nb_nlit (by decide) (by decide)))
  refine nb_Gr ?_
  have E14 : nb_rd (nb_wr (nb_wr (nb_wr (nb_wr M8 76 5 0) 76 9 0) 76 10 (-1)) 76 6 0) 76 0 = 77 := W13.r0
  have E15 : nb_rd (nb_wr (nb_wr (nb_wr (nb_wr M8 76 5 0) 76 9 0) 76 10 (-1)) 76 6 0) 77 0 = 78 := W13.k0
  have N16 : nb_ln (nb_wr (nb_wr (nb_wr (nb_wr M8 76 5 0) 76 9 0) 76 10 (-1)) 76 6 0) 78 = 1001 := W13.lk (by decide) (by decide +kernel)
  have E17 : nb_rd (nb_wr (nb_wr (nb_wr (nb_wr M8 76 5 0) 76 9 0) 76 10 (-1)) 76 6 0) 78 0 = M8.1 78 0 := nb_rdw (Or.inl (by decide)) (nb_rdw (Or.inl (by decide)) (nb_rdw (Or.inl (by decide)) (nb_rdw (Or.inl (by decide)) (nb_rd_1 _ _ _))))
  refine nb_Wg (q_rd_reads_7 _ _ _ _ _ _ (by omega) (by rw [E14]; first | done | omega) (by rw [E14, E15]; first | done | omega) (by omega) (by rw [E14, E15, N16]; first | done | omega)) ?_
  simp only [E14, E15, E17]
  clear E14 E15 N16 E17
  have W18 : nb_Lay (nb_wr (nb_wr (nb_wr (nb_wr (nb_wr M8 76 5 0) 76 9 0) 76 10 (-1)) 76 6 0) 76 7 (M8.1 78 0)) := W13.wr (fun w => (nb_nlit (by decide) (by decide)))
  refine nb_Gr ?_
  have E19 : nb_rd (nb_wr (nb_wr (nb_wr (nb_wr (nb_wr M8 76 5 0) 76 9 0) 76 10 (-1)) 76 6 0) 76 7 (M8.1 78 0)) 76 0 = 77 := W18.r0
  have E20 : nb_rd (nb_wr (nb_wr (nb_wr (nb_wr (nb_wr M8 76 5 0) 76 9 0) 76 10 (-1)) 76 6 0) 76 7 (M8.1 78 0)) 77 2 = 80 := W18.k2
  have N21 : nb_ln (nb_wr (nb_wr (nb_wr (nb_wr (nb_wr M8 76 5 0) 76 9 0) 76 10 (-1)) 76 6 0) 76 7 (M8.1 78 0)) 80 = 1001 := W18.lk (by decide) (by decide +kernel)
  have E22 : nb_rd (nb_wr (nb_wr (nb_wr (nb_wr (nb_wr M8 76 5 0) 76 9 0) 76 10 (-1)) 76 6 0) 76 7 (M8.1 78 0)) 80 0 = M8.1 80 0 := nb_rdw (Or.inl (by decide)) (nb_rdw (Or.inl (by decide)) (nb_rdw (Or.inl (by decide)) (nb_rdw (Or.inl (by decide)) (nb_rdw (Or.inl (by decide)) (nb_rd_1 _ _ _)))))
  refine nb_Wg (q_rd_reads_8 _ _ _ _ _ _ (by omega) (by rw [E19]; first | done | omega) (by rw [E19, E20]; first | done | omega) (by omega) (by rw [E19, E20, N21]; first | done | omega)) ?_
  simp only [E19, E20, E22]
  clear E19 E20 N21 E22
  have W23 : nb_Lay (nb_wr (nb_wr (nb_wr (nb_wr (nb_wr (nb_wr M8 76 5 0) 76 9 0) 76 10 (-1)) 76 6 0) 76 7 (M8.1 78 0)) 76 8 (M8.1 80 0)) := W18.wr (fun w => (nb_nlit (by decide) (by decide)))
  refine nb_Gr ?_
  refine nb_Wg (q_rd_reads_9 _ _ _ _ _ _ (by omega)) ?_
  refine nb_Gb ?_
  refine nb_W.imp (nb_Hu H) (fun r M25 H => ?_)
  obtain ⟨rfl, W26, H⟩ := H
  replace H := nb_Hw H
  show nb_W 224 10 [(13, 76), (4, 3), (0, l2), (12, So), v4] [] M25 _
  have E27 : nb_rd M25 76 0 = 77 := W26.r0
  have E28 : nb_rd M25 77 3 = M25.1 77 3 := nb_rd_1 _ _ _
  refine nb_Wg (q_rd_reads_10 _ _ _ _ _ _ (by omega) (by rw [E27]; first | done | omega)) ?_
  simp only [E27, E28]
  clear E27 E28
  refine nb_Gr ?_
  exact nb_Hu H

theorem w_rd_reads_11 {l4 So : Int} {v1 v2 v3 : nb_V} {M : nb_M} {Q : List nb_V → nb_M → Prop} (W : nb_Lay M) (hSo : nb_hs So) (h764 : M.1 76 4 = So) (H : (0 < l4 → (M.1 76 9 = 0 → (M.1 76 7 = 4 → nb_W 225 0 [(13, 76)] [] M (fun r M4 => r = [] ∧ nb_Lay M4 ∧ M4.1 76 4 = So ∧ nb_W 229 0 [(13, 76)] [] M4 (fun r M8 => r = [] ∧ nb_Lay M8 ∧ M8.1 76 4 = So ∧ nb_W 224 11 [(13, 76), v1, v2, nb_clr v3, (0, nb_add l4 (-1))] [] M8 Q))) ∧ (M.1 76 7 ≠ 4 → nb_W 228 0 [(13, 76)] [] M (fun r M12 => r = [] ∧ nb_Lay M12 ∧ M12.1 76 4 = So ∧ (M12.1 76 9 = 0 → (nb_Lay M12 → Q [(0, 1)] M12)) ∧ (M12.1 76 9 ≠ 0 → (nb_Lay M12 → Q [(0, 0)] M12))))) ∧ (M.1 76 9 ≠ 0 → nb_W 228 0 [(13, 76)] [] M (fun r M21 => r = [] ∧ nb_Lay M21 ∧ M21.1 76 4 = So ∧ (M21.1 76 9 = 0 → (nb_Lay M21 → Q [(0, 1)] M21)) ∧ (M21.1 76 9 ≠ 0 → (nb_Lay M21 → Q [(0, 0)] M21))))) ∧ (l4 ≤ 0 → nb_W 228 0 [(13, 76)] [] M (fun r M30 => r = [] ∧ nb_Lay M30 ∧ M30.1 76 4 = So ∧ (M30.1 76 9 = 0 → (nb_Lay M30 → Q [(0, 1)] M30)) ∧ (M30.1 76 9 ≠ 0 → (nb_Lay M30 → Q [(0, 0)] M30))))) :
    nb_W 224 11 [(13, 76), v1, v2, v3, (0, l4)] [] M Q := by
  replace H := nb_Hw H
  have uhSo := hSo
  unfold nb_hs at uhSo
  refine nb_Wg (q_rd_reads_11 _ _ _ _ _ _) ?_
  refine nb_Gi (fun c37 => ?_) (fun c37 => ?_)
  · have H := nb_Hw ((nb_Hu H).1 c37)
    refine nb_Gr ?_
    have E1 : nb_rd M 76 9 = M.1 76 9 := nb_rd_1 _ _ _
    refine nb_Wg (q_rd_reads_12 _ _ _ _ _ _ (by omega)) ?_
    simp only [E1]
    clear E1
    refine nb_Gi (fun c28 => ?_) (fun c28 => ?_)
    · have H := nb_Hw ((nb_Hu H).1 c28)
      refine nb_Gr ?_
      have E2 : nb_rd M 76 7 = M.1 76 7 := nb_rd_1 _ _ _
      refine nb_Wg (q_rd_reads_13 _ _ _ _ _ _ (by omega)) ?_
      simp only [E2]
      clear E2
      refine nb_Gi (fun c19 => ?_) (fun c19 => ?_)
      · have H := nb_Hw ((nb_Hu H).1 c19)
        refine nb_Gr ?_
        refine nb_Wg (q_rd_reads_14 _ _ _ _ _ _ (by omega)) ?_
        refine nb_Gb ?_
        refine nb_W.imp (nb_Hu H) (fun r M4 H => ?_)
        obtain ⟨rfl, W5, g6, H⟩ := H
        replace H := nb_Hw H
        show nb_W 224 15 [(13, 76), v1, v2, v3, (0, l4)] [] M4 _
        refine nb_Wg (q_rd_reads_15 _ _ _ _ _ _ (by omega)) ?_
        refine nb_Gb ?_
        refine nb_W.imp (nb_Hu H) (fun r M8 H => ?_)
        obtain ⟨rfl, W9, g10, H⟩ := H
        replace H := nb_Hw H
        show nb_W 224 16 [(13, 76), v1, v2, v3, (0, l4)] [] M8 _
        refine nb_Wg (q_rd_reads_16 _ _ _ _ _ _) ?_
        refine nb_Gr ?_
        exact nb_Hu H
      · have H := nb_Hw ((nb_Hu H).2 (by omega))
        have c19 : M.1 76 7 ≠ 4 := by omega
        refine nb_Gr ?_
        refine nb_Wg (q_rd_reads_17 _ _ _ _ _ _ (by omega)) ?_
        refine nb_Gb ?_
        refine nb_W.imp (nb_Hu H) (fun r M12 H => ?_)
        obtain ⟨rfl, W13, g14, H⟩ := H
        replace H := nb_Hw H
        show nb_W 224 18 [(13, 76), v1, v2, v3, (0, l4)] [] M12 _
        have E15 : nb_rd M12 76 9 = M12.1 76 9 := nb_rd_1 _ _ _
        refine nb_Wg (q_rd_reads_18 _ _ _ _ _ _ (by omega)) ?_
        simp only [E15]
        clear E15
        refine nb_Gi (fun c18 => ?_) (fun c18 => ?_)
        · have H := nb_Hw ((nb_Hu H).1 c18)
          refine nb_Gr ?_
          refine nb_Wg (q_rd_reads_19 _ _ _ _ _ _) ?_
          refine nb_Gr ?_
          have E16 : nb_i2z 1 = 1 := by decide
          refine nb_Wg (q_rd_reads_21 _ _ _ _ _ _ _) ?_
          simp only [E16]
          clear E16
          refine nb_Gs ?_
          exact nb_Hu H W13
        · have H := nb_Hw ((nb_Hu H).2 (by omega))
          have c18 : M12.1 76 9 ≠ 0 := by omega
          refine nb_Gr ?_
          refine nb_Wg (q_rd_reads_20 _ _ _ _ _ _) ?_
          refine nb_Gr ?_
          have E17 : nb_i2z 0 = 0 := by decide
          refine nb_Wg (q_rd_reads_21 _ _ _ _ _ _ _) ?_
          simp only [E17]
          clear E17
          refine nb_Gs ?_
          exact nb_Hu H W13
    · have H := nb_Hw ((nb_Hu H).2 (by omega))
      have c28 : M.1 76 9 ≠ 0 := by omega
      refine nb_Gr ?_
      refine nb_Wg (q_rd_reads_17 _ _ _ _ _ _ (by omega)) ?_
      refine nb_Gb ?_
      refine nb_W.imp (nb_Hu H) (fun r M21 H => ?_)
      obtain ⟨rfl, W22, g23, H⟩ := H
      replace H := nb_Hw H
      show nb_W 224 18 [(13, 76), v1, v2, v3, (0, l4)] [] M21 _
      have E24 : nb_rd M21 76 9 = M21.1 76 9 := nb_rd_1 _ _ _
      refine nb_Wg (q_rd_reads_18 _ _ _ _ _ _ (by omega)) ?_
      simp only [E24]
      clear E24
      refine nb_Gi (fun c27 => ?_) (fun c27 => ?_)
      · have H := nb_Hw ((nb_Hu H).1 c27)
        refine nb_Gr ?_
        refine nb_Wg (q_rd_reads_19 _ _ _ _ _ _) ?_
        refine nb_Gr ?_
        have E25 : nb_i2z 1 = 1 := by decide
        refine nb_Wg (q_rd_reads_21 _ _ _ _ _ _ _) ?_
        simp only [E25]
        clear E25
        refine nb_Gs ?_
        exact nb_Hu H W22
      · have H := nb_Hw ((nb_Hu H).2 (by omega))
        have c27 : M21.1 76 9 ≠ 0 := by omega
        refine nb_Gr ?_
        refine nb_Wg (q_rd_reads_20 _ _ _ _ _ _) ?_
        refine nb_Gr ?_
        have E26 : nb_i2z 0 = 0 := by decide
        refine nb_Wg (q_rd_reads_21 _ _ _ _ _ _ _) ?_
        simp only [E26]
        clear E26
        refine nb_Gs ?_
        exact nb_Hu H W22
  · have H := nb_Hw ((nb_Hu H).2 (by omega))
    have c37 : l4 ≤ 0 := by omega
    refine nb_Gr ?_
    refine nb_Wg (q_rd_reads_17 _ _ _ _ _ _ (by omega)) ?_
    refine nb_Gb ?_
    refine nb_W.imp (nb_Hu H) (fun r M30 H => ?_)
    obtain ⟨rfl, W31, g32, H⟩ := H
    replace H := nb_Hw H
    show nb_W 224 18 [(13, 76), v1, v2, v3, (0, l4)] [] M30 _
    have E33 : nb_rd M30 76 9 = M30.1 76 9 := nb_rd_1 _ _ _
    refine nb_Wg (q_rd_reads_18 _ _ _ _ _ _ (by omega)) ?_
    simp only [E33]
    clear E33
    refine nb_Gi (fun c36 => ?_) (fun c36 => ?_)
    · have H := nb_Hw ((nb_Hu H).1 c36)
      refine nb_Gr ?_
      refine nb_Wg (q_rd_reads_19 _ _ _ _ _ _) ?_
      refine nb_Gr ?_
      have E34 : nb_i2z 1 = 1 := by decide
      refine nb_Wg (q_rd_reads_21 _ _ _ _ _ _ _) ?_
      simp only [E34]
      clear E34
      refine nb_Gs ?_
      exact nb_Hu H W31
    · have H := nb_Hw ((nb_Hu H).2 (by omega))
      have c36 : M30.1 76 9 ≠ 0 := by omega
      refine nb_Gr ?_
      refine nb_Wg (q_rd_reads_20 _ _ _ _ _ _) ?_
      refine nb_Gr ?_
      have E35 : nb_i2z 0 = 0 := by decide
      refine nb_Wg (q_rd_reads_21 _ _ _ _ _ _ _) ?_
      simp only [E35]
      clear E35
      refine nb_Gs ?_
      exact nb_Hu H W31

