/-! CALL: bell; printed by wip/gen/req/p97g.py -/
theorem pu_evx_rw {M : nb_M} {k x : Int} (h : pu_I M k) (hx : 0 ≤ x ∧ x ≤ 9000) : pu_Rw (pu_eve (M.1 606) (pu_cra M) (pu_pea M) (M.1 606 4) x (pu_sta M)) := by
  obtain ⟨Ho, h1, h2, h3, h4, ⟨a1, a2, a3, a4, a5, a6, a7, a8⟩, h6, h7, h8, h9⟩ := pu_I_at h
  have hr := h6.1
  have n4 := hr.2.2.2.2.2.1
  have n2 := hr.2.2.2.1
  have hR := pu_Rw_congr (R' := pu_sta M) pu_cpy_in a3.1
  have hk := pu_Rk_congr (R' := pu_sta M) pu_cpy_in a3.2.1
  have hst0 : pu_sta M 0 = M.1 608 0 := pu_cpy_in 0 (by decide) (by decide)
  have h0 := a3.1.2.2.1
  exact (pu_secs_ok (pe := pu_pea M) (ns := M.1 606 4) hr (pu_cra_rg h8 h6) (by omega) hR hk (x + 1 - pu_sta M 0).toNat (by omega)).1
theorem pu_S_bell {M : nb_M} {np ns x : Int} {cr pe R : Int → Int} (hnp : np ≤ 10) (hns : ns ≤ 4) (h : pu_S M 106 np ns cr pe R) : pu_S (nb_wr M 106 8 x) 106 np ns cr pe R := by
  obtain ⟨h1, h2, h3, h4, h5, h6⟩ := h
  refine ⟨?_, ?_, ?_, fun k a b => ?_, fun p a b => ?_, fun s a b => ?_⟩
  · rw [nb_wr_1, if_neg (by omega)]; exact h1
  · rw [nb_wr_1, if_neg (by omega)]; exact h2
  · rw [nb_wr_1, if_neg (by omega)]; exact h3
  · rw [nb_wr_b (by decide)]; exact h4 k a b
  · rw [nb_wr_b (by omega)]; exact h5 p a b
  · rw [nb_wr_b (by omega), nb_wr_b (by omega)]; exact h6 s a b

theorem pa_bell (x w : Int) : pu_pair 50 [(19, 2), (0, x), (0, w), (98, 0)] 160 [(20, 603), (0, x), (0, w)] := by
  apply pu_pair_q
  intro M k hI hk0 hk1
  obtain ⟨Ho, hHo, hx2, hx3, hh, hSn, hT, h14, h7, hL⟩ := pu_I_at hI
  obtain ⟨z1, z2, z3, z4, z5, z6⟩ := pu_ev_rw hI
  have hr := hT.1
  have n5 := hr.2.2.2.2.2.2.1
  have n4 := hr.2.2.2.2.2.1
  have n2 := hr.2.2.2.1
  have h13 := hh.1.2.2.2.2.1
  have u7 : M.1 84 7 = M.1 608 0 := hSn.2.2.2.2.1
  have q0 := z3.2.2.1
  have h14' : (M.1 603 14 = 0 ∧ M.1 606 5 = 0) ∨ (M.1 603 14 = 1 ∧ 1 ≤ M.1 606 5) := by
    rw [h14]
    split
    · exact Or.inl ⟨rfl, by assumption⟩
    · exact Or.inr ⟨rfl, by omega⟩
  clear h14
  by_cases h0 : M.1 606 5 = 0 ∨ w < 0 ∨ 6 ≤ w
  · refine ⟨-1, 1, fun h => absurd h (by decide), ?_, fun M1 hq => ?_⟩
    · refine w_c_bell_0 hL hHo hx2 ?_
      rw [h13]
      exact ⟨n5.1, n5.2, fun _ => ⟨fun _ hL => ⟨rfl, pu_CQ_no hL⟩, fun _ => ⟨fun h => absurd h (by omega), fun _ hL => ⟨rfl, pu_CQ_no hL⟩⟩⟩, fun _ hL => ⟨rfl, pu_CQ_no hL⟩⟩
    · have e603 := hq.row (a := 603) (by decide)
      have e606 := hq.row (a := 606) (by decide)
      have e608 := hq.row (a := 608) (by decide)
      have h7' : pu_I7 M1 := by
        unfold pu_I7
        rw [hq.row (a := 612) (by decide)]
        exact h7
      refine w_m_bell_0 hq.1 ?_
      simp only [e603, e606, e608]
      exact ⟨by omega, by omega, fun _ hL => ⟨by trivial, pu_MQ_no h7' hL⟩, fun _ => ⟨fun _ hL => ⟨by trivial, pu_MQ_no h7' hL⟩, fun _ => ⟨fun _ hL => ⟨by trivial, pu_MQ_no h7' hL⟩, fun h => absurd h (by omega)⟩⟩⟩
  by_cases hp : M.1 608 0 ≤ x ∧ x ≤ 900
  · have zx := pu_evx_rw (x := x) hI (by omega)
    refine ⟨pu_sum (M.1 606) (pu_pea M) (pu_eve (M.1 606) (pu_cra M) (pu_pea M) (M.1 606 4) x (pu_sta M)) (M.1 606 5) x w, 0, fun h => absurd h (by decide), ?_, fun M1 hq => ?_⟩
    · refine w_c_bell_0 hL hHo hx2 ?_
      rw [h13, u7]
      refine ⟨n5.1, n5.2, fun _ => ⟨fun h => absurd h (by omega), fun _ => ⟨fun _ => ⟨fun h => absurd h (by omega), fun _ => ⟨fun h => absurd h (by omega), fun _ => ?_⟩⟩, fun h => absurd h (by omega)⟩⟩, fun h => absurd h (by omega)⟩
      have eN : ∀ a i, (a ≠ 2 ∨ i ≠ 15) → (nb_wr (nb_wr M 2 15 0) 2 15 0).1 a i = M.1 a i := fun a i h => by rw [nb_wr_1, if_neg (by omega), nb_wr_1, if_neg (by omega)]
      have hLN : nb_Lay (nb_wr (nb_wr M 2 15 0) 2 15 0) := (hL.wr (fun w => nb_nlit (by decide) (by decide))).wr (fun w => nb_nlit (by decide) (by decide))
      refine nb_W.imp (sp_c_asNow hI hLN eN) ?_
      rintro r' M1 ⟨rfl, hf, ⟨hf3, hf8, hf7⟩, hS, hX, hIb⟩
      have hx2a : M1.1 2 2 = Ho := by
        rw [hf.2.2 2 2 (by omega), eN 2 2 (by omega)]
        exact hx2
      have hfP : pu_fr (nb_wr (nb_wr M 2 15 0) 2 15 0) (nb_wr M1 106 8 x) 106 := ⟨hf.1.wr (fun w => nb_nss nb_sc106 (Or.inr (by omega))), hf.2.1, fun a i p => by
        rw [nb_wr_1, if_neg (by omega)]
        exact hf.2.2 a i p⟩
      have hP3 : (nb_wr M1 106 8 x).1 106 3 = M.1 2 2 := by rw [nb_wr_1, if_neg (by omega)]; exact hf3
      refine ⟨rfl, hf.1, hx2a, nb_W.imp (sp_c_run (x := x) hI eN hfP hP3 (by rw [nb_wr_1, if_neg (by omega)]; exact hf7) (pu_S_bell n5.2 (by omega) hS) (pu_X_take hX (fun p j _ _ _ _ => by rw [nb_wr_b (by omega)])) hIb (by omega)) ?_⟩
      rintro r' M2 ⟨rfl, hg, hg3, hg8, gS, gX, gIb⟩
      have hx2b : M2.1 2 2 = Ho := by
        rw [hg.2.2 2 2 (by omega), eN 2 2 (by omega)]
        exact hx2
      have hHo' : pu_Ho M2 Ho (M.1 606) := pu_Ho_congr hh hr (fun a i p q => by
        unfold nb_hs at hHo
        rw [hg.2.2 a i (by omega), eN a i (by omega)])
      have hb8 : M2.1 106 8 = x := by rw [hg8, nb_wr_1, if_pos ⟨rfl, rfl⟩]
      refine ⟨rfl, hg.1, hx2b, nb_Wp (sp_sc_total (v2 := (0, 0)) hg.1 nb_sc106 hHo (by rw [hg3, hP3]; exact hx2) hr hHo' rfl zx (pu_pea_rg hT) gS gX hb8 (by omega)) ⟨_, rfl, hg.1, hx2b, fun _ => ⟨?_, pu_CQ_fr3 hg rfl (by rw [nb_wr_1, if_pos ⟨rfl, rfl⟩]) eN⟩⟩⟩
      rw [pu_tot_sum zx n5.2 gIb.2.2.1 ⟨by omega, by omega⟩]
    · have e603 := hq.row (a := 603) (by decide)
      have e606 := hq.row (a := 606) (by decide)
      have e608 := hq.row (a := 608) (by decide)
      have e609 := hq.row (a := 609) (by decide)
      have e612 := hq.row (a := 612) (by decide)
      have e613 := hq.row (a := 613) (by decide)
      have h7' : pu_I7 M1 := by
        unfold pu_I7
        rw [e612]
        exact h7
      refine w_m_bell_0 hq.1 ?_
      simp only [e603, e606, e608, e609, e612, e613]
      repeat' (first | assumption | with_reducible apply And.intro | intro _)
      all_goals first
        | assumption
        | omega
        | rfl
        | exact pu_MQ_eve h7' (by rw [e612]; exact pu_cpy12) (by assumption)
  · refine ⟨-1, 2, fun h => absurd h (by decide), ?_, fun M1 hq => ?_⟩
    · refine w_c_bell_0 hL hHo hx2 ?_
      rw [h13, u7]
      exact ⟨n5.1, n5.2, fun _ => ⟨fun h => absurd h (by omega), fun _ => ⟨fun _ => ⟨fun _ hL => ⟨rfl, pu_CQ_no2 hL⟩, fun _ => ⟨fun _ hL => ⟨rfl, pu_CQ_no2 hL⟩, fun h => absurd h (by omega)⟩⟩, fun h => absurd h (by omega)⟩⟩, fun h => absurd h (by omega)⟩
    · have e603 := hq.row (a := 603) (by decide)
      have e606 := hq.row (a := 606) (by decide)
      have e608 := hq.row (a := 608) (by decide)
      have h7' : pu_I7 M1 := by
        unfold pu_I7
        rw [hq.row (a := 612) (by decide)]
        exact h7
      refine w_m_bell_0 hq.1 ?_
      simp only [e603, e606, e608]
      exact ⟨by omega, by omega, fun h => absurd h (by omega), fun _ => ⟨fun h => absurd h (by omega), fun _ => ⟨fun h => absurd h (by omega), fun _ => ⟨fun _ hL => ⟨by trivial, pu_MQ_no h7' hL⟩, fun _ => ⟨fun _ hL => ⟨by trivial, pu_MQ_no h7' hL⟩, fun h => absurd h (by omega)⟩⟩⟩⟩⟩
