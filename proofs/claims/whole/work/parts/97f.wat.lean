/-! CALL: waitingAt; printed by wip/gen/req/p97f.py -/
theorem pa_waitingAt (x : Int) : pu_pair 51 [(19, 2), (0, x), (98, 0)] 159 [(20, 603), (0, x)] := by
  apply pu_pair_q
  intro M k hI hk0 hk1
  obtain ⟨Ho, hHo, hx2, hx3, hh, hSn, hT, h14, h7, hL⟩ := pu_I_at hI
  obtain ⟨z1, z2, z3, z4, z5, z6⟩ := pu_ev_rw hI
  have hr := hT.1
  have n5 := hr.2.2.2.2.2.2.1
  have n4 := hr.2.2.2.2.2.1
  have n2 := hr.2.2.2.1
  have h13 := hh.1.2.2.2.2.1
  have h10 := hh.1.2.1
  have u7 : M.1 84 7 = M.1 608 0 := hSn.2.2.2.2.1
  have q0 := z3.2.2.1
  have h14' : (M.1 603 14 = 0 ∧ M.1 606 5 = 0) ∨ (M.1 603 14 = 1 ∧ 1 ≤ M.1 606 5) := by
    rw [h14]
    split
    · exact Or.inl ⟨rfl, by assumption⟩
    · exact Or.inr ⟨rfl, by omega⟩
  clear h14
  by_cases h0 : M.1 606 5 = 0
  · refine ⟨-1, 1, fun h => absurd h (by decide), ?_, fun M1 hq => ?_⟩
    · refine w_c_waitingAt_0 hL hHo hx2 ?_
      rw [h13]
      exact ⟨n5.1, n5.2, fun h => absurd h (by omega), fun _ hL => ⟨rfl, pu_CQ_no hL⟩⟩
    · have e603 := hq.row (a := 603) (by decide)
      have e606 := hq.row (a := 606) (by decide)
      have e608 := hq.row (a := 608) (by decide)
      have h7' : pu_I7 M1 := by
        unfold pu_I7
        rw [hq.row (a := 612) (by decide)]
        exact h7
      refine w_m_waitingAt_0 hq.1 ?_
      simp only [e603, e606, e608]
      exact ⟨by omega, by omega, fun _ hL => ⟨by trivial, pu_MQ_no h7' hL⟩, fun h => absurd h (by omega)⟩
  by_cases hp : M.1 608 0 ≤ x ∧ x ≤ M.1 606 2
  · refine ⟨pu_cnt (pu_eve (M.1 606) (pu_cra M) (pu_pea M) (M.1 606 4) x (pu_sta M)) 1 (M.1 606 5).toNat, 0, fun h => absurd h (by decide), ?_, fun M1 hq => ?_⟩
    · refine w_c_waitingAt_0 hL hHo hx2 ?_
      rw [h13, h10, u7]
      refine ⟨n5.1, n5.2, fun _ => ⟨fun h => absurd h (by omega), fun _ => ⟨fun h => absurd h (by omega), fun _ => ?_⟩⟩, fun h => absurd h (by omega)⟩
      have eN : ∀ a i, (a ≠ 2 ∨ i ≠ 15) → (nb_wr (nb_wr M 2 15 0) 2 15 0).1 a i = M.1 a i := fun a i h => by rw [nb_wr_1, if_neg (by omega), nb_wr_1, if_neg (by omega)]
      have hLN : nb_Lay (nb_wr (nb_wr M 2 15 0) 2 15 0) := (hL.wr (fun w => nb_nlit (by decide) (by decide))).wr (fun w => nb_nlit (by decide) (by decide))
      refine nb_W.imp (sp_c_asNow hI hLN eN) ?_
      rintro r' M1 ⟨rfl, hf, ⟨hf3, hf8, hf7⟩, hS, hX, hIb⟩
      have hx2a : M1.1 2 2 = Ho := by
        rw [hf.2.2 2 2 (by omega), eN 2 2 (by omega)]
        exact hx2
      refine ⟨rfl, hf.1, hx2a, nb_W.imp (sp_c_run (x := x) hI eN hf hf3 hf7 hS hX hIb (by omega)) ?_⟩
      rintro r' M2 ⟨rfl, hg, hg3, hg8, gS, gX, gIb⟩
      have hx2b : M2.1 2 2 = Ho := by
        rw [hg.2.2 2 2 (by omega), eN 2 2 (by omega)]
        exact hx2
      exact ⟨rfl, hg.1, hx2b, nb_Wp (sp_sc_countOf hg.1 nb_sc106 n5 gS) ⟨_, rfl, hg.1, hx2b, fun _ => ⟨rfl, pu_CQ_fr3 hg rfl (by rw [nb_wr_1, if_pos ⟨rfl, rfl⟩]) eN⟩⟩⟩
    · have e603 := hq.row (a := 603) (by decide)
      have e606 := hq.row (a := 606) (by decide)
      have e608 := hq.row (a := 608) (by decide)
      have e609 := hq.row (a := 609) (by decide)
      have e612 := hq.row (a := 612) (by decide)
      have e613 := hq.row (a := 613) (by decide)
      have h7' : pu_I7 M1 := by
        unfold pu_I7
        rw [e612]
        exact h7
      refine w_m_waitingAt_0 hq.1 ?_
      simp only [e603, e606, e608, e609, e612, e613]
      repeat' (first | assumption | with_reducible apply And.intro | intro _)
      all_goals first
        | assumption
        | omega
        | rfl
        | exact pu_MQ_eve h7' (by rw [e612]; exact pu_cpy12) (by assumption)
  · refine ⟨-1, 2, fun h => absurd h (by decide), ?_, fun M1 hq => ?_⟩
    · refine w_c_waitingAt_0 hL hHo hx2 ?_
      rw [h13, h10, u7]
      exact ⟨n5.1, n5.2, fun _ => ⟨fun _ hL => ⟨rfl, pu_CQ_no2 hL⟩, fun _ => ⟨fun _ hL => ⟨rfl, pu_CQ_no2 hL⟩, fun h => absurd h (by omega)⟩⟩, fun h => absurd h (by omega)⟩
    · have e603 := hq.row (a := 603) (by decide)
      have e606 := hq.row (a := 606) (by decide)
      have e608 := hq.row (a := 608) (by decide)
      have h7' : pu_I7 M1 := by
        unfold pu_I7
        rw [hq.row (a := 612) (by decide)]
        exact h7
      refine w_m_waitingAt_0 hq.1 ?_
      simp only [e603, e606, e608]
      exact ⟨by omega, by omega, fun h => absurd h (by omega), fun _ => ⟨fun _ hL => ⟨by trivial, pu_MQ_no h7' hL⟩, fun _ => ⟨fun _ hL => ⟨by trivial, pu_MQ_no h7' hL⟩, fun h => absurd h (by omega)⟩⟩⟩
