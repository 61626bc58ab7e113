/-! CALLS: fate, whom, has, passed, pushed; printed -/
theorem pa_fate (p : Int) : pu_pair 25 [(19, 2), (0, p)] 151 [(20, 603), (0, p)] := by
  apply pu_pair_q
  intro M k hI hk0 hk1
  obtain ⟨Ho, hHo, hx2, hx3, hh, hSn, hT, h14, h7, hL⟩ := pu_I_at hI
  obtain ⟨z1, z2, z3, z4, z5, z6⟩ := pu_ev_rw hI
  have hr := hT.1
  have n5 := hr.2.2.2.2.2.2.1
  have n4 := hr.2.2.2.2.2.1
  have n2 := hr.2.2.2.1
  have h13 := hh.1.2.2.2.2.1
  by_cases hp : 0 ≤ p ∧ p < M.1 606 5
  · rw [if_neg (by omega)] at h14
    refine ⟨pu_fo (pu_ev M) p, 0, fun h => absurd h (by decide), ?_, fun M1 hq => ?_⟩
    · refine w_c_fate_0 hL hHo hx2 ?_
      rw [h13]
      refine ⟨fun h => absurd h (by omega), fun _ => ⟨n5.1, n5.2, fun _ => ?_, fun h => absurd h (by omega)⟩⟩
      refine nb_W.imp (sp_c_evening hI (hL.wr (fun w => nb_nlit (by decide) (by decide))) rfl (fun a i h => nb_rd_other (M := M) h)) ?_
      rintro r' M' ⟨rfl, hf, ⟨hf3, hf8⟩, hS, hX, hIb⟩
      have g := hS.2.2.2.2.1 p hp.1 hp.2
      have x := hX p hp.1 hp.2
      rw [show (106 : Int) + 4 + p = 110 + p by omega] at g x
      obtain ⟨g0, g2, g3, g4, g5, g6, g7, g8, g9, g10, g12⟩ := g
      obtain ⟨x1, x2, x3, x4⟩ := x
      have hq := pu_CQ_fr hf
      refine ⟨rfl, hf.1, ?_, ?_⟩
      · rw [hf.2.2 2 2 (by omega), nb_wr_1, if_neg (by omega)]; exact hx2
      have hb3 : pu_ev M (12 + 8 * p) = 3 → pu_ev M (12 + 8 * p + 4) = -2 := fun z => ((hIb.2.2.1.1 p hp.1 hp.2).2.2.2.1 (Or.inl z)).1
      have g8' : M'.1 (110 + p) 8 = pu_ev M (12 + 8 * p) := g8
      rw [g8']
      unfold pu_fo
      refine ⟨by omega, fun h _ => ⟨?_, hq⟩, fun h _ => ⟨?_, hq⟩, fun h _ => ⟨?_, hq⟩, fun h _ => ⟨?_, hq⟩, fun h2 h3 h4 h5 _ => ⟨?_, hq⟩⟩
      · rw [if_pos h]
      · rw [if_neg (by omega), if_pos h, if_pos (hb3 h)]
      · rw [if_neg (by omega), if_neg (by omega), if_pos h]
      · rw [if_neg (by omega), if_neg (by omega), if_neg (by omega), if_pos h]
      · rw [if_neg h2, if_neg h3, if_neg h4, if_neg h5]
    · have e603 := hq.row (a := 603) (by decide)
      have e606 := hq.row (a := 606) (by decide)
      have e608 := hq.row (a := 608) (by decide)
      have e609 := hq.row (a := 609) (by decide)
      have e612 := hq.row (a := 612) (by decide)
      have e613 := hq.row (a := 613) (by decide)
      have h7' : pu_I7 M1 := by
        unfold pu_I7
        rw [e612]
        exact h7
      refine w_m_fate_0 hq.1 ?_
      simp only [e603, e606, e608, e609, e612, e613]
      repeat' (first | assumption | with_reducible apply And.intro | intro _)
      all_goals first
        | assumption
        | omega
        | rfl
        | exact pu_MQ_eve h7' (by rw [e612]; exact pu_cpy12) (by assumption)
  · refine ⟨-1, 1, fun h => absurd h (by decide), ?_, fun M1 hq => ?_⟩
    · refine w_c_fate_0 hL hHo hx2 ?_
      rw [h13]
      exact ⟨fun _ hL => ⟨rfl, pu_CQ_no hL⟩, fun _ => ⟨n5.1, n5.2, fun h => absurd h (by omega), fun _ hL => ⟨rfl, pu_CQ_no hL⟩⟩⟩
    · have e603 := hq.row (a := 603) (by decide)
      have e606 := hq.row (a := 606) (by decide)
      have h7' : pu_I7 M1 := by
        unfold pu_I7
        rw [hq.row (a := 612) (by decide)]
        exact h7
      have h14' : M.1 603 14 = 0 ∨ M.1 603 14 = 1 := by
        rw [h14]
        split <;> simp
      refine w_m_fate_0 hq.1 ?_
      simp only [e603, e606]
      refine ⟨by omega, by omega, fun _ hL => ⟨by trivial, pu_MQ_no h7' hL⟩, fun _ => ⟨n5.1, n5.2, fun _ hL => ⟨by trivial, pu_MQ_no h7' hL⟩, fun _ => ⟨fun _ hL => ⟨by trivial, pu_MQ_no h7' hL⟩, fun h => absurd h (by omega)⟩⟩⟩

theorem pa_whom (p : Int) : pu_pair 27 [(19, 2), (0, p)] 153 [(20, 603), (0, p)] := by
  apply pu_pair_q
  intro M k hI hk0 hk1
  obtain ⟨Ho, hHo, hx2, hx3, hh, hSn, hT, h14, h7, hL⟩ := pu_I_at hI
  obtain ⟨z1, z2, z3, z4, z5, z6⟩ := pu_ev_rw hI
  have hr := hT.1
  have n5 := hr.2.2.2.2.2.2.1
  have n4 := hr.2.2.2.2.2.1
  have n2 := hr.2.2.2.1
  have h13 := hh.1.2.2.2.2.1
  by_cases hp : 0 ≤ p ∧ p < M.1 606 5
  · rw [if_neg (by omega)] at h14
    refine ⟨pu_ev M (12 + 8 * p + 6), 0, fun h => absurd h (by decide), ?_, fun M1 hq => ?_⟩
    · refine w_c_whom_0 hL hHo hx2 ?_
      rw [h13]
      refine ⟨fun h => absurd h (by omega), fun _ => ⟨n5.1, n5.2, fun _ => ?_, fun h => absurd h (by omega)⟩⟩
      refine nb_W.imp (sp_c_evening hI (hL.wr (fun w => nb_nlit (by decide) (by decide))) rfl (fun a i h => nb_rd_other (M := M) h)) ?_
      rintro r' M' ⟨rfl, hf, ⟨hf3, hf8⟩, hS, hX, hIb⟩
      have g := hS.2.2.2.2.1 p hp.1 hp.2
      have x := hX p hp.1 hp.2
      rw [show (106 : Int) + 4 + p = 110 + p by omega] at g x
      obtain ⟨g0, g2, g3, g4, g5, g6, g7, g8, g9, g10, g12⟩ := g
      obtain ⟨x1, x2, x3, x4⟩ := x
      have hq := pu_CQ_fr hf
      refine ⟨rfl, hf.1, ?_, ?_⟩
      · rw [hf.2.2 2 2 (by omega), nb_wr_1, if_neg (by omega)]; exact hx2
      exact ⟨by omega, fun _ => ⟨by rw [g12]; rfl, hq⟩⟩
    · have e603 := hq.row (a := 603) (by decide)
      have e606 := hq.row (a := 606) (by decide)
      have e608 := hq.row (a := 608) (by decide)
      have e609 := hq.row (a := 609) (by decide)
      have e612 := hq.row (a := 612) (by decide)
      have e613 := hq.row (a := 613) (by decide)
      have h7' : pu_I7 M1 := by
        unfold pu_I7
        rw [e612]
        exact h7
      refine w_m_whom_0 hq.1 ?_
      simp only [e603, e606, e608, e609, e612, e613]
      repeat' (first | assumption | with_reducible apply And.intro | intro _)
      all_goals first
        | assumption
        | omega
        | rfl
        | exact pu_MQ_eve h7' (by rw [e612]; exact pu_cpy12) (by assumption)
  · refine ⟨-1, 1, fun h => absurd h (by decide), ?_, fun M1 hq => ?_⟩
    · refine w_c_whom_0 hL hHo hx2 ?_
      rw [h13]
      exact ⟨fun _ hL => ⟨rfl, pu_CQ_no hL⟩, fun _ => ⟨n5.1, n5.2, fun h => absurd h (by omega), fun _ hL => ⟨rfl, pu_CQ_no hL⟩⟩⟩
    · have e603 := hq.row (a := 603) (by decide)
      have e606 := hq.row (a := 606) (by decide)
      have h7' : pu_I7 M1 := by
        unfold pu_I7
        rw [hq.row (a := 612) (by decide)]
        exact h7
      have h14' : M.1 603 14 = 0 ∨ M.1 603 14 = 1 := by
        rw [h14]
        split <;> simp
      refine w_m_whom_0 hq.1 ?_
      simp only [e603, e606]
      refine ⟨by omega, by omega, fun _ hL => ⟨by trivial, pu_MQ_no h7' hL⟩, fun _ => ⟨n5.1, n5.2, fun _ hL => ⟨by trivial, pu_MQ_no h7' hL⟩, fun _ => ⟨fun _ hL => ⟨by trivial, pu_MQ_no h7' hL⟩, fun h => absurd h (by omega)⟩⟩⟩

theorem pa_has (p : Int) : pu_pair 28 [(19, 2), (0, p)] 154 [(20, 603), (0, p)] := by
  apply pu_pair_q
  intro M k hI hk0 hk1
  obtain ⟨Ho, hHo, hx2, hx3, hh, hSn, hT, h14, h7, hL⟩ := pu_I_at hI
  obtain ⟨z1, z2, z3, z4, z5, z6⟩ := pu_ev_rw hI
  have hr := hT.1
  have n5 := hr.2.2.2.2.2.2.1
  have n4 := hr.2.2.2.2.2.1
  have n2 := hr.2.2.2.1
  have h13 := hh.1.2.2.2.2.1
  by_cases hp : 0 ≤ p ∧ p < M.1 606 5
  · rw [if_neg (by omega)] at h14
    refine ⟨pu_ev M (12 + 8 * p + 5), 0, fun h => absurd h (by decide), ?_, fun M1 hq => ?_⟩
    · refine w_c_has_0 hL hHo hx2 ?_
      rw [h13]
      refine ⟨fun h => absurd h (by omega), fun _ => ⟨n5.1, n5.2, fun _ => ?_, fun h => absurd h (by omega)⟩⟩
      refine nb_W.imp (sp_c_evening hI (hL.wr (fun w => nb_nlit (by decide) (by decide))) rfl (fun a i h => nb_rd_other (M := M) h)) ?_
      rintro r' M' ⟨rfl, hf, ⟨hf3, hf8⟩, hS, hX, hIb⟩
      have g := hS.2.2.2.2.1 p hp.1 hp.2
      have x := hX p hp.1 hp.2
      rw [show (106 : Int) + 4 + p = 110 + p by omega] at g x
      obtain ⟨g0, g2, g3, g4, g5, g6, g7, g8, g9, g10, g12⟩ := g
      obtain ⟨x1, x2, x3, x4⟩ := x
      have hq := pu_CQ_fr hf
      refine ⟨rfl, hf.1, ?_, ?_⟩
      · rw [hf.2.2 2 2 (by omega), nb_wr_1, if_neg (by omega)]; exact hx2
      exact ⟨by omega, fun _ => ⟨by rw [g10]; rfl, hq⟩⟩
    · have e603 := hq.row (a := 603) (by decide)
      have e606 := hq.row (a := 606) (by decide)
      have e608 := hq.row (a := 608) (by decide)
      have e609 := hq.row (a := 609) (by decide)
      have e612 := hq.row (a := 612) (by decide)
      have e613 := hq.row (a := 613) (by decide)
      have h7' : pu_I7 M1 := by
        unfold pu_I7
        rw [e612]
        exact h7
      refine w_m_has_0 hq.1 ?_
      simp only [e603, e606, e608, e609, e612, e613]
      repeat' (first | assumption | with_reducible apply And.intro | intro _)
      all_goals first
        | assumption
        | omega
        | rfl
        | exact pu_MQ_eve h7' (by rw [e612]; exact pu_cpy12) (by assumption)
  · refine ⟨-1, 1, fun h => absurd h (by decide), ?_, fun M1 hq => ?_⟩
    · refine w_c_has_0 hL hHo hx2 ?_
      rw [h13]
      exact ⟨fun _ hL => ⟨rfl, pu_CQ_no hL⟩, fun _ => ⟨n5.1, n5.2, fun h => absurd h (by omega), fun _ hL => ⟨rfl, pu_CQ_no hL⟩⟩⟩
    · have e603 := hq.row (a := 603) (by decide)
      have e606 := hq.row (a := 606) (by decide)
      have h7' : pu_I7 M1 := by
        unfold pu_I7
        rw [hq.row (a := 612) (by decide)]
        exact h7
      have h14' : M.1 603 14 = 0 ∨ M.1 603 14 = 1 := by
        rw [h14]
        split <;> simp
      refine w_m_has_0 hq.1 ?_
      simp only [e603, e606]
      refine ⟨by omega, by omega, fun _ hL => ⟨by trivial, pu_MQ_no h7' hL⟩, fun _ => ⟨n5.1, n5.2, fun _ hL => ⟨by trivial, pu_MQ_no h7' hL⟩, fun _ => ⟨fun _ hL => ⟨by trivial, pu_MQ_no h7' hL⟩, fun h => absurd h (by omega)⟩⟩⟩

theorem pa_passed (p : Int) : pu_pair 29 [(19, 2), (0, p)] 155 [(20, 603), (0, p)] := by
  apply pu_pair_q
  intro M k hI hk0 hk1
  obtain ⟨Ho, hHo, hx2, hx3, hh, hSn, hT, h14, h7, hL⟩ := pu_I_at hI
  obtain ⟨z1, z2, z3, z4, z5, z6⟩ := pu_ev_rw hI
  have hr := hT.1
  have n5 := hr.2.2.2.2.2.2.1
  have n4 := hr.2.2.2.2.2.1
  have n2 := hr.2.2.2.1
  have h13 := hh.1.2.2.2.2.1
  by_cases hp : 0 ≤ p ∧ p < M.1 606 5
  · rw [if_neg (by omega)] at h14
    refine ⟨pu_pa (pu_pea M) (pu_ev M) p, 0, fun h => absurd h (by decide), ?_, fun M1 hq => ?_⟩
    · refine w_c_passed_0 hL hHo hx2 ?_
      rw [h13]
      refine ⟨fun h => absurd h (by omega), fun _ => ⟨n5.1, n5.2, fun _ => ?_, fun h => absurd h (by omega)⟩⟩
      refine nb_W.imp (sp_c_evening hI (hL.wr (fun w => nb_nlit (by decide) (by decide))) rfl (fun a i h => nb_rd_other (M := M) h)) ?_
      rintro r' M' ⟨rfl, hf, ⟨hf3, hf8⟩, hS, hX, hIb⟩
      have g := hS.2.2.2.2.1 p hp.1 hp.2
      have x := hX p hp.1 hp.2
      rw [show (106 : Int) + 4 + p = 110 + p by omega] at g x
      obtain ⟨g0, g2, g3, g4, g5, g6, g7, g8, g9, g10, g12⟩ := g
      obtain ⟨x1, x2, x3, x4⟩ := x
      have hq := pu_CQ_fr hf
      refine ⟨rfl, hf.1, ?_, ?_⟩
      · rw [hf.2.2 2 2 (by omega), nb_wr_1, if_neg (by omega)]; exact hx2
      exact ⟨by omega, fun _ => ⟨by rw [x3]; rfl, hq⟩⟩
    · have e603 := hq.row (a := 603) (by decide)
      have e606 := hq.row (a := 606) (by decide)
      have e608 := hq.row (a := 608) (by decide)
      have e609 := hq.row (a := 609) (by decide)
      have e612 := hq.row (a := 612) (by decide)
      have e613 := hq.row (a := 613) (by decide)
      have h7' : pu_I7 M1 := by
        unfold pu_I7
        rw [e612]
        exact h7
      refine w_m_passed_0 hq.1 ?_
      simp only [e603, e606, e608, e609, e612, e613]
      repeat' (first | assumption | with_reducible apply And.intro | intro _)
      all_goals first
        | assumption
        | omega
        | rfl
        | exact pu_MQ_eve h7' (by rw [e612]; exact pu_cpy12) (by assumption)
  · refine ⟨-1, 1, fun h => absurd h (by decide), ?_, fun M1 hq => ?_⟩
    · refine w_c_passed_0 hL hHo hx2 ?_
      rw [h13]
      exact ⟨fun _ hL => ⟨rfl, pu_CQ_no hL⟩, fun _ => ⟨n5.1, n5.2, fun h => absurd h (by omega), fun _ hL => ⟨rfl, pu_CQ_no hL⟩⟩⟩
    · have e603 := hq.row (a := 603) (by decide)
      have e606 := hq.row (a := 606) (by decide)
      have h7' : pu_I7 M1 := by
        unfold pu_I7
        rw [hq.row (a := 612) (by decide)]
        exact h7
      have h14' : M.1 603 14 = 0 ∨ M.1 603 14 = 1 := by
        rw [h14]
        split <;> simp
      refine w_m_passed_0 hq.1 ?_
      simp only [e603, e606]
      refine ⟨by omega, by omega, fun _ hL => ⟨by trivial, pu_MQ_no h7' hL⟩, fun _ => ⟨n5.1, n5.2, fun _ hL => ⟨by trivial, pu_MQ_no h7' hL⟩, fun _ => ⟨fun _ hL => ⟨by trivial, pu_MQ_no h7' hL⟩, fun h => absurd h (by omega)⟩⟩⟩

theorem pa_pushed (p : Int) : pu_pair 30 [(19, 2), (0, p)] 156 [(20, 603), (0, p)] := by
  apply pu_pair_q
  intro M k hI hk0 hk1
  obtain ⟨Ho, hHo, hx2, hx3, hh, hSn, hT, h14, h7, hL⟩ := pu_I_at hI
  obtain ⟨z1, z2, z3, z4, z5, z6⟩ := pu_ev_rw hI
  have hr := hT.1
  have n5 := hr.2.2.2.2.2.2.1
  have n4 := hr.2.2.2.2.2.1
  have n2 := hr.2.2.2.1
  have h13 := hh.1.2.2.2.2.1
  by_cases hp : 0 ≤ p ∧ p < M.1 606 5
  · rw [if_neg (by omega)] at h14
    refine ⟨pu_pu (pu_pea M) (pu_ev M) (M.1 606 5) p, 0, fun h => absurd h (by decide), ?_, fun M1 hq => ?_⟩
    · refine w_c_pushed_0 hL hHo hx2 ?_
      rw [h13]
      refine ⟨fun h => absurd h (by omega), fun _ => ⟨n5.1, n5.2, fun _ => ?_, fun h => absurd h (by omega)⟩⟩
      refine nb_W.imp (sp_c_evening hI (hL.wr (fun w => nb_nlit (by decide) (by decide))) rfl (fun a i h => nb_rd_other (M := M) h)) ?_
      rintro r' M' ⟨rfl, hf, ⟨hf3, hf8⟩, hS, hX, hIb⟩
      have g := hS.2.2.2.2.1 p hp.1 hp.2
      have x := hX p hp.1 hp.2
      rw [show (106 : Int) + 4 + p = 110 + p by omega] at g x
      obtain ⟨g0, g2, g3, g4, g5, g6, g7, g8, g9, g10, g12⟩ := g
      obtain ⟨x1, x2, x3, x4⟩ := x
      have hq := pu_CQ_fr hf
      refine ⟨rfl, hf.1, ?_, ?_⟩
      · rw [hf.2.2 2 2 (by omega), nb_wr_1, if_neg (by omega)]; exact hx2
      exact ⟨by omega, fun _ => ⟨by rw [x4]; rfl, hq⟩⟩
    · have e603 := hq.row (a := 603) (by decide)
      have e606 := hq.row (a := 606) (by decide)
      have e608 := hq.row (a := 608) (by decide)
      have e609 := hq.row (a := 609) (by decide)
      have e612 := hq.row (a := 612) (by decide)
      have e613 := hq.row (a := 613) (by decide)
      have h7' : pu_I7 M1 := by
        unfold pu_I7
        rw [e612]
        exact h7
      refine w_m_pushed_0 hq.1 ?_
      simp only [e603, e606, e608, e609, e612, e613]
      repeat' (first | assumption | with_reducible apply And.intro | intro _)
      all_goals first
        | assumption
        | omega
        | rfl
        | exact pu_MQ_eve h7' (by rw [e612]; exact pu_cpy12) (by assumption)
  · refine ⟨-1, 1, fun h => absurd h (by decide), ?_, fun M1 hq => ?_⟩
    · refine w_c_pushed_0 hL hHo hx2 ?_
      rw [h13]
      exact ⟨fun _ hL => ⟨rfl, pu_CQ_no hL⟩, fun _ => ⟨n5.1, n5.2, fun h => absurd h (by omega), fun _ hL => ⟨rfl, pu_CQ_no hL⟩⟩⟩
    · have e603 := hq.row (a := 603) (by decide)
      have e606 := hq.row (a := 606) (by decide)
      have h7' : pu_I7 M1 := by
        unfold pu_I7
        rw [hq.row (a := 612) (by decide)]
        exact h7
      have h14' : M.1 603 14 = 0 ∨ M.1 603 14 = 1 := by
        rw [h14]
        split <;> simp
      refine w_m_pushed_0 hq.1 ?_
      simp only [e603, e606]
      refine ⟨by omega, by omega, fun _ hL => ⟨by trivial, pu_MQ_no h7' hL⟩, fun _ => ⟨n5.1, n5.2, fun _ hL => ⟨by trivial, pu_MQ_no h7' hL⟩, fun _ => ⟨fun _ hL => ⟨by trivial, pu_MQ_no h7' hL⟩, fun h => absurd h (by omega)⟩⟩⟩
