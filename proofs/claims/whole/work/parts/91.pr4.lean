/-! CALLS: sum, served; printed by wip/gen/req/p91.py -/
theorem pu_CQ_fr2 {M M' : nb_M} {tr : Int} (h : pu_fr M M' 106) (hL : nb_Lay (nb_wr M' 2 15 tr)) : pu_CQ M (nb_wr M' 2 15 tr) tr := by
  obtain ⟨h1, h2, h3⟩ := h
  refine ⟨hL, h2, by rw [nb_wr_1, if_pos ⟨rfl, rfl⟩], fun a i p q => ?_⟩
  rw [nb_wr_1, if_neg (by omega), h3 a i (by omega)]
theorem pu_MQ_eve1 {M : nb_M} {x b t : Int} {f12 f13 T : Int → Int} (h7 : pu_I7 M) (h12 : f12 19 = M.1 612 19 ∧ f12 22 = M.1 612 22 ∧ f12 23 = M.1 612 23) (hL : nb_Lay (nb_wr (nb_up (nb_wr (nb_up (nb_up (nb_wr (nb_wr (nb_wr M 603 0 0) 603 11 0) 603 25 x) 612 f12) 613 f13) 603 26 b) 609 T) 603 11 t)) : pu_MQ M (nb_wr (nb_up (nb_wr (nb_up (nb_up (nb_wr (nb_wr (nb_wr M 603 0 0) 603 11 0) 603 25 x) 612 f12) 613 f13) 603 26 b) 609 T) 603 11 t) t := by
  refine ⟨hL, rfl, ?_, ?_, fun a h1 h2 h3 => ?_, fun i h0 h11 h25 h26 _ _ _ => ?_⟩
  · rw [nb_wr_1, if_pos ⟨rfl, rfl⟩]
  · unfold pu_I7
    rw [nb_wr_b (by decide), nb_up_other (by decide), nb_wr_b (by decide), nb_up_other (by decide), nb_up_same, h12.1, h12.2.1, h12.2.2]
    exact h7
  · rw [nb_wr_b h1, nb_up_other h2, nb_wr_b h1, nb_up_other (by omega), nb_up_other (by omega), nb_wr_b h1, nb_wr_b h1, nb_wr_b h1]
  · rw [nb_wr_1, if_neg (by omega), nb_up_other (by decide), nb_wr_1, if_neg (by omega), nb_up_other (by decide), nb_up_other (by decide), nb_wr_1, if_neg (by omega), nb_wr_1, if_neg (by omega), nb_wr_1, if_neg (by omega)]

theorem pa_sum (w : Int) : pu_pair 31 [(19, 2), (0, w)] 157 [(20, 603), (0, w)] := by
  apply pu_pair_q
  intro M k hI hk0 hk1
  obtain ⟨Ho, hHo, hx2, hx3, hh, hSn, hT, h14, h7, hL⟩ := pu_I_at hI
  obtain ⟨z1, z2, z3, z4, z5, z6⟩ := pu_ev_rw hI
  have hr := hT.1
  have n5 := hr.2.2.2.2.2.2.1
  have n4 := hr.2.2.2.2.2.1
  have n2 := hr.2.2.2.1
  have h13 := hh.1.2.2.2.2.1
  by_cases hp : (0 ≤ w ∧ w < 6) ∧ 0 < M.1 606 5
  · rw [if_neg (by omega)] at h14
    refine ⟨pu_sum (M.1 606) (pu_pea M) (pu_ev M) (M.1 606 5) (M.1 606 2) w, 0, fun h => absurd h (by decide), ?_, fun M1 hq => ?_⟩
    · refine w_c_sum_0 hL hHo hx2 ?_
      rw [h13]
      refine ⟨n5.1, n5.2, fun _ => ⟨fun h => absurd h (by omega), fun _ => ⟨fun _ => ?_, fun h => absurd h (by omega)⟩⟩, fun h => absurd h (by omega)⟩
      refine nb_W.imp (sp_c_evening hI (hL.wr (fun w => nb_nlit (by decide) (by decide))) rfl (fun a i h => nb_rd_other (M := M) h)) ?_
      rintro r' M' ⟨rfl, hf, ⟨hf3, hf8⟩, hS, hX, hIb⟩
      have hq := pu_CQ_fr hf
      have hx2' : M'.1 2 2 = Ho := by
        rw [hf.2.2 2 2 (by omega), nb_wr_1, if_neg (by omega)]
        exact hx2
      have hHo' : pu_Ho M' Ho (M.1 606) := pu_Ho_congr hh hr (fun a i p q => by
        unfold nb_hs at hHo
        rw [hf.2.2 a i (by omega), nb_wr_1, if_neg (by omega)])
      refine ⟨rfl, hf.1, hx2', ?_⟩
      refine nb_Wp (sp_sc_total (v2 := (0, 0)) hf.1 nb_sc106 hHo (by rw [hf3]; exact hx2) hr hHo' rfl z1 (pu_pea_rg hT) hS hX hf8 (by omega)) ⟨_, rfl, hf.1, hx2', fun _ => ⟨?_, hq⟩⟩
      rw [pu_tot_sum z1 n5.2 hIb.2.2.1 ⟨hp.1.1, by omega⟩]
    · have e603 := hq.row (a := 603) (by decide)
      have e606 := hq.row (a := 606) (by decide)
      have e608 := hq.row (a := 608) (by decide)
      have e609 := hq.row (a := 609) (by decide)
      have e612 := hq.row (a := 612) (by decide)
      have e613 := hq.row (a := 613) (by decide)
      have h7' : pu_I7 M1 := by
        unfold pu_I7
        rw [e612]
        exact h7
      refine w_m_sum_0 hq.1 ?_
      simp only [e603, e606, e608, e609, e612, e613]
      repeat' (first | assumption | with_reducible apply And.intro | intro _)
      all_goals first
        | assumption
        | omega
        | rfl
        | exact pu_MQ_eve h7' (by rw [e612]; exact pu_cpy12) (by assumption)
  · refine ⟨-1, 1, fun h => absurd h (by decide), ?_, fun M1 hq => ?_⟩
    · refine w_c_sum_0 hL hHo hx2 ?_
      rw [h13]
      refine ⟨n5.1, n5.2, fun _ => ⟨fun _ hL => ⟨rfl, pu_CQ_no hL⟩, fun _ => ⟨fun h => absurd h (by omega), fun _ hL => ⟨rfl, pu_CQ_no hL⟩⟩⟩, fun _ hL => ⟨rfl, pu_CQ_no hL⟩⟩
    · have e603 := hq.row (a := 603) (by decide)
      have e606 := hq.row (a := 606) (by decide)
      have h7' : pu_I7 M1 := by
        unfold pu_I7
        rw [hq.row (a := 612) (by decide)]
        exact h7
      have h14' : (M.1 603 14 = 0 ∧ M.1 606 5 = 0) ∨ (M.1 603 14 = 1 ∧ 1 ≤ M.1 606 5) := by
        rw [h14]
        split
        · exact Or.inl ⟨rfl, by assumption⟩
        · exact Or.inr ⟨rfl, by omega⟩
      refine w_m_sum_0 hq.1 ?_
      simp only [e603, e606]
      refine ⟨by omega, by omega, fun _ hL => ⟨by trivial, pu_MQ_no h7' hL⟩, fun _ => ⟨fun _ hL => ⟨by trivial, pu_MQ_no h7' hL⟩, fun _ => ⟨fun _ hL => ⟨by trivial, pu_MQ_no h7' hL⟩, fun h => absurd h (by omega)⟩⟩⟩

theorem pa_served (w : Int) : pu_pair 32 [(19, 2), (0, w), (98, 0)] 158 [(20, 603), (0, w)] := by
  apply pu_pair_q
  intro M k hI hk0 hk1
  obtain ⟨Ho, hHo, hx2, hx3, hh, hSn, hT, h14, h7, hL⟩ := pu_I_at hI
  obtain ⟨z1, z2, z3, z4, z5, z6⟩ := pu_ev_rw hI
  have hr := hT.1
  have n5 := hr.2.2.2.2.2.2.1
  have n4 := hr.2.2.2.2.2.1
  have n2 := hr.2.2.2.1
  have h13 := hh.1.2.2.2.2.1
  have z10 := z1.2.2.2.1
  have h14' : (M.1 603 14 = 0 ∧ M.1 606 5 = 0) ∨ (M.1 603 14 = 1 ∧ 1 ≤ M.1 606 5) := by
    rw [h14]
    split
    · exact Or.inl ⟨rfl, by assumption⟩
    · exact Or.inr ⟨rfl, by omega⟩
  by_cases hp : (0 ≤ w ∧ w < pu_ev M 1) ∧ 1 ≤ M.1 606 5
  · refine ⟨pu_ev M (2 + w), 0, fun h => absurd h (by decide), ?_, fun M1 hq => ?_⟩
    · refine w_c_served_0 hL hHo hx2 (nb_W.imp (sp_c_evening hI hL rfl (fun a i h => rfl)) ?_)
      rintro r' M' ⟨rfl, hf, ⟨hf3, hf8⟩, hS, hX, hIb⟩
      have e6 : M'.1 106 6 = pu_ev M 1 := hS.2.2.1
      have e9 : M'.1 109 w = pu_ev M (2 + w) := hS.2.2.2.1 w hp.1.1 hp.1.2
      rw [e6]
      refine ⟨rfl, hf.1, by rw [hf.2.2 2 2 (by omega)]; exact hx2, fun h => absurd h (by omega), fun _ => ⟨fun _ => ⟨fun _ hL' => ⟨by rw [e9], pu_CQ_fr2 hf hL'⟩, fun h => absurd h (by omega)⟩, fun h => absurd h (by omega)⟩⟩
    · have e603 := hq.row (a := 603) (by decide)
      have e606 := hq.row (a := 606) (by decide)
      have e608 := hq.row (a := 608) (by decide)
      have e609 := hq.row (a := 609) (by decide)
      have e612 := hq.row (a := 612) (by decide)
      have e613 := hq.row (a := 613) (by decide)
      have h7' : pu_I7 M1 := by
        unfold pu_I7
        rw [e612]
        exact h7
      have hp2 := hp.1.2
      unfold pu_ev pu_cra pu_pea pu_sta at hp2
      refine w_m_served_0 hq.1 ?_
      simp only [e603, e606, e608, e609, e612, e613]
      repeat' (first | assumption | with_reducible apply And.intro | intro _)
      all_goals first
        | assumption
        | omega
        | rfl
        | exact pu_MQ_eve h7' (by rw [e612]; exact pu_cpy12) (by assumption)
  · refine ⟨-1, 1, fun h => absurd h (by decide), ?_, fun M1 hq => ?_⟩
    · refine w_c_served_0 hL hHo hx2 (nb_W.imp (sp_c_evening hI hL rfl (fun a i h => rfl)) ?_)
      rintro r' M' ⟨rfl, hf, ⟨hf3, hf8⟩, hS, hX, hIb⟩
      have e6 : M'.1 106 6 = pu_ev M 1 := hS.2.2.1
      have b0 : M.1 606 5 = 0 → pu_ev M 1 ≤ 0 := fun z => by
        by_cases e : 0 < pu_ev M 1
        · have := hIb.2.2.1.2 0 (by decide) e
          omega
        · omega
      rw [e6]
      refine ⟨rfl, hf.1, by rw [hf.2.2 2 2 (by omega)]; exact hx2, fun _ hL' => ⟨rfl, pu_CQ_fr2 hf hL'⟩, fun _ => ⟨fun h => absurd h (by omega), fun _ hL' => ⟨rfl, pu_CQ_fr2 hf hL'⟩⟩⟩
    · have e603 := hq.row (a := 603) (by decide)
      have e606 := hq.row (a := 606) (by decide)
      have e608 := hq.row (a := 608) (by decide)
      have e609 := hq.row (a := 609) (by decide)
      have e612 := hq.row (a := 612) (by decide)
      have e613 := hq.row (a := 613) (by decide)
      have h7' : pu_I7 M1 := by
        unfold pu_I7
        rw [e612]
        exact h7
      unfold pu_ev pu_cra pu_pea pu_sta at hp
      refine w_m_served_0 hq.1 ?_
      simp only [e603, e606, e608, e609, e612, e613]
      repeat' (first | assumption | with_reducible apply And.intro | intro _)
      all_goals first
        | exact trivial
        | assumption
        | omega
        | rfl
        | exact pu_MQ_no h7' (by assumption)
        | exact pu_MQ_eve1 h7' (by rw [e612]; exact pu_cpy12) (by assumption)
