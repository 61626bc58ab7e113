/-! CALLS that only read, and call; printed by wip/gen/pairs.py -/
theorem pu_tn_congr {cr cr' pe pe' R : Int → Int} {s p : Int} (ec : ∀ i, 6 * s ≤ i → i < 6 * s + 6 → cr' i = cr i) (ep : ∀ i, 0 ≤ i → i < 70 → pe' i = pe i) (hp : 0 ≤ p ∧ p ≤ 9) : pu_tn cr' pe' R s p = pu_tn cr pe R s p := by
  unfold pu_tn
  rw [ec (6 * s) (by omega) (by omega), ep (7 * p) (by omega) (by omega)]
theorem pu_nf_congr {cr cr' pe pe' R : Int → Int} {np s : Int} (hnp : np ≤ 10) (ec : ∀ i, 6 * s ≤ i → i < 6 * s + 6 → cr' i = cr i) (ep : ∀ i, 0 ≤ i → i < 70 → pe' i = pe i) (hs : 0 ≤ s ∧ s ≤ 3) : pu_nf np cr' pe' R s = pu_nf np cr pe R s := by
  have : ∀ n : Nat, n ≤ np.toNat → pu_nfs cr' pe' R s n = pu_nfs cr pe R s n := by
    intro n
    induction n with
    | zero => intro _; rfl
    | succ n ih =>
      intro hn
      have h := pu_nfs_rg (cr := cr) (pe := pe) (R := R) (s := s) n
      unfold pu_nfs
      rw [ih (by omega), ec (6 * s + 2) (by omega) (by omega), ec (6 * s + 3) (by omega) (by omega), pu_tn_congr ec ep (p := n) (by omega), ep (7 * n + 2) (by omega) (by omega)]
      rcases h with h | h
      · rw [h]
        simp
      · rw [pu_tn_congr ec ep (p := pu_nfs cr pe R s n) (by omega), ep (7 * pu_nfs cr pe R s n + 2) (by omega) (by omega)]
  unfold pu_nf
  exact this _ (Nat.le_refl _)

theorem pa_waiting : pu_pair 19 [(19, 2)] 146 [(20, 603)] := by
  apply pu_pair_r
  intro M k hI hk0 hk1
  obtain ⟨Ho, hHo, hx2, hx3, hh, hSn, hT, h14, h7, hL⟩ := pu_I_at hI
  have hr := hT.1
  have n5 := hr.2.2.2.2.2.2.1
  have n4 := hr.2.2.2.2.2.1
  have n3 := hr.2.2.2.2.1
  have n2 := hr.2.2.2.1
  have n1 := hr.2.2.1
  have hhh := nb_Hw hh
  obtain ⟨⟨o9, o10, o11, o12, o13, o14, o15⟩, hh2⟩ := hh
  obtain ⟨t15, t16, t17⟩ := hI.2.2.2.2.1
  have h14' : (M.1 603 14 = 0 ∧ M.1 606 5 = 0) ∨ (M.1 603 14 = 1 ∧ 1 ≤ M.1 606 5) := by
    rw [h14]
    split
    · exact Or.inl ⟨rfl, by assumption⟩
    · exact Or.inr ⟨rfl, by omega⟩
  have hS := hSn.1
  have hR := hSn.2.2.1.1
  have hS' : pu_S (nb_wr M 2 15 0) 84 (M.1 606 5) (M.1 606 4) (pu_cr0 (M.1 606)) (pu_pe0 (M.1 606)) (M.1 608) := pu_S_take hR.2.2.2.1.2 hS (fun j _ _ => by rw [nb_wr_b (by decide)]) (fun j _ _ => by rw [nb_wr_b (by decide)]) (fun p j _ _ _ _ => by rw [nb_wr_b (by omega)]) (fun p j _ _ _ _ => by rw [nb_wr_b (by omega)]) (fun p j _ _ _ _ => by rw [nb_wr_b (by omega)])
  have hL' : nb_Lay (nb_wr M 2 15 0) := hL.wr (fun w => nb_nlit (by decide) (by decide))
  have hHo' : pu_Ho (nb_wr M 2 15 0) Ho (M.1 606) := pu_Ho_wr (nb_Hu hhh) hr (by unfold nb_hs at hHo; omega)
  refine w_c_waiting_0 hL hHo hx2 ?_
  try simp only [o9, o10, o11, o12, o13, o14, o15]
  repeat' (first | assumption | with_reducible apply And.intro | intro _)
  all_goals first
    | omega
    | (refine nb_Wp (sp_sc_countOf hL' nb_sc84 n5 hS') ⟨_, rfl, by assumption, by first | exact hx2 | (rw [nb_wr_1, if_neg (by omega)]; exact hx2), fun _ => ?_⟩
       refine ⟨_, _, rfl, pu_CQ_no (by assumption), by omega, ?_⟩
       refine w_m_waiting_0 (by assumption) ?_
       try clear hh2; try clear h14; try clear hSn; try clear hT; try clear t15; try clear t16; try clear t17; try clear hx3; try clear n1; try clear n2
       simp only [nb_wr_b (show (603 : Int) ≠ 2 by decide), nb_wr_b (show (604 : Int) ≠ 2 by decide), nb_wr_b (show (606 : Int) ≠ 2 by decide), nb_wr_b (show (608 : Int) ≠ 2 by decide), nb_wr_b (show (609 : Int) ≠ 2 by decide), nb_wr_b (show (610 : Int) ≠ 2 by decide), nb_wr_b (show (611 : Int) ≠ 2 by decide), nb_wr_b (show (612 : Int) ≠ 2 by decide), nb_wr_b (show (613 : Int) ≠ 2 by decide)]
       repeat' (first | assumption | with_reducible apply And.intro | intro _)
       all_goals first
         | exact trivial
         | assumption
         | (with_reducible refine pu_MQ_ok ?_ ?_
            · exact pu_I7_wr h7 (by decide)
            · assumption)
         | (with_reducible refine pu_MQ_no ?_ ?_
            · exact pu_I7_wr h7 (by decide)
            · assumption)
         | (with_reducible refine pu_MQ_told ?_ ?_ ?_
            · exact pu_I7_wr h7 (by decide)
            · first | exact pu_cpy12 | (rw [nb_wr_b (by decide)]; exact pu_cpy12)
            · assumption)
         | omega
         | (refine pu_v1 ?_
            omega)
         | exact pu_v1 (by first | assumption | (symm; assumption) | rfl | (simp [*]; done)))
    | (refine ⟨_, _, rfl, pu_CQ_no (by assumption), by omega, ?_⟩
       refine w_m_waiting_0 (by assumption) ?_
       try clear hh2; try clear h14; try clear hSn; try clear hT; try clear t15; try clear t16; try clear t17; try clear hx3; try clear n1; try clear n2
       simp only [nb_wr_b (show (603 : Int) ≠ 2 by decide), nb_wr_b (show (604 : Int) ≠ 2 by decide), nb_wr_b (show (606 : Int) ≠ 2 by decide), nb_wr_b (show (608 : Int) ≠ 2 by decide), nb_wr_b (show (609 : Int) ≠ 2 by decide), nb_wr_b (show (610 : Int) ≠ 2 by decide), nb_wr_b (show (611 : Int) ≠ 2 by decide), nb_wr_b (show (612 : Int) ≠ 2 by decide), nb_wr_b (show (613 : Int) ≠ 2 by decide)]
       repeat' (first | assumption | with_reducible apply And.intro | intro _)
       all_goals first
         | exact trivial
         | assumption
         | (with_reducible refine pu_MQ_ok ?_ ?_
            · exact pu_I7_wr h7 (by decide)
            · assumption)
         | (with_reducible refine pu_MQ_no ?_ ?_
            · exact pu_I7_wr h7 (by decide)
            · assumption)
         | (with_reducible refine pu_MQ_told ?_ ?_ ?_
            · exact pu_I7_wr h7 (by decide)
            · first | exact pu_cpy12 | (rw [nb_wr_b (by decide)]; exact pu_cpy12)
            · assumption)
         | omega
         | (refine pu_v1 ?_
            omega)
         | exact pu_v1 (by first | assumption | (symm; assumption) | rfl | (simp [*]; done)))
    | (refine ⟨_, _, rfl, pu_CQ_id (by assumption), by omega, ?_⟩
       refine w_m_waiting_0 (by assumption) ?_
       repeat' (first | assumption | with_reducible apply And.intro | intro _)
       all_goals first
         | exact trivial
         | assumption
         | omega
         | exact pu_v1 (by omega)
         | exact pu_MQ_th h7 (by omega) (by assumption))

theorem pa_costs (p : Int) : pu_pair 22 [(19, 2), (0, p)] 149 [(20, 603), (0, p)] := by
  apply pu_pair_r
  intro M k hI hk0 hk1
  obtain ⟨Ho, hHo, hx2, hx3, hh, hSn, hT, h14, h7, hL⟩ := pu_I_at hI
  have hr := hT.1
  have n5 := hr.2.2.2.2.2.2.1
  have n4 := hr.2.2.2.2.2.1
  have n3 := hr.2.2.2.2.1
  have n2 := hr.2.2.2.1
  have n1 := hr.2.2.1
  have hhh := nb_Hw hh
  obtain ⟨⟨o9, o10, o11, o12, o13, o14, o15⟩, hh2⟩ := hh
  obtain ⟨t15, t16, t17⟩ := hI.2.2.2.2.1
  have h14' : (M.1 603 14 = 0 ∧ M.1 606 5 = 0) ∨ (M.1 603 14 = 1 ∧ 1 ≤ M.1 606 5) := by
    rw [h14]
    split
    · exact Or.inl ⟨rfl, by assumption⟩
    · exact Or.inr ⟨rfl, by omega⟩
  have hS := hSn.1
  have hR := hSn.2.2.1.1
  have hS' : pu_S (nb_wr M 2 15 0) 84 (M.1 606 5) (M.1 606 4) (pu_cr0 (M.1 606)) (pu_pe0 (M.1 606)) (M.1 608) := pu_S_take hR.2.2.2.1.2 hS (fun j _ _ => by rw [nb_wr_b (by decide)]) (fun j _ _ => by rw [nb_wr_b (by decide)]) (fun p j _ _ _ _ => by rw [nb_wr_b (by omega)]) (fun p j _ _ _ _ => by rw [nb_wr_b (by omega)]) (fun p j _ _ _ _ => by rw [nb_wr_b (by omega)])
  have hL' : nb_Lay (nb_wr M 2 15 0) := hL.wr (fun w => nb_nlit (by decide) (by decide))
  have hHo' : pu_Ho (nb_wr M 2 15 0) Ho (M.1 606) := pu_Ho_wr (nb_Hu hhh) hr (by unfold nb_hs at hHo; omega)
  refine w_c_costs_0 hL hHo hx2 ?_
  try simp only [o9, o10, o11, o12, o13, o14, o15]
  repeat' (first | assumption | with_reducible apply And.intro | intro _)
  all_goals first
    | omega
    | (refine nb_Wp (sp_h_priceOf hL' hHo hr hHo' (by omega)) ⟨_, rfl, by assumption, by first | exact hx2 | (rw [nb_wr_1, if_neg (by omega)]; exact hx2), fun _ => ?_⟩
       refine ⟨_, _, rfl, pu_CQ_no (by assumption), by omega, ?_⟩
       refine w_m_costs_0 (by assumption) ?_
       try clear hh2; try clear h14; try clear hSn; try clear hT; try clear t15; try clear t16; try clear t17; try clear hx3; try clear n1; try clear n2
       simp only [nb_wr_b (show (603 : Int) ≠ 2 by decide), nb_wr_b (show (604 : Int) ≠ 2 by decide), nb_wr_b (show (606 : Int) ≠ 2 by decide), nb_wr_b (show (608 : Int) ≠ 2 by decide), nb_wr_b (show (609 : Int) ≠ 2 by decide), nb_wr_b (show (610 : Int) ≠ 2 by decide), nb_wr_b (show (611 : Int) ≠ 2 by decide), nb_wr_b (show (612 : Int) ≠ 2 by decide), nb_wr_b (show (613 : Int) ≠ 2 by decide)]
       repeat' (first | assumption | with_reducible apply And.intro | intro _)
       all_goals first
         | exact trivial
         | assumption
         | (with_reducible refine pu_MQ_ok ?_ ?_
            · exact pu_I7_wr h7 (by decide)
            · assumption)
         | (with_reducible refine pu_MQ_no ?_ ?_
            · exact pu_I7_wr h7 (by decide)
            · assumption)
         | (with_reducible refine pu_MQ_told ?_ ?_ ?_
            · exact pu_I7_wr h7 (by decide)
            · first | exact pu_cpy12 | (rw [nb_wr_b (by decide)]; exact pu_cpy12)
            · assumption)
         | omega
         | (refine pu_v1 ?_
            omega)
         | exact pu_v1 (by first | assumption | (symm; assumption) | rfl | (simp [*]; done)))
    | (refine ⟨_, _, rfl, pu_CQ_no (by assumption), by omega, ?_⟩
       refine w_m_costs_0 (by assumption) ?_
       try clear hh2; try clear h14; try clear hSn; try clear hT; try clear t15; try clear t16; try clear t17; try clear hx3; try clear n1; try clear n2
       simp only [nb_wr_b (show (603 : Int) ≠ 2 by decide), nb_wr_b (show (604 : Int) ≠ 2 by decide), nb_wr_b (show (606 : Int) ≠ 2 by decide), nb_wr_b (show (608 : Int) ≠ 2 by decide), nb_wr_b (show (609 : Int) ≠ 2 by decide), nb_wr_b (show (610 : Int) ≠ 2 by decide), nb_wr_b (show (611 : Int) ≠ 2 by decide), nb_wr_b (show (612 : Int) ≠ 2 by decide), nb_wr_b (show (613 : Int) ≠ 2 by decide)]
       repeat' (first | assumption | with_reducible apply And.intro | intro _)
       all_goals first
         | exact trivial
         | assumption
         | (with_reducible refine pu_MQ_ok ?_ ?_
            · exact pu_I7_wr h7 (by decide)
            · assumption)
         | (with_reducible refine pu_MQ_no ?_ ?_
            · exact pu_I7_wr h7 (by decide)
            · assumption)
         | (with_reducible refine pu_MQ_told ?_ ?_ ?_
            · exact pu_I7_wr h7 (by decide)
            · first | exact pu_cpy12 | (rw [nb_wr_b (by decide)]; exact pu_cpy12)
            · assumption)
         | omega
         | (refine pu_v1 ?_
            omega)
         | exact pu_v1 (by first | assumption | (symm; assumption) | rfl | (simp [*]; done)))
    | (refine ⟨_, _, rfl, pu_CQ_id (by assumption), by omega, ?_⟩
       refine w_m_costs_0 (by assumption) ?_
       repeat' (first | assumption | with_reducible apply And.intro | intro _)
       all_goals first
         | exact trivial
         | assumption
         | omega
         | exact pu_v1 (by omega)
         | exact pu_MQ_th h7 (by omega) (by assumption))

theorem pa_time (s p : Int) : pu_pair 21 [(19, 2), (0, s), (0, p)] 148 [(20, 603), (0, s), (0, p)] := by
  apply pu_pair_r
  intro M k hI hk0 hk1
  obtain ⟨Ho, hHo, hx2, hx3, hh, hSn, hT, h14, h7, hL⟩ := pu_I_at hI
  have hr := hT.1
  have n5 := hr.2.2.2.2.2.2.1
  have n4 := hr.2.2.2.2.2.1
  have n3 := hr.2.2.2.2.1
  have n2 := hr.2.2.2.1
  have n1 := hr.2.2.1
  have hhh := nb_Hw hh
  obtain ⟨⟨o9, o10, o11, o12, o13, o14, o15⟩, hh2⟩ := hh
  obtain ⟨t15, t16, t17⟩ := hI.2.2.2.2.1
  have h14' : (M.1 603 14 = 0 ∧ M.1 606 5 = 0) ∨ (M.1 603 14 = 1 ∧ 1 ≤ M.1 606 5) := by
    rw [h14]
    split
    · exact Or.inl ⟨rfl, by assumption⟩
    · exact Or.inr ⟨rfl, by omega⟩
  have hS := hSn.1
  have hR := hSn.2.2.1.1
  have hS' : pu_S (nb_wr M 2 15 0) 84 (M.1 606 5) (M.1 606 4) (pu_cr0 (M.1 606)) (pu_pe0 (M.1 606)) (M.1 608) := pu_S_take hR.2.2.2.1.2 hS (fun j _ _ => by rw [nb_wr_b (by decide)]) (fun j _ _ => by rw [nb_wr_b (by decide)]) (fun p j _ _ _ _ => by rw [nb_wr_b (by omega)]) (fun p j _ _ _ _ => by rw [nb_wr_b (by omega)]) (fun p j _ _ _ _ => by rw [nb_wr_b (by omega)])
  have hL' : nb_Lay (nb_wr M 2 15 0) := hL.wr (fun w => nb_nlit (by decide) (by decide))
  have hHo' : pu_Ho (nb_wr M 2 15 0) Ho (M.1 606) := pu_Ho_wr (nb_Hu hhh) hr (by unfold nb_hs at hHo; omega)
  have hV : 0 ≤ s → s < M.1 606 4 → M.1 (98 + 2 * s) 7 = M.1 608 (92 + 4 * s + 3) - 1 ∧ 0 ≤ M.1 608 (92 + 4 * s + 3) ∧ M.1 608 (92 + 4 * s + 3) ≤ M.1 606 5 := fun a b => by
    have v := hS.2.2.2.2.2 s a b
    rw [show (84 : Int) + 14 + 2 * s = 98 + 2 * s by omega] at v
    exact ⟨v.2.2.2.2.2.2.1, (hR.2.1 s a (by omega)).2.2.2.1, hSn.2.2.1.2.2.2 s a b⟩
  refine w_c_time_0 hL hHo hx2 ?_
  try simp only [o9, o10, o11, o12, o13, o14, o15]
  repeat' (first | assumption | with_reducible apply And.intro | intro _)
  all_goals first
    | omega
    | (refine nb_Wp (sp_h_timeBehind hL' hHo hr hHo' (by omega) (by omega)) ⟨_, rfl, by assumption, by first | exact hx2 | (rw [nb_wr_1, if_neg (by omega)]; exact hx2), fun _ => ?_⟩
       refine ⟨_, _, rfl, pu_CQ_no (by assumption), by omega, ?_⟩
       refine w_m_time_0 (by assumption) ?_
       try clear hh2; try clear h14; try clear hSn; try clear hT; try clear t15; try clear t16; try clear t17; try clear hx3; try clear n1; try clear n2
       simp only [nb_wr_b (show (603 : Int) ≠ 2 by decide), nb_wr_b (show (604 : Int) ≠ 2 by decide), nb_wr_b (show (606 : Int) ≠ 2 by decide), nb_wr_b (show (608 : Int) ≠ 2 by decide), nb_wr_b (show (609 : Int) ≠ 2 by decide), nb_wr_b (show (610 : Int) ≠ 2 by decide), nb_wr_b (show (611 : Int) ≠ 2 by decide), nb_wr_b (show (612 : Int) ≠ 2 by decide), nb_wr_b (show (613 : Int) ≠ 2 by decide)]
       repeat' (first | assumption | with_reducible apply And.intro | intro _)
       all_goals first
         | exact trivial
         | assumption
         | (with_reducible refine pu_MQ_ok ?_ ?_
            · exact pu_I7_wr h7 (by decide)
            · assumption)
         | (with_reducible refine pu_MQ_no ?_ ?_
            · exact pu_I7_wr h7 (by decide)
            · assumption)
         | (with_reducible refine pu_MQ_told ?_ ?_ ?_
            · exact pu_I7_wr h7 (by decide)
            · first | exact pu_cpy12 | (rw [nb_wr_b (by decide)]; exact pu_cpy12)
            · assumption)
         | omega
         | (refine pu_v1 ?_
            omega)
         | (rw [(hV (by assumption) (by omega)).1]; done)
         | exact pu_v1 (by first | assumption | (symm; assumption) | rfl | (simp [*]; done)))
    | (refine ⟨_, _, rfl, pu_CQ_no (by assumption), by omega, ?_⟩
       refine w_m_time_0 (by assumption) ?_
       try clear hh2; try clear h14; try clear hSn; try clear hT; try clear t15; try clear t16; try clear t17; try clear hx3; try clear n1; try clear n2
       simp only [nb_wr_b (show (603 : Int) ≠ 2 by decide), nb_wr_b (show (604 : Int) ≠ 2 by decide), nb_wr_b (show (606 : Int) ≠ 2 by decide), nb_wr_b (show (608 : Int) ≠ 2 by decide), nb_wr_b (show (609 : Int) ≠ 2 by decide), nb_wr_b (show (610 : Int) ≠ 2 by decide), nb_wr_b (show (611 : Int) ≠ 2 by decide), nb_wr_b (show (612 : Int) ≠ 2 by decide), nb_wr_b (show (613 : Int) ≠ 2 by decide)]
       repeat' (first | assumption | with_reducible apply And.intro | intro _)
       all_goals first
         | exact trivial
         | assumption
         | (with_reducible refine pu_MQ_ok ?_ ?_
            · exact pu_I7_wr h7 (by decide)
            · assumption)
         | (with_reducible refine pu_MQ_no ?_ ?_
            · exact pu_I7_wr h7 (by decide)
            · assumption)
         | (with_reducible refine pu_MQ_told ?_ ?_ ?_
            · exact pu_I7_wr h7 (by decide)
            · first | exact pu_cpy12 | (rw [nb_wr_b (by decide)]; exact pu_cpy12)
            · assumption)
         | omega
         | (refine pu_v1 ?_
            omega)
         | exact pu_v1 (by first | assumption | (symm; assumption) | rfl | (simp [*]; done)))
    | (refine ⟨_, _, rfl, pu_CQ_id (by assumption), by omega, ?_⟩
       refine w_m_time_0 (by assumption) ?_
       repeat' (first | assumption | with_reducible apply And.intro | intro _)
       all_goals first
         | exact trivial
         | assumption
         | omega
         | exact pu_v1 (by omega)
         | exact pu_MQ_th h7 (by omega) (by assumption))

theorem pa_next (s : Int) : pu_pair 20 [(19, 2), (0, s)] 147 [(20, 603), (0, s)] := by
  apply pu_pair_r
  intro M k hI hk0 hk1
  obtain ⟨Ho, hHo, hx2, hx3, hh, hSn, hT, h14, h7, hL⟩ := pu_I_at hI
  have hr := hT.1
  have n5 := hr.2.2.2.2.2.2.1
  have n4 := hr.2.2.2.2.2.1
  have n3 := hr.2.2.2.2.1
  have n2 := hr.2.2.2.1
  have n1 := hr.2.2.1
  have hhh := nb_Hw hh
  obtain ⟨⟨o9, o10, o11, o12, o13, o14, o15⟩, hh2⟩ := hh
  obtain ⟨t15, t16, t17⟩ := hI.2.2.2.2.1
  have h14' : (M.1 603 14 = 0 ∧ M.1 606 5 = 0) ∨ (M.1 603 14 = 1 ∧ 1 ≤ M.1 606 5) := by
    rw [h14]
    split
    · exact Or.inl ⟨rfl, by assumption⟩
    · exact Or.inr ⟨rfl, by omega⟩
  have hS := hSn.1
  have hR := hSn.2.2.1.1
  have hS' : pu_S (nb_wr M 2 15 0) 84 (M.1 606 5) (M.1 606 4) (pu_cr0 (M.1 606)) (pu_pe0 (M.1 606)) (M.1 608) := pu_S_take hR.2.2.2.1.2 hS (fun j _ _ => by rw [nb_wr_b (by decide)]) (fun j _ _ => by rw [nb_wr_b (by decide)]) (fun p j _ _ _ _ => by rw [nb_wr_b (by omega)]) (fun p j _ _ _ _ => by rw [nb_wr_b (by omega)]) (fun p j _ _ _ _ => by rw [nb_wr_b (by omega)])
  have hL' : nb_Lay (nb_wr M 2 15 0) := hL.wr (fun w => nb_nlit (by decide) (by decide))
  have hHo' : pu_Ho (nb_wr M 2 15 0) Ho (M.1 606) := pu_Ho_wr (nb_Hu hhh) hr (by unfold nb_hs at hHo; omega)
  have hnf : 0 ≤ s → s < M.1 606 4 → pu_nf (M.1 606 5) (pu_cra M) (pu_pea M) (M.1 608) s = pu_nf (M.1 606 5) (pu_cr0 (M.1 606)) (pu_pe0 (M.1 606)) (M.1 608) s := fun a b => pu_nf_congr n5.2 (fun i p q => pu_cra_eq M (by omega) (by omega)) (fun i p q => pu_pea_eq M p q) ⟨a, by omega⟩
  have hK := nb_Hw hnf
  clear hnf
  have hz4 : M.1 606 5 = 0 → M.1 606 4 = 0 := fun z => by
    have q := hT.2.2.2.2.2.2
    omega
  refine w_c_next_0 hL hHo hx2 ?_
  try simp only [o9, o10, o11, o12, o13, o14, o15]
  repeat' (first | assumption | with_reducible apply And.intro | intro _)
  all_goals first
    | omega
    | (refine nb_Wp (sp_sc_choice hL' nb_sc84 hHo (by rw [nb_wr_b (by decide)]; exact hSn.2.2.2.1) hR n5 (by omega) (by omega) hS') ⟨_, rfl, by assumption, by first | exact hx2 | (rw [nb_wr_1, if_neg (by omega)]; exact hx2), fun _ => ?_⟩
       refine ⟨_, _, rfl, pu_CQ_no (by assumption), by omega, ?_⟩
       refine w_m_next_0 (by assumption) ?_
       try clear hh2; try clear h14; try clear hSn; try clear hT; try clear t15; try clear t16; try clear t17; try clear hx3; try clear n1; try clear n2
       simp only [nb_wr_b (show (603 : Int) ≠ 2 by decide), nb_wr_b (show (604 : Int) ≠ 2 by decide), nb_wr_b (show (606 : Int) ≠ 2 by decide), nb_wr_b (show (608 : Int) ≠ 2 by decide), nb_wr_b (show (609 : Int) ≠ 2 by decide), nb_wr_b (show (610 : Int) ≠ 2 by decide), nb_wr_b (show (611 : Int) ≠ 2 by decide), nb_wr_b (show (612 : Int) ≠ 2 by decide), nb_wr_b (show (613 : Int) ≠ 2 by decide)]
       repeat' (first | assumption | with_reducible apply And.intro | intro _)
       all_goals first
         | exact trivial
         | assumption
         | (with_reducible refine pu_MQ_ok ?_ ?_
            · exact pu_I7_wr h7 (by decide)
            · assumption)
         | (with_reducible refine pu_MQ_no ?_ ?_
            · exact pu_I7_wr h7 (by decide)
            · assumption)
         | (with_reducible refine pu_MQ_told ?_ ?_ ?_
            · exact pu_I7_wr h7 (by decide)
            · first | exact pu_cpy12 | (rw [nb_wr_b (by decide)]; exact pu_cpy12)
            · assumption)
         | omega
         | (refine pu_v1 ?_
            omega)
         | exact pu_v1 (nb_Hu hK (by assumption) (by omega))
         | exact pu_v1 (by first | assumption | (symm; assumption) | rfl | (simp [*]; done)))
    | (refine ⟨_, _, rfl, pu_CQ_no (by assumption), by omega, ?_⟩
       refine w_m_next_0 (by assumption) ?_
       try clear hh2; try clear h14; try clear hSn; try clear hT; try clear t15; try clear t16; try clear t17; try clear hx3; try clear n1; try clear n2
       simp only [nb_wr_b (show (603 : Int) ≠ 2 by decide), nb_wr_b (show (604 : Int) ≠ 2 by decide), nb_wr_b (show (606 : Int) ≠ 2 by decide), nb_wr_b (show (608 : Int) ≠ 2 by decide), nb_wr_b (show (609 : Int) ≠ 2 by decide), nb_wr_b (show (610 : Int) ≠ 2 by decide), nb_wr_b (show (611 : Int) ≠ 2 by decide), nb_wr_b (show (612 : Int) ≠ 2 by decide), nb_wr_b (show (613 : Int) ≠ 2 by decide)]
       repeat' (first | assumption | with_reducible apply And.intro | intro _)
       all_goals first
         | exact trivial
         | assumption
         | (with_reducible refine pu_MQ_ok ?_ ?_
            · exact pu_I7_wr h7 (by decide)
            · assumption)
         | (with_reducible refine pu_MQ_no ?_ ?_
            · exact pu_I7_wr h7 (by decide)
            · assumption)
         | (with_reducible refine pu_MQ_told ?_ ?_ ?_
            · exact pu_I7_wr h7 (by decide)
            · first | exact pu_cpy12 | (rw [nb_wr_b (by decide)]; exact pu_cpy12)
            · assumption)
         | omega
         | (refine pu_v1 ?_
            omega)
         | exact pu_v1 (by first | assumption | (symm; assumption) | rfl | (simp [*]; done)))
    | (refine ⟨_, _, rfl, pu_CQ_id (by assumption), by omega, ?_⟩
       refine w_m_next_0 (by assumption) ?_
       repeat' (first | assumption | with_reducible apply And.intro | intro _)
       all_goals first
         | exact trivial
         | assumption
         | omega
         | exact pu_v1 (by omega)
         | exact pu_MQ_th h7 (by omega) (by assumption))
