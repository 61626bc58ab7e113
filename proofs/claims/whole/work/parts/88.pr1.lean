/-! CALLS that only read; printed by wip/gen/pairs.py -/
theorem pa_trouble : pu_pair 76 [(19, 2)] 213 [(20, 603)] := by
  apply pu_pair_r
  intro M k hI hk0 hk1
  obtain ⟨Ho, hHo, hx2, hx3, hh, hSn, hT, h14, h7, hL⟩ := pu_I_at hI
  have hr := hT.1
  have n5 := hr.2.2.2.2.2.2.1
  have n4 := hr.2.2.2.2.2.1
  have n3 := hr.2.2.2.2.1
  have n2 := hr.2.2.2.1
  have n1 := hr.2.2.1
  have hhh := nb_Hw hh
  obtain ⟨⟨o9, o10, o11, o12, o13, o14, o15⟩, hh2⟩ := hh
  obtain ⟨t15, t16, t17⟩ := hI.2.2.2.2.1
  have h14' : (M.1 603 14 = 0 ∧ M.1 606 5 = 0) ∨ (M.1 603 14 = 1 ∧ 1 ≤ M.1 606 5) := by
    rw [h14]
    split
    · exact Or.inl ⟨rfl, by assumption⟩
    · exact Or.inr ⟨rfl, by omega⟩
  refine w_c_trouble_0 hL hHo hx2 ?_
  try simp only [o9, o10, o11, o12, o13, o14, o15]
  repeat' (first | assumption | with_reducible apply And.intro | intro _)
  all_goals first
    | omega
    | (refine ⟨_, _, rfl, pu_CQ_no (by assumption), by omega, ?_⟩
       refine w_m_trouble_0 (by assumption) ?_
       simp only [nb_wr_b (show (603 : Int) ≠ 2 by decide), nb_wr_b (show (604 : Int) ≠ 2 by decide), nb_wr_b (show (606 : Int) ≠ 2 by decide), nb_wr_b (show (608 : Int) ≠ 2 by decide), nb_wr_b (show (609 : Int) ≠ 2 by decide), nb_wr_b (show (610 : Int) ≠ 2 by decide), nb_wr_b (show (611 : Int) ≠ 2 by decide), nb_wr_b (show (612 : Int) ≠ 2 by decide), nb_wr_b (show (613 : Int) ≠ 2 by decide)]
       repeat' (first | assumption | with_reducible apply And.intro | intro _)
       all_goals first
         | assumption
         | omega
         | exact pu_v1 (by omega)
         | exact pu_v1 (by first | assumption | (symm; assumption) | rfl | (simp [*]; done))
         | exact pu_MQ_ok (pu_I7_wr h7 (by decide)) (by assumption)
         | exact pu_MQ_no (pu_I7_wr h7 (by decide)) (by assumption)
         | exact pu_MQ_told (pu_I7_wr h7 (by decide)) (by first | exact pu_cpy12 | (rw [nb_wr_b (by decide)]; exact pu_cpy12)) (by assumption))
    | (refine ⟨_, _, rfl, pu_CQ_id (by assumption), by omega, ?_⟩
       refine w_m_trouble_0 (by assumption) ?_
       repeat' (first | assumption | with_reducible apply And.intro | intro _)
       all_goals first
         | assumption
         | omega
         | exact pu_v1 (by omega)
         | exact pu_MQ_th h7 (by omega) (by assumption))

theorem pa_fault : pu_pair 5 [(19, 2)] 114 [(20, 603)] := by
  apply pu_pair_r
  intro M k hI hk0 hk1
  obtain ⟨Ho, hHo, hx2, hx3, hh, hSn, hT, h14, h7, hL⟩ := pu_I_at hI
  have hr := hT.1
  have n5 := hr.2.2.2.2.2.2.1
  have n4 := hr.2.2.2.2.2.1
  have n3 := hr.2.2.2.2.1
  have n2 := hr.2.2.2.1
  have n1 := hr.2.2.1
  have hhh := nb_Hw hh
  obtain ⟨⟨o9, o10, o11, o12, o13, o14, o15⟩, hh2⟩ := hh
  obtain ⟨t15, t16, t17⟩ := hI.2.2.2.2.1
  have h14' : (M.1 603 14 = 0 ∧ M.1 606 5 = 0) ∨ (M.1 603 14 = 1 ∧ 1 ≤ M.1 606 5) := by
    rw [h14]
    split
    · exact Or.inl ⟨rfl, by assumption⟩
    · exact Or.inr ⟨rfl, by omega⟩
  refine w_c_fault_0 hL hHo hx2 ?_
  try simp only [o9, o10, o11, o12, o13, o14, o15]
  repeat' (first | assumption | with_reducible apply And.intro | intro _)
  all_goals first
    | omega
    | (refine ⟨_, _, rfl, pu_CQ_no (by assumption), by omega, ?_⟩
       refine w_m_fault_0 (by assumption) ?_
       simp only [nb_wr_b (show (603 : Int) ≠ 2 by decide), nb_wr_b (show (604 : Int) ≠ 2 by decide), nb_wr_b (show (606 : Int) ≠ 2 by decide), nb_wr_b (show (608 : Int) ≠ 2 by decide), nb_wr_b (show (609 : Int) ≠ 2 by decide), nb_wr_b (show (610 : Int) ≠ 2 by decide), nb_wr_b (show (611 : Int) ≠ 2 by decide), nb_wr_b (show (612 : Int) ≠ 2 by decide), nb_wr_b (show (613 : Int) ≠ 2 by decide)]
       repeat' (first | assumption | with_reducible apply And.intro | intro _)
       all_goals first
         | assumption
         | omega
         | exact pu_v1 (by omega)
         | exact pu_v1 (by first | assumption | (symm; assumption) | rfl | (simp [*]; done))
         | exact pu_MQ_ok (pu_I7_wr h7 (by decide)) (by assumption)
         | exact pu_MQ_no (pu_I7_wr h7 (by decide)) (by assumption)
         | exact pu_MQ_told (pu_I7_wr h7 (by decide)) (by first | exact pu_cpy12 | (rw [nb_wr_b (by decide)]; exact pu_cpy12)) (by assumption))
    | (refine ⟨_, _, rfl, pu_CQ_id (by assumption), by omega, ?_⟩
       refine w_m_fault_0 (by assumption) ?_
       repeat' (first | assumption | with_reducible apply And.intro | intro _)
       all_goals first
         | assumption
         | omega
         | exact pu_v1 (by omega)
         | exact pu_MQ_th h7 (by omega) (by assumption))

theorem pa_where : pu_pair 6 [(19, 2)] 115 [(20, 603)] := by
  apply pu_pair_r
  intro M k hI hk0 hk1
  obtain ⟨Ho, hHo, hx2, hx3, hh, hSn, hT, h14, h7, hL⟩ := pu_I_at hI
  have hr := hT.1
  have n5 := hr.2.2.2.2.2.2.1
  have n4 := hr.2.2.2.2.2.1
  have n3 := hr.2.2.2.2.1
  have n2 := hr.2.2.2.1
  have n1 := hr.2.2.1
  have hhh := nb_Hw hh
  obtain ⟨⟨o9, o10, o11, o12, o13, o14, o15⟩, hh2⟩ := hh
  obtain ⟨t15, t16, t17⟩ := hI.2.2.2.2.1
  have h14' : (M.1 603 14 = 0 ∧ M.1 606 5 = 0) ∨ (M.1 603 14 = 1 ∧ 1 ≤ M.1 606 5) := by
    rw [h14]
    split
    · exact Or.inl ⟨rfl, by assumption⟩
    · exact Or.inr ⟨rfl, by omega⟩
  refine w_c_where_0 hL hHo hx2 ?_
  try simp only [o9, o10, o11, o12, o13, o14, o15]
  repeat' (first | assumption | with_reducible apply And.intro | intro _)
  all_goals first
    | omega
    | (refine ⟨_, _, rfl, pu_CQ_no (by assumption), by omega, ?_⟩
       refine w_m_where_0 (by assumption) ?_
       simp only [nb_wr_b (show (603 : Int) ≠ 2 by decide), nb_wr_b (show (604 : Int) ≠ 2 by decide), nb_wr_b (show (606 : Int) ≠ 2 by decide), nb_wr_b (show (608 : Int) ≠ 2 by decide), nb_wr_b (show (609 : Int) ≠ 2 by decide), nb_wr_b (show (610 : Int) ≠ 2 by decide), nb_wr_b (show (611 : Int) ≠ 2 by decide), nb_wr_b (show (612 : Int) ≠ 2 by decide), nb_wr_b (show (613 : Int) ≠ 2 by decide)]
       repeat' (first | assumption | with_reducible apply And.intro | intro _)
       all_goals first
         | assumption
         | omega
         | exact pu_v1 (by omega)
         | exact pu_v1 (by first | assumption | (symm; assumption) | rfl | (simp [*]; done))
         | exact pu_MQ_ok (pu_I7_wr h7 (by decide)) (by assumption)
         | exact pu_MQ_no (pu_I7_wr h7 (by decide)) (by assumption)
         | exact pu_MQ_told (pu_I7_wr h7 (by decide)) (by first | exact pu_cpy12 | (rw [nb_wr_b (by decide)]; exact pu_cpy12)) (by assumption))
    | (refine ⟨_, _, rfl, pu_CQ_id (by assumption), by omega, ?_⟩
       refine w_m_where_0 (by assumption) ?_
       repeat' (first | assumption | with_reducible apply And.intro | intro _)
       all_goals first
         | assumption
         | omega
         | exact pu_v1 (by omega)
         | exact pu_MQ_th h7 (by omega) (by assumption))

theorem pa_size (w : Int) : pu_pair 75 [(19, 2), (0, w)] 212 [(20, 603), (0, w)] := by
  apply pu_pair_r
  intro M k hI hk0 hk1
  obtain ⟨Ho, hHo, hx2, hx3, hh, hSn, hT, h14, h7, hL⟩ := pu_I_at hI
  have hr := hT.1
  have n5 := hr.2.2.2.2.2.2.1
  have n4 := hr.2.2.2.2.2.1
  have n3 := hr.2.2.2.2.1
  have n2 := hr.2.2.2.1
  have n1 := hr.2.2.1
  have hhh := nb_Hw hh
  obtain ⟨⟨o9, o10, o11, o12, o13, o14, o15⟩, hh2⟩ := hh
  obtain ⟨t15, t16, t17⟩ := hI.2.2.2.2.1
  have h14' : (M.1 603 14 = 0 ∧ M.1 606 5 = 0) ∨ (M.1 603 14 = 1 ∧ 1 ≤ M.1 606 5) := by
    rw [h14]
    split
    · exact Or.inl ⟨rfl, by assumption⟩
    · exact Or.inr ⟨rfl, by omega⟩
  have u1 := hI.2.1.2.1
  obtain ⟨Ho2, So2, -, ⟨-, u9, -⟩, ⟨-, u11, -⟩⟩ := hI.2.2.2.1
  have u7 := hSn.2.2.2.2.1
  have hz := hI.2.2.1.2.2
  have hz0 : M.1 606 5 = 0 → M.1 608 0 = 0 ∧ M.1 603 21 = 0 ∧ M.1 603 22 = 0 := fun z => ⟨(hz z).1 0 (by decide) (by decide), (hz z).2⟩
  have hT7 := hT.2.2.2.2.2.2
  refine w_c_size_0 hL hHo hx2 ?_
  try simp only [o9, o10, o11, o12, o13, o14, o15]
  repeat' (first | assumption | with_reducible apply And.intro | intro _)
  all_goals first
    | omega
    | (refine ⟨_, _, rfl, pu_CQ_no (by assumption), by omega, ?_⟩
       refine w_m_size_0 (by assumption) ?_
       simp only [nb_wr_b (show (603 : Int) ≠ 2 by decide), nb_wr_b (show (604 : Int) ≠ 2 by decide), nb_wr_b (show (606 : Int) ≠ 2 by decide), nb_wr_b (show (608 : Int) ≠ 2 by decide), nb_wr_b (show (609 : Int) ≠ 2 by decide), nb_wr_b (show (610 : Int) ≠ 2 by decide), nb_wr_b (show (611 : Int) ≠ 2 by decide), nb_wr_b (show (612 : Int) ≠ 2 by decide), nb_wr_b (show (613 : Int) ≠ 2 by decide)]
       repeat' (first | assumption | with_reducible apply And.intro | intro _)
       all_goals first
         | assumption
         | omega
         | exact pu_v1 (by omega)
         | exact pu_v1 (by first | assumption | (symm; assumption) | rfl | (simp [*]; done))
         | exact pu_MQ_ok (pu_I7_wr h7 (by decide)) (by assumption)
         | exact pu_MQ_no (pu_I7_wr h7 (by decide)) (by assumption)
         | exact pu_MQ_told (pu_I7_wr h7 (by decide)) (by first | exact pu_cpy12 | (rw [nb_wr_b (by decide)]; exact pu_cpy12)) (by assumption))
    | (refine ⟨_, _, rfl, pu_CQ_id (by assumption), by omega, ?_⟩
       refine w_m_size_0 (by assumption) ?_
       repeat' (first | assumption | with_reducible apply And.intro | intro _)
       all_goals first
         | assumption
         | omega
         | exact pu_v1 (by omega)
         | exact pu_MQ_th h7 (by omega) (by assumption))

