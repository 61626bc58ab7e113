/-! CALLS that only read; printed by wip/gen/pairs.py -/
theorem pa_person (p w : Int) : pu_pair 16 [(19, 2), (0, p), (0, w), (98, 0)] 142 [(20, 603), (0, p), (0, w), (98, 0)] := by
  apply pu_pair_r
  intro M k hI hk0 hk1
  obtain ⟨Ho, hHo, hx2, hx3, hh, hSn, hT, h14, h7, hL⟩ := pu_I_at hI
  have hr := hT.1
  have n5 := hr.2.2.2.2.2.2.1
  have n4 := hr.2.2.2.2.2.1
  have n3 := hr.2.2.2.2.1
  have n2 := hr.2.2.2.1
  have n1 := hr.2.2.1
  have hhh := nb_Hw hh
  obtain ⟨⟨o9, o10, o11, o12, o13, o14, o15⟩, hh2⟩ := hh
  obtain ⟨t15, t16, t17⟩ := hI.2.2.2.2.1
  have h14' : (M.1 603 14 = 0 ∧ M.1 606 5 = 0) ∨ (M.1 603 14 = 1 ∧ 1 ≤ M.1 606 5) := by
    rw [h14]
    split
    · exact Or.inl ⟨rfl, by assumption⟩
    · exact Or.inr ⟨rfl, by omega⟩
  have u7 := hSn.2.2.2.2.1
  have hG' : 0 ≤ p → p < M.1 606 5 → M.1 (88 + p) 8 = M.1 608 (12 + 8 * p) ∧ M.1 (88 + p) 3 = M.1 608 (12 + 8 * p + 1) ∧ M.1 (88 + p) 5 = M.1 608 (12 + 8 * p + 2) ∧ M.1 (88 + p) 7 = M.1 608 (12 + 8 * p + 3) ∧ M.1 (88 + p) 9 = M.1 608 (12 + 8 * p + 4) ∧ M.1 (88 + p) 10 = M.1 608 (12 + 8 * p + 5) := fun a b => by
    have g := hSn.1.2.2.2.2.1 p a b
    rw [show (84 : Int) + 4 + p = 88 + p by omega] at g
    obtain ⟨g0, g2, g3, g4, g5, g6, g7, g8, g9, g10, g12⟩ := g
    exact ⟨g8, g3, g5, g7, g9, g10⟩
  refine w_c_person_0 hL hHo hx2 ?_
  try simp only [o9, o10, o11, o12, o13, o14, o15]
  repeat' (first | assumption | with_reducible apply And.intro | intro _)
  all_goals first
    | omega
    | (refine ⟨_, _, rfl, pu_CQ_no (by assumption), by omega, ?_⟩
       refine w_m_person_0 (by assumption) ?_
       try clear hh2; try clear hr; try clear h14; try clear hSn; try clear hT; try clear t15; try clear t16; try clear t17; try clear hx3
       simp only [nb_wr_b (show (603 : Int) ≠ 2 by decide), nb_wr_b (show (604 : Int) ≠ 2 by decide), nb_wr_b (show (606 : Int) ≠ 2 by decide), nb_wr_b (show (608 : Int) ≠ 2 by decide), nb_wr_b (show (609 : Int) ≠ 2 by decide), nb_wr_b (show (610 : Int) ≠ 2 by decide), nb_wr_b (show (611 : Int) ≠ 2 by decide), nb_wr_b (show (612 : Int) ≠ 2 by decide), nb_wr_b (show (613 : Int) ≠ 2 by decide)]
       repeat' (first | assumption | with_reducible apply And.intro | intro _)
       all_goals first
         | exact trivial
         | assumption
         | (with_reducible refine pu_MQ_ok ?_ ?_
            · exact pu_I7_wr h7 (by decide)
            · assumption)
         | (with_reducible refine pu_MQ_no ?_ ?_
            · exact pu_I7_wr h7 (by decide)
            · assumption)
         | (with_reducible refine pu_MQ_told ?_ ?_ ?_
            · exact pu_I7_wr h7 (by decide)
            · first | exact pu_cpy12 | (rw [nb_wr_b (by decide)]; exact pu_cpy12)
            · assumption)
         | omega
         | exact pu_v1 (by omega)
         | exact pu_v1 (by first | assumption | (symm; assumption) | rfl | (simp [*]; done)))
    | (refine ⟨_, _, rfl, pu_CQ_id (by assumption), by omega, ?_⟩
       refine w_m_person_0 (by assumption) ?_
       repeat' (first | assumption | with_reducible apply And.intro | intro _)
       all_goals first
         | exact trivial
         | assumption
         | omega
         | exact pu_v1 (by omega)
         | exact pu_MQ_th h7 (by omega) (by assumption))

theorem pa_wants (p d : Int) : pu_pair 74 [(19, 2), (0, p), (0, d)] 210 [(20, 603), (0, p), (0, d)] := by
  apply pu_pair_r
  intro M k hI hk0 hk1
  obtain ⟨Ho, hHo, hx2, hx3, hh, hSn, hT, h14, h7, hL⟩ := pu_I_at hI
  have hr := hT.1
  have n5 := hr.2.2.2.2.2.2.1
  have n4 := hr.2.2.2.2.2.1
  have n3 := hr.2.2.2.2.1
  have n2 := hr.2.2.2.1
  have n1 := hr.2.2.1
  have hhh := nb_Hw hh
  obtain ⟨⟨o9, o10, o11, o12, o13, o14, o15⟩, hh2⟩ := hh
  obtain ⟨t15, t16, t17⟩ := hI.2.2.2.2.1
  have h14' : (M.1 603 14 = 0 ∧ M.1 606 5 = 0) ∨ (M.1 603 14 = 1 ∧ 1 ≤ M.1 606 5) := by
    rw [h14]
    split
    · exact Or.inl ⟨rfl, by assumption⟩
    · exact Or.inr ⟨rfl, by omega⟩
  have hG' : 0 ≤ p → p < M.1 606 5 → 0 ≤ d → d < 5 → M.1 (Ho + 5 + p) d = M.1 606 (111 + 5 * p + d) := fun a b c e => hh2.2.1 p d a b c e
  refine w_c_wants_0 hL hHo hx2 ?_
  try simp only [o9, o10, o11, o12, o13, o14, o15]
  repeat' (first | assumption | with_reducible apply And.intro | intro _)
  all_goals first
    | omega
    | (refine ⟨_, _, rfl, pu_CQ_no (by assumption), by omega, ?_⟩
       refine w_m_wants_0 (by assumption) ?_
       try clear hh2; try clear hr; try clear h14; try clear hSn; try clear hT; try clear t15; try clear t16; try clear t17; try clear hx3
       simp only [nb_wr_b (show (603 : Int) ≠ 2 by decide), nb_wr_b (show (604 : Int) ≠ 2 by decide), nb_wr_b (show (606 : Int) ≠ 2 by decide), nb_wr_b (show (608 : Int) ≠ 2 by decide), nb_wr_b (show (609 : Int) ≠ 2 by decide), nb_wr_b (show (610 : Int) ≠ 2 by decide), nb_wr_b (show (611 : Int) ≠ 2 by decide), nb_wr_b (show (612 : Int) ≠ 2 by decide), nb_wr_b (show (613 : Int) ≠ 2 by decide)]
       repeat' (first | assumption | with_reducible apply And.intro | intro _)
       all_goals first
         | exact trivial
         | assumption
         | (with_reducible refine pu_MQ_ok ?_ ?_
            · exact pu_I7_wr h7 (by decide)
            · assumption)
         | (with_reducible refine pu_MQ_no ?_ ?_
            · exact pu_I7_wr h7 (by decide)
            · assumption)
         | (with_reducible refine pu_MQ_told ?_ ?_ ?_
            · exact pu_I7_wr h7 (by decide)
            · first | exact pu_cpy12 | (rw [nb_wr_b (by decide)]; exact pu_cpy12)
            · assumption)
         | omega
         | exact pu_v1 (by omega)
         | exact pu_v1 (by first | assumption | (symm; assumption) | rfl | (simp [*]; done)))
    | (refine ⟨_, _, rfl, pu_CQ_id (by assumption), by omega, ?_⟩
       refine w_m_wants_0 (by assumption) ?_
       repeat' (first | assumption | with_reducible apply And.intro | intro _)
       all_goals first
         | exact trivial
         | assumption
         | omega
         | exact pu_v1 (by omega)
         | exact pu_MQ_th h7 (by omega) (by assumption))

theorem pa_told (p w : Int) : pu_pair 73 [(19, 2), (0, p), (0, w), (98, 0)] 209 [(20, 603), (0, p), (0, w), (98, 0)] := by
  apply pu_pair_r
  intro M k hI hk0 hk1
  obtain ⟨Ho, hHo, hx2, hx3, hh, hSn, hT, h14, h7, hL⟩ := pu_I_at hI
  have hr := hT.1
  have n5 := hr.2.2.2.2.2.2.1
  have n4 := hr.2.2.2.2.2.1
  have n3 := hr.2.2.2.2.1
  have n2 := hr.2.2.2.1
  have n1 := hr.2.2.1
  have hhh := nb_Hw hh
  obtain ⟨⟨o9, o10, o11, o12, o13, o14, o15⟩, hh2⟩ := hh
  obtain ⟨t15, t16, t17⟩ := hI.2.2.2.2.1
  have h14' : (M.1 603 14 = 0 ∧ M.1 606 5 = 0) ∨ (M.1 603 14 = 1 ∧ 1 ≤ M.1 606 5) := by
    rw [h14]
    split
    · exact Or.inl ⟨rfl, by assumption⟩
    · exact Or.inr ⟨rfl, by omega⟩
  have hG0 : 0 ≤ p → p < M.1 606 5 → pu_Gt (M.1 (Ho + 20 + p)) (M.1 606) p := fun a b => hh2.2.2.2.1 p a b
  have hR6 : 0 ≤ p → p < M.1 606 5 → 6 ≤ w → w ≤ 6 → 0 ≤ M.1 606 (41 + 7 * p + w) ∧ M.1 606 (41 + 7 * p + w) ≤ 601 := fun a b c d => by
    have q := (hT.2.2.1 p a (by omega)).2.2.2.2.2.2
    unfold pu_pe0 at q
    rw [show 41 + (7 * p + 6) = 41 + 7 * p + w by omega] at q
    exact q
  have hT0 : 0 ≤ p → p < M.1 606 5 → w = 0 → M.1 (Ho + 20 + p) 0 = M.1 606 (41 + 7 * p + w) := fun a b z => by
    obtain ⟨⟨g0, g1, g2, g3, g4, g5, g6, g7⟩, -⟩ := hG0 a b
    rw [z, g0]
    rw [Int.add_zero]
  have hT1 : 0 ≤ p → p < M.1 606 5 → w = 1 → M.1 (Ho + 20 + p) 1 = M.1 606 (41 + 7 * p + w) := fun a b z => by
    obtain ⟨⟨g0, g1, g2, g3, g4, g5, g6, g7⟩, -⟩ := hG0 a b
    rw [z, g1]
  have hT2 : 0 ≤ p → p < M.1 606 5 → w = 2 → M.1 (Ho + 20 + p) 2 = M.1 606 (41 + 7 * p + w) := fun a b z => by
    obtain ⟨⟨g0, g1, g2, g3, g4, g5, g6, g7⟩, -⟩ := hG0 a b
    rw [z, g2]
  have hT3 : 0 ≤ p → p < M.1 606 5 → w = 3 → M.1 (Ho + 20 + p) 3 = M.1 606 (41 + 7 * p + w) := fun a b z => by
    obtain ⟨⟨g0, g1, g2, g3, g4, g5, g6, g7⟩, -⟩ := hG0 a b
    rw [z, g3]
  have hT4 : 0 ≤ p → p < M.1 606 5 → w = 4 → M.1 (Ho + 20 + p) 4 = M.1 606 (41 + 7 * p + w) := fun a b z => by
    obtain ⟨⟨g0, g1, g2, g3, g4, g5, g6, g7⟩, -⟩ := hG0 a b
    rw [z, g4]
  have hT5 : 0 ≤ p → p < M.1 606 5 → w = 5 → M.1 (Ho + 20 + p) 5 = M.1 606 (41 + 7 * p + w) := fun a b z => by
    obtain ⟨⟨g0, g1, g2, g3, g4, g5, g6, g7⟩, -⟩ := hG0 a b
    rw [z, g5]
  have hT6 : 0 ≤ p → p < M.1 606 5 → 6 ≤ w → w ≤ 6 → M.1 (Ho + 20 + p) 6 = if M.1 606 (41 + 7 * p + w) = 0 then -2 else M.1 606 (41 + 7 * p + w) - 1 := fun a b z z2 => by
    obtain ⟨⟨g0, g1, g2, g3, g4, g5, g6, g7⟩, -⟩ := hG0 a b
    rw [show w = 6 by omega, g6]
    rfl
  have hK0 := nb_Hw hT0
  clear hT0
  have hK1 := nb_Hw hT1
  clear hT1
  have hK2 := nb_Hw hT2
  clear hT2
  have hK3 := nb_Hw hT3
  clear hT3
  have hK4 := nb_Hw hT4
  clear hT4
  have hK5 := nb_Hw hT5
  clear hT5
  have hK6 := nb_Hw hT6
  clear hT6
  clear hG0
  refine w_c_told_0 hL hHo hx2 ?_
  try simp only [o9, o10, o11, o12, o13, o14, o15]
  repeat' (first | assumption | with_reducible apply And.intro | intro _)
  all_goals first
    | omega
    | (refine ⟨_, _, rfl, pu_CQ_no (by assumption), by omega, ?_⟩
       refine w_m_told_0 (by assumption) ?_
       try clear hh2; try clear hr; try clear h14; try clear hSn; try clear hT; try clear t15; try clear t16; try clear t17; try clear hx3
       simp only [nb_wr_b (show (603 : Int) ≠ 2 by decide), nb_wr_b (show (604 : Int) ≠ 2 by decide), nb_wr_b (show (606 : Int) ≠ 2 by decide), nb_wr_b (show (608 : Int) ≠ 2 by decide), nb_wr_b (show (609 : Int) ≠ 2 by decide), nb_wr_b (show (610 : Int) ≠ 2 by decide), nb_wr_b (show (611 : Int) ≠ 2 by decide), nb_wr_b (show (612 : Int) ≠ 2 by decide), nb_wr_b (show (613 : Int) ≠ 2 by decide)]
       repeat' (first | assumption | with_reducible apply And.intro | intro _)
       all_goals first
         | exact trivial
         | assumption
         | (with_reducible refine pu_MQ_ok ?_ ?_
            · exact pu_I7_wr h7 (by decide)
            · assumption)
         | (with_reducible refine pu_MQ_no ?_ ?_
            · exact pu_I7_wr h7 (by decide)
            · assumption)
         | (with_reducible refine pu_MQ_told ?_ ?_ ?_
            · exact pu_I7_wr h7 (by decide)
            · first | exact pu_cpy12 | (rw [nb_wr_b (by decide)]; exact pu_cpy12)
            · assumption)
         | exact pu_v1 (nb_Hu hK0 (by assumption) (by omega) (by assumption)).symm
         | exact pu_v1 (nb_Hu hK1 (by assumption) (by omega) (by assumption)).symm
         | exact pu_v1 (nb_Hu hK2 (by assumption) (by omega) (by assumption)).symm
         | exact pu_v1 (nb_Hu hK3 (by assumption) (by omega) (by assumption)).symm
         | exact pu_v1 (nb_Hu hK4 (by assumption) (by omega) (by assumption)).symm
         | exact pu_v1 (nb_Hu hK5 (by assumption) (by omega) (by assumption)).symm
         | exact pu_v1 ((nb_Hu hK6 (by assumption) (by omega) (by omega) (by omega)).trans (if_pos (by assumption))).symm
         | exact pu_v1 ((nb_Hu hK6 (by assumption) (by omega) (by omega) (by omega)).trans (if_neg (by assumption))).symm
         | omega
         | exact pu_v1 (by omega)
         | exact pu_v1 (by first | assumption | (symm; assumption) | rfl | (simp [*]; done)))
    | (refine ⟨_, _, rfl, pu_CQ_id (by assumption), by omega, ?_⟩
       refine w_m_told_0 (by assumption) ?_
       repeat' (first | assumption | with_reducible apply And.intro | intro _)
       all_goals first
         | exact trivial
         | assumption
         | omega
         | exact pu_v1 (by omega)
         | exact pu_MQ_th h7 (by omega) (by assumption))
