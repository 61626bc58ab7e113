/-! CALL: so; printed by wip/gen/req/p99.py -/
def pu_so (r pe : Int → Int) : Nat → Int
  | 0 => 0
  | n + 1 => pu_so r pe n + (if pe (7 * r (161 + 3 * n + 1) + 2) < pe (7 * r (161 + 3 * n + 2) + 2) ∨ (pe (7 * r (161 + 3 * n + 1) + 2) = pe (7 * r (161 + 3 * n + 2) + 2) ∧ r (161 + 3 * n + 1) < r (161 + 3 * n + 2)) then 1 else 0)
theorem pu_so_le {r pe : Int → Int} : ∀ n : Nat, 0 ≤ pu_so r pe n ∧ pu_so r pe n ≤ n
  | 0 => by unfold pu_so; omega
  | n + 1 => by
    have h := pu_so_le (r := r) (pe := pe) n
    unfold pu_so
    split <;> omega
theorem sp_m_so_l {M : nb_M} {r pe : Int → Int} (W : nb_Lay M) (e6 : M.1 606 = r) (e13 : M.1 613 = pe) (h7 : 0 ≤ r 7 ∧ r 7 ≤ 8) (hrg : ∀ k, 0 ≤ k → k < r 7 → (0 ≤ r (161 + 3 * k + 1) ∧ r (161 + 3 * k + 1) ≤ 9) ∧ (0 ≤ r (161 + 3 * k + 2) ∧ r (161 + 3 * k + 2) ≤ 9)) : ∀ (n k : Nat), k + n = (r 7).toNat → nb_W 199 6 [(20, 603), (0, pu_so r pe k), (0, (k : Int))] [] M (fun r' M' => r' = [(0, pu_so r pe (r 7).toNat)] ∧ M' = M) := by
  intro n
  induction n with
  | zero =>
    intro k hk
    have := pu_so_le (r := r) (pe := pe) k
    refine w_m_so_6 W (by omega) (by omega) ?_
    rw [e6]
    refine ⟨by omega, by omega, fun h => absurd h (by omega), fun _ => ⟨?_, rfl⟩⟩
    rw [show (r 7).toNat = k by omega]
  | succ n ih =>
    intro k hk
    have := pu_so_le (r := r) (pe := pe) k
    have ih := ih (k + 1) (by omega)
    have e2 : pu_so r pe (k + 1) = pu_so r pe k + (if pe (7 * r (161 + 3 * k + 1) + 2) < pe (7 * r (161 + 3 * k + 2) + 2) ∨ (pe (7 * r (161 + 3 * k + 1) + 2) = pe (7 * r (161 + 3 * k + 2) + 2) ∧ r (161 + 3 * k + 1) < r (161 + 3 * k + 2)) then 1 else 0) := rfl
    rw [e2] at ih
    obtain ⟨g1, g2⟩ := hrg k (by omega) (by omega)
    refine w_m_so_6 W (by omega) (by omega) ?_
    rw [e6, e13]
    refine ⟨by omega, by omega, fun _ => ⟨g2.1, g2.2, g1.1, g1.2, fun c => ?_, fun c => ⟨fun d => ⟨fun e => ?_, fun e => ?_⟩, fun d => ?_⟩⟩, fun h => absurd h (by omega)⟩
    · rw [if_pos (Or.inl c)] at ih
      exact ih
    · rw [if_pos (Or.inr ⟨d.symm, e⟩)] at ih
      exact ih
    · rw [if_neg (by omega), Int.add_zero] at ih
      exact ih
    · rw [if_neg (by omega), Int.add_zero] at ih
      exact ih
theorem sp_c_so_l {M : nb_M} {r pe : Int → Int} {Ho : Int} (W : nb_Lay M) (hHo : nb_hs Ho) (hx2 : M.1 2 2 = Ho) (e15 : M.1 Ho 15 = r 7) (h7 : 0 ≤ r 7 ∧ r 7 ≤ 8) (hrg : ∀ k, 0 ≤ k → k < r 7 → (0 ≤ r (161 + 3 * k + 1) ∧ r (161 + 3 * k + 1) ≤ 9) ∧ (0 ≤ r (161 + 3 * k + 2) ∧ r (161 + 3 * k + 2) ≤ 9)) (hE : ∀ k, 0 ≤ k → k < r 7 → M.1 (Ho + 18) k = r (161 + 3 * k + 1) ∧ M.1 (Ho + 19) k = r (161 + 3 * k + 2) ∧ M.1 (Ho + 20 + r (161 + 3 * k + 1)) 2 = pe (7 * r (161 + 3 * k + 1) + 2) ∧ M.1 (Ho + 20 + r (161 + 3 * k + 2)) 2 = pe (7 * r (161 + 3 * k + 2) + 2)) : ∀ (n k : Nat), k + n = (r 7).toNat → nb_W 62 5 [(19, 2), (0, pu_so r pe k), (0, (k : Int))] [] M (fun r' M' => r' = [(0, pu_so r pe (r 7).toNat)] ∧ M' = M) := by
  intro n
  induction n with
  | zero =>
    intro k hk
    have := pu_so_le (r := r) (pe := pe) k
    refine w_c_so_5 W hHo hx2 (by omega) (by omega) ?_
    rw [e15]
    refine ⟨by omega, by omega, fun h => absurd h (by omega), fun _ => ⟨?_, rfl⟩⟩
    rw [show (r 7).toNat = k by omega]
  | succ n ih =>
    intro k hk
    have := pu_so_le (r := r) (pe := pe) k
    have ih := ih (k + 1) (by omega)
    have e2 : pu_so r pe (k + 1) = pu_so r pe k + (if pe (7 * r (161 + 3 * k + 1) + 2) < pe (7 * r (161 + 3 * k + 2) + 2) ∨ (pe (7 * r (161 + 3 * k + 1) + 2) = pe (7 * r (161 + 3 * k + 2) + 2) ∧ r (161 + 3 * k + 1) < r (161 + 3 * k + 2)) then 1 else 0) := rfl
    rw [e2] at ih
    obtain ⟨g1, g2⟩ := hrg k (by omega) (by omega)
    obtain ⟨x1, x2, x3, x4⟩ := hE k (by omega) (by omega)
    refine w_c_so_5 W hHo hx2 (by omega) (by omega) ?_
    rw [e15, x1, x2, x3, x4]
    refine ⟨by omega, by omega, fun _ => ⟨g1.1, g1.2, g2.1, g2.2, fun c => ?_, fun c => ⟨fun d => ⟨fun e => ?_, fun e => ?_⟩, fun d => ?_⟩⟩, fun h => absurd h (by omega)⟩
    · rw [if_pos (Or.inl c)] at ih
      exact ih
    · rw [if_pos (Or.inr ⟨d, e⟩)] at ih
      exact ih
    · rw [if_neg (by omega), Int.add_zero] at ih
      exact ih
    · rw [if_neg (by omega), Int.add_zero] at ih
      exact ih

theorem pa_so : pu_pair 62 [(19, 2), (98, 0), (98, 0)] 199 [(20, 603), (98, 0), (98, 0)] := by
  apply pu_pair_r
  intro M k hI hk0 hk1
  obtain ⟨Ho, hHo, hx2, hx3, hh, hSn, hT, h14, h7, hL⟩ := pu_I_at hI
  have hr := hT.1
  have n5 := hr.2.2.2.2.2.2.1
  have n4 := hr.2.2.2.2.2.1
  have n3 := hr.2.2.2.2.1
  have n2 := hr.2.2.2.1
  have n1 := hr.2.2.1
  have hhh := nb_Hw hh
  obtain ⟨⟨o9, o10, o11, o12, o13, o14, o15⟩, hh2⟩ := hh
  obtain ⟨t15, t16, t17⟩ := hI.2.2.2.2.1
  have h14' : (M.1 603 14 = 0 ∧ M.1 606 5 = 0) ∨ (M.1 603 14 = 1 ∧ 1 ≤ M.1 606 5) := by
    rw [h14]
    split
    · exact Or.inl ⟨rfl, by assumption⟩
    · exact Or.inr ⟨rfl, by omega⟩
  have hL' : nb_Lay (nb_wr M 2 15 0) := hL.wr (fun w => nb_nlit (by decide) (by decide))
  have hLn : nb_Lay (nb_up (nb_up (nb_wr (nb_wr (nb_wr (nb_wr M 2 15 0) 603 0 0) 603 11 0) 603 25 (M.1 606 4)) 612 (pu_cpy (M.1 606) (M.1 612) 23 0 18)) 613 (pu_cpy (M.1 606) (M.1 613) 41 0 70)) := ((((hL'.wr (fun w => nb_nlit (by decide) (by decide))).wr (fun w => nb_nlit (by decide) (by decide))).wr (fun w => nb_nlit (by decide) (by decide))).up (fun i w => nb_nnum (by decide) (by decide))).up (fun i w => nb_nnum (by decide) (by decide))
  have hu := hHo
  unfold nb_hs at hu
  have q7 := hr.2.2.2.2.2.2.2.2
  have hrg : ∀ k, 0 ≤ k → k < M.1 606 7 → (0 ≤ M.1 606 (161 + 3 * k + 1) ∧ M.1 606 (161 + 3 * k + 1) ≤ 9) ∧ (0 ≤ M.1 606 (161 + 3 * k + 2) ∧ M.1 606 (161 + 3 * k + 2) ≤ 9) := fun k a b => by
    have q := hT.2.2.2.2.1 k a (by omega)
    exact ⟨q.2.1, q.2.2⟩
  have hgt : ∀ p, 0 ≤ p → p < M.1 606 5 → M.1 (Ho + 20 + p) 2 = pu_pea M (7 * p + 2) := fun p a b => by
    obtain ⟨⟨g0, g1, g2, g3, g4, g5, g6, g7⟩, -⟩ := hh2.2.2.2.1 p a b
    rw [g2, pu_pea_eq M (by omega) (by omega)]
    exact congrArg (M.1 606) (by omega)
  have hC := nb_Hw (sp_c_so_l (r := M.1 606) (pe := pu_pea M) hL' hHo (by rw [nb_wr_1, if_neg (by omega)]; exact hx2) (by rw [nb_wr_b (by omega)]; exact o15) q7 hrg (fun k a b => by
    have q := hh2.2.2.2.2.2 k a b
    have q2 := hT.2.2.2.2.2.1 k a b
    have q3 := hrg k a b
    rw [nb_wr_b (by omega), nb_wr_b (by omega), nb_wr_b (by omega), nb_wr_b (by omega)]
    exact ⟨q.2.1, q.2.2, hgt _ q3.1.1 q2.2.1, hgt _ q3.2.1 q2.2.2⟩) _ 0 (Nat.zero_add _))
  have hMl := nb_Hw (sp_m_so_l (M := (nb_up (nb_up (nb_wr (nb_wr (nb_wr (nb_wr M 2 15 0) 603 0 0) 603 11 0) 603 25 (M.1 606 4)) 612 (pu_cpy (M.1 606) (M.1 612) 23 0 18)) 613 (pu_cpy (M.1 606) (M.1 613) 41 0 70))) (r := M.1 606) (pe := pu_pea M) hLn (by rw [nb_up_other (by decide), nb_up_other (by decide), nb_wr_b (by decide), nb_wr_b (by decide), nb_wr_b (by decide), nb_wr_b (by decide)]) (by rw [nb_up_same]; rfl) q7 hrg _ 0 (Nat.zero_add _))
  clear hrg hgt
  refine w_c_so_0 hL hHo hx2 ?_
  try simp only [o9, o10, o11, o12, o13, o14, o15]
  repeat' (first | assumption | with_reducible apply And.intro | intro _)
  all_goals first
    | omega
    | (refine nb_W.imp (nb_Hu hC) ?_
       rintro r' M' ⟨rfl, rfl⟩
       refine ⟨_, _, rfl, pu_CQ_no hL', by omega, ?_⟩
       refine w_m_so_0 (by assumption) ?_
       try clear hh2; try clear h14; try clear hT; try clear t15; try clear t16; try clear t17; try clear hx3; try clear n1; try clear n2; try clear n3
       simp only [nb_wr_b (show (603 : Int) ≠ 2 by decide), nb_wr_b (show (604 : Int) ≠ 2 by decide), nb_wr_b (show (606 : Int) ≠ 2 by decide), nb_wr_b (show (608 : Int) ≠ 2 by decide), nb_wr_b (show (609 : Int) ≠ 2 by decide), nb_wr_b (show (610 : Int) ≠ 2 by decide), nb_wr_b (show (611 : Int) ≠ 2 by decide), nb_wr_b (show (612 : Int) ≠ 2 by decide), nb_wr_b (show (613 : Int) ≠ 2 by decide)]
       repeat' (first | assumption | with_reducible apply And.intro | intro _)
       all_goals first
         | exact trivial
         | assumption
         | (with_reducible refine pu_MQ_ok ?_ ?_
            · exact pu_I7_wr h7 (by decide)
            · assumption)
         | (with_reducible refine pu_MQ_no ?_ ?_
            · exact pu_I7_wr h7 (by decide)
            · assumption)
         | (with_reducible refine pu_MQ_told ?_ ?_ ?_
            · exact pu_I7_wr h7 (by decide)
            · first | exact pu_cpy12 | (rw [nb_wr_b (by decide)]; exact pu_cpy12)
            · assumption)
         | omega
         | (refine pu_v1 ?_
            omega)
         | (refine nb_W.imp (nb_Hu hMl) ?_
            rintro r' M' ⟨rfl, rfl⟩
            exact ⟨rfl, pu_MQ_told (pu_I7_wr h7 (by decide)) (by rw [nb_wr_b (by decide)]; exact pu_cpy12) hLn⟩)
         | exact pu_v1 (by first | assumption | (symm; assumption) | rfl | (simp [*]; done)))
    | (refine ⟨_, _, rfl, pu_CQ_no (by assumption), by omega, ?_⟩
       refine w_m_so_0 (by assumption) ?_
       try clear hh2; try clear h14; try clear hT; try clear t15; try clear t16; try clear t17; try clear hx3; try clear n1; try clear n2; try clear n3
       simp only [nb_wr_b (show (603 : Int) ≠ 2 by decide), nb_wr_b (show (604 : Int) ≠ 2 by decide), nb_wr_b (show (606 : Int) ≠ 2 by decide), nb_wr_b (show (608 : Int) ≠ 2 by decide), nb_wr_b (show (609 : Int) ≠ 2 by decide), nb_wr_b (show (610 : Int) ≠ 2 by decide), nb_wr_b (show (611 : Int) ≠ 2 by decide), nb_wr_b (show (612 : Int) ≠ 2 by decide), nb_wr_b (show (613 : Int) ≠ 2 by decide)]
       repeat' (first | assumption | with_reducible apply And.intro | intro _)
       all_goals first
         | exact trivial
         | assumption
         | (with_reducible refine pu_MQ_ok ?_ ?_
            · exact pu_I7_wr h7 (by decide)
            · assumption)
         | (with_reducible refine pu_MQ_no ?_ ?_
            · exact pu_I7_wr h7 (by decide)
            · assumption)
         | (with_reducible refine pu_MQ_told ?_ ?_ ?_
            · exact pu_I7_wr h7 (by decide)
            · first | exact pu_cpy12 | (rw [nb_wr_b (by decide)]; exact pu_cpy12)
            · assumption)
         | omega
         | (refine pu_v1 ?_
            omega)
         | (refine nb_W.imp (nb_Hu hMl) ?_
            rintro r' M' ⟨rfl, rfl⟩
            exact ⟨rfl, pu_MQ_told (pu_I7_wr h7 (by decide)) (by rw [nb_wr_b (by decide)]; exact pu_cpy12) hLn⟩)
         | exact pu_v1 (by first | assumption | (symm; assumption) | rfl | (simp [*]; done)))
    | (refine ⟨_, _, rfl, pu_CQ_id (by assumption), by omega, ?_⟩
       refine w_m_so_0 (by assumption) ?_
       repeat' (first | assumption | with_reducible apply And.intro | intro _)
       all_goals first
         | exact trivial
         | assumption
         | omega
         | exact pu_v1 (by omega)
         | exact pu_MQ_th h7 (by omega) (by assumption))
