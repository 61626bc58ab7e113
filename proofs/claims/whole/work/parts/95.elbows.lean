/-! CALL: elbows; printed by wip/gen/req/p95.py -/
def pu_el (R : Int → Int) (x : Int) : Nat → Int
  | 0 => 0
  | n + 1 => pu_el R x n + (if R (12 + 8 * n) = 1 ∧ R (12 + 8 * n + 1) = x then 1 else 0)
theorem pu_el_le {R : Int → Int} {x : Int} : ∀ n : Nat, 0 ≤ pu_el R x n ∧ pu_el R x n ≤ n
  | 0 => by unfold pu_el; omega
  | n + 1 => by
    have h := pu_el_le (R := R) (x := x) n
    unfold pu_el
    split <;> omega
theorem sp_m_elbows_l {M : nb_M} {R : Int → Int} {x np : Int} (W : nb_Lay M) (e8 : M.1 608 = R) (e5 : M.1 606 5 = np) (hnp : 0 ≤ np ∧ np ≤ 10) : ∀ (n k : Nat), k + n = np.toNat → nb_W 144 6 [(20, 603), (0, x), (0, pu_el R x k), (0, (k : Int))] [] M (fun r' M' => r' = [(0, pu_el R x np.toNat)] ∧ M' = M) := by
  intro n
  induction n with
  | zero =>
    intro k hk
    have := pu_el_le (R := R) (x := x) k
    refine w_m_elbows_6 W (by omega) (by omega) ⟨by omega, by omega, fun h => absurd h (by omega), fun _ => ⟨?_, rfl⟩⟩
    rw [show np.toNat = k by omega]
  | succ n ih =>
    intro k hk
    have := pu_el_le (R := R) (x := x) k
    have ih := ih (k + 1) (by omega)
    have e2 : pu_el R x (k + 1) = pu_el R x k + (if R (12 + 8 * k) = 1 ∧ R (12 + 8 * k + 1) = x then 1 else 0) := rfl
    rw [e2] at ih
    refine w_m_elbows_6 W (by omega) (by omega) ⟨by omega, by omega, fun _ => ?_, fun h => absurd h (by omega)⟩
    rw [e8]
    refine ⟨fun c => ⟨fun d => ?_, fun d => ?_⟩, fun c => ?_⟩
    · rw [if_pos ⟨c, d⟩] at ih
      exact ih
    · rw [if_neg (fun z => d z.2), Int.add_zero] at ih
      exact ih
    · rw [if_neg (fun z => c z.1), Int.add_zero] at ih
      exact ih
theorem sp_c_elbows_l {M : nb_M} {R : Int → Int} {x np Ho : Int} (W : nb_Lay M) (hHo : nb_hs Ho) (hx2 : M.1 2 2 = Ho) (e5 : M.1 Ho 13 = np) (hnp : 0 ≤ np ∧ np ≤ 10) (hG : ∀ p, 0 ≤ p → p < np → M.1 (88 + p) 8 = R (12 + 8 * p) ∧ M.1 (88 + p) 3 = R (12 + 8 * p + 1)) : ∀ (n k : Nat), k + n = np.toNat → nb_W 18 5 [(19, 2), (0, x), (0, pu_el R x k), (0, (k : Int))] [] M (fun r' M' => r' = [(0, pu_el R x np.toNat)] ∧ M' = M) := by
  intro n
  induction n with
  | zero =>
    intro k hk
    have := pu_el_le (R := R) (x := x) k
    refine w_c_elbows_5 W hHo hx2 (by omega) (by omega) ⟨by omega, by omega, fun h => absurd h (by omega), fun _ => ⟨?_, rfl⟩⟩
    rw [show np.toNat = k by omega]
  | succ n ih =>
    intro k hk
    have := pu_el_le (R := R) (x := x) k
    have ih := ih (k + 1) (by omega)
    have e2 : pu_el R x (k + 1) = pu_el R x k + (if R (12 + 8 * k) = 1 ∧ R (12 + 8 * k + 1) = x then 1 else 0) := rfl
    rw [e2] at ih
    obtain ⟨g8, g3⟩ := hG k (by omega) (by omega)
    refine w_c_elbows_5 W hHo hx2 (by omega) (by omega) ⟨by omega, by omega, fun _ => ?_, fun h => absurd h (by omega)⟩
    rw [g8, g3]
    refine ⟨fun c => ⟨fun d => ?_, fun d => ?_⟩, fun c => ?_⟩
    · rw [if_pos ⟨c, d⟩] at ih
      exact ih
    · rw [if_neg (fun z => d z.2), Int.add_zero] at ih
      exact ih
    · rw [if_neg (fun z => c z.1), Int.add_zero] at ih
      exact ih

theorem pa_elbows (x : Int) : pu_pair 18 [(19, 2), (0, x), (98, 0), (98, 0)] 144 [(20, 603), (0, x), (98, 0), (98, 0)] := by
  apply pu_pair_r
  intro M k hI hk0 hk1
  obtain ⟨Ho, hHo, hx2, hx3, hh, hSn, hT, h14, h7, hL⟩ := pu_I_at hI
  have hr := hT.1
  have n5 := hr.2.2.2.2.2.2.1
  have n4 := hr.2.2.2.2.2.1
  have n3 := hr.2.2.2.2.1
  have n2 := hr.2.2.2.1
  have n1 := hr.2.2.1
  have hhh := nb_Hw hh
  obtain ⟨⟨o9, o10, o11, o12, o13, o14, o15⟩, hh2⟩ := hh
  obtain ⟨t15, t16, t17⟩ := hI.2.2.2.2.1
  have h14' : (M.1 603 14 = 0 ∧ M.1 606 5 = 0) ∨ (M.1 603 14 = 1 ∧ 1 ≤ M.1 606 5) := by
    rw [h14]
    split
    · exact Or.inl ⟨rfl, by assumption⟩
    · exact Or.inr ⟨rfl, by omega⟩
  have hL' : nb_Lay (nb_wr M 2 15 0) := hL.wr (fun w => nb_nlit (by decide) (by decide))
  have hLm : nb_Lay (nb_wr (nb_wr (nb_wr M 2 15 0) 603 0 0) 603 11 0) := (hL'.wr (fun w => nb_nlit (by decide) (by decide))).wr (fun w => nb_nlit (by decide) (by decide))
  have hz1 : M.1 606 5 = 0 → M.1 606 1 = 0 := fun z => by
    have q := hT.2.2.2.2.2.2
    omega
  have hu := hHo
  unfold nb_hs at hu
  have hC := sp_c_elbows_l (x := x) (R := M.1 608) (np := M.1 606 5) hL' hHo (by rw [nb_wr_1, if_neg (by omega)]; exact hx2) (by rw [nb_wr_b (by omega)]; exact o13) n5 (fun p a b => by
    have g := hSn.1.2.2.2.2.1 p a b
    rw [show (84 : Int) + 4 + p = 88 + p by omega] at g
    rw [nb_wr_b (by omega)]
    exact ⟨g.2.2.2.2.2.2.2.1, g.2.2.1⟩) _ 0 (Nat.zero_add _)
  have hMl := sp_m_elbows_l (x := x) (R := M.1 608) (np := M.1 606 5) hLm (by rw [nb_wr_b (by decide), nb_wr_b (by decide), nb_wr_b (by decide)]) (by rw [nb_wr_b (by decide), nb_wr_b (by decide), nb_wr_b (by decide)]) n5 _ 0 (Nat.zero_add _)
  refine w_c_elbows_0 hL hHo hx2 ?_
  try simp only [o9, o10, o11, o12, o13, o14, o15]
  repeat' (first | assumption | with_reducible apply And.intro | intro _)
  all_goals first
    | omega
    | (refine nb_W.imp hC ?_
       rintro r' M' ⟨rfl, rfl⟩
       refine ⟨_, _, rfl, pu_CQ_no hL', by omega, ?_⟩
       refine w_m_elbows_0 (by assumption) ?_
       try clear hh2; try clear h14; try clear hT; try clear t15; try clear t16; try clear t17; try clear hx3; try clear n2; try clear n3
       simp only [nb_wr_b (show (603 : Int) ≠ 2 by decide), nb_wr_b (show (604 : Int) ≠ 2 by decide), nb_wr_b (show (606 : Int) ≠ 2 by decide), nb_wr_b (show (608 : Int) ≠ 2 by decide), nb_wr_b (show (609 : Int) ≠ 2 by decide), nb_wr_b (show (610 : Int) ≠ 2 by decide), nb_wr_b (show (611 : Int) ≠ 2 by decide), nb_wr_b (show (612 : Int) ≠ 2 by decide), nb_wr_b (show (613 : Int) ≠ 2 by decide)]
       repeat' (first | assumption | with_reducible apply And.intro | intro _)
       all_goals first
         | exact trivial
         | assumption
         | (with_reducible refine pu_MQ_ok ?_ ?_
            · exact pu_I7_wr h7 (by decide)
            · assumption)
         | (with_reducible refine pu_MQ_no ?_ ?_
            · exact pu_I7_wr h7 (by decide)
            · assumption)
         | (with_reducible refine pu_MQ_told ?_ ?_ ?_
            · exact pu_I7_wr h7 (by decide)
            · first | exact pu_cpy12 | (rw [nb_wr_b (by decide)]; exact pu_cpy12)
            · assumption)
         | omega
         | (refine pu_v1 ?_
            omega)
         | (refine nb_W.imp hMl ?_
            rintro r' M' ⟨rfl, rfl⟩
            exact ⟨rfl, pu_MQ_ok (pu_I7_wr h7 (by decide)) hLm⟩)
         | exact pu_v1 (by first | assumption | (symm; assumption) | rfl | (simp [*]; done)))
    | (refine ⟨_, _, rfl, pu_CQ_no (by assumption), by omega, ?_⟩
       refine w_m_elbows_0 (by assumption) ?_
       try clear hh2; try clear h14; try clear hT; try clear t15; try clear t16; try clear t17; try clear hx3; try clear n2; try clear n3
       simp only [nb_wr_b (show (603 : Int) ≠ 2 by decide), nb_wr_b (show (604 : Int) ≠ 2 by decide), nb_wr_b (show (606 : Int) ≠ 2 by decide), nb_wr_b (show (608 : Int) ≠ 2 by decide), nb_wr_b (show (609 : Int) ≠ 2 by decide), nb_wr_b (show (610 : Int) ≠ 2 by decide), nb_wr_b (show (611 : Int) ≠ 2 by decide), nb_wr_b (show (612 : Int) ≠ 2 by decide), nb_wr_b (show (613 : Int) ≠ 2 by decide)]
       repeat' (first | assumption | with_reducible apply And.intro | intro _)
       all_goals first
         | exact trivial
         | assumption
         | (with_reducible refine pu_MQ_ok ?_ ?_
            · exact pu_I7_wr h7 (by decide)
            · assumption)
         | (with_reducible refine pu_MQ_no ?_ ?_
            · exact pu_I7_wr h7 (by decide)
            · assumption)
         | (with_reducible refine pu_MQ_told ?_ ?_ ?_
            · exact pu_I7_wr h7 (by decide)
            · first | exact pu_cpy12 | (rw [nb_wr_b (by decide)]; exact pu_cpy12)
            · assumption)
         | omega
         | (refine pu_v1 ?_
            omega)
         | exact pu_v1 (by first | assumption | (symm; assumption) | rfl | (simp [*]; done)))
    | (refine ⟨_, _, rfl, pu_CQ_id (by assumption), by omega, ?_⟩
       refine w_m_elbows_0 (by assumption) ?_
       repeat' (first | assumption | with_reducible apply And.intro | intro _)
       all_goals first
         | exact trivial
         | assumption
         | omega
         | exact pu_v1 (by omega)
         | exact pu_MQ_th h7 (by omega) (by assumption))
