/-! block equations, printed by wip/gen/emit.py -/
theorem q_m_init_0 (l0 : Int) (M : nb_M) (h1 : l0 ≠ 0) :
    nb_R nb_P 77 0 [(20, l0)] [] M = ((some ([], M) : nb_A)).bind fun r => nb_R nb_P 77 1 [(20, l0)] (r.1 ++ []) r.2 :=
  nb_stepC (c := true) (L2 := [(20, l0)]) (S2 := [(20, l0)]) (M2 := M) (t := 1) (cl := 900) (vi := true) rfl rfl (nb_inv_eq (n := 1) rfl rfl rfl rfl rfl rfl (fun _ => h1) rfl)
theorem q_m_init_1 (l0 : Int) (M : nb_M) (h1 : M.2.2.1 = 0) :
    nb_R nb_P 77 1 [(20, l0)] [] M = nb_R nb_P 77 2 [(20, l0)] [(3, nb_nx M), (20, l0)] (nb_al M 0 1000) :=
  nb_step (c := (true && (decide (M.2.2.1 = 0) && (decide ((0 : Int) ≤ 1000) && decide ((1000 : Int) ≤ 100000))))) rfl (by simp [h1])
theorem q_m_init_2 (l0 s0 s1 : Int) (M : nb_M) (h1 : s1 ≠ 0) :
    nb_R nb_P 77 2 [(20, l0)] [(3, s0), (20, s1)] M = nb_R nb_P 77 3 [(20, l0)] [] (nb_wr M s1 1 s0) :=
  nb_step (c := (true && (!decide ((s1 : Int) = 0) && (!false || (decide ((s0 : Int) = 0) || decide ((s0 : Int) = 1)))))) rfl (by simp [h1])
theorem q_m_init_3 (l0 : Int) (M : nb_M) (h1 : l0 ≠ 0) :
    nb_R nb_P 77 3 [(20, l0)] [] M = nb_R nb_P 77 4 [(20, l0)] [] (nb_wr M l0 10 ((-1))) :=
  nb_step (c := (true && (!decide ((l0 : Int) = 0) && (!false || (decide (((-1) : Int) = 0) || decide (((-1) : Int) = 1)))))) rfl (by simp [h1])
theorem q_m_init_4 (l0 : Int) (M : nb_M) (h1 : M.2.2.1 = 0) :
    nb_R nb_P 77 4 [(20, l0)] [] M = nb_R nb_P 77 5 [(20, l0)] [(3, nb_nx M), (20, l0)] (nb_al M 0 8) :=
  nb_step (c := (true && (decide (M.2.2.1 = 0) && (decide ((0 : Int) ≤ 8) && decide ((8 : Int) ≤ 100000))))) rfl (by simp [h1])
theorem q_m_init_5 (l0 s0 s1 : Int) (M : nb_M) (h1 : s1 ≠ 0) :
    nb_R nb_P 77 5 [(20, l0)] [(3, s0), (20, s1)] M = nb_R nb_P 77 6 [(20, l0)] [] (nb_wr M s1 12 s0) :=
  nb_step (c := (true && (!decide ((s1 : Int) = 0) && (!false || (decide ((s0 : Int) = 0) || decide ((s0 : Int) = 1)))))) rfl (by simp [h1])
theorem q_m_init_6 (l0 : Int) (M : nb_M) (h1 : M.2.2.1 = 0) :
    nb_R nb_P 77 6 [(20, l0)] [] M = nb_R nb_P 77 7 [(20, l0)] [(3, nb_nx M), (20, l0)] (nb_al M 0 347) :=
  nb_step (c := (true && (decide (M.2.2.1 = 0) && (decide ((0 : Int) ≤ 347) && decide ((347 : Int) ≤ 100000))))) rfl (by simp [h1])
theorem q_m_init_7 (l0 s0 s1 : Int) (M : nb_M) (h1 : s1 ≠ 0) :
    nb_R nb_P 77 7 [(20, l0)] [(3, s0), (20, s1)] M = nb_R nb_P 77 8 [(20, l0)] [] (nb_wr M s1 15 s0) :=
  nb_step (c := (true && (!decide ((s1 : Int) = 0) && (!false || (decide ((s0 : Int) = 0) || decide ((s0 : Int) = 1)))))) rfl (by simp [h1])
theorem q_m_init_8 (l0 : Int) (M : nb_M) (h1 : M.2.2.1 = 0) :
    nb_R nb_P 77 8 [(20, l0)] [] M = nb_R nb_P 77 9 [(20, l0)] [(3, nb_nx M), (20, l0)] (nb_al M 0 347) :=
  nb_step (c := (true && (decide (M.2.2.1 = 0) && (decide ((0 : Int) ≤ 347) && decide ((347 : Int) ≤ 100000))))) rfl (by simp [h1])
theorem q_m_init_9 (l0 s0 s1 : Int) (M : nb_M) (h1 : s1 ≠ 0) :
    nb_R nb_P 77 9 [(20, l0)] [(3, s0), (20, s1)] M = nb_R nb_P 77 10 [(20, l0)] [] (nb_wr M s1 16 s0) :=
  nb_step (c := (true && (!decide ((s1 : Int) = 0) && (!false || (decide ((s0 : Int) = 0) || decide ((s0 : Int) = 1)))))) rfl (by simp [h1])
theorem q_m_init_10 (l0 : Int) (M : nb_M) (h1 : M.2.2.1 = 0) :
    nb_R nb_P 77 10 [(20, l0)] [] M = nb_R nb_P 77 11 [(20, l0)] [(3, nb_nx M), (20, l0)] (nb_al M 0 108) :=
  nb_step (c := (true && (decide (M.2.2.1 = 0) && (decide ((0 : Int) ≤ 108) && decide ((108 : Int) ≤ 100000))))) rfl (by simp [h1])
theorem q_m_init_11 (l0 s0 s1 : Int) (M : nb_M) (h1 : s1 ≠ 0) :
    nb_R nb_P 77 11 [(20, l0)] [(3, s0), (20, s1)] M = nb_R nb_P 77 12 [(20, l0)] [] (nb_wr M s1 17 s0) :=
  nb_step (c := (true && (!decide ((s1 : Int) = 0) && (!false || (decide ((s0 : Int) = 0) || decide ((s0 : Int) = 1)))))) rfl (by simp [h1])
theorem q_m_init_12 (l0 : Int) (M : nb_M) (h1 : M.2.2.1 = 0) :
    nb_R nb_P 77 12 [(20, l0)] [] M = nb_R nb_P 77 13 [(20, l0)] [(3, nb_nx M), (20, l0)] (nb_al M 0 108) :=
  nb_step (c := (true && (decide (M.2.2.1 = 0) && (decide ((0 : Int) ≤ 108) && decide ((108 : Int) ≤ 100000))))) rfl (by simp [h1])
theorem q_m_init_13 (l0 s0 s1 : Int) (M : nb_M) (h1 : s1 ≠ 0) :
    nb_R nb_P 77 13 [(20, l0)] [(3, s0), (20, s1)] M = nb_R nb_P 77 14 [(20, l0)] [] (nb_wr M s1 18 s0) :=
  nb_step (c := (true && (!decide ((s1 : Int) = 0) && (!false || (decide ((s0 : Int) = 0) || decide ((s0 : Int) = 1)))))) rfl (by simp [h1])
theorem q_m_init_14 (l0 : Int) (M : nb_M) (h1 : M.2.2.1 = 0) :
    nb_R nb_P 77 14 [(20, l0)] [] M = nb_R nb_P 77 15 [(20, l0)] [(3, nb_nx M), (20, l0)] (nb_al M 0 1296) :=
  nb_step (c := (true && (decide (M.2.2.1 = 0) && (decide ((0 : Int) ≤ 1296) && decide ((1296 : Int) ≤ 100000))))) rfl (by simp [h1])
theorem q_m_init_15 (l0 s0 s1 : Int) (M : nb_M) (h1 : s1 ≠ 0) :
    nb_R nb_P 77 15 [(20, l0)] [(3, s0), (20, s1)] M = nb_R nb_P 77 16 [(20, l0)] [] (nb_wr M s1 19 s0) :=
  nb_step (c := (true && (!decide ((s1 : Int) = 0) && (!false || (decide ((s0 : Int) = 0) || decide ((s0 : Int) = 1)))))) rfl (by simp [h1])
theorem q_m_init_16 (l0 : Int) (M : nb_M) (h1 : M.2.2.1 = 0) :
    nb_R nb_P 77 16 [(20, l0)] [] M = nb_R nb_P 77 17 [(20, l0)] [(3, nb_nx M), (20, l0)] (nb_al M 0 324) :=
  nb_step (c := (true && (decide (M.2.2.1 = 0) && (decide ((0 : Int) ≤ 324) && decide ((324 : Int) ≤ 100000))))) rfl (by simp [h1])
theorem q_m_init_17 (l0 s0 s1 : Int) (M : nb_M) (h1 : s1 ≠ 0) :
    nb_R nb_P 77 17 [(20, l0)] [(3, s0), (20, s1)] M = nb_R nb_P 77 18 [(20, l0)] [] (nb_wr M s1 20 s0) :=
  nb_step (c := (true && (!decide ((s1 : Int) = 0) && (!false || (decide ((s0 : Int) = 0) || decide ((s0 : Int) = 1)))))) rfl (by simp [h1])
theorem q_m_init_18 (l0 : Int) (M : nb_M) (h1 : M.2.2.1 = 0) :
    nb_R nb_P 77 18 [(20, l0)] [] M = nb_R nb_P 77 19 [(20, l0)] [(3, nb_nx M), (20, l0)] (nb_al M 0 24) :=
  nb_step (c := (true && (decide (M.2.2.1 = 0) && (decide ((0 : Int) ≤ 24) && decide ((24 : Int) ≤ 100000))))) rfl (by simp [h1])
theorem q_m_init_19 (l0 s0 s1 : Int) (M : nb_M) (h1 : s1 ≠ 0) :
    nb_R nb_P 77 19 [(20, l0)] [(3, s0), (20, s1)] M = nb_R nb_P 77 20 [(20, l0)] [] (nb_wr M s1 23 s0) :=
  nb_step (c := (true && (!decide ((s1 : Int) = 0) && (!false || (decide ((s0 : Int) = 0) || decide ((s0 : Int) = 1)))))) rfl (by simp [h1])
theorem q_m_init_20 (l0 : Int) (M : nb_M) (h1 : M.2.2.1 = 0) :
    nb_R nb_P 77 20 [(20, l0)] [] M = nb_R nb_P 77 21 [(20, l0)] [(3, nb_nx M), (20, l0)] (nb_al M 0 70) :=
  nb_step (c := (true && (decide (M.2.2.1 = 0) && (decide ((0 : Int) ≤ 70) && decide ((70 : Int) ≤ 100000))))) rfl (by simp [h1])
theorem q_m_init_21 (l0 s0 s1 : Int) (M : nb_M) (h1 : s1 ≠ 0) :
    nb_R nb_P 77 21 [(20, l0)] [(3, s0), (20, s1)] M = nb_R nb_P 77 22 [(20, l0)] [] (nb_wr M s1 24 s0) :=
  nb_step (c := (true && (!decide ((s1 : Int) = 0) && (!false || (decide ((s0 : Int) = 0) || decide ((s0 : Int) = 1)))))) rfl (by simp [h1])
theorem q_m_init_22 (l0 : Int) (M : nb_M) (h1 : M.2.2.1 = 0) :
    nb_R nb_P 77 22 [(20, l0)] [] M = nb_R nb_P 77 23 [(20, l0)] [(3, nb_nx M), (20, l0)] (nb_al M 0 108) :=
  nb_step (c := (true && (decide (M.2.2.1 = 0) && (decide ((0 : Int) ≤ 108) && decide ((108 : Int) ≤ 100000))))) rfl (by simp [h1])
theorem q_m_init_23 (l0 s0 s1 : Int) (M : nb_M) (h1 : s1 ≠ 0) :
    nb_R nb_P 77 23 [(20, l0)] [(3, s0), (20, s1)] M = nb_R nb_P 77 24 [(20, l0)] [] (nb_wr M s1 29 s0) :=
  nb_step (c := (true && (!decide ((s1 : Int) = 0) && (!false || (decide ((s0 : Int) = 0) || decide ((s0 : Int) = 1)))))) rfl (by simp [h1])
theorem q_m_init_24 (l0 : Int) (M : nb_M) (h1 : M.2.2.1 = 0) :
    nb_R nb_P 77 24 [(20, l0)] [] M = nb_R nb_P 77 25 [(20, l0)] [(3, nb_nx M), (20, l0)] (nb_al M 0 10) :=
  nb_step (c := (true && (decide (M.2.2.1 = 0) && (decide ((0 : Int) ≤ 10) && decide ((10 : Int) ≤ 100000))))) rfl (by simp [h1])
theorem q_m_init_25 (l0 s0 s1 : Int) (M : nb_M) (h1 : s1 ≠ 0) :
    nb_R nb_P 77 25 [(20, l0)] [(3, s0), (20, s1)] M = nb_R nb_P 77 26 [(20, l0)] [] (nb_wr M s1 30 s0) :=
  nb_step (c := (true && (!decide ((s1 : Int) = 0) && (!false || (decide ((s0 : Int) = 0) || decide ((s0 : Int) = 1)))))) rfl (by simp [h1])
theorem q_m_init_26 (l0 : Int) (M : nb_M) (h1 : M.2.2.1 = 0) :
    nb_R nb_P 77 26 [(20, l0)] [] M = nb_R nb_P 77 27 [(20, l0)] [(3, nb_nx M), (20, l0)] (nb_al M 0 7) :=
  nb_step (c := (true && (decide (M.2.2.1 = 0) && (decide ((0 : Int) ≤ 7) && decide ((7 : Int) ≤ 100000))))) rfl (by simp [h1])
theorem q_m_init_27 (l0 s0 s1 : Int) (M : nb_M) (h1 : s1 ≠ 0) :
    nb_R nb_P 77 27 [(20, l0)] [(3, s0), (20, s1)] M = nb_R nb_P 77 28 [(20, l0)] [] (nb_wr M s1 31 s0) :=
  nb_step (c := (true && (!decide ((s1 : Int) = 0) && (!false || (decide ((s0 : Int) = 0) || decide ((s0 : Int) = 1)))))) rfl (by simp [h1])
theorem q_m_init_28 (l0 : Int) (M : nb_M) (h1 : M.2.2.1 = 0) :
    nb_R nb_P 77 28 [(20, l0)] [] M = nb_R nb_P 77 29 [(20, l0)] [(3, nb_nx M), (20, l0)] (nb_al M 0 7) :=
  nb_step (c := (true && (decide (M.2.2.1 = 0) && (decide ((0 : Int) ≤ 7) && decide ((7 : Int) ≤ 100000))))) rfl (by simp [h1])
theorem q_m_init_29 (l0 s0 s1 : Int) (M : nb_M) (h1 : s1 ≠ 0) :
    nb_R nb_P 77 29 [(20, l0)] [(3, s0), (20, s1)] M = nb_R nb_P 77 30 [(20, l0)] [] (nb_wr M s1 32 s0) :=
  nb_step (c := (true && (!decide ((s1 : Int) = 0) && (!false || (decide ((s0 : Int) = 0) || decide ((s0 : Int) = 1)))))) rfl (by simp [h1])
theorem q_m_init_30 (l0 : Int) (M : nb_M) (h1 : M.2.2.1 = 0) :
    nb_R nb_P 77 30 [(20, l0)] [] M = nb_R nb_P 77 31 [(20, l0)] [(6, nb_nx M), (20, l0)] (nb_al M 3 100) :=
  nb_step (c := (true && (decide (M.2.2.1 = 0) && (decide ((0 : Int) ≤ 100) && decide ((100 : Int) ≤ 100000))))) rfl (by simp [h1])
theorem q_m_init_31 (s0 s1 : Int) (v0 : nb_V) (M : nb_M) (h1 : s1 ≠ 0) :
    nb_R nb_P 77 31 [v0] [(6, s0), (20, s1)] M = nb_R nb_P 77 32 [v0] [] (nb_wr M s1 34 s0) :=
  nb_step (c := (true && (!decide ((s1 : Int) = 0) && (!false || (decide ((s0 : Int) = 0) || decide ((s0 : Int) = 1)))))) rfl (by simp [h1])
theorem q_m_init_32 (v0 : nb_V) (M : nb_M) :
    nb_R nb_P 77 32 [v0] [] M = some ([], M) :=
  nb_step (c := true) rfl rfl
theorem q_m_good_0 (l0 : Int) (M : nb_M) (h1 : l0 ≠ 0) :
    nb_R nb_P 79 0 [(20, l0)] [] M = nb_R nb_P 79 1 [(20, l0)] [] (nb_wr M l0 0 0) :=
  nb_step (c := (true && (!decide ((l0 : Int) = 0) && (!false || (decide ((0 : Int) = 0) || decide ((0 : Int) = 1)))))) rfl (by simp [h1])
theorem q_m_good_1 (l0 : Int) (M : nb_M) (h1 : l0 ≠ 0) :
    nb_R nb_P 79 1 [(20, l0)] [] M = nb_R nb_P 79 2 [(20, l0)] [] (nb_wr M l0 11 0) :=
  nb_step (c := (true && (!decide ((l0 : Int) = 0) && (!false || (decide ((0 : Int) = 0) || decide ((0 : Int) = 1)))))) rfl (by simp [h1])
theorem q_m_good_2 (v0 : nb_V) (M : nb_M) :
    nb_R nb_P 79 2 [v0] [] M = some ([], M) :=
  nb_step (c := true) rfl rfl
theorem q_m_noLess_0 (l0 l1 : Int) (M : nb_M) (h1 : l0 ≠ 0) :
    nb_R nb_P 81 0 [(20, l0), (0, l1)] [] M = nb_R nb_P 81 1 [(20, l0), (0, l1)] [] (nb_wr M l0 11 1) :=
  nb_step (c := (true && (!decide ((l0 : Int) = 0) && (!false || (decide ((1 : Int) = 0) || decide ((1 : Int) = 1)))))) rfl (by simp [h1])
theorem q_m_noLess_1 (l1 : Int) (v0 : nb_V) (M : nb_M) :
    nb_R nb_P 81 1 [v0, (0, l1)] [] M = some ([(0, l1)], M) :=
  nb_step (c := true) rfl rfl
theorem q_m_within_0 (l0 l1 l2 : Int) (M : nb_M) :
    nb_R nb_P 83 0 [(0, l0), (0, l1), (0, l2)] [] M = if l0 < l1 then nb_R nb_P 83 3 [(0, l0), (0, l1), (0, l2)] [] M else nb_R nb_P 83 1 [(0, l0), (0, l1), (0, l2)] [] M :=
  nb_step (c := true) rfl rfl
theorem q_m_within_1 (l0 l2 : Int) (v1 : nb_V) (M : nb_M) :
    nb_R nb_P 83 1 [(0, l0), v1, (0, l2)] [] M = if l2 < l0 then nb_R nb_P 83 3 [(0, l0), v1, (0, l2)] [] M else nb_R nb_P 83 2 [(0, l0), v1, (0, l2)] [] M :=
  nb_step (c := true) rfl rfl
theorem q_m_within_2 (v0 v1 v2 : nb_V) (M : nb_M) :
    nb_R nb_P 83 2 [v0, v1, v2] [] M = nb_R nb_P 83 4 [v0, v1, v2] [(0, 1)] M :=
  nb_step (c := true) rfl rfl
theorem q_m_within_3 (v0 v1 v2 : nb_V) (M : nb_M) :
    nb_R nb_P 83 3 [v0, v1, v2] [] M = nb_R nb_P 83 4 [v0, v1, v2] [(0, 0)] M :=
  nb_step (c := true) rfl rfl
theorem q_m_within_4 (s0 : Int) (v0 v1 v2 : nb_V) (M : nb_M) :
    nb_R nb_P 83 4 [v0, v1, v2] [(0, s0)] M = some ([(0, nb_i2z s0)], M) :=
  nb_step (c := true) rfl rfl
theorem q_m_ones_0 (l0 : Int) (v1 v2 : nb_V) (M : nb_M) :
    nb_R nb_P 85 0 [(0, l0), v1, v2] [] M = nb_R nb_P 85 1 [(0, l0), (0, 0), (0, 0)] [] M :=
  nb_step (c := true) rfl rfl
theorem q_m_ones_1 (l0 l1 l2 : Int) (M : nb_M) :
    nb_R nb_P 85 1 [(0, l0), (0, l1), (0, l2)] [] M = if l2 < 10 then nb_R nb_P 85 2 [(0, l0), (0, l1), (0, l2)] [] M else nb_R nb_P 85 3 [(0, l0), (0, l1), (0, l2)] [] M :=
  nb_step (c := true) rfl rfl
theorem q_m_ones_2 (l0 l1 l2 : Int) (M : nb_M) :
    nb_R nb_P 85 2 [(0, l0), (0, l1), (0, l2)] [] M = nb_R nb_P 85 1 [(0, l0), (0, nb_add l1 (nb_and (nb_shr l0 l2) 1)), (0, nb_add l2 1)] [] M :=
  nb_step (c := true) rfl rfl
theorem q_m_ones_3 (l1 : Int) (v0 v2 : nb_V) (M : nb_M) :
    nb_R nb_P 85 3 [v0, (0, l1), v2] [] M = some ([(0, l1)], M) :=
  nb_step (c := true) rfl rfl
theorem q_m_feed_0 (l0 l1 l2 l3 l4 l5 : Int) (v6 v7 : nb_V) (M : nb_M) (h1 : l0 ≠ 0) :
    nb_R nb_P 87 0 [(20, l0), (0, l1), (0, l2), (0, l3), (0, l4), (0, l5), v6, v7] [] M = nb_R nb_P 87 1 [(20, l0), (0, l1), (0, l2), (0, l3), (0, l4), (0, l5), v6, v7] [] (nb_wr M l0 0 0) :=
  nb_step (c := (true && (!decide ((l0 : Int) = 0) && (!false || (decide ((0 : Int) = 0) || decide ((0 : Int) = 1)))))) rfl (by simp [h1])
theorem q_m_feed_1 (l0 l1 l2 l3 l4 l5 : Int) (v6 v7 : nb_V) (M : nb_M) (h1 : l0 ≠ 0) :
    nb_R nb_P 87 1 [(20, l0), (0, l1), (0, l2), (0, l3), (0, l4), (0, l5), v6, v7] [] M = if 1000 < nb_add (nb_rd M l0 2) 20 then nb_R nb_P 87 2 [(20, l0), (0, l1), (0, l2), (0, l3), (0, l4), (0, l5), v6, v7] [] M else nb_R nb_P 87 3 [(20, l0), (0, l1), (0, l2), (0, l3), (0, l4), (0, l5), v6, v7] [] M :=
  nb_step (c := (true && !decide ((l0 : Int) = 0))) rfl (by simp [h1])
theorem q_m_feed_2 (v0 v1 v2 v3 v4 v5 v6 v7 : nb_V) (M : nb_M) :
    nb_R nb_P 87 2 [v0, v1, v2, v3, v4, v5, v6, v7] [] M = some ([(0, (-1))], M) :=
  nb_step (c := true) rfl rfl
theorem q_m_feed_3 (l0 l1 l2 l3 l4 l5 : Int) (v6 v7 : nb_V) (M : nb_M) :
    nb_R nb_P 87 3 [(20, l0), (0, l1), (0, l2), (0, l3), (0, l4), (0, l5), v6, v7] [] M = nb_R nb_P 87 4 [(20, l0), (0, l1), (0, l2), (0, l3), (0, l4), (0, l5), (0, 0), v7] [] M :=
  nb_step (c := true) rfl rfl
theorem q_m_feed_4 (l0 l1 l2 l3 l4 l5 l6 : Int) (v7 : nb_V) (M : nb_M) :
    nb_R nb_P 87 4 [(20, l0), (0, l1), (0, l2), (0, l3), (0, l4), (0, l5), (0, l6), v7] [] M = if l6 < 20 then nb_R nb_P 87 5 [(20, l0), (0, l1), (0, l2), (0, l3), (0, l4), (0, l5), (0, l6), v7] [] M else nb_R nb_P 87 17 [(20, l0), (0, l1), (0, l2), (0, l3), (0, l4), (0, l5), (0, l6), v7] [] M :=
  nb_step (c := true) rfl rfl
theorem q_m_feed_5 (l0 l1 l2 l3 l4 l5 l6 : Int) (v7 : nb_V) (M : nb_M) :
    nb_R nb_P 87 5 [(20, l0), (0, l1), (0, l2), (0, l3), (0, l4), (0, l5), (0, l6), v7] [] M = if l6 < 4 then nb_R nb_P 87 6 [(20, l0), (0, l1), (0, l2), (0, l3), (0, l4), (0, l5), (0, l6), v7] [] M else nb_R nb_P 87 7 [(20, l0), (0, l1), (0, l2), (0, l3), (0, l4), (0, l5), (0, l6), v7] [] M :=
  nb_step (c := true) rfl rfl
theorem q_m_feed_6 (l0 l1 l2 l3 l4 l5 l6 : Int) (v7 : nb_V) (M : nb_M) :
    nb_R nb_P 87 6 [(20, l0), (0, l1), (0, l2), (0, l3), (0, l4), (0, l5), (0, l6), v7] [] M = nb_R nb_P 87 14 [(20, l0), (0, l1), (0, l2), (0, l3), (0, l4), (0, l5), (0, l6), v7] [(0, l1)] M :=
  nb_step (c := true) rfl rfl
theorem q_m_feed_7 (l0 l1 l2 l3 l4 l5 l6 : Int) (v7 : nb_V) (M : nb_M) :
    nb_R nb_P 87 7 [(20, l0), (0, l1), (0, l2), (0, l3), (0, l4), (0, l5), (0, l6), v7] [] M = if l6 < 8 then nb_R nb_P 87 8 [(20, l0), (0, l1), (0, l2), (0, l3), (0, l4), (0, l5), (0, l6), v7] [] M else nb_R nb_P 87 9 [(20, l0), (0, l1), (0, l2), (0, l3), (0, l4), (0, l5), (0, l6), v7] [] M :=
  nb_step (c := true) rfl rfl
theorem q_m_feed_8 (l0 l1 l2 l3 l4 l5 l6 : Int) (v7 : nb_V) (M : nb_M) :
    nb_R nb_P 87 8 [(20, l0), (0, l1), (0, l2), (0, l3), (0, l4), (0, l5), (0, l6), v7] [] M = nb_R nb_P 87 14 [(20, l0), (0, l1), (0, l2), (0, l3), (0, l4), (0, l5), (0, l6), v7] [(0, l2)] M :=
  nb_step (c := true) rfl rfl
theorem q_m_feed_9 (l0 l1 l2 l3 l4 l5 l6 : Int) (v7 : nb_V) (M : nb_M) :
    nb_R nb_P 87 9 [(20, l0), (0, l1), (0, l2), (0, l3), (0, l4), (0, l5), (0, l6), v7] [] M = if l6 < 12 then nb_R nb_P 87 10 [(20, l0), (0, l1), (0, l2), (0, l3), (0, l4), (0, l5), (0, l6), v7] [] M else nb_R nb_P 87 11 [(20, l0), (0, l1), (0, l2), (0, l3), (0, l4), (0, l5), (0, l6), v7] [] M :=
  nb_step (c := true) rfl rfl
theorem q_m_feed_10 (l0 l1 l2 l3 l4 l5 l6 : Int) (v7 : nb_V) (M : nb_M) :
    nb_R nb_P 87 10 [(20, l0), (0, l1), (0, l2), (0, l3), (0, l4), (0, l5), (0, l6), v7] [] M = nb_R nb_P 87 14 [(20, l0), (0, l1), (0, l2), (0, l3), (0, l4), (0, l5), (0, l6), v7] [(0, l3)] M :=
  nb_step (c := true) rfl rfl
theorem q_m_feed_11 (l0 l1 l2 l3 l4 l5 l6 : Int) (v7 : nb_V) (M : nb_M) :
    nb_R nb_P 87 11 [(20, l0), (0, l1), (0, l2), (0, l3), (0, l4), (0, l5), (0, l6), v7] [] M = if l6 < 16 then nb_R nb_P 87 12 [(20, l0), (0, l1), (0, l2), (0, l3), (0, l4), (0, l5), (0, l6), v7] [] M else nb_R nb_P 87 13 [(20, l0), (0, l1), (0, l2), (0, l3), (0, l4), (0, l5), (0, l6), v7] [] M :=
  nb_step (c := true) rfl rfl
theorem q_m_feed_12 (l0 l1 l2 l3 l4 l5 l6 : Int) (v7 : nb_V) (M : nb_M) :
    nb_R nb_P 87 12 [(20, l0), (0, l1), (0, l2), (0, l3), (0, l4), (0, l5), (0, l6), v7] [] M = nb_R nb_P 87 14 [(20, l0), (0, l1), (0, l2), (0, l3), (0, l4), (0, l5), (0, l6), v7] [(0, l4)] M :=
  nb_step (c := true) rfl rfl
theorem q_m_feed_13 (l0 l1 l2 l3 l4 l5 l6 : Int) (v7 : nb_V) (M : nb_M) :
    nb_R nb_P 87 13 [(20, l0), (0, l1), (0, l2), (0, l3), (0, l4), (0, l5), (0, l6), v7] [] M = nb_R nb_P 87 14 [(20, l0), (0, l1), (0, l2), (0, l3), (0, l4), (0, l5), (0, l6), v7] [(0, l5)] M :=
  nb_step (c := true) rfl rfl
theorem q_m_feed_14 (l0 l1 l2 l3 l4 l5 l6 s0 : Int) (v7 : nb_V) (M : nb_M) (h1 : l0 ≠ 0) (h2 : (nb_rd M l0 1) ≠ 0) (h3 : (nb_rd M l0 1) ≠ 1) (h4 : (0 : Int) ≤ nb_rd M l0 2) (h5 : nb_rd M l0 2 < nb_ln M (nb_rd M l0 1)) :
    nb_R nb_P 87 14 [(20, l0), (0, l1), (0, l2), (0, l3), (0, l4), (0, l5), (0, l6), v7] [(0, s0)] M = nb_R nb_P 87 15 [(20, l0), (0, l1), (0, l2), (0, l3), (0, l4), (0, l5), (0, l6), (0, s0)] [] (nb_wr M (nb_rd M l0 1) (nb_rd M l0 2) (nb_and (nb_shr s0 (nb_sub 24 (nb_mul 8 (nb_rem l6 4)))) 255)) :=
  nb_step (c := ((((true && !decide ((l0 : Int) = 0)) && !decide ((l0 : Int) = 0)) && !decide ((4 : Int) = 0)) && (!decide ((nb_rd M l0 1 : Int) = 0) && (!decide ((nb_rd M l0 1 : Int) = 1) && (decide ((0 : Int) ≤ nb_rd M l0 2) && decide (nb_rd M l0 2 < nb_ln M (nb_rd M l0 1))))))) rfl (by simp [h1, h2, h3, h4, h5])
theorem q_m_feed_15 (l0 l1 l2 l3 l4 l5 l6 : Int) (v7 : nb_V) (M : nb_M) (h1 : l0 ≠ 0) :
    nb_R nb_P 87 15 [(20, l0), (0, l1), (0, l2), (0, l3), (0, l4), (0, l5), (0, l6), v7] [] M = nb_R nb_P 87 16 [(20, l0), (0, l1), (0, l2), (0, l3), (0, l4), (0, l5), (0, l6), v7] [] (nb_wr M l0 2 (nb_add (nb_rd M l0 2) 1)) :=
  nb_step (c := ((true && !decide ((l0 : Int) = 0)) && (!decide ((l0 : Int) = 0) && (!false || (decide ((nb_add (nb_rd M l0 2) 1 : Int) = 0) || decide ((nb_add (nb_rd M l0 2) 1 : Int) = 1)))))) rfl (by simp [h1])
theorem q_m_feed_16 (l0 l1 l2 l3 l4 l5 l6 : Int) (v7 : nb_V) (M : nb_M) :
    nb_R nb_P 87 16 [(20, l0), (0, l1), (0, l2), (0, l3), (0, l4), (0, l5), (0, l6), v7] [] M = nb_R nb_P 87 4 [(20, l0), (0, l1), (0, l2), (0, l3), (0, l4), (0, l5), (0, nb_add l6 1), v7] [] M :=
  nb_step (c := true) rfl rfl
theorem q_m_feed_17 (l0 : Int) (v1 v2 v3 v4 v5 v6 v7 : nb_V) (M : nb_M) (h1 : l0 ≠ 0) :
    nb_R nb_P 87 17 [(20, l0), v1, v2, v3, v4, v5, v6, v7] [] M = some ([(0, nb_rd M l0 2)], M) :=
  nb_step (c := (true && !decide ((l0 : Int) = 0))) rfl (by simp [h1])
theorem q_m_isSmall_0 (l0 : Int) (M : nb_M) :
    nb_R nb_P 89 0 [(0, l0)] [] M = if l0 < 97 then nb_R nb_P 89 3 [(0, l0)] [] M else nb_R nb_P 89 1 [(0, l0)] [] M :=
  nb_step (c := true) rfl rfl
theorem q_m_isSmall_1 (l0 : Int) (M : nb_M) :
    nb_R nb_P 89 1 [(0, l0)] [] M = if 122 < l0 then nb_R nb_P 89 3 [(0, l0)] [] M else nb_R nb_P 89 2 [(0, l0)] [] M :=
  nb_step (c := true) rfl rfl
theorem q_m_isSmall_2 (v0 : nb_V) (M : nb_M) :
    nb_R nb_P 89 2 [v0] [] M = nb_R nb_P 89 4 [v0] [(0, 1)] M :=
  nb_step (c := true) rfl rfl
theorem q_m_isSmall_3 (v0 : nb_V) (M : nb_M) :
    nb_R nb_P 89 3 [v0] [] M = nb_R nb_P 89 4 [v0] [(0, 0)] M :=
  nb_step (c := true) rfl rfl
theorem q_m_isSmall_4 (s0 : Int) (v0 : nb_V) (M : nb_M) :
    nb_R nb_P 89 4 [v0] [(0, s0)] M = some ([(0, nb_i2z s0)], M) :=
  nb_step (c := true) rfl rfl
theorem q_m_nextToken_0 (l0 : Int) (v1 v2 v3 : nb_V) (M : nb_M) (h1 : l0 ≠ 0) :
    nb_R nb_P 91 0 [(20, l0), v1, v2, v3] [] M = nb_R nb_P 91 1 [(20, l0), (0, nb_rd M l0 5), v2, v3] [] M :=
  nb_step (c := (true && !decide ((l0 : Int) = 0))) rfl (by simp [h1])
theorem q_m_nextToken_1 (l0 l1 : Int) (v2 v3 : nb_V) (M : nb_M) (h1 : l0 ≠ 0) :
    nb_R nb_P 91 1 [(20, l0), (0, l1), v2, v3] [] M = (nb_R nb_P 88 0 [(20, l0), (0, l1)] [] M).bind fun r => nb_R nb_P 91 2 [(20, l0), (0, l1), v2, v3] (r.1 ++ []) r.2 :=
  nb_stepC (c := true) (L2 := [(20, l0), (0, l1), v2, v3]) (S2 := [(0, l1), (20, l0)]) (M2 := M) (t := 2) (cl := 88) (vi := true) rfl rfl (nb_inv_eq (n := 2) rfl rfl rfl rfl rfl rfl (fun _ => h1) rfl)
theorem q_m_nextToken_2 (l0 l1 s0 : Int) (v2 v3 : nb_V) (M : nb_M) :
    nb_R nb_P 91 2 [(20, l0), (0, l1), v2, v3] [(0, s0)] M = if s0 = 32 then nb_R nb_P 91 3 [(20, l0), (0, l1), v2, v3] [] M else nb_R nb_P 91 4 [(20, l0), (0, l1), v2, v3] [] M :=
  nb_step (c := true) rfl rfl
theorem q_m_nextToken_3 (l0 l1 : Int) (v2 v3 : nb_V) (M : nb_M) :
    nb_R nb_P 91 3 [(20, l0), (0, l1), v2, v3] [] M = nb_R nb_P 91 1 [(20, l0), (0, nb_add l1 1), v2, v3] [] M :=
  nb_step (c := true) rfl rfl
theorem q_m_nextToken_4 (l0 l1 : Int) (v2 v3 : nb_V) (M : nb_M) (h1 : l0 ≠ 0) :
    nb_R nb_P 91 4 [(20, l0), (0, l1), v2, v3] [] M = nb_R nb_P 91 5 [(20, l0), (0, l1), v2, v3] [] (nb_wr M l0 4 l1) :=
  nb_step (c := (true && (!decide ((l0 : Int) = 0) && (!false || (decide ((l1 : Int) = 0) || decide ((l1 : Int) = 1)))))) rfl (by simp [h1])
theorem q_m_nextToken_5 (l0 l1 : Int) (v2 v3 : nb_V) (M : nb_M) (h1 : l0 ≠ 0) :
    nb_R nb_P 91 5 [(20, l0), (0, l1), v2, v3] [] M = (nb_R nb_P 88 0 [(20, l0), (0, l1)] [] M).bind fun r => nb_R nb_P 91 6 [(20, l0), (0, l1), v2, v3] (r.1 ++ []) r.2 :=
  nb_stepC (c := true) (L2 := [(20, l0), (0, l1), v2, v3]) (S2 := [(0, l1), (20, l0)]) (M2 := M) (t := 6) (cl := 88) (vi := true) rfl rfl (nb_inv_eq (n := 2) rfl rfl rfl rfl rfl rfl (fun _ => h1) rfl)
theorem q_m_nextToken_6 (l0 l1 s0 : Int) (v2 v3 : nb_V) (M : nb_M) (h1 : l0 ≠ 0) :
    nb_R nb_P 91 6 [(20, l0), (0, l1), v2, v3] [(0, s0)] M = nb_R nb_P 91 7 [(20, l0), (0, l1), (0, s0), v3] [] (nb_wr M l0 8 0) :=
  nb_step (c := (true && (!decide ((l0 : Int) = 0) && (!false || (decide ((0 : Int) = 0) || decide ((0 : Int) = 1)))))) rfl (by simp [h1])
theorem q_m_nextToken_7 (l0 l1 l2 : Int) (v3 : nb_V) (M : nb_M) (h1 : l0 ≠ 0) :
    nb_R nb_P 91 7 [(20, l0), (0, l1), (0, l2), v3] [] M = nb_R nb_P 91 8 [(20, l0), (0, l1), (0, l2), v3] [] (nb_wr M l0 7 0) :=
  nb_step (c := (true && (!decide ((l0 : Int) = 0) && (!false || (decide ((0 : Int) = 0) || decide ((0 : Int) = 1)))))) rfl (by simp [h1])
theorem q_m_nextToken_8 (l0 l1 l2 : Int) (v3 : nb_V) (M : nb_M) :
    nb_R nb_P 91 8 [(20, l0), (0, l1), (0, l2), v3] [] M = if l2 = (-1) then nb_R nb_P 91 9 [(20, l0), (0, l1), (0, l2), v3] [] M else nb_R nb_P 91 12 [(20, l0), (0, l1), (0, l2), v3] [] M :=
  nb_step (c := true) rfl rfl
theorem q_m_nextToken_9 (l0 l1 : Int) (v2 v3 : nb_V) (M : nb_M) (h1 : l0 ≠ 0) :
    nb_R nb_P 91 9 [(20, l0), (0, l1), v2, v3] [] M = nb_R nb_P 91 10 [(20, l0), (0, l1), v2, v3] [] (nb_wr M l0 6 0) :=
  nb_step (c := (true && (!decide ((l0 : Int) = 0) && (!false || (decide ((0 : Int) = 0) || decide ((0 : Int) = 1)))))) rfl (by simp [h1])
theorem q_m_nextToken_10 (l0 l1 : Int) (v2 v3 : nb_V) (M : nb_M) (h1 : l0 ≠ 0) :
    nb_R nb_P 91 10 [(20, l0), (0, l1), v2, v3] [] M = nb_R nb_P 91 11 [(20, l0), (0, l1), v2, v3] [] (nb_wr M l0 5 l1) :=
  nb_step (c := (true && (!decide ((l0 : Int) = 0) && (!false || (decide ((l1 : Int) = 0) || decide ((l1 : Int) = 1)))))) rfl (by simp [h1])
theorem q_m_nextToken_11 (v0 v1 v2 v3 : nb_V) (M : nb_M) :
    nb_R nb_P 91 11 [v0, v1, v2, v3] [] M = nb_R nb_P 91 50 [v0, v1, v2, v3] [] M :=
  nb_step (c := true) rfl rfl
theorem q_m_nextToken_12 (l0 l1 l2 : Int) (v3 : nb_V) (M : nb_M) :
    nb_R nb_P 91 12 [(20, l0), (0, l1), (0, l2), v3] [] M = (nb_R nb_P 89 0 [(0, l2)] [] M).bind fun r => nb_R nb_P 91 13 [(20, l0), (0, l1), (0, l2), v3] (r.1 ++ []) r.2 :=
  nb_stepC (c := true) (L2 := [(20, l0), (0, l1), (0, l2), v3]) (S2 := [(0, l2)]) (M2 := M) (t := 13) (cl := 89) (vi := false) rfl rfl (nb_inv_eq (n := 1) rfl rfl rfl rfl rfl rfl (fun h => by cases h) rfl)
theorem q_m_nextToken_13 (l0 l1 l2 s0 : Int) (v3 : nb_V) (M : nb_M) :
    nb_R nb_P 91 13 [(20, l0), (0, l1), (0, l2), v3] [(0, s0)] M = if s0 = 0 then nb_R nb_P 91 28 [(20, l0), (0, l1), (0, l2), v3] [] M else nb_R nb_P 91 14 [(20, l0), (0, l1), (0, l2), v3] [] M :=
  nb_step (c := true) rfl rfl
theorem q_m_nextToken_14 (l0 l1 : Int) (v2 v3 : nb_V) (M : nb_M) (h1 : l0 ≠ 0) :
    nb_R nb_P 91 14 [(20, l0), (0, l1), v2, v3] [] M = (nb_R nb_P 88 0 [(20, l0), (0, l1)] [] M).bind fun r => nb_R nb_P 91 15 [(20, l0), (0, l1), v2, v3] (r.1 ++ []) r.2 :=
  nb_stepC (c := true) (L2 := [(20, l0), (0, l1), v2, v3]) (S2 := [(0, l1), (20, l0)]) (M2 := M) (t := 15) (cl := 88) (vi := true) rfl rfl (nb_inv_eq (n := 2) rfl rfl rfl rfl rfl rfl (fun _ => h1) rfl)
theorem q_m_nextToken_15 (l0 l1 s0 : Int) (v2 v3 : nb_V) (M : nb_M) :
    nb_R nb_P 91 15 [(20, l0), (0, l1), v2, v3] [(0, s0)] M = (nb_R nb_P 89 0 [(0, s0)] [] M).bind fun r => nb_R nb_P 91 16 [(20, l0), (0, l1), v2, v3] (r.1 ++ []) r.2 :=
  nb_stepC (c := true) (L2 := [(20, l0), (0, l1), v2, v3]) (S2 := [(0, s0)]) (M2 := M) (t := 16) (cl := 89) (vi := false) rfl rfl (nb_inv_eq (n := 1) rfl rfl rfl rfl rfl rfl (fun h => by cases h) rfl)
theorem q_m_nextToken_16 (l0 l1 s0 : Int) (v2 v3 : nb_V) (M : nb_M) :
    nb_R nb_P 91 16 [(20, l0), (0, l1), v2, v3] [(0, s0)] M = if s0 = 0 then nb_R nb_P 91 22 [(20, l0), (0, l1), v2, v3] [] M else nb_R nb_P 91 17 [(20, l0), (0, l1), v2, v3] [] M :=
  nb_step (c := true) rfl rfl
theorem q_m_nextToken_17 (l0 l1 : Int) (v2 v3 : nb_V) (M : nb_M) (h1 : l0 ≠ 0) :
    nb_R nb_P 91 17 [(20, l0), (0, l1), v2, v3] [] M = if nb_rd M l0 8 < 8 then nb_R nb_P 91 18 [(20, l0), (0, l1), v2, v3] [] M else nb_R nb_P 91 20 [(20, l0), (0, l1), v2, v3] [] M :=
  nb_step (c := (true && !decide ((l0 : Int) = 0))) rfl (by simp [h1])
theorem q_m_nextToken_18 (l0 l1 : Int) (v2 v3 : nb_V) (M : nb_M) (h1 : l0 ≠ 0) :
    nb_R nb_P 91 18 [(20, l0), (0, l1), v2, v3] [] M = (nb_R nb_P 88 0 [(20, l0), (0, l1)] [] M).bind fun r => nb_R nb_P 91 19 [(20, l0), (0, l1), v2, v3] (r.1 ++ [(0, nb_rd M l0 8), (3, nb_rd M l0 12)]) r.2 :=
  nb_stepC (c := ((true && !decide ((l0 : Int) = 0)) && !decide ((l0 : Int) = 0))) (L2 := [(20, l0), (0, l1), v2, v3]) (S2 := [(0, l1), (20, l0), (0, nb_rd M l0 8), (3, nb_rd M l0 12)]) (M2 := M) (t := 19) (cl := 88) (vi := true) rfl (by simp [h1]) (nb_inv_eq (n := 2) rfl rfl rfl rfl rfl rfl (fun _ => h1) rfl)
theorem q_m_nextToken_19 (l0 l1 s0 s1 s2 : Int) (v2 v3 : nb_V) (M : nb_M) (h1 : s2 ≠ 0) (h2 : s2 ≠ 1) (h3 : (0 : Int) ≤ s1) (h4 : s1 < nb_ln M s2) :
    nb_R nb_P 91 19 [(20, l0), (0, l1), v2, v3] [(0, s0), (0, s1), (3, s2)] M = nb_R nb_P 91 20 [(20, l0), (0, l1), v2, v3] [] (nb_wr M s2 s1 s0) :=
  nb_step (c := (true && (!decide ((s2 : Int) = 0) && (!decide ((s2 : Int) = 1) && (decide ((0 : Int) ≤ s1) && decide (s1 < nb_ln M s2)))))) rfl (by simp [h1, h2, h3, h4])
theorem q_m_nextToken_20 (l0 l1 : Int) (v2 v3 : nb_V) (M : nb_M) (h1 : l0 ≠ 0) :
    nb_R nb_P 91 20 [(20, l0), (0, l1), v2, v3] [] M = nb_R nb_P 91 21 [(20, l0), (0, l1), v2, v3] [] (nb_wr M l0 8 (nb_add (nb_rd M l0 8) 1)) :=
  nb_step (c := ((true && !decide ((l0 : Int) = 0)) && (!decide ((l0 : Int) = 0) && (!false || (decide ((nb_add (nb_rd M l0 8) 1 : Int) = 0) || decide ((nb_add (nb_rd M l0 8) 1 : Int) = 1)))))) rfl (by simp [h1])
theorem q_m_nextToken_21 (l0 l1 : Int) (v2 v3 : nb_V) (M : nb_M) :
    nb_R nb_P 91 21 [(20, l0), (0, l1), v2, v3] [] M = nb_R nb_P 91 14 [(20, l0), (0, nb_add l1 1), v2, v3] [] M :=
  nb_step (c := true) rfl rfl
theorem q_m_nextToken_22 (l0 l1 : Int) (v2 v3 : nb_V) (M : nb_M) (h1 : l0 ≠ 0) :
    nb_R nb_P 91 22 [(20, l0), (0, l1), v2, v3] [] M = nb_R nb_P 91 23 [(20, l0), (0, l1), v2, v3] [] (nb_wr M l0 5 l1) :=
  nb_step (c := (true && (!decide ((l0 : Int) = 0) && (!false || (decide ((l1 : Int) = 0) || decide ((l1 : Int) = 1)))))) rfl (by simp [h1])
theorem q_m_nextToken_23 (l0 : Int) (v1 v2 v3 : nb_V) (M : nb_M) (h1 : l0 ≠ 0) :
    nb_R nb_P 91 23 [(20, l0), v1, v2, v3] [] M = if 8 < nb_rd M l0 8 then nb_R nb_P 91 24 [(20, l0), v1, v2, v3] [(20, l0)] M else nb_R nb_P 91 25 [(20, l0), v1, v2, v3] [(20, l0)] M :=
  nb_step (c := (true && !decide ((l0 : Int) = 0))) rfl (by simp [h1])
theorem q_m_nextToken_24 (s0 : Int) (v0 v1 v2 v3 : nb_V) (M : nb_M) :
    nb_R nb_P 91 24 [v0, v1, v2, v3] [(20, s0)] M = nb_R nb_P 91 26 [v0, v1, v2, v3] [(0, 1), (20, s0)] M :=
  nb_step (c := true) rfl rfl
theorem q_m_nextToken_25 (s0 : Int) (v0 v1 v2 v3 : nb_V) (M : nb_M) :
    nb_R nb_P 91 25 [v0, v1, v2, v3] [(20, s0)] M = nb_R nb_P 91 26 [v0, v1, v2, v3] [(0, 2), (20, s0)] M :=
  nb_step (c := true) rfl rfl
theorem q_m_nextToken_26 (s0 s1 : Int) (v0 v1 v2 v3 : nb_V) (M : nb_M) (h1 : s1 ≠ 0) :
    nb_R nb_P 91 26 [v0, v1, v2, v3] [(0, s0), (20, s1)] M = nb_R nb_P 91 27 [v0, v1, v2, v3] [] (nb_wr M s1 6 s0) :=
  nb_step (c := (true && (!decide ((s1 : Int) = 0) && (!false || (decide ((s0 : Int) = 0) || decide ((s0 : Int) = 1)))))) rfl (by simp [h1])
theorem q_m_nextToken_27 (v0 v1 v2 v3 : nb_V) (M : nb_M) :
    nb_R nb_P 91 27 [v0, v1, v2, v3] [] M = nb_R nb_P 91 50 [v0, v1, v2, v3] [] M :=
  nb_step (c := true) rfl rfl
theorem q_m_nextToken_28 (l0 l1 l2 : Int) (v3 : nb_V) (M : nb_M) :
    nb_R nb_P 91 28 [(20, l0), (0, l1), (0, l2), v3] [] M = (nb_R nb_P 90 0 [(0, l2)] [] M).bind fun r => nb_R nb_P 91 29 [(20, l0), (0, l1), (0, l2), v3] (r.1 ++ []) r.2 :=
  nb_stepC (c := true) (L2 := [(20, l0), (0, l1), (0, l2), v3]) (S2 := [(0, l2)]) (M2 := M) (t := 29) (cl := 90) (vi := false) rfl rfl (nb_inv_eq (n := 1) rfl rfl rfl rfl rfl rfl (fun h => by cases h) rfl)
theorem q_m_nextToken_29 (l0 l1 l2 s0 : Int) (v3 : nb_V) (M : nb_M) :
    nb_R nb_P 91 29 [(20, l0), (0, l1), (0, l2), v3] [(0, s0)] M = if s0 = 0 then nb_R nb_P 91 44 [(20, l0), (0, l1), (0, l2), v3] [] M else nb_R nb_P 91 30 [(20, l0), (0, l1), (0, l2), v3] [] M :=
  nb_step (c := true) rfl rfl
theorem q_m_nextToken_30 (l0 l1 : Int) (v2 v3 : nb_V) (M : nb_M) :
    nb_R nb_P 91 30 [(20, l0), (0, l1), v2, v3] [] M = nb_R nb_P 91 31 [(20, l0), (0, l1), nb_clr v2, (0, 0)] [] M :=
  nb_step (c := true) rfl rfl
theorem q_m_nextToken_31 (l0 l1 l3 : Int) (v2 : nb_V) (M : nb_M) (h1 : l0 ≠ 0) :
    nb_R nb_P 91 31 [(20, l0), (0, l1), v2, (0, l3)] [] M = (nb_R nb_P 88 0 [(20, l0), (0, l1)] [] M).bind fun r => nb_R nb_P 91 32 [(20, l0), (0, l1), v2, (0, l3)] (r.1 ++ []) r.2 :=
  nb_stepC (c := true) (L2 := [(20, l0), (0, l1), v2, (0, l3)]) (S2 := [(0, l1), (20, l0)]) (M2 := M) (t := 32) (cl := 88) (vi := true) rfl rfl (nb_inv_eq (n := 2) rfl rfl rfl rfl rfl rfl (fun _ => h1) rfl)
theorem q_m_nextToken_32 (l0 l1 l3 s0 : Int) (v2 : nb_V) (M : nb_M) :
    nb_R nb_P 91 32 [(20, l0), (0, l1), v2, (0, l3)] [(0, s0)] M = (nb_R nb_P 90 0 [(0, s0)] [] M).bind fun r => nb_R nb_P 91 33 [(20, l0), (0, l1), v2, (0, l3)] (r.1 ++ []) r.2 :=
  nb_stepC (c := true) (L2 := [(20, l0), (0, l1), v2, (0, l3)]) (S2 := [(0, s0)]) (M2 := M) (t := 33) (cl := 90) (vi := false) rfl rfl (nb_inv_eq (n := 1) rfl rfl rfl rfl rfl rfl (fun h => by cases h) rfl)
theorem q_m_nextToken_33 (l0 l1 l3 s0 : Int) (v2 : nb_V) (M : nb_M) :
    nb_R nb_P 91 33 [(20, l0), (0, l1), v2, (0, l3)] [(0, s0)] M = if s0 = 0 then nb_R nb_P 91 38 [(20, l0), (0, l1), v2, (0, l3)] [] M else nb_R nb_P 91 34 [(20, l0), (0, l1), v2, (0, l3)] [] M :=
  nb_step (c := true) rfl rfl
theorem q_m_nextToken_34 (l0 l1 l3 : Int) (v2 : nb_V) (M : nb_M) :
    nb_R nb_P 91 34 [(20, l0), (0, l1), v2, (0, l3)] [] M = if l3 < 3 then nb_R nb_P 91 35 [(20, l0), (0, l1), v2, (0, l3)] [] M else nb_R nb_P 91 37 [(20, l0), (0, l1), v2, (0, l3)] [] M :=
  nb_step (c := true) rfl rfl
theorem q_m_nextToken_35 (l0 l1 l3 : Int) (v2 : nb_V) (M : nb_M) (h1 : l0 ≠ 0) :
    nb_R nb_P 91 35 [(20, l0), (0, l1), v2, (0, l3)] [] M = (nb_R nb_P 88 0 [(20, l0), (0, l1)] [] M).bind fun r => nb_R nb_P 91 36 [(20, l0), (0, l1), v2, (0, l3)] (r.1 ++ [(0, nb_mul 10 (nb_rd M l0 7)), (20, l0)]) r.2 :=
  nb_stepC (c := (true && !decide ((l0 : Int) = 0))) (L2 := [(20, l0), (0, l1), v2, (0, l3)]) (S2 := [(0, l1), (20, l0), (0, nb_mul 10 (nb_rd M l0 7)), (20, l0)]) (M2 := M) (t := 36) (cl := 88) (vi := true) rfl (by simp [h1]) (nb_inv_eq (n := 2) rfl rfl rfl rfl rfl rfl (fun _ => h1) rfl)
theorem q_m_nextToken_36 (l0 l1 l3 s0 s1 s2 : Int) (v2 : nb_V) (M : nb_M) (h1 : s2 ≠ 0) :
    nb_R nb_P 91 36 [(20, l0), (0, l1), v2, (0, l3)] [(0, s0), (0, s1), (20, s2)] M = nb_R nb_P 91 37 [(20, l0), (0, l1), v2, (0, l3)] [] (nb_wr M s2 7 (nb_sub (nb_add s1 s0) 48)) :=
  nb_step (c := (true && (!decide ((s2 : Int) = 0) && (!false || (decide ((nb_sub (nb_add s1 s0) 48 : Int) = 0) || decide ((nb_sub (nb_add s1 s0) 48 : Int) = 1)))))) rfl (by simp [h1])
theorem q_m_nextToken_37 (l0 l1 l3 : Int) (v2 : nb_V) (M : nb_M) :
    nb_R nb_P 91 37 [(20, l0), (0, l1), v2, (0, l3)] [] M = nb_R nb_P 91 31 [(20, l0), (0, nb_add l1 1), nb_clr v2, (0, nb_add l3 1)] [] M :=
  nb_step (c := true) rfl rfl
theorem q_m_nextToken_38 (l0 l1 l3 : Int) (v2 : nb_V) (M : nb_M) (h1 : l0 ≠ 0) :
    nb_R nb_P 91 38 [(20, l0), (0, l1), v2, (0, l3)] [] M = nb_R nb_P 91 39 [(20, l0), (0, l1), v2, (0, l3)] [] (nb_wr M l0 5 l1) :=
  nb_step (c := (true && (!decide ((l0 : Int) = 0) && (!false || (decide ((l1 : Int) = 0) || decide ((l1 : Int) = 1)))))) rfl (by simp [h1])
theorem q_m_nextToken_39 (l0 l3 : Int) (v1 v2 : nb_V) (M : nb_M) :
    nb_R nb_P 91 39 [(20, l0), v1, v2, (0, l3)] [] M = if 3 < l3 then nb_R nb_P 91 40 [(20, l0), v1, v2, (0, l3)] [(20, l0)] M else nb_R nb_P 91 41 [(20, l0), v1, v2, (0, l3)] [(20, l0)] M :=
  nb_step (c := true) rfl rfl
theorem q_m_nextToken_40 (s0 : Int) (v0 v1 v2 v3 : nb_V) (M : nb_M) :
    nb_R nb_P 91 40 [v0, v1, v2, v3] [(20, s0)] M = nb_R nb_P 91 42 [v0, v1, v2, v3] [(0, 1), (20, s0)] M :=
  nb_step (c := true) rfl rfl
theorem q_m_nextToken_41 (s0 : Int) (v0 v1 v2 v3 : nb_V) (M : nb_M) :
    nb_R nb_P 91 41 [v0, v1, v2, v3] [(20, s0)] M = nb_R nb_P 91 42 [v0, v1, v2, v3] [(0, 3), (20, s0)] M :=
  nb_step (c := true) rfl rfl
theorem q_m_nextToken_42 (s0 s1 : Int) (v0 v1 v2 v3 : nb_V) (M : nb_M) (h1 : s1 ≠ 0) :
    nb_R nb_P 91 42 [v0, v1, v2, v3] [(0, s0), (20, s1)] M = nb_R nb_P 91 43 [v0, v1, v2, v3] [] (nb_wr M s1 6 s0) :=
  nb_step (c := (true && (!decide ((s1 : Int) = 0) && (!false || (decide ((s0 : Int) = 0) || decide ((s0 : Int) = 1)))))) rfl (by simp [h1])
theorem q_m_nextToken_43 (v0 v1 v2 v3 : nb_V) (M : nb_M) :
    nb_R nb_P 91 43 [v0, v1, v2, v3] [] M = nb_R nb_P 91 50 [v0, v1, v2, v3] [] M :=
  nb_step (c := true) rfl rfl
theorem q_m_nextToken_44 (l0 l1 l2 : Int) (v3 : nb_V) (M : nb_M) (h1 : l0 ≠ 0) :
    nb_R nb_P 91 44 [(20, l0), (0, l1), (0, l2), v3] [] M = nb_R nb_P 91 45 [(20, l0), (0, l1), (0, l2), v3] [] (nb_wr M l0 5 (nb_add l1 1)) :=
  nb_step (c := (true && (!decide ((l0 : Int) = 0) && (!false || (decide ((nb_add l1 1 : Int) = 0) || decide ((nb_add l1 1 : Int) = 1)))))) rfl (by simp [h1])
theorem q_m_nextToken_45 (l0 l2 : Int) (v1 v3 : nb_V) (M : nb_M) :
    nb_R nb_P 91 45 [(20, l0), v1, (0, l2), v3] [] M = if l2 = 59 then nb_R nb_P 91 47 [(20, l0), v1, (0, l2), v3] [(20, l0)] M else nb_R nb_P 91 46 [(20, l0), v1, (0, l2), v3] [(20, l0)] M :=
  nb_step (c := true) rfl rfl
theorem q_m_nextToken_46 (l2 s0 : Int) (v0 v1 v3 : nb_V) (M : nb_M) :
    nb_R nb_P 91 46 [v0, v1, (0, l2), v3] [(20, s0)] M = if l2 = 44 then nb_R nb_P 91 47 [v0, v1, (0, l2), v3] [(20, s0)] M else nb_R nb_P 91 48 [v0, v1, (0, l2), v3] [(20, s0)] M :=
  nb_step (c := true) rfl rfl
theorem q_m_nextToken_47 (l2 s0 : Int) (v0 v1 v3 : nb_V) (M : nb_M) :
    nb_R nb_P 91 47 [v0, v1, (0, l2), v3] [(20, s0)] M = nb_R nb_P 91 49 [v0, v1, (0, l2), v3] [(0, l2), (20, s0)] M :=
  nb_step (c := true) rfl rfl
theorem q_m_nextToken_48 (s0 : Int) (v0 v1 v2 v3 : nb_V) (M : nb_M) :
    nb_R nb_P 91 48 [v0, v1, v2, v3] [(20, s0)] M = nb_R nb_P 91 49 [v0, v1, v2, v3] [(0, 1), (20, s0)] M :=
  nb_step (c := true) rfl rfl
theorem q_m_nextToken_49 (s0 s1 : Int) (v0 v1 v2 v3 : nb_V) (M : nb_M) (h1 : s1 ≠ 0) :
    nb_R nb_P 91 49 [v0, v1, v2, v3] [(0, s0), (20, s1)] M = nb_R nb_P 91 50 [v0, v1, v2, v3] [] (nb_wr M s1 6 s0) :=
  nb_step (c := (true && (!decide ((s1 : Int) = 0) && (!false || (decide ((s0 : Int) = 0) || decide ((s0 : Int) = 1)))))) rfl (by simp [h1])
theorem q_m_nextToken_50 (v0 v1 v2 v3 : nb_V) (M : nb_M) :
    nb_R nb_P 91 50 [v0, v1, v2, v3] [] M = some ([], M) :=
  nb_step (c := true) rfl rfl
theorem q_m_isWord_0 (l0 l1 : Int) (v2 v3 : nb_V) (M : nb_M) (h1 : l0 ≠ 0) :
    nb_R nb_P 93 0 [(20, l0), (2, l1), v2, v3] [] M = if nb_rd M l0 13 = 0 then nb_R nb_P 93 1 [(20, l0), (2, l1), v2, v3] [] M else nb_R nb_P 93 4 [(20, l0), (2, l1), v2, v3] [] M :=
  nb_step (c := (true && !decide ((l0 : Int) = 0))) rfl (by simp [h1])
theorem q_m_isWord_1 (l0 l1 : Int) (v2 v3 : nb_V) (M : nb_M) (h1 : l0 ≠ 0) :
    nb_R nb_P 93 1 [(20, l0), (2, l1), v2, v3] [] M = if nb_rd M l0 6 = 2 then nb_R nb_P 93 2 [(20, l0), (2, l1), v2, v3] [] M else nb_R nb_P 93 4 [(20, l0), (2, l1), v2, v3] [] M :=
  nb_step (c := (true && !decide ((l0 : Int) = 0))) rfl (by simp [h1])
theorem q_m_isWord_2 (l0 l1 : Int) (v2 v3 : nb_V) (M : nb_M) (h1 : l0 ≠ 0) (h2 : l1 ≠ 0) :
    nb_R nb_P 93 2 [(20, l0), (2, l1), v2, v3] [] M = ((if 0 < (nb_P.2.2.2.2.2 l1).length then some ([(0, ((nb_P.2.2.2.2.2 l1).length : Int))], M) else none : nb_A)).bind fun r => nb_R nb_P 93 3 [(20, l0), (2, l1), v2, v3] (r.1 ++ [(0, nb_rd M l0 8)]) r.2 :=
  nb_stepC (c := (true && !decide ((l0 : Int) = 0))) (L2 := [(20, l0), (2, l1), v2, v3]) (S2 := [(2, l1), (0, nb_rd M l0 8)]) (M2 := M) (t := 3) (cl := 901) (vi := true) rfl (by simp [h1, h2]) (nb_inv_eq (n := 1) rfl rfl rfl rfl rfl rfl (fun _ => h2) rfl)
theorem q_m_isWord_3 (l0 l1 s0 s1 : Int) (v2 v3 : nb_V) (M : nb_M) :
    nb_R nb_P 93 3 [(20, l0), (2, l1), v2, v3] [(0, s0), (0, s1)] M = if s1 = s0 then nb_R nb_P 93 5 [(20, l0), (2, l1), v2, v3] [] M else nb_R nb_P 93 4 [(20, l0), (2, l1), v2, v3] [] M :=
  nb_step (c := true) rfl rfl
theorem q_m_isWord_4 (v0 v1 v2 v3 : nb_V) (M : nb_M) :
    nb_R nb_P 93 4 [v0, v1, v2, v3] [] M = some ([(0, 0)], M) :=
  nb_step (c := true) rfl rfl
theorem q_m_isWord_5 (l0 l1 : Int) (v2 v3 : nb_V) (M : nb_M) :
    nb_R nb_P 93 5 [(20, l0), (2, l1), v2, v3] [] M = nb_R nb_P 93 6 [(20, l0), (2, l1), (0, 1), (0, 0)] [] M :=
  nb_step (c := true) rfl rfl
theorem q_m_isWord_6 (l0 l1 l2 l3 : Int) (M : nb_M) (h1 : l0 ≠ 0) :
    nb_R nb_P 93 6 [(20, l0), (2, l1), (0, l2), (0, l3)] [] M = if l3 < nb_rd M l0 8 then nb_R nb_P 93 7 [(20, l0), (2, l1), (0, l2), (0, l3)] [] M else nb_R nb_P 93 13 [(20, l0), (2, l1), (0, l2), (0, l3)] [] M :=
  nb_step (c := (true && !decide ((l0 : Int) = 0))) rfl (by simp [h1])
theorem q_m_isWord_7 (l0 l1 l2 l3 : Int) (M : nb_M) :
    nb_R nb_P 93 7 [(20, l0), (2, l1), (0, l2), (0, l3)] [] M = if l2 = 0 then nb_R nb_P 93 11 [(20, l0), (2, l1), (0, l2), (0, l3)] [] M else nb_R nb_P 93 8 [(20, l0), (2, l1), (0, l2), (0, l3)] [] M :=
  nb_step (c := true) rfl rfl
theorem q_m_isWord_8 (l0 l1 l3 : Int) (v2 : nb_V) (M : nb_M) (h1 : l0 ≠ 0) (h2 : (nb_rd M l0 12) ≠ 0) (h3 : (0 : Int) ≤ l3) (h4 : l3 < nb_ln M (nb_rd M l0 12)) (h5 : l1 ≠ 0) :
    nb_R nb_P 93 8 [(20, l0), (2, l1), v2, (0, l3)] [] M = ((if (0 : Int) ≤ l3 ∧ l3 < ((nb_P.2.2.2.2.2 l1).length : Int) then some ([(0, (nb_P.2.2.2.2.2 l1).getD (l3 : Int).toNat 0)], M) else none : nb_A)).bind fun r => nb_R nb_P 93 9 [(20, l0), (2, l1), v2, (0, l3)] (r.1 ++ [(0, nb_rd M (nb_rd M l0 12) l3)]) r.2 :=
  nb_stepC (c := ((true && !decide ((l0 : Int) = 0)) && (!decide ((nb_rd M l0 12 : Int) = 0) && (decide ((0 : Int) ≤ l3) && decide (l3 < nb_ln M (nb_rd M l0 12)))))) (L2 := [(20, l0), (2, l1), v2, (0, l3)]) (S2 := [(0, l3), (2, l1), (0, nb_rd M (nb_rd M l0 12) l3)]) (M2 := M) (t := 9) (cl := 902) (vi := true) rfl (by simp [h1, h2, h3, h4, h5]) (nb_inv_eq (n := 2) rfl rfl rfl rfl rfl rfl (fun _ => h5) rfl)
theorem q_m_isWord_9 (l0 l1 l3 s0 s1 : Int) (v2 : nb_V) (M : nb_M) :
    nb_R nb_P 93 9 [(20, l0), (2, l1), v2, (0, l3)] [(0, s0), (0, s1)] M = if s1 = s0 then nb_R nb_P 93 10 [(20, l0), (2, l1), v2, (0, l3)] [] M else nb_R nb_P 93 11 [(20, l0), (2, l1), v2, (0, l3)] [] M :=
  nb_step (c := true) rfl rfl
theorem q_m_isWord_10 (l0 l1 l3 : Int) (v2 : nb_V) (M : nb_M) :
    nb_R nb_P 93 10 [(20, l0), (2, l1), v2, (0, l3)] [] M = nb_R nb_P 93 12 [(20, l0), (2, l1), v2, (0, l3)] [(0, 1)] M :=
  nb_step (c := true) rfl rfl
theorem q_m_isWord_11 (l0 l1 l3 : Int) (v2 : nb_V) (M : nb_M) :
    nb_R nb_P 93 11 [(20, l0), (2, l1), v2, (0, l3)] [] M = nb_R nb_P 93 12 [(20, l0), (2, l1), v2, (0, l3)] [(0, 0)] M :=
  nb_step (c := true) rfl rfl
theorem q_m_isWord_12 (l0 l1 l3 s0 : Int) (v2 : nb_V) (M : nb_M) :
    nb_R nb_P 93 12 [(20, l0), (2, l1), v2, (0, l3)] [(0, s0)] M = nb_R nb_P 93 6 [(20, l0), (2, l1), (0, s0), (0, nb_add l3 1)] [] M :=
  nb_step (c := true) rfl rfl
theorem q_m_isWord_13 (l2 : Int) (v0 v1 v3 : nb_V) (M : nb_M) :
    nb_R nb_P 93 13 [v0, v1, (0, l2), v3] [] M = some ([(0, nb_i2z l2)], M) :=
  nb_step (c := true) rfl rfl
theorem q_m_must_0 (l0 l1 : Int) (M : nb_M) (h1 : l0 ≠ 0) :
    nb_R nb_P 95 0 [(20, l0), (2, l1)] [] M = if nb_rd M l0 13 = 0 then nb_R nb_P 95 1 [(20, l0), (2, l1)] [] M else nb_R nb_P 95 4 [(20, l0), (2, l1)] [] M :=
  nb_step (c := (true && !decide ((l0 : Int) = 0))) rfl (by simp [h1])
theorem q_m_must_1 (l0 l1 : Int) (M : nb_M) (h1 : l0 ≠ 0) :
    nb_R nb_P 95 1 [(20, l0), (2, l1)] [] M = (nb_R nb_P 94 0 [(20, l0), (2, l1)] [] M).bind fun r => nb_R nb_P 95 2 [(20, l0), (2, l1)] (r.1 ++ []) r.2 :=
  nb_stepC (c := true) (L2 := [(20, l0), (2, l1)]) (S2 := [(2, l1), (20, l0)]) (M2 := M) (t := 2) (cl := 94) (vi := true) rfl rfl (nb_inv_eq (n := 2) rfl rfl rfl rfl rfl rfl (fun _ => h1) rfl)
theorem q_m_must_2 (l0 s0 : Int) (v1 : nb_V) (M : nb_M) :
    nb_R nb_P 95 2 [(20, l0), v1] [(0, s0)] M = if s0 = 0 then nb_R nb_P 95 3 [(20, l0), v1] [] M else nb_R nb_P 95 4 [(20, l0), v1] [] M :=
  nb_step (c := true) rfl rfl
theorem q_m_must_3 (l0 : Int) (v1 : nb_V) (M : nb_M) (h1 : l0 ≠ 0) :
    nb_R nb_P 95 3 [(20, l0), v1] [] M = (nb_R nb_P 92 0 [(20, l0), (0, 1), (0, nb_rd M l0 4)] [] M).bind fun r => nb_R nb_P 95 4 [(20, l0), v1] (r.1 ++ []) r.2 :=
  nb_stepC (c := (true && !decide ((l0 : Int) = 0))) (L2 := [(20, l0), v1]) (S2 := [(0, nb_rd M l0 4), (0, 1), (20, l0)]) (M2 := M) (t := 4) (cl := 92) (vi := true) rfl (by simp [h1]) (nb_inv_eq (n := 3) rfl rfl rfl rfl rfl rfl (fun _ => h1) rfl)
theorem q_m_must_4 (v0 v1 : nb_V) (M : nb_M) :
    nb_R nb_P 95 4 [v0, v1] [] M = some ([], M) :=
  nb_step (c := true) rfl rfl
theorem q_m_find_0 (l0 : Int) (v1 v2 v3 : nb_V) (M : nb_M) :
    nb_R nb_P 97 0 [(20, l0), v1, v2, v3] [] M = nb_R nb_P 97 1 [(20, l0), (0, 0), v2, v3] [] M :=
  nb_step (c := true) rfl rfl
theorem q_m_find_1 (l0 l1 : Int) (v2 v3 : nb_V) (M : nb_M) :
    nb_R nb_P 97 1 [(20, l0), (0, l1), v2, v3] [] M = if l1 < 18 then nb_R nb_P 97 2 [(20, l0), (0, l1), v2, v3] [] M else nb_R nb_P 97 16 [(20, l0), (0, l1), v2, v3] [] M :=
  nb_step (c := true) rfl rfl
theorem q_m_find_2 (l0 l1 : Int) (v2 v3 : nb_V) (M : nb_M) (h1 : l0 ≠ 0) (h2 : (nb_rd M l0 16) ≠ 0) (h3 : (0 : Int) ≤ nb_add 185 l1) (h4 : nb_add 185 l1 < nb_ln M (nb_rd M l0 16)) :
    nb_R nb_P 97 2 [(20, l0), (0, l1), v2, v3] [] M = if 0 < nb_rd M (nb_rd M l0 16) (nb_add 185 l1) then nb_R nb_P 97 3 [(20, l0), (0, l1), v2, v3] [] M else nb_R nb_P 97 5 [(20, l0), (0, l1), v2, v3] [] M :=
  nb_step (c := ((true && !decide ((l0 : Int) = 0)) && (!decide ((nb_rd M l0 16 : Int) = 0) && (decide ((0 : Int) ≤ nb_add 185 l1) && decide (nb_add 185 l1 < nb_ln M (nb_rd M l0 16)))))) rfl (by simp [h1, h2, h3, h4])
theorem q_m_find_3 (l0 l1 : Int) (v2 v3 : nb_V) (M : nb_M) (h1 : l0 ≠ 0) (h2 : (nb_rd M l0 16) ≠ 0) (h3 : (0 : Int) ≤ nb_add 185 l1) (h4 : nb_add 185 l1 < nb_ln M (nb_rd M l0 16)) :
    nb_R nb_P 97 3 [(20, l0), (0, l1), v2, v3] [] M = if nb_rd M (nb_rd M l0 16) (nb_add 185 l1) = nb_rd M l0 8 then nb_R nb_P 97 4 [(20, l0), (0, l1), v2, v3] [] M else nb_R nb_P 97 5 [(20, l0), (0, l1), v2, v3] [] M :=
  nb_step (c := (((true && !decide ((l0 : Int) = 0)) && (!decide ((nb_rd M l0 16 : Int) = 0) && (decide ((0 : Int) ≤ nb_add 185 l1) && decide (nb_add 185 l1 < nb_ln M (nb_rd M l0 16))))) && !decide ((l0 : Int) = 0))) rfl (by simp [h1, h2, h3, h4])
theorem q_m_find_4 (l0 l1 : Int) (v2 v3 : nb_V) (M : nb_M) :
    nb_R nb_P 97 4 [(20, l0), (0, l1), v2, v3] [] M = nb_R nb_P 97 6 [(20, l0), (0, l1), v2, v3] [(0, 1)] M :=
  nb_step (c := true) rfl rfl
theorem q_m_find_5 (l0 l1 : Int) (v2 v3 : nb_V) (M : nb_M) :
    nb_R nb_P 97 5 [(20, l0), (0, l1), v2, v3] [] M = nb_R nb_P 97 6 [(20, l0), (0, l1), v2, v3] [(0, 0)] M :=
  nb_step (c := true) rfl rfl
theorem q_m_find_6 (l0 l1 s0 : Int) (v2 v3 : nb_V) (M : nb_M) :
    nb_R nb_P 97 6 [(20, l0), (0, l1), v2, v3] [(0, s0)] M = nb_R nb_P 97 7 [(20, l0), (0, l1), (0, s0), (0, 0)] [] M :=
  nb_step (c := true) rfl rfl
theorem q_m_find_7 (l0 l1 l2 l3 : Int) (M : nb_M) (h1 : l0 ≠ 0) :
    nb_R nb_P 97 7 [(20, l0), (0, l1), (0, l2), (0, l3)] [] M = if l3 < nb_rd M l0 8 then nb_R nb_P 97 8 [(20, l0), (0, l1), (0, l2), (0, l3)] [] M else nb_R nb_P 97 13 [(20, l0), (0, l1), (0, l2), (0, l3)] [] M :=
  nb_step (c := (true && !decide ((l0 : Int) = 0))) rfl (by simp [h1])
theorem q_m_find_8 (l0 l1 l2 l3 : Int) (M : nb_M) :
    nb_R nb_P 97 8 [(20, l0), (0, l1), (0, l2), (0, l3)] [] M = if l2 = 0 then nb_R nb_P 97 13 [(20, l0), (0, l1), (0, l2), (0, l3)] [] M else nb_R nb_P 97 9 [(20, l0), (0, l1), (0, l2), (0, l3)] [] M :=
  nb_step (c := true) rfl rfl
theorem q_m_find_9 (l0 l1 l3 : Int) (v2 : nb_V) (M : nb_M) (h1 : l0 ≠ 0) (h2 : (nb_rd M l0 16) ≠ 0) (h3 : (0 : Int) ≤ nb_add (nb_add 203 (nb_mul 8 l1)) l3) (h4 : nb_add (nb_add 203 (nb_mul 8 l1)) l3 < nb_ln M (nb_rd M l0 16)) (h5 : (nb_rd M l0 12) ≠ 0) (h6 : (0 : Int) ≤ l3) (h7 : l3 < nb_ln M (nb_rd M l0 12)) :
    nb_R nb_P 97 9 [(20, l0), (0, l1), v2, (0, l3)] [] M = if nb_rd M (nb_rd M l0 16) (nb_add (nb_add 203 (nb_mul 8 l1)) l3) = nb_rd M (nb_rd M l0 12) l3 then nb_R nb_P 97 10 [(20, l0), (0, l1), v2, (0, l3)] [] M else nb_R nb_P 97 11 [(20, l0), (0, l1), v2, (0, l3)] [] M :=
  nb_step (c := ((((true && !decide ((l0 : Int) = 0)) && (!decide ((nb_rd M l0 16 : Int) = 0) && (decide ((0 : Int) ≤ nb_add (nb_add 203 (nb_mul 8 l1)) l3) && decide (nb_add (nb_add 203 (nb_mul 8 l1)) l3 < nb_ln M (nb_rd M l0 16))))) && !decide ((l0 : Int) = 0)) && (!decide ((nb_rd M l0 12 : Int) = 0) && (decide ((0 : Int) ≤ l3) && decide (l3 < nb_ln M (nb_rd M l0 12)))))) rfl (by simp [h1, h2, h3, h4, h5, h6, h7])
theorem q_m_find_10 (l0 l1 l3 : Int) (v2 : nb_V) (M : nb_M) :
    nb_R nb_P 97 10 [(20, l0), (0, l1), v2, (0, l3)] [] M = nb_R nb_P 97 12 [(20, l0), (0, l1), v2, (0, l3)] [(0, 1)] M :=
  nb_step (c := true) rfl rfl
theorem q_m_find_11 (l0 l1 l3 : Int) (v2 : nb_V) (M : nb_M) :
    nb_R nb_P 97 11 [(20, l0), (0, l1), v2, (0, l3)] [] M = nb_R nb_P 97 12 [(20, l0), (0, l1), v2, (0, l3)] [(0, 0)] M :=
  nb_step (c := true) rfl rfl
theorem q_m_find_12 (l0 l1 l3 s0 : Int) (v2 : nb_V) (M : nb_M) :
    nb_R nb_P 97 12 [(20, l0), (0, l1), v2, (0, l3)] [(0, s0)] M = nb_R nb_P 97 7 [(20, l0), (0, l1), (0, s0), (0, nb_add l3 1)] [] M :=
  nb_step (c := true) rfl rfl
theorem q_m_find_13 (l0 l1 l2 : Int) (v3 : nb_V) (M : nb_M) :
    nb_R nb_P 97 13 [(20, l0), (0, l1), (0, l2), v3] [] M = if l2 = 0 then nb_R nb_P 97 15 [(20, l0), (0, l1), (0, l2), v3] [] M else nb_R nb_P 97 14 [(20, l0), (0, l1), (0, l2), v3] [] M :=
  nb_step (c := true) rfl rfl
theorem q_m_find_14 (l1 : Int) (v0 v2 v3 : nb_V) (M : nb_M) :
    nb_R nb_P 97 14 [v0, (0, l1), v2, v3] [] M = some ([(0, l1)], M) :=
  nb_step (c := true) rfl rfl
theorem q_m_find_15 (l0 l1 : Int) (v2 v3 : nb_V) (M : nb_M) :
    nb_R nb_P 97 15 [(20, l0), (0, l1), v2, v3] [] M = nb_R nb_P 97 1 [(20, l0), (0, nb_add l1 1), v2, v3] [] M :=
  nb_step (c := true) rfl rfl
theorem q_m_find_16 (v0 v1 v2 v3 : nb_V) (M : nb_M) :
    nb_R nb_P 97 16 [v0, v1, v2, v3] [] M = some ([(0, (-1))], M) :=
  nb_step (c := true) rfl rfl
theorem q_m_named_0 (l0 l1 l2 : Int) (v3 : nb_V) (M : nb_M) (h1 : l0 ≠ 0) :
    nb_R nb_P 99 0 [(20, l0), (0, l1), (0, l2), v3] [] M = if nb_rd M l0 13 = 0 then nb_R nb_P 99 2 [(20, l0), (0, l1), (0, l2), v3] [] M else nb_R nb_P 99 1 [(20, l0), (0, l1), (0, l2), v3] [] M :=
  nb_step (c := (true && !decide ((l0 : Int) = 0))) rfl (by simp [h1])
theorem q_m_named_1 (l1 : Int) (v0 v2 v3 : nb_V) (M : nb_M) :
    nb_R nb_P 99 1 [v0, (0, l1), v2, v3] [] M = some ([(0, l1)], M) :=
  nb_step (c := true) rfl rfl
theorem q_m_named_2 (l0 l1 l2 : Int) (v3 : nb_V) (M : nb_M) (h1 : l0 ≠ 0) :
    nb_R nb_P 99 2 [(20, l0), (0, l1), (0, l2), v3] [] M = (nb_R nb_P 96 0 [(20, l0), (98, 0)] [] M).bind fun r => nb_R nb_P 99 3 [(20, l0), (0, l1), (0, l2), v3] (r.1 ++ []) r.2 :=
  nb_stepC (c := true) (L2 := [(20, l0), (0, l1), (0, l2), v3]) (S2 := [(20, l0)]) (M2 := M) (t := 3) (cl := 96) (vi := true) rfl rfl (nb_inv_eq (n := 1) rfl rfl rfl rfl rfl rfl (fun _ => h1) rfl)
theorem q_m_named_3 (l0 l1 l2 : Int) (v3 : nb_V) (M : nb_M) (h1 : l0 ≠ 0) :
    nb_R nb_P 99 3 [(20, l0), (0, l1), (0, l2), v3] [] M = if nb_rd M l0 13 = 0 then nb_R nb_P 99 5 [(20, l0), (0, l1), (0, l2), v3] [] M else nb_R nb_P 99 4 [(20, l0), (0, l1), (0, l2), v3] [] M :=
  nb_step (c := (true && !decide ((l0 : Int) = 0))) rfl (by simp [h1])
theorem q_m_named_4 (l1 : Int) (v0 v2 v3 : nb_V) (M : nb_M) :
    nb_R nb_P 99 4 [v0, (0, l1), v2, v3] [] M = some ([(0, l1)], M) :=
  nb_step (c := true) rfl rfl
theorem q_m_named_5 (l0 l1 l2 : Int) (v3 : nb_V) (M : nb_M) (h1 : l0 ≠ 0) :
    nb_R nb_P 99 5 [(20, l0), (0, l1), (0, l2), v3] [] M = (nb_R nb_P 97 0 [(20, l0), (98, 0), (98, 0), (98, 0)] [] M).bind fun r => nb_R nb_P 99 6 [(20, l0), (0, l1), (0, l2), v3] (r.1 ++ []) r.2 :=
  nb_stepC (c := true) (L2 := [(20, l0), (0, l1), (0, l2), v3]) (S2 := [(20, l0)]) (M2 := M) (t := 6) (cl := 97) (vi := true) rfl rfl (nb_inv_eq (n := 1) rfl rfl rfl rfl rfl rfl (fun _ => h1) rfl)
theorem q_m_named_6 (l0 l1 l2 s0 : Int) (v3 : nb_V) (M : nb_M) :
    nb_R nb_P 99 6 [(20, l0), (0, l1), (0, l2), v3] [(0, s0)] M = (nb_R nb_P 83 0 [(0, s0), (0, l1), (0, l2)] [] M).bind fun r => nb_R nb_P 99 7 [(20, l0), (0, l1), (0, l2), (0, s0)] (r.1 ++ []) r.2 :=
  nb_stepC (c := true) (L2 := [(20, l0), (0, l1), (0, l2), (0, s0)]) (S2 := [(0, l2), (0, l1), (0, s0)]) (M2 := M) (t := 7) (cl := 83) (vi := false) rfl rfl (nb_inv_eq (n := 3) rfl rfl rfl rfl rfl rfl (fun h => by cases h) rfl)
theorem q_m_named_7 (l0 l1 l3 s0 : Int) (v2 : nb_V) (M : nb_M) :
    nb_R nb_P 99 7 [(20, l0), (0, l1), v2, (0, l3)] [(0, s0)] M = if s0 = 0 then nb_R nb_P 99 8 [(20, l0), (0, l1), v2, (0, l3)] [] M else nb_R nb_P 99 9 [(20, l0), (0, l1), v2, (0, l3)] [] M :=
  nb_step (c := true) rfl rfl
theorem q_m_named_8 (l0 l1 l3 : Int) (v2 : nb_V) (M : nb_M) (h1 : l0 ≠ 0) :
    nb_R nb_P 99 8 [(20, l0), (0, l1), v2, (0, l3)] [] M = (nb_R nb_P 92 0 [(20, l0), (0, 2), (0, nb_rd M l0 4)] [] M).bind fun r => nb_R nb_P 99 9 [(20, l0), (0, l1), v2, (0, l3)] (r.1 ++ []) r.2 :=
  nb_stepC (c := (true && !decide ((l0 : Int) = 0))) (L2 := [(20, l0), (0, l1), v2, (0, l3)]) (S2 := [(0, nb_rd M l0 4), (0, 2), (20, l0)]) (M2 := M) (t := 9) (cl := 92) (vi := true) rfl (by simp [h1]) (nb_inv_eq (n := 3) rfl rfl rfl rfl rfl rfl (fun _ => h1) rfl)
theorem q_m_named_9 (l0 l1 l3 : Int) (v2 : nb_V) (M : nb_M) (h1 : l0 ≠ 0) :
    nb_R nb_P 99 9 [(20, l0), (0, l1), v2, (0, l3)] [] M = if nb_rd M l0 13 = 0 then nb_R nb_P 99 11 [(20, l0), (0, l1), v2, (0, l3)] [] M else nb_R nb_P 99 10 [(20, l0), (0, l1), v2, (0, l3)] [] M :=
  nb_step (c := (true && !decide ((l0 : Int) = 0))) rfl (by simp [h1])
theorem q_m_named_10 (l1 : Int) (v0 v2 v3 : nb_V) (M : nb_M) :
    nb_R nb_P 99 10 [v0, (0, l1), v2, v3] [] M = nb_R nb_P 99 12 [v0, (0, l1), v2, v3] [(0, l1)] M :=
  nb_step (c := true) rfl rfl
theorem q_m_named_11 (l3 : Int) (v0 v1 v2 : nb_V) (M : nb_M) :
    nb_R nb_P 99 11 [v0, v1, v2, (0, l3)] [] M = nb_R nb_P 99 12 [v0, v1, v2, (0, l3)] [(0, l3)] M :=
  nb_step (c := true) rfl rfl
theorem q_m_named_12 (s0 : Int) (v0 v1 v2 v3 : nb_V) (M : nb_M) :
    nb_R nb_P 99 12 [v0, v1, v2, v3] [(0, s0)] M = some ([(0, s0)], M) :=
  nb_step (c := true) rfl rfl
theorem q_m_personPassed_0 (l0 : Int) (v1 : nb_V) (M : nb_M) (h1 : l0 ≠ 0) :
    nb_R nb_P 101 0 [(20, l0), v1] [] M = (nb_R nb_P 100 0 [(20, l0)] [] M).bind fun r => nb_R nb_P 101 1 [(20, l0), v1] (r.1 ++ []) r.2 :=
  nb_stepC (c := true) (L2 := [(20, l0), v1]) (S2 := [(20, l0)]) (M2 := M) (t := 1) (cl := 100) (vi := true) rfl rfl (nb_inv_eq (n := 1) rfl rfl rfl rfl rfl rfl (fun _ => h1) rfl)
theorem q_m_personPassed_1 (l0 s0 : Int) (v1 : nb_V) (M : nb_M) (h1 : l0 ≠ 0) :
    nb_R nb_P 101 1 [(20, l0), v1] [(0, s0)] M = if nb_rd M l0 13 = 0 then nb_R nb_P 101 2 [(20, l0), (0, s0)] [] M else nb_R nb_P 101 3 [(20, l0), (0, s0)] [] M :=
  nb_step (c := (true && !decide ((l0 : Int) = 0))) rfl (by simp [h1])
theorem q_m_personPassed_2 (l0 l1 : Int) (M : nb_M) (h1 : l0 ≠ 0) :
    nb_R nb_P 101 2 [(20, l0), (0, l1)] [] M = (nb_R nb_P 91 0 [(20, l0), (98, 0), (98, 0), (98, 0)] [] M).bind fun r => nb_R nb_P 101 3 [(20, l0), (0, l1)] (r.1 ++ []) r.2 :=
  nb_stepC (c := true) (L2 := [(20, l0), (0, l1)]) (S2 := [(20, l0)]) (M2 := M) (t := 3) (cl := 91) (vi := true) rfl rfl (nb_inv_eq (n := 1) rfl rfl rfl rfl rfl rfl (fun _ => h1) rfl)
theorem q_m_personPassed_3 (l1 : Int) (v0 : nb_V) (M : nb_M) :
    nb_R nb_P 101 3 [v0, (0, l1)] [] M = some ([(0, l1)], M) :=
  nb_step (c := true) rfl rfl
theorem q_m_after_0 (l0 l1 l2 l3 : Int) (M : nb_M) (h1 : l0 ≠ 0) :
    nb_R nb_P 103 0 [(20, l0), (2, l1), (0, l2), (0, l3)] [] M = (nb_R nb_P 95 0 [(20, l0), (2, l1)] [] M).bind fun r => nb_R nb_P 103 1 [(20, l0), (2, l1), (0, l2), (0, l3)] (r.1 ++ []) r.2 :=
  nb_stepC (c := true) (L2 := [(20, l0), (2, l1), (0, l2), (0, l3)]) (S2 := [(2, l1), (20, l0)]) (M2 := M) (t := 1) (cl := 95) (vi := true) rfl rfl (nb_inv_eq (n := 2) rfl rfl rfl rfl rfl rfl (fun _ => h1) rfl)
theorem q_m_after_1 (l0 l2 l3 : Int) (v1 : nb_V) (M : nb_M) (h1 : l0 ≠ 0) :
    nb_R nb_P 103 1 [(20, l0), v1, (0, l2), (0, l3)] [] M = (nb_R nb_P 102 0 [(20, l0), (0, l2), (0, l3), (98, 0)] [] M).bind fun r => nb_R nb_P 103 2 [(20, l0), v1, (0, l2), (0, l3)] (r.1 ++ []) r.2 :=
  nb_stepC (c := true) (L2 := [(20, l0), v1, (0, l2), (0, l3)]) (S2 := [(0, l3), (0, l2), (20, l0)]) (M2 := M) (t := 2) (cl := 102) (vi := true) rfl rfl (nb_inv_eq (n := 3) rfl rfl rfl rfl rfl rfl (fun _ => h1) rfl)
theorem q_m_after_2 (s0 : Int) (v0 v1 v2 v3 : nb_V) (M : nb_M) :
    nb_R nb_P 103 2 [v0, v1, v2, v3] [(0, s0)] M = some ([(0, s0)], M) :=
  nb_step (c := true) rfl rfl
theorem q_m_house_0 (l0 l1 : Int) (v2 : nb_V) (M : nb_M) (h1 : l0 ≠ 0) :
    nb_R nb_P 105 0 [(20, l0), (0, l1), v2] [] M = (nb_R nb_P 79 0 [(20, l0)] [] M).bind fun r => nb_R nb_P 105 1 [(20, l0), (0, l1), v2] (r.1 ++ []) r.2 :=
  nb_stepC (c := true) (L2 := [(20, l0), (0, l1), v2]) (S2 := [(20, l0)]) (M2 := M) (t := 1) (cl := 79) (vi := true) rfl rfl (nb_inv_eq (n := 1) rfl rfl rfl rfl rfl rfl (fun _ => h1) rfl)
theorem q_m_house_1 (l0 l1 : Int) (v2 : nb_V) (M : nb_M) (h1 : l0 ≠ 0) :
    nb_R nb_P 105 1 [(20, l0), (0, l1), v2] [] M = (nb_R nb_P 83 0 [(0, l1), (0, 0), (0, nb_rd M l0 2)] [] M).bind fun r => nb_R nb_P 105 2 [(20, l0), (0, l1), v2] (r.1 ++ []) r.2 :=
  nb_stepC (c := (true && !decide ((l0 : Int) = 0))) (L2 := [(20, l0), (0, l1), v2]) (S2 := [(0, nb_rd M l0 2), (0, 0), (0, l1)]) (M2 := M) (t := 2) (cl := 83) (vi := false) rfl (by simp [h1]) (nb_inv_eq (n := 3) rfl rfl rfl rfl rfl rfl (fun h => by cases h) rfl)
theorem q_m_house_2 (l0 l1 s0 : Int) (v2 : nb_V) (M : nb_M) :
    nb_R nb_P 105 2 [(20, l0), (0, l1), v2] [(0, s0)] M = if s0 = 0 then nb_R nb_P 105 3 [(20, l0), (0, l1), v2] [] M else nb_R nb_P 105 5 [(20, l0), (0, l1), v2] [] M :=
  nb_step (c := true) rfl rfl
theorem q_m_house_3 (l0 : Int) (v1 v2 : nb_V) (M : nb_M) (h1 : l0 ≠ 0) :
    nb_R nb_P 105 3 [(20, l0), v1, v2] [] M = (nb_R nb_P 80 0 [(20, l0), (0, 2)] [] M).bind fun r => nb_R nb_P 105 4 [(20, l0), v1, v2] (r.1 ++ []) r.2 :=
  nb_stepC (c := true) (L2 := [(20, l0), v1, v2]) (S2 := [(0, 2), (20, l0)]) (M2 := M) (t := 4) (cl := 80) (vi := true) rfl rfl (nb_inv_eq (n := 2) rfl rfl rfl rfl rfl rfl (fun _ => h1) rfl)
theorem q_m_house_4 (s0 : Int) (v0 v1 v2 : nb_V) (M : nb_M) :
    nb_R nb_P 105 4 [v0, v1, v2] [(0, s0)] M = some ([(0, s0)], M) :=
  nb_step (c := true) rfl rfl
theorem q_m_house_5 (l0 l1 : Int) (v2 : nb_V) (M : nb_M) (h1 : l0 ≠ 0) :
    nb_R nb_P 105 5 [(20, l0), (0, l1), v2] [] M = nb_R nb_P 105 6 [(20, l0), (0, l1), v2] [] (nb_wr M l0 2 0) :=
  nb_step (c := (true && (!decide ((l0 : Int) = 0) && (!false || (decide ((0 : Int) = 0) || decide ((0 : Int) = 1)))))) rfl (by simp [h1])
theorem q_m_house_6 (l0 l1 : Int) (v2 : nb_V) (M : nb_M) (h1 : l0 ≠ 0) :
    nb_R nb_P 105 6 [(20, l0), (0, l1), v2] [] M = nb_R nb_P 105 7 [(20, l0), (0, l1), v2] [] (nb_wr M l0 9 0) :=
  nb_step (c := (true && (!decide ((l0 : Int) = 0) && (!false || (decide ((0 : Int) = 0) || decide ((0 : Int) = 1)))))) rfl (by simp [h1])
theorem q_m_house_7 (l0 l1 : Int) (v2 : nb_V) (M : nb_M) (h1 : l0 ≠ 0) :
    nb_R nb_P 105 7 [(20, l0), (0, l1), v2] [] M = nb_R nb_P 105 8 [(20, l0), (0, l1), v2] [] (nb_wr M l0 13 0) :=
  nb_step (c := (true && (!decide ((l0 : Int) = 0) && (!true || (decide ((0 : Int) = 0) || decide ((0 : Int) = 1)))))) rfl (by simp [h1])
theorem q_m_house_8 (l0 l1 : Int) (v2 : nb_V) (M : nb_M) :
    nb_R nb_P 105 8 [(20, l0), (0, l1), v2] [] M = nb_R nb_P 105 9 [(20, l0), (0, l1), (0, 0)] [] M :=
  nb_step (c := true) rfl rfl
theorem q_m_house_9 (l0 l1 l2 : Int) (M : nb_M) :
    nb_R nb_P 105 9 [(20, l0), (0, l1), (0, l2)] [] M = if l2 < 347 then nb_R nb_P 105 10 [(20, l0), (0, l1), (0, l2)] [] M else nb_R nb_P 105 12 [(20, l0), (0, l1), (0, l2)] [] M :=
  nb_step (c := true) rfl rfl
theorem q_m_house_10 (l0 l1 l2 : Int) (M : nb_M) (h1 : l0 ≠ 0) (h2 : (nb_rd M l0 16) ≠ 0) (h3 : (nb_rd M l0 16) ≠ 1) (h4 : (0 : Int) ≤ l2) (h5 : l2 < nb_ln M (nb_rd M l0 16)) :
    nb_R nb_P 105 10 [(20, l0), (0, l1), (0, l2)] [] M = nb_R nb_P 105 11 [(20, l0), (0, l1), (0, l2)] [] (nb_wr M (nb_rd M l0 16) l2 0) :=
  nb_step (c := ((true && !decide ((l0 : Int) = 0)) && (!decide ((nb_rd M l0 16 : Int) = 0) && (!decide ((nb_rd M l0 16 : Int) = 1) && (decide ((0 : Int) ≤ l2) && decide (l2 < nb_ln M (nb_rd M l0 16))))))) rfl (by simp [h1, h2, h3, h4, h5])
theorem q_m_house_11 (l0 l1 l2 : Int) (M : nb_M) :
    nb_R nb_P 105 11 [(20, l0), (0, l1), (0, l2)] [] M = nb_R nb_P 105 9 [(20, l0), (0, l1), (0, nb_add l2 1)] [] M :=
  nb_step (c := true) rfl rfl
theorem q_m_house_12 (l0 l1 : Int) (v2 : nb_V) (M : nb_M) (h1 : l0 ≠ 0) :
    nb_R nb_P 105 12 [(20, l0), (0, l1), v2] [] M = nb_R nb_P 105 13 [(20, l0), (0, l1), v2] [] (nb_wr M l0 3 l1) :=
  nb_step (c := (true && (!decide ((l0 : Int) = 0) && (!false || (decide ((l1 : Int) = 0) || decide ((l1 : Int) = 1)))))) rfl (by simp [h1])
theorem q_m_house_13 (l0 : Int) (v1 v2 : nb_V) (M : nb_M) (h1 : l0 ≠ 0) :
    nb_R nb_P 105 13 [(20, l0), v1, v2] [] M = nb_R nb_P 105 14 [(20, l0), v1, v2] [] (nb_wr M l0 5 0) :=
  nb_step (c := (true && (!decide ((l0 : Int) = 0) && (!false || (decide ((0 : Int) = 0) || decide ((0 : Int) = 1)))))) rfl (by simp [h1])
theorem q_m_house_14 (l0 : Int) (v1 v2 : nb_V) (M : nb_M) (h1 : l0 ≠ 0) :
    nb_R nb_P 105 14 [(20, l0), v1, v2] [] M = (nb_R nb_P 91 0 [(20, l0), (98, 0), (98, 0), (98, 0)] [] M).bind fun r => nb_R nb_P 105 15 [(20, l0), v1, v2] (r.1 ++ []) r.2 :=
  nb_stepC (c := true) (L2 := [(20, l0), v1, v2]) (S2 := [(20, l0)]) (M2 := M) (t := 15) (cl := 91) (vi := true) rfl rfl (nb_inv_eq (n := 1) rfl rfl rfl rfl rfl rfl (fun _ => h1) rfl)
theorem q_m_house_15 (l0 : Int) (v1 v2 : nb_V) (M : nb_M) (h1 : l0 ≠ 0) :
    nb_R nb_P 105 15 [(20, l0), v1, v2] [] M = (nb_R nb_P 107 0 [(20, l0)] [] M).bind fun r => nb_R nb_P 105 16 [(20, l0), v1, v2] (r.1 ++ []) r.2 :=
  nb_stepC (c := true) (L2 := [(20, l0), v1, v2]) (S2 := [(20, l0)]) (M2 := M) (t := 16) (cl := 107) (vi := true) rfl rfl (nb_inv_eq (n := 1) rfl rfl rfl rfl rfl rfl (fun _ => h1) rfl)
theorem q_m_house_16 (l0 : Int) (v1 v2 : nb_V) (M : nb_M) (h1 : l0 ≠ 0) :
    nb_R nb_P 105 16 [(20, l0), v1, v2] [] M = if nb_rd M l0 13 = 0 then nb_R nb_P 105 17 [(20, l0), v1, v2] [] M else nb_R nb_P 105 21 [(20, l0), v1, v2] [] M :=
  nb_step (c := (true && !decide ((l0 : Int) = 0))) rfl (by simp [h1])
theorem q_m_house_17 (l0 : Int) (v1 v2 : nb_V) (M : nb_M) (h1 : l0 ≠ 0) :
    nb_R nb_P 105 17 [(20, l0), v1, v2] [] M = if nb_rd M l0 6 = 59 then nb_R nb_P 105 18 [(20, l0), v1, v2] [] M else nb_R nb_P 105 21 [(20, l0), v1, v2] [] M :=
  nb_step (c := (true && !decide ((l0 : Int) = 0))) rfl (by simp [h1])
theorem q_m_house_18 (l0 : Int) (v1 v2 : nb_V) (M : nb_M) (h1 : l0 ≠ 0) :
    nb_R nb_P 105 18 [(20, l0), v1, v2] [] M = (nb_R nb_P 91 0 [(20, l0), (98, 0), (98, 0), (98, 0)] [] M).bind fun r => nb_R nb_P 105 19 [(20, l0), v1, v2] (r.1 ++ []) r.2 :=
  nb_stepC (c := true) (L2 := [(20, l0), v1, v2]) (S2 := [(20, l0)]) (M2 := M) (t := 19) (cl := 91) (vi := true) rfl rfl (nb_inv_eq (n := 1) rfl rfl rfl rfl rfl rfl (fun _ => h1) rfl)
theorem q_m_house_19 (l0 : Int) (v1 v2 : nb_V) (M : nb_M) (h1 : l0 ≠ 0) :
    nb_R nb_P 105 19 [(20, l0), v1, v2] [] M = (nb_R nb_P 107 0 [(20, l0)] [] M).bind fun r => nb_R nb_P 105 20 [(20, l0), v1, v2] (r.1 ++ []) r.2 :=
  nb_stepC (c := true) (L2 := [(20, l0), v1, v2]) (S2 := [(20, l0)]) (M2 := M) (t := 20) (cl := 107) (vi := true) rfl rfl (nb_inv_eq (n := 1) rfl rfl rfl rfl rfl rfl (fun _ => h1) rfl)
theorem q_m_house_20 (l0 : Int) (v1 v2 : nb_V) (M : nb_M) :
    nb_R nb_P 105 20 [(20, l0), v1, v2] [] M = nb_R nb_P 105 16 [(20, l0), v1, v2] [] M :=
  nb_step (c := true) rfl rfl
theorem q_m_house_21 (l0 : Int) (v1 v2 : nb_V) (M : nb_M) (h1 : l0 ≠ 0) :
    nb_R nb_P 105 21 [(20, l0), v1, v2] [] M = if nb_rd M l0 13 = 0 then nb_R nb_P 105 22 [(20, l0), v1, v2] [] M else nb_R nb_P 105 24 [(20, l0), v1, v2] [] M :=
  nb_step (c := (true && !decide ((l0 : Int) = 0))) rfl (by simp [h1])
theorem q_m_house_22 (l0 : Int) (v1 v2 : nb_V) (M : nb_M) (h1 : l0 ≠ 0) :
    nb_R nb_P 105 22 [(20, l0), v1, v2] [] M = if nb_rd M l0 6 = 0 then nb_R nb_P 105 24 [(20, l0), v1, v2] [] M else nb_R nb_P 105 23 [(20, l0), v1, v2] [] M :=
  nb_step (c := (true && !decide ((l0 : Int) = 0))) rfl (by simp [h1])
theorem q_m_house_23 (l0 : Int) (v1 v2 : nb_V) (M : nb_M) (h1 : l0 ≠ 0) :
    nb_R nb_P 105 23 [(20, l0), v1, v2] [] M = (nb_R nb_P 92 0 [(20, l0), (0, 1), (0, nb_rd M l0 4)] [] M).bind fun r => nb_R nb_P 105 24 [(20, l0), v1, v2] (r.1 ++ []) r.2 :=
  nb_stepC (c := (true && !decide ((l0 : Int) = 0))) (L2 := [(20, l0), v1, v2]) (S2 := [(0, nb_rd M l0 4), (0, 1), (20, l0)]) (M2 := M) (t := 24) (cl := 92) (vi := true) rfl (by simp [h1]) (nb_inv_eq (n := 3) rfl rfl rfl rfl rfl rfl (fun _ => h1) rfl)
theorem q_m_house_24 (l0 : Int) (v1 v2 : nb_V) (M : nb_M) (h1 : l0 ≠ 0) :
    nb_R nb_P 105 24 [(20, l0), v1, v2] [] M = if nb_rd M l0 13 = 0 then nb_R nb_P 105 25 [(20, l0), v1, v2] [] M else nb_R nb_P 105 30 [(20, l0), v1, v2] [] M :=
  nb_step (c := (true && !decide ((l0 : Int) = 0))) rfl (by simp [h1])
theorem q_m_house_25 (l0 : Int) (v1 v2 : nb_V) (M : nb_M) (h1 : l0 ≠ 0) (h2 : (nb_rd M l0 16) ≠ 0) (h3 : (0 : Int) ≤ 0) (h4 : 0 < nb_ln M (nb_rd M l0 16)) :
    nb_R nb_P 105 25 [(20, l0), v1, v2] [] M = if nb_rd M (nb_rd M l0 16) 0 = 0 then nb_R nb_P 105 29 [(20, l0), v1, v2] [] M else nb_R nb_P 105 26 [(20, l0), v1, v2] [] M :=
  nb_step (c := ((true && !decide ((l0 : Int) = 0)) && (!decide ((nb_rd M l0 16 : Int) = 0) && (decide ((0 : Int) ≤ 0) && decide (0 < nb_ln M (nb_rd M l0 16)))))) rfl (by simp [h1, h2, h3, h4])
theorem q_m_house_26 (l0 : Int) (v1 v2 : nb_V) (M : nb_M) (h1 : l0 ≠ 0) (h2 : (nb_rd M l0 16) ≠ 0) (h3 : (0 : Int) ≤ 3) (h4 : 3 < nb_ln M (nb_rd M l0 16)) :
    nb_R nb_P 105 26 [(20, l0), v1, v2] [] M = if nb_rd M (nb_rd M l0 16) 3 = 0 then nb_R nb_P 105 29 [(20, l0), v1, v2] [] M else nb_R nb_P 105 27 [(20, l0), v1, v2] [] M :=
  nb_step (c := ((true && !decide ((l0 : Int) = 0)) && (!decide ((nb_rd M l0 16 : Int) = 0) && (decide ((0 : Int) ≤ 3) && decide (3 < nb_ln M (nb_rd M l0 16)))))) rfl (by simp [h1, h2, h3, h4])
theorem q_m_house_27 (l0 : Int) (v1 v2 : nb_V) (M : nb_M) (h1 : l0 ≠ 0) (h2 : (nb_rd M l0 16) ≠ 0) (h3 : (0 : Int) ≤ 4) (h4 : 4 < nb_ln M (nb_rd M l0 16)) :
    nb_R nb_P 105 27 [(20, l0), v1, v2] [] M = if nb_rd M (nb_rd M l0 16) 4 = 0 then nb_R nb_P 105 29 [(20, l0), v1, v2] [] M else nb_R nb_P 105 28 [(20, l0), v1, v2] [] M :=
  nb_step (c := ((true && !decide ((l0 : Int) = 0)) && (!decide ((nb_rd M l0 16 : Int) = 0) && (decide ((0 : Int) ≤ 4) && decide (4 < nb_ln M (nb_rd M l0 16)))))) rfl (by simp [h1, h2, h3, h4])
theorem q_m_house_28 (l0 : Int) (v1 v2 : nb_V) (M : nb_M) (h1 : l0 ≠ 0) (h2 : (nb_rd M l0 16) ≠ 0) (h3 : (0 : Int) ≤ 5) (h4 : 5 < nb_ln M (nb_rd M l0 16)) :
    nb_R nb_P 105 28 [(20, l0), v1, v2] [] M = if nb_rd M (nb_rd M l0 16) 5 = 0 then nb_R nb_P 105 29 [(20, l0), v1, v2] [] M else nb_R nb_P 105 30 [(20, l0), v1, v2] [] M :=
  nb_step (c := ((true && !decide ((l0 : Int) = 0)) && (!decide ((nb_rd M l0 16 : Int) = 0) && (decide ((0 : Int) ≤ 5) && decide (5 < nb_ln M (nb_rd M l0 16)))))) rfl (by simp [h1, h2, h3, h4])
theorem q_m_house_29 (l0 : Int) (v1 v2 : nb_V) (M : nb_M) (h1 : l0 ≠ 0) :
    nb_R nb_P 105 29 [(20, l0), v1, v2] [] M = (nb_R nb_P 92 0 [(20, l0), (0, 6), (0, nb_rd M l0 4)] [] M).bind fun r => nb_R nb_P 105 30 [(20, l0), v1, v2] (r.1 ++ []) r.2 :=
  nb_stepC (c := (true && !decide ((l0 : Int) = 0))) (L2 := [(20, l0), v1, v2]) (S2 := [(0, nb_rd M l0 4), (0, 6), (20, l0)]) (M2 := M) (t := 30) (cl := 92) (vi := true) rfl (by simp [h1]) (nb_inv_eq (n := 3) rfl rfl rfl rfl rfl rfl (fun _ => h1) rfl)
theorem q_m_house_30 (l0 : Int) (v1 v2 : nb_V) (M : nb_M) (h1 : l0 ≠ 0) :
    nb_R nb_P 105 30 [(20, l0), v1, v2] [] M = if nb_rd M l0 13 = 0 then nb_R nb_P 105 33 [(20, l0), v1, v2] [] M else nb_R nb_P 105 31 [(20, l0), v1, v2] [] M :=
  nb_step (c := (true && !decide ((l0 : Int) = 0))) rfl (by simp [h1])
theorem q_m_house_31 (l0 : Int) (v1 v2 : nb_V) (M : nb_M) (h1 : l0 ≠ 0) :
    nb_R nb_P 105 31 [(20, l0), v1, v2] [] M = (nb_R nb_P 80 0 [(20, l0), (0, 4)] [] M).bind fun r => nb_R nb_P 105 32 [(20, l0), v1, v2] (r.1 ++ []) r.2 :=
  nb_stepC (c := true) (L2 := [(20, l0), v1, v2]) (S2 := [(0, 4), (20, l0)]) (M2 := M) (t := 32) (cl := 80) (vi := true) rfl rfl (nb_inv_eq (n := 2) rfl rfl rfl rfl rfl rfl (fun _ => h1) rfl)
theorem q_m_house_32 (s0 : Int) (v0 v1 v2 : nb_V) (M : nb_M) :
    nb_R nb_P 105 32 [v0, v1, v2] [(0, s0)] M = some ([(0, s0)], M) :=
  nb_step (c := true) rfl rfl
theorem q_m_house_33 (l0 : Int) (v1 v2 : nb_V) (M : nb_M) (h1 : l0 ≠ 0) :
    nb_R nb_P 105 33 [(20, l0), v1, v2] [] M = (nb_R nb_P 86 0 [(3, nb_rd M l0 16), (0, 0), (3, nb_rd M l0 15), (0, 0), (0, 347), (98, 0)] [] M).bind fun r => nb_R nb_P 105 34 [(20, l0), v1, v2] (r.1 ++ []) r.2 :=
  nb_stepC (c := ((true && !decide ((l0 : Int) = 0)) && !decide ((l0 : Int) = 0))) (L2 := [(20, l0), v1, v2]) (S2 := [(0, 347), (0, 0), (3, nb_rd M l0 15), (0, 0), (3, nb_rd M l0 16)]) (M2 := M) (t := 34) (cl := 86) (vi := false) rfl (by simp [h1]) (nb_inv_eq (n := 5) rfl rfl rfl rfl rfl rfl (fun h => by cases h) rfl)
theorem q_m_house_34 (l0 : Int) (v1 v2 : nb_V) (M : nb_M) (h1 : l0 ≠ 0) :
    nb_R nb_P 105 34 [(20, l0), v1, v2] [] M = nb_R nb_P 105 35 [(20, l0), v1, v2] [] (nb_wr M l0 14 1) :=
  nb_step (c := (true && (!decide ((l0 : Int) = 0) && (!true || (decide ((1 : Int) = 0) || decide ((1 : Int) = 1)))))) rfl (by simp [h1])
theorem q_m_house_35 (l0 : Int) (v1 v2 : nb_V) (M : nb_M) (h1 : l0 ≠ 0) :
    nb_R nb_P 105 35 [(20, l0), v1, v2] [] M = nb_R nb_P 105 36 [(20, l0), v1, v2] [] (nb_wr M l0 21 0) :=
  nb_step (c := (true && (!decide ((l0 : Int) = 0) && (!false || (decide ((0 : Int) = 0) || decide ((0 : Int) = 1)))))) rfl (by simp [h1])
theorem q_m_house_36 (l0 : Int) (v1 v2 : nb_V) (M : nb_M) (h1 : l0 ≠ 0) :
    nb_R nb_P 105 36 [(20, l0), v1, v2] [] M = nb_R nb_P 105 37 [(20, l0), v1, v2] [] (nb_wr M l0 22 0) :=
  nb_step (c := (true && (!decide ((l0 : Int) = 0) && (!false || (decide ((0 : Int) = 0) || decide ((0 : Int) = 1)))))) rfl (by simp [h1])
theorem q_m_house_37 (l0 : Int) (v1 v2 : nb_V) (M : nb_M) (h1 : l0 ≠ 0) :
    nb_R nb_P 105 37 [(20, l0), v1, v2] [] M = (nb_R nb_P 121 0 [(20, l0)] [] M).bind fun r => nb_R nb_P 105 38 [(20, l0), v1, v2] (r.1 ++ []) r.2 :=
  nb_stepC (c := true) (L2 := [(20, l0), v1, v2]) (S2 := [(20, l0)]) (M2 := M) (t := 38) (cl := 121) (vi := true) rfl rfl (nb_inv_eq (n := 1) rfl rfl rfl rfl rfl rfl (fun _ => h1) rfl)
theorem q_m_house_38 (l0 : Int) (v1 v2 : nb_V) (M : nb_M) (h1 : l0 ≠ 0) :
    nb_R nb_P 105 38 [(20, l0), v1, v2] [] M = (nb_R nb_P 124 0 [(20, l0), (3, nb_rd M l0 17), (98, 0), (98, 0)] [] M).bind fun r => nb_R nb_P 105 39 [(20, l0), v1, v2] (r.1 ++ []) r.2 :=
  nb_stepC (c := (true && !decide ((l0 : Int) = 0))) (L2 := [(20, l0), v1, v2]) (S2 := [(3, nb_rd M l0 17), (20, l0)]) (M2 := M) (t := 39) (cl := 124) (vi := true) rfl (by simp [h1]) (nb_inv_eq (n := 2) rfl rfl rfl rfl rfl rfl (fun _ => h1) rfl)
theorem q_m_house_39 (l0 : Int) (v1 v2 : nb_V) (M : nb_M) (h1 : l0 ≠ 0) (h2 : (nb_rd M l0 15) ≠ 0) (h3 : (0 : Int) ≤ 5) (h4 : 5 < nb_ln M (nb_rd M l0 15)) :
    nb_R nb_P 105 39 [(20, l0), v1, v2] [] M = some ([(0, nb_rd M (nb_rd M l0 15) 5)], M) :=
  nb_step (c := ((true && !decide ((l0 : Int) = 0)) && (!decide ((nb_rd M l0 15 : Int) = 0) && (decide ((0 : Int) ≤ 5) && decide (5 < nb_ln M (nb_rd M l0 15)))))) rfl (by simp [h1, h2, h3, h4])
theorem q_m_readLine_0 (l0 : Int) (M : nb_M) (h1 : l0 ≠ 0) :
    nb_R nb_P 107 0 [(20, l0)] [] M = (nb_R nb_P 93 0 [(20, l0), (2, 1), (98, 0), (98, 0)] [] M).bind fun r => nb_R nb_P 107 1 [(20, l0)] (r.1 ++ []) r.2 :=
  nb_stepC (c := true) (L2 := [(20, l0)]) (S2 := [(2, 1), (20, l0)]) (M2 := M) (t := 1) (cl := 93) (vi := true) rfl rfl (nb_inv_eq (n := 2) rfl rfl rfl rfl rfl rfl (fun _ => h1) rfl)
theorem q_m_readLine_1 (l0 s0 : Int) (M : nb_M) :
    nb_R nb_P 107 1 [(20, l0)] [(0, s0)] M = if s0 = 0 then nb_R nb_P 107 4 [(20, l0)] [] M else nb_R nb_P 107 2 [(20, l0)] [] M :=
  nb_step (c := true) rfl rfl
theorem q_m_readLine_2 (l0 : Int) (M : nb_M) (h1 : l0 ≠ 0) :
    nb_R nb_P 107 2 [(20, l0)] [] M = (nb_R nb_P 108 0 [(20, l0)] [] M).bind fun r => nb_R nb_P 107 3 [(20, l0)] (r.1 ++ []) r.2 :=
  nb_stepC (c := true) (L2 := [(20, l0)]) (S2 := [(20, l0)]) (M2 := M) (t := 3) (cl := 108) (vi := true) rfl rfl (nb_inv_eq (n := 1) rfl rfl rfl rfl rfl rfl (fun _ => h1) rfl)
theorem q_m_readLine_3 (v0 : nb_V) (M : nb_M) :
    nb_R nb_P 107 3 [v0] [] M = nb_R nb_P 107 37 [v0] [] M :=
  nb_step (c := true) rfl rfl
theorem q_m_readLine_4 (l0 : Int) (M : nb_M) (h1 : l0 ≠ 0) (h2 : (nb_rd M l0 16) ≠ 0) (h3 : (0 : Int) ≤ 3) (h4 : 3 < nb_ln M (nb_rd M l0 16)) :
    nb_R nb_P 107 4 [(20, l0)] [] M = if nb_rd M (nb_rd M l0 16) 3 < 5 then nb_R nb_P 107 5 [(20, l0)] [(2, 2), (20, l0)] M else nb_R nb_P 107 6 [(20, l0)] [(2, 2), (20, l0)] M :=
  nb_step (c := ((true && !decide ((l0 : Int) = 0)) && (!decide ((nb_rd M l0 16 : Int) = 0) && (decide ((0 : Int) ≤ 3) && decide (3 < nb_ln M (nb_rd M l0 16)))))) rfl (by simp [h1, h2, h3, h4])
theorem q_m_readLine_5 (l0 s0 s1 : Int) (M : nb_M) :
    nb_R nb_P 107 5 [(20, l0)] [(2, s0), (20, s1)] M = nb_R nb_P 107 7 [(20, l0)] [(0, 1), (2, s0), (20, s1)] M :=
  nb_step (c := true) rfl rfl
theorem q_m_readLine_6 (l0 s0 s1 : Int) (M : nb_M) :
    nb_R nb_P 107 6 [(20, l0)] [(2, s0), (20, s1)] M = nb_R nb_P 107 7 [(20, l0)] [(0, 0), (2, s0), (20, s1)] M :=
  nb_step (c := true) rfl rfl
theorem q_m_readLine_7 (l0 s0 s1 s2 : Int) (M : nb_M) (h1 : s2 ≠ 0) :
    nb_R nb_P 107 7 [(20, l0)] [(0, s0), (2, s1), (20, s2)] M = (nb_R nb_P 106 0 [(20, s2), (2, s1), (0, s0)] [] M).bind fun r => nb_R nb_P 107 8 [(20, l0)] (r.1 ++ []) r.2 :=
  nb_stepC (c := true) (L2 := [(20, l0)]) (S2 := [(0, s0), (2, s1), (20, s2)]) (M2 := M) (t := 8) (cl := 106) (vi := true) rfl rfl (nb_inv_eq (n := 3) rfl rfl rfl rfl rfl rfl (fun _ => h1) rfl)
theorem q_m_readLine_8 (l0 s0 : Int) (M : nb_M) :
    nb_R nb_P 107 8 [(20, l0)] [(0, s0)] M = if s0 = 0 then nb_R nb_P 107 11 [(20, l0)] [] M else nb_R nb_P 107 9 [(20, l0)] [] M :=
  nb_step (c := true) rfl rfl
theorem q_m_readLine_9 (l0 : Int) (M : nb_M) (h1 : l0 ≠ 0) :
    nb_R nb_P 107 9 [(20, l0)] [] M = (nb_R nb_P 109 0 [(20, l0), (98, 0)] [] M).bind fun r => nb_R nb_P 107 10 [(20, l0)] (r.1 ++ []) r.2 :=
  nb_stepC (c := true) (L2 := [(20, l0)]) (S2 := [(20, l0)]) (M2 := M) (t := 10) (cl := 109) (vi := true) rfl rfl (nb_inv_eq (n := 1) rfl rfl rfl rfl rfl rfl (fun _ => h1) rfl)
theorem q_m_readLine_10 (v0 : nb_V) (M : nb_M) :
    nb_R nb_P 107 10 [v0] [] M = nb_R nb_P 107 37 [v0] [] M :=
  nb_step (c := true) rfl rfl
theorem q_m_readLine_11 (l0 : Int) (M : nb_M) (h1 : l0 ≠ 0) (h2 : (nb_rd M l0 16) ≠ 0) (h3 : (0 : Int) ≤ 4) (h4 : 4 < nb_ln M (nb_rd M l0 16)) :
    nb_R nb_P 107 11 [(20, l0)] [] M = if nb_rd M (nb_rd M l0 16) 4 < 3 then nb_R nb_P 107 12 [(20, l0)] [(2, 3), (20, l0)] M else nb_R nb_P 107 13 [(20, l0)] [(2, 3), (20, l0)] M :=
  nb_step (c := ((true && !decide ((l0 : Int) = 0)) && (!decide ((nb_rd M l0 16 : Int) = 0) && (decide ((0 : Int) ≤ 4) && decide (4 < nb_ln M (nb_rd M l0 16)))))) rfl (by simp [h1, h2, h3, h4])
theorem q_m_readLine_12 (l0 s0 s1 : Int) (M : nb_M) :
    nb_R nb_P 107 12 [(20, l0)] [(2, s0), (20, s1)] M = nb_R nb_P 107 14 [(20, l0)] [(0, 1), (2, s0), (20, s1)] M :=
  nb_step (c := true) rfl rfl
theorem q_m_readLine_13 (l0 s0 s1 : Int) (M : nb_M) :
    nb_R nb_P 107 13 [(20, l0)] [(2, s0), (20, s1)] M = nb_R nb_P 107 14 [(20, l0)] [(0, 0), (2, s0), (20, s1)] M :=
  nb_step (c := true) rfl rfl
theorem q_m_readLine_14 (l0 s0 s1 s2 : Int) (M : nb_M) (h1 : s2 ≠ 0) :
    nb_R nb_P 107 14 [(20, l0)] [(0, s0), (2, s1), (20, s2)] M = (nb_R nb_P 106 0 [(20, s2), (2, s1), (0, s0)] [] M).bind fun r => nb_R nb_P 107 15 [(20, l0)] (r.1 ++ []) r.2 :=
  nb_stepC (c := true) (L2 := [(20, l0)]) (S2 := [(0, s0), (2, s1), (20, s2)]) (M2 := M) (t := 15) (cl := 106) (vi := true) rfl rfl (nb_inv_eq (n := 3) rfl rfl rfl rfl rfl rfl (fun _ => h1) rfl)
theorem q_m_readLine_15 (l0 s0 : Int) (M : nb_M) :
    nb_R nb_P 107 15 [(20, l0)] [(0, s0)] M = if s0 = 0 then nb_R nb_P 107 18 [(20, l0)] [] M else nb_R nb_P 107 16 [(20, l0)] [] M :=
  nb_step (c := true) rfl rfl
theorem q_m_readLine_16 (l0 : Int) (M : nb_M) (h1 : l0 ≠ 0) :
    nb_R nb_P 107 16 [(20, l0)] [] M = (nb_R nb_P 110 0 [(20, l0), (98, 0), (98, 0)] [] M).bind fun r => nb_R nb_P 107 17 [(20, l0)] (r.1 ++ []) r.2 :=
  nb_stepC (c := true) (L2 := [(20, l0)]) (S2 := [(20, l0)]) (M2 := M) (t := 17) (cl := 110) (vi := true) rfl rfl (nb_inv_eq (n := 1) rfl rfl rfl rfl rfl rfl (fun _ => h1) rfl)
theorem q_m_readLine_17 (v0 : nb_V) (M : nb_M) :
    nb_R nb_P 107 17 [v0] [] M = nb_R nb_P 107 37 [v0] [] M :=
  nb_step (c := true) rfl rfl
theorem q_m_readLine_18 (l0 : Int) (M : nb_M) (h1 : l0 ≠ 0) (h2 : (nb_rd M l0 16) ≠ 0) (h3 : (0 : Int) ≤ 5) (h4 : 5 < nb_ln M (nb_rd M l0 16)) :
    nb_R nb_P 107 18 [(20, l0)] [] M = if nb_rd M (nb_rd M l0 16) 5 < 10 then nb_R nb_P 107 19 [(20, l0)] [(2, 4), (20, l0)] M else nb_R nb_P 107 20 [(20, l0)] [(2, 4), (20, l0)] M :=
  nb_step (c := ((true && !decide ((l0 : Int) = 0)) && (!decide ((nb_rd M l0 16 : Int) = 0) && (decide ((0 : Int) ≤ 5) && decide (5 < nb_ln M (nb_rd M l0 16)))))) rfl (by simp [h1, h2, h3, h4])
theorem q_m_readLine_19 (l0 s0 s1 : Int) (M : nb_M) :
    nb_R nb_P 107 19 [(20, l0)] [(2, s0), (20, s1)] M = nb_R nb_P 107 21 [(20, l0)] [(0, 1), (2, s0), (20, s1)] M :=
  nb_step (c := true) rfl rfl
theorem q_m_readLine_20 (l0 s0 s1 : Int) (M : nb_M) :
    nb_R nb_P 107 20 [(20, l0)] [(2, s0), (20, s1)] M = nb_R nb_P 107 21 [(20, l0)] [(0, 0), (2, s0), (20, s1)] M :=
  nb_step (c := true) rfl rfl
theorem q_m_readLine_21 (l0 s0 s1 s2 : Int) (M : nb_M) (h1 : s2 ≠ 0) :
    nb_R nb_P 107 21 [(20, l0)] [(0, s0), (2, s1), (20, s2)] M = (nb_R nb_P 106 0 [(20, s2), (2, s1), (0, s0)] [] M).bind fun r => nb_R nb_P 107 22 [(20, l0)] (r.1 ++ []) r.2 :=
  nb_stepC (c := true) (L2 := [(20, l0)]) (S2 := [(0, s0), (2, s1), (20, s2)]) (M2 := M) (t := 22) (cl := 106) (vi := true) rfl rfl (nb_inv_eq (n := 3) rfl rfl rfl rfl rfl rfl (fun _ => h1) rfl)
theorem q_m_readLine_22 (l0 s0 : Int) (M : nb_M) :
    nb_R nb_P 107 22 [(20, l0)] [(0, s0)] M = if s0 = 0 then nb_R nb_P 107 25 [(20, l0)] [] M else nb_R nb_P 107 23 [(20, l0)] [] M :=
  nb_step (c := true) rfl rfl
theorem q_m_readLine_23 (l0 : Int) (M : nb_M) (h1 : l0 ≠ 0) :
    nb_R nb_P 107 23 [(20, l0)] [] M = (nb_R nb_P 111 0 [(20, l0), (98, 0), (98, 0), (98, 0), (98, 0), (98, 0), (98, 0)] [] M).bind fun r => nb_R nb_P 107 24 [(20, l0)] (r.1 ++ []) r.2 :=
  nb_stepC (c := true) (L2 := [(20, l0)]) (S2 := [(20, l0)]) (M2 := M) (t := 24) (cl := 111) (vi := true) rfl rfl (nb_inv_eq (n := 1) rfl rfl rfl rfl rfl rfl (fun _ => h1) rfl)
theorem q_m_readLine_24 (v0 : nb_V) (M : nb_M) :
    nb_R nb_P 107 24 [v0] [] M = nb_R nb_P 107 37 [v0] [] M :=
  nb_step (c := true) rfl rfl
theorem q_m_readLine_25 (l0 : Int) (M : nb_M) (h1 : l0 ≠ 0) :
    nb_R nb_P 107 25 [(20, l0)] [] M = (nb_R nb_P 106 0 [(20, l0), (2, 5), (0, 1)] [] M).bind fun r => nb_R nb_P 107 26 [(20, l0)] (r.1 ++ []) r.2 :=
  nb_stepC (c := true) (L2 := [(20, l0)]) (S2 := [(0, 1), (2, 5), (20, l0)]) (M2 := M) (t := 26) (cl := 106) (vi := true) rfl rfl (nb_inv_eq (n := 3) rfl rfl rfl rfl rfl rfl (fun _ => h1) rfl)
theorem q_m_readLine_26 (l0 s0 : Int) (M : nb_M) :
    nb_R nb_P 107 26 [(20, l0)] [(0, s0)] M = if s0 = 0 then nb_R nb_P 107 29 [(20, l0)] [] M else nb_R nb_P 107 27 [(20, l0)] [] M :=
  nb_step (c := true) rfl rfl
theorem q_m_readLine_27 (l0 : Int) (M : nb_M) (h1 : l0 ≠ 0) :
    nb_R nb_P 107 27 [(20, l0)] [] M = (nb_R nb_P 112 0 [(20, l0), (98, 0), (98, 0)] [] M).bind fun r => nb_R nb_P 107 28 [(20, l0)] (r.1 ++ []) r.2 :=
  nb_stepC (c := true) (L2 := [(20, l0)]) (S2 := [(20, l0)]) (M2 := M) (t := 28) (cl := 112) (vi := true) rfl rfl (nb_inv_eq (n := 1) rfl rfl rfl rfl rfl rfl (fun _ => h1) rfl)
theorem q_m_readLine_28 (v0 : nb_V) (M : nb_M) :
    nb_R nb_P 107 28 [v0] [] M = nb_R nb_P 107 37 [v0] [] M :=
  nb_step (c := true) rfl rfl
theorem q_m_readLine_29 (l0 : Int) (M : nb_M) (h1 : l0 ≠ 0) (h2 : (nb_rd M l0 16) ≠ 0) (h3 : (0 : Int) ≤ 7) (h4 : 7 < nb_ln M (nb_rd M l0 16)) :
    nb_R nb_P 107 29 [(20, l0)] [] M = if nb_rd M (nb_rd M l0 16) 7 < 8 then nb_R nb_P 107 30 [(20, l0)] [(2, 6), (20, l0)] M else nb_R nb_P 107 31 [(20, l0)] [(2, 6), (20, l0)] M :=
  nb_step (c := ((true && !decide ((l0 : Int) = 0)) && (!decide ((nb_rd M l0 16 : Int) = 0) && (decide ((0 : Int) ≤ 7) && decide (7 < nb_ln M (nb_rd M l0 16)))))) rfl (by simp [h1, h2, h3, h4])
theorem q_m_readLine_30 (l0 s0 s1 : Int) (M : nb_M) :
    nb_R nb_P 107 30 [(20, l0)] [(2, s0), (20, s1)] M = nb_R nb_P 107 32 [(20, l0)] [(0, 1), (2, s0), (20, s1)] M :=
  nb_step (c := true) rfl rfl
theorem q_m_readLine_31 (l0 s0 s1 : Int) (M : nb_M) :
    nb_R nb_P 107 31 [(20, l0)] [(2, s0), (20, s1)] M = nb_R nb_P 107 32 [(20, l0)] [(0, 0), (2, s0), (20, s1)] M :=
  nb_step (c := true) rfl rfl
theorem q_m_readLine_32 (l0 s0 s1 s2 : Int) (M : nb_M) (h1 : s2 ≠ 0) :
    nb_R nb_P 107 32 [(20, l0)] [(0, s0), (2, s1), (20, s2)] M = (nb_R nb_P 106 0 [(20, s2), (2, s1), (0, s0)] [] M).bind fun r => nb_R nb_P 107 33 [(20, l0)] (r.1 ++ []) r.2 :=
  nb_stepC (c := true) (L2 := [(20, l0)]) (S2 := [(0, s0), (2, s1), (20, s2)]) (M2 := M) (t := 33) (cl := 106) (vi := true) rfl rfl (nb_inv_eq (n := 3) rfl rfl rfl rfl rfl rfl (fun _ => h1) rfl)
theorem q_m_readLine_33 (l0 s0 : Int) (M : nb_M) :
    nb_R nb_P 107 33 [(20, l0)] [(0, s0)] M = if s0 = 0 then nb_R nb_P 107 36 [(20, l0)] [] M else nb_R nb_P 107 34 [(20, l0)] [] M :=
  nb_step (c := true) rfl rfl
theorem q_m_readLine_34 (l0 : Int) (M : nb_M) (h1 : l0 ≠ 0) :
    nb_R nb_P 107 34 [(20, l0)] [] M = (nb_R nb_P 113 0 [(20, l0), (98, 0), (98, 0)] [] M).bind fun r => nb_R nb_P 107 35 [(20, l0)] (r.1 ++ []) r.2 :=
  nb_stepC (c := true) (L2 := [(20, l0)]) (S2 := [(20, l0)]) (M2 := M) (t := 35) (cl := 113) (vi := true) rfl rfl (nb_inv_eq (n := 1) rfl rfl rfl rfl rfl rfl (fun _ => h1) rfl)
theorem q_m_readLine_35 (v0 : nb_V) (M : nb_M) :
    nb_R nb_P 107 35 [v0] [] M = nb_R nb_P 107 37 [v0] [] M :=
  nb_step (c := true) rfl rfl
theorem q_m_readLine_36 (l0 : Int) (M : nb_M) (h1 : l0 ≠ 0) :
    nb_R nb_P 107 36 [(20, l0)] [] M = (nb_R nb_P 92 0 [(20, l0), (0, 1), (0, nb_rd M l0 4)] [] M).bind fun r => nb_R nb_P 107 37 [(20, l0)] (r.1 ++ []) r.2 :=
  nb_stepC (c := (true && !decide ((l0 : Int) = 0))) (L2 := [(20, l0)]) (S2 := [(0, nb_rd M l0 4), (0, 1), (20, l0)]) (M2 := M) (t := 37) (cl := 92) (vi := true) rfl (by simp [h1]) (nb_inv_eq (n := 3) rfl rfl rfl rfl rfl rfl (fun _ => h1) rfl)
theorem q_m_readLine_37 (v0 : nb_V) (M : nb_M) :
    nb_R nb_P 107 37 [v0] [] M = some ([], M) :=
  nb_step (c := true) rfl rfl
theorem q_m_drinkLine_0 (l0 : Int) (v1 : nb_V) (M : nb_M) (h1 : l0 ≠ 0) :
    nb_R nb_P 109 0 [(20, l0), v1] [] M = if nb_rd M l0 13 = 0 then nb_R nb_P 109 2 [(20, l0), v1] [] M else nb_R nb_P 109 1 [(20, l0), v1] [] M :=
  nb_step (c := (true && !decide ((l0 : Int) = 0))) rfl (by simp [h1])
theorem q_m_drinkLine_1 (v0 v1 : nb_V) (M : nb_M) :
    nb_R nb_P 109 1 [v0, v1] [] M = some ([], M) :=
  nb_step (c := true) rfl rfl
theorem q_m_drinkLine_2 (l0 : Int) (v1 : nb_V) (M : nb_M) (h1 : l0 ≠ 0) (h2 : (nb_rd M l0 16) ≠ 0) (h3 : (0 : Int) ≤ 3) (h4 : 3 < nb_ln M (nb_rd M l0 16)) :
    nb_R nb_P 109 2 [(20, l0), v1] [] M = (nb_R nb_P 98 0 [(20, l0), (0, nb_rd M (nb_rd M l0 16) 3), (98, 0)] [] M).bind fun r => nb_R nb_P 109 3 [(20, l0), (0, nb_add 8 (nb_mul 3 (nb_rd M (nb_rd M l0 16) 3)))] (r.1 ++ []) r.2 :=
  nb_stepC (c := ((((true && !decide ((l0 : Int) = 0)) && (!decide ((nb_rd M l0 16 : Int) = 0) && (decide ((0 : Int) ≤ 3) && decide (3 < nb_ln M (nb_rd M l0 16))))) && !decide ((l0 : Int) = 0)) && (!decide ((nb_rd M l0 16 : Int) = 0) && (decide ((0 : Int) ≤ 3) && decide (3 < nb_ln M (nb_rd M l0 16)))))) (L2 := [(20, l0), (0, nb_add 8 (nb_mul 3 (nb_rd M (nb_rd M l0 16) 3)))]) (S2 := [(0, nb_rd M (nb_rd M l0 16) 3), (20, l0)]) (M2 := M) (t := 3) (cl := 98) (vi := true) rfl (by simp [h1, h2, h3, h4]) (nb_inv_eq (n := 2) rfl rfl rfl rfl rfl rfl (fun _ => h1) rfl)
theorem q_m_drinkLine_3 (l0 l1 : Int) (M : nb_M) (h1 : l0 ≠ 0) :
    nb_R nb_P 109 3 [(20, l0), (0, l1)] [] M = (nb_R nb_P 103 0 [(20, l0), (2, 9), (0, 1), (0, 90)] [] M).bind fun r => nb_R nb_P 109 4 [(20, l0), (0, l1)] (r.1 ++ [(0, l1), (3, nb_rd M l0 16)]) r.2 :=
  nb_stepC (c := (true && !decide ((l0 : Int) = 0))) (L2 := [(20, l0), (0, l1)]) (S2 := [(0, 90), (0, 1), (2, 9), (20, l0), (0, l1), (3, nb_rd M l0 16)]) (M2 := M) (t := 4) (cl := 103) (vi := true) rfl (by simp [h1]) (nb_inv_eq (n := 4) rfl rfl rfl rfl rfl rfl (fun _ => h1) rfl)
theorem q_m_drinkLine_4 (l0 l1 s0 s1 s2 : Int) (M : nb_M) (h1 : s2 ≠ 0) (h2 : s2 ≠ 1) (h3 : (0 : Int) ≤ s1) (h4 : s1 < nb_ln M s2) :
    nb_R nb_P 109 4 [(20, l0), (0, l1)] [(0, s0), (0, s1), (3, s2)] M = nb_R nb_P 109 5 [(20, l0), (0, l1)] [] (nb_wr M s2 s1 s0) :=
  nb_step (c := (true && (!decide ((s2 : Int) = 0) && (!decide ((s2 : Int) = 1) && (decide ((0 : Int) ≤ s1) && decide (s1 < nb_ln M s2)))))) rfl (by simp [h1, h2, h3, h4])
theorem q_m_drinkLine_5 (l0 l1 : Int) (M : nb_M) (h1 : l0 ≠ 0) (h2 : (nb_rd M l0 16) ≠ 0) (h3 : (0 : Int) ≤ l1) (h4 : l1 < nb_ln M (nb_rd M l0 16)) :
    nb_R nb_P 109 5 [(20, l0), (0, l1)] [] M = (nb_R nb_P 103 0 [(20, l0), (2, 10), (0, 0), (0, nb_rd M (nb_rd M l0 16) l1)] [] M).bind fun r => nb_R nb_P 109 6 [(20, l0), (0, l1)] (r.1 ++ [(0, nb_add l1 1), (3, nb_rd M l0 16)]) r.2 :=
  nb_stepC (c := (((true && !decide ((l0 : Int) = 0)) && !decide ((l0 : Int) = 0)) && (!decide ((nb_rd M l0 16 : Int) = 0) && (decide ((0 : Int) ≤ l1) && decide (l1 < nb_ln M (nb_rd M l0 16)))))) (L2 := [(20, l0), (0, l1)]) (S2 := [(0, nb_rd M (nb_rd M l0 16) l1), (0, 0), (2, 10), (20, l0), (0, nb_add l1 1), (3, nb_rd M l0 16)]) (M2 := M) (t := 6) (cl := 103) (vi := true) rfl (by simp [h1, h2, h3, h4]) (nb_inv_eq (n := 4) rfl rfl rfl rfl rfl rfl (fun _ => h1) rfl)
theorem q_m_drinkLine_6 (l0 l1 s0 s1 s2 : Int) (M : nb_M) (h1 : s2 ≠ 0) (h2 : s2 ≠ 1) (h3 : (0 : Int) ≤ s1) (h4 : s1 < nb_ln M s2) :
    nb_R nb_P 109 6 [(20, l0), (0, l1)] [(0, s0), (0, s1), (3, s2)] M = nb_R nb_P 109 7 [(20, l0), (0, l1)] [] (nb_wr M s2 s1 s0) :=
  nb_step (c := (true && (!decide ((s2 : Int) = 0) && (!decide ((s2 : Int) = 1) && (decide ((0 : Int) ≤ s1) && decide (s1 < nb_ln M s2)))))) rfl (by simp [h1, h2, h3, h4])
theorem q_m_drinkLine_7 (l0 l1 : Int) (M : nb_M) (h1 : l0 ≠ 0) :
    nb_R nb_P 109 7 [(20, l0), (0, l1)] [] M = (nb_R nb_P 103 0 [(20, l0), (2, 11), (0, 0), (0, 99)] [] M).bind fun r => nb_R nb_P 109 8 [(20, l0), (0, l1)] (r.1 ++ [(0, nb_add l1 2), (3, nb_rd M l0 16)]) r.2 :=
  nb_stepC (c := (true && !decide ((l0 : Int) = 0))) (L2 := [(20, l0), (0, l1)]) (S2 := [(0, 99), (0, 0), (2, 11), (20, l0), (0, nb_add l1 2), (3, nb_rd M l0 16)]) (M2 := M) (t := 8) (cl := 103) (vi := true) rfl (by simp [h1]) (nb_inv_eq (n := 4) rfl rfl rfl rfl rfl rfl (fun _ => h1) rfl)
theorem q_m_drinkLine_8 (l0 s0 s1 s2 : Int) (v1 : nb_V) (M : nb_M) (h1 : s2 ≠ 0) (h2 : s2 ≠ 1) (h3 : (0 : Int) ≤ s1) (h4 : s1 < nb_ln M s2) :
    nb_R nb_P 109 8 [(20, l0), v1] [(0, s0), (0, s1), (3, s2)] M = nb_R nb_P 109 9 [(20, l0), v1] [] (nb_wr M s2 s1 s0) :=
  nb_step (c := (true && (!decide ((s2 : Int) = 0) && (!decide ((s2 : Int) = 1) && (decide ((0 : Int) ≤ s1) && decide (s1 < nb_ln M s2)))))) rfl (by simp [h1, h2, h3, h4])
theorem q_m_drinkLine_9 (l0 : Int) (v1 : nb_V) (M : nb_M) (h1 : l0 ≠ 0) :
    nb_R nb_P 109 9 [(20, l0), v1] [] M = if nb_rd M l0 13 = 0 then nb_R nb_P 109 10 [(20, l0), v1] [] M else nb_R nb_P 109 11 [(20, l0), v1] [] M :=
  nb_step (c := (true && !decide ((l0 : Int) = 0))) rfl (by simp [h1])
theorem q_m_drinkLine_10 (l0 : Int) (v1 : nb_V) (M : nb_M) (h1 : l0 ≠ 0) (h2 : (nb_rd M l0 16) ≠ 0) (h3 : (0 : Int) ≤ 3) (h4 : 3 < nb_ln M (nb_rd M l0 16)) (h5 : (nb_rd M l0 16) ≠ 1) :
    nb_R nb_P 109 10 [(20, l0), v1] [] M = nb_R nb_P 109 11 [(20, l0), v1] [] (nb_wr M (nb_rd M l0 16) 3 (nb_add (nb_rd M (nb_rd M l0 16) 3) 1)) :=
  nb_step (c := (((true && !decide ((l0 : Int) = 0)) && (!decide ((nb_rd M l0 16 : Int) = 0) && (decide ((0 : Int) ≤ 3) && decide (3 < nb_ln M (nb_rd M l0 16))))) && (!decide ((nb_rd M l0 16 : Int) = 0) && (!decide ((nb_rd M l0 16 : Int) = 1) && (decide ((0 : Int) ≤ 3) && decide (3 < nb_ln M (nb_rd M l0 16))))))) rfl (by simp [h1, h2, h3, h4, h5])
theorem q_m_drinkLine_11 (v0 v1 : nb_V) (M : nb_M) :
    nb_R nb_P 109 11 [v0, v1] [] M = some ([], M) :=
  nb_step (c := true) rfl rfl
theorem q_m_personLine_0 (l0 : Int) (v1 v2 v3 v4 v5 v6 : nb_V) (M : nb_M) (h1 : l0 ≠ 0) :
    nb_R nb_P 111 0 [(20, l0), v1, v2, v3, v4, v5, v6] [] M = if nb_rd M l0 13 = 0 then nb_R nb_P 111 2 [(20, l0), v1, v2, v3, v4, v5, v6] [] M else nb_R nb_P 111 1 [(20, l0), v1, v2, v3, v4, v5, v6] [] M :=
  nb_step (c := (true && !decide ((l0 : Int) = 0))) rfl (by simp [h1])
theorem q_m_personLine_1 (v0 v1 v2 v3 v4 v5 v6 : nb_V) (M : nb_M) :
    nb_R nb_P 111 1 [v0, v1, v2, v3, v4, v5, v6] [] M = some ([], M) :=
  nb_step (c := true) rfl rfl
theorem q_m_personLine_2 (l0 : Int) (v1 v2 v3 v4 v5 v6 : nb_V) (M : nb_M) (h1 : l0 ≠ 0) (h2 : (nb_rd M l0 16) ≠ 0) (h3 : (0 : Int) ≤ 5) (h4 : 5 < nb_ln M (nb_rd M l0 16)) :
    nb_R nb_P 111 2 [(20, l0), v1, v2, v3, v4, v5, v6] [] M = (nb_R nb_P 98 0 [(20, l0), (0, nb_add 8 (nb_rd M (nb_rd M l0 16) 5)), (98, 0)] [] M).bind fun r => nb_R nb_P 111 3 [(20, l0), (0, nb_rd M (nb_rd M l0 16) 5), (0, nb_add 41 (nb_mul 7 (nb_rd M (nb_rd M l0 16) 5))), v3, v4, v5, v6] (r.1 ++ []) r.2 :=
  nb_stepC (c := ((true && !decide ((l0 : Int) = 0)) && (!decide ((nb_rd M l0 16 : Int) = 0) && (decide ((0 : Int) ≤ 5) && decide (5 < nb_ln M (nb_rd M l0 16)))))) (L2 := [(20, l0), (0, nb_rd M (nb_rd M l0 16) 5), (0, nb_add 41 (nb_mul 7 (nb_rd M (nb_rd M l0 16) 5))), v3, v4, v5, v6]) (S2 := [(0, nb_add 8 (nb_rd M (nb_rd M l0 16) 5)), (20, l0)]) (M2 := M) (t := 3) (cl := 98) (vi := true) rfl (by simp [h1, h2, h3, h4]) (nb_inv_eq (n := 2) rfl rfl rfl rfl rfl rfl (fun _ => h1) rfl)
theorem q_m_personLine_3 (l0 l1 l2 : Int) (v3 v4 v5 v6 : nb_V) (M : nb_M) (h1 : l0 ≠ 0) :
    nb_R nb_P 111 3 [(20, l0), (0, l1), (0, l2), v3, v4, v5, v6] [] M = (nb_R nb_P 93 0 [(20, l0), (2, 22), (98, 0), (98, 0)] [] M).bind fun r => nb_R nb_P 111 4 [(20, l0), (0, l1), (0, l2), v3, v4, v5, v6] (r.1 ++ []) r.2 :=
  nb_stepC (c := true) (L2 := [(20, l0), (0, l1), (0, l2), v3, v4, v5, v6]) (S2 := [(2, 22), (20, l0)]) (M2 := M) (t := 4) (cl := 93) (vi := true) rfl rfl (nb_inv_eq (n := 2) rfl rfl rfl rfl rfl rfl (fun _ => h1) rfl)
theorem q_m_personLine_4 (l0 l1 l2 s0 : Int) (v3 v4 v5 v6 : nb_V) (M : nb_M) :
    nb_R nb_P 111 4 [(20, l0), (0, l1), (0, l2), v3, v4, v5, v6] [(0, s0)] M = if s0 = 0 then nb_R nb_P 111 6 [(20, l0), (0, l1), (0, l2), v3, v4, v5, v6] [] M else nb_R nb_P 111 5 [(20, l0), (0, l1), (0, l2), v3, v4, v5, v6] [] M :=
  nb_step (c := true) rfl rfl
theorem q_m_personLine_5 (l0 l1 l2 : Int) (v3 v4 v5 v6 : nb_V) (M : nb_M) :
    nb_R nb_P 111 5 [(20, l0), (0, l1), (0, l2), v3, v4, v5, v6] [] M = nb_R nb_P 111 16 [(20, l0), (0, l1), (0, l2), v3, v4, v5, v6] [(0, 0)] M :=
  nb_step (c := true) rfl rfl
theorem q_m_personLine_6 (l0 l1 l2 : Int) (v3 v4 v5 v6 : nb_V) (M : nb_M) (h1 : l0 ≠ 0) :
    nb_R nb_P 111 6 [(20, l0), (0, l1), (0, l2), v3, v4, v5, v6] [] M = (nb_R nb_P 93 0 [(20, l0), (2, 23), (98, 0), (98, 0)] [] M).bind fun r => nb_R nb_P 111 7 [(20, l0), (0, l1), (0, l2), v3, v4, v5, v6] (r.1 ++ []) r.2 :=
  nb_stepC (c := true) (L2 := [(20, l0), (0, l1), (0, l2), v3, v4, v5, v6]) (S2 := [(2, 23), (20, l0)]) (M2 := M) (t := 7) (cl := 93) (vi := true) rfl rfl (nb_inv_eq (n := 2) rfl rfl rfl rfl rfl rfl (fun _ => h1) rfl)
theorem q_m_personLine_7 (l0 l1 l2 s0 : Int) (v3 v4 v5 v6 : nb_V) (M : nb_M) :
    nb_R nb_P 111 7 [(20, l0), (0, l1), (0, l2), v3, v4, v5, v6] [(0, s0)] M = if s0 = 0 then nb_R nb_P 111 9 [(20, l0), (0, l1), (0, l2), v3, v4, v5, v6] [] M else nb_R nb_P 111 8 [(20, l0), (0, l1), (0, l2), v3, v4, v5, v6] [] M :=
  nb_step (c := true) rfl rfl
theorem q_m_personLine_8 (l0 l1 l2 : Int) (v3 v4 v5 v6 : nb_V) (M : nb_M) :
    nb_R nb_P 111 8 [(20, l0), (0, l1), (0, l2), v3, v4, v5, v6] [] M = nb_R nb_P 111 16 [(20, l0), (0, l1), (0, l2), v3, v4, v5, v6] [(0, 1)] M :=
  nb_step (c := true) rfl rfl
theorem q_m_personLine_9 (l0 l1 l2 : Int) (v3 v4 v5 v6 : nb_V) (M : nb_M) (h1 : l0 ≠ 0) :
    nb_R nb_P 111 9 [(20, l0), (0, l1), (0, l2), v3, v4, v5, v6] [] M = (nb_R nb_P 93 0 [(20, l0), (2, 24), (98, 0), (98, 0)] [] M).bind fun r => nb_R nb_P 111 10 [(20, l0), (0, l1), (0, l2), v3, v4, v5, v6] (r.1 ++ []) r.2 :=
  nb_stepC (c := true) (L2 := [(20, l0), (0, l1), (0, l2), v3, v4, v5, v6]) (S2 := [(2, 24), (20, l0)]) (M2 := M) (t := 10) (cl := 93) (vi := true) rfl rfl (nb_inv_eq (n := 2) rfl rfl rfl rfl rfl rfl (fun _ => h1) rfl)
theorem q_m_personLine_10 (l0 l1 l2 s0 : Int) (v3 v4 v5 v6 : nb_V) (M : nb_M) :
    nb_R nb_P 111 10 [(20, l0), (0, l1), (0, l2), v3, v4, v5, v6] [(0, s0)] M = if s0 = 0 then nb_R nb_P 111 12 [(20, l0), (0, l1), (0, l2), v3, v4, v5, v6] [] M else nb_R nb_P 111 11 [(20, l0), (0, l1), (0, l2), v3, v4, v5, v6] [] M :=
  nb_step (c := true) rfl rfl
theorem q_m_personLine_11 (l0 l1 l2 : Int) (v3 v4 v5 v6 : nb_V) (M : nb_M) :
    nb_R nb_P 111 11 [(20, l0), (0, l1), (0, l2), v3, v4, v5, v6] [] M = nb_R nb_P 111 16 [(20, l0), (0, l1), (0, l2), v3, v4, v5, v6] [(0, 2)] M :=
  nb_step (c := true) rfl rfl
theorem q_m_personLine_12 (l0 l1 l2 : Int) (v3 v4 v5 v6 : nb_V) (M : nb_M) (h1 : l0 ≠ 0) :
    nb_R nb_P 111 12 [(20, l0), (0, l1), (0, l2), v3, v4, v5, v6] [] M = (nb_R nb_P 93 0 [(20, l0), (2, 16), (98, 0), (98, 0)] [] M).bind fun r => nb_R nb_P 111 13 [(20, l0), (0, l1), (0, l2), v3, v4, v5, v6] (r.1 ++ []) r.2 :=
  nb_stepC (c := true) (L2 := [(20, l0), (0, l1), (0, l2), v3, v4, v5, v6]) (S2 := [(2, 16), (20, l0)]) (M2 := M) (t := 13) (cl := 93) (vi := true) rfl rfl (nb_inv_eq (n := 2) rfl rfl rfl rfl rfl rfl (fun _ => h1) rfl)
theorem q_m_personLine_13 (l0 l1 l2 s0 : Int) (v3 v4 v5 v6 : nb_V) (M : nb_M) :
    nb_R nb_P 111 13 [(20, l0), (0, l1), (0, l2), v3, v4, v5, v6] [(0, s0)] M = if s0 = 0 then nb_R nb_P 111 15 [(20, l0), (0, l1), (0, l2), v3, v4, v5, v6] [] M else nb_R nb_P 111 14 [(20, l0), (0, l1), (0, l2), v3, v4, v5, v6] [] M :=
  nb_step (c := true) rfl rfl
theorem q_m_personLine_14 (l0 l1 l2 : Int) (v3 v4 v5 v6 : nb_V) (M : nb_M) :
    nb_R nb_P 111 14 [(20, l0), (0, l1), (0, l2), v3, v4, v5, v6] [] M = nb_R nb_P 111 16 [(20, l0), (0, l1), (0, l2), v3, v4, v5, v6] [(0, 3)] M :=
  nb_step (c := true) rfl rfl
theorem q_m_personLine_15 (l0 l1 l2 : Int) (v3 v4 v5 v6 : nb_V) (M : nb_M) :
    nb_R nb_P 111 15 [(20, l0), (0, l1), (0, l2), v3, v4, v5, v6] [] M = nb_R nb_P 111 16 [(20, l0), (0, l1), (0, l2), v3, v4, v5, v6] [(0, (-1))] M :=
  nb_step (c := true) rfl rfl
theorem q_m_personLine_16 (l0 l1 l2 s0 : Int) (v3 v4 v5 v6 : nb_V) (M : nb_M) :
    nb_R nb_P 111 16 [(20, l0), (0, l1), (0, l2), v3, v4, v5, v6] [(0, s0)] M = if s0 < 0 then nb_R nb_P 111 17 [(20, l0), (0, l1), (0, l2), (0, s0), v4, v5, v6] [] M else nb_R nb_P 111 18 [(20, l0), (0, l1), (0, l2), (0, s0), v4, v5, v6] [] M :=
  nb_step (c := true) rfl rfl
theorem q_m_personLine_17 (l0 l1 l2 l3 : Int) (v4 v5 v6 : nb_V) (M : nb_M) (h1 : l0 ≠ 0) :
    nb_R nb_P 111 17 [(20, l0), (0, l1), (0, l2), (0, l3), v4, v5, v6] [] M = (nb_R nb_P 92 0 [(20, l0), (0, 1), (0, nb_rd M l0 4)] [] M).bind fun r => nb_R nb_P 111 18 [(20, l0), (0, l1), (0, l2), (0, l3), v4, v5, v6] (r.1 ++ []) r.2 :=
  nb_stepC (c := (true && !decide ((l0 : Int) = 0))) (L2 := [(20, l0), (0, l1), (0, l2), (0, l3), v4, v5, v6]) (S2 := [(0, nb_rd M l0 4), (0, 1), (20, l0)]) (M2 := M) (t := 18) (cl := 92) (vi := true) rfl (by simp [h1]) (nb_inv_eq (n := 3) rfl rfl rfl rfl rfl rfl (fun _ => h1) rfl)
theorem q_m_personLine_18 (l0 l1 l2 l3 : Int) (v4 v5 v6 : nb_V) (M : nb_M) (h1 : l0 ≠ 0) :
    nb_R nb_P 111 18 [(20, l0), (0, l1), (0, l2), (0, l3), v4, v5, v6] [] M = if nb_rd M l0 13 = 0 then nb_R nb_P 111 20 [(20, l0), (0, l1), (0, l2), (0, l3), v4, v5, v6] [] M else nb_R nb_P 111 19 [(20, l0), (0, l1), (0, l2), (0, l3), v4, v5, v6] [] M :=
  nb_step (c := (true && !decide ((l0 : Int) = 0))) rfl (by simp [h1])
theorem q_m_personLine_19 (v0 v1 v2 v3 v4 v5 v6 : nb_V) (M : nb_M) :
    nb_R nb_P 111 19 [v0, v1, v2, v3, v4, v5, v6] [] M = some ([], M) :=
  nb_step (c := true) rfl rfl
theorem q_m_personLine_20 (l0 l1 l2 l3 : Int) (v4 v5 v6 : nb_V) (M : nb_M) (h1 : l0 ≠ 0) :
    nb_R nb_P 111 20 [(20, l0), (0, l1), (0, l2), (0, l3), v4, v5, v6] [] M = (nb_R nb_P 91 0 [(20, l0), (98, 0), (98, 0), (98, 0)] [] M).bind fun r => nb_R nb_P 111 21 [(20, l0), (0, l1), (0, l2), (0, l3), v4, v5, v6] (r.1 ++ []) r.2 :=
  nb_stepC (c := true) (L2 := [(20, l0), (0, l1), (0, l2), (0, l3), v4, v5, v6]) (S2 := [(20, l0)]) (M2 := M) (t := 21) (cl := 91) (vi := true) rfl rfl (nb_inv_eq (n := 1) rfl rfl rfl rfl rfl rfl (fun _ => h1) rfl)
theorem q_m_personLine_21 (l0 l1 l2 l3 : Int) (v4 v5 v6 : nb_V) (M : nb_M) (h1 : l0 ≠ 0) (h2 : (nb_rd M l0 16) ≠ 0) (h3 : (nb_rd M l0 16) ≠ 1) (h4 : (0 : Int) ≤ nb_add l2 0) (h5 : nb_add l2 0 < nb_ln M (nb_rd M l0 16)) :
    nb_R nb_P 111 21 [(20, l0), (0, l1), (0, l2), (0, l3), v4, v5, v6] [] M = nb_R nb_P 111 22 [(20, l0), (0, l1), (0, l2), (0, l3), v4, v5, v6] [] (nb_wr M (nb_rd M l0 16) (nb_add l2 0) l3) :=
  nb_step (c := ((true && !decide ((l0 : Int) = 0)) && (!decide ((nb_rd M l0 16 : Int) = 0) && (!decide ((nb_rd M l0 16 : Int) = 1) && (decide ((0 : Int) ≤ nb_add l2 0) && decide (nb_add l2 0 < nb_ln M (nb_rd M l0 16))))))) rfl (by simp [h1, h2, h3, h4, h5])
theorem q_m_personLine_22 (l0 l1 l2 l3 : Int) (v4 v5 v6 : nb_V) (M : nb_M) (h1 : l0 ≠ 0) :
    nb_R nb_P 111 22 [(20, l0), (0, l1), (0, l2), (0, l3), v4, v5, v6] [] M = if l3 = 1 then nb_R nb_P 111 24 [(20, l0), (0, l1), (0, l2), (0, l3), v4, v5, v6] [(0, nb_add l2 1), (3, nb_rd M l0 16)] M else nb_R nb_P 111 23 [(20, l0), (0, l1), (0, l2), (0, l3), v4, v5, v6] [(0, nb_add l2 1), (3, nb_rd M l0 16)] M :=
  nb_step (c := (true && !decide ((l0 : Int) = 0))) rfl (by simp [h1])
theorem q_m_personLine_23 (l0 l1 l2 l3 s0 s1 : Int) (v4 v5 v6 : nb_V) (M : nb_M) :
    nb_R nb_P 111 23 [(20, l0), (0, l1), (0, l2), (0, l3), v4, v5, v6] [(0, s0), (3, s1)] M = if l3 = 2 then nb_R nb_P 111 24 [(20, l0), (0, l1), (0, l2), (0, l3), v4, v5, v6] [(0, s0), (3, s1)] M else nb_R nb_P 111 26 [(20, l0), (0, l1), (0, l2), (0, l3), v4, v5, v6] [(0, s0), (3, s1)] M :=
  nb_step (c := true) rfl rfl
theorem q_m_personLine_24 (l0 l1 l2 s0 s1 : Int) (v3 v4 v5 v6 : nb_V) (M : nb_M) (h1 : l0 ≠ 0) :
    nb_R nb_P 111 24 [(20, l0), (0, l1), (0, l2), v3, v4, v5, v6] [(0, s0), (3, s1)] M = (nb_R nb_P 102 0 [(20, l0), (0, 1), (0, 99), (98, 0)] [] M).bind fun r => nb_R nb_P 111 25 [(20, l0), (0, l1), (0, l2), v3, v4, v5, v6] (r.1 ++ [(0, s0), (3, s1)]) r.2 :=
  nb_stepC (c := true) (L2 := [(20, l0), (0, l1), (0, l2), v3, v4, v5, v6]) (S2 := [(0, 99), (0, 1), (20, l0), (0, s0), (3, s1)]) (M2 := M) (t := 25) (cl := 102) (vi := true) rfl rfl (nb_inv_eq (n := 3) rfl rfl rfl rfl rfl rfl (fun _ => h1) rfl)
theorem q_m_personLine_25 (l0 l1 l2 s0 s1 s2 : Int) (v3 v4 v5 v6 : nb_V) (M : nb_M) :
    nb_R nb_P 111 25 [(20, l0), (0, l1), (0, l2), v3, v4, v5, v6] [(0, s0), (0, s1), (3, s2)] M = nb_R nb_P 111 27 [(20, l0), (0, l1), (0, l2), v3, v4, v5, v6] [(0, s0), (0, s1), (3, s2)] M :=
  nb_step (c := true) rfl rfl
theorem q_m_personLine_26 (l0 l1 l2 s0 s1 : Int) (v3 v4 v5 v6 : nb_V) (M : nb_M) :
    nb_R nb_P 111 26 [(20, l0), (0, l1), (0, l2), v3, v4, v5, v6] [(0, s0), (3, s1)] M = nb_R nb_P 111 27 [(20, l0), (0, l1), (0, l2), v3, v4, v5, v6] [(0, 0), (0, s0), (3, s1)] M :=
  nb_step (c := true) rfl rfl
theorem q_m_personLine_27 (l0 l1 l2 s0 s1 s2 : Int) (v3 v4 v5 v6 : nb_V) (M : nb_M) (h1 : s2 ≠ 0) (h2 : s2 ≠ 1) (h3 : (0 : Int) ≤ s1) (h4 : s1 < nb_ln M s2) :
    nb_R nb_P 111 27 [(20, l0), (0, l1), (0, l2), v3, v4, v5, v6] [(0, s0), (0, s1), (3, s2)] M = nb_R nb_P 111 28 [(20, l0), (0, l1), (0, l2), v3, v4, v5, v6] [] (nb_wr M s2 s1 s0) :=
  nb_step (c := (true && (!decide ((s2 : Int) = 0) && (!decide ((s2 : Int) = 1) && (decide ((0 : Int) ≤ s1) && decide (s1 < nb_ln M s2)))))) rfl (by simp [h1, h2, h3, h4])
theorem q_m_personLine_28 (l0 l1 l2 : Int) (v3 v4 v5 v6 : nb_V) (M : nb_M) (h1 : l0 ≠ 0) (h2 : (nb_rd M l0 16) ≠ 0) (h3 : (0 : Int) ≤ 2) (h4 : 2 < nb_ln M (nb_rd M l0 16)) :
    nb_R nb_P 111 28 [(20, l0), (0, l1), (0, l2), v3, v4, v5, v6] [] M = (nb_R nb_P 103 0 [(20, l0), (2, 25), (0, 0), (0, nb_rd M (nb_rd M l0 16) 2)] [] M).bind fun r => nb_R nb_P 111 29 [(20, l0), (0, l1), (0, l2), v3, v4, v5, v6] (r.1 ++ [(0, nb_add l2 2), (3, nb_rd M l0 16)]) r.2 :=
  nb_stepC (c := (((true && !decide ((l0 : Int) = 0)) && !decide ((l0 : Int) = 0)) && (!decide ((nb_rd M l0 16 : Int) = 0) && (decide ((0 : Int) ≤ 2) && decide (2 < nb_ln M (nb_rd M l0 16)))))) (L2 := [(20, l0), (0, l1), (0, l2), v3, v4, v5, v6]) (S2 := [(0, nb_rd M (nb_rd M l0 16) 2), (0, 0), (2, 25), (20, l0), (0, nb_add l2 2), (3, nb_rd M l0 16)]) (M2 := M) (t := 29) (cl := 103) (vi := true) rfl (by simp [h1, h2, h3, h4]) (nb_inv_eq (n := 4) rfl rfl rfl rfl rfl rfl (fun _ => h1) rfl)
theorem q_m_personLine_29 (l0 l1 l2 s0 s1 s2 : Int) (v3 v4 v5 v6 : nb_V) (M : nb_M) (h1 : s2 ≠ 0) (h2 : s2 ≠ 1) (h3 : (0 : Int) ≤ s1) (h4 : s1 < nb_ln M s2) :
    nb_R nb_P 111 29 [(20, l0), (0, l1), (0, l2), v3, v4, v5, v6] [(0, s0), (0, s1), (3, s2)] M = nb_R nb_P 111 30 [(20, l0), (0, l1), (0, l2), v3, v4, v5, v6] [] (nb_wr M s2 s1 s0) :=
  nb_step (c := (true && (!decide ((s2 : Int) = 0) && (!decide ((s2 : Int) = 1) && (decide ((0 : Int) ≤ s1) && decide (s1 < nb_ln M s2)))))) rfl (by simp [h1, h2, h3, h4])
theorem q_m_personLine_30 (l0 l1 l2 : Int) (v3 v4 v5 v6 : nb_V) (M : nb_M) (h1 : l0 ≠ 0) (h2 : (nb_rd M l0 16) ≠ 0) (h3 : (0 : Int) ≤ 1) (h4 : 1 < nb_ln M (nb_rd M l0 16)) :
    nb_R nb_P 111 30 [(20, l0), (0, l1), (0, l2), v3, v4, v5, v6] [] M = (nb_R nb_P 103 0 [(20, l0), (2, 17), (0, 0), (0, nb_sub (nb_rd M (nb_rd M l0 16) 1) 1)] [] M).bind fun r => nb_R nb_P 111 31 [(20, l0), (0, l1), (0, l2), v3, v4, v5, v6] (r.1 ++ [(0, nb_add l2 3), (3, nb_rd M l0 16)]) r.2 :=
  nb_stepC (c := (((true && !decide ((l0 : Int) = 0)) && !decide ((l0 : Int) = 0)) && (!decide ((nb_rd M l0 16 : Int) = 0) && (decide ((0 : Int) ≤ 1) && decide (1 < nb_ln M (nb_rd M l0 16)))))) (L2 := [(20, l0), (0, l1), (0, l2), v3, v4, v5, v6]) (S2 := [(0, nb_sub (nb_rd M (nb_rd M l0 16) 1) 1), (0, 0), (2, 17), (20, l0), (0, nb_add l2 3), (3, nb_rd M l0 16)]) (M2 := M) (t := 31) (cl := 103) (vi := true) rfl (by simp [h1, h2, h3, h4]) (nb_inv_eq (n := 4) rfl rfl rfl rfl rfl rfl (fun _ => h1) rfl)
theorem q_m_personLine_31 (l0 l1 l2 s0 s1 s2 : Int) (v3 v4 v5 v6 : nb_V) (M : nb_M) (h1 : s2 ≠ 0) (h2 : s2 ≠ 1) (h3 : (0 : Int) ≤ s1) (h4 : s1 < nb_ln M s2) :
    nb_R nb_P 111 31 [(20, l0), (0, l1), (0, l2), v3, v4, v5, v6] [(0, s0), (0, s1), (3, s2)] M = nb_R nb_P 111 32 [(20, l0), (0, l1), (0, l2), v3, v4, v5, v6] [] (nb_wr M s2 s1 s0) :=
  nb_step (c := (true && (!decide ((s2 : Int) = 0) && (!decide ((s2 : Int) = 1) && (decide ((0 : Int) ≤ s1) && decide (s1 < nb_ln M s2)))))) rfl (by simp [h1, h2, h3, h4])
theorem q_m_personLine_32 (l0 l1 l2 : Int) (v3 v4 v5 v6 : nb_V) (M : nb_M) (h1 : l0 ≠ 0) :
    nb_R nb_P 111 32 [(20, l0), (0, l1), (0, l2), v3, v4, v5, v6] [] M = (nb_R nb_P 103 0 [(20, l0), (2, 26), (0, 0), (0, 600)] [] M).bind fun r => nb_R nb_P 111 33 [(20, l0), (0, l1), (0, l2), v3, v4, v5, v6] (r.1 ++ [(0, nb_add l2 4), (3, nb_rd M l0 16)]) r.2 :=
  nb_stepC (c := (true && !decide ((l0 : Int) = 0))) (L2 := [(20, l0), (0, l1), (0, l2), v3, v4, v5, v6]) (S2 := [(0, 600), (0, 0), (2, 26), (20, l0), (0, nb_add l2 4), (3, nb_rd M l0 16)]) (M2 := M) (t := 33) (cl := 103) (vi := true) rfl (by simp [h1]) (nb_inv_eq (n := 4) rfl rfl rfl rfl rfl rfl (fun _ => h1) rfl)
theorem q_m_personLine_33 (l0 l1 l2 s0 s1 s2 : Int) (v3 v4 v5 v6 : nb_V) (M : nb_M) (h1 : s2 ≠ 0) (h2 : s2 ≠ 1) (h3 : (0 : Int) ≤ s1) (h4 : s1 < nb_ln M s2) :
    nb_R nb_P 111 33 [(20, l0), (0, l1), (0, l2), v3, v4, v5, v6] [(0, s0), (0, s1), (3, s2)] M = nb_R nb_P 111 34 [(20, l0), (0, l1), (0, l2), v3, v4, v5, v6] [] (nb_wr M s2 s1 s0) :=
  nb_step (c := (true && (!decide ((s2 : Int) = 0) && (!decide ((s2 : Int) = 1) && (decide ((0 : Int) ≤ s1) && decide (s1 < nb_ln M s2)))))) rfl (by simp [h1, h2, h3, h4])
theorem q_m_personLine_34 (l0 l1 l2 : Int) (v3 v4 v5 v6 : nb_V) (M : nb_M) (h1 : l0 ≠ 0) :
    nb_R nb_P 111 34 [(20, l0), (0, l1), (0, l2), v3, v4, v5, v6] [] M = (nb_R nb_P 103 0 [(20, l0), (2, 27), (0, 0), (0, 99)] [] M).bind fun r => nb_R nb_P 111 35 [(20, l0), (0, l1), (0, l2), v3, v4, v5, v6] (r.1 ++ [(0, nb_add l2 5), (3, nb_rd M l0 16)]) r.2 :=
  nb_stepC (c := (true && !decide ((l0 : Int) = 0))) (L2 := [(20, l0), (0, l1), (0, l2), v3, v4, v5, v6]) (S2 := [(0, 99), (0, 0), (2, 27), (20, l0), (0, nb_add l2 5), (3, nb_rd M l0 16)]) (M2 := M) (t := 35) (cl := 103) (vi := true) rfl (by simp [h1]) (nb_inv_eq (n := 4) rfl rfl rfl rfl rfl rfl (fun _ => h1) rfl)
theorem q_m_personLine_35 (l0 l1 l2 s0 s1 s2 : Int) (v3 v4 v5 v6 : nb_V) (M : nb_M) (h1 : s2 ≠ 0) (h2 : s2 ≠ 1) (h3 : (0 : Int) ≤ s1) (h4 : s1 < nb_ln M s2) :
    nb_R nb_P 111 35 [(20, l0), (0, l1), (0, l2), v3, v4, v5, v6] [(0, s0), (0, s1), (3, s2)] M = nb_R nb_P 111 36 [(20, l0), (0, l1), (0, l2), v3, v4, v5, v6] [] (nb_wr M s2 s1 s0) :=
  nb_step (c := (true && (!decide ((s2 : Int) = 0) && (!decide ((s2 : Int) = 1) && (decide ((0 : Int) ≤ s1) && decide (s1 < nb_ln M s2)))))) rfl (by simp [h1, h2, h3, h4])
theorem q_m_personLine_36 (l0 l1 l2 : Int) (v3 v4 v5 v6 : nb_V) (M : nb_M) (h1 : l0 ≠ 0) (h2 : (nb_rd M l0 16) ≠ 0) (h3 : (nb_rd M l0 16) ≠ 1) (h4 : (0 : Int) ≤ nb_add l2 6) (h5 : nb_add l2 6 < nb_ln M (nb_rd M l0 16)) :
    nb_R nb_P 111 36 [(20, l0), (0, l1), (0, l2), v3, v4, v5, v6] [] M = nb_R nb_P 111 37 [(20, l0), (0, l1), (0, l2), v3, v4, v5, v6] [] (nb_wr M (nb_rd M l0 16) (nb_add l2 6) 0) :=
  nb_step (c := ((true && !decide ((l0 : Int) = 0)) && (!decide ((nb_rd M l0 16 : Int) = 0) && (!decide ((nb_rd M l0 16 : Int) = 1) && (decide ((0 : Int) ≤ nb_add l2 6) && decide (nb_add l2 6 < nb_ln M (nb_rd M l0 16))))))) rfl (by simp [h1, h2, h3, h4, h5])
theorem q_m_personLine_37 (l0 l1 : Int) (v2 v3 v4 v5 v6 : nb_V) (M : nb_M) :
    nb_R nb_P 111 37 [(20, l0), (0, l1), v2, v3, v4, v5, v6] [] M = nb_R nb_P 111 38 [(20, l0), (0, l1), v2, nb_clr v3, (0, 0), v5, v6] [] M :=
  nb_step (c := true) rfl rfl
theorem q_m_personLine_38 (l0 l1 l4 : Int) (v2 v3 v5 v6 : nb_V) (M : nb_M) :
    nb_R nb_P 111 38 [(20, l0), (0, l1), v2, v3, (0, l4), v5, v6] [] M = if l4 < 5 then nb_R nb_P 111 39 [(20, l0), (0, l1), v2, v3, (0, l4), v5, v6] [] M else nb_R nb_P 111 41 [(20, l0), (0, l1), v2, v3, (0, l4), v5, v6] [] M :=
  nb_step (c := true) rfl rfl
theorem q_m_personLine_39 (l0 l1 l4 : Int) (v2 v3 v5 v6 : nb_V) (M : nb_M) (h1 : l0 ≠ 0) (h2 : (nb_rd M l0 16) ≠ 0) (h3 : (nb_rd M l0 16) ≠ 1) (h4 : (0 : Int) ≤ nb_add (nb_add 111 (nb_mul 5 l1)) l4) (h5 : nb_add (nb_add 111 (nb_mul 5 l1)) l4 < nb_ln M (nb_rd M l0 16)) :
    nb_R nb_P 111 39 [(20, l0), (0, l1), v2, v3, (0, l4), v5, v6] [] M = nb_R nb_P 111 40 [(20, l0), (0, l1), v2, v3, (0, l4), v5, v6] [] (nb_wr M (nb_rd M l0 16) (nb_add (nb_add 111 (nb_mul 5 l1)) l4) 0) :=
  nb_step (c := ((true && !decide ((l0 : Int) = 0)) && (!decide ((nb_rd M l0 16 : Int) = 0) && (!decide ((nb_rd M l0 16 : Int) = 1) && (decide ((0 : Int) ≤ nb_add (nb_add 111 (nb_mul 5 l1)) l4) && decide (nb_add (nb_add 111 (nb_mul 5 l1)) l4 < nb_ln M (nb_rd M l0 16))))))) rfl (by simp [h1, h2, h3, h4, h5])
theorem q_m_personLine_40 (l0 l1 l4 : Int) (v2 v3 v5 v6 : nb_V) (M : nb_M) :
    nb_R nb_P 111 40 [(20, l0), (0, l1), v2, v3, (0, l4), v5, v6] [] M = nb_R nb_P 111 38 [(20, l0), (0, l1), v2, nb_clr v3, (0, nb_add l4 1), v5, v6] [] M :=
  nb_step (c := true) rfl rfl
theorem q_m_personLine_41 (l0 l1 : Int) (v2 v3 v4 v5 v6 : nb_V) (M : nb_M) (h1 : l0 ≠ 0) :
    nb_R nb_P 111 41 [(20, l0), (0, l1), v2, v3, v4, v5, v6] [] M = (nb_R nb_P 95 0 [(20, l0), (2, 28)] [] M).bind fun r => nb_R nb_P 111 42 [(20, l0), (0, l1), v2, v3, v4, v5, v6] (r.1 ++ []) r.2 :=
  nb_stepC (c := true) (L2 := [(20, l0), (0, l1), v2, v3, v4, v5, v6]) (S2 := [(2, 28), (20, l0)]) (M2 := M) (t := 42) (cl := 95) (vi := true) rfl rfl (nb_inv_eq (n := 2) rfl rfl rfl rfl rfl rfl (fun _ => h1) rfl)
theorem q_m_personLine_42 (l0 l1 : Int) (v2 v3 v4 v5 v6 : nb_V) (M : nb_M) (h1 : l0 ≠ 0) :
    nb_R nb_P 111 42 [(20, l0), (0, l1), v2, v3, v4, v5, v6] [] M = if nb_rd M l0 13 = 0 then nb_R nb_P 111 43 [(20, l0), (0, l1), v2, nb_clr v3, (0, 0), v5, v6] [] M else nb_R nb_P 111 44 [(20, l0), (0, l1), v2, nb_clr v3, (0, 0), v5, v6] [] M :=
  nb_step (c := (true && !decide ((l0 : Int) = 0))) rfl (by simp [h1])
theorem q_m_personLine_43 (l0 l1 l4 : Int) (v2 v3 v5 v6 : nb_V) (M : nb_M) :
    nb_R nb_P 111 43 [(20, l0), (0, l1), v2, v3, (0, l4), v5, v6] [] M = nb_R nb_P 111 45 [(20, l0), (0, l1), v2, v3, (0, l4), v5, v6] [(0, 1)] M :=
  nb_step (c := true) rfl rfl
theorem q_m_personLine_44 (l0 l1 l4 : Int) (v2 v3 v5 v6 : nb_V) (M : nb_M) :
    nb_R nb_P 111 44 [(20, l0), (0, l1), v2, v3, (0, l4), v5, v6] [] M = nb_R nb_P 111 45 [(20, l0), (0, l1), v2, v3, (0, l4), v5, v6] [(0, 0)] M :=
  nb_step (c := true) rfl rfl
theorem q_m_personLine_45 (l0 l1 l4 s0 : Int) (v2 v3 v5 v6 : nb_V) (M : nb_M) :
    nb_R nb_P 111 45 [(20, l0), (0, l1), v2, v3, (0, l4), v5, v6] [(0, s0)] M = nb_R nb_P 111 46 [(20, l0), (0, l1), v2, v3, (0, l4), (0, s0), v6] [] M :=
  nb_step (c := true) rfl rfl
theorem q_m_personLine_46 (l0 l1 l4 l5 : Int) (v2 v3 v6 : nb_V) (M : nb_M) :
    nb_R nb_P 111 46 [(20, l0), (0, l1), v2, v3, (0, l4), (0, l5), v6] [] M = if l5 = 0 then nb_R nb_P 111 61 [(20, l0), (0, l1), v2, v3, (0, l4), (0, l5), v6] [] M else nb_R nb_P 111 47 [(20, l0), (0, l1), v2, v3, (0, l4), (0, l5), v6] [] M :=
  nb_step (c := true) rfl rfl
theorem q_m_personLine_47 (l0 l1 l4 : Int) (v2 v3 v5 v6 : nb_V) (M : nb_M) (h1 : l0 ≠ 0) :
    nb_R nb_P 111 47 [(20, l0), (0, l1), v2, v3, (0, l4), v5, v6] [] M = (nb_R nb_P 99 0 [(20, l0), (0, 0), (0, 4), (98, 0)] [] M).bind fun r => nb_R nb_P 111 48 [(20, l0), (0, l1), v2, v3, (0, l4), v5, v6] (r.1 ++ []) r.2 :=
  nb_stepC (c := true) (L2 := [(20, l0), (0, l1), v2, v3, (0, l4), v5, v6]) (S2 := [(0, 4), (0, 0), (20, l0)]) (M2 := M) (t := 48) (cl := 99) (vi := true) rfl rfl (nb_inv_eq (n := 3) rfl rfl rfl rfl rfl rfl (fun _ => h1) rfl)
theorem q_m_personLine_48 (l0 l1 l4 s0 : Int) (v2 v3 v5 v6 : nb_V) (M : nb_M) (h1 : l0 ≠ 0) :
    nb_R nb_P 111 48 [(20, l0), (0, l1), v2, v3, (0, l4), v5, v6] [(0, s0)] M = if nb_rd M l0 13 = 0 then nb_R nb_P 111 49 [(20, l0), (0, l1), v2, v3, (0, l4), nb_clr v5, (0, s0)] [] M else nb_R nb_P 111 51 [(20, l0), (0, l1), v2, v3, (0, l4), nb_clr v5, (0, s0)] [] M :=
  nb_step (c := (true && !decide ((l0 : Int) = 0))) rfl (by simp [h1])
theorem q_m_personLine_49 (l0 l1 l4 l6 : Int) (v2 v3 v5 : nb_V) (M : nb_M) (h1 : l0 ≠ 0) (h2 : (nb_rd M l0 16) ≠ 0) (h3 : (0 : Int) ≤ nb_add (nb_add 111 (nb_mul 5 l1)) l6) (h4 : nb_add (nb_add 111 (nb_mul 5 l1)) l6 < nb_ln M (nb_rd M l0 16)) :
    nb_R nb_P 111 49 [(20, l0), (0, l1), v2, v3, (0, l4), v5, (0, l6)] [] M = if 0 < nb_rd M (nb_rd M l0 16) (nb_add (nb_add 111 (nb_mul 5 l1)) l6) then nb_R nb_P 111 50 [(20, l0), (0, l1), v2, v3, (0, l4), v5, (0, l6)] [] M else nb_R nb_P 111 51 [(20, l0), (0, l1), v2, v3, (0, l4), v5, (0, l6)] [] M :=
  nb_step (c := ((true && !decide ((l0 : Int) = 0)) && (!decide ((nb_rd M l0 16 : Int) = 0) && (decide ((0 : Int) ≤ nb_add (nb_add 111 (nb_mul 5 l1)) l6) && decide (nb_add (nb_add 111 (nb_mul 5 l1)) l6 < nb_ln M (nb_rd M l0 16)))))) rfl (by simp [h1, h2, h3, h4])
theorem q_m_personLine_50 (l0 l1 l4 l6 : Int) (v2 v3 v5 : nb_V) (M : nb_M) (h1 : l0 ≠ 0) :
    nb_R nb_P 111 50 [(20, l0), (0, l1), v2, v3, (0, l4), v5, (0, l6)] [] M = (nb_R nb_P 92 0 [(20, l0), (0, 3), (0, nb_rd M l0 4)] [] M).bind fun r => nb_R nb_P 111 51 [(20, l0), (0, l1), v2, v3, (0, l4), v5, (0, l6)] (r.1 ++ []) r.2 :=
  nb_stepC (c := (true && !decide ((l0 : Int) = 0))) (L2 := [(20, l0), (0, l1), v2, v3, (0, l4), v5, (0, l6)]) (S2 := [(0, nb_rd M l0 4), (0, 3), (20, l0)]) (M2 := M) (t := 51) (cl := 92) (vi := true) rfl (by simp [h1]) (nb_inv_eq (n := 3) rfl rfl rfl rfl rfl rfl (fun _ => h1) rfl)
theorem q_m_personLine_51 (l0 l1 l4 l6 : Int) (v2 v3 v5 : nb_V) (M : nb_M) (h1 : l0 ≠ 0) :
    nb_R nb_P 111 51 [(20, l0), (0, l1), v2, v3, (0, l4), v5, (0, l6)] [] M = if nb_rd M l0 13 = 0 then nb_R nb_P 111 52 [(20, l0), (0, l1), v2, v3, (0, l4), v5, (0, l6)] [] M else nb_R nb_P 111 54 [(20, l0), (0, l1), v2, v3, (0, l4), v5, (0, l6)] [] M :=
  nb_step (c := (true && !decide ((l0 : Int) = 0))) rfl (by simp [h1])
theorem q_m_personLine_52 (l0 l1 l4 l6 : Int) (v2 v3 v5 : nb_V) (M : nb_M) :
    nb_R nb_P 111 52 [(20, l0), (0, l1), v2, v3, (0, l4), v5, (0, l6)] [] M = if l4 = 3 then nb_R nb_P 111 53 [(20, l0), (0, l1), v2, v3, (0, l4), v5, (0, l6)] [] M else nb_R nb_P 111 54 [(20, l0), (0, l1), v2, v3, (0, l4), v5, (0, l6)] [] M :=
  nb_step (c := true) rfl rfl
theorem q_m_personLine_53 (l0 l1 l4 l6 : Int) (v2 v3 v5 : nb_V) (M : nb_M) (h1 : l0 ≠ 0) :
    nb_R nb_P 111 53 [(20, l0), (0, l1), v2, v3, (0, l4), v5, (0, l6)] [] M = (nb_R nb_P 92 0 [(20, l0), (0, 5), (0, nb_rd M l0 4)] [] M).bind fun r => nb_R nb_P 111 54 [(20, l0), (0, l1), v2, v3, (0, l4), v5, (0, l6)] (r.1 ++ []) r.2 :=
  nb_stepC (c := (true && !decide ((l0 : Int) = 0))) (L2 := [(20, l0), (0, l1), v2, v3, (0, l4), v5, (0, l6)]) (S2 := [(0, nb_rd M l0 4), (0, 5), (20, l0)]) (M2 := M) (t := 54) (cl := 92) (vi := true) rfl (by simp [h1]) (nb_inv_eq (n := 3) rfl rfl rfl rfl rfl rfl (fun _ => h1) rfl)
theorem q_m_personLine_54 (l0 l1 l4 l6 : Int) (v2 v3 v5 : nb_V) (M : nb_M) (h1 : l0 ≠ 0) :
    nb_R nb_P 111 54 [(20, l0), (0, l1), v2, v3, (0, l4), v5, (0, l6)] [] M = if nb_rd M l0 13 = 0 then nb_R nb_P 111 56 [(20, l0), (0, l1), v2, v3, (0, l4), v5, (0, l6)] [] M else nb_R nb_P 111 55 [(20, l0), (0, l1), v2, v3, (0, l4), v5, (0, l6)] [] M :=
  nb_step (c := (true && !decide ((l0 : Int) = 0))) rfl (by simp [h1])
theorem q_m_personLine_55 (v0 v1 v2 v3 v4 v5 v6 : nb_V) (M : nb_M) :
    nb_R nb_P 111 55 [v0, v1, v2, v3, v4, v5, v6] [] M = some ([], M) :=
  nb_step (c := true) rfl rfl
theorem q_m_personLine_56 (l0 l1 l4 l6 : Int) (v2 v3 v5 : nb_V) (M : nb_M) (h1 : l0 ≠ 0) :
    nb_R nb_P 111 56 [(20, l0), (0, l1), v2, v3, (0, l4), v5, (0, l6)] [] M = (nb_R nb_P 91 0 [(20, l0), (98, 0), (98, 0), (98, 0)] [] M).bind fun r => nb_R nb_P 111 57 [(20, l0), (0, l1), v2, v3, (0, l4), v5, (0, l6)] (r.1 ++ []) r.2 :=
  nb_stepC (c := true) (L2 := [(20, l0), (0, l1), v2, v3, (0, l4), v5, (0, l6)]) (S2 := [(20, l0)]) (M2 := M) (t := 57) (cl := 91) (vi := true) rfl rfl (nb_inv_eq (n := 1) rfl rfl rfl rfl rfl rfl (fun _ => h1) rfl)
theorem q_m_personLine_57 (l0 l1 l4 l6 : Int) (v2 v3 v5 : nb_V) (M : nb_M) (h1 : l0 ≠ 0) :
    nb_R nb_P 111 57 [(20, l0), (0, l1), v2, v3, (0, l4), v5, (0, l6)] [] M = (nb_R nb_P 102 0 [(20, l0), (0, 1), (0, 9), (98, 0)] [] M).bind fun r => nb_R nb_P 111 58 [(20, l0), (0, l1), v2, v3, (0, l4), v5, (0, l6)] (r.1 ++ [(0, nb_add (nb_add 111 (nb_mul 5 l1)) l6), (3, nb_rd M l0 16)]) r.2 :=
  nb_stepC (c := (true && !decide ((l0 : Int) = 0))) (L2 := [(20, l0), (0, l1), v2, v3, (0, l4), v5, (0, l6)]) (S2 := [(0, 9), (0, 1), (20, l0), (0, nb_add (nb_add 111 (nb_mul 5 l1)) l6), (3, nb_rd M l0 16)]) (M2 := M) (t := 58) (cl := 102) (vi := true) rfl (by simp [h1]) (nb_inv_eq (n := 3) rfl rfl rfl rfl rfl rfl (fun _ => h1) rfl)
theorem q_m_personLine_58 (l0 l1 l4 s0 s1 s2 : Int) (v2 v3 v5 v6 : nb_V) (M : nb_M) (h1 : s2 ≠ 0) (h2 : s2 ≠ 1) (h3 : (0 : Int) ≤ s1) (h4 : s1 < nb_ln M s2) :
    nb_R nb_P 111 58 [(20, l0), (0, l1), v2, v3, (0, l4), v5, v6] [(0, s0), (0, s1), (3, s2)] M = nb_R nb_P 111 59 [(20, l0), (0, l1), v2, v3, (0, l4), v5, v6] [] (nb_wr M s2 s1 s0) :=
  nb_step (c := (true && (!decide ((s2 : Int) = 0) && (!decide ((s2 : Int) = 1) && (decide ((0 : Int) ≤ s1) && decide (s1 < nb_ln M s2)))))) rfl (by simp [h1, h2, h3, h4])
theorem q_m_personLine_59 (l0 l1 l4 : Int) (v2 v3 v5 v6 : nb_V) (M : nb_M) (h1 : l0 ≠ 0) :
    nb_R nb_P 111 59 [(20, l0), (0, l1), v2, v3, (0, l4), v5, v6] [] M = (nb_R nb_P 104 0 [(20, l0)] [] M).bind fun r => nb_R nb_P 111 60 [(20, l0), (0, l1), v2, nb_clr v3, (0, nb_add l4 1), v5, v6] (r.1 ++ []) r.2 :=
  nb_stepC (c := true) (L2 := [(20, l0), (0, l1), v2, nb_clr v3, (0, nb_add l4 1), v5, v6]) (S2 := [(20, l0)]) (M2 := M) (t := 60) (cl := 104) (vi := true) rfl rfl (nb_inv_eq (n := 1) rfl rfl rfl rfl rfl rfl (fun _ => h1) rfl)
theorem q_m_personLine_60 (l0 l1 l4 s0 : Int) (v2 v3 v5 v6 : nb_V) (M : nb_M) :
    nb_R nb_P 111 60 [(20, l0), (0, l1), v2, v3, (0, l4), v5, v6] [(0, s0)] M = nb_R nb_P 111 46 [(20, l0), (0, l1), v2, v3, (0, l4), (0, s0), v6] [] M :=
  nb_step (c := true) rfl rfl
theorem q_m_personLine_61 (l0 : Int) (v1 v2 v3 v4 v5 v6 : nb_V) (M : nb_M) (h1 : l0 ≠ 0) :
    nb_R nb_P 111 61 [(20, l0), v1, v2, v3, v4, v5, v6] [] M = if nb_rd M l0 13 = 0 then nb_R nb_P 111 62 [(20, l0), v1, v2, v3, v4, v5, v6] [] M else nb_R nb_P 111 63 [(20, l0), v1, v2, v3, v4, v5, v6] [] M :=
  nb_step (c := (true && !decide ((l0 : Int) = 0))) rfl (by simp [h1])
theorem q_m_personLine_62 (l0 : Int) (v1 v2 v3 v4 v5 v6 : nb_V) (M : nb_M) (h1 : l0 ≠ 0) (h2 : (nb_rd M l0 16) ≠ 0) (h3 : (0 : Int) ≤ 5) (h4 : 5 < nb_ln M (nb_rd M l0 16)) (h5 : (nb_rd M l0 16) ≠ 1) :
    nb_R nb_P 111 62 [(20, l0), v1, v2, v3, v4, v5, v6] [] M = nb_R nb_P 111 63 [(20, l0), v1, v2, v3, v4, v5, v6] [] (nb_wr M (nb_rd M l0 16) 5 (nb_add (nb_rd M (nb_rd M l0 16) 5) 1)) :=
  nb_step (c := (((true && !decide ((l0 : Int) = 0)) && (!decide ((nb_rd M l0 16 : Int) = 0) && (decide ((0 : Int) ≤ 5) && decide (5 < nb_ln M (nb_rd M l0 16))))) && (!decide ((nb_rd M l0 16 : Int) = 0) && (!decide ((nb_rd M l0 16 : Int) = 1) && (decide ((0 : Int) ≤ 5) && decide (5 < nb_ln M (nb_rd M l0 16))))))) rfl (by simp [h1, h2, h3, h4, h5])
theorem q_m_personLine_63 (v0 v1 v2 v3 v4 v5 v6 : nb_V) (M : nb_M) :
    nb_R nb_P 111 63 [v0, v1, v2, v3, v4, v5, v6] [] M = some ([], M) :=
  nb_step (c := true) rfl rfl
theorem q_m_saysLine_0 (l0 : Int) (v1 v2 : nb_V) (M : nb_M) (h1 : l0 ≠ 0) :
    nb_R nb_P 113 0 [(20, l0), v1, v2] [] M = if nb_rd M l0 13 = 0 then nb_R nb_P 113 2 [(20, l0), v1, v2] [] M else nb_R nb_P 113 1 [(20, l0), v1, v2] [] M :=
  nb_step (c := (true && !decide ((l0 : Int) = 0))) rfl (by simp [h1])
theorem q_m_saysLine_1 (v0 v1 v2 : nb_V) (M : nb_M) :
    nb_R nb_P 113 1 [v0, v1, v2] [] M = some ([], M) :=
  nb_step (c := true) rfl rfl
theorem q_m_saysLine_2 (l0 : Int) (v1 v2 : nb_V) (M : nb_M) (h1 : l0 ≠ 0) (h2 : (nb_rd M l0 16) ≠ 0) (h3 : (0 : Int) ≤ 7) (h4 : 7 < nb_ln M (nb_rd M l0 16)) :
    nb_R nb_P 113 2 [(20, l0), v1, v2] [] M = (nb_R nb_P 101 0 [(20, l0), (98, 0)] [] M).bind fun r => nb_R nb_P 113 3 [(20, l0), (0, nb_add 161 (nb_mul 3 (nb_rd M (nb_rd M l0 16) 7))), v2] (r.1 ++ [(0, nb_add 161 (nb_mul 3 (nb_rd M (nb_rd M l0 16) 7))), (3, nb_rd M l0 16)]) r.2 :=
  nb_stepC (c := (((true && !decide ((l0 : Int) = 0)) && (!decide ((nb_rd M l0 16 : Int) = 0) && (decide ((0 : Int) ≤ 7) && decide (7 < nb_ln M (nb_rd M l0 16))))) && !decide ((l0 : Int) = 0))) (L2 := [(20, l0), (0, nb_add 161 (nb_mul 3 (nb_rd M (nb_rd M l0 16) 7))), v2]) (S2 := [(20, l0), (0, nb_add 161 (nb_mul 3 (nb_rd M (nb_rd M l0 16) 7))), (3, nb_rd M l0 16)]) (M2 := M) (t := 3) (cl := 101) (vi := true) rfl (by simp [h1, h2, h3, h4]) (nb_inv_eq (n := 1) rfl rfl rfl rfl rfl rfl (fun _ => h1) rfl)
theorem q_m_saysLine_3 (l0 l1 s0 s1 s2 : Int) (v2 : nb_V) (M : nb_M) (h1 : s2 ≠ 0) (h2 : s2 ≠ 1) (h3 : (0 : Int) ≤ s1) (h4 : s1 < nb_ln M s2) :
    nb_R nb_P 113 3 [(20, l0), (0, l1), v2] [(0, s0), (0, s1), (3, s2)] M = nb_R nb_P 113 4 [(20, l0), (0, l1), v2] [] (nb_wr M s2 s1 s0) :=
  nb_step (c := (true && (!decide ((s2 : Int) = 0) && (!decide ((s2 : Int) = 1) && (decide ((0 : Int) ≤ s1) && decide (s1 < nb_ln M s2)))))) rfl (by simp [h1, h2, h3, h4])
theorem q_m_saysLine_4 (l0 l1 : Int) (v2 : nb_V) (M : nb_M) (h1 : l0 ≠ 0) :
    nb_R nb_P 113 4 [(20, l0), (0, l1), v2] [] M = (nb_R nb_P 101 0 [(20, l0), (98, 0)] [] M).bind fun r => nb_R nb_P 113 5 [(20, l0), (0, l1), v2] (r.1 ++ [(0, nb_add l1 1), (3, nb_rd M l0 16)]) r.2 :=
  nb_stepC (c := (true && !decide ((l0 : Int) = 0))) (L2 := [(20, l0), (0, l1), v2]) (S2 := [(20, l0), (0, nb_add l1 1), (3, nb_rd M l0 16)]) (M2 := M) (t := 5) (cl := 101) (vi := true) rfl (by simp [h1]) (nb_inv_eq (n := 1) rfl rfl rfl rfl rfl rfl (fun _ => h1) rfl)
theorem q_m_saysLine_5 (l0 l1 s0 s1 s2 : Int) (v2 : nb_V) (M : nb_M) (h1 : s2 ≠ 0) (h2 : s2 ≠ 1) (h3 : (0 : Int) ≤ s1) (h4 : s1 < nb_ln M s2) :
    nb_R nb_P 113 5 [(20, l0), (0, l1), v2] [(0, s0), (0, s1), (3, s2)] M = nb_R nb_P 113 6 [(20, l0), (0, l1), v2] [] (nb_wr M s2 s1 s0) :=
  nb_step (c := (true && (!decide ((s2 : Int) = 0) && (!decide ((s2 : Int) = 1) && (decide ((0 : Int) ≤ s1) && decide (s1 < nb_ln M s2)))))) rfl (by simp [h1, h2, h3, h4])
theorem q_m_saysLine_6 (l0 l1 : Int) (v2 : nb_V) (M : nb_M) (h1 : l0 ≠ 0) :
    nb_R nb_P 113 6 [(20, l0), (0, l1), v2] [] M = (nb_R nb_P 95 0 [(20, l0), (2, 30)] [] M).bind fun r => nb_R nb_P 113 7 [(20, l0), (0, l1), v2] (r.1 ++ []) r.2 :=
  nb_stepC (c := true) (L2 := [(20, l0), (0, l1), v2]) (S2 := [(2, 30), (20, l0)]) (M2 := M) (t := 7) (cl := 95) (vi := true) rfl rfl (nb_inv_eq (n := 2) rfl rfl rfl rfl rfl rfl (fun _ => h1) rfl)
theorem q_m_saysLine_7 (l0 l1 : Int) (v2 : nb_V) (M : nb_M) (h1 : l0 ≠ 0) :
    nb_R nb_P 113 7 [(20, l0), (0, l1), v2] [] M = (nb_R nb_P 100 0 [(20, l0)] [] M).bind fun r => nb_R nb_P 113 8 [(20, l0), (0, l1), v2] (r.1 ++ []) r.2 :=
  nb_stepC (c := true) (L2 := [(20, l0), (0, l1), v2]) (S2 := [(20, l0)]) (M2 := M) (t := 8) (cl := 100) (vi := true) rfl rfl (nb_inv_eq (n := 1) rfl rfl rfl rfl rfl rfl (fun _ => h1) rfl)
theorem q_m_saysLine_8 (l0 l1 s0 : Int) (v2 : nb_V) (M : nb_M) (h1 : l0 ≠ 0) :
    nb_R nb_P 113 8 [(20, l0), (0, l1), v2] [(0, s0)] M = if nb_rd M l0 13 = 0 then nb_R nb_P 113 9 [(20, l0), (0, l1), (0, s0)] [] M else nb_R nb_P 113 11 [(20, l0), (0, l1), (0, s0)] [] M :=
  nb_step (c := (true && !decide ((l0 : Int) = 0))) rfl (by simp [h1])
theorem q_m_saysLine_9 (l0 l1 l2 : Int) (M : nb_M) (h1 : l0 ≠ 0) (h2 : (nb_rd M l0 16) ≠ 0) (h3 : (0 : Int) ≤ nb_add l1 1) (h4 : nb_add l1 1 < nb_ln M (nb_rd M l0 16)) :
    nb_R nb_P 113 9 [(20, l0), (0, l1), (0, l2)] [] M = if l2 = nb_rd M (nb_rd M l0 16) (nb_add l1 1) then nb_R nb_P 113 10 [(20, l0), (0, l1), (0, l2)] [] M else nb_R nb_P 113 11 [(20, l0), (0, l1), (0, l2)] [] M :=
  nb_step (c := ((true && !decide ((l0 : Int) = 0)) && (!decide ((nb_rd M l0 16 : Int) = 0) && (decide ((0 : Int) ≤ nb_add l1 1) && decide (nb_add l1 1 < nb_ln M (nb_rd M l0 16)))))) rfl (by simp [h1, h2, h3, h4])
theorem q_m_saysLine_10 (l0 l1 l2 : Int) (M : nb_M) (h1 : l0 ≠ 0) :
    nb_R nb_P 113 10 [(20, l0), (0, l1), (0, l2)] [] M = (nb_R nb_P 92 0 [(20, l0), (0, 3), (0, nb_rd M l0 4)] [] M).bind fun r => nb_R nb_P 113 11 [(20, l0), (0, l1), (0, l2)] (r.1 ++ []) r.2 :=
  nb_stepC (c := (true && !decide ((l0 : Int) = 0))) (L2 := [(20, l0), (0, l1), (0, l2)]) (S2 := [(0, nb_rd M l0 4), (0, 3), (20, l0)]) (M2 := M) (t := 11) (cl := 92) (vi := true) rfl (by simp [h1]) (nb_inv_eq (n := 3) rfl rfl rfl rfl rfl rfl (fun _ => h1) rfl)
theorem q_m_saysLine_11 (l0 l1 l2 : Int) (M : nb_M) (h1 : l0 ≠ 0) :
    nb_R nb_P 113 11 [(20, l0), (0, l1), (0, l2)] [] M = if nb_rd M l0 13 = 0 then nb_R nb_P 113 13 [(20, l0), (0, l1), (0, l2)] [] M else nb_R nb_P 113 12 [(20, l0), (0, l1), (0, l2)] [] M :=
  nb_step (c := (true && !decide ((l0 : Int) = 0))) rfl (by simp [h1])
theorem q_m_saysLine_12 (v0 v1 v2 : nb_V) (M : nb_M) :
    nb_R nb_P 113 12 [v0, v1, v2] [] M = some ([], M) :=
  nb_step (c := true) rfl rfl
theorem q_m_saysLine_13 (l0 l1 l2 : Int) (M : nb_M) (h1 : l0 ≠ 0) :
    nb_R nb_P 113 13 [(20, l0), (0, l1), (0, l2)] [] M = (nb_R nb_P 91 0 [(20, l0), (98, 0), (98, 0), (98, 0)] [] M).bind fun r => nb_R nb_P 113 14 [(20, l0), (0, l1), (0, l2)] (r.1 ++ []) r.2 :=
  nb_stepC (c := true) (L2 := [(20, l0), (0, l1), (0, l2)]) (S2 := [(20, l0)]) (M2 := M) (t := 14) (cl := 91) (vi := true) rfl rfl (nb_inv_eq (n := 1) rfl rfl rfl rfl rfl rfl (fun _ => h1) rfl)
theorem q_m_saysLine_14 (l0 l1 l2 : Int) (M : nb_M) (h1 : l0 ≠ 0) (h2 : (nb_rd M l0 16) ≠ 0) (h3 : (nb_rd M l0 16) ≠ 1) (h4 : (0 : Int) ≤ nb_add l1 2) (h5 : nb_add l1 2 < nb_ln M (nb_rd M l0 16)) :
    nb_R nb_P 113 14 [(20, l0), (0, l1), (0, l2)] [] M = nb_R nb_P 113 15 [(20, l0), (0, l1), (0, l2)] [] (nb_wr M (nb_rd M l0 16) (nb_add l1 2) l2) :=
  nb_step (c := ((true && !decide ((l0 : Int) = 0)) && (!decide ((nb_rd M l0 16 : Int) = 0) && (!decide ((nb_rd M l0 16 : Int) = 1) && (decide ((0 : Int) ≤ nb_add l1 2) && decide (nb_add l1 2 < nb_ln M (nb_rd M l0 16))))))) rfl (by simp [h1, h2, h3, h4, h5])
theorem q_m_saysLine_15 (l0 : Int) (v1 v2 : nb_V) (M : nb_M) (h1 : l0 ≠ 0) (h2 : (nb_rd M l0 16) ≠ 0) (h3 : (0 : Int) ≤ 7) (h4 : 7 < nb_ln M (nb_rd M l0 16)) (h5 : (nb_rd M l0 16) ≠ 1) :
    nb_R nb_P 113 15 [(20, l0), v1, v2] [] M = nb_R nb_P 113 16 [(20, l0), v1, v2] [] (nb_wr M (nb_rd M l0 16) 7 (nb_add (nb_rd M (nb_rd M l0 16) 7) 1)) :=
  nb_step (c := (((true && !decide ((l0 : Int) = 0)) && (!decide ((nb_rd M l0 16 : Int) = 0) && (decide ((0 : Int) ≤ 7) && decide (7 < nb_ln M (nb_rd M l0 16))))) && (!decide ((nb_rd M l0 16 : Int) = 0) && (!decide ((nb_rd M l0 16 : Int) = 1) && (decide ((0 : Int) ≤ 7) && decide (7 < nb_ln M (nb_rd M l0 16))))))) rfl (by simp [h1, h2, h3, h4, h5])
theorem q_m_saysLine_16 (v0 v1 v2 : nb_V) (M : nb_M) :
    nb_R nb_P 113 16 [v0, v1, v2] [] M = some ([], M) :=
  nb_step (c := true) rfl rfl
theorem q_m_where_0 (l0 : Int) (M : nb_M) (h1 : l0 ≠ 0) :
    nb_R nb_P 115 0 [(20, l0)] [] M = nb_R nb_P 115 1 [(20, l0)] [] (nb_wr M l0 0 0) :=
  nb_step (c := (true && (!decide ((l0 : Int) = 0) && (!false || (decide ((0 : Int) = 0) || decide ((0 : Int) = 1)))))) rfl (by simp [h1])
theorem q_m_where_1 (l0 : Int) (M : nb_M) (h1 : l0 ≠ 0) :
    nb_R nb_P 115 1 [(20, l0)] [] M = if nb_rd M l0 11 = 4 then nb_R nb_P 115 2 [(20, l0)] [] M else nb_R nb_P 115 3 [(20, l0)] [] M :=
  nb_step (c := (true && !decide ((l0 : Int) = 0))) rfl (by simp [h1])
theorem q_m_where_2 (l0 : Int) (M : nb_M) (h1 : l0 ≠ 0) :
    nb_R nb_P 115 2 [(20, l0)] [] M = nb_R nb_P 115 4 [(20, l0)] [(0, nb_rd M l0 10)] M :=
  nb_step (c := (true && !decide ((l0 : Int) = 0))) rfl (by simp [h1])
theorem q_m_where_3 (v0 : nb_V) (M : nb_M) :
    nb_R nb_P 115 3 [v0] [] M = nb_R nb_P 115 4 [v0] [(0, (-1))] M :=
  nb_step (c := true) rfl rfl
theorem q_m_where_4 (s0 : Int) (v0 : nb_V) (M : nb_M) :
    nb_R nb_P 115 4 [v0] [(0, s0)] M = some ([(0, s0)], M) :=
  nb_step (c := true) rfl rfl
theorem q_m_isStaff_0 (l0 l1 : Int) (M : nb_M) (h1 : l0 ≠ 0) :
    nb_R nb_P 117 0 [(20, l0), (0, l1)] [] M = if nb_rd M l0 14 = 0 then nb_R nb_P 117 4 [(20, l0), (0, l1)] [] M else nb_R nb_P 117 1 [(20, l0), (0, l1)] [] M :=
  nb_step (c := (true && !decide ((l0 : Int) = 0))) rfl (by simp [h1])
theorem q_m_isStaff_1 (l0 l1 : Int) (M : nb_M) (h1 : l0 ≠ 0) (h2 : (nb_rd M l0 15) ≠ 0) (h3 : (0 : Int) ≤ 4) (h4 : 4 < nb_ln M (nb_rd M l0 15)) :
    nb_R nb_P 117 1 [(20, l0), (0, l1)] [] M = (nb_R nb_P 83 0 [(0, l1), (0, 0), (0, nb_sub (nb_rd M (nb_rd M l0 15) 4) 1)] [] M).bind fun r => nb_R nb_P 117 2 [(20, l0), (0, l1)] (r.1 ++ []) r.2 :=
  nb_stepC (c := ((true && !decide ((l0 : Int) = 0)) && (!decide ((nb_rd M l0 15 : Int) = 0) && (decide ((0 : Int) ≤ 4) && decide (4 < nb_ln M (nb_rd M l0 15)))))) (L2 := [(20, l0), (0, l1)]) (S2 := [(0, nb_sub (nb_rd M (nb_rd M l0 15) 4) 1), (0, 0), (0, l1)]) (M2 := M) (t := 2) (cl := 83) (vi := false) rfl (by simp [h1, h2, h3, h4]) (nb_inv_eq (n := 3) rfl rfl rfl rfl rfl rfl (fun h => by cases h) rfl)
theorem q_m_isStaff_2 (s0 : Int) (v0 v1 : nb_V) (M : nb_M) :
    nb_R nb_P 117 2 [v0, v1] [(0, s0)] M = if s0 = 0 then nb_R nb_P 117 4 [v0, v1] [] M else nb_R nb_P 117 3 [v0, v1] [] M :=
  nb_step (c := true) rfl rfl
theorem q_m_isStaff_3 (v0 v1 : nb_V) (M : nb_M) :
    nb_R nb_P 117 3 [v0, v1] [] M = nb_R nb_P 117 5 [v0, v1] [(0, 1)] M :=
  nb_step (c := true) rfl rfl
theorem q_m_isStaff_4 (v0 v1 : nb_V) (M : nb_M) :
    nb_R nb_P 117 4 [v0, v1] [] M = nb_R nb_P 117 5 [v0, v1] [(0, 0)] M :=
  nb_step (c := true) rfl rfl
theorem q_m_isStaff_5 (s0 : Int) (v0 v1 : nb_V) (M : nb_M) :
    nb_R nb_P 117 5 [v0, v1] [(0, s0)] M = some ([(0, nb_i2z s0)], M) :=
  nb_step (c := true) rfl rfl
theorem q_m_isDrink_0 (l0 l1 : Int) (M : nb_M) (h1 : l0 ≠ 0) :
    nb_R nb_P 119 0 [(20, l0), (0, l1)] [] M = if nb_rd M l0 14 = 0 then nb_R nb_P 119 4 [(20, l0), (0, l1)] [] M else nb_R nb_P 119 1 [(20, l0), (0, l1)] [] M :=
  nb_step (c := (true && !decide ((l0 : Int) = 0))) rfl (by simp [h1])
theorem q_m_isDrink_1 (l0 l1 : Int) (M : nb_M) (h1 : l0 ≠ 0) (h2 : (nb_rd M l0 15) ≠ 0) (h3 : (0 : Int) ≤ 3) (h4 : 3 < nb_ln M (nb_rd M l0 15)) :
    nb_R nb_P 119 1 [(20, l0), (0, l1)] [] M = (nb_R nb_P 83 0 [(0, l1), (0, 0), (0, nb_sub (nb_rd M (nb_rd M l0 15) 3) 1)] [] M).bind fun r => nb_R nb_P 119 2 [(20, l0), (0, l1)] (r.1 ++ []) r.2 :=
  nb_stepC (c := ((true && !decide ((l0 : Int) = 0)) && (!decide ((nb_rd M l0 15 : Int) = 0) && (decide ((0 : Int) ≤ 3) && decide (3 < nb_ln M (nb_rd M l0 15)))))) (L2 := [(20, l0), (0, l1)]) (S2 := [(0, nb_sub (nb_rd M (nb_rd M l0 15) 3) 1), (0, 0), (0, l1)]) (M2 := M) (t := 2) (cl := 83) (vi := false) rfl (by simp [h1, h2, h3, h4]) (nb_inv_eq (n := 3) rfl rfl rfl rfl rfl rfl (fun h => by cases h) rfl)
theorem q_m_isDrink_2 (s0 : Int) (v0 v1 : nb_V) (M : nb_M) :
    nb_R nb_P 119 2 [v0, v1] [(0, s0)] M = if s0 = 0 then nb_R nb_P 119 4 [v0, v1] [] M else nb_R nb_P 119 3 [v0, v1] [] M :=
  nb_step (c := true) rfl rfl
theorem q_m_isDrink_3 (v0 v1 : nb_V) (M : nb_M) :
    nb_R nb_P 119 3 [v0, v1] [] M = nb_R nb_P 119 5 [v0, v1] [(0, 1)] M :=
  nb_step (c := true) rfl rfl
theorem q_m_isDrink_4 (v0 v1 : nb_V) (M : nb_M) :
    nb_R nb_P 119 4 [v0, v1] [] M = nb_R nb_P 119 5 [v0, v1] [(0, 0)] M :=
  nb_step (c := true) rfl rfl
theorem q_m_isDrink_5 (s0 : Int) (v0 v1 : nb_V) (M : nb_M) :
    nb_R nb_P 119 5 [v0, v1] [(0, s0)] M = some ([(0, nb_i2z s0)], M) :=
  nb_step (c := true) rfl rfl
theorem q_m_asTold_0 (l0 : Int) (M : nb_M) (h1 : l0 ≠ 0) (h2 : (nb_rd M l0 15) ≠ 0) (h3 : (0 : Int) ≤ 4) (h4 : 4 < nb_ln M (nb_rd M l0 15)) :
    nb_R nb_P 121 0 [(20, l0)] [] M = nb_R nb_P 121 1 [(20, l0)] [] (nb_wr M l0 25 (nb_rd M (nb_rd M l0 15) 4)) :=
  nb_step (c := (((true && !decide ((l0 : Int) = 0)) && (!decide ((nb_rd M l0 15 : Int) = 0) && (decide ((0 : Int) ≤ 4) && decide (4 < nb_ln M (nb_rd M l0 15))))) && (!decide ((l0 : Int) = 0) && (!false || (decide ((nb_rd M (nb_rd M l0 15) 4 : Int) = 0) || decide ((nb_rd M (nb_rd M l0 15) 4 : Int) = 1)))))) rfl (by simp [h1, h2, h3, h4])
theorem q_m_asTold_1 (l0 : Int) (M : nb_M) (h1 : l0 ≠ 0) :
    nb_R nb_P 121 1 [(20, l0)] [] M = (nb_R nb_P 86 0 [(3, nb_rd M l0 15), (0, 23), (3, nb_rd M l0 23), (0, 0), (0, 18), (98, 0)] [] M).bind fun r => nb_R nb_P 121 2 [(20, l0)] (r.1 ++ []) r.2 :=
  nb_stepC (c := ((true && !decide ((l0 : Int) = 0)) && !decide ((l0 : Int) = 0))) (L2 := [(20, l0)]) (S2 := [(0, 18), (0, 0), (3, nb_rd M l0 23), (0, 23), (3, nb_rd M l0 15)]) (M2 := M) (t := 2) (cl := 86) (vi := false) rfl (by simp [h1]) (nb_inv_eq (n := 5) rfl rfl rfl rfl rfl rfl (fun h => by cases h) rfl)
theorem q_m_asTold_2 (l0 : Int) (M : nb_M) (h1 : l0 ≠ 0) :
    nb_R nb_P 121 2 [(20, l0)] [] M = (nb_R nb_P 86 0 [(3, nb_rd M l0 15), (0, 41), (3, nb_rd M l0 24), (0, 0), (0, 70), (98, 0)] [] M).bind fun r => nb_R nb_P 121 3 [(20, l0)] (r.1 ++ []) r.2 :=
  nb_stepC (c := ((true && !decide ((l0 : Int) = 0)) && !decide ((l0 : Int) = 0))) (L2 := [(20, l0)]) (S2 := [(0, 70), (0, 0), (3, nb_rd M l0 24), (0, 41), (3, nb_rd M l0 15)]) (M2 := M) (t := 3) (cl := 86) (vi := false) rfl (by simp [h1]) (nb_inv_eq (n := 5) rfl rfl rfl rfl rfl rfl (fun h => by cases h) rfl)
theorem q_m_asTold_3 (v0 : nb_V) (M : nb_M) :
    nb_R nb_P 121 3 [v0] [] M = some ([], M) :=
  nb_step (c := true) rfl rfl
theorem q_m_saysFirst_0 (l0 l1 : Int) (v2 : nb_V) (M : nb_M) (h1 : l0 ≠ 0) :
    nb_R nb_P 123 0 [(20, l0), (0, l1), v2] [] M = (nb_R nb_P 122 0 [(20, l0), (0, l1), (0, 0)] [] M).bind fun r => nb_R nb_P 123 1 [(20, l0), (0, l1), v2] (r.1 ++ []) r.2 :=
  nb_stepC (c := true) (L2 := [(20, l0), (0, l1), v2]) (S2 := [(0, 0), (0, l1), (20, l0)]) (M2 := M) (t := 1) (cl := 122) (vi := true) rfl rfl (nb_inv_eq (n := 3) rfl rfl rfl rfl rfl rfl (fun _ => h1) rfl)
theorem q_m_saysFirst_1 (l0 l1 s0 : Int) (v2 : nb_V) (M : nb_M) (h1 : l0 ≠ 0) :
    nb_R nb_P 123 1 [(20, l0), (0, l1), v2] [(0, s0)] M = (nb_R nb_P 122 0 [(20, l0), (0, l1), (0, 2)] [] M).bind fun r => nb_R nb_P 123 2 [(20, l0), (0, l1), (0, s0)] (r.1 ++ []) r.2 :=
  nb_stepC (c := true) (L2 := [(20, l0), (0, l1), (0, s0)]) (S2 := [(0, 2), (0, l1), (20, l0)]) (M2 := M) (t := 2) (cl := 122) (vi := true) rfl rfl (nb_inv_eq (n := 3) rfl rfl rfl rfl rfl rfl (fun _ => h1) rfl)
theorem q_m_saysFirst_2 (l0 l1 l2 s0 : Int) (M : nb_M) :
    nb_R nb_P 123 2 [(20, l0), (0, l1), (0, l2)] [(0, s0)] M = if l2 = 1 then nb_R nb_P 123 3 [(20, l0), (0, l1), (0, l2)] [(0, s0)] M else nb_R nb_P 123 5 [(20, l0), (0, l1), (0, l2)] [(0, s0)] M :=
  nb_step (c := true) rfl rfl
theorem q_m_saysFirst_3 (l0 l1 s0 : Int) (v2 : nb_V) (M : nb_M) (h1 : l0 ≠ 0) :
    nb_R nb_P 123 3 [(20, l0), (0, l1), v2] [(0, s0)] M = (nb_R nb_P 122 0 [(20, l0), (0, l1), (0, 1)] [] M).bind fun r => nb_R nb_P 123 4 [(20, l0), (0, l1), v2] (r.1 ++ [(0, s0)]) r.2 :=
  nb_stepC (c := true) (L2 := [(20, l0), (0, l1), v2]) (S2 := [(0, 1), (0, l1), (20, l0), (0, s0)]) (M2 := M) (t := 4) (cl := 122) (vi := true) rfl rfl (nb_inv_eq (n := 3) rfl rfl rfl rfl rfl rfl (fun _ => h1) rfl)
theorem q_m_saysFirst_4 (s0 s1 : Int) (v0 v1 v2 : nb_V) (M : nb_M) :
    nb_R nb_P 123 4 [v0, v1, v2] [(0, s0), (0, s1)] M = nb_R nb_P 123 9 [v0, v1, v2] [(0, nb_neg s0), (0, s1)] M :=
  nb_step (c := true) rfl rfl
theorem q_m_saysFirst_5 (l0 l1 l2 s0 : Int) (M : nb_M) :
    nb_R nb_P 123 5 [(20, l0), (0, l1), (0, l2)] [(0, s0)] M = if l2 = 2 then nb_R nb_P 123 6 [(20, l0), (0, l1), (0, l2)] [(0, s0)] M else nb_R nb_P 123 8 [(20, l0), (0, l1), (0, l2)] [(0, s0)] M :=
  nb_step (c := true) rfl rfl
theorem q_m_saysFirst_6 (l0 l1 s0 : Int) (v2 : nb_V) (M : nb_M) (h1 : l0 ≠ 0) :
    nb_R nb_P 123 6 [(20, l0), (0, l1), v2] [(0, s0)] M = (nb_R nb_P 122 0 [(20, l0), (0, l1), (0, 1)] [] M).bind fun r => nb_R nb_P 123 7 [(20, l0), (0, l1), v2] (r.1 ++ [(0, s0)]) r.2 :=
  nb_stepC (c := true) (L2 := [(20, l0), (0, l1), v2]) (S2 := [(0, 1), (0, l1), (20, l0), (0, s0)]) (M2 := M) (t := 7) (cl := 122) (vi := true) rfl rfl (nb_inv_eq (n := 3) rfl rfl rfl rfl rfl rfl (fun _ => h1) rfl)
theorem q_m_saysFirst_7 (s0 s1 : Int) (v0 v1 v2 : nb_V) (M : nb_M) :
    nb_R nb_P 123 7 [v0, v1, v2] [(0, s0), (0, s1)] M = nb_R nb_P 123 9 [v0, v1, v2] [(0, s0), (0, s1)] M :=
  nb_step (c := true) rfl rfl
theorem q_m_saysFirst_8 (s0 : Int) (v0 v1 v2 : nb_V) (M : nb_M) :
    nb_R nb_P 123 8 [v0, v1, v2] [(0, s0)] M = nb_R nb_P 123 9 [v0, v1, v2] [(0, 0), (0, s0)] M :=
  nb_step (c := true) rfl rfl
theorem q_m_saysFirst_9 (s0 s1 : Int) (v0 v1 v2 : nb_V) (M : nb_M) :
    nb_R nb_P 123 9 [v0, v1, v2] [(0, s0), (0, s1)] M = some ([(0, nb_add s1 s0)], M) :=
  nb_step (c := true) rfl rfl
theorem q_m_its_0 (l0 l1 l2 : Int) (M : nb_M) (h1 : l0 ≠ 0) (h2 : (0 : Int) ≤ nb_add (nb_add 12 (nb_mul 8 l1)) l2) (h3 : nb_add (nb_add 12 (nb_mul 8 l1)) l2 < nb_ln M l0) :
    nb_R nb_P 125 0 [(3, l0), (0, l1), (0, l2)] [] M = some ([(0, nb_rd M l0 (nb_add (nb_add 12 (nb_mul 8 l1)) l2))], M) :=
  nb_step (c := (true && (!decide ((l0 : Int) = 0) && (decide ((0 : Int) ≤ nb_add (nb_add 12 (nb_mul 8 l1)) l2) && decide (nb_add (nb_add 12 (nb_mul 8 l1)) l2 < nb_ln M l0))))) rfl (by simp [h1, h2, h3])
theorem q_m_far_0 (l0 l1 : Int) (M : nb_M) :
    nb_R nb_P 127 0 [(0, l0), (0, l1)] [] M = if l0 < l1 then nb_R nb_P 127 1 [(0, l0), (0, l1)] [] M else nb_R nb_P 127 2 [(0, l0), (0, l1)] [] M :=
  nb_step (c := true) rfl rfl
theorem q_m_far_1 (l0 l1 : Int) (M : nb_M) :
    nb_R nb_P 127 1 [(0, l0), (0, l1)] [] M = nb_R nb_P 127 3 [(0, l0), (0, l1)] [(0, nb_sub l1 l0)] M :=
  nb_step (c := true) rfl rfl
theorem q_m_far_2 (l0 l1 : Int) (M : nb_M) :
    nb_R nb_P 127 2 [(0, l0), (0, l1)] [] M = nb_R nb_P 127 3 [(0, l0), (0, l1)] [(0, nb_sub l0 l1)] M :=
  nb_step (c := true) rfl rfl
theorem q_m_far_3 (s0 : Int) (v0 v1 : nb_V) (M : nb_M) :
    nb_R nb_P 127 3 [v0, v1] [(0, s0)] M = some ([(0, s0)], M) :=
  nb_step (c := true) rfl rfl
theorem q_m_timeBehind_0 (l0 l1 l2 : Int) (v3 v4 v5 v6 : nb_V) (M : nb_M) :
    nb_R nb_P 129 0 [(20, l0), (0, l1), (0, l2), v3, v4, v5, v6] [] M = nb_R nb_P 129 1 [(20, l0), (0, l1), (0, l2), (0, 0), (0, 0), v5, v6] [] M :=
  nb_step (c := true) rfl rfl
theorem q_m_timeBehind_1 (l0 l1 l2 l3 l4 : Int) (v5 v6 : nb_V) (M : nb_M) :
    nb_R nb_P 129 1 [(20, l0), (0, l1), (0, l2), (0, l3), (0, l4), v5, v6] [] M = if l4 < 5 then nb_R nb_P 129 2 [(20, l0), (0, l1), (0, l2), (0, l3), (0, l4), v5, v6] [] M else nb_R nb_P 129 10 [(20, l0), (0, l1), (0, l2), (0, l3), (0, l4), v5, v6] [] M :=
  nb_step (c := true) rfl rfl
theorem q_m_timeBehind_2 (l0 l1 l2 l3 l4 : Int) (v5 v6 : nb_V) (M : nb_M) (h1 : l0 ≠ 0) :
    nb_R nb_P 129 2 [(20, l0), (0, l1), (0, l2), (0, l3), (0, l4), v5, v6] [] M = (nb_R nb_P 120 0 [(20, l0), (0, l2), (0, l4)] [] M).bind fun r => nb_R nb_P 129 3 [(20, l0), (0, l1), (0, l2), (0, l3), (0, l4), v5, v6] (r.1 ++ []) r.2 :=
  nb_stepC (c := true) (L2 := [(20, l0), (0, l1), (0, l2), (0, l3), (0, l4), v5, v6]) (S2 := [(0, l4), (0, l2), (20, l0)]) (M2 := M) (t := 3) (cl := 120) (vi := true) rfl rfl (nb_inv_eq (n := 3) rfl rfl rfl rfl rfl rfl (fun _ => h1) rfl)
theorem q_m_timeBehind_3 (l0 l1 l2 l3 l4 s0 : Int) (v5 v6 : nb_V) (M : nb_M) :
    nb_R nb_P 129 3 [(20, l0), (0, l1), (0, l2), (0, l3), (0, l4), v5, v6] [(0, s0)] M = if s0 = 0 then nb_R nb_P 129 4 [(20, l0), (0, l1), (0, l2), (0, l3), (0, l4), (0, s0), v6] [] M else nb_R nb_P 129 5 [(20, l0), (0, l1), (0, l2), (0, l3), (0, l4), (0, s0), v6] [] M :=
  nb_step (c := true) rfl rfl
theorem q_m_timeBehind_4 (l0 l1 l2 l3 l4 : Int) (v5 v6 : nb_V) (M : nb_M) :
    nb_R nb_P 129 4 [(20, l0), (0, l1), (0, l2), (0, l3), (0, l4), v5, v6] [] M = nb_R nb_P 129 9 [(20, l0), (0, l1), (0, l2), (0, l3), (0, l4), v5, v6] [] M :=
  nb_step (c := true) rfl rfl
theorem q_m_timeBehind_5 (l0 l1 l2 l3 l4 l5 : Int) (v6 : nb_V) (M : nb_M) (h1 : l0 ≠ 0) (h2 : (nb_rd M l0 15) ≠ 0) (h3 : (0 : Int) ≤ nb_add (nb_add 8 (nb_mul 3 l4)) 1) (h4 : nb_add (nb_add 8 (nb_mul 3 l4)) 1 < nb_ln M (nb_rd M l0 15)) :
    nb_R nb_P 129 5 [(20, l0), (0, l1), (0, l2), (0, l3), (0, l4), (0, l5), v6] [] M = if l1 < 0 then nb_R nb_P 129 8 [(20, l0), (0, l1), (0, l2), (0, nb_add l3 (nb_mul l5 (nb_rd M (nb_rd M l0 15) (nb_add (nb_add 8 (nb_mul 3 l4)) 1)))), (0, l4), (0, l5), (0, nb_rd M (nb_rd M l0 15) (nb_add (nb_add 8 (nb_mul 3 l4)) 1))] [] M else nb_R nb_P 129 6 [(20, l0), (0, l1), (0, l2), (0, nb_add l3 (nb_mul l5 (nb_rd M (nb_rd M l0 15) (nb_add (nb_add 8 (nb_mul 3 l4)) 1)))), (0, l4), (0, l5), (0, nb_rd M (nb_rd M l0 15) (nb_add (nb_add 8 (nb_mul 3 l4)) 1))] [] M :=
  nb_step (c := ((true && !decide ((l0 : Int) = 0)) && (!decide ((nb_rd M l0 15 : Int) = 0) && (decide ((0 : Int) ≤ nb_add (nb_add 8 (nb_mul 3 l4)) 1) && decide (nb_add (nb_add 8 (nb_mul 3 l4)) 1 < nb_ln M (nb_rd M l0 15)))))) rfl (by simp [h1, h2, h3, h4])
theorem q_m_timeBehind_6 (l0 l1 l2 l3 l4 l6 : Int) (v5 : nb_V) (M : nb_M) (h1 : l0 ≠ 0) :
    nb_R nb_P 129 6 [(20, l0), (0, l1), (0, l2), (0, l3), (0, l4), v5, (0, l6)] [] M = (nb_R nb_P 120 0 [(20, l0), (0, l1), (0, l4)] [] M).bind fun r => nb_R nb_P 129 7 [(20, l0), (0, l1), (0, l2), (0, l3), (0, l4), v5, (0, l6)] (r.1 ++ []) r.2 :=
  nb_stepC (c := true) (L2 := [(20, l0), (0, l1), (0, l2), (0, l3), (0, l4), v5, (0, l6)]) (S2 := [(0, l4), (0, l1), (20, l0)]) (M2 := M) (t := 7) (cl := 120) (vi := true) rfl rfl (nb_inv_eq (n := 3) rfl rfl rfl rfl rfl rfl (fun _ => h1) rfl)
theorem q_m_timeBehind_7 (l0 l1 l2 l3 l4 l6 s0 : Int) (v5 : nb_V) (M : nb_M) :
    nb_R nb_P 129 7 [(20, l0), (0, l1), (0, l2), (0, l3), (0, l4), v5, (0, l6)] [(0, s0)] M = if s0 = 0 then nb_R nb_P 129 8 [(20, l0), (0, l1), (0, l2), (0, l3), (0, l4), v5, (0, l6)] [] M else nb_R nb_P 129 9 [(20, l0), (0, l1), (0, l2), (0, l3), (0, l4), v5, (0, l6)] [] M :=
  nb_step (c := true) rfl rfl
theorem q_m_timeBehind_8 (l0 l1 l2 l3 l4 l6 : Int) (v5 : nb_V) (M : nb_M) (h1 : l0 ≠ 0) (h2 : (nb_rd M l0 15) ≠ 0) (h3 : (0 : Int) ≤ nb_add 8 (nb_mul 3 l4)) (h4 : nb_add 8 (nb_mul 3 l4) < nb_ln M (nb_rd M l0 15)) :
    nb_R nb_P 129 8 [(20, l0), (0, l1), (0, l2), (0, l3), (0, l4), v5, (0, l6)] [] M = nb_R nb_P 129 9 [(20, l0), (0, l1), (0, l2), (0, nb_add l3 (nb_sub (nb_rd M (nb_rd M l0 15) (nb_add 8 (nb_mul 3 l4))) l6)), (0, l4), v5, (0, l6)] [] M :=
  nb_step (c := ((true && !decide ((l0 : Int) = 0)) && (!decide ((nb_rd M l0 15 : Int) = 0) && (decide ((0 : Int) ≤ nb_add 8 (nb_mul 3 l4)) && decide (nb_add 8 (nb_mul 3 l4) < nb_ln M (nb_rd M l0 15)))))) rfl (by simp [h1, h2, h3, h4])
theorem q_m_timeBehind_9 (l0 l1 l2 l3 l4 : Int) (v5 v6 : nb_V) (M : nb_M) :
    nb_R nb_P 129 9 [(20, l0), (0, l1), (0, l2), (0, l3), (0, l4), v5, v6] [] M = nb_R nb_P 129 1 [(20, l0), (0, l1), (0, l2), (0, l3), (0, nb_add l4 1), v5, v6] [] M :=
  nb_step (c := true) rfl rfl
theorem q_m_timeBehind_10 (l3 : Int) (v0 v1 v2 v4 v5 v6 : nb_V) (M : nb_M) :
    nb_R nb_P 129 10 [v0, v1, v2, (0, l3), v4, v5, v6] [] M = some ([(0, l3)], M) :=
  nb_step (c := true) rfl rfl
theorem q_m_nextFor_0 (l0 l1 l2 : Int) (v3 v4 v5 v6 : nb_V) (M : nb_M) :
    nb_R nb_P 131 0 [(20, l0), (3, l1), (0, l2), v3, v4, v5, v6] [] M = nb_R nb_P 131 1 [(20, l0), (3, l1), (0, l2), (0, (-2)), (0, 0), v5, v6] [] M :=
  nb_step (c := true) rfl rfl
theorem q_m_nextFor_1 (l0 l1 l2 l3 l4 : Int) (v5 v6 : nb_V) (M : nb_M) (h1 : l0 ≠ 0) (h2 : (nb_rd M l0 15) ≠ 0) (h3 : (0 : Int) ≤ 5) (h4 : 5 < nb_ln M (nb_rd M l0 15)) :
    nb_R nb_P 131 1 [(20, l0), (3, l1), (0, l2), (0, l3), (0, l4), v5, v6] [] M = if l4 < nb_rd M (nb_rd M l0 15) 5 then nb_R nb_P 131 2 [(20, l0), (3, l1), (0, l2), (0, l3), (0, l4), v5, v6] [] M else nb_R nb_P 131 19 [(20, l0), (3, l1), (0, l2), (0, l3), (0, l4), v5, v6] [] M :=
  nb_step (c := ((true && !decide ((l0 : Int) = 0)) && (!decide ((nb_rd M l0 15 : Int) = 0) && (decide ((0 : Int) ≤ 5) && decide (5 < nb_ln M (nb_rd M l0 15)))))) rfl (by simp [h1, h2, h3, h4])
theorem q_m_nextFor_2 (l0 l1 l2 l3 l4 : Int) (v5 v6 : nb_V) (M : nb_M) :
    nb_R nb_P 131 2 [(20, l0), (3, l1), (0, l2), (0, l3), (0, l4), v5, v6] [] M = (nb_R nb_P 126 0 [(3, l1), (0, l4)] [] M).bind fun r => nb_R nb_P 131 3 [(20, l0), (3, l1), (0, l2), (0, l3), (0, l4), v5, v6] (r.1 ++ []) r.2 :=
  nb_stepC (c := true) (L2 := [(20, l0), (3, l1), (0, l2), (0, l3), (0, l4), v5, v6]) (S2 := [(0, l4), (3, l1)]) (M2 := M) (t := 3) (cl := 126) (vi := false) rfl rfl (nb_inv_eq (n := 2) rfl rfl rfl rfl rfl rfl (fun h => by cases h) rfl)
theorem q_m_nextFor_3 (l0 l1 l2 l3 l4 s0 : Int) (v5 v6 : nb_V) (M : nb_M) :
    nb_R nb_P 131 3 [(20, l0), (3, l1), (0, l2), (0, l3), (0, l4), v5, v6] [(0, s0)] M = if s0 = 0 then nb_R nb_P 131 18 [(20, l0), (3, l1), (0, l2), (0, l3), (0, l4), v5, v6] [] M else nb_R nb_P 131 4 [(20, l0), (3, l1), (0, l2), (0, l3), (0, l4), v5, v6] [] M :=
  nb_step (c := true) rfl rfl
theorem q_m_nextFor_4 (l0 l1 l2 l3 l4 : Int) (v5 v6 : nb_V) (M : nb_M) :
    nb_R nb_P 131 4 [(20, l0), (3, l1), (0, l2), (0, l3), (0, l4), v5, v6] [] M = (nb_R nb_P 125 0 [(3, l1), (0, l4), (0, 1)] [] M).bind fun r => nb_R nb_P 131 5 [(20, l0), (3, l1), (0, l2), (0, l3), (0, l4), v5, v6] (r.1 ++ []) r.2 :=
  nb_stepC (c := true) (L2 := [(20, l0), (3, l1), (0, l2), (0, l3), (0, l4), v5, v6]) (S2 := [(0, 1), (0, l4), (3, l1)]) (M2 := M) (t := 5) (cl := 125) (vi := false) rfl rfl (nb_inv_eq (n := 3) rfl rfl rfl rfl rfl rfl (fun h => by cases h) rfl)
theorem q_m_nextFor_5 (l0 l1 l2 l3 l4 s0 : Int) (v5 v6 : nb_V) (M : nb_M) (h1 : l0 ≠ 0) (h2 : (nb_rd M l0 23) ≠ 0) (h3 : (0 : Int) ≤ nb_add (nb_mul 6 l2) 2) (h4 : nb_add (nb_mul 6 l2) 2 < nb_ln M (nb_rd M l0 23)) (h5 : (0 : Int) ≤ nb_add (nb_mul 6 l2) 3) (h6 : nb_add (nb_mul 6 l2) 3 < nb_ln M (nb_rd M l0 23)) :
    nb_R nb_P 131 5 [(20, l0), (3, l1), (0, l2), (0, l3), (0, l4), v5, v6] [(0, s0)] M = (nb_R nb_P 83 0 [(0, s0), (0, nb_rd M (nb_rd M l0 23) (nb_add (nb_mul 6 l2) 2)), (0, nb_rd M (nb_rd M l0 23) (nb_add (nb_mul 6 l2) 3))] [] M).bind fun r => nb_R nb_P 131 6 [(20, l0), (3, l1), (0, l2), (0, l3), (0, l4), v5, v6] (r.1 ++ []) r.2 :=
  nb_stepC (c := ((((true && !decide ((l0 : Int) = 0)) && (!decide ((nb_rd M l0 23 : Int) = 0) && (decide ((0 : Int) ≤ nb_add (nb_mul 6 l2) 2) && decide (nb_add (nb_mul 6 l2) 2 < nb_ln M (nb_rd M l0 23))))) && !decide ((l0 : Int) = 0)) && (!decide ((nb_rd M l0 23 : Int) = 0) && (decide ((0 : Int) ≤ nb_add (nb_mul 6 l2) 3) && decide (nb_add (nb_mul 6 l2) 3 < nb_ln M (nb_rd M l0 23)))))) (L2 := [(20, l0), (3, l1), (0, l2), (0, l3), (0, l4), v5, v6]) (S2 := [(0, nb_rd M (nb_rd M l0 23) (nb_add (nb_mul 6 l2) 3)), (0, nb_rd M (nb_rd M l0 23) (nb_add (nb_mul 6 l2) 2)), (0, s0)]) (M2 := M) (t := 6) (cl := 83) (vi := false) rfl (by simp [h1, h2, h3, h4, h5, h6]) (nb_inv_eq (n := 3) rfl rfl rfl rfl rfl rfl (fun h => by cases h) rfl)
theorem q_m_nextFor_6 (l0 l1 l2 l3 l4 s0 : Int) (v5 v6 : nb_V) (M : nb_M) :
    nb_R nb_P 131 6 [(20, l0), (3, l1), (0, l2), (0, l3), (0, l4), v5, v6] [(0, s0)] M = if s0 = 0 then nb_R nb_P 131 7 [(20, l0), (3, l1), (0, l2), (0, l3), (0, l4), v5, v6] [] M else nb_R nb_P 131 8 [(20, l0), (3, l1), (0, l2), (0, l3), (0, l4), v5, v6] [] M :=
  nb_step (c := true) rfl rfl
theorem q_m_nextFor_7 (l0 l1 l2 l3 l4 : Int) (v5 v6 : nb_V) (M : nb_M) :
    nb_R nb_P 131 7 [(20, l0), (3, l1), (0, l2), (0, l3), (0, l4), v5, v6] [] M = nb_R nb_P 131 18 [(20, l0), (3, l1), (0, l2), (0, l3), (0, l4), v5, v6] [] M :=
  nb_step (c := true) rfl rfl
theorem q_m_nextFor_8 (l0 l1 l2 l3 l4 : Int) (v5 v6 : nb_V) (M : nb_M) :
    nb_R nb_P 131 8 [(20, l0), (3, l1), (0, l2), (0, l3), (0, l4), v5, v6] [] M = if l3 = (-2) then nb_R nb_P 131 9 [(20, l0), (3, l1), (0, l2), (0, l3), (0, l4), v5, v6] [] M else nb_R nb_P 131 10 [(20, l0), (3, l1), (0, l2), (0, l3), (0, l4), v5, v6] [] M :=
  nb_step (c := true) rfl rfl
theorem q_m_nextFor_9 (l0 l1 l2 l4 : Int) (v3 v5 v6 : nb_V) (M : nb_M) :
    nb_R nb_P 131 9 [(20, l0), (3, l1), (0, l2), v3, (0, l4), v5, v6] [] M = nb_R nb_P 131 18 [(20, l0), (3, l1), (0, l2), (0, l4), (0, l4), v5, v6] [] M :=
  nb_step (c := true) rfl rfl
theorem q_m_nextFor_10 (l0 l1 l2 l3 l4 : Int) (v5 v6 : nb_V) (M : nb_M) (h1 : l0 ≠ 0) :
    nb_R nb_P 131 10 [(20, l0), (3, l1), (0, l2), (0, l3), (0, l4), v5, v6] [] M = (nb_R nb_P 130 0 [(20, l0), (3, l1), (0, l2), (0, l4), (98, 0), (98, 0)] [] M).bind fun r => nb_R nb_P 131 11 [(20, l0), (3, l1), (0, l2), (0, l3), (0, l4), v5, v6] (r.1 ++ []) r.2 :=
  nb_stepC (c := true) (L2 := [(20, l0), (3, l1), (0, l2), (0, l3), (0, l4), v5, v6]) (S2 := [(0, l4), (0, l2), (3, l1), (20, l0)]) (M2 := M) (t := 11) (cl := 130) (vi := true) rfl rfl (nb_inv_eq (n := 4) rfl rfl rfl rfl rfl rfl (fun _ => h1) rfl)
theorem q_m_nextFor_11 (l0 l1 l2 l3 l4 s0 : Int) (v5 v6 : nb_V) (M : nb_M) (h1 : l0 ≠ 0) :
    nb_R nb_P 131 11 [(20, l0), (3, l1), (0, l2), (0, l3), (0, l4), v5, v6] [(0, s0)] M = (nb_R nb_P 130 0 [(20, l0), (3, l1), (0, l2), (0, l3), (98, 0), (98, 0)] [] M).bind fun r => nb_R nb_P 131 12 [(20, l0), (3, l1), (0, l2), (0, l3), (0, l4), (0, s0), v6] (r.1 ++ []) r.2 :=
  nb_stepC (c := true) (L2 := [(20, l0), (3, l1), (0, l2), (0, l3), (0, l4), (0, s0), v6]) (S2 := [(0, l3), (0, l2), (3, l1), (20, l0)]) (M2 := M) (t := 12) (cl := 130) (vi := true) rfl rfl (nb_inv_eq (n := 4) rfl rfl rfl rfl rfl rfl (fun _ => h1) rfl)
theorem q_m_nextFor_12 (l0 l1 l2 l3 l4 l5 s0 : Int) (v6 : nb_V) (M : nb_M) :
    nb_R nb_P 131 12 [(20, l0), (3, l1), (0, l2), (0, l3), (0, l4), (0, l5), v6] [(0, s0)] M = if l5 < s0 then nb_R nb_P 131 17 [(20, l0), (3, l1), (0, l2), (0, l3), (0, l4), (0, l5), (0, s0)] [] M else nb_R nb_P 131 13 [(20, l0), (3, l1), (0, l2), (0, l3), (0, l4), (0, l5), (0, s0)] [] M :=
  nb_step (c := true) rfl rfl
theorem q_m_nextFor_13 (l0 l1 l2 l3 l4 l5 l6 : Int) (M : nb_M) :
    nb_R nb_P 131 13 [(20, l0), (3, l1), (0, l2), (0, l3), (0, l4), (0, l5), (0, l6)] [] M = if l5 = l6 then nb_R nb_P 131 14 [(20, l0), (3, l1), (0, l2), (0, l3), (0, l4), (0, l5), (0, l6)] [] M else nb_R nb_P 131 18 [(20, l0), (3, l1), (0, l2), (0, l3), (0, l4), (0, l5), (0, l6)] [] M :=
  nb_step (c := true) rfl rfl
theorem q_m_nextFor_14 (l0 l1 l2 l3 l4 : Int) (v5 v6 : nb_V) (M : nb_M) (h1 : l0 ≠ 0) :
    nb_R nb_P 131 14 [(20, l0), (3, l1), (0, l2), (0, l3), (0, l4), v5, v6] [] M = (nb_R nb_P 122 0 [(20, l0), (0, l4), (0, 2)] [] M).bind fun r => nb_R nb_P 131 15 [(20, l0), (3, l1), (0, l2), (0, l3), (0, l4), v5, v6] (r.1 ++ []) r.2 :=
  nb_stepC (c := true) (L2 := [(20, l0), (3, l1), (0, l2), (0, l3), (0, l4), v5, v6]) (S2 := [(0, 2), (0, l4), (20, l0)]) (M2 := M) (t := 15) (cl := 122) (vi := true) rfl rfl (nb_inv_eq (n := 3) rfl rfl rfl rfl rfl rfl (fun _ => h1) rfl)
theorem q_m_nextFor_15 (l0 l1 l2 l3 l4 s0 : Int) (v5 v6 : nb_V) (M : nb_M) (h1 : l0 ≠ 0) :
    nb_R nb_P 131 15 [(20, l0), (3, l1), (0, l2), (0, l3), (0, l4), v5, v6] [(0, s0)] M = (nb_R nb_P 122 0 [(20, l0), (0, l3), (0, 2)] [] M).bind fun r => nb_R nb_P 131 16 [(20, l0), (3, l1), (0, l2), (0, l3), (0, l4), v5, v6] (r.1 ++ [(0, s0)]) r.2 :=
  nb_stepC (c := true) (L2 := [(20, l0), (3, l1), (0, l2), (0, l3), (0, l4), v5, v6]) (S2 := [(0, 2), (0, l3), (20, l0), (0, s0)]) (M2 := M) (t := 16) (cl := 122) (vi := true) rfl rfl (nb_inv_eq (n := 3) rfl rfl rfl rfl rfl rfl (fun _ => h1) rfl)
theorem q_m_nextFor_16 (l0 l1 l2 l3 l4 s0 s1 : Int) (v5 v6 : nb_V) (M : nb_M) :
    nb_R nb_P 131 16 [(20, l0), (3, l1), (0, l2), (0, l3), (0, l4), v5, v6] [(0, s0), (0, s1)] M = if s1 < s0 then nb_R nb_P 131 17 [(20, l0), (3, l1), (0, l2), (0, l3), (0, l4), v5, v6] [] M else nb_R nb_P 131 18 [(20, l0), (3, l1), (0, l2), (0, l3), (0, l4), v5, v6] [] M :=
  nb_step (c := true) rfl rfl
theorem q_m_nextFor_17 (l0 l1 l2 l4 : Int) (v3 v5 v6 : nb_V) (M : nb_M) :
    nb_R nb_P 131 17 [(20, l0), (3, l1), (0, l2), v3, (0, l4), v5, v6] [] M = nb_R nb_P 131 18 [(20, l0), (3, l1), (0, l2), (0, l4), (0, l4), v5, v6] [] M :=
  nb_step (c := true) rfl rfl
theorem q_m_nextFor_18 (l0 l1 l2 l3 l4 : Int) (v5 v6 : nb_V) (M : nb_M) :
    nb_R nb_P 131 18 [(20, l0), (3, l1), (0, l2), (0, l3), (0, l4), v5, v6] [] M = nb_R nb_P 131 1 [(20, l0), (3, l1), (0, l2), (0, l3), (0, nb_add l4 1), v5, v6] [] M :=
  nb_step (c := true) rfl rfl
theorem q_m_nextFor_19 (l3 : Int) (v0 v1 v2 v4 v5 v6 : nb_V) (M : nb_M) :
    nb_R nb_P 131 19 [v0, v1, v2, (0, l3), v4, v5, v6] [] M = some ([(0, l3)], M) :=
  nb_step (c := true) rfl rfl
theorem q_m_begin_0 (l0 l1 l2 l3 : Int) (v4 v5 v6 v7 v8 : nb_V) (M : nb_M) (h1 : l1 ≠ 0) (h2 : (0 : Int) ≤ 0) (h3 : 0 < nb_ln M l1) (h4 : l0 ≠ 0) :
    nb_R nb_P 133 0 [(20, l0), (3, l1), (0, l2), (0, l3), v4, v5, v6, v7, v8] [] M = (nb_R nb_P 131 0 [(20, l0), (3, l1), (0, l2), (98, 0), (98, 0), (98, 0), (98, 0)] [] M).bind fun r => nb_R nb_P 133 1 [(20, l0), (3, l1), (0, l2), (0, l3), (0, nb_rd M l1 0), v5, v6, v7, v8] (r.1 ++ []) r.2 :=
  nb_stepC (c := (true && (!decide ((l1 : Int) = 0) && (decide ((0 : Int) ≤ 0) && decide (0 < nb_ln M l1))))) (L2 := [(20, l0), (3, l1), (0, l2), (0, l3), (0, nb_rd M l1 0), v5, v6, v7, v8]) (S2 := [(0, l2), (3, l1), (20, l0)]) (M2 := M) (t := 1) (cl := 131) (vi := true) rfl (by simp [h1, h2, h3, h4]) (nb_inv_eq (n := 3) rfl rfl rfl rfl rfl rfl (fun _ => h4) rfl)
theorem q_m_begin_1 (l0 l1 l2 l3 l4 s0 : Int) (v5 v6 v7 v8 : nb_V) (M : nb_M) :
    nb_R nb_P 133 1 [(20, l0), (3, l1), (0, l2), (0, l3), (0, l4), v5, v6, v7, v8] [(0, s0)] M = nb_R nb_P 133 2 [(20, l0), (3, l1), (0, l2), (0, l3), (0, l4), (0, s0), v6, v7, v8] [] M :=
  nb_step (c := true) rfl rfl
theorem q_m_begin_2 (l0 l1 l2 l3 l4 l5 : Int) (v6 v7 v8 : nb_V) (M : nb_M) :
    nb_R nb_P 133 2 [(20, l0), (3, l1), (0, l2), (0, l3), (0, l4), (0, l5), v6, v7, v8] [] M = if l5 = (-2) then nb_R nb_P 133 19 [(20, l0), (3, l1), (0, l2), (0, l3), (0, l4), (0, l5), v6, v7, v8] [] M else nb_R nb_P 133 3 [(20, l0), (3, l1), (0, l2), (0, l3), (0, l4), (0, l5), v6, v7, v8] [] M :=
  nb_step (c := true) rfl rfl
set_option maxRecDepth 10000 in
theorem q_m_begin_3 (l0 l1 l2 l3 l4 l5 : Int) (v6 v7 v8 : nb_V) (M : nb_M) (h1 : l0 ≠ 0) (h2 : (nb_rd M l0 23) ≠ 0) (h3 : (0 : Int) ≤ nb_add (nb_mul 6 l2) 4) (h4 : nb_add (nb_mul 6 l2) 4 < nb_ln M (nb_rd M l0 23)) (h5 : l1 ≠ 0) (h6 : (0 : Int) ≤ nb_add 92 (nb_mul 4 l2)) (h7 : nb_add 92 (nb_mul 4 l2) < nb_ln M l1) (h8 : (0 : Int) ≤ nb_add (nb_add 12 (nb_mul 8 l5)) 1) (h9 : nb_add (nb_add 12 (nb_mul 8 l5)) 1 < nb_ln M l1) :
    nb_R nb_P 133 3 [(20, l0), (3, l1), (0, l2), (0, l3), (0, l4), (0, l5), v6, v7, v8] [] M = (nb_R nb_P 127 0 [(0, nb_rd M l1 (nb_add 92 (nb_mul 4 l2))), (0, nb_rd M l1 (nb_add (nb_add 12 (nb_mul 8 l5)) 1))] [] M).bind fun r => nb_R nb_P 133 4 [(20, l0), (3, l1), (0, l2), (0, l3), (0, l4), (0, l5), (0, nb_add 12 (nb_mul 8 l5)), (0, nb_add 92 (nb_mul 4 l2)), v8] (r.1 ++ [(0, nb_rd M (nb_rd M l0 23) (nb_add (nb_mul 6 l2) 4)), (0, l4)]) r.2 :=
  nb_stepC (c := ((((true && !decide ((l0 : Int) = 0)) && (!decide ((nb_rd M l0 23 : Int) = 0) && (decide ((0 : Int) ≤ nb_add (nb_mul 6 l2) 4) && decide (nb_add (nb_mul 6 l2) 4 < nb_ln M (nb_rd M l0 23))))) && (!decide ((l1 : Int) = 0) && (decide ((0 : Int) ≤ nb_add 92 (nb_mul 4 l2)) && decide (nb_add 92 (nb_mul 4 l2) < nb_ln M l1)))) && (!decide ((l1 : Int) = 0) && (decide ((0 : Int) ≤ nb_add (nb_add 12 (nb_mul 8 l5)) 1) && decide (nb_add (nb_add 12 (nb_mul 8 l5)) 1 < nb_ln M l1))))) (L2 := [(20, l0), (3, l1), (0, l2), (0, l3), (0, l4), (0, l5), (0, nb_add 12 (nb_mul 8 l5)), (0, nb_add 92 (nb_mul 4 l2)), v8]) (S2 := [(0, nb_rd M l1 (nb_add (nb_add 12 (nb_mul 8 l5)) 1)), (0, nb_rd M l1 (nb_add 92 (nb_mul 4 l2))), (0, nb_rd M (nb_rd M l0 23) (nb_add (nb_mul 6 l2) 4)), (0, l4)]) (M2 := M) (t := 4) (cl := 127) (vi := false) rfl (by simp [h1, h2, h3, h4, h5, h6, h7, h8, h9]) (nb_inv_eq (n := 2) rfl rfl rfl rfl rfl rfl (fun h => by cases h) rfl)
theorem q_m_begin_4 (l0 l1 l2 l3 l4 l5 l6 l7 s0 s1 s2 : Int) (v8 : nb_V) (M : nb_M) (h1 : l0 ≠ 0) :
    nb_R nb_P 133 4 [(20, l0), (3, l1), (0, l2), (0, l3), (0, l4), (0, l5), (0, l6), (0, l7), v8] [(0, s0), (0, s1), (0, s2)] M = (nb_R nb_P 128 0 [(20, l0), (3, l1), (0, l2), (0, l5), (98, 0)] [] M).bind fun r => nb_R nb_P 133 5 [(20, l0), (3, l1), (0, l2), (0, l3), (0, l4), (0, l5), (0, l6), (0, l7), v8] (r.1 ++ [(0, nb_add s2 (nb_mul s1 s0))]) r.2 :=
  nb_stepC (c := true) (L2 := [(20, l0), (3, l1), (0, l2), (0, l3), (0, l4), (0, l5), (0, l6), (0, l7), v8]) (S2 := [(0, l5), (0, l2), (3, l1), (20, l0), (0, nb_add s2 (nb_mul s1 s0))]) (M2 := M) (t := 5) (cl := 128) (vi := true) rfl rfl (nb_inv_eq (n := 4) rfl rfl rfl rfl rfl rfl (fun _ => h1) rfl)
theorem q_m_begin_5 (l0 l1 l2 l3 l4 l5 l6 l7 s0 s1 : Int) (v8 : nb_V) (M : nb_M) (h1 : l1 ≠ 0) (h2 : l1 ≠ 1) (h3 : (0 : Int) ≤ nb_add l6 0) (h4 : nb_add l6 0 < nb_ln M l1) :
    nb_R nb_P 133 5 [(20, l0), (3, l1), (0, l2), (0, l3), (0, l4), (0, l5), (0, l6), (0, l7), v8] [(0, s0), (0, s1)] M = nb_R nb_P 133 6 [(20, l0), (3, l1), (0, l2), (0, l3), (0, l4), (0, l5), (0, l6), (0, l7), (0, nb_add s1 s0)] [] (nb_wr M l1 (nb_add l6 0) 2) :=
  nb_step (c := (true && (!decide ((l1 : Int) = 0) && (!decide ((l1 : Int) = 1) && (decide ((0 : Int) ≤ nb_add l6 0) && decide (nb_add l6 0 < nb_ln M l1)))))) rfl (by simp [h1, h2, h3, h4])
theorem q_m_begin_6 (l0 l1 l2 l3 l4 l5 l6 l7 l8 : Int) (M : nb_M) (h1 : l1 ≠ 0) (h2 : l1 ≠ 1) (h3 : (0 : Int) ≤ nb_add l6 4) (h4 : nb_add l6 4 < nb_ln M l1) :
    nb_R nb_P 133 6 [(20, l0), (3, l1), (0, l2), (0, l3), (0, l4), (0, l5), (0, l6), (0, l7), (0, l8)] [] M = nb_R nb_P 133 7 [(20, l0), (3, l1), (0, l2), (0, l3), (0, l4), (0, l5), (0, l6), (0, l7), (0, l8)] [] (nb_wr M l1 (nb_add l6 4) l4) :=
  nb_step (c := (true && (!decide ((l1 : Int) = 0) && (!decide ((l1 : Int) = 1) && (decide ((0 : Int) ≤ nb_add l6 4) && decide (nb_add l6 4 < nb_ln M l1)))))) rfl (by simp [h1, h2, h3, h4])
theorem q_m_begin_7 (l0 l1 l2 l3 l4 l5 l6 l7 l8 : Int) (M : nb_M) (h1 : l1 ≠ 0) (h2 : l1 ≠ 1) (h3 : (0 : Int) ≤ nb_add l6 5) (h4 : nb_add l6 5 < nb_ln M l1) :
    nb_R nb_P 133 7 [(20, l0), (3, l1), (0, l2), (0, l3), (0, l4), (0, l5), (0, l6), (0, l7), (0, l8)] [] M = nb_R nb_P 133 8 [(20, l0), (3, l1), (0, l2), (0, l3), (0, l4), (0, l5), (0, l6), (0, l7), (0, l8)] [] (nb_wr M l1 (nb_add l6 5) l8) :=
  nb_step (c := (true && (!decide ((l1 : Int) = 0) && (!decide ((l1 : Int) = 1) && (decide ((0 : Int) ≤ nb_add l6 5) && decide (nb_add l6 5 < nb_ln M l1)))))) rfl (by simp [h1, h2, h3, h4])
theorem q_m_begin_8 (l0 l1 l2 l3 l4 l5 l6 l7 l8 : Int) (M : nb_M) (h1 : l1 ≠ 0) (h2 : l1 ≠ 1) (h3 : (0 : Int) ≤ nb_add l6 6) (h4 : nb_add l6 6 < nb_ln M l1) :
    nb_R nb_P 133 8 [(20, l0), (3, l1), (0, l2), (0, l3), (0, l4), (0, l5), (0, l6), (0, l7), (0, l8)] [] M = nb_R nb_P 133 9 [(20, l0), (3, l1), (0, l2), (0, l3), (0, l4), (0, l5), (0, l6), (0, l7), (0, l8)] [] (nb_wr M l1 (nb_add l6 6) l2) :=
  nb_step (c := (true && (!decide ((l1 : Int) = 0) && (!decide ((l1 : Int) = 1) && (decide ((0 : Int) ≤ nb_add l6 6) && decide (nb_add l6 6 < nb_ln M l1)))))) rfl (by simp [h1, h2, h3, h4])
theorem q_m_begin_9 (l0 l1 l2 l3 l4 l5 l6 l7 l8 : Int) (M : nb_M) (h1 : l1 ≠ 0) (h2 : (0 : Int) ≤ nb_add l6 1) (h3 : nb_add l6 1 < nb_ln M l1) (h4 : l1 ≠ 1) (h5 : (0 : Int) ≤ l7) (h6 : l7 < nb_ln M l1) :
    nb_R nb_P 133 9 [(20, l0), (3, l1), (0, l2), (0, l3), (0, l4), (0, l5), (0, l6), (0, l7), (0, l8)] [] M = nb_R nb_P 133 10 [(20, l0), (3, l1), (0, l2), (0, l3), (0, l4), (0, l5), (0, l6), (0, l7), (0, l8)] [] (nb_wr M l1 l7 (nb_rd M l1 (nb_add l6 1))) :=
  nb_step (c := ((true && (!decide ((l1 : Int) = 0) && (decide ((0 : Int) ≤ nb_add l6 1) && decide (nb_add l6 1 < nb_ln M l1)))) && (!decide ((l1 : Int) = 0) && (!decide ((l1 : Int) = 1) && (decide ((0 : Int) ≤ l7) && decide (l7 < nb_ln M l1)))))) rfl (by simp [h1, h2, h3, h4, h5, h6])
theorem q_m_begin_10 (l0 l1 l2 l3 l4 l5 l7 l8 : Int) (v6 : nb_V) (M : nb_M) (h1 : l1 ≠ 0) (h2 : l1 ≠ 1) (h3 : (0 : Int) ≤ nb_add l7 l3) (h4 : nb_add l7 l3 < nb_ln M l1) :
    nb_R nb_P 133 10 [(20, l0), (3, l1), (0, l2), (0, l3), (0, l4), (0, l5), v6, (0, l7), (0, l8)] [] M = nb_R nb_P 133 11 [(20, l0), (3, l1), (0, l2), (0, l3), (0, l4), (0, l5), v6, (0, l7), (0, l8)] [] (nb_wr M l1 (nb_add l7 l3) l8) :=
  nb_step (c := (true && (!decide ((l1 : Int) = 0) && (!decide ((l1 : Int) = 1) && (decide ((0 : Int) ≤ nb_add l7 l3) && decide (nb_add l7 l3 < nb_ln M l1)))))) rfl (by simp [h1, h2, h3, h4])
theorem q_m_begin_11 (l0 l1 l2 l3 l4 l5 l7 l8 : Int) (v6 : nb_V) (M : nb_M) (h1 : l1 ≠ 0) (h2 : l1 ≠ 1) (h3 : (0 : Int) ≤ nb_add l7 3) (h4 : nb_add l7 3 < nb_ln M l1) :
    nb_R nb_P 133 11 [(20, l0), (3, l1), (0, l2), (0, l3), (0, l4), (0, l5), v6, (0, l7), (0, l8)] [] M = nb_R nb_P 133 12 [(20, l0), (3, l1), (0, l2), (0, l3), (0, l4), (0, l5), v6, (0, l7), (0, l8)] [] (nb_wr M l1 (nb_add l7 3) (nb_add l5 1)) :=
  nb_step (c := (true && (!decide ((l1 : Int) = 0) && (!decide ((l1 : Int) = 1) && (decide ((0 : Int) ≤ nb_add l7 3) && decide (nb_add l7 3 < nb_ln M l1)))))) rfl (by simp [h1, h2, h3, h4])
theorem q_m_begin_12 (l0 l1 l2 l3 l4 l5 l8 : Int) (v6 v7 : nb_V) (M : nb_M) (h1 : l1 ≠ 0) (h2 : (0 : Int) ≤ 1) (h3 : 1 < nb_ln M l1) (h4 : l1 ≠ 1) (h5 : (0 : Int) ≤ nb_add 2 (nb_rd M l1 1)) (h6 : nb_add 2 (nb_rd M l1 1) < nb_ln M l1) :
    nb_R nb_P 133 12 [(20, l0), (3, l1), (0, l2), (0, l3), (0, l4), (0, l5), v6, v7, (0, l8)] [] M = nb_R nb_P 133 13 [(20, l0), (3, l1), (0, l2), (0, l3), (0, l4), (0, l5), v6, v7, (0, l8)] [] (nb_wr M l1 (nb_add 2 (nb_rd M l1 1)) l5) :=
  nb_step (c := ((true && (!decide ((l1 : Int) = 0) && (decide ((0 : Int) ≤ 1) && decide (1 < nb_ln M l1)))) && (!decide ((l1 : Int) = 0) && (!decide ((l1 : Int) = 1) && (decide ((0 : Int) ≤ nb_add 2 (nb_rd M l1 1)) && decide (nb_add 2 (nb_rd M l1 1) < nb_ln M l1)))))) rfl (by simp [h1, h2, h3, h4, h5, h6])
theorem q_m_begin_13 (l0 l1 l2 l3 l4 l8 : Int) (v5 v6 v7 : nb_V) (M : nb_M) (h1 : l1 ≠ 0) (h2 : (0 : Int) ≤ 1) (h3 : 1 < nb_ln M l1) (h4 : l1 ≠ 1) :
    nb_R nb_P 133 13 [(20, l0), (3, l1), (0, l2), (0, l3), (0, l4), v5, v6, v7, (0, l8)] [] M = nb_R nb_P 133 14 [(20, l0), (3, l1), (0, l2), (0, l3), (0, l4), v5, v6, v7, (0, l8)] [] (nb_wr M l1 1 (nb_add (nb_rd M l1 1) 1)) :=
  nb_step (c := ((true && (!decide ((l1 : Int) = 0) && (decide ((0 : Int) ≤ 1) && decide (1 < nb_ln M l1)))) && (!decide ((l1 : Int) = 0) && (!decide ((l1 : Int) = 1) && (decide ((0 : Int) ≤ 1) && decide (1 < nb_ln M l1)))))) rfl (by simp [h1, h2, h3, h4])
theorem q_m_begin_14 (l0 l1 l2 l3 l4 l8 : Int) (v5 v6 v7 : nb_V) (M : nb_M) :
    nb_R nb_P 133 14 [(20, l0), (3, l1), (0, l2), (0, l3), (0, l4), v5, v6, v7, (0, l8)] [] M = if l4 < l8 then nb_R nb_P 133 17 [(20, l0), (3, l1), (0, l2), (0, l3), (0, l4), v5, v6, v7, (0, l8)] [] M else nb_R nb_P 133 15 [(20, l0), (3, l1), (0, l2), (0, l3), (0, l4), v5, v6, v7, (0, l8)] [] M :=
  nb_step (c := true) rfl rfl
theorem q_m_begin_15 (l0 l1 l2 l3 l4 : Int) (v5 v6 v7 v8 : nb_V) (M : nb_M) (h1 : l0 ≠ 0) :
    nb_R nb_P 133 15 [(20, l0), (3, l1), (0, l2), (0, l3), (0, l4), v5, v6, v7, v8] [] M = (nb_R nb_P 131 0 [(20, l0), (3, l1), (0, l2), (98, 0), (98, 0), (98, 0), (98, 0)] [] M).bind fun r => nb_R nb_P 133 16 [(20, l0), (3, l1), (0, l2), (0, l3), (0, l4), v5, v6, v7, v8] (r.1 ++ []) r.2 :=
  nb_stepC (c := true) (L2 := [(20, l0), (3, l1), (0, l2), (0, l3), (0, l4), v5, v6, v7, v8]) (S2 := [(0, l2), (3, l1), (20, l0)]) (M2 := M) (t := 16) (cl := 131) (vi := true) rfl rfl (nb_inv_eq (n := 3) rfl rfl rfl rfl rfl rfl (fun _ => h1) rfl)
theorem q_m_begin_16 (l0 l1 l2 l3 l4 s0 : Int) (v5 v6 v7 v8 : nb_V) (M : nb_M) :
    nb_R nb_P 133 16 [(20, l0), (3, l1), (0, l2), (0, l3), (0, l4), v5, v6, v7, v8] [(0, s0)] M = nb_R nb_P 133 18 [(20, l0), (3, l1), (0, l2), (0, l3), (0, l4), v5, v6, v7, v8] [(0, s0)] M :=
  nb_step (c := true) rfl rfl
theorem q_m_begin_17 (l0 l1 l2 l3 l4 : Int) (v5 v6 v7 v8 : nb_V) (M : nb_M) :
    nb_R nb_P 133 17 [(20, l0), (3, l1), (0, l2), (0, l3), (0, l4), v5, v6, v7, v8] [] M = nb_R nb_P 133 18 [(20, l0), (3, l1), (0, l2), (0, l3), (0, l4), v5, v6, v7, v8] [(0, (-2))] M :=
  nb_step (c := true) rfl rfl
theorem q_m_begin_18 (l0 l1 l2 l3 l4 s0 : Int) (v5 v6 v7 v8 : nb_V) (M : nb_M) :
    nb_R nb_P 133 18 [(20, l0), (3, l1), (0, l2), (0, l3), (0, l4), v5, v6, v7, v8] [(0, s0)] M = nb_R nb_P 133 2 [(20, l0), (3, l1), (0, l2), (0, l3), (0, l4), (0, s0), v6, v7, v8] [] M :=
  nb_step (c := true) rfl rfl
theorem q_m_begin_19 (v0 v1 v2 v3 v4 v5 v6 v7 v8 : nb_V) (M : nb_M) :
    nb_R nb_P 133 19 [v0, v1, v2, v3, v4, v5, v6, v7, v8] [] M = some ([], M) :=
  nb_step (c := true) rfl rfl
theorem q_m_fateOf_0 (l0 l1 : Int) (M : nb_M) (h1 : l0 ≠ 0) :
    nb_R nb_P 135 0 [(20, l0), (0, l1)] [] M = (nb_R nb_P 125 0 [(3, nb_rd M l0 18), (0, l1), (0, 0)] [] M).bind fun r => nb_R nb_P 135 1 [(20, l0), (0, l1)] (r.1 ++ []) r.2 :=
  nb_stepC (c := (true && !decide ((l0 : Int) = 0))) (L2 := [(20, l0), (0, l1)]) (S2 := [(0, 0), (0, l1), (3, nb_rd M l0 18)]) (M2 := M) (t := 1) (cl := 125) (vi := false) rfl (by simp [h1]) (nb_inv_eq (n := 3) rfl rfl rfl rfl rfl rfl (fun h => by cases h) rfl)
set_option maxRecDepth 10000 in
theorem q_m_fateOf_1 (l0 l1 s0 : Int) (M : nb_M) :
    nb_R nb_P 135 1 [(20, l0), (0, l1)] [(0, s0)] M = if s0 = 2 then nb_R nb_P 135 2 [(20, l0), (0, l1)] [] M else if s0 = 3 then nb_R nb_P 135 3 [(20, l0), (0, l1)] [] M else if s0 = 4 then nb_R nb_P 135 8 [(20, l0), (0, l1)] [] M else if s0 = 5 then nb_R nb_P 135 9 [(20, l0), (0, l1)] [] M else nb_R nb_P 135 10 [(20, l0), (0, l1)] [] M :=
  nb_step (c := true) rfl rfl
theorem q_m_fateOf_2 (v0 v1 : nb_V) (M : nb_M) :
    nb_R nb_P 135 2 [v0, v1] [] M = some ([(0, 0)], M) :=
  nb_step (c := true) rfl rfl
theorem q_m_fateOf_3 (l0 l1 : Int) (M : nb_M) (h1 : l0 ≠ 0) :
    nb_R nb_P 135 3 [(20, l0), (0, l1)] [] M = (nb_R nb_P 125 0 [(3, nb_rd M l0 18), (0, l1), (0, 4)] [] M).bind fun r => nb_R nb_P 135 4 [(20, l0), (0, l1)] (r.1 ++ []) r.2 :=
  nb_stepC (c := (true && !decide ((l0 : Int) = 0))) (L2 := [(20, l0), (0, l1)]) (S2 := [(0, 4), (0, l1), (3, nb_rd M l0 18)]) (M2 := M) (t := 4) (cl := 125) (vi := false) rfl (by simp [h1]) (nb_inv_eq (n := 3) rfl rfl rfl rfl rfl rfl (fun h => by cases h) rfl)
theorem q_m_fateOf_4 (s0 : Int) (v0 v1 : nb_V) (M : nb_M) :
    nb_R nb_P 135 4 [v0, v1] [(0, s0)] M = if s0 = (-2) then nb_R nb_P 135 5 [v0, v1] [] M else nb_R nb_P 135 6 [v0, v1] [] M :=
  nb_step (c := true) rfl rfl
theorem q_m_fateOf_5 (v0 v1 : nb_V) (M : nb_M) :
    nb_R nb_P 135 5 [v0, v1] [] M = nb_R nb_P 135 7 [v0, v1] [(0, 1)] M :=
  nb_step (c := true) rfl rfl
theorem q_m_fateOf_6 (v0 v1 : nb_V) (M : nb_M) :
    nb_R nb_P 135 6 [v0, v1] [] M = nb_R nb_P 135 7 [v0, v1] [(0, 0)] M :=
  nb_step (c := true) rfl rfl
theorem q_m_fateOf_7 (s0 : Int) (v0 v1 : nb_V) (M : nb_M) :
    nb_R nb_P 135 7 [v0, v1] [(0, s0)] M = some ([(0, s0)], M) :=
  nb_step (c := true) rfl rfl
theorem q_m_fateOf_8 (v0 v1 : nb_V) (M : nb_M) :
    nb_R nb_P 135 8 [v0, v1] [] M = some ([(0, 2)], M) :=
  nb_step (c := true) rfl rfl
theorem q_m_fateOf_9 (v0 v1 : nb_V) (M : nb_M) :
    nb_R nb_P 135 9 [v0, v1] [] M = some ([(0, 4)], M) :=
  nb_step (c := true) rfl rfl
theorem q_m_fateOf_10 (v0 v1 : nb_V) (M : nb_M) :
    nb_R nb_P 135 10 [v0, v1] [] M = some ([(0, 3)], M) :=
  nb_step (c := true) rfl rfl
theorem q_m_isBehind_0 (l0 l1 l2 : Int) (M : nb_M) (h1 : l0 ≠ 0) :
    nb_R nb_P 137 0 [(20, l0), (0, l1), (0, l2)] [] M = (nb_R nb_P 122 0 [(20, l0), (0, l1), (0, 2)] [] M).bind fun r => nb_R nb_P 137 1 [(20, l0), (0, l1), (0, l2)] (r.1 ++ []) r.2 :=
  nb_stepC (c := true) (L2 := [(20, l0), (0, l1), (0, l2)]) (S2 := [(0, 2), (0, l1), (20, l0)]) (M2 := M) (t := 1) (cl := 122) (vi := true) rfl rfl (nb_inv_eq (n := 3) rfl rfl rfl rfl rfl rfl (fun _ => h1) rfl)
theorem q_m_isBehind_1 (l0 l1 l2 s0 : Int) (M : nb_M) (h1 : l0 ≠ 0) :
    nb_R nb_P 137 1 [(20, l0), (0, l1), (0, l2)] [(0, s0)] M = (nb_R nb_P 122 0 [(20, l0), (0, l2), (0, 2)] [] M).bind fun r => nb_R nb_P 137 2 [(20, l0), (0, l1), (0, l2)] (r.1 ++ [(0, s0)]) r.2 :=
  nb_stepC (c := true) (L2 := [(20, l0), (0, l1), (0, l2)]) (S2 := [(0, 2), (0, l2), (20, l0), (0, s0)]) (M2 := M) (t := 2) (cl := 122) (vi := true) rfl rfl (nb_inv_eq (n := 3) rfl rfl rfl rfl rfl rfl (fun _ => h1) rfl)
theorem q_m_isBehind_2 (l0 l1 l2 s0 s1 : Int) (M : nb_M) :
    nb_R nb_P 137 2 [(20, l0), (0, l1), (0, l2)] [(0, s0), (0, s1)] M = if s0 < s1 then nb_R nb_P 137 7 [(20, l0), (0, l1), (0, l2)] [] M else nb_R nb_P 137 3 [(20, l0), (0, l1), (0, l2)] [] M :=
  nb_step (c := true) rfl rfl
theorem q_m_isBehind_3 (l0 l1 l2 : Int) (M : nb_M) (h1 : l0 ≠ 0) :
    nb_R nb_P 137 3 [(20, l0), (0, l1), (0, l2)] [] M = (nb_R nb_P 122 0 [(20, l0), (0, l1), (0, 2)] [] M).bind fun r => nb_R nb_P 137 4 [(20, l0), (0, l1), (0, l2)] (r.1 ++ []) r.2 :=
  nb_stepC (c := true) (L2 := [(20, l0), (0, l1), (0, l2)]) (S2 := [(0, 2), (0, l1), (20, l0)]) (M2 := M) (t := 4) (cl := 122) (vi := true) rfl rfl (nb_inv_eq (n := 3) rfl rfl rfl rfl rfl rfl (fun _ => h1) rfl)
theorem q_m_isBehind_4 (l0 l1 l2 s0 : Int) (M : nb_M) (h1 : l0 ≠ 0) :
    nb_R nb_P 137 4 [(20, l0), (0, l1), (0, l2)] [(0, s0)] M = (nb_R nb_P 122 0 [(20, l0), (0, l2), (0, 2)] [] M).bind fun r => nb_R nb_P 137 5 [(20, l0), (0, l1), (0, l2)] (r.1 ++ [(0, s0)]) r.2 :=
  nb_stepC (c := true) (L2 := [(20, l0), (0, l1), (0, l2)]) (S2 := [(0, 2), (0, l2), (20, l0), (0, s0)]) (M2 := M) (t := 5) (cl := 122) (vi := true) rfl rfl (nb_inv_eq (n := 3) rfl rfl rfl rfl rfl rfl (fun _ => h1) rfl)
theorem q_m_isBehind_5 (l1 l2 s0 s1 : Int) (v0 : nb_V) (M : nb_M) :
    nb_R nb_P 137 5 [v0, (0, l1), (0, l2)] [(0, s0), (0, s1)] M = if s1 = s0 then nb_R nb_P 137 6 [v0, (0, l1), (0, l2)] [] M else nb_R nb_P 137 8 [v0, (0, l1), (0, l2)] [] M :=
  nb_step (c := true) rfl rfl
theorem q_m_isBehind_6 (l1 l2 : Int) (v0 : nb_V) (M : nb_M) :
    nb_R nb_P 137 6 [v0, (0, l1), (0, l2)] [] M = if l2 < l1 then nb_R nb_P 137 7 [v0, (0, l1), (0, l2)] [] M else nb_R nb_P 137 8 [v0, (0, l1), (0, l2)] [] M :=
  nb_step (c := true) rfl rfl
theorem q_m_isBehind_7 (v0 v1 v2 : nb_V) (M : nb_M) :
    nb_R nb_P 137 7 [v0, v1, v2] [] M = nb_R nb_P 137 9 [v0, v1, v2] [(0, 1)] M :=
  nb_step (c := true) rfl rfl
theorem q_m_isBehind_8 (v0 v1 v2 : nb_V) (M : nb_M) :
    nb_R nb_P 137 8 [v0, v1, v2] [] M = nb_R nb_P 137 9 [v0, v1, v2] [(0, 0)] M :=
  nb_step (c := true) rfl rfl
theorem q_m_isBehind_9 (s0 : Int) (v0 v1 v2 : nb_V) (M : nb_M) :
    nb_R nb_P 137 9 [v0, v1, v2] [(0, s0)] M = some ([(0, nb_i2z s0)], M) :=
  nb_step (c := true) rfl rfl
theorem q_m_pushedOf_0 (l0 l1 : Int) (v2 v3 : nb_V) (M : nb_M) (h1 : l0 ≠ 0) :
    nb_R nb_P 139 0 [(20, l0), (0, l1), v2, v3] [] M = (nb_R nb_P 125 0 [(3, nb_rd M l0 18), (0, l1), (0, 4)] [] M).bind fun r => nb_R nb_P 139 1 [(20, l0), (0, l1), (0, 0), v3] (r.1 ++ []) r.2 :=
  nb_stepC (c := (true && !decide ((l0 : Int) = 0))) (L2 := [(20, l0), (0, l1), (0, 0), v3]) (S2 := [(0, 4), (0, l1), (3, nb_rd M l0 18)]) (M2 := M) (t := 1) (cl := 125) (vi := false) rfl (by simp [h1]) (nb_inv_eq (n := 3) rfl rfl rfl rfl rfl rfl (fun h => by cases h) rfl)
theorem q_m_pushedOf_1 (l0 l1 l2 s0 : Int) (v3 : nb_V) (M : nb_M) :
    nb_R nb_P 139 1 [(20, l0), (0, l1), (0, l2), v3] [(0, s0)] M = if s0 = (-2) then nb_R nb_P 139 2 [(20, l0), (0, l1), (0, l2), v3] [] M else nb_R nb_P 139 3 [(20, l0), (0, l1), (0, l2), v3] [] M :=
  nb_step (c := true) rfl rfl
theorem q_m_pushedOf_2 (v0 v1 v2 v3 : nb_V) (M : nb_M) :
    nb_R nb_P 139 2 [v0, v1, v2, v3] [] M = some ([(0, 0)], M) :=
  nb_step (c := true) rfl rfl
theorem q_m_pushedOf_3 (l0 l1 l2 : Int) (v3 : nb_V) (M : nb_M) :
    nb_R nb_P 139 3 [(20, l0), (0, l1), (0, l2), v3] [] M = nb_R nb_P 139 4 [(20, l0), (0, l1), (0, l2), (0, 0)] [] M :=
  nb_step (c := true) rfl rfl
theorem q_m_pushedOf_4 (l0 l1 l2 l3 : Int) (M : nb_M) (h1 : l0 ≠ 0) (h2 : (nb_rd M l0 15) ≠ 0) (h3 : (0 : Int) ≤ 5) (h4 : 5 < nb_ln M (nb_rd M l0 15)) :
    nb_R nb_P 139 4 [(20, l0), (0, l1), (0, l2), (0, l3)] [] M = if l3 < nb_rd M (nb_rd M l0 15) 5 then nb_R nb_P 139 5 [(20, l0), (0, l1), (0, l2), (0, l3)] [] M else nb_R nb_P 139 13 [(20, l0), (0, l1), (0, l2), (0, l3)] [] M :=
  nb_step (c := ((true && !decide ((l0 : Int) = 0)) && (!decide ((nb_rd M l0 15 : Int) = 0) && (decide ((0 : Int) ≤ 5) && decide (5 < nb_ln M (nb_rd M l0 15)))))) rfl (by simp [h1, h2, h3, h4])
theorem q_m_pushedOf_5 (l0 l1 l2 l3 : Int) (M : nb_M) :
    nb_R nb_P 139 5 [(20, l0), (0, l1), (0, l2), (0, l3)] [] M = if l3 = l1 then nb_R nb_P 139 12 [(20, l0), (0, l1), (0, l2), (0, l3)] [] M else nb_R nb_P 139 6 [(20, l0), (0, l1), (0, l2), (0, l3)] [] M :=
  nb_step (c := true) rfl rfl
theorem q_m_pushedOf_6 (l0 l1 l2 l3 : Int) (M : nb_M) (h1 : l0 ≠ 0) :
    nb_R nb_P 139 6 [(20, l0), (0, l1), (0, l2), (0, l3)] [] M = (nb_R nb_P 137 0 [(20, l0), (0, l1), (0, l3)] [] M).bind fun r => nb_R nb_P 139 7 [(20, l0), (0, l1), (0, l2), (0, l3)] (r.1 ++ []) r.2 :=
  nb_stepC (c := true) (L2 := [(20, l0), (0, l1), (0, l2), (0, l3)]) (S2 := [(0, l3), (0, l1), (20, l0)]) (M2 := M) (t := 7) (cl := 137) (vi := true) rfl rfl (nb_inv_eq (n := 3) rfl rfl rfl rfl rfl rfl (fun _ => h1) rfl)
theorem q_m_pushedOf_7 (l0 l1 l2 l3 s0 : Int) (M : nb_M) :
    nb_R nb_P 139 7 [(20, l0), (0, l1), (0, l2), (0, l3)] [(0, s0)] M = if s0 = 0 then nb_R nb_P 139 12 [(20, l0), (0, l1), (0, l2), (0, l3)] [] M else nb_R nb_P 139 8 [(20, l0), (0, l1), (0, l2), (0, l3)] [] M :=
  nb_step (c := true) rfl rfl
theorem q_m_pushedOf_8 (l0 l1 l2 l3 : Int) (M : nb_M) (h1 : l0 ≠ 0) :
    nb_R nb_P 139 8 [(20, l0), (0, l1), (0, l2), (0, l3)] [] M = (nb_R nb_P 138 0 [(20, l0), (0, l3), (98, 0), (98, 0), (98, 0), (98, 0), (98, 0)] [] M).bind fun r => nb_R nb_P 139 9 [(20, l0), (0, l1), (0, l2), (0, l3)] (r.1 ++ []) r.2 :=
  nb_stepC (c := true) (L2 := [(20, l0), (0, l1), (0, l2), (0, l3)]) (S2 := [(0, l3), (20, l0)]) (M2 := M) (t := 9) (cl := 138) (vi := true) rfl rfl (nb_inv_eq (n := 2) rfl rfl rfl rfl rfl rfl (fun _ => h1) rfl)
theorem q_m_pushedOf_9 (l0 l1 l2 l3 s0 : Int) (M : nb_M) :
    nb_R nb_P 139 9 [(20, l0), (0, l1), (0, l2), (0, l3)] [(0, s0)] M = (nb_R nb_P 84 0 [(0, s0), (0, l1)] [] M).bind fun r => nb_R nb_P 139 10 [(20, l0), (0, l1), (0, l2), (0, l3)] (r.1 ++ []) r.2 :=
  nb_stepC (c := true) (L2 := [(20, l0), (0, l1), (0, l2), (0, l3)]) (S2 := [(0, l1), (0, s0)]) (M2 := M) (t := 10) (cl := 84) (vi := false) rfl rfl (nb_inv_eq (n := 2) rfl rfl rfl rfl rfl rfl (fun h => by cases h) rfl)
theorem q_m_pushedOf_10 (l0 l1 l2 l3 s0 : Int) (M : nb_M) :
    nb_R nb_P 139 10 [(20, l0), (0, l1), (0, l2), (0, l3)] [(0, s0)] M = if s0 = 0 then nb_R nb_P 139 12 [(20, l0), (0, l1), (0, l2), (0, l3)] [] M else nb_R nb_P 139 11 [(20, l0), (0, l1), (0, l2), (0, l3)] [] M :=
  nb_step (c := true) rfl rfl
theorem q_m_pushedOf_11 (l0 l1 l2 l3 : Int) (M : nb_M) :
    nb_R nb_P 139 11 [(20, l0), (0, l1), (0, l2), (0, l3)] [] M = nb_R nb_P 139 12 [(20, l0), (0, l1), (0, nb_or l2 (nb_shl 1 l3)), (0, l3)] [] M :=
  nb_step (c := true) rfl rfl
theorem q_m_pushedOf_12 (l0 l1 l2 l3 : Int) (M : nb_M) :
    nb_R nb_P 139 12 [(20, l0), (0, l1), (0, l2), (0, l3)] [] M = nb_R nb_P 139 4 [(20, l0), (0, l1), (0, l2), (0, nb_add l3 1)] [] M :=
  nb_step (c := true) rfl rfl
theorem q_m_pushedOf_13 (l2 : Int) (v0 v1 v3 : nb_V) (M : nb_M) :
    nb_R nb_P 139 13 [v0, v1, (0, l2), v3] [] M = some ([(0, l2)], M) :=
  nb_step (c := true) rfl rfl
theorem q_m_costsOf_0 (l0 l1 : Int) (v2 v3 : nb_V) (M : nb_M) :
    nb_R nb_P 141 0 [(20, l0), (0, l1), v2, v3] [] M = nb_R nb_P 141 1 [(20, l0), (0, l1), (0, 0), (0, 0)] [] M :=
  nb_step (c := true) rfl rfl
theorem q_m_costsOf_1 (l0 l1 l2 l3 : Int) (M : nb_M) :
    nb_R nb_P 141 1 [(20, l0), (0, l1), (0, l2), (0, l3)] [] M = if l3 < 5 then nb_R nb_P 141 2 [(20, l0), (0, l1), (0, l2), (0, l3)] [] M else nb_R nb_P 141 4 [(20, l0), (0, l1), (0, l2), (0, l3)] [] M :=
  nb_step (c := true) rfl rfl
theorem q_m_costsOf_2 (l0 l1 l2 l3 : Int) (M : nb_M) (h1 : l0 ≠ 0) :
    nb_R nb_P 141 2 [(20, l0), (0, l1), (0, l2), (0, l3)] [] M = (nb_R nb_P 120 0 [(20, l0), (0, l1), (0, l3)] [] M).bind fun r => nb_R nb_P 141 3 [(20, l0), (0, l1), (0, l2), (0, l3)] (r.1 ++ [(0, l2)]) r.2 :=
  nb_stepC (c := true) (L2 := [(20, l0), (0, l1), (0, l2), (0, l3)]) (S2 := [(0, l3), (0, l1), (20, l0), (0, l2)]) (M2 := M) (t := 3) (cl := 120) (vi := true) rfl rfl (nb_inv_eq (n := 3) rfl rfl rfl rfl rfl rfl (fun _ => h1) rfl)
theorem q_m_costsOf_3 (l0 l1 l3 s0 s1 : Int) (v2 : nb_V) (M : nb_M) (h1 : l0 ≠ 0) (h2 : (nb_rd M l0 15) ≠ 0) (h3 : (0 : Int) ≤ nb_add (nb_add 8 (nb_mul 3 l3)) 2) (h4 : nb_add (nb_add 8 (nb_mul 3 l3)) 2 < nb_ln M (nb_rd M l0 15)) :
    nb_R nb_P 141 3 [(20, l0), (0, l1), v2, (0, l3)] [(0, s0), (0, s1)] M = nb_R nb_P 141 1 [(20, l0), (0, l1), (0, nb_add s1 (nb_mul s0 (nb_rd M (nb_rd M l0 15) (nb_add (nb_add 8 (nb_mul 3 l3)) 2)))), (0, nb_add l3 1)] [] M :=
  nb_step (c := ((true && !decide ((l0 : Int) = 0)) && (!decide ((nb_rd M l0 15 : Int) = 0) && (decide ((0 : Int) ≤ nb_add (nb_add 8 (nb_mul 3 l3)) 2) && decide (nb_add (nb_add 8 (nb_mul 3 l3)) 2 < nb_ln M (nb_rd M l0 15)))))) rfl (by simp [h1, h2, h3, h4])
theorem q_m_costsOf_4 (l2 : Int) (v0 v1 v3 : nb_V) (M : nb_M) :
    nb_R nb_P 141 4 [v0, v1, (0, l2), v3] [] M = some ([(0, l2)], M) :=
  nb_step (c := true) rfl rfl
theorem q_m_staff_0 (l0 l1 l2 : Int) (v3 v4 v5 v6 : nb_V) (M : nb_M) (h1 : l0 ≠ 0) :
    nb_R nb_P 143 0 [(20, l0), (0, l1), (0, l2), v3, v4, v5, v6] [] M = (nb_R nb_P 79 0 [(20, l0)] [] M).bind fun r => nb_R nb_P 143 1 [(20, l0), (0, l1), (0, l2), v3, v4, v5, v6] (r.1 ++ []) r.2 :=
  nb_stepC (c := true) (L2 := [(20, l0), (0, l1), (0, l2), v3, v4, v5, v6]) (S2 := [(20, l0)]) (M2 := M) (t := 1) (cl := 79) (vi := true) rfl rfl (nb_inv_eq (n := 1) rfl rfl rfl rfl rfl rfl (fun _ => h1) rfl)
theorem q_m_staff_1 (l0 l1 l2 : Int) (v3 v4 v5 v6 : nb_V) (M : nb_M) (h1 : l0 ≠ 0) :
    nb_R nb_P 143 1 [(20, l0), (0, l1), (0, l2), v3, v4, v5, v6] [] M = (nb_R nb_P 117 0 [(20, l0), (0, l1)] [] M).bind fun r => nb_R nb_P 143 2 [(20, l0), (0, l1), (0, l2), v3, v4, v5, v6] (r.1 ++ []) r.2 :=
  nb_stepC (c := true) (L2 := [(20, l0), (0, l1), (0, l2), v3, v4, v5, v6]) (S2 := [(0, l1), (20, l0)]) (M2 := M) (t := 2) (cl := 117) (vi := true) rfl rfl (nb_inv_eq (n := 2) rfl rfl rfl rfl rfl rfl (fun _ => h1) rfl)
theorem q_m_staff_2 (l0 l1 l2 s0 : Int) (v3 v4 v5 v6 : nb_V) (M : nb_M) :
    nb_R nb_P 143 2 [(20, l0), (0, l1), (0, l2), v3, v4, v5, v6] [(0, s0)] M = if s0 = 0 then nb_R nb_P 143 5 [(20, l0), (0, l1), (0, l2), v3, v4, v5, v6] [] M else nb_R nb_P 143 3 [(20, l0), (0, l1), (0, l2), v3, v4, v5, v6] [] M :=
  nb_step (c := true) rfl rfl
theorem q_m_staff_3 (l0 l1 l2 : Int) (v3 v4 v5 v6 : nb_V) (M : nb_M) :
    nb_R nb_P 143 3 [(20, l0), (0, l1), (0, l2), v3, v4, v5, v6] [] M = (nb_R nb_P 83 0 [(0, l2), (0, 0), (0, 2)] [] M).bind fun r => nb_R nb_P 143 4 [(20, l0), (0, l1), (0, l2), v3, v4, v5, v6] (r.1 ++ []) r.2 :=
  nb_stepC (c := true) (L2 := [(20, l0), (0, l1), (0, l2), v3, v4, v5, v6]) (S2 := [(0, 2), (0, 0), (0, l2)]) (M2 := M) (t := 4) (cl := 83) (vi := false) rfl rfl (nb_inv_eq (n := 3) rfl rfl rfl rfl rfl rfl (fun h => by cases h) rfl)
theorem q_m_staff_4 (l0 l1 l2 s0 : Int) (v3 v4 v5 v6 : nb_V) (M : nb_M) :
    nb_R nb_P 143 4 [(20, l0), (0, l1), (0, l2), v3, v4, v5, v6] [(0, s0)] M = if s0 = 0 then nb_R nb_P 143 5 [(20, l0), (0, l1), (0, l2), v3, v4, v5, v6] [] M else nb_R nb_P 143 7 [(20, l0), (0, l1), (0, l2), v3, v4, v5, v6] [] M :=
  nb_step (c := true) rfl rfl
theorem q_m_staff_5 (l0 : Int) (v1 v2 v3 v4 v5 v6 : nb_V) (M : nb_M) (h1 : l0 ≠ 0) :
    nb_R nb_P 143 5 [(20, l0), v1, v2, v3, v4, v5, v6] [] M = (nb_R nb_P 80 0 [(20, l0), (0, 1)] [] M).bind fun r => nb_R nb_P 143 6 [(20, l0), v1, v2, v3, v4, v5, v6] (r.1 ++ []) r.2 :=
  nb_stepC (c := true) (L2 := [(20, l0), v1, v2, v3, v4, v5, v6]) (S2 := [(0, 1), (20, l0)]) (M2 := M) (t := 6) (cl := 80) (vi := true) rfl rfl (nb_inv_eq (n := 2) rfl rfl rfl rfl rfl rfl (fun _ => h1) rfl)
theorem q_m_staff_6 (s0 : Int) (v0 v1 v2 v3 v4 v5 v6 : nb_V) (M : nb_M) :
    nb_R nb_P 143 6 [v0, v1, v2, v3, v4, v5, v6] [(0, s0)] M = some ([(0, s0)], M) :=
  nb_step (c := true) rfl rfl
theorem q_m_staff_7 (l0 l1 l2 : Int) (v3 v4 v5 v6 : nb_V) (M : nb_M) (h1 : l0 ≠ 0) :
    nb_R nb_P 143 7 [(20, l0), (0, l1), (0, l2), v3, v4, v5, v6] [] M = (nb_R nb_P 121 0 [(20, l0)] [] M).bind fun r => nb_R nb_P 143 8 [(20, l0), (0, l1), (0, l2), v3, v4, v5, v6] (r.1 ++ []) r.2 :=
  nb_stepC (c := true) (L2 := [(20, l0), (0, l1), (0, l2), v3, v4, v5, v6]) (S2 := [(20, l0)]) (M2 := M) (t := 8) (cl := 121) (vi := true) rfl rfl (nb_inv_eq (n := 1) rfl rfl rfl rfl rfl rfl (fun _ => h1) rfl)
theorem q_m_staff_8 (l0 l1 l2 : Int) (v3 v4 v5 v6 : nb_V) (M : nb_M) :
    nb_R nb_P 143 8 [(20, l0), (0, l1), (0, l2), v3, v4, v5, v6] [] M = nb_R nb_P 143 9 [(20, l0), (0, l1), (0, l2), (0, nb_add 92 (nb_mul 4 l1)), (0, 0), (0, 1000000), (0, 1)] [] M :=
  nb_step (c := true) rfl rfl
theorem q_m_staff_9 (l0 l1 l2 l3 l4 l5 l6 : Int) (M : nb_M) (h1 : l0 ≠ 0) (h2 : (nb_rd M l0 23) ≠ 0) (h3 : (0 : Int) ≤ nb_add (nb_mul 6 l1) 5) (h4 : nb_add (nb_mul 6 l1) 5 < nb_ln M (nb_rd M l0 23)) :
    nb_R nb_P 143 9 [(20, l0), (0, l1), (0, l2), (0, l3), (0, l4), (0, l5), (0, l6)] [] M = if nb_rd M (nb_rd M l0 23) (nb_add (nb_mul 6 l1) 5) < l6 then nb_R nb_P 143 17 [(20, l0), (0, l1), (0, l2), (0, l3), (0, l4), (0, l5), (0, l6)] [] M else nb_R nb_P 143 10 [(20, l0), (0, l1), (0, l2), (0, l3), (0, l4), (0, l5), (0, l6)] [] M :=
  nb_step (c := ((true && !decide ((l0 : Int) = 0)) && (!decide ((nb_rd M l0 23 : Int) = 0) && (decide ((0 : Int) ≤ nb_add (nb_mul 6 l1) 5) && decide (nb_add (nb_mul 6 l1) 5 < nb_ln M (nb_rd M l0 23)))))) rfl (by simp [h1, h2, h3, h4])
theorem q_m_staff_10 (l0 l1 l2 l3 l4 l5 l6 : Int) (M : nb_M) (h1 : l0 ≠ 0) (h2 : (nb_rd M l0 17) ≠ 0) (h3 : (0 : Int) ≤ nb_add l3 l6) (h4 : nb_add l3 l6 < nb_ln M (nb_rd M l0 17)) (h5 : (0 : Int) ≤ 0) (h6 : 0 < nb_ln M (nb_rd M l0 17)) :
    nb_R nb_P 143 10 [(20, l0), (0, l1), (0, l2), (0, l3), (0, l4), (0, l5), (0, l6)] [] M = if nb_rd M (nb_rd M l0 17) 0 < nb_rd M (nb_rd M l0 17) (nb_add l3 l6) then nb_R nb_P 143 11 [(20, l0), (0, l1), (0, l2), (0, l3), (0, l4), (0, l5), (0, l6)] [(0, l4)] M else nb_R nb_P 143 12 [(20, l0), (0, l1), (0, l2), (0, l3), (0, l4), (0, l5), (0, l6)] [(0, l4)] M :=
  nb_step (c := ((((true && !decide ((l0 : Int) = 0)) && (!decide ((nb_rd M l0 17 : Int) = 0) && (decide ((0 : Int) ≤ nb_add l3 l6) && decide (nb_add l3 l6 < nb_ln M (nb_rd M l0 17))))) && !decide ((l0 : Int) = 0)) && (!decide ((nb_rd M l0 17 : Int) = 0) && (decide ((0 : Int) ≤ 0) && decide (0 < nb_ln M (nb_rd M l0 17)))))) rfl (by simp [h1, h2, h3, h4, h5, h6])
theorem q_m_staff_11 (l0 l1 l2 l3 l5 l6 s0 : Int) (v4 : nb_V) (M : nb_M) :
    nb_R nb_P 143 11 [(20, l0), (0, l1), (0, l2), (0, l3), v4, (0, l5), (0, l6)] [(0, s0)] M = nb_R nb_P 143 13 [(20, l0), (0, l1), (0, l2), (0, l3), v4, (0, l5), (0, l6)] [(0, 1), (0, s0)] M :=
  nb_step (c := true) rfl rfl
theorem q_m_staff_12 (l0 l1 l2 l3 l5 l6 s0 : Int) (v4 : nb_V) (M : nb_M) :
    nb_R nb_P 143 12 [(20, l0), (0, l1), (0, l2), (0, l3), v4, (0, l5), (0, l6)] [(0, s0)] M = nb_R nb_P 143 13 [(20, l0), (0, l1), (0, l2), (0, l3), v4, (0, l5), (0, l6)] [(0, 0), (0, s0)] M :=
  nb_step (c := true) rfl rfl
theorem q_m_staff_13 (l0 l1 l2 l3 l5 l6 s0 s1 : Int) (v4 : nb_V) (M : nb_M) (h1 : l0 ≠ 0) (h2 : (nb_rd M l0 17) ≠ 0) (h3 : (0 : Int) ≤ nb_add l3 l6) (h4 : nb_add l3 l6 < nb_ln M (nb_rd M l0 17)) :
    nb_R nb_P 143 13 [(20, l0), (0, l1), (0, l2), (0, l3), v4, (0, l5), (0, l6)] [(0, s0), (0, s1)] M = if nb_rd M (nb_rd M l0 17) (nb_add l3 l6) < l5 then nb_R nb_P 143 14 [(20, l0), (0, l1), (0, l2), (0, l3), (0, nb_add s1 s0), (0, l5), (0, l6)] [] M else nb_R nb_P 143 15 [(20, l0), (0, l1), (0, l2), (0, l3), (0, nb_add s1 s0), (0, l5), (0, l6)] [] M :=
  nb_step (c := ((true && !decide ((l0 : Int) = 0)) && (!decide ((nb_rd M l0 17 : Int) = 0) && (decide ((0 : Int) ≤ nb_add l3 l6) && decide (nb_add l3 l6 < nb_ln M (nb_rd M l0 17)))))) rfl (by simp [h1, h2, h3, h4])
theorem q_m_staff_14 (l0 l1 l2 l3 l4 l6 : Int) (v5 : nb_V) (M : nb_M) (h1 : l0 ≠ 0) (h2 : (nb_rd M l0 17) ≠ 0) (h3 : (0 : Int) ≤ nb_add l3 l6) (h4 : nb_add l3 l6 < nb_ln M (nb_rd M l0 17)) :
    nb_R nb_P 143 14 [(20, l0), (0, l1), (0, l2), (0, l3), (0, l4), v5, (0, l6)] [] M = nb_R nb_P 143 16 [(20, l0), (0, l1), (0, l2), (0, l3), (0, l4), v5, (0, l6)] [(0, nb_rd M (nb_rd M l0 17) (nb_add l3 l6))] M :=
  nb_step (c := ((true && !decide ((l0 : Int) = 0)) && (!decide ((nb_rd M l0 17 : Int) = 0) && (decide ((0 : Int) ≤ nb_add l3 l6) && decide (nb_add l3 l6 < nb_ln M (nb_rd M l0 17)))))) rfl (by simp [h1, h2, h3, h4])
theorem q_m_staff_15 (l0 l1 l2 l3 l4 l5 l6 : Int) (M : nb_M) :
    nb_R nb_P 143 15 [(20, l0), (0, l1), (0, l2), (0, l3), (0, l4), (0, l5), (0, l6)] [] M = nb_R nb_P 143 16 [(20, l0), (0, l1), (0, l2), (0, l3), (0, l4), (0, l5), (0, l6)] [(0, l5)] M :=
  nb_step (c := true) rfl rfl
theorem q_m_staff_16 (l0 l1 l2 l3 l4 l6 s0 : Int) (v5 : nb_V) (M : nb_M) :
    nb_R nb_P 143 16 [(20, l0), (0, l1), (0, l2), (0, l3), (0, l4), v5, (0, l6)] [(0, s0)] M = nb_R nb_P 143 9 [(20, l0), (0, l1), (0, l2), (0, l3), (0, l4), (0, s0), (0, nb_add l6 1)] [] M :=
  nb_step (c := true) rfl rfl
theorem q_m_staff_17 (l0 l2 l3 l4 l5 : Int) (v1 v6 : nb_V) (M : nb_M) :
    nb_R nb_P 143 17 [(20, l0), v1, (0, l2), (0, l3), (0, l4), (0, l5), v6] [] M = if l2 = 0 then nb_R nb_P 143 18 [(20, l0), v1, (0, l2), (0, l3), (0, l4), (0, l5), v6] [] M else nb_R nb_P 143 19 [(20, l0), v1, (0, l2), (0, l3), (0, l4), (0, l5), v6] [] M :=
  nb_step (c := true) rfl rfl
theorem q_m_staff_18 (l0 l3 : Int) (v1 v2 v4 v5 v6 : nb_V) (M : nb_M) (h1 : l0 ≠ 0) (h2 : (nb_rd M l0 17) ≠ 0) (h3 : (0 : Int) ≤ l3) (h4 : l3 < nb_ln M (nb_rd M l0 17)) :
    nb_R nb_P 143 18 [(20, l0), v1, v2, (0, l3), v4, v5, v6] [] M = nb_R nb_P 143 24 [(20, l0), v1, v2, (0, l3), v4, v5, v6] [(0, nb_rd M (nb_rd M l0 17) l3)] M :=
  nb_step (c := ((true && !decide ((l0 : Int) = 0)) && (!decide ((nb_rd M l0 17 : Int) = 0) && (decide ((0 : Int) ≤ l3) && decide (l3 < nb_ln M (nb_rd M l0 17)))))) rfl (by simp [h1, h2, h3, h4])
theorem q_m_staff_19 (l0 l2 l4 l5 : Int) (v1 v3 v6 : nb_V) (M : nb_M) :
    nb_R nb_P 143 19 [(20, l0), v1, (0, l2), v3, (0, l4), (0, l5), v6] [] M = if l2 = 1 then nb_R nb_P 143 20 [(20, l0), v1, (0, l2), v3, (0, l4), (0, l5), v6] [] M else nb_R nb_P 143 21 [(20, l0), v1, (0, l2), v3, (0, l4), (0, l5), v6] [] M :=
  nb_step (c := true) rfl rfl
theorem q_m_staff_20 (l4 : Int) (v0 v1 v2 v3 v5 v6 : nb_V) (M : nb_M) :
    nb_R nb_P 143 20 [v0, v1, v2, v3, (0, l4), v5, v6] [] M = nb_R nb_P 143 24 [v0, v1, v2, v3, (0, l4), v5, v6] [(0, l4)] M :=
  nb_step (c := true) rfl rfl
theorem q_m_staff_21 (l0 l5 : Int) (v1 v2 v3 v4 v6 : nb_V) (M : nb_M) (h1 : l0 ≠ 0) (h2 : (nb_rd M l0 17) ≠ 0) (h3 : (0 : Int) ≤ 0) (h4 : 0 < nb_ln M (nb_rd M l0 17)) :
    nb_R nb_P 143 21 [(20, l0), v1, v2, v3, v4, (0, l5), v6] [] M = if nb_rd M (nb_rd M l0 17) 0 < l5 then nb_R nb_P 143 22 [(20, l0), v1, v2, v3, v4, (0, l5), v6] [] M else nb_R nb_P 143 23 [(20, l0), v1, v2, v3, v4, (0, l5), v6] [] M :=
  nb_step (c := ((true && !decide ((l0 : Int) = 0)) && (!decide ((nb_rd M l0 17 : Int) = 0) && (decide ((0 : Int) ≤ 0) && decide (0 < nb_ln M (nb_rd M l0 17)))))) rfl (by simp [h1, h2, h3, h4])
theorem q_m_staff_22 (l5 : Int) (v0 v1 v2 v3 v4 v6 : nb_V) (M : nb_M) :
    nb_R nb_P 143 22 [v0, v1, v2, v3, v4, (0, l5), v6] [] M = nb_R nb_P 143 24 [v0, v1, v2, v3, v4, (0, l5), v6] [(0, l5)] M :=
  nb_step (c := true) rfl rfl
theorem q_m_staff_23 (l0 : Int) (v1 v2 v3 v4 v5 v6 : nb_V) (M : nb_M) (h1 : l0 ≠ 0) (h2 : (nb_rd M l0 17) ≠ 0) (h3 : (0 : Int) ≤ 0) (h4 : 0 < nb_ln M (nb_rd M l0 17)) :
    nb_R nb_P 143 23 [(20, l0), v1, v2, v3, v4, v5, v6] [] M = nb_R nb_P 143 24 [(20, l0), v1, v2, v3, v4, v5, v6] [(0, nb_rd M (nb_rd M l0 17) 0)] M :=
  nb_step (c := ((true && !decide ((l0 : Int) = 0)) && (!decide ((nb_rd M l0 17 : Int) = 0) && (decide ((0 : Int) ≤ 0) && decide (0 < nb_ln M (nb_rd M l0 17)))))) rfl (by simp [h1, h2, h3, h4])
theorem q_m_staff_24 (s0 : Int) (v0 v1 v2 v3 v4 v5 v6 : nb_V) (M : nb_M) :
    nb_R nb_P 143 24 [v0, v1, v2, v3, v4, v5, v6] [(0, s0)] M = some ([(0, s0)], M) :=
  nb_step (c := true) rfl rfl
theorem q_m_manyWaiting_0 (l0 l1 : Int) (v2 v3 : nb_V) (M : nb_M) :
    nb_R nb_P 145 0 [(20, l0), (3, l1), v2, v3] [] M = nb_R nb_P 145 1 [(20, l0), (3, l1), (0, 0), (0, 0)] [] M :=
  nb_step (c := true) rfl rfl
theorem q_m_manyWaiting_1 (l0 l1 l2 l3 : Int) (M : nb_M) (h1 : l0 ≠ 0) (h2 : (nb_rd M l0 15) ≠ 0) (h3 : (0 : Int) ≤ 5) (h4 : 5 < nb_ln M (nb_rd M l0 15)) :
    nb_R nb_P 145 1 [(20, l0), (3, l1), (0, l2), (0, l3)] [] M = if l3 < nb_rd M (nb_rd M l0 15) 5 then nb_R nb_P 145 2 [(20, l0), (3, l1), (0, l2), (0, l3)] [] M else nb_R nb_P 145 7 [(20, l0), (3, l1), (0, l2), (0, l3)] [] M :=
  nb_step (c := ((true && !decide ((l0 : Int) = 0)) && (!decide ((nb_rd M l0 15 : Int) = 0) && (decide ((0 : Int) ≤ 5) && decide (5 < nb_ln M (nb_rd M l0 15)))))) rfl (by simp [h1, h2, h3, h4])
theorem q_m_manyWaiting_2 (l0 l1 l2 l3 : Int) (M : nb_M) :
    nb_R nb_P 145 2 [(20, l0), (3, l1), (0, l2), (0, l3)] [] M = (nb_R nb_P 126 0 [(3, l1), (0, l3)] [] M).bind fun r => nb_R nb_P 145 3 [(20, l0), (3, l1), (0, l2), (0, l3)] (r.1 ++ [(0, l2)]) r.2 :=
  nb_stepC (c := true) (L2 := [(20, l0), (3, l1), (0, l2), (0, l3)]) (S2 := [(0, l3), (3, l1), (0, l2)]) (M2 := M) (t := 3) (cl := 126) (vi := false) rfl rfl (nb_inv_eq (n := 2) rfl rfl rfl rfl rfl rfl (fun h => by cases h) rfl)
theorem q_m_manyWaiting_3 (l0 l1 l3 s0 s1 : Int) (v2 : nb_V) (M : nb_M) :
    nb_R nb_P 145 3 [(20, l0), (3, l1), v2, (0, l3)] [(0, s0), (0, s1)] M = if s0 = 0 then nb_R nb_P 145 5 [(20, l0), (3, l1), v2, (0, l3)] [(0, s1)] M else nb_R nb_P 145 4 [(20, l0), (3, l1), v2, (0, l3)] [(0, s1)] M :=
  nb_step (c := true) rfl rfl
theorem q_m_manyWaiting_4 (l0 l1 l3 s0 : Int) (v2 : nb_V) (M : nb_M) :
    nb_R nb_P 145 4 [(20, l0), (3, l1), v2, (0, l3)] [(0, s0)] M = nb_R nb_P 145 6 [(20, l0), (3, l1), v2, (0, l3)] [(0, 1), (0, s0)] M :=
  nb_step (c := true) rfl rfl
theorem q_m_manyWaiting_5 (l0 l1 l3 s0 : Int) (v2 : nb_V) (M : nb_M) :
    nb_R nb_P 145 5 [(20, l0), (3, l1), v2, (0, l3)] [(0, s0)] M = nb_R nb_P 145 6 [(20, l0), (3, l1), v2, (0, l3)] [(0, 0), (0, s0)] M :=
  nb_step (c := true) rfl rfl
theorem q_m_manyWaiting_6 (l0 l1 l3 s0 s1 : Int) (v2 : nb_V) (M : nb_M) :
    nb_R nb_P 145 6 [(20, l0), (3, l1), v2, (0, l3)] [(0, s0), (0, s1)] M = nb_R nb_P 145 1 [(20, l0), (3, l1), (0, nb_add s1 s0), (0, nb_add l3 1)] [] M :=
  nb_step (c := true) rfl rfl
theorem q_m_manyWaiting_7 (l2 : Int) (v0 v1 v3 : nb_V) (M : nb_M) :
    nb_R nb_P 145 7 [v0, v1, (0, l2), v3] [] M = some ([(0, l2)], M) :=
  nb_step (c := true) rfl rfl
theorem q_m_next_0 (l0 l1 : Int) (M : nb_M) (h1 : l0 ≠ 0) :
    nb_R nb_P 147 0 [(20, l0), (0, l1)] [] M = (nb_R nb_P 79 0 [(20, l0)] [] M).bind fun r => nb_R nb_P 147 1 [(20, l0), (0, l1)] (r.1 ++ []) r.2 :=
  nb_stepC (c := true) (L2 := [(20, l0), (0, l1)]) (S2 := [(20, l0)]) (M2 := M) (t := 1) (cl := 79) (vi := true) rfl rfl (nb_inv_eq (n := 1) rfl rfl rfl rfl rfl rfl (fun _ => h1) rfl)
theorem q_m_next_1 (l0 l1 : Int) (M : nb_M) (h1 : l0 ≠ 0) :
    nb_R nb_P 147 1 [(20, l0), (0, l1)] [] M = (nb_R nb_P 117 0 [(20, l0), (0, l1)] [] M).bind fun r => nb_R nb_P 147 2 [(20, l0), (0, l1)] (r.1 ++ []) r.2 :=
  nb_stepC (c := true) (L2 := [(20, l0), (0, l1)]) (S2 := [(0, l1), (20, l0)]) (M2 := M) (t := 2) (cl := 117) (vi := true) rfl rfl (nb_inv_eq (n := 2) rfl rfl rfl rfl rfl rfl (fun _ => h1) rfl)
theorem q_m_next_2 (l0 l1 s0 : Int) (M : nb_M) :
    nb_R nb_P 147 2 [(20, l0), (0, l1)] [(0, s0)] M = if s0 = 0 then nb_R nb_P 147 3 [(20, l0), (0, l1)] [] M else nb_R nb_P 147 5 [(20, l0), (0, l1)] [] M :=
  nb_step (c := true) rfl rfl
theorem q_m_next_3 (l0 : Int) (v1 : nb_V) (M : nb_M) (h1 : l0 ≠ 0) :
    nb_R nb_P 147 3 [(20, l0), v1] [] M = (nb_R nb_P 80 0 [(20, l0), (0, 1)] [] M).bind fun r => nb_R nb_P 147 4 [(20, l0), v1] (r.1 ++ []) r.2 :=
  nb_stepC (c := true) (L2 := [(20, l0), v1]) (S2 := [(0, 1), (20, l0)]) (M2 := M) (t := 4) (cl := 80) (vi := true) rfl rfl (nb_inv_eq (n := 2) rfl rfl rfl rfl rfl rfl (fun _ => h1) rfl)
theorem q_m_next_4 (s0 : Int) (v0 v1 : nb_V) (M : nb_M) :
    nb_R nb_P 147 4 [v0, v1] [(0, s0)] M = some ([(0, s0)], M) :=
  nb_step (c := true) rfl rfl
theorem q_m_next_5 (l0 l1 : Int) (M : nb_M) (h1 : l0 ≠ 0) :
    nb_R nb_P 147 5 [(20, l0), (0, l1)] [] M = (nb_R nb_P 121 0 [(20, l0)] [] M).bind fun r => nb_R nb_P 147 6 [(20, l0), (0, l1)] (r.1 ++ []) r.2 :=
  nb_stepC (c := true) (L2 := [(20, l0), (0, l1)]) (S2 := [(20, l0)]) (M2 := M) (t := 6) (cl := 121) (vi := true) rfl rfl (nb_inv_eq (n := 1) rfl rfl rfl rfl rfl rfl (fun _ => h1) rfl)
theorem q_m_next_6 (l0 l1 : Int) (M : nb_M) (h1 : l0 ≠ 0) :
    nb_R nb_P 147 6 [(20, l0), (0, l1)] [] M = (nb_R nb_P 131 0 [(20, l0), (3, nb_rd M l0 17), (0, l1), (98, 0), (98, 0), (98, 0), (98, 0)] [] M).bind fun r => nb_R nb_P 147 7 [(20, l0), (0, l1)] (r.1 ++ []) r.2 :=
  nb_stepC (c := (true && !decide ((l0 : Int) = 0))) (L2 := [(20, l0), (0, l1)]) (S2 := [(0, l1), (3, nb_rd M l0 17), (20, l0)]) (M2 := M) (t := 7) (cl := 131) (vi := true) rfl (by simp [h1]) (nb_inv_eq (n := 3) rfl rfl rfl rfl rfl rfl (fun _ => h1) rfl)
theorem q_m_next_7 (s0 : Int) (v0 v1 : nb_V) (M : nb_M) :
    nb_R nb_P 147 7 [v0, v1] [(0, s0)] M = some ([(0, s0)], M) :=
  nb_step (c := true) rfl rfl
theorem q_m_costs_0 (l0 l1 : Int) (M : nb_M) (h1 : l0 ≠ 0) :
    nb_R nb_P 149 0 [(20, l0), (0, l1)] [] M = (nb_R nb_P 79 0 [(20, l0)] [] M).bind fun r => nb_R nb_P 149 1 [(20, l0), (0, l1)] (r.1 ++ []) r.2 :=
  nb_stepC (c := true) (L2 := [(20, l0), (0, l1)]) (S2 := [(20, l0)]) (M2 := M) (t := 1) (cl := 79) (vi := true) rfl rfl (nb_inv_eq (n := 1) rfl rfl rfl rfl rfl rfl (fun _ => h1) rfl)
theorem q_m_costs_1 (l0 l1 : Int) (M : nb_M) (h1 : l0 ≠ 0) :
    nb_R nb_P 149 1 [(20, l0), (0, l1)] [] M = (nb_R nb_P 116 0 [(20, l0), (0, l1)] [] M).bind fun r => nb_R nb_P 149 2 [(20, l0), (0, l1)] (r.1 ++ []) r.2 :=
  nb_stepC (c := true) (L2 := [(20, l0), (0, l1)]) (S2 := [(0, l1), (20, l0)]) (M2 := M) (t := 2) (cl := 116) (vi := true) rfl rfl (nb_inv_eq (n := 2) rfl rfl rfl rfl rfl rfl (fun _ => h1) rfl)
theorem q_m_costs_2 (l0 l1 s0 : Int) (M : nb_M) :
    nb_R nb_P 149 2 [(20, l0), (0, l1)] [(0, s0)] M = if s0 = 0 then nb_R nb_P 149 5 [(20, l0), (0, l1)] [] M else nb_R nb_P 149 3 [(20, l0), (0, l1)] [] M :=
  nb_step (c := true) rfl rfl
theorem q_m_costs_3 (l0 l1 : Int) (M : nb_M) (h1 : l0 ≠ 0) :
    nb_R nb_P 149 3 [(20, l0), (0, l1)] [] M = (nb_R nb_P 141 0 [(20, l0), (0, l1), (98, 0), (98, 0)] [] M).bind fun r => nb_R nb_P 149 4 [(20, l0), (0, l1)] (r.1 ++ []) r.2 :=
  nb_stepC (c := true) (L2 := [(20, l0), (0, l1)]) (S2 := [(0, l1), (20, l0)]) (M2 := M) (t := 4) (cl := 141) (vi := true) rfl rfl (nb_inv_eq (n := 2) rfl rfl rfl rfl rfl rfl (fun _ => h1) rfl)
theorem q_m_costs_4 (s0 : Int) (v0 v1 : nb_V) (M : nb_M) :
    nb_R nb_P 149 4 [v0, v1] [(0, s0)] M = nb_R nb_P 149 6 [v0, v1] [(0, s0)] M :=
  nb_step (c := true) rfl rfl
theorem q_m_costs_5 (l0 : Int) (v1 : nb_V) (M : nb_M) (h1 : l0 ≠ 0) :
    nb_R nb_P 149 5 [(20, l0), v1] [] M = (nb_R nb_P 80 0 [(20, l0), (0, 1)] [] M).bind fun r => nb_R nb_P 149 6 [(20, l0), v1] (r.1 ++ []) r.2 :=
  nb_stepC (c := true) (L2 := [(20, l0), v1]) (S2 := [(0, 1), (20, l0)]) (M2 := M) (t := 6) (cl := 80) (vi := true) rfl rfl (nb_inv_eq (n := 2) rfl rfl rfl rfl rfl rfl (fun _ => h1) rfl)
theorem q_m_costs_6 (s0 : Int) (v0 v1 : nb_V) (M : nb_M) :
    nb_R nb_P 149 6 [v0, v1] [(0, s0)] M = some ([(0, s0)], M) :=
  nb_step (c := true) rfl rfl
theorem q_m_fate_0 (l0 l1 : Int) (M : nb_M) (h1 : l0 ≠ 0) :
    nb_R nb_P 151 0 [(20, l0), (0, l1)] [] M = (nb_R nb_P 79 0 [(20, l0)] [] M).bind fun r => nb_R nb_P 151 1 [(20, l0), (0, l1)] (r.1 ++ []) r.2 :=
  nb_stepC (c := true) (L2 := [(20, l0), (0, l1)]) (S2 := [(20, l0)]) (M2 := M) (t := 1) (cl := 79) (vi := true) rfl rfl (nb_inv_eq (n := 1) rfl rfl rfl rfl rfl rfl (fun _ => h1) rfl)
theorem q_m_fate_1 (l0 l1 : Int) (M : nb_M) (h1 : l0 ≠ 0) :
    nb_R nb_P 151 1 [(20, l0), (0, l1)] [] M = (nb_R nb_P 116 0 [(20, l0), (0, l1)] [] M).bind fun r => nb_R nb_P 151 2 [(20, l0), (0, l1)] (r.1 ++ []) r.2 :=
  nb_stepC (c := true) (L2 := [(20, l0), (0, l1)]) (S2 := [(0, l1), (20, l0)]) (M2 := M) (t := 2) (cl := 116) (vi := true) rfl rfl (nb_inv_eq (n := 2) rfl rfl rfl rfl rfl rfl (fun _ => h1) rfl)
theorem q_m_fate_2 (l0 l1 s0 : Int) (M : nb_M) :
    nb_R nb_P 151 2 [(20, l0), (0, l1)] [(0, s0)] M = if s0 = 0 then nb_R nb_P 151 3 [(20, l0), (0, l1)] [] M else nb_R nb_P 151 5 [(20, l0), (0, l1)] [] M :=
  nb_step (c := true) rfl rfl
theorem q_m_fate_3 (l0 : Int) (v1 : nb_V) (M : nb_M) (h1 : l0 ≠ 0) :
    nb_R nb_P 151 3 [(20, l0), v1] [] M = (nb_R nb_P 80 0 [(20, l0), (0, 1)] [] M).bind fun r => nb_R nb_P 151 4 [(20, l0), v1] (r.1 ++ []) r.2 :=
  nb_stepC (c := true) (L2 := [(20, l0), v1]) (S2 := [(0, 1), (20, l0)]) (M2 := M) (t := 4) (cl := 80) (vi := true) rfl rfl (nb_inv_eq (n := 2) rfl rfl rfl rfl rfl rfl (fun _ => h1) rfl)
theorem q_m_fate_4 (s0 : Int) (v0 v1 : nb_V) (M : nb_M) :
    nb_R nb_P 151 4 [v0, v1] [(0, s0)] M = some ([(0, s0)], M) :=
  nb_step (c := true) rfl rfl
theorem q_m_fate_5 (l0 l1 : Int) (M : nb_M) (h1 : l0 ≠ 0) :
    nb_R nb_P 151 5 [(20, l0), (0, l1)] [] M = (nb_R nb_P 150 0 [(20, l0)] [] M).bind fun r => nb_R nb_P 151 6 [(20, l0), (0, l1)] (r.1 ++ []) r.2 :=
  nb_stepC (c := true) (L2 := [(20, l0), (0, l1)]) (S2 := [(20, l0)]) (M2 := M) (t := 6) (cl := 150) (vi := true) rfl rfl (nb_inv_eq (n := 1) rfl rfl rfl rfl rfl rfl (fun _ => h1) rfl)
theorem q_m_fate_6 (l0 l1 : Int) (M : nb_M) (h1 : l0 ≠ 0) :
    nb_R nb_P 151 6 [(20, l0), (0, l1)] [] M = (nb_R nb_P 135 0 [(20, l0), (0, l1)] [] M).bind fun r => nb_R nb_P 151 7 [(20, l0), (0, l1)] (r.1 ++ []) r.2 :=
  nb_stepC (c := true) (L2 := [(20, l0), (0, l1)]) (S2 := [(0, l1), (20, l0)]) (M2 := M) (t := 7) (cl := 135) (vi := true) rfl rfl (nb_inv_eq (n := 2) rfl rfl rfl rfl rfl rfl (fun _ => h1) rfl)
theorem q_m_fate_7 (s0 : Int) (v0 v1 : nb_V) (M : nb_M) :
    nb_R nb_P 151 7 [v0, v1] [(0, s0)] M = some ([(0, s0)], M) :=
  nb_step (c := true) rfl rfl
theorem q_m_whom_0 (l0 l1 : Int) (M : nb_M) (h1 : l0 ≠ 0) :
    nb_R nb_P 153 0 [(20, l0), (0, l1)] [] M = (nb_R nb_P 79 0 [(20, l0)] [] M).bind fun r => nb_R nb_P 153 1 [(20, l0), (0, l1)] (r.1 ++ []) r.2 :=
  nb_stepC (c := true) (L2 := [(20, l0), (0, l1)]) (S2 := [(20, l0)]) (M2 := M) (t := 1) (cl := 79) (vi := true) rfl rfl (nb_inv_eq (n := 1) rfl rfl rfl rfl rfl rfl (fun _ => h1) rfl)
theorem q_m_whom_1 (l0 l1 : Int) (M : nb_M) (h1 : l0 ≠ 0) :
    nb_R nb_P 153 1 [(20, l0), (0, l1)] [] M = (nb_R nb_P 116 0 [(20, l0), (0, l1)] [] M).bind fun r => nb_R nb_P 153 2 [(20, l0), (0, l1)] (r.1 ++ []) r.2 :=
  nb_stepC (c := true) (L2 := [(20, l0), (0, l1)]) (S2 := [(0, l1), (20, l0)]) (M2 := M) (t := 2) (cl := 116) (vi := true) rfl rfl (nb_inv_eq (n := 2) rfl rfl rfl rfl rfl rfl (fun _ => h1) rfl)
theorem q_m_whom_2 (l0 l1 s0 : Int) (M : nb_M) :
    nb_R nb_P 153 2 [(20, l0), (0, l1)] [(0, s0)] M = if s0 = 0 then nb_R nb_P 153 3 [(20, l0), (0, l1)] [] M else nb_R nb_P 153 5 [(20, l0), (0, l1)] [] M :=
  nb_step (c := true) rfl rfl
theorem q_m_whom_3 (l0 : Int) (v1 : nb_V) (M : nb_M) (h1 : l0 ≠ 0) :
    nb_R nb_P 153 3 [(20, l0), v1] [] M = (nb_R nb_P 80 0 [(20, l0), (0, 1)] [] M).bind fun r => nb_R nb_P 153 4 [(20, l0), v1] (r.1 ++ []) r.2 :=
  nb_stepC (c := true) (L2 := [(20, l0), v1]) (S2 := [(0, 1), (20, l0)]) (M2 := M) (t := 4) (cl := 80) (vi := true) rfl rfl (nb_inv_eq (n := 2) rfl rfl rfl rfl rfl rfl (fun _ => h1) rfl)
theorem q_m_whom_4 (s0 : Int) (v0 v1 : nb_V) (M : nb_M) :
    nb_R nb_P 153 4 [v0, v1] [(0, s0)] M = some ([(0, s0)], M) :=
  nb_step (c := true) rfl rfl
theorem q_m_whom_5 (l0 l1 : Int) (M : nb_M) (h1 : l0 ≠ 0) :
    nb_R nb_P 153 5 [(20, l0), (0, l1)] [] M = (nb_R nb_P 150 0 [(20, l0)] [] M).bind fun r => nb_R nb_P 153 6 [(20, l0), (0, l1)] (r.1 ++ []) r.2 :=
  nb_stepC (c := true) (L2 := [(20, l0), (0, l1)]) (S2 := [(20, l0)]) (M2 := M) (t := 6) (cl := 150) (vi := true) rfl rfl (nb_inv_eq (n := 1) rfl rfl rfl rfl rfl rfl (fun _ => h1) rfl)
theorem q_m_whom_6 (l0 l1 : Int) (M : nb_M) (h1 : l0 ≠ 0) :
    nb_R nb_P 153 6 [(20, l0), (0, l1)] [] M = (nb_R nb_P 125 0 [(3, nb_rd M l0 18), (0, l1), (0, 6)] [] M).bind fun r => nb_R nb_P 153 7 [(20, l0), (0, l1)] (r.1 ++ []) r.2 :=
  nb_stepC (c := (true && !decide ((l0 : Int) = 0))) (L2 := [(20, l0), (0, l1)]) (S2 := [(0, 6), (0, l1), (3, nb_rd M l0 18)]) (M2 := M) (t := 7) (cl := 125) (vi := false) rfl (by simp [h1]) (nb_inv_eq (n := 3) rfl rfl rfl rfl rfl rfl (fun h => by cases h) rfl)
theorem q_m_whom_7 (s0 : Int) (v0 v1 : nb_V) (M : nb_M) :
    nb_R nb_P 153 7 [v0, v1] [(0, s0)] M = some ([(0, s0)], M) :=
  nb_step (c := true) rfl rfl
theorem q_m_passed_0 (l0 l1 : Int) (M : nb_M) (h1 : l0 ≠ 0) :
    nb_R nb_P 155 0 [(20, l0), (0, l1)] [] M = (nb_R nb_P 79 0 [(20, l0)] [] M).bind fun r => nb_R nb_P 155 1 [(20, l0), (0, l1)] (r.1 ++ []) r.2 :=
  nb_stepC (c := true) (L2 := [(20, l0), (0, l1)]) (S2 := [(20, l0)]) (M2 := M) (t := 1) (cl := 79) (vi := true) rfl rfl (nb_inv_eq (n := 1) rfl rfl rfl rfl rfl rfl (fun _ => h1) rfl)
theorem q_m_passed_1 (l0 l1 : Int) (M : nb_M) (h1 : l0 ≠ 0) :
    nb_R nb_P 155 1 [(20, l0), (0, l1)] [] M = (nb_R nb_P 116 0 [(20, l0), (0, l1)] [] M).bind fun r => nb_R nb_P 155 2 [(20, l0), (0, l1)] (r.1 ++ []) r.2 :=
  nb_stepC (c := true) (L2 := [(20, l0), (0, l1)]) (S2 := [(0, l1), (20, l0)]) (M2 := M) (t := 2) (cl := 116) (vi := true) rfl rfl (nb_inv_eq (n := 2) rfl rfl rfl rfl rfl rfl (fun _ => h1) rfl)
theorem q_m_passed_2 (l0 l1 s0 : Int) (M : nb_M) :
    nb_R nb_P 155 2 [(20, l0), (0, l1)] [(0, s0)] M = if s0 = 0 then nb_R nb_P 155 3 [(20, l0), (0, l1)] [] M else nb_R nb_P 155 5 [(20, l0), (0, l1)] [] M :=
  nb_step (c := true) rfl rfl
theorem q_m_passed_3 (l0 : Int) (v1 : nb_V) (M : nb_M) (h1 : l0 ≠ 0) :
    nb_R nb_P 155 3 [(20, l0), v1] [] M = (nb_R nb_P 80 0 [(20, l0), (0, 1)] [] M).bind fun r => nb_R nb_P 155 4 [(20, l0), v1] (r.1 ++ []) r.2 :=
  nb_stepC (c := true) (L2 := [(20, l0), v1]) (S2 := [(0, 1), (20, l0)]) (M2 := M) (t := 4) (cl := 80) (vi := true) rfl rfl (nb_inv_eq (n := 2) rfl rfl rfl rfl rfl rfl (fun _ => h1) rfl)
theorem q_m_passed_4 (s0 : Int) (v0 v1 : nb_V) (M : nb_M) :
    nb_R nb_P 155 4 [v0, v1] [(0, s0)] M = some ([(0, s0)], M) :=
  nb_step (c := true) rfl rfl
theorem q_m_passed_5 (l0 l1 : Int) (M : nb_M) (h1 : l0 ≠ 0) :
    nb_R nb_P 155 5 [(20, l0), (0, l1)] [] M = (nb_R nb_P 150 0 [(20, l0)] [] M).bind fun r => nb_R nb_P 155 6 [(20, l0), (0, l1)] (r.1 ++ []) r.2 :=
  nb_stepC (c := true) (L2 := [(20, l0), (0, l1)]) (S2 := [(20, l0)]) (M2 := M) (t := 6) (cl := 150) (vi := true) rfl rfl (nb_inv_eq (n := 1) rfl rfl rfl rfl rfl rfl (fun _ => h1) rfl)
theorem q_m_passed_6 (l0 l1 : Int) (M : nb_M) (h1 : l0 ≠ 0) :
    nb_R nb_P 155 6 [(20, l0), (0, l1)] [] M = (nb_R nb_P 138 0 [(20, l0), (0, l1), (98, 0), (98, 0), (98, 0), (98, 0), (98, 0)] [] M).bind fun r => nb_R nb_P 155 7 [(20, l0), (0, l1)] (r.1 ++ []) r.2 :=
  nb_stepC (c := true) (L2 := [(20, l0), (0, l1)]) (S2 := [(0, l1), (20, l0)]) (M2 := M) (t := 7) (cl := 138) (vi := true) rfl rfl (nb_inv_eq (n := 2) rfl rfl rfl rfl rfl rfl (fun _ => h1) rfl)
theorem q_m_passed_7 (s0 : Int) (v0 v1 : nb_V) (M : nb_M) :
    nb_R nb_P 155 7 [v0, v1] [(0, s0)] M = some ([(0, s0)], M) :=
  nb_step (c := true) rfl rfl
theorem q_m_sum_0 (l0 l1 : Int) (M : nb_M) (h1 : l0 ≠ 0) :
    nb_R nb_P 157 0 [(20, l0), (0, l1)] [] M = (nb_R nb_P 79 0 [(20, l0)] [] M).bind fun r => nb_R nb_P 157 1 [(20, l0), (0, l1)] (r.1 ++ []) r.2 :=
  nb_stepC (c := true) (L2 := [(20, l0), (0, l1)]) (S2 := [(20, l0)]) (M2 := M) (t := 1) (cl := 79) (vi := true) rfl rfl (nb_inv_eq (n := 1) rfl rfl rfl rfl rfl rfl (fun _ => h1) rfl)
theorem q_m_sum_1 (l0 l1 : Int) (M : nb_M) (h1 : l0 ≠ 0) :
    nb_R nb_P 157 1 [(20, l0), (0, l1)] [] M = if nb_rd M l0 14 = 0 then nb_R nb_P 157 4 [(20, l0), (0, l1)] [] M else nb_R nb_P 157 2 [(20, l0), (0, l1)] [] M :=
  nb_step (c := (true && !decide ((l0 : Int) = 0))) rfl (by simp [h1])
theorem q_m_sum_2 (l0 l1 : Int) (M : nb_M) :
    nb_R nb_P 157 2 [(20, l0), (0, l1)] [] M = (nb_R nb_P 83 0 [(0, l1), (0, 0), (0, 5)] [] M).bind fun r => nb_R nb_P 157 3 [(20, l0), (0, l1)] (r.1 ++ []) r.2 :=
  nb_stepC (c := true) (L2 := [(20, l0), (0, l1)]) (S2 := [(0, 5), (0, 0), (0, l1)]) (M2 := M) (t := 3) (cl := 83) (vi := false) rfl rfl (nb_inv_eq (n := 3) rfl rfl rfl rfl rfl rfl (fun h => by cases h) rfl)
theorem q_m_sum_3 (l0 l1 s0 : Int) (M : nb_M) :
    nb_R nb_P 157 3 [(20, l0), (0, l1)] [(0, s0)] M = if s0 = 0 then nb_R nb_P 157 4 [(20, l0), (0, l1)] [] M else nb_R nb_P 157 6 [(20, l0), (0, l1)] [] M :=
  nb_step (c := true) rfl rfl
theorem q_m_sum_4 (l0 : Int) (v1 : nb_V) (M : nb_M) (h1 : l0 ≠ 0) :
    nb_R nb_P 157 4 [(20, l0), v1] [] M = (nb_R nb_P 80 0 [(20, l0), (0, 1)] [] M).bind fun r => nb_R nb_P 157 5 [(20, l0), v1] (r.1 ++ []) r.2 :=
  nb_stepC (c := true) (L2 := [(20, l0), v1]) (S2 := [(0, 1), (20, l0)]) (M2 := M) (t := 5) (cl := 80) (vi := true) rfl rfl (nb_inv_eq (n := 2) rfl rfl rfl rfl rfl rfl (fun _ => h1) rfl)
theorem q_m_sum_5 (s0 : Int) (v0 v1 : nb_V) (M : nb_M) :
    nb_R nb_P 157 5 [v0, v1] [(0, s0)] M = some ([(0, s0)], M) :=
  nb_step (c := true) rfl rfl
theorem q_m_sum_6 (l0 l1 : Int) (M : nb_M) (h1 : l0 ≠ 0) :
    nb_R nb_P 157 6 [(20, l0), (0, l1)] [] M = (nb_R nb_P 150 0 [(20, l0)] [] M).bind fun r => nb_R nb_P 157 7 [(20, l0), (0, l1)] (r.1 ++ []) r.2 :=
  nb_stepC (c := true) (L2 := [(20, l0), (0, l1)]) (S2 := [(20, l0)]) (M2 := M) (t := 7) (cl := 150) (vi := true) rfl rfl (nb_inv_eq (n := 1) rfl rfl rfl rfl rfl rfl (fun _ => h1) rfl)
theorem q_m_sum_7 (l0 l1 : Int) (M : nb_M) (h1 : l0 ≠ 0) :
    nb_R nb_P 157 7 [(20, l0), (0, l1)] [] M = (nb_R nb_P 140 0 [(20, l0), (0, l1), (98, 0), (98, 0), (98, 0)] [] M).bind fun r => nb_R nb_P 157 8 [(20, l0), (0, l1)] (r.1 ++ []) r.2 :=
  nb_stepC (c := true) (L2 := [(20, l0), (0, l1)]) (S2 := [(0, l1), (20, l0)]) (M2 := M) (t := 8) (cl := 140) (vi := true) rfl rfl (nb_inv_eq (n := 2) rfl rfl rfl rfl rfl rfl (fun _ => h1) rfl)
theorem q_m_sum_8 (s0 : Int) (v0 v1 : nb_V) (M : nb_M) :
    nb_R nb_P 157 8 [v0, v1] [(0, s0)] M = some ([(0, s0)], M) :=
  nb_step (c := true) rfl rfl
theorem q_m_waitingAt_0 (l0 l1 : Int) (M : nb_M) (h1 : l0 ≠ 0) :
    nb_R nb_P 159 0 [(20, l0), (0, l1)] [] M = (nb_R nb_P 79 0 [(20, l0)] [] M).bind fun r => nb_R nb_P 159 1 [(20, l0), (0, l1)] (r.1 ++ []) r.2 :=
  nb_stepC (c := true) (L2 := [(20, l0), (0, l1)]) (S2 := [(20, l0)]) (M2 := M) (t := 1) (cl := 79) (vi := true) rfl rfl (nb_inv_eq (n := 1) rfl rfl rfl rfl rfl rfl (fun _ => h1) rfl)
theorem q_m_waitingAt_1 (l0 l1 : Int) (M : nb_M) (h1 : l0 ≠ 0) :
    nb_R nb_P 159 1 [(20, l0), (0, l1)] [] M = if nb_rd M l0 14 = 0 then nb_R nb_P 159 2 [(20, l0), (0, l1)] [] M else nb_R nb_P 159 4 [(20, l0), (0, l1)] [] M :=
  nb_step (c := (true && !decide ((l0 : Int) = 0))) rfl (by simp [h1])
theorem q_m_waitingAt_2 (l0 : Int) (v1 : nb_V) (M : nb_M) (h1 : l0 ≠ 0) :
    nb_R nb_P 159 2 [(20, l0), v1] [] M = (nb_R nb_P 80 0 [(20, l0), (0, 1)] [] M).bind fun r => nb_R nb_P 159 3 [(20, l0), v1] (r.1 ++ []) r.2 :=
  nb_stepC (c := true) (L2 := [(20, l0), v1]) (S2 := [(0, 1), (20, l0)]) (M2 := M) (t := 3) (cl := 80) (vi := true) rfl rfl (nb_inv_eq (n := 2) rfl rfl rfl rfl rfl rfl (fun _ => h1) rfl)
theorem q_m_waitingAt_3 (s0 : Int) (v0 v1 : nb_V) (M : nb_M) :
    nb_R nb_P 159 3 [v0, v1] [(0, s0)] M = some ([(0, s0)], M) :=
  nb_step (c := true) rfl rfl
theorem q_m_waitingAt_4 (l0 l1 : Int) (M : nb_M) (h1 : l0 ≠ 0) (h2 : (nb_rd M l0 17) ≠ 0) (h3 : (0 : Int) ≤ 0) (h4 : 0 < nb_ln M (nb_rd M l0 17)) (h5 : (nb_rd M l0 15) ≠ 0) (h6 : (0 : Int) ≤ 2) (h7 : 2 < nb_ln M (nb_rd M l0 15)) :
    nb_R nb_P 159 4 [(20, l0), (0, l1)] [] M = (nb_R nb_P 83 0 [(0, l1), (0, nb_rd M (nb_rd M l0 17) 0), (0, nb_rd M (nb_rd M l0 15) 2)] [] M).bind fun r => nb_R nb_P 159 5 [(20, l0), (0, l1)] (r.1 ++ []) r.2 :=
  nb_stepC (c := ((((true && !decide ((l0 : Int) = 0)) && (!decide ((nb_rd M l0 17 : Int) = 0) && (decide ((0 : Int) ≤ 0) && decide (0 < nb_ln M (nb_rd M l0 17))))) && !decide ((l0 : Int) = 0)) && (!decide ((nb_rd M l0 15 : Int) = 0) && (decide ((0 : Int) ≤ 2) && decide (2 < nb_ln M (nb_rd M l0 15)))))) (L2 := [(20, l0), (0, l1)]) (S2 := [(0, nb_rd M (nb_rd M l0 15) 2), (0, nb_rd M (nb_rd M l0 17) 0), (0, l1)]) (M2 := M) (t := 5) (cl := 83) (vi := false) rfl (by simp [h1, h2, h3, h4, h5, h6, h7]) (nb_inv_eq (n := 3) rfl rfl rfl rfl rfl rfl (fun h => by cases h) rfl)
theorem q_m_waitingAt_5 (l0 l1 s0 : Int) (M : nb_M) :
    nb_R nb_P 159 5 [(20, l0), (0, l1)] [(0, s0)] M = if s0 = 0 then nb_R nb_P 159 6 [(20, l0), (0, l1)] [] M else nb_R nb_P 159 8 [(20, l0), (0, l1)] [] M :=
  nb_step (c := true) rfl rfl
theorem q_m_waitingAt_6 (l0 : Int) (v1 : nb_V) (M : nb_M) (h1 : l0 ≠ 0) :
    nb_R nb_P 159 6 [(20, l0), v1] [] M = (nb_R nb_P 80 0 [(20, l0), (0, 2)] [] M).bind fun r => nb_R nb_P 159 7 [(20, l0), v1] (r.1 ++ []) r.2 :=
  nb_stepC (c := true) (L2 := [(20, l0), v1]) (S2 := [(0, 2), (20, l0)]) (M2 := M) (t := 7) (cl := 80) (vi := true) rfl rfl (nb_inv_eq (n := 2) rfl rfl rfl rfl rfl rfl (fun _ => h1) rfl)
theorem q_m_waitingAt_7 (s0 : Int) (v0 v1 : nb_V) (M : nb_M) :
    nb_R nb_P 159 7 [v0, v1] [(0, s0)] M = some ([(0, s0)], M) :=
  nb_step (c := true) rfl rfl
theorem q_m_waitingAt_8 (l0 l1 : Int) (M : nb_M) (h1 : l0 ≠ 0) :
    nb_R nb_P 159 8 [(20, l0), (0, l1)] [] M = (nb_R nb_P 121 0 [(20, l0)] [] M).bind fun r => nb_R nb_P 159 9 [(20, l0), (0, l1)] (r.1 ++ []) r.2 :=
  nb_stepC (c := true) (L2 := [(20, l0), (0, l1)]) (S2 := [(20, l0)]) (M2 := M) (t := 9) (cl := 121) (vi := true) rfl rfl (nb_inv_eq (n := 1) rfl rfl rfl rfl rfl rfl (fun _ => h1) rfl)
theorem q_m_waitingAt_9 (l0 l1 : Int) (M : nb_M) (h1 : l0 ≠ 0) :
    nb_R nb_P 159 9 [(20, l0), (0, l1)] [] M = nb_R nb_P 159 10 [(20, l0), (0, l1)] [] (nb_wr M l0 26 l1) :=
  nb_step (c := (true && (!decide ((l0 : Int) = 0) && (!false || (decide ((l1 : Int) = 0) || decide ((l1 : Int) = 1)))))) rfl (by simp [h1])
theorem q_m_waitingAt_10 (l0 : Int) (v1 : nb_V) (M : nb_M) (h1 : l0 ≠ 0) :
    nb_R nb_P 159 10 [(20, l0), v1] [] M = (nb_R nb_P 134 0 [(20, l0)] [] M).bind fun r => nb_R nb_P 159 11 [(20, l0), v1] (r.1 ++ []) r.2 :=
  nb_stepC (c := true) (L2 := [(20, l0), v1]) (S2 := [(20, l0)]) (M2 := M) (t := 11) (cl := 134) (vi := true) rfl rfl (nb_inv_eq (n := 1) rfl rfl rfl rfl rfl rfl (fun _ => h1) rfl)
theorem q_m_waitingAt_11 (l0 : Int) (v1 : nb_V) (M : nb_M) (h1 : l0 ≠ 0) :
    nb_R nb_P 159 11 [(20, l0), v1] [] M = (nb_R nb_P 145 0 [(20, l0), (3, nb_rd M l0 18), (98, 0), (98, 0)] [] M).bind fun r => nb_R nb_P 159 12 [(20, l0), v1] (r.1 ++ []) r.2 :=
  nb_stepC (c := (true && !decide ((l0 : Int) = 0))) (L2 := [(20, l0), v1]) (S2 := [(3, nb_rd M l0 18), (20, l0)]) (M2 := M) (t := 12) (cl := 145) (vi := true) rfl (by simp [h1]) (nb_inv_eq (n := 2) rfl rfl rfl rfl rfl rfl (fun _ => h1) rfl)
theorem q_m_waitingAt_12 (s0 : Int) (v0 v1 : nb_V) (M : nb_M) :
    nb_R nb_P 159 12 [v0, v1] [(0, s0)] M = some ([(0, s0)], M) :=
  nb_step (c := true) rfl rfl
theorem q_m_layRule_0 (l0 l1 l2 : Int) (v3 : nb_V) (M : nb_M) (h1 : l0 ≠ 0) :
    nb_R nb_P 161 0 [(20, l0), (0, l1), (0, l2), v3] [] M = (nb_R nb_P 121 0 [(20, l0)] [] M).bind fun r => nb_R nb_P 161 1 [(20, l0), (0, l1), (0, l2), v3] (r.1 ++ []) r.2 :=
  nb_stepC (c := true) (L2 := [(20, l0), (0, l1), (0, l2), v3]) (S2 := [(20, l0)]) (M2 := M) (t := 1) (cl := 121) (vi := true) rfl rfl (nb_inv_eq (n := 1) rfl rfl rfl rfl rfl rfl (fun _ => h1) rfl)
theorem q_m_layRule_1 (l0 l1 l2 : Int) (v3 : nb_V) (M : nb_M) (h1 : l0 ≠ 0) (h2 : (nb_rd M l0 15) ≠ 0) (h3 : (0 : Int) ≤ 2) (h4 : 2 < nb_ln M (nb_rd M l0 15)) :
    nb_R nb_P 161 1 [(20, l0), (0, l1), (0, l2), v3] [] M = nb_R nb_P 161 2 [(20, l0), (0, l1), (0, l2), v3] [] (nb_wr M l0 26 (nb_rd M (nb_rd M l0 15) 2)) :=
  nb_step (c := (((true && !decide ((l0 : Int) = 0)) && (!decide ((nb_rd M l0 15 : Int) = 0) && (decide ((0 : Int) ≤ 2) && decide (2 < nb_ln M (nb_rd M l0 15))))) && (!decide ((l0 : Int) = 0) && (!false || (decide ((nb_rd M (nb_rd M l0 15) 2 : Int) = 0) || decide ((nb_rd M (nb_rd M l0 15) 2 : Int) = 1)))))) rfl (by simp [h1, h2, h3, h4])
theorem q_m_layRule_2 (l0 l1 l2 : Int) (v3 : nb_V) (M : nb_M) :
    nb_R nb_P 161 2 [(20, l0), (0, l1), (0, l2), v3] [] M = nb_R nb_P 161 3 [(20, l0), (0, l1), (0, l2), (0, 0)] [] M :=
  nb_step (c := true) rfl rfl
theorem q_m_layRule_3 (l0 l1 l2 l3 : Int) (M : nb_M) (h1 : l0 ≠ 0) :
    nb_R nb_P 161 3 [(20, l0), (0, l1), (0, l2), (0, l3)] [] M = if l3 < nb_rd M l0 25 then nb_R nb_P 161 4 [(20, l0), (0, l1), (0, l2), (0, l3)] [] M else nb_R nb_P 161 10 [(20, l0), (0, l1), (0, l2), (0, l3)] [] M :=
  nb_step (c := (true && !decide ((l0 : Int) = 0))) rfl (by simp [h1])
theorem q_m_layRule_4 (l0 l1 l2 l3 : Int) (M : nb_M) (h1 : l0 ≠ 0) (h2 : (nb_rd M l0 23) ≠ 0) (h3 : (nb_rd M l0 23) ≠ 1) (h4 : (0 : Int) ≤ nb_add (nb_mul 6 l3) 0) (h5 : nb_add (nb_mul 6 l3) 0 < nb_ln M (nb_rd M l0 23)) :
    nb_R nb_P 161 4 [(20, l0), (0, l1), (0, l2), (0, l3)] [] M = nb_R nb_P 161 5 [(20, l0), (0, l1), (0, l2), (0, l3)] [] (nb_wr M (nb_rd M l0 23) (nb_add (nb_mul 6 l3) 0) l1) :=
  nb_step (c := ((true && !decide ((l0 : Int) = 0)) && (!decide ((nb_rd M l0 23 : Int) = 0) && (!decide ((nb_rd M l0 23 : Int) = 1) && (decide ((0 : Int) ≤ nb_add (nb_mul 6 l3) 0) && decide (nb_add (nb_mul 6 l3) 0 < nb_ln M (nb_rd M l0 23))))))) rfl (by simp [h1, h2, h3, h4, h5])
theorem q_m_layRule_5 (l0 l1 l2 l3 : Int) (M : nb_M) :
    nb_R nb_P 161 5 [(20, l0), (0, l1), (0, l2), (0, l3)] [] M = if l2 = 0 then nb_R nb_P 161 6 [(20, l0), (0, l1), (0, l2), (0, l3)] [] M else nb_R nb_P 161 7 [(20, l0), (0, l1), (0, l2), (0, l3)] [] M :=
  nb_step (c := true) rfl rfl
theorem q_m_layRule_6 (l0 l1 l2 l3 : Int) (M : nb_M) :
    nb_R nb_P 161 6 [(20, l0), (0, l1), (0, l2), (0, l3)] [] M = nb_R nb_P 161 9 [(20, l0), (0, l1), (0, l2), (0, l3)] [] M :=
  nb_step (c := true) rfl rfl
theorem q_m_layRule_7 (l0 l1 l2 l3 : Int) (M : nb_M) (h1 : l0 ≠ 0) (h2 : (nb_rd M l0 23) ≠ 0) (h3 : (nb_rd M l0 23) ≠ 1) (h4 : (0 : Int) ≤ nb_add (nb_mul 6 l3) 2) (h5 : nb_add (nb_mul 6 l3) 2 < nb_ln M (nb_rd M l0 23)) :
    nb_R nb_P 161 7 [(20, l0), (0, l1), (0, l2), (0, l3)] [] M = nb_R nb_P 161 8 [(20, l0), (0, l1), (0, l2), (0, l3)] [] (nb_wr M (nb_rd M l0 23) (nb_add (nb_mul 6 l3) 2) 0) :=
  nb_step (c := ((true && !decide ((l0 : Int) = 0)) && (!decide ((nb_rd M l0 23 : Int) = 0) && (!decide ((nb_rd M l0 23 : Int) = 1) && (decide ((0 : Int) ≤ nb_add (nb_mul 6 l3) 2) && decide (nb_add (nb_mul 6 l3) 2 < nb_ln M (nb_rd M l0 23))))))) rfl (by simp [h1, h2, h3, h4, h5])
theorem q_m_layRule_8 (l0 l1 l2 l3 : Int) (M : nb_M) (h1 : l0 ≠ 0) (h2 : (nb_rd M l0 15) ≠ 0) (h3 : (0 : Int) ≤ 1) (h4 : 1 < nb_ln M (nb_rd M l0 15)) (h5 : (nb_rd M l0 23) ≠ 0) (h6 : (nb_rd M l0 23) ≠ 1) (h7 : (0 : Int) ≤ nb_add (nb_mul 6 l3) 3) (h8 : nb_add (nb_mul 6 l3) 3 < nb_ln M (nb_rd M l0 23)) :
    nb_R nb_P 161 8 [(20, l0), (0, l1), (0, l2), (0, l3)] [] M = nb_R nb_P 161 9 [(20, l0), (0, l1), (0, l2), (0, l3)] [] (nb_wr M (nb_rd M l0 23) (nb_add (nb_mul 6 l3) 3) (nb_sub (nb_rd M (nb_rd M l0 15) 1) 1)) :=
  nb_step (c := ((((true && !decide ((l0 : Int) = 0)) && !decide ((l0 : Int) = 0)) && (!decide ((nb_rd M l0 15 : Int) = 0) && (decide ((0 : Int) ≤ 1) && decide (1 < nb_ln M (nb_rd M l0 15))))) && (!decide ((nb_rd M l0 23 : Int) = 0) && (!decide ((nb_rd M l0 23 : Int) = 1) && (decide ((0 : Int) ≤ nb_add (nb_mul 6 l3) 3) && decide (nb_add (nb_mul 6 l3) 3 < nb_ln M (nb_rd M l0 23))))))) rfl (by simp [h1, h2, h3, h4, h5, h6, h7, h8])
theorem q_m_layRule_9 (l0 l1 l2 l3 : Int) (M : nb_M) :
    nb_R nb_P 161 9 [(20, l0), (0, l1), (0, l2), (0, l3)] [] M = nb_R nb_P 161 3 [(20, l0), (0, l1), (0, l2), (0, nb_add l3 1)] [] M :=
  nb_step (c := true) rfl rfl
theorem q_m_layRule_10 (l0 : Int) (v1 v2 v3 : nb_V) (M : nb_M) (h1 : l0 ≠ 0) :
    nb_R nb_P 161 10 [(20, l0), v1, v2, v3] [] M = (nb_R nb_P 134 0 [(20, l0)] [] M).bind fun r => nb_R nb_P 161 11 [(20, l0), v1, v2, v3] (r.1 ++ []) r.2 :=
  nb_stepC (c := true) (L2 := [(20, l0), v1, v2, v3]) (S2 := [(20, l0)]) (M2 := M) (t := 11) (cl := 134) (vi := true) rfl rfl (nb_inv_eq (n := 1) rfl rfl rfl rfl rfl rfl (fun _ => h1) rfl)
theorem q_m_layRule_11 (v0 v1 v2 v3 : nb_V) (M : nb_M) :
    nb_R nb_P 161 11 [v0, v1, v2, v3] [] M = some ([], M) :=
  nb_step (c := true) rfl rfl
theorem q_m_bestRule_0 (l0 l1 : Int) (v2 v3 v4 v5 : nb_V) (M : nb_M) (h1 : l0 ≠ 0) :
    nb_R nb_P 163 0 [(20, l0), (0, l1), v2, v3, v4, v5] [] M = (nb_R nb_P 79 0 [(20, l0)] [] M).bind fun r => nb_R nb_P 163 1 [(20, l0), (0, l1), v2, v3, v4, v5] (r.1 ++ []) r.2 :=
  nb_stepC (c := true) (L2 := [(20, l0), (0, l1), v2, v3, v4, v5]) (S2 := [(20, l0)]) (M2 := M) (t := 1) (cl := 79) (vi := true) rfl rfl (nb_inv_eq (n := 1) rfl rfl rfl rfl rfl rfl (fun _ => h1) rfl)
theorem q_m_bestRule_1 (l0 l1 : Int) (v2 v3 v4 v5 : nb_V) (M : nb_M) (h1 : l0 ≠ 0) :
    nb_R nb_P 163 1 [(20, l0), (0, l1), v2, v3, v4, v5] [] M = if nb_rd M l0 14 = 0 then nb_R nb_P 163 2 [(20, l0), (0, l1), v2, v3, v4, v5] [] M else nb_R nb_P 163 4 [(20, l0), (0, l1), v2, v3, v4, v5] [] M :=
  nb_step (c := (true && !decide ((l0 : Int) = 0))) rfl (by simp [h1])
theorem q_m_bestRule_2 (l0 : Int) (v1 v2 v3 v4 v5 : nb_V) (M : nb_M) (h1 : l0 ≠ 0) :
    nb_R nb_P 163 2 [(20, l0), v1, v2, v3, v4, v5] [] M = (nb_R nb_P 80 0 [(20, l0), (0, 1)] [] M).bind fun r => nb_R nb_P 163 3 [(20, l0), v1, v2, v3, v4, v5] (r.1 ++ []) r.2 :=
  nb_stepC (c := true) (L2 := [(20, l0), v1, v2, v3, v4, v5]) (S2 := [(0, 1), (20, l0)]) (M2 := M) (t := 3) (cl := 80) (vi := true) rfl rfl (nb_inv_eq (n := 2) rfl rfl rfl rfl rfl rfl (fun _ => h1) rfl)
theorem q_m_bestRule_3 (s0 : Int) (v0 v1 v2 v3 v4 v5 : nb_V) (M : nb_M) :
    nb_R nb_P 163 3 [v0, v1, v2, v3, v4, v5] [(0, s0)] M = some ([(0, s0)], M) :=
  nb_step (c := true) rfl rfl
theorem q_m_bestRule_4 (l0 l1 : Int) (v2 v3 v4 v5 : nb_V) (M : nb_M) :
    nb_R nb_P 163 4 [(20, l0), (0, l1), v2, v3, v4, v5] [] M = nb_R nb_P 163 5 [(20, l0), (0, l1), (0, 0), (0, 1000000), (0, 0), v5] [] M :=
  nb_step (c := true) rfl rfl
theorem q_m_bestRule_5 (l0 l1 l2 l3 l4 : Int) (v5 : nb_V) (M : nb_M) :
    nb_R nb_P 163 5 [(20, l0), (0, l1), (0, l2), (0, l3), (0, l4), v5] [] M = if l4 < 5 then nb_R nb_P 163 6 [(20, l0), (0, l1), (0, l2), (0, l3), (0, l4), v5] [] M else nb_R nb_P 163 16 [(20, l0), (0, l1), (0, l2), (0, l3), (0, l4), v5] [] M :=
  nb_step (c := true) rfl rfl
theorem q_m_bestRule_6 (l0 l1 l2 l3 l4 : Int) (v5 : nb_V) (M : nb_M) (h1 : l0 ≠ 0) :
    nb_R nb_P 163 6 [(20, l0), (0, l1), (0, l2), (0, l3), (0, l4), v5] [] M = (nb_R nb_P 161 0 [(20, l0), (0, l4), (0, 0), (98, 0)] [] M).bind fun r => nb_R nb_P 163 7 [(20, l0), (0, l1), (0, l2), (0, l3), (0, l4), v5] (r.1 ++ []) r.2 :=
  nb_stepC (c := true) (L2 := [(20, l0), (0, l1), (0, l2), (0, l3), (0, l4), v5]) (S2 := [(0, 0), (0, l4), (20, l0)]) (M2 := M) (t := 7) (cl := 161) (vi := true) rfl rfl (nb_inv_eq (n := 3) rfl rfl rfl rfl rfl rfl (fun _ => h1) rfl)
theorem q_m_bestRule_7 (l0 l1 l2 l3 l4 : Int) (v5 : nb_V) (M : nb_M) :
    nb_R nb_P 163 7 [(20, l0), (0, l1), (0, l2), (0, l3), (0, l4), v5] [] M = if l1 = 0 then nb_R nb_P 163 10 [(20, l0), (0, l1), (0, l2), (0, l3), (0, l4), v5] [] M else nb_R nb_P 163 8 [(20, l0), (0, l1), (0, l2), (0, l3), (0, l4), v5] [] M :=
  nb_step (c := true) rfl rfl
theorem q_m_bestRule_8 (l0 l1 l2 l3 l4 : Int) (v5 : nb_V) (M : nb_M) (h1 : l0 ≠ 0) :
    nb_R nb_P 163 8 [(20, l0), (0, l1), (0, l2), (0, l3), (0, l4), v5] [] M = (nb_R nb_P 140 0 [(20, l0), (0, 4), (98, 0), (98, 0), (98, 0)] [] M).bind fun r => nb_R nb_P 163 9 [(20, l0), (0, l1), (0, l2), (0, l3), (0, l4), v5] (r.1 ++ []) r.2 :=
  nb_stepC (c := true) (L2 := [(20, l0), (0, l1), (0, l2), (0, l3), (0, l4), v5]) (S2 := [(0, 4), (20, l0)]) (M2 := M) (t := 9) (cl := 140) (vi := true) rfl rfl (nb_inv_eq (n := 2) rfl rfl rfl rfl rfl rfl (fun _ => h1) rfl)
theorem q_m_bestRule_9 (l0 l1 l2 l3 l4 s0 : Int) (v5 : nb_V) (M : nb_M) :
    nb_R nb_P 163 9 [(20, l0), (0, l1), (0, l2), (0, l3), (0, l4), v5] [(0, s0)] M = nb_R nb_P 163 12 [(20, l0), (0, l1), (0, l2), (0, l3), (0, l4), v5] [(0, s0)] M :=
  nb_step (c := true) rfl rfl
theorem q_m_bestRule_10 (l0 l1 l2 l3 l4 : Int) (v5 : nb_V) (M : nb_M) (h1 : l0 ≠ 0) :
    nb_R nb_P 163 10 [(20, l0), (0, l1), (0, l2), (0, l3), (0, l4), v5] [] M = (nb_R nb_P 140 0 [(20, l0), (0, 0), (98, 0), (98, 0), (98, 0)] [] M).bind fun r => nb_R nb_P 163 11 [(20, l0), (0, l1), (0, l2), (0, l3), (0, l4), v5] (r.1 ++ []) r.2 :=
  nb_stepC (c := true) (L2 := [(20, l0), (0, l1), (0, l2), (0, l3), (0, l4), v5]) (S2 := [(0, 0), (20, l0)]) (M2 := M) (t := 11) (cl := 140) (vi := true) rfl rfl (nb_inv_eq (n := 2) rfl rfl rfl rfl rfl rfl (fun _ => h1) rfl)
theorem q_m_bestRule_11 (l0 l1 l2 l3 l4 s0 : Int) (v5 : nb_V) (M : nb_M) :
    nb_R nb_P 163 11 [(20, l0), (0, l1), (0, l2), (0, l3), (0, l4), v5] [(0, s0)] M = nb_R nb_P 163 12 [(20, l0), (0, l1), (0, l2), (0, l3), (0, l4), v5] [(0, nb_neg s0)] M :=
  nb_step (c := true) rfl rfl
theorem q_m_bestRule_12 (l0 l1 l2 l3 l4 s0 : Int) (v5 : nb_V) (M : nb_M) :
    nb_R nb_P 163 12 [(20, l0), (0, l1), (0, l2), (0, l3), (0, l4), v5] [(0, s0)] M = if s0 < l3 then nb_R nb_P 163 14 [(20, l0), (0, l1), (0, l2), (0, l3), (0, l4), (0, s0)] [] M else nb_R nb_P 163 13 [(20, l0), (0, l1), (0, l2), (0, l3), (0, l4), (0, s0)] [] M :=
  nb_step (c := true) rfl rfl
theorem q_m_bestRule_13 (l0 l1 l2 l3 l4 : Int) (v5 : nb_V) (M : nb_M) :
    nb_R nb_P 163 13 [(20, l0), (0, l1), (0, l2), (0, l3), (0, l4), v5] [] M = nb_R nb_P 163 15 [(20, l0), (0, l1), (0, l2), (0, l3), (0, l4), v5] [] M :=
  nb_step (c := true) rfl rfl
theorem q_m_bestRule_14 (l0 l1 l4 l5 : Int) (v2 v3 : nb_V) (M : nb_M) :
    nb_R nb_P 163 14 [(20, l0), (0, l1), v2, v3, (0, l4), (0, l5)] [] M = nb_R nb_P 163 15 [(20, l0), (0, l1), (0, l4), (0, l5), (0, l4), (0, l5)] [] M :=
  nb_step (c := true) rfl rfl
theorem q_m_bestRule_15 (l0 l1 l2 l3 l4 : Int) (v5 : nb_V) (M : nb_M) :
    nb_R nb_P 163 15 [(20, l0), (0, l1), (0, l2), (0, l3), (0, l4), v5] [] M = nb_R nb_P 163 5 [(20, l0), (0, l1), (0, l2), (0, l3), (0, nb_add l4 1), v5] [] M :=
  nb_step (c := true) rfl rfl
theorem q_m_bestRule_16 (l2 : Int) (v0 v1 v3 v4 v5 : nb_V) (M : nb_M) :
    nb_R nb_P 163 16 [v0, v1, (0, l2), v3, v4, v5] [] M = some ([(0, l2)], M) :=
  nb_step (c := true) rfl rfl
theorem q_m_hasCome_0 (l0 l1 : Int) (M : nb_M) (h1 : l0 ≠ 0) :
    nb_R nb_P 165 0 [(20, l0), (0, l1)] [] M = (nb_R nb_P 125 0 [(3, nb_rd M l0 17), (0, l1), (0, 0)] [] M).bind fun r => nb_R nb_P 165 1 [(20, l0), (0, l1)] (r.1 ++ []) r.2 :=
  nb_stepC (c := (true && !decide ((l0 : Int) = 0))) (L2 := [(20, l0), (0, l1)]) (S2 := [(0, 0), (0, l1), (3, nb_rd M l0 17)]) (M2 := M) (t := 1) (cl := 125) (vi := false) rfl (by simp [h1]) (nb_inv_eq (n := 3) rfl rfl rfl rfl rfl rfl (fun h => by cases h) rfl)
theorem q_m_hasCome_1 (s0 : Int) (v0 v1 : nb_V) (M : nb_M) :
    nb_R nb_P 165 1 [v0, v1] [(0, s0)] M = if s0 = 0 then nb_R nb_P 165 3 [v0, v1] [] M else nb_R nb_P 165 2 [v0, v1] [] M :=
  nb_step (c := true) rfl rfl
theorem q_m_hasCome_2 (v0 v1 : nb_V) (M : nb_M) :
    nb_R nb_P 165 2 [v0, v1] [] M = nb_R nb_P 165 4 [v0, v1] [(0, 1)] M :=
  nb_step (c := true) rfl rfl
theorem q_m_hasCome_3 (v0 v1 : nb_V) (M : nb_M) :
    nb_R nb_P 165 3 [v0, v1] [] M = nb_R nb_P 165 4 [v0, v1] [(0, 0)] M :=
  nb_step (c := true) rfl rfl
theorem q_m_hasCome_4 (s0 : Int) (v0 v1 : nb_V) (M : nb_M) :
    nb_R nb_P 165 4 [v0, v1] [(0, s0)] M = some ([(0, nb_i2z s0)], M) :=
  nb_step (c := true) rfl rfl
theorem q_m_waitIfHas_0 (l0 l1 : Int) (M : nb_M) (h1 : l0 ≠ 0) :
    nb_R nb_P 167 0 [(20, l0), (0, l1)] [] M = (nb_R nb_P 134 0 [(20, l0)] [] M).bind fun r => nb_R nb_P 167 1 [(20, l0), (0, l1)] (r.1 ++ []) r.2 :=
  nb_stepC (c := true) (L2 := [(20, l0), (0, l1)]) (S2 := [(20, l0)]) (M2 := M) (t := 1) (cl := 134) (vi := true) rfl rfl (nb_inv_eq (n := 1) rfl rfl rfl rfl rfl rfl (fun _ => h1) rfl)
theorem q_m_waitIfHas_1 (l0 l1 : Int) (M : nb_M) (h1 : l0 ≠ 0) :
    nb_R nb_P 167 1 [(20, l0), (0, l1)] [] M = (nb_R nb_P 135 0 [(20, l0), (0, l1)] [] M).bind fun r => nb_R nb_P 167 2 [(20, l0), (0, l1)] (r.1 ++ []) r.2 :=
  nb_stepC (c := true) (L2 := [(20, l0), (0, l1)]) (S2 := [(0, l1), (20, l0)]) (M2 := M) (t := 2) (cl := 135) (vi := true) rfl rfl (nb_inv_eq (n := 2) rfl rfl rfl rfl rfl rfl (fun _ => h1) rfl)
theorem q_m_waitIfHas_2 (l0 l1 s0 : Int) (M : nb_M) :
    nb_R nb_P 167 2 [(20, l0), (0, l1)] [(0, s0)] M = if s0 < 2 then nb_R nb_P 167 3 [(20, l0), (0, l1)] [] M else nb_R nb_P 167 5 [(20, l0), (0, l1)] [] M :=
  nb_step (c := true) rfl rfl
theorem q_m_waitIfHas_3 (l0 l1 : Int) (M : nb_M) (h1 : l0 ≠ 0) :
    nb_R nb_P 167 3 [(20, l0), (0, l1)] [] M = (nb_R nb_P 136 0 [(20, l0), (0, l1), (98, 0)] [] M).bind fun r => nb_R nb_P 167 4 [(20, l0), (0, l1)] (r.1 ++ []) r.2 :=
  nb_stepC (c := true) (L2 := [(20, l0), (0, l1)]) (S2 := [(0, l1), (20, l0)]) (M2 := M) (t := 4) (cl := 136) (vi := true) rfl rfl (nb_inv_eq (n := 2) rfl rfl rfl rfl rfl rfl (fun _ => h1) rfl)
theorem q_m_waitIfHas_4 (s0 : Int) (v0 v1 : nb_V) (M : nb_M) :
    nb_R nb_P 167 4 [v0, v1] [(0, s0)] M = nb_R nb_P 167 6 [v0, v1] [(0, s0)] M :=
  nb_step (c := true) rfl rfl
theorem q_m_waitIfHas_5 (v0 v1 : nb_V) (M : nb_M) :
    nb_R nb_P 167 5 [v0, v1] [] M = nb_R nb_P 167 6 [v0, v1] [(0, 1000000)] M :=
  nb_step (c := true) rfl rfl
theorem q_m_waitIfHas_6 (s0 : Int) (v0 v1 : nb_V) (M : nb_M) :
    nb_R nb_P 167 6 [v0, v1] [(0, s0)] M = some ([(0, s0)], M) :=
  nb_step (c := true) rfl rfl
theorem q_m_beOf_0 (l0 l1 l2 : Int) (M : nb_M) (h1 : l0 ≠ 0) (h2 : (nb_rd M l0 24) ≠ 0) (h3 : (nb_rd M l0 24) ≠ 1) (h4 : (0 : Int) ≤ nb_add (nb_mul 7 l1) 0) (h5 : nb_add (nb_mul 7 l1) 0 < nb_ln M (nb_rd M l0 24)) :
    nb_R nb_P 169 0 [(20, l0), (0, l1), (0, l2)] [] M = nb_R nb_P 169 1 [(20, l0), (0, l1), (0, l2)] [] (nb_wr M (nb_rd M l0 24) (nb_add (nb_mul 7 l1) 0) l2) :=
  nb_step (c := ((true && !decide ((l0 : Int) = 0)) && (!decide ((nb_rd M l0 24 : Int) = 0) && (!decide ((nb_rd M l0 24 : Int) = 1) && (decide ((0 : Int) ≤ nb_add (nb_mul 7 l1) 0) && decide (nb_add (nb_mul 7 l1) 0 < nb_ln M (nb_rd M l0 24))))))) rfl (by simp [h1, h2, h3, h4, h5])
theorem q_m_beOf_1 (l0 l1 l2 : Int) (M : nb_M) (h1 : l0 ≠ 0) :
    nb_R nb_P 169 1 [(20, l0), (0, l1), (0, l2)] [] M = if l2 = 1 then nb_R nb_P 169 3 [(20, l0), (0, l1), (0, l2)] [(0, nb_add (nb_mul 7 l1) 1), (3, nb_rd M l0 24)] M else nb_R nb_P 169 2 [(20, l0), (0, l1), (0, l2)] [(0, nb_add (nb_mul 7 l1) 1), (3, nb_rd M l0 24)] M :=
  nb_step (c := (true && !decide ((l0 : Int) = 0))) rfl (by simp [h1])
theorem q_m_beOf_2 (l2 s0 s1 : Int) (v0 v1 : nb_V) (M : nb_M) :
    nb_R nb_P 169 2 [v0, v1, (0, l2)] [(0, s0), (3, s1)] M = if l2 = 2 then nb_R nb_P 169 3 [v0, v1, (0, l2)] [(0, s0), (3, s1)] M else nb_R nb_P 169 4 [v0, v1, (0, l2)] [(0, s0), (3, s1)] M :=
  nb_step (c := true) rfl rfl
theorem q_m_beOf_3 (s0 s1 : Int) (v0 v1 v2 : nb_V) (M : nb_M) :
    nb_R nb_P 169 3 [v0, v1, v2] [(0, s0), (3, s1)] M = nb_R nb_P 169 5 [v0, v1, v2] [(0, 30), (0, s0), (3, s1)] M :=
  nb_step (c := true) rfl rfl
theorem q_m_beOf_4 (s0 s1 : Int) (v0 v1 v2 : nb_V) (M : nb_M) :
    nb_R nb_P 169 4 [v0, v1, v2] [(0, s0), (3, s1)] M = nb_R nb_P 169 5 [v0, v1, v2] [(0, 0), (0, s0), (3, s1)] M :=
  nb_step (c := true) rfl rfl
theorem q_m_beOf_5 (s0 s1 s2 : Int) (v0 v1 v2 : nb_V) (M : nb_M) (h1 : s2 ≠ 0) (h2 : s2 ≠ 1) (h3 : (0 : Int) ≤ s1) (h4 : s1 < nb_ln M s2) :
    nb_R nb_P 169 5 [v0, v1, v2] [(0, s0), (0, s1), (3, s2)] M = nb_R nb_P 169 6 [v0, v1, v2] [] (nb_wr M s2 s1 s0) :=
  nb_step (c := (true && (!decide ((s2 : Int) = 0) && (!decide ((s2 : Int) = 1) && (decide ((0 : Int) ≤ s1) && decide (s1 < nb_ln M s2)))))) rfl (by simp [h1, h2, h3, h4])
theorem q_m_beOf_6 (v0 v1 v2 : nb_V) (M : nb_M) :
    nb_R nb_P 169 6 [v0, v1, v2] [] M = some ([], M) :=
  nb_step (c := true) rfl rfl
theorem q_m_leastLook_0 (l0 l1 : Int) (v2 v3 v4 v5 v6 v7 : nb_V) (M : nb_M) (h1 : l0 ≠ 0) :
    nb_R nb_P 171 0 [(20, l0), (0, l1), v2, v3, v4, v5, v6, v7] [] M = (nb_R nb_P 79 0 [(20, l0)] [] M).bind fun r => nb_R nb_P 171 1 [(20, l0), (0, l1), v2, v3, v4, v5, v6, v7] (r.1 ++ []) r.2 :=
  nb_stepC (c := true) (L2 := [(20, l0), (0, l1), v2, v3, v4, v5, v6, v7]) (S2 := [(20, l0)]) (M2 := M) (t := 1) (cl := 79) (vi := true) rfl rfl (nb_inv_eq (n := 1) rfl rfl rfl rfl rfl rfl (fun _ => h1) rfl)
theorem q_m_leastLook_1 (l0 l1 : Int) (v2 v3 v4 v5 v6 v7 : nb_V) (M : nb_M) (h1 : l0 ≠ 0) :
    nb_R nb_P 171 1 [(20, l0), (0, l1), v2, v3, v4, v5, v6, v7] [] M = (nb_R nb_P 116 0 [(20, l0), (0, l1)] [] M).bind fun r => nb_R nb_P 171 2 [(20, l0), (0, l1), v2, v3, v4, v5, v6, v7] (r.1 ++ []) r.2 :=
  nb_stepC (c := true) (L2 := [(20, l0), (0, l1), v2, v3, v4, v5, v6, v7]) (S2 := [(0, l1), (20, l0)]) (M2 := M) (t := 2) (cl := 116) (vi := true) rfl rfl (nb_inv_eq (n := 2) rfl rfl rfl rfl rfl rfl (fun _ => h1) rfl)
theorem q_m_leastLook_2 (l0 l1 s0 : Int) (v2 v3 v4 v5 v6 v7 : nb_V) (M : nb_M) :
    nb_R nb_P 171 2 [(20, l0), (0, l1), v2, v3, v4, v5, v6, v7] [(0, s0)] M = if s0 = 0 then nb_R nb_P 171 3 [(20, l0), (0, l1), v2, v3, v4, v5, v6, v7] [] M else nb_R nb_P 171 5 [(20, l0), (0, l1), v2, v3, v4, v5, v6, v7] [] M :=
  nb_step (c := true) rfl rfl
theorem q_m_leastLook_3 (l0 : Int) (v1 v2 v3 v4 v5 v6 v7 : nb_V) (M : nb_M) (h1 : l0 ≠ 0) :
    nb_R nb_P 171 3 [(20, l0), v1, v2, v3, v4, v5, v6, v7] [] M = (nb_R nb_P 80 0 [(20, l0), (0, 1)] [] M).bind fun r => nb_R nb_P 171 4 [(20, l0), v1, v2, v3, v4, v5, v6, v7] (r.1 ++ []) r.2 :=
  nb_stepC (c := true) (L2 := [(20, l0), v1, v2, v3, v4, v5, v6, v7]) (S2 := [(0, 1), (20, l0)]) (M2 := M) (t := 4) (cl := 80) (vi := true) rfl rfl (nb_inv_eq (n := 2) rfl rfl rfl rfl rfl rfl (fun _ => h1) rfl)
theorem q_m_leastLook_4 (s0 : Int) (v0 v1 v2 v3 v4 v5 v6 v7 : nb_V) (M : nb_M) :
    nb_R nb_P 171 4 [v0, v1, v2, v3, v4, v5, v6, v7] [(0, s0)] M = some ([(0, s0)], M) :=
  nb_step (c := true) rfl rfl
theorem q_m_leastLook_5 (l0 l1 : Int) (v2 v3 v4 v5 v6 v7 : nb_V) (M : nb_M) (h1 : l0 ≠ 0) :
    nb_R nb_P 171 5 [(20, l0), (0, l1), v2, v3, v4, v5, v6, v7] [] M = (nb_R nb_P 165 0 [(20, l0), (0, l1)] [] M).bind fun r => nb_R nb_P 171 6 [(20, l0), (0, l1), v2, v3, v4, v5, v6, v7] (r.1 ++ []) r.2 :=
  nb_stepC (c := true) (L2 := [(20, l0), (0, l1), v2, v3, v4, v5, v6, v7]) (S2 := [(0, l1), (20, l0)]) (M2 := M) (t := 6) (cl := 165) (vi := true) rfl rfl (nb_inv_eq (n := 2) rfl rfl rfl rfl rfl rfl (fun _ => h1) rfl)
theorem q_m_leastLook_6 (l0 l1 s0 : Int) (v2 v3 v4 v5 v6 v7 : nb_V) (M : nb_M) :
    nb_R nb_P 171 6 [(20, l0), (0, l1), v2, v3, v4, v5, v6, v7] [(0, s0)] M = if s0 = 0 then nb_R nb_P 171 9 [(20, l0), (0, l1), v2, v3, v4, v5, v6, v7] [] M else nb_R nb_P 171 7 [(20, l0), (0, l1), v2, v3, v4, v5, v6, v7] [] M :=
  nb_step (c := true) rfl rfl
theorem q_m_leastLook_7 (l0 : Int) (v1 v2 v3 v4 v5 v6 v7 : nb_V) (M : nb_M) (h1 : l0 ≠ 0) :
    nb_R nb_P 171 7 [(20, l0), v1, v2, v3, v4, v5, v6, v7] [] M = (nb_R nb_P 80 0 [(20, l0), (0, 5)] [] M).bind fun r => nb_R nb_P 171 8 [(20, l0), v1, v2, v3, v4, v5, v6, v7] (r.1 ++ []) r.2 :=
  nb_stepC (c := true) (L2 := [(20, l0), v1, v2, v3, v4, v5, v6, v7]) (S2 := [(0, 5), (20, l0)]) (M2 := M) (t := 8) (cl := 80) (vi := true) rfl rfl (nb_inv_eq (n := 2) rfl rfl rfl rfl rfl rfl (fun _ => h1) rfl)
theorem q_m_leastLook_8 (s0 : Int) (v0 v1 v2 v3 v4 v5 v6 v7 : nb_V) (M : nb_M) :
    nb_R nb_P 171 8 [v0, v1, v2, v3, v4, v5, v6, v7] [(0, s0)] M = some ([(0, s0)], M) :=
  nb_step (c := true) rfl rfl
theorem q_m_leastLook_9 (l0 l1 : Int) (v2 v3 v4 v5 v6 v7 : nb_V) (M : nb_M) (h1 : l0 ≠ 0) :
    nb_R nb_P 171 9 [(20, l0), (0, l1), v2, v3, v4, v5, v6, v7] [] M = (nb_R nb_P 121 0 [(20, l0)] [] M).bind fun r => nb_R nb_P 171 10 [(20, l0), (0, l1), v2, v3, v4, v5, v6, v7] (r.1 ++ []) r.2 :=
  nb_stepC (c := true) (L2 := [(20, l0), (0, l1), v2, v3, v4, v5, v6, v7]) (S2 := [(20, l0)]) (M2 := M) (t := 10) (cl := 121) (vi := true) rfl rfl (nb_inv_eq (n := 1) rfl rfl rfl rfl rfl rfl (fun _ => h1) rfl)
theorem q_m_leastLook_10 (l0 l1 : Int) (v2 v3 v4 v5 v6 v7 : nb_V) (M : nb_M) (h1 : l0 ≠ 0) (h2 : (nb_rd M l0 15) ≠ 0) (h3 : (0 : Int) ≤ 2) (h4 : 2 < nb_ln M (nb_rd M l0 15)) :
    nb_R nb_P 171 10 [(20, l0), (0, l1), v2, v3, v4, v5, v6, v7] [] M = nb_R nb_P 171 11 [(20, l0), (0, l1), v2, v3, v4, v5, v6, v7] [] (nb_wr M l0 26 (nb_rd M (nb_rd M l0 15) 2)) :=
  nb_step (c := (((true && !decide ((l0 : Int) = 0)) && (!decide ((nb_rd M l0 15 : Int) = 0) && (decide ((0 : Int) ≤ 2) && decide (2 < nb_ln M (nb_rd M l0 15))))) && (!decide ((l0 : Int) = 0) && (!false || (decide ((nb_rd M (nb_rd M l0 15) 2 : Int) = 0) || decide ((nb_rd M (nb_rd M l0 15) 2 : Int) = 1)))))) rfl (by simp [h1, h2, h3, h4])
set_option maxRecDepth 10000 in
theorem q_m_leastLook_11 (l0 l1 : Int) (v2 v3 v4 v5 v6 v7 : nb_V) (M : nb_M) (h1 : l0 ≠ 0) (h2 : (nb_rd M l0 17) ≠ 0) (h3 : (0 : Int) ≤ nb_add (nb_add 12 (nb_mul 8 l1)) 2) (h4 : nb_add (nb_add 12 (nb_mul 8 l1)) 2 < nb_ln M (nb_rd M l0 17)) :
    nb_R nb_P 171 11 [(20, l0), (0, l1), v2, v3, v4, v5, v6, v7] [] M = nb_R nb_P 171 12 [(20, l0), (0, l1), (0, nb_add (nb_add 12 (nb_mul 8 l1)) 2), (0, nb_rd M (nb_rd M l0 17) (nb_add (nb_add 12 (nb_mul 8 l1)) 2)), (0, (-2)), (0, 1000000), (0, 0), v7] [] M :=
  nb_step (c := ((true && !decide ((l0 : Int) = 0)) && (!decide ((nb_rd M l0 17 : Int) = 0) && (decide ((0 : Int) ≤ nb_add (nb_add 12 (nb_mul 8 l1)) 2) && decide (nb_add (nb_add 12 (nb_mul 8 l1)) 2 < nb_ln M (nb_rd M l0 17)))))) rfl (by simp [h1, h2, h3, h4])
theorem q_m_leastLook_12 (l0 l1 l2 l3 l4 l5 l6 : Int) (v7 : nb_V) (M : nb_M) :
    nb_R nb_P 171 12 [(20, l0), (0, l1), (0, l2), (0, l3), (0, l4), (0, l5), (0, l6), v7] [] M = if l6 < 100 then nb_R nb_P 171 13 [(20, l0), (0, l1), (0, l2), (0, l3), (0, l4), (0, l5), (0, l6), v7] [] M else nb_R nb_P 171 19 [(20, l0), (0, l1), (0, l2), (0, l3), (0, l4), (0, l5), (0, l6), v7] [] M :=
  nb_step (c := true) rfl rfl
theorem q_m_leastLook_13 (l0 l1 l2 l3 l4 l5 l6 : Int) (v7 : nb_V) (M : nb_M) (h1 : l0 ≠ 0) (h2 : (nb_rd M l0 17) ≠ 0) (h3 : (nb_rd M l0 17) ≠ 1) (h4 : (0 : Int) ≤ l2) (h5 : l2 < nb_ln M (nb_rd M l0 17)) :
    nb_R nb_P 171 13 [(20, l0), (0, l1), (0, l2), (0, l3), (0, l4), (0, l5), (0, l6), v7] [] M = nb_R nb_P 171 14 [(20, l0), (0, l1), (0, l2), (0, l3), (0, l4), (0, l5), (0, l6), v7] [] (nb_wr M (nb_rd M l0 17) l2 l6) :=
  nb_step (c := ((true && !decide ((l0 : Int) = 0)) && (!decide ((nb_rd M l0 17 : Int) = 0) && (!decide ((nb_rd M l0 17 : Int) = 1) && (decide ((0 : Int) ≤ l2) && decide (l2 < nb_ln M (nb_rd M l0 17))))))) rfl (by simp [h1, h2, h3, h4, h5])
theorem q_m_leastLook_14 (l0 l1 l2 l3 l4 l5 l6 : Int) (v7 : nb_V) (M : nb_M) (h1 : l0 ≠ 0) :
    nb_R nb_P 171 14 [(20, l0), (0, l1), (0, l2), (0, l3), (0, l4), (0, l5), (0, l6), v7] [] M = (nb_R nb_P 167 0 [(20, l0), (0, l1)] [] M).bind fun r => nb_R nb_P 171 15 [(20, l0), (0, l1), (0, l2), (0, l3), (0, l4), (0, l5), (0, l6), v7] (r.1 ++ []) r.2 :=
  nb_stepC (c := true) (L2 := [(20, l0), (0, l1), (0, l2), (0, l3), (0, l4), (0, l5), (0, l6), v7]) (S2 := [(0, l1), (20, l0)]) (M2 := M) (t := 15) (cl := 167) (vi := true) rfl rfl (nb_inv_eq (n := 2) rfl rfl rfl rfl rfl rfl (fun _ => h1) rfl)
theorem q_m_leastLook_15 (l0 l1 l2 l3 l4 l5 l6 s0 : Int) (v7 : nb_V) (M : nb_M) :
    nb_R nb_P 171 15 [(20, l0), (0, l1), (0, l2), (0, l3), (0, l4), (0, l5), (0, l6), v7] [(0, s0)] M = if s0 < l5 then nb_R nb_P 171 17 [(20, l0), (0, l1), (0, l2), (0, l3), (0, l4), (0, l5), (0, l6), (0, s0)] [] M else nb_R nb_P 171 16 [(20, l0), (0, l1), (0, l2), (0, l3), (0, l4), (0, l5), (0, l6), (0, s0)] [] M :=
  nb_step (c := true) rfl rfl
theorem q_m_leastLook_16 (l0 l1 l2 l3 l4 l5 l6 : Int) (v7 : nb_V) (M : nb_M) :
    nb_R nb_P 171 16 [(20, l0), (0, l1), (0, l2), (0, l3), (0, l4), (0, l5), (0, l6), v7] [] M = nb_R nb_P 171 18 [(20, l0), (0, l1), (0, l2), (0, l3), (0, l4), (0, l5), (0, l6), v7] [] M :=
  nb_step (c := true) rfl rfl
theorem q_m_leastLook_17 (l0 l1 l2 l3 l6 l7 : Int) (v4 v5 : nb_V) (M : nb_M) :
    nb_R nb_P 171 17 [(20, l0), (0, l1), (0, l2), (0, l3), v4, v5, (0, l6), (0, l7)] [] M = nb_R nb_P 171 18 [(20, l0), (0, l1), (0, l2), (0, l3), (0, l6), (0, l7), (0, l6), (0, l7)] [] M :=
  nb_step (c := true) rfl rfl
theorem q_m_leastLook_18 (l0 l1 l2 l3 l4 l5 l6 : Int) (v7 : nb_V) (M : nb_M) :
    nb_R nb_P 171 18 [(20, l0), (0, l1), (0, l2), (0, l3), (0, l4), (0, l5), (0, l6), v7] [] M = nb_R nb_P 171 12 [(20, l0), (0, l1), (0, l2), (0, l3), (0, l4), (0, l5), (0, nb_add l6 1), v7] [] M :=
  nb_step (c := true) rfl rfl
theorem q_m_leastLook_19 (l0 l2 l3 l4 : Int) (v1 v5 v6 v7 : nb_V) (M : nb_M) (h1 : l0 ≠ 0) (h2 : (nb_rd M l0 17) ≠ 0) (h3 : (nb_rd M l0 17) ≠ 1) (h4 : (0 : Int) ≤ l2) (h5 : l2 < nb_ln M (nb_rd M l0 17)) :
    nb_R nb_P 171 19 [(20, l0), v1, (0, l2), (0, l3), (0, l4), v5, v6, v7] [] M = nb_R nb_P 171 20 [(20, l0), v1, (0, l2), (0, l3), (0, l4), v5, v6, v7] [] (nb_wr M (nb_rd M l0 17) l2 l3) :=
  nb_step (c := ((true && !decide ((l0 : Int) = 0)) && (!decide ((nb_rd M l0 17 : Int) = 0) && (!decide ((nb_rd M l0 17 : Int) = 1) && (decide ((0 : Int) ≤ l2) && decide (l2 < nb_ln M (nb_rd M l0 17))))))) rfl (by simp [h1, h2, h3, h4, h5])
theorem q_m_leastLook_20 (l4 : Int) (v0 v1 v2 v3 v5 v6 v7 : nb_V) (M : nb_M) :
    nb_R nb_P 171 20 [v0, v1, v2, v3, (0, l4), v5, v6, v7] [] M = some ([(0, l4)], M) :=
  nb_step (c := true) rfl rfl
theorem q_m_cut_0 (l0 : Int) (v1 : nb_V) (M : nb_M) (h1 : l0 ≠ 0) :
    nb_R nb_P 173 0 [(20, l0), v1] [] M = (nb_R nb_P 79 0 [(20, l0)] [] M).bind fun r => nb_R nb_P 173 1 [(20, l0), v1] (r.1 ++ []) r.2 :=
  nb_stepC (c := true) (L2 := [(20, l0), v1]) (S2 := [(20, l0)]) (M2 := M) (t := 1) (cl := 79) (vi := true) rfl rfl (nb_inv_eq (n := 1) rfl rfl rfl rfl rfl rfl (fun _ => h1) rfl)
theorem q_m_cut_1 (l0 : Int) (v1 : nb_V) (M : nb_M) (h1 : l0 ≠ 0) :
    nb_R nb_P 173 1 [(20, l0), v1] [] M = (nb_R nb_P 172 0 [(20, l0), (98, 0), (98, 0)] [] M).bind fun r => nb_R nb_P 173 2 [(20, l0), v1] (r.1 ++ []) r.2 :=
  nb_stepC (c := true) (L2 := [(20, l0), v1]) (S2 := [(20, l0)]) (M2 := M) (t := 2) (cl := 172) (vi := true) rfl rfl (nb_inv_eq (n := 1) rfl rfl rfl rfl rfl rfl (fun _ => h1) rfl)
theorem q_m_cut_2 (l0 s0 : Int) (v1 : nb_V) (M : nb_M) :
    nb_R nb_P 173 2 [(20, l0), v1] [(0, s0)] M = if s0 = 0 then nb_R nb_P 173 5 [(20, l0), (0, s0)] [] M else nb_R nb_P 173 3 [(20, l0), (0, s0)] [] M :=
  nb_step (c := true) rfl rfl
theorem q_m_cut_3 (l0 l1 : Int) (M : nb_M) (h1 : l0 ≠ 0) :
    nb_R nb_P 173 3 [(20, l0), (0, l1)] [] M = (nb_R nb_P 80 0 [(20, l0), (0, l1)] [] M).bind fun r => nb_R nb_P 173 4 [(20, l0), (0, l1)] (r.1 ++ []) r.2 :=
  nb_stepC (c := true) (L2 := [(20, l0), (0, l1)]) (S2 := [(0, l1), (20, l0)]) (M2 := M) (t := 4) (cl := 80) (vi := true) rfl rfl (nb_inv_eq (n := 2) rfl rfl rfl rfl rfl rfl (fun _ => h1) rfl)
theorem q_m_cut_4 (s0 : Int) (v0 v1 : nb_V) (M : nb_M) :
    nb_R nb_P 173 4 [v0, v1] [(0, s0)] M = nb_R nb_P 173 6 [v0, v1] [(0, s0)] M :=
  nb_step (c := true) rfl rfl
theorem q_m_cut_5 (l0 : Int) (v1 : nb_V) (M : nb_M) (h1 : l0 ≠ 0) :
    nb_R nb_P 173 5 [(20, l0), v1] [] M = nb_R nb_P 173 6 [(20, l0), v1] [(0, nb_rd M l0 27)] M :=
  nb_step (c := (true && !decide ((l0 : Int) = 0))) rfl (by simp [h1])
theorem q_m_cut_6 (s0 : Int) (v0 v1 : nb_V) (M : nb_M) :
    nb_R nb_P 173 6 [v0, v1] [(0, s0)] M = some ([(0, s0)], M) :=
  nb_step (c := true) rfl rfl
theorem q_m_canNotLet_0 (l0 l1 l2 : Int) (M : nb_M) (h1 : l0 ≠ 0) :
    nb_R nb_P 175 0 [(20, l0), (0, l1), (0, l2)] [] M = (nb_R nb_P 126 0 [(3, nb_rd M l0 17), (0, l1)] [] M).bind fun r => nb_R nb_P 175 1 [(20, l0), (0, l1), (0, l2)] (r.1 ++ []) r.2 :=
  nb_stepC (c := (true && !decide ((l0 : Int) = 0))) (L2 := [(20, l0), (0, l1), (0, l2)]) (S2 := [(0, l1), (3, nb_rd M l0 17)]) (M2 := M) (t := 1) (cl := 126) (vi := false) rfl (by simp [h1]) (nb_inv_eq (n := 2) rfl rfl rfl rfl rfl rfl (fun h => by cases h) rfl)
theorem q_m_canNotLet_1 (l0 l1 l2 s0 : Int) (M : nb_M) :
    nb_R nb_P 175 1 [(20, l0), (0, l1), (0, l2)] [(0, s0)] M = if s0 = 0 then nb_R nb_P 175 7 [(20, l0), (0, l1), (0, l2)] [] M else nb_R nb_P 175 2 [(20, l0), (0, l1), (0, l2)] [] M :=
  nb_step (c := true) rfl rfl
theorem q_m_canNotLet_2 (l0 l1 l2 : Int) (M : nb_M) (h1 : l0 ≠ 0) :
    nb_R nb_P 175 2 [(20, l0), (0, l1), (0, l2)] [] M = (nb_R nb_P 126 0 [(3, nb_rd M l0 17), (0, l2)] [] M).bind fun r => nb_R nb_P 175 3 [(20, l0), (0, l1), (0, l2)] (r.1 ++ []) r.2 :=
  nb_stepC (c := (true && !decide ((l0 : Int) = 0))) (L2 := [(20, l0), (0, l1), (0, l2)]) (S2 := [(0, l2), (3, nb_rd M l0 17)]) (M2 := M) (t := 3) (cl := 126) (vi := false) rfl (by simp [h1]) (nb_inv_eq (n := 2) rfl rfl rfl rfl rfl rfl (fun h => by cases h) rfl)
theorem q_m_canNotLet_3 (l0 l1 l2 s0 : Int) (M : nb_M) :
    nb_R nb_P 175 3 [(20, l0), (0, l1), (0, l2)] [(0, s0)] M = if s0 = 0 then nb_R nb_P 175 7 [(20, l0), (0, l1), (0, l2)] [] M else nb_R nb_P 175 4 [(20, l0), (0, l1), (0, l2)] [] M :=
  nb_step (c := true) rfl rfl
theorem q_m_canNotLet_4 (l0 l1 l2 : Int) (M : nb_M) (h1 : l0 ≠ 0) :
    nb_R nb_P 175 4 [(20, l0), (0, l1), (0, l2)] [] M = (nb_R nb_P 125 0 [(3, nb_rd M l0 17), (0, l1), (0, 3)] [] M).bind fun r => nb_R nb_P 175 5 [(20, l0), (0, l1), (0, l2)] (r.1 ++ []) r.2 :=
  nb_stepC (c := (true && !decide ((l0 : Int) = 0))) (L2 := [(20, l0), (0, l1), (0, l2)]) (S2 := [(0, 3), (0, l1), (3, nb_rd M l0 17)]) (M2 := M) (t := 5) (cl := 125) (vi := false) rfl (by simp [h1]) (nb_inv_eq (n := 3) rfl rfl rfl rfl rfl rfl (fun h => by cases h) rfl)
theorem q_m_canNotLet_5 (l0 l2 s0 : Int) (v1 : nb_V) (M : nb_M) (h1 : l0 ≠ 0) :
    nb_R nb_P 175 5 [(20, l0), v1, (0, l2)] [(0, s0)] M = (nb_R nb_P 125 0 [(3, nb_rd M l0 17), (0, l2), (0, 3)] [] M).bind fun r => nb_R nb_P 175 6 [(20, l0), v1, (0, l2)] (r.1 ++ [(0, s0)]) r.2 :=
  nb_stepC (c := (true && !decide ((l0 : Int) = 0))) (L2 := [(20, l0), v1, (0, l2)]) (S2 := [(0, 3), (0, l2), (3, nb_rd M l0 17), (0, s0)]) (M2 := M) (t := 6) (cl := 125) (vi := false) rfl (by simp [h1]) (nb_inv_eq (n := 3) rfl rfl rfl rfl rfl rfl (fun h => by cases h) rfl)
theorem q_m_canNotLet_6 (s0 s1 : Int) (v0 v1 v2 : nb_V) (M : nb_M) :
    nb_R nb_P 175 6 [v0, v1, v2] [(0, s0), (0, s1)] M = if s0 < s1 then nb_R nb_P 175 7 [v0, v1, v2] [] M else nb_R nb_P 175 8 [v0, v1, v2] [] M :=
  nb_step (c := true) rfl rfl
theorem q_m_canNotLet_7 (v0 v1 v2 : nb_V) (M : nb_M) :
    nb_R nb_P 175 7 [v0, v1, v2] [] M = nb_R nb_P 175 9 [v0, v1, v2] [(0, 1)] M :=
  nb_step (c := true) rfl rfl
theorem q_m_canNotLet_8 (v0 v1 v2 : nb_V) (M : nb_M) :
    nb_R nb_P 175 8 [v0, v1, v2] [] M = nb_R nb_P 175 9 [v0, v1, v2] [(0, 0)] M :=
  nb_step (c := true) rfl rfl
theorem q_m_canNotLet_9 (s0 : Int) (v0 v1 v2 : nb_V) (M : nb_M) :
    nb_R nb_P 175 9 [v0, v1, v2] [(0, s0)] M = some ([(0, nb_i2z s0)], M) :=
  nb_step (c := true) rfl rfl
theorem q_m_layHonest_0 (l0 l1 : Int) (v2 : nb_V) (M : nb_M) (h1 : l0 ≠ 0) :
    nb_R nb_P 177 0 [(20, l0), (0, l1), v2] [] M = (nb_R nb_P 121 0 [(20, l0)] [] M).bind fun r => nb_R nb_P 177 1 [(20, l0), (0, l1), v2] (r.1 ++ []) r.2 :=
  nb_stepC (c := true) (L2 := [(20, l0), (0, l1), v2]) (S2 := [(20, l0)]) (M2 := M) (t := 1) (cl := 121) (vi := true) rfl rfl (nb_inv_eq (n := 1) rfl rfl rfl rfl rfl rfl (fun _ => h1) rfl)
theorem q_m_layHonest_1 (l0 l1 : Int) (v2 : nb_V) (M : nb_M) (h1 : l0 ≠ 0) (h2 : (nb_rd M l0 15) ≠ 0) (h3 : (0 : Int) ≤ 2) (h4 : 2 < nb_ln M (nb_rd M l0 15)) :
    nb_R nb_P 177 1 [(20, l0), (0, l1), v2] [] M = nb_R nb_P 177 2 [(20, l0), (0, l1), v2] [] (nb_wr M l0 26 (nb_rd M (nb_rd M l0 15) 2)) :=
  nb_step (c := (((true && !decide ((l0 : Int) = 0)) && (!decide ((nb_rd M l0 15 : Int) = 0) && (decide ((0 : Int) ≤ 2) && decide (2 < nb_ln M (nb_rd M l0 15))))) && (!decide ((l0 : Int) = 0) && (!false || (decide ((nb_rd M (nb_rd M l0 15) 2 : Int) = 0) || decide ((nb_rd M (nb_rd M l0 15) 2 : Int) = 1)))))) rfl (by simp [h1, h2, h3, h4])
theorem q_m_layHonest_2 (l0 l1 : Int) (v2 : nb_V) (M : nb_M) :
    nb_R nb_P 177 2 [(20, l0), (0, l1), v2] [] M = nb_R nb_P 177 3 [(20, l0), (0, l1), (0, 0)] [] M :=
  nb_step (c := true) rfl rfl
theorem q_m_layHonest_3 (l0 l1 l2 : Int) (M : nb_M) (h1 : l0 ≠ 0) (h2 : (nb_rd M l0 15) ≠ 0) (h3 : (0 : Int) ≤ 5) (h4 : 5 < nb_ln M (nb_rd M l0 15)) :
    nb_R nb_P 177 3 [(20, l0), (0, l1), (0, l2)] [] M = if l2 < nb_rd M (nb_rd M l0 15) 5 then nb_R nb_P 177 4 [(20, l0), (0, l1), (0, l2)] [] M else nb_R nb_P 177 10 [(20, l0), (0, l1), (0, l2)] [] M :=
  nb_step (c := ((true && !decide ((l0 : Int) = 0)) && (!decide ((nb_rd M l0 15 : Int) = 0) && (decide ((0 : Int) ≤ 5) && decide (5 < nb_ln M (nb_rd M l0 15)))))) rfl (by simp [h1, h2, h3, h4])
theorem q_m_layHonest_4 (l0 l1 l2 : Int) (M : nb_M) :
    nb_R nb_P 177 4 [(20, l0), (0, l1), (0, l2)] [] M = (nb_R nb_P 84 0 [(0, l1), (0, l2)] [] M).bind fun r => nb_R nb_P 177 5 [(20, l0), (0, l1), (0, l2)] (r.1 ++ [(0, l2), (20, l0)]) r.2 :=
  nb_stepC (c := true) (L2 := [(20, l0), (0, l1), (0, l2)]) (S2 := [(0, l2), (0, l1), (0, l2), (20, l0)]) (M2 := M) (t := 5) (cl := 84) (vi := false) rfl rfl (nb_inv_eq (n := 2) rfl rfl rfl rfl rfl rfl (fun h => by cases h) rfl)
theorem q_m_layHonest_5 (l0 l1 l2 s0 s1 s2 : Int) (M : nb_M) :
    nb_R nb_P 177 5 [(20, l0), (0, l1), (0, l2)] [(0, s0), (0, s1), (20, s2)] M = if s0 = 0 then nb_R nb_P 177 7 [(20, l0), (0, l1), (0, l2)] [(0, s1), (20, s2)] M else nb_R nb_P 177 6 [(20, l0), (0, l1), (0, l2)] [(0, s1), (20, s2)] M :=
  nb_step (c := true) rfl rfl
theorem q_m_layHonest_6 (l0 l1 l2 s0 s1 : Int) (M : nb_M) :
    nb_R nb_P 177 6 [(20, l0), (0, l1), (0, l2)] [(0, s0), (20, s1)] M = nb_R nb_P 177 8 [(20, l0), (0, l1), (0, l2)] [(0, 1), (0, s0), (20, s1)] M :=
  nb_step (c := true) rfl rfl
theorem q_m_layHonest_7 (l0 l1 l2 s0 s1 : Int) (M : nb_M) :
    nb_R nb_P 177 7 [(20, l0), (0, l1), (0, l2)] [(0, s0), (20, s1)] M = nb_R nb_P 177 8 [(20, l0), (0, l1), (0, l2)] [(0, 0), (0, s0), (20, s1)] M :=
  nb_step (c := true) rfl rfl
theorem q_m_layHonest_8 (l0 l1 l2 s0 s1 s2 : Int) (M : nb_M) (h1 : s2 ≠ 0) :
    nb_R nb_P 177 8 [(20, l0), (0, l1), (0, l2)] [(0, s0), (0, s1), (20, s2)] M = (nb_R nb_P 169 0 [(20, s2), (0, s1), (0, s0)] [] M).bind fun r => nb_R nb_P 177 9 [(20, l0), (0, l1), (0, l2)] (r.1 ++ []) r.2 :=
  nb_stepC (c := true) (L2 := [(20, l0), (0, l1), (0, l2)]) (S2 := [(0, s0), (0, s1), (20, s2)]) (M2 := M) (t := 9) (cl := 169) (vi := true) rfl rfl (nb_inv_eq (n := 3) rfl rfl rfl rfl rfl rfl (fun _ => h1) rfl)
theorem q_m_layHonest_9 (l0 l1 l2 : Int) (M : nb_M) :
    nb_R nb_P 177 9 [(20, l0), (0, l1), (0, l2)] [] M = nb_R nb_P 177 3 [(20, l0), (0, l1), (0, nb_add l2 1)] [] M :=
  nb_step (c := true) rfl rfl
theorem q_m_layHonest_10 (l0 : Int) (v1 v2 : nb_V) (M : nb_M) (h1 : l0 ≠ 0) :
    nb_R nb_P 177 10 [(20, l0), v1, v2] [] M = (nb_R nb_P 86 0 [(3, nb_rd M l0 17), (0, 0), (3, nb_rd M l0 29), (0, 0), (0, 108), (98, 0)] [] M).bind fun r => nb_R nb_P 177 11 [(20, l0), v1, v2] (r.1 ++ []) r.2 :=
  nb_stepC (c := ((true && !decide ((l0 : Int) = 0)) && !decide ((l0 : Int) = 0))) (L2 := [(20, l0), v1, v2]) (S2 := [(0, 108), (0, 0), (3, nb_rd M l0 29), (0, 0), (3, nb_rd M l0 17)]) (M2 := M) (t := 11) (cl := 86) (vi := false) rfl (by simp [h1]) (nb_inv_eq (n := 5) rfl rfl rfl rfl rfl rfl (fun h => by cases h) rfl)
theorem q_m_layHonest_11 (l0 : Int) (v1 v2 : nb_V) (M : nb_M) (h1 : l0 ≠ 0) :
    nb_R nb_P 177 11 [(20, l0), v1, v2] [] M = (nb_R nb_P 124 0 [(20, l0), (3, nb_rd M l0 17), (98, 0), (98, 0)] [] M).bind fun r => nb_R nb_P 177 12 [(20, l0), v1, v2] (r.1 ++ []) r.2 :=
  nb_stepC (c := (true && !decide ((l0 : Int) = 0))) (L2 := [(20, l0), v1, v2]) (S2 := [(3, nb_rd M l0 17), (20, l0)]) (M2 := M) (t := 12) (cl := 124) (vi := true) rfl (by simp [h1]) (nb_inv_eq (n := 2) rfl rfl rfl rfl rfl rfl (fun _ => h1) rfl)
theorem q_m_layHonest_12 (l0 : Int) (v1 v2 : nb_V) (M : nb_M) (h1 : l0 ≠ 0) :
    nb_R nb_P 177 12 [(20, l0), v1, v2] [] M = (nb_R nb_P 134 0 [(20, l0)] [] M).bind fun r => nb_R nb_P 177 13 [(20, l0), v1, v2] (r.1 ++ []) r.2 :=
  nb_stepC (c := true) (L2 := [(20, l0), v1, v2]) (S2 := [(20, l0)]) (M2 := M) (t := 13) (cl := 134) (vi := true) rfl rfl (nb_inv_eq (n := 1) rfl rfl rfl rfl rfl rfl (fun _ => h1) rfl)
theorem q_m_layHonest_13 (l0 : Int) (v1 v2 : nb_V) (M : nb_M) (h1 : l0 ≠ 0) :
    nb_R nb_P 177 13 [(20, l0), v1, v2] [] M = (nb_R nb_P 86 0 [(3, nb_rd M l0 29), (0, 0), (3, nb_rd M l0 17), (0, 0), (0, 108), (98, 0)] [] M).bind fun r => nb_R nb_P 177 14 [(20, l0), v1, v2] (r.1 ++ []) r.2 :=
  nb_stepC (c := ((true && !decide ((l0 : Int) = 0)) && !decide ((l0 : Int) = 0))) (L2 := [(20, l0), v1, v2]) (S2 := [(0, 108), (0, 0), (3, nb_rd M l0 17), (0, 0), (3, nb_rd M l0 29)]) (M2 := M) (t := 14) (cl := 86) (vi := false) rfl (by simp [h1]) (nb_inv_eq (n := 5) rfl rfl rfl rfl rfl rfl (fun h => by cases h) rfl)
theorem q_m_layHonest_14 (v0 v1 v2 : nb_V) (M : nb_M) :
    nb_R nb_P 177 14 [v0, v1, v2] [] M = some ([], M) :=
  nb_step (c := true) rfl rfl
theorem q_m_setWhy_0 (l0 l1 : Int) (M : nb_M) (h1 : l0 ≠ 0) :
    nb_R nb_P 179 0 [(20, l0), (0, l1)] [] M = if nb_rd M l0 14 = 0 then nb_R nb_P 179 1 [(20, l0), (0, l1)] [] M else nb_R nb_P 179 2 [(20, l0), (0, l1)] [] M :=
  nb_step (c := (true && !decide ((l0 : Int) = 0))) rfl (by simp [h1])
theorem q_m_setWhy_1 (v0 v1 : nb_V) (M : nb_M) :
    nb_R nb_P 179 1 [v0, v1] [] M = nb_R nb_P 179 7 [v0, v1] [(0, 1)] M :=
  nb_step (c := true) rfl rfl
theorem q_m_setWhy_2 (l0 l1 : Int) (M : nb_M) (h1 : l0 ≠ 0) :
    nb_R nb_P 179 2 [(20, l0), (0, l1)] [] M = (nb_R nb_P 178 0 [(20, l0)] [] M).bind fun r => nb_R nb_P 179 3 [(20, l0), (0, l1)] (r.1 ++ [(0, 0), (0, l1)]) r.2 :=
  nb_stepC (c := true) (L2 := [(20, l0), (0, l1)]) (S2 := [(20, l0), (0, 0), (0, l1)]) (M2 := M) (t := 3) (cl := 178) (vi := true) rfl rfl (nb_inv_eq (n := 1) rfl rfl rfl rfl rfl rfl (fun _ => h1) rfl)
theorem q_m_setWhy_3 (s0 s1 s2 : Int) (v0 v1 : nb_V) (M : nb_M) :
    nb_R nb_P 179 3 [v0, v1] [(0, s0), (0, s1), (0, s2)] M = (nb_R nb_P 83 0 [(0, s2), (0, s1), (0, s0)] [] M).bind fun r => nb_R nb_P 179 4 [v0, v1] (r.1 ++ []) r.2 :=
  nb_stepC (c := true) (L2 := [v0, v1]) (S2 := [(0, s0), (0, s1), (0, s2)]) (M2 := M) (t := 4) (cl := 83) (vi := false) rfl rfl (nb_inv_eq (n := 3) rfl rfl rfl rfl rfl rfl (fun h => by cases h) rfl)
theorem q_m_setWhy_4 (s0 : Int) (v0 v1 : nb_V) (M : nb_M) :
    nb_R nb_P 179 4 [v0, v1] [(0, s0)] M = if s0 = 0 then nb_R nb_P 179 6 [v0, v1] [] M else nb_R nb_P 179 5 [v0, v1] [] M :=
  nb_step (c := true) rfl rfl
theorem q_m_setWhy_5 (v0 v1 : nb_V) (M : nb_M) :
    nb_R nb_P 179 5 [v0, v1] [] M = nb_R nb_P 179 7 [v0, v1] [(0, 0)] M :=
  nb_step (c := true) rfl rfl
theorem q_m_setWhy_6 (v0 v1 : nb_V) (M : nb_M) :
    nb_R nb_P 179 6 [v0, v1] [] M = nb_R nb_P 179 7 [v0, v1] [(0, 2)] M :=
  nb_step (c := true) rfl rfl
theorem q_m_setWhy_7 (s0 : Int) (v0 v1 : nb_V) (M : nb_M) :
    nb_R nb_P 179 7 [v0, v1] [(0, s0)] M = some ([(0, s0)], M) :=
  nb_step (c := true) rfl rfl
theorem q_m_isAtRest_0 (l0 l1 : Int) (v2 : nb_V) (M : nb_M) (h1 : l0 ≠ 0) :
    nb_R nb_P 181 0 [(20, l0), (0, l1), v2] [] M = (nb_R nb_P 177 0 [(20, l0), (0, l1), (98, 0)] [] M).bind fun r => nb_R nb_P 181 1 [(20, l0), (0, l1), v2] (r.1 ++ []) r.2 :=
  nb_stepC (c := true) (L2 := [(20, l0), (0, l1), v2]) (S2 := [(0, l1), (20, l0)]) (M2 := M) (t := 1) (cl := 177) (vi := true) rfl rfl (nb_inv_eq (n := 2) rfl rfl rfl rfl rfl rfl (fun _ => h1) rfl)
theorem q_m_isAtRest_1 (l0 l1 : Int) (v2 : nb_V) (M : nb_M) :
    nb_R nb_P 181 1 [(20, l0), (0, l1), v2] [] M = nb_R nb_P 181 2 [(20, l0), (0, l1), (0, 0)] [] M :=
  nb_step (c := true) rfl rfl
theorem q_m_isAtRest_2 (l0 l1 l2 : Int) (M : nb_M) (h1 : l0 ≠ 0) (h2 : (nb_rd M l0 15) ≠ 0) (h3 : (0 : Int) ≤ 5) (h4 : 5 < nb_ln M (nb_rd M l0 15)) :
    nb_R nb_P 181 2 [(20, l0), (0, l1), (0, l2)] [] M = if l2 < nb_rd M (nb_rd M l0 15) 5 then nb_R nb_P 181 3 [(20, l0), (0, l1), (0, l2)] [] M else nb_R nb_P 181 6 [(20, l0), (0, l1), (0, l2)] [] M :=
  nb_step (c := ((true && !decide ((l0 : Int) = 0)) && (!decide ((nb_rd M l0 15 : Int) = 0) && (decide ((0 : Int) ≤ 5) && decide (5 < nb_ln M (nb_rd M l0 15)))))) rfl (by simp [h1, h2, h3, h4])
theorem q_m_isAtRest_3 (l0 l1 l2 : Int) (M : nb_M) (h1 : l0 ≠ 0) :
    nb_R nb_P 181 3 [(20, l0), (0, l1), (0, l2)] [] M = (nb_R nb_P 136 0 [(20, l0), (0, l2), (98, 0)] [] M).bind fun r => nb_R nb_P 181 4 [(20, l0), (0, l1), (0, l2)] (r.1 ++ [(0, l2), (3, nb_rd M l0 30)]) r.2 :=
  nb_stepC (c := (true && !decide ((l0 : Int) = 0))) (L2 := [(20, l0), (0, l1), (0, l2)]) (S2 := [(0, l2), (20, l0), (0, l2), (3, nb_rd M l0 30)]) (M2 := M) (t := 4) (cl := 136) (vi := true) rfl (by simp [h1]) (nb_inv_eq (n := 2) rfl rfl rfl rfl rfl rfl (fun _ => h1) rfl)
theorem q_m_isAtRest_4 (l0 l1 l2 s0 s1 s2 : Int) (M : nb_M) (h1 : s2 ≠ 0) (h2 : s2 ≠ 1) (h3 : (0 : Int) ≤ s1) (h4 : s1 < nb_ln M s2) :
    nb_R nb_P 181 4 [(20, l0), (0, l1), (0, l2)] [(0, s0), (0, s1), (3, s2)] M = nb_R nb_P 181 5 [(20, l0), (0, l1), (0, l2)] [] (nb_wr M s2 s1 s0) :=
  nb_step (c := (true && (!decide ((s2 : Int) = 0) && (!decide ((s2 : Int) = 1) && (decide ((0 : Int) ≤ s1) && decide (s1 < nb_ln M s2)))))) rfl (by simp [h1, h2, h3, h4])
theorem q_m_isAtRest_5 (l0 l1 l2 : Int) (M : nb_M) :
    nb_R nb_P 181 5 [(20, l0), (0, l1), (0, l2)] [] M = nb_R nb_P 181 2 [(20, l0), (0, l1), (0, nb_add l2 1)] [] M :=
  nb_step (c := true) rfl rfl
theorem q_m_isAtRest_6 (l0 l1 : Int) (v2 : nb_V) (M : nb_M) :
    nb_R nb_P 181 6 [(20, l0), (0, l1), v2] [] M = nb_R nb_P 181 7 [(20, l0), (0, l1), (0, 0)] [] M :=
  nb_step (c := true) rfl rfl
theorem q_m_isAtRest_7 (l0 l1 l2 : Int) (M : nb_M) (h1 : l0 ≠ 0) (h2 : (nb_rd M l0 15) ≠ 0) (h3 : (0 : Int) ≤ 5) (h4 : 5 < nb_ln M (nb_rd M l0 15)) :
    nb_R nb_P 181 7 [(20, l0), (0, l1), (0, l2)] [] M = if l2 < nb_rd M (nb_rd M l0 15) 5 then nb_R nb_P 181 8 [(20, l0), (0, l1), (0, l2)] [] M else nb_R nb_P 181 13 [(20, l0), (0, l1), (0, l2)] [] M :=
  nb_step (c := ((true && !decide ((l0 : Int) = 0)) && (!decide ((nb_rd M l0 15 : Int) = 0) && (decide ((0 : Int) ≤ 5) && decide (5 < nb_ln M (nb_rd M l0 15)))))) rfl (by simp [h1, h2, h3, h4])
theorem q_m_isAtRest_8 (l0 l1 l2 : Int) (M : nb_M) (h1 : l0 ≠ 0) :
    nb_R nb_P 181 8 [(20, l0), (0, l1), (0, l2)] [] M = (nb_R nb_P 177 0 [(20, l0), (0, nb_xor l1 (nb_shl 1 l2)), (98, 0)] [] M).bind fun r => nb_R nb_P 181 9 [(20, l0), (0, l1), (0, l2)] (r.1 ++ []) r.2 :=
  nb_stepC (c := true) (L2 := [(20, l0), (0, l1), (0, l2)]) (S2 := [(0, nb_xor l1 (nb_shl 1 l2)), (20, l0)]) (M2 := M) (t := 9) (cl := 177) (vi := true) rfl rfl (nb_inv_eq (n := 2) rfl rfl rfl rfl rfl rfl (fun _ => h1) rfl)
theorem q_m_isAtRest_9 (l0 l1 l2 : Int) (M : nb_M) (h1 : l0 ≠ 0) :
    nb_R nb_P 181 9 [(20, l0), (0, l1), (0, l2)] [] M = (nb_R nb_P 136 0 [(20, l0), (0, l2), (98, 0)] [] M).bind fun r => nb_R nb_P 181 10 [(20, l0), (0, l1), (0, l2)] (r.1 ++ []) r.2 :=
  nb_stepC (c := true) (L2 := [(20, l0), (0, l1), (0, l2)]) (S2 := [(0, l2), (20, l0)]) (M2 := M) (t := 10) (cl := 136) (vi := true) rfl rfl (nb_inv_eq (n := 2) rfl rfl rfl rfl rfl rfl (fun _ => h1) rfl)
theorem q_m_isAtRest_10 (l0 l1 l2 s0 : Int) (M : nb_M) (h1 : l0 ≠ 0) (h2 : (nb_rd M l0 30) ≠ 0) (h3 : (0 : Int) ≤ l2) (h4 : l2 < nb_ln M (nb_rd M l0 30)) :
    nb_R nb_P 181 10 [(20, l0), (0, l1), (0, l2)] [(0, s0)] M = if s0 < nb_rd M (nb_rd M l0 30) l2 then nb_R nb_P 181 11 [(20, l0), (0, l1), (0, l2)] [] M else nb_R nb_P 181 12 [(20, l0), (0, l1), (0, l2)] [] M :=
  nb_step (c := ((true && !decide ((l0 : Int) = 0)) && (!decide ((nb_rd M l0 30 : Int) = 0) && (decide ((0 : Int) ≤ l2) && decide (l2 < nb_ln M (nb_rd M l0 30)))))) rfl (by simp [h1, h2, h3, h4])
theorem q_m_isAtRest_11 (v0 v1 v2 : nb_V) (M : nb_M) :
    nb_R nb_P 181 11 [v0, v1, v2] [] M = some ([(0, 0)], M) :=
  nb_step (c := true) rfl rfl
theorem q_m_isAtRest_12 (l0 l1 l2 : Int) (M : nb_M) :
    nb_R nb_P 181 12 [(20, l0), (0, l1), (0, l2)] [] M = nb_R nb_P 181 7 [(20, l0), (0, l1), (0, nb_add l2 1)] [] M :=
  nb_step (c := true) rfl rfl
theorem q_m_isAtRest_13 (v0 v1 v2 : nb_V) (M : nb_M) :
    nb_R nb_P 181 13 [v0, v1, v2] [] M = some ([(0, 1)], M) :=
  nb_step (c := true) rfl rfl
theorem q_m_rests_0 (l0 : Int) (v1 v2 : nb_V) (M : nb_M) (h1 : l0 ≠ 0) :
    nb_R nb_P 183 0 [(20, l0), v1, v2] [] M = (nb_R nb_P 79 0 [(20, l0)] [] M).bind fun r => nb_R nb_P 183 1 [(20, l0), v1, v2] (r.1 ++ []) r.2 :=
  nb_stepC (c := true) (L2 := [(20, l0), v1, v2]) (S2 := [(20, l0)]) (M2 := M) (t := 1) (cl := 79) (vi := true) rfl rfl (nb_inv_eq (n := 1) rfl rfl rfl rfl rfl rfl (fun _ => h1) rfl)
theorem q_m_rests_1 (l0 : Int) (v1 v2 : nb_V) (M : nb_M) (h1 : l0 ≠ 0) :
    nb_R nb_P 183 1 [(20, l0), v1, v2] [] M = if nb_rd M l0 14 = 0 then nb_R nb_P 183 2 [(20, l0), v1, v2] [] M else nb_R nb_P 183 4 [(20, l0), v1, v2] [] M :=
  nb_step (c := (true && !decide ((l0 : Int) = 0))) rfl (by simp [h1])
theorem q_m_rests_2 (l0 : Int) (v1 v2 : nb_V) (M : nb_M) (h1 : l0 ≠ 0) :
    nb_R nb_P 183 2 [(20, l0), v1, v2] [] M = (nb_R nb_P 80 0 [(20, l0), (0, 1)] [] M).bind fun r => nb_R nb_P 183 3 [(20, l0), v1, v2] (r.1 ++ []) r.2 :=
  nb_stepC (c := true) (L2 := [(20, l0), v1, v2]) (S2 := [(0, 1), (20, l0)]) (M2 := M) (t := 3) (cl := 80) (vi := true) rfl rfl (nb_inv_eq (n := 2) rfl rfl rfl rfl rfl rfl (fun _ => h1) rfl)
theorem q_m_rests_3 (s0 : Int) (v0 v1 v2 : nb_V) (M : nb_M) :
    nb_R nb_P 183 3 [v0, v1, v2] [(0, s0)] M = some ([(0, s0)], M) :=
  nb_step (c := true) rfl rfl
theorem q_m_rests_4 (l0 : Int) (v1 v2 : nb_V) (M : nb_M) (h1 : l0 ≠ 0) (h2 : (nb_rd M l0 15) ≠ 0) (h3 : (0 : Int) ≤ 5) (h4 : 5 < nb_ln M (nb_rd M l0 15)) :
    nb_R nb_P 183 4 [(20, l0), v1, v2] [] M = if 7 < nb_rd M (nb_rd M l0 15) 5 then nb_R nb_P 183 5 [(20, l0), v1, v2] [] M else nb_R nb_P 183 7 [(20, l0), v1, v2] [] M :=
  nb_step (c := ((true && !decide ((l0 : Int) = 0)) && (!decide ((nb_rd M l0 15 : Int) = 0) && (decide ((0 : Int) ≤ 5) && decide (5 < nb_ln M (nb_rd M l0 15)))))) rfl (by simp [h1, h2, h3, h4])
theorem q_m_rests_5 (l0 : Int) (v1 v2 : nb_V) (M : nb_M) (h1 : l0 ≠ 0) :
    nb_R nb_P 183 5 [(20, l0), v1, v2] [] M = (nb_R nb_P 80 0 [(20, l0), (0, 3)] [] M).bind fun r => nb_R nb_P 183 6 [(20, l0), v1, v2] (r.1 ++ []) r.2 :=
  nb_stepC (c := true) (L2 := [(20, l0), v1, v2]) (S2 := [(0, 3), (20, l0)]) (M2 := M) (t := 6) (cl := 80) (vi := true) rfl rfl (nb_inv_eq (n := 2) rfl rfl rfl rfl rfl rfl (fun _ => h1) rfl)
theorem q_m_rests_6 (s0 : Int) (v0 v1 v2 : nb_V) (M : nb_M) :
    nb_R nb_P 183 6 [v0, v1, v2] [(0, s0)] M = some ([(0, s0)], M) :=
  nb_step (c := true) rfl rfl
theorem q_m_rests_7 (l0 : Int) (v1 v2 : nb_V) (M : nb_M) :
    nb_R nb_P 183 7 [(20, l0), v1, v2] [] M = nb_R nb_P 183 8 [(20, l0), (0, 0), (0, 0)] [] M :=
  nb_step (c := true) rfl rfl
theorem q_m_rests_8 (l0 l1 l2 : Int) (M : nb_M) (h1 : l0 ≠ 0) :
    nb_R nb_P 183 8 [(20, l0), (0, l1), (0, l2)] [] M = (nb_R nb_P 178 0 [(20, l0)] [] M).bind fun r => nb_R nb_P 183 9 [(20, l0), (0, l1), (0, l2)] (r.1 ++ [(0, l2)]) r.2 :=
  nb_stepC (c := true) (L2 := [(20, l0), (0, l1), (0, l2)]) (S2 := [(20, l0), (0, l2)]) (M2 := M) (t := 9) (cl := 178) (vi := true) rfl rfl (nb_inv_eq (n := 1) rfl rfl rfl rfl rfl rfl (fun _ => h1) rfl)
theorem q_m_rests_9 (l0 l1 l2 s0 s1 : Int) (M : nb_M) :
    nb_R nb_P 183 9 [(20, l0), (0, l1), (0, l2)] [(0, s0), (0, s1)] M = if s0 < s1 then nb_R nb_P 183 15 [(20, l0), (0, l1), (0, l2)] [] M else nb_R nb_P 183 10 [(20, l0), (0, l1), (0, l2)] [] M :=
  nb_step (c := true) rfl rfl
theorem q_m_rests_10 (l0 l1 l2 : Int) (M : nb_M) (h1 : l0 ≠ 0) :
    nb_R nb_P 183 10 [(20, l0), (0, l1), (0, l2)] [] M = (nb_R nb_P 181 0 [(20, l0), (0, l2), (98, 0)] [] M).bind fun r => nb_R nb_P 183 11 [(20, l0), (0, l1), (0, l2)] (r.1 ++ [(0, l1)]) r.2 :=
  nb_stepC (c := true) (L2 := [(20, l0), (0, l1), (0, l2)]) (S2 := [(0, l2), (20, l0), (0, l1)]) (M2 := M) (t := 11) (cl := 181) (vi := true) rfl rfl (nb_inv_eq (n := 2) rfl rfl rfl rfl rfl rfl (fun _ => h1) rfl)
theorem q_m_rests_11 (l0 l2 s0 s1 : Int) (v1 : nb_V) (M : nb_M) :
    nb_R nb_P 183 11 [(20, l0), v1, (0, l2)] [(0, s0), (0, s1)] M = if s0 = 0 then nb_R nb_P 183 13 [(20, l0), v1, (0, l2)] [(0, s1)] M else nb_R nb_P 183 12 [(20, l0), v1, (0, l2)] [(0, s1)] M :=
  nb_step (c := true) rfl rfl
theorem q_m_rests_12 (l0 l2 s0 : Int) (v1 : nb_V) (M : nb_M) :
    nb_R nb_P 183 12 [(20, l0), v1, (0, l2)] [(0, s0)] M = nb_R nb_P 183 14 [(20, l0), v1, (0, l2)] [(0, 1), (0, s0)] M :=
  nb_step (c := true) rfl rfl
theorem q_m_rests_13 (l0 l2 s0 : Int) (v1 : nb_V) (M : nb_M) :
    nb_R nb_P 183 13 [(20, l0), v1, (0, l2)] [(0, s0)] M = nb_R nb_P 183 14 [(20, l0), v1, (0, l2)] [(0, 0), (0, s0)] M :=
  nb_step (c := true) rfl rfl
theorem q_m_rests_14 (l0 l2 s0 s1 : Int) (v1 : nb_V) (M : nb_M) :
    nb_R nb_P 183 14 [(20, l0), v1, (0, l2)] [(0, s0), (0, s1)] M = nb_R nb_P 183 8 [(20, l0), (0, nb_add s1 s0), (0, nb_add l2 1)] [] M :=
  nb_step (c := true) rfl rfl
theorem q_m_rests_15 (l1 : Int) (v0 v2 : nb_V) (M : nb_M) :
    nb_R nb_P 183 15 [v0, (0, l1), v2] [] M = some ([(0, l1)], M) :=
  nb_step (c := true) rfl rfl
theorem q_m_rowFrom1_0 (l0 l1 l2 l3 l4 l5 l6 : Int) (v7 v8 : nb_V) (M : nb_M) (h1 : l0 ≠ 0) :
    nb_R nb_P 185 0 [(20, l0), (0, l1), (0, l2), (0, l3), (0, l4), (0, l5), (0, l6), v7, v8] [] M = if l6 < nb_rd M l0 33 then nb_R nb_P 185 2 [(20, l0), (0, l1), (0, l2), (0, l3), (0, l4), (0, l5), (0, l6), v7, v8] [] M else nb_R nb_P 185 1 [(20, l0), (0, l1), (0, l2), (0, l3), (0, l4), (0, l5), (0, l6), v7, v8] [] M :=
  nb_step (c := (true && !decide ((l0 : Int) = 0))) rfl (by simp [h1])
theorem q_m_rowFrom1_1 (v0 v1 v2 v3 v4 v5 v6 v7 v8 : nb_V) (M : nb_M) :
    nb_R nb_P 185 1 [v0, v1, v2, v3, v4, v5, v6, v7, v8] [] M = some ([], M) :=
  nb_step (c := true) rfl rfl
theorem q_m_rowFrom1_2 (l0 l1 l2 l3 l4 l5 l6 : Int) (v7 v8 : nb_V) (M : nb_M) :
    nb_R nb_P 185 2 [(20, l0), (0, l1), (0, l2), (0, l3), (0, l4), (0, l5), (0, l6), v7, v8] [] M = if l1 = l2 then nb_R nb_P 185 3 [(20, l0), (0, l1), (0, l2), (0, l3), (0, l4), (0, l5), (0, l6), v7, v8] [] M else nb_R nb_P 185 6 [(20, l0), (0, l1), (0, l2), (0, l3), (0, l4), (0, l5), (0, l6), v7, v8] [] M :=
  nb_step (c := true) rfl rfl
theorem q_m_rowFrom1_3 (l0 l2 l6 : Int) (v1 v3 v4 v5 v7 v8 : nb_V) (M : nb_M) (h1 : l0 ≠ 0) :
    nb_R nb_P 185 3 [(20, l0), v1, (0, l2), v3, v4, v5, (0, l6), v7, v8] [] M = nb_R nb_P 185 4 [(20, l0), v1, (0, l2), v3, v4, v5, (0, l6), v7, v8] [] (nb_wr M l0 33 l6) :=
  nb_step (c := (true && (!decide ((l0 : Int) = 0) && (!false || (decide ((l6 : Int) = 0) || decide ((l6 : Int) = 1)))))) rfl (by simp [h1])
theorem q_m_rowFrom1_4 (l0 l2 : Int) (v1 v3 v4 v5 v6 v7 v8 : nb_V) (M : nb_M) (h1 : l0 ≠ 0) :
    nb_R nb_P 185 4 [(20, l0), v1, (0, l2), v3, v4, v5, v6, v7, v8] [] M = (nb_R nb_P 86 0 [(3, nb_rd M l0 31), (0, 0), (3, nb_rd M l0 32), (0, 0), (0, l2), (98, 0)] [] M).bind fun r => nb_R nb_P 185 5 [(20, l0), v1, (0, l2), v3, v4, v5, v6, v7, v8] (r.1 ++ []) r.2 :=
  nb_stepC (c := ((true && !decide ((l0 : Int) = 0)) && !decide ((l0 : Int) = 0))) (L2 := [(20, l0), v1, (0, l2), v3, v4, v5, v6, v7, v8]) (S2 := [(0, l2), (0, 0), (3, nb_rd M l0 32), (0, 0), (3, nb_rd M l0 31)]) (M2 := M) (t := 5) (cl := 86) (vi := false) rfl (by simp [h1]) (nb_inv_eq (n := 5) rfl rfl rfl rfl rfl rfl (fun h => by cases h) rfl)
theorem q_m_rowFrom1_5 (v0 v1 v2 v3 v4 v5 v6 v7 v8 : nb_V) (M : nb_M) :
    nb_R nb_P 185 5 [v0, v1, v2, v3, v4, v5, v6, v7, v8] [] M = some ([], M) :=
  nb_step (c := true) rfl rfl
theorem q_m_rowFrom1_6 (l0 l1 l2 l3 l4 l5 l6 : Int) (v7 v8 : nb_V) (M : nb_M) :
    nb_R nb_P 185 6 [(20, l0), (0, l1), (0, l2), (0, l3), (0, l4), (0, l5), (0, l6), v7, v8] [] M = nb_R nb_P 185 7 [(20, l0), (0, l1), (0, l2), (0, l3), (0, l4), (0, l5), (0, l6), (0, 0), v8] [] M :=
  nb_step (c := true) rfl rfl
theorem q_m_rowFrom1_7 (l0 l1 l2 l3 l4 l5 l6 l7 : Int) (v8 : nb_V) (M : nb_M) (h1 : l0 ≠ 0) (h2 : (nb_rd M l0 15) ≠ 0) (h3 : (0 : Int) ≤ 5) (h4 : 5 < nb_ln M (nb_rd M l0 15)) :
    nb_R nb_P 185 7 [(20, l0), (0, l1), (0, l2), (0, l3), (0, l4), (0, l5), (0, l6), (0, l7), v8] [] M = if l7 < nb_rd M (nb_rd M l0 15) 5 then nb_R nb_P 185 8 [(20, l0), (0, l1), (0, l2), (0, l3), (0, l4), (0, l5), (0, l6), (0, l7), v8] [] M else nb_R nb_P 185 17 [(20, l0), (0, l1), (0, l2), (0, l3), (0, l4), (0, l5), (0, l6), (0, l7), v8] [] M :=
  nb_step (c := ((true && !decide ((l0 : Int) = 0)) && (!decide ((nb_rd M l0 15 : Int) = 0) && (decide ((0 : Int) ≤ 5) && decide (5 < nb_ln M (nb_rd M l0 15)))))) rfl (by simp [h1, h2, h3, h4])
theorem q_m_rowFrom1_8 (l0 l1 l2 l3 l4 l5 l6 l7 : Int) (v8 : nb_V) (M : nb_M) :
    nb_R nb_P 185 8 [(20, l0), (0, l1), (0, l2), (0, l3), (0, l4), (0, l5), (0, l6), (0, l7), v8] [] M = (nb_R nb_P 84 0 [(0, l3), (0, l7)] [] M).bind fun r => nb_R nb_P 185 9 [(20, l0), (0, l1), (0, l2), (0, l3), (0, l4), (0, l5), (0, l6), (0, l7), v8] (r.1 ++ []) r.2 :=
  nb_stepC (c := true) (L2 := [(20, l0), (0, l1), (0, l2), (0, l3), (0, l4), (0, l5), (0, l6), (0, l7), v8]) (S2 := [(0, l7), (0, l3)]) (M2 := M) (t := 9) (cl := 84) (vi := false) rfl rfl (nb_inv_eq (n := 2) rfl rfl rfl rfl rfl rfl (fun h => by cases h) rfl)
theorem q_m_rowFrom1_9 (l0 l1 l2 l3 l4 l5 l6 l7 s0 : Int) (v8 : nb_V) (M : nb_M) :
    nb_R nb_P 185 9 [(20, l0), (0, l1), (0, l2), (0, l3), (0, l4), (0, l5), (0, l6), (0, l7), v8] [(0, s0)] M = if s0 = 0 then nb_R nb_P 185 10 [(20, l0), (0, l1), (0, l2), (0, l3), (0, l4), (0, l5), (0, l6), (0, l7), v8] [] M else nb_R nb_P 185 16 [(20, l0), (0, l1), (0, l2), (0, l3), (0, l4), (0, l5), (0, l6), (0, l7), v8] [] M :=
  nb_step (c := true) rfl rfl
theorem q_m_rowFrom1_10 (l0 l1 l2 l3 l4 l5 l6 l7 : Int) (v8 : nb_V) (M : nb_M) (h1 : l0 ≠ 0) :
    nb_R nb_P 185 10 [(20, l0), (0, l1), (0, l2), (0, l3), (0, l4), (0, l5), (0, l6), (0, l7), v8] [] M = (nb_R nb_P 126 0 [(3, nb_rd M l0 17), (0, l7)] [] M).bind fun r => nb_R nb_P 185 11 [(20, l0), (0, l1), (0, l2), (0, l3), (0, l4), (0, l5), (0, l6), (0, l7), v8] (r.1 ++ []) r.2 :=
  nb_stepC (c := (true && !decide ((l0 : Int) = 0))) (L2 := [(20, l0), (0, l1), (0, l2), (0, l3), (0, l4), (0, l5), (0, l6), (0, l7), v8]) (S2 := [(0, l7), (3, nb_rd M l0 17)]) (M2 := M) (t := 11) (cl := 126) (vi := false) rfl (by simp [h1]) (nb_inv_eq (n := 2) rfl rfl rfl rfl rfl rfl (fun h => by cases h) rfl)
theorem q_m_rowFrom1_11 (l0 l1 l2 l3 l4 l5 l6 l7 s0 : Int) (v8 : nb_V) (M : nb_M) :
    nb_R nb_P 185 11 [(20, l0), (0, l1), (0, l2), (0, l3), (0, l4), (0, l5), (0, l6), (0, l7), v8] [(0, s0)] M = if s0 = 0 then nb_R nb_P 185 12 [(20, l0), (0, l1), (0, l2), (0, l3), (0, l4), (0, l5), (0, l6), (0, l7), v8] [] M else nb_R nb_P 185 13 [(20, l0), (0, l1), (0, l2), (0, l3), (0, l4), (0, l5), (0, l6), (0, l7), v8] [] M :=
  nb_step (c := true) rfl rfl
theorem q_m_rowFrom1_12 (l0 l1 l2 l3 l4 l5 l6 l7 : Int) (v8 : nb_V) (M : nb_M) :
    nb_R nb_P 185 12 [(20, l0), (0, l1), (0, l2), (0, l3), (0, l4), (0, l5), (0, l6), (0, l7), v8] [] M = nb_R nb_P 185 16 [(20, l0), (0, l1), (0, l2), (0, l3), (0, l4), (0, l5), (0, l6), (0, l7), v8] [] M :=
  nb_step (c := true) rfl rfl
theorem q_m_rowFrom1_13 (l0 l1 l2 l3 l4 l5 l6 l7 : Int) (v8 : nb_V) (M : nb_M) (h1 : l0 ≠ 0) :
    nb_R nb_P 185 13 [(20, l0), (0, l1), (0, l2), (0, l3), (0, l4), (0, l5), (0, l6), (0, l7), v8] [] M = (nb_R nb_P 129 0 [(20, l0), (0, l4), (0, l7), (98, 0), (98, 0), (98, 0), (98, 0)] [] M).bind fun r => nb_R nb_P 185 14 [(20, l0), (0, l1), (0, l2), (0, l3), (0, l4), (0, l5), (0, l6), (0, l7), v8] (r.1 ++ [(0, l5)]) r.2 :=
  nb_stepC (c := true) (L2 := [(20, l0), (0, l1), (0, l2), (0, l3), (0, l4), (0, l5), (0, l6), (0, l7), v8]) (S2 := [(0, l7), (0, l4), (20, l0), (0, l5)]) (M2 := M) (t := 14) (cl := 129) (vi := true) rfl rfl (nb_inv_eq (n := 3) rfl rfl rfl rfl rfl rfl (fun _ => h1) rfl)
theorem q_m_rowFrom1_14 (l0 l1 l2 l3 l4 l5 l6 l7 s0 s1 : Int) (v8 : nb_V) (M : nb_M) (h1 : l0 ≠ 0) (h2 : (nb_rd M l0 31) ≠ 0) (h3 : (nb_rd M l0 31) ≠ 1) (h4 : (0 : Int) ≤ l1) (h5 : l1 < nb_ln M (nb_rd M l0 31)) :
    nb_R nb_P 185 14 [(20, l0), (0, l1), (0, l2), (0, l3), (0, l4), (0, l5), (0, l6), (0, l7), v8] [(0, s0), (0, s1)] M = nb_R nb_P 185 15 [(20, l0), (0, l1), (0, l2), (0, l3), (0, l4), (0, l5), (0, l6), (0, l7), (0, nb_add s1 s0)] [] (nb_wr M (nb_rd M l0 31) l1 l7) :=
  nb_step (c := ((true && !decide ((l0 : Int) = 0)) && (!decide ((nb_rd M l0 31 : Int) = 0) && (!decide ((nb_rd M l0 31 : Int) = 1) && (decide ((0 : Int) ≤ l1) && decide (l1 < nb_ln M (nb_rd M l0 31))))))) rfl (by simp [h1, h2, h3, h4, h5])
theorem q_m_rowFrom1_15 (l0 l1 l2 l3 l4 l5 l6 l7 l8 : Int) (M : nb_M) (h1 : l0 ≠ 0) :
    nb_R nb_P 185 15 [(20, l0), (0, l1), (0, l2), (0, l3), (0, l4), (0, l5), (0, l6), (0, l7), (0, l8)] [] M = (nb_R nb_P 186 0 [(20, l0), (0, nb_add l1 1), (0, l2), (0, nb_or l3 (nb_shl 1 l7)), (0, l7), (0, l8), (0, nb_add l6 l8), (98, 0), (98, 0)] [] M).bind fun r => nb_R nb_P 185 16 [(20, l0), (0, l1), (0, l2), (0, l3), (0, l4), (0, l5), (0, l6), (0, l7), (0, l8)] (r.1 ++ []) r.2 :=
  nb_stepC (c := true) (L2 := [(20, l0), (0, l1), (0, l2), (0, l3), (0, l4), (0, l5), (0, l6), (0, l7), (0, l8)]) (S2 := [(0, nb_add l6 l8), (0, l8), (0, l7), (0, nb_or l3 (nb_shl 1 l7)), (0, l2), (0, nb_add l1 1), (20, l0)]) (M2 := M) (t := 16) (cl := 186) (vi := true) rfl rfl (nb_inv_eq (n := 7) rfl rfl rfl rfl rfl rfl (fun _ => h1) rfl)
theorem q_m_rowFrom1_16 (l0 l1 l2 l3 l4 l5 l6 l7 : Int) (v8 : nb_V) (M : nb_M) :
    nb_R nb_P 185 16 [(20, l0), (0, l1), (0, l2), (0, l3), (0, l4), (0, l5), (0, l6), (0, l7), v8] [] M = nb_R nb_P 185 7 [(20, l0), (0, l1), (0, l2), (0, l3), (0, l4), (0, l5), (0, l6), (0, nb_add l7 1), v8] [] M :=
  nb_step (c := true) rfl rfl
theorem q_m_rowFrom1_17 (v0 v1 v2 v3 v4 v5 v6 v7 v8 : nb_V) (M : nb_M) :
    nb_R nb_P 185 17 [v0, v1, v2, v3, v4, v5, v6, v7, v8] [] M = some ([], M) :=
  nb_step (c := true) rfl rfl
theorem q_m_rowFrom3_0 (l0 l1 l2 l3 l4 l5 l6 : Int) (v7 v8 : nb_V) (M : nb_M) (h1 : l0 ≠ 0) :
    nb_R nb_P 187 0 [(20, l0), (0, l1), (0, l2), (0, l3), (0, l4), (0, l5), (0, l6), v7, v8] [] M = if l6 < nb_rd M l0 33 then nb_R nb_P 187 2 [(20, l0), (0, l1), (0, l2), (0, l3), (0, l4), (0, l5), (0, l6), v7, v8] [] M else nb_R nb_P 187 1 [(20, l0), (0, l1), (0, l2), (0, l3), (0, l4), (0, l5), (0, l6), v7, v8] [] M :=
  nb_step (c := (true && !decide ((l0 : Int) = 0))) rfl (by simp [h1])
theorem q_m_rowFrom3_1 (v0 v1 v2 v3 v4 v5 v6 v7 v8 : nb_V) (M : nb_M) :
    nb_R nb_P 187 1 [v0, v1, v2, v3, v4, v5, v6, v7, v8] [] M = some ([], M) :=
  nb_step (c := true) rfl rfl
theorem q_m_rowFrom3_2 (l0 l1 l2 l3 l4 l5 l6 : Int) (v7 v8 : nb_V) (M : nb_M) :
    nb_R nb_P 187 2 [(20, l0), (0, l1), (0, l2), (0, l3), (0, l4), (0, l5), (0, l6), v7, v8] [] M = if l1 = l2 then nb_R nb_P 187 3 [(20, l0), (0, l1), (0, l2), (0, l3), (0, l4), (0, l5), (0, l6), v7, v8] [] M else nb_R nb_P 187 6 [(20, l0), (0, l1), (0, l2), (0, l3), (0, l4), (0, l5), (0, l6), v7, v8] [] M :=
  nb_step (c := true) rfl rfl
theorem q_m_rowFrom3_3 (l0 l2 l6 : Int) (v1 v3 v4 v5 v7 v8 : nb_V) (M : nb_M) (h1 : l0 ≠ 0) :
    nb_R nb_P 187 3 [(20, l0), v1, (0, l2), v3, v4, v5, (0, l6), v7, v8] [] M = nb_R nb_P 187 4 [(20, l0), v1, (0, l2), v3, v4, v5, (0, l6), v7, v8] [] (nb_wr M l0 33 l6) :=
  nb_step (c := (true && (!decide ((l0 : Int) = 0) && (!false || (decide ((l6 : Int) = 0) || decide ((l6 : Int) = 1)))))) rfl (by simp [h1])
theorem q_m_rowFrom3_4 (l0 l2 : Int) (v1 v3 v4 v5 v6 v7 v8 : nb_V) (M : nb_M) (h1 : l0 ≠ 0) :
    nb_R nb_P 187 4 [(20, l0), v1, (0, l2), v3, v4, v5, v6, v7, v8] [] M = (nb_R nb_P 86 0 [(3, nb_rd M l0 31), (0, 0), (3, nb_rd M l0 32), (0, 0), (0, l2), (98, 0)] [] M).bind fun r => nb_R nb_P 187 5 [(20, l0), v1, (0, l2), v3, v4, v5, v6, v7, v8] (r.1 ++ []) r.2 :=
  nb_stepC (c := ((true && !decide ((l0 : Int) = 0)) && !decide ((l0 : Int) = 0))) (L2 := [(20, l0), v1, (0, l2), v3, v4, v5, v6, v7, v8]) (S2 := [(0, l2), (0, 0), (3, nb_rd M l0 32), (0, 0), (3, nb_rd M l0 31)]) (M2 := M) (t := 5) (cl := 86) (vi := false) rfl (by simp [h1]) (nb_inv_eq (n := 5) rfl rfl rfl rfl rfl rfl (fun h => by cases h) rfl)
theorem q_m_rowFrom3_5 (v0 v1 v2 v3 v4 v5 v6 v7 v8 : nb_V) (M : nb_M) :
    nb_R nb_P 187 5 [v0, v1, v2, v3, v4, v5, v6, v7, v8] [] M = some ([], M) :=
  nb_step (c := true) rfl rfl
theorem q_m_rowFrom3_6 (l0 l1 l2 l3 l4 l5 l6 : Int) (v7 v8 : nb_V) (M : nb_M) :
    nb_R nb_P 187 6 [(20, l0), (0, l1), (0, l2), (0, l3), (0, l4), (0, l5), (0, l6), v7, v8] [] M = nb_R nb_P 187 7 [(20, l0), (0, l1), (0, l2), (0, l3), (0, l4), (0, l5), (0, l6), (0, 0), v8] [] M :=
  nb_step (c := true) rfl rfl
theorem q_m_rowFrom3_7 (l0 l1 l2 l3 l4 l5 l6 l7 : Int) (v8 : nb_V) (M : nb_M) (h1 : l0 ≠ 0) (h2 : (nb_rd M l0 15) ≠ 0) (h3 : (0 : Int) ≤ 5) (h4 : 5 < nb_ln M (nb_rd M l0 15)) :
    nb_R nb_P 187 7 [(20, l0), (0, l1), (0, l2), (0, l3), (0, l4), (0, l5), (0, l6), (0, l7), v8] [] M = if l7 < nb_rd M (nb_rd M l0 15) 5 then nb_R nb_P 187 8 [(20, l0), (0, l1), (0, l2), (0, l3), (0, l4), (0, l5), (0, l6), (0, l7), v8] [] M else nb_R nb_P 187 17 [(20, l0), (0, l1), (0, l2), (0, l3), (0, l4), (0, l5), (0, l6), (0, l7), v8] [] M :=
  nb_step (c := ((true && !decide ((l0 : Int) = 0)) && (!decide ((nb_rd M l0 15 : Int) = 0) && (decide ((0 : Int) ≤ 5) && decide (5 < nb_ln M (nb_rd M l0 15)))))) rfl (by simp [h1, h2, h3, h4])
theorem q_m_rowFrom3_8 (l0 l1 l2 l3 l4 l5 l6 l7 : Int) (v8 : nb_V) (M : nb_M) :
    nb_R nb_P 187 8 [(20, l0), (0, l1), (0, l2), (0, l3), (0, l4), (0, l5), (0, l6), (0, l7), v8] [] M = (nb_R nb_P 84 0 [(0, l3), (0, l7)] [] M).bind fun r => nb_R nb_P 187 9 [(20, l0), (0, l1), (0, l2), (0, l3), (0, l4), (0, l5), (0, l6), (0, l7), v8] (r.1 ++ []) r.2 :=
  nb_stepC (c := true) (L2 := [(20, l0), (0, l1), (0, l2), (0, l3), (0, l4), (0, l5), (0, l6), (0, l7), v8]) (S2 := [(0, l7), (0, l3)]) (M2 := M) (t := 9) (cl := 84) (vi := false) rfl rfl (nb_inv_eq (n := 2) rfl rfl rfl rfl rfl rfl (fun h => by cases h) rfl)
theorem q_m_rowFrom3_9 (l0 l1 l2 l3 l4 l5 l6 l7 s0 : Int) (v8 : nb_V) (M : nb_M) :
    nb_R nb_P 187 9 [(20, l0), (0, l1), (0, l2), (0, l3), (0, l4), (0, l5), (0, l6), (0, l7), v8] [(0, s0)] M = if s0 = 0 then nb_R nb_P 187 10 [(20, l0), (0, l1), (0, l2), (0, l3), (0, l4), (0, l5), (0, l6), (0, l7), v8] [] M else nb_R nb_P 187 16 [(20, l0), (0, l1), (0, l2), (0, l3), (0, l4), (0, l5), (0, l6), (0, l7), v8] [] M :=
  nb_step (c := true) rfl rfl
theorem q_m_rowFrom3_10 (l0 l1 l2 l3 l4 l5 l6 l7 : Int) (v8 : nb_V) (M : nb_M) (h1 : l0 ≠ 0) :
    nb_R nb_P 187 10 [(20, l0), (0, l1), (0, l2), (0, l3), (0, l4), (0, l5), (0, l6), (0, l7), v8] [] M = (nb_R nb_P 126 0 [(3, nb_rd M l0 17), (0, l7)] [] M).bind fun r => nb_R nb_P 187 11 [(20, l0), (0, l1), (0, l2), (0, l3), (0, l4), (0, l5), (0, l6), (0, l7), v8] (r.1 ++ []) r.2 :=
  nb_stepC (c := (true && !decide ((l0 : Int) = 0))) (L2 := [(20, l0), (0, l1), (0, l2), (0, l3), (0, l4), (0, l5), (0, l6), (0, l7), v8]) (S2 := [(0, l7), (3, nb_rd M l0 17)]) (M2 := M) (t := 11) (cl := 126) (vi := false) rfl (by simp [h1]) (nb_inv_eq (n := 2) rfl rfl rfl rfl rfl rfl (fun h => by cases h) rfl)
theorem q_m_rowFrom3_11 (l0 l1 l2 l3 l4 l5 l6 l7 s0 : Int) (v8 : nb_V) (M : nb_M) :
    nb_R nb_P 187 11 [(20, l0), (0, l1), (0, l2), (0, l3), (0, l4), (0, l5), (0, l6), (0, l7), v8] [(0, s0)] M = if s0 = 0 then nb_R nb_P 187 12 [(20, l0), (0, l1), (0, l2), (0, l3), (0, l4), (0, l5), (0, l6), (0, l7), v8] [] M else nb_R nb_P 187 13 [(20, l0), (0, l1), (0, l2), (0, l3), (0, l4), (0, l5), (0, l6), (0, l7), v8] [] M :=
  nb_step (c := true) rfl rfl
theorem q_m_rowFrom3_12 (l0 l1 l2 l3 l4 l5 l6 l7 : Int) (v8 : nb_V) (M : nb_M) :
    nb_R nb_P 187 12 [(20, l0), (0, l1), (0, l2), (0, l3), (0, l4), (0, l5), (0, l6), (0, l7), v8] [] M = nb_R nb_P 187 16 [(20, l0), (0, l1), (0, l2), (0, l3), (0, l4), (0, l5), (0, l6), (0, l7), v8] [] M :=
  nb_step (c := true) rfl rfl
theorem q_m_rowFrom3_13 (l0 l1 l2 l3 l4 l5 l6 l7 : Int) (v8 : nb_V) (M : nb_M) (h1 : l0 ≠ 0) :
    nb_R nb_P 187 13 [(20, l0), (0, l1), (0, l2), (0, l3), (0, l4), (0, l5), (0, l6), (0, l7), v8] [] M = (nb_R nb_P 129 0 [(20, l0), (0, l4), (0, l7), (98, 0), (98, 0), (98, 0), (98, 0)] [] M).bind fun r => nb_R nb_P 187 14 [(20, l0), (0, l1), (0, l2), (0, l3), (0, l4), (0, l5), (0, l6), (0, l7), v8] (r.1 ++ [(0, l5)]) r.2 :=
  nb_stepC (c := true) (L2 := [(20, l0), (0, l1), (0, l2), (0, l3), (0, l4), (0, l5), (0, l6), (0, l7), v8]) (S2 := [(0, l7), (0, l4), (20, l0), (0, l5)]) (M2 := M) (t := 14) (cl := 129) (vi := true) rfl rfl (nb_inv_eq (n := 3) rfl rfl rfl rfl rfl rfl (fun _ => h1) rfl)
theorem q_m_rowFrom3_14 (l0 l1 l2 l3 l4 l5 l6 l7 s0 s1 : Int) (v8 : nb_V) (M : nb_M) (h1 : l0 ≠ 0) (h2 : (nb_rd M l0 31) ≠ 0) (h3 : (nb_rd M l0 31) ≠ 1) (h4 : (0 : Int) ≤ l1) (h5 : l1 < nb_ln M (nb_rd M l0 31)) :
    nb_R nb_P 187 14 [(20, l0), (0, l1), (0, l2), (0, l3), (0, l4), (0, l5), (0, l6), (0, l7), v8] [(0, s0), (0, s1)] M = nb_R nb_P 187 15 [(20, l0), (0, l1), (0, l2), (0, l3), (0, l4), (0, l5), (0, l6), (0, l7), (0, nb_add s1 s0)] [] (nb_wr M (nb_rd M l0 31) l1 l7) :=
  nb_step (c := ((true && !decide ((l0 : Int) = 0)) && (!decide ((nb_rd M l0 31 : Int) = 0) && (!decide ((nb_rd M l0 31 : Int) = 1) && (decide ((0 : Int) ≤ l1) && decide (l1 < nb_ln M (nb_rd M l0 31))))))) rfl (by simp [h1, h2, h3, h4, h5])
theorem q_m_rowFrom3_15 (l0 l1 l2 l3 l4 l5 l6 l7 l8 : Int) (M : nb_M) (h1 : l0 ≠ 0) :
    nb_R nb_P 187 15 [(20, l0), (0, l1), (0, l2), (0, l3), (0, l4), (0, l5), (0, l6), (0, l7), (0, l8)] [] M = (nb_R nb_P 188 0 [(20, l0), (0, nb_add l1 1), (0, l2), (0, nb_or l3 (nb_shl 1 l7)), (0, l7), (0, l8), (0, nb_add l6 l8), (98, 0), (98, 0)] [] M).bind fun r => nb_R nb_P 187 16 [(20, l0), (0, l1), (0, l2), (0, l3), (0, l4), (0, l5), (0, l6), (0, l7), (0, l8)] (r.1 ++ []) r.2 :=
  nb_stepC (c := true) (L2 := [(20, l0), (0, l1), (0, l2), (0, l3), (0, l4), (0, l5), (0, l6), (0, l7), (0, l8)]) (S2 := [(0, nb_add l6 l8), (0, l8), (0, l7), (0, nb_or l3 (nb_shl 1 l7)), (0, l2), (0, nb_add l1 1), (20, l0)]) (M2 := M) (t := 16) (cl := 188) (vi := true) rfl rfl (nb_inv_eq (n := 7) rfl rfl rfl rfl rfl rfl (fun _ => h1) rfl)
theorem q_m_rowFrom3_16 (l0 l1 l2 l3 l4 l5 l6 l7 : Int) (v8 : nb_V) (M : nb_M) :
    nb_R nb_P 187 16 [(20, l0), (0, l1), (0, l2), (0, l3), (0, l4), (0, l5), (0, l6), (0, l7), v8] [] M = nb_R nb_P 187 7 [(20, l0), (0, l1), (0, l2), (0, l3), (0, l4), (0, l5), (0, l6), (0, nb_add l7 1), v8] [] M :=
  nb_step (c := true) rfl rfl
theorem q_m_rowFrom3_17 (v0 v1 v2 v3 v4 v5 v6 v7 v8 : nb_V) (M : nb_M) :
    nb_R nb_P 187 17 [v0, v1, v2, v3, v4, v5, v6, v7, v8] [] M = some ([], M) :=
  nb_step (c := true) rfl rfl
theorem q_m_rowFrom5_0 (l0 l1 l2 l3 l4 l5 l6 : Int) (v7 v8 : nb_V) (M : nb_M) (h1 : l0 ≠ 0) :
    nb_R nb_P 189 0 [(20, l0), (0, l1), (0, l2), (0, l3), (0, l4), (0, l5), (0, l6), v7, v8] [] M = if l6 < nb_rd M l0 33 then nb_R nb_P 189 2 [(20, l0), (0, l1), (0, l2), (0, l3), (0, l4), (0, l5), (0, l6), v7, v8] [] M else nb_R nb_P 189 1 [(20, l0), (0, l1), (0, l2), (0, l3), (0, l4), (0, l5), (0, l6), v7, v8] [] M :=
  nb_step (c := (true && !decide ((l0 : Int) = 0))) rfl (by simp [h1])
theorem q_m_rowFrom5_1 (v0 v1 v2 v3 v4 v5 v6 v7 v8 : nb_V) (M : nb_M) :
    nb_R nb_P 189 1 [v0, v1, v2, v3, v4, v5, v6, v7, v8] [] M = some ([], M) :=
  nb_step (c := true) rfl rfl
theorem q_m_rowFrom5_2 (l0 l1 l2 l3 l4 l5 l6 : Int) (v7 v8 : nb_V) (M : nb_M) :
    nb_R nb_P 189 2 [(20, l0), (0, l1), (0, l2), (0, l3), (0, l4), (0, l5), (0, l6), v7, v8] [] M = if l1 = l2 then nb_R nb_P 189 3 [(20, l0), (0, l1), (0, l2), (0, l3), (0, l4), (0, l5), (0, l6), v7, v8] [] M else nb_R nb_P 189 6 [(20, l0), (0, l1), (0, l2), (0, l3), (0, l4), (0, l5), (0, l6), v7, v8] [] M :=
  nb_step (c := true) rfl rfl
theorem q_m_rowFrom5_3 (l0 l2 l6 : Int) (v1 v3 v4 v5 v7 v8 : nb_V) (M : nb_M) (h1 : l0 ≠ 0) :
    nb_R nb_P 189 3 [(20, l0), v1, (0, l2), v3, v4, v5, (0, l6), v7, v8] [] M = nb_R nb_P 189 4 [(20, l0), v1, (0, l2), v3, v4, v5, (0, l6), v7, v8] [] (nb_wr M l0 33 l6) :=
  nb_step (c := (true && (!decide ((l0 : Int) = 0) && (!false || (decide ((l6 : Int) = 0) || decide ((l6 : Int) = 1)))))) rfl (by simp [h1])
theorem q_m_rowFrom5_4 (l0 l2 : Int) (v1 v3 v4 v5 v6 v7 v8 : nb_V) (M : nb_M) (h1 : l0 ≠ 0) :
    nb_R nb_P 189 4 [(20, l0), v1, (0, l2), v3, v4, v5, v6, v7, v8] [] M = (nb_R nb_P 86 0 [(3, nb_rd M l0 31), (0, 0), (3, nb_rd M l0 32), (0, 0), (0, l2), (98, 0)] [] M).bind fun r => nb_R nb_P 189 5 [(20, l0), v1, (0, l2), v3, v4, v5, v6, v7, v8] (r.1 ++ []) r.2 :=
  nb_stepC (c := ((true && !decide ((l0 : Int) = 0)) && !decide ((l0 : Int) = 0))) (L2 := [(20, l0), v1, (0, l2), v3, v4, v5, v6, v7, v8]) (S2 := [(0, l2), (0, 0), (3, nb_rd M l0 32), (0, 0), (3, nb_rd M l0 31)]) (M2 := M) (t := 5) (cl := 86) (vi := false) rfl (by simp [h1]) (nb_inv_eq (n := 5) rfl rfl rfl rfl rfl rfl (fun h => by cases h) rfl)
theorem q_m_rowFrom5_5 (v0 v1 v2 v3 v4 v5 v6 v7 v8 : nb_V) (M : nb_M) :
    nb_R nb_P 189 5 [v0, v1, v2, v3, v4, v5, v6, v7, v8] [] M = some ([], M) :=
  nb_step (c := true) rfl rfl
theorem q_m_rowFrom5_6 (l0 l1 l2 l3 l4 l5 l6 : Int) (v7 v8 : nb_V) (M : nb_M) :
    nb_R nb_P 189 6 [(20, l0), (0, l1), (0, l2), (0, l3), (0, l4), (0, l5), (0, l6), v7, v8] [] M = nb_R nb_P 189 7 [(20, l0), (0, l1), (0, l2), (0, l3), (0, l4), (0, l5), (0, l6), (0, 0), v8] [] M :=
  nb_step (c := true) rfl rfl
theorem q_m_rowFrom5_7 (l0 l1 l2 l3 l4 l5 l6 l7 : Int) (v8 : nb_V) (M : nb_M) (h1 : l0 ≠ 0) (h2 : (nb_rd M l0 15) ≠ 0) (h3 : (0 : Int) ≤ 5) (h4 : 5 < nb_ln M (nb_rd M l0 15)) :
    nb_R nb_P 189 7 [(20, l0), (0, l1), (0, l2), (0, l3), (0, l4), (0, l5), (0, l6), (0, l7), v8] [] M = if l7 < nb_rd M (nb_rd M l0 15) 5 then nb_R nb_P 189 8 [(20, l0), (0, l1), (0, l2), (0, l3), (0, l4), (0, l5), (0, l6), (0, l7), v8] [] M else nb_R nb_P 189 17 [(20, l0), (0, l1), (0, l2), (0, l3), (0, l4), (0, l5), (0, l6), (0, l7), v8] [] M :=
  nb_step (c := ((true && !decide ((l0 : Int) = 0)) && (!decide ((nb_rd M l0 15 : Int) = 0) && (decide ((0 : Int) ≤ 5) && decide (5 < nb_ln M (nb_rd M l0 15)))))) rfl (by simp [h1, h2, h3, h4])
theorem q_m_rowFrom5_8 (l0 l1 l2 l3 l4 l5 l6 l7 : Int) (v8 : nb_V) (M : nb_M) :
    nb_R nb_P 189 8 [(20, l0), (0, l1), (0, l2), (0, l3), (0, l4), (0, l5), (0, l6), (0, l7), v8] [] M = (nb_R nb_P 84 0 [(0, l3), (0, l7)] [] M).bind fun r => nb_R nb_P 189 9 [(20, l0), (0, l1), (0, l2), (0, l3), (0, l4), (0, l5), (0, l6), (0, l7), v8] (r.1 ++ []) r.2 :=
  nb_stepC (c := true) (L2 := [(20, l0), (0, l1), (0, l2), (0, l3), (0, l4), (0, l5), (0, l6), (0, l7), v8]) (S2 := [(0, l7), (0, l3)]) (M2 := M) (t := 9) (cl := 84) (vi := false) rfl rfl (nb_inv_eq (n := 2) rfl rfl rfl rfl rfl rfl (fun h => by cases h) rfl)
theorem q_m_rowFrom5_9 (l0 l1 l2 l3 l4 l5 l6 l7 s0 : Int) (v8 : nb_V) (M : nb_M) :
    nb_R nb_P 189 9 [(20, l0), (0, l1), (0, l2), (0, l3), (0, l4), (0, l5), (0, l6), (0, l7), v8] [(0, s0)] M = if s0 = 0 then nb_R nb_P 189 10 [(20, l0), (0, l1), (0, l2), (0, l3), (0, l4), (0, l5), (0, l6), (0, l7), v8] [] M else nb_R nb_P 189 16 [(20, l0), (0, l1), (0, l2), (0, l3), (0, l4), (0, l5), (0, l6), (0, l7), v8] [] M :=
  nb_step (c := true) rfl rfl
theorem q_m_rowFrom5_10 (l0 l1 l2 l3 l4 l5 l6 l7 : Int) (v8 : nb_V) (M : nb_M) (h1 : l0 ≠ 0) :
    nb_R nb_P 189 10 [(20, l0), (0, l1), (0, l2), (0, l3), (0, l4), (0, l5), (0, l6), (0, l7), v8] [] M = (nb_R nb_P 126 0 [(3, nb_rd M l0 17), (0, l7)] [] M).bind fun r => nb_R nb_P 189 11 [(20, l0), (0, l1), (0, l2), (0, l3), (0, l4), (0, l5), (0, l6), (0, l7), v8] (r.1 ++ []) r.2 :=
  nb_stepC (c := (true && !decide ((l0 : Int) = 0))) (L2 := [(20, l0), (0, l1), (0, l2), (0, l3), (0, l4), (0, l5), (0, l6), (0, l7), v8]) (S2 := [(0, l7), (3, nb_rd M l0 17)]) (M2 := M) (t := 11) (cl := 126) (vi := false) rfl (by simp [h1]) (nb_inv_eq (n := 2) rfl rfl rfl rfl rfl rfl (fun h => by cases h) rfl)
theorem q_m_rowFrom5_11 (l0 l1 l2 l3 l4 l5 l6 l7 s0 : Int) (v8 : nb_V) (M : nb_M) :
    nb_R nb_P 189 11 [(20, l0), (0, l1), (0, l2), (0, l3), (0, l4), (0, l5), (0, l6), (0, l7), v8] [(0, s0)] M = if s0 = 0 then nb_R nb_P 189 12 [(20, l0), (0, l1), (0, l2), (0, l3), (0, l4), (0, l5), (0, l6), (0, l7), v8] [] M else nb_R nb_P 189 13 [(20, l0), (0, l1), (0, l2), (0, l3), (0, l4), (0, l5), (0, l6), (0, l7), v8] [] M :=
  nb_step (c := true) rfl rfl
theorem q_m_rowFrom5_12 (l0 l1 l2 l3 l4 l5 l6 l7 : Int) (v8 : nb_V) (M : nb_M) :
    nb_R nb_P 189 12 [(20, l0), (0, l1), (0, l2), (0, l3), (0, l4), (0, l5), (0, l6), (0, l7), v8] [] M = nb_R nb_P 189 16 [(20, l0), (0, l1), (0, l2), (0, l3), (0, l4), (0, l5), (0, l6), (0, l7), v8] [] M :=
  nb_step (c := true) rfl rfl
theorem q_m_rowFrom5_13 (l0 l1 l2 l3 l4 l5 l6 l7 : Int) (v8 : nb_V) (M : nb_M) (h1 : l0 ≠ 0) :
    nb_R nb_P 189 13 [(20, l0), (0, l1), (0, l2), (0, l3), (0, l4), (0, l5), (0, l6), (0, l7), v8] [] M = (nb_R nb_P 129 0 [(20, l0), (0, l4), (0, l7), (98, 0), (98, 0), (98, 0), (98, 0)] [] M).bind fun r => nb_R nb_P 189 14 [(20, l0), (0, l1), (0, l2), (0, l3), (0, l4), (0, l5), (0, l6), (0, l7), v8] (r.1 ++ [(0, l5)]) r.2 :=
  nb_stepC (c := true) (L2 := [(20, l0), (0, l1), (0, l2), (0, l3), (0, l4), (0, l5), (0, l6), (0, l7), v8]) (S2 := [(0, l7), (0, l4), (20, l0), (0, l5)]) (M2 := M) (t := 14) (cl := 129) (vi := true) rfl rfl (nb_inv_eq (n := 3) rfl rfl rfl rfl rfl rfl (fun _ => h1) rfl)
theorem q_m_rowFrom5_14 (l0 l1 l2 l3 l4 l5 l6 l7 s0 s1 : Int) (v8 : nb_V) (M : nb_M) (h1 : l0 ≠ 0) (h2 : (nb_rd M l0 31) ≠ 0) (h3 : (nb_rd M l0 31) ≠ 1) (h4 : (0 : Int) ≤ l1) (h5 : l1 < nb_ln M (nb_rd M l0 31)) :
    nb_R nb_P 189 14 [(20, l0), (0, l1), (0, l2), (0, l3), (0, l4), (0, l5), (0, l6), (0, l7), v8] [(0, s0), (0, s1)] M = nb_R nb_P 189 15 [(20, l0), (0, l1), (0, l2), (0, l3), (0, l4), (0, l5), (0, l6), (0, l7), (0, nb_add s1 s0)] [] (nb_wr M (nb_rd M l0 31) l1 l7) :=
  nb_step (c := ((true && !decide ((l0 : Int) = 0)) && (!decide ((nb_rd M l0 31 : Int) = 0) && (!decide ((nb_rd M l0 31 : Int) = 1) && (decide ((0 : Int) ≤ l1) && decide (l1 < nb_ln M (nb_rd M l0 31))))))) rfl (by simp [h1, h2, h3, h4, h5])
theorem q_m_rowFrom5_15 (l0 l1 l2 l3 l4 l5 l6 l7 l8 : Int) (M : nb_M) (h1 : l0 ≠ 0) :
    nb_R nb_P 189 15 [(20, l0), (0, l1), (0, l2), (0, l3), (0, l4), (0, l5), (0, l6), (0, l7), (0, l8)] [] M = (nb_R nb_P 190 0 [(20, l0), (0, nb_add l1 1), (0, l2), (0, nb_or l3 (nb_shl 1 l7)), (0, l7), (0, l8), (0, nb_add l6 l8), (98, 0), (98, 0)] [] M).bind fun r => nb_R nb_P 189 16 [(20, l0), (0, l1), (0, l2), (0, l3), (0, l4), (0, l5), (0, l6), (0, l7), (0, l8)] (r.1 ++ []) r.2 :=
  nb_stepC (c := true) (L2 := [(20, l0), (0, l1), (0, l2), (0, l3), (0, l4), (0, l5), (0, l6), (0, l7), (0, l8)]) (S2 := [(0, nb_add l6 l8), (0, l8), (0, l7), (0, nb_or l3 (nb_shl 1 l7)), (0, l2), (0, nb_add l1 1), (20, l0)]) (M2 := M) (t := 16) (cl := 190) (vi := true) rfl rfl (nb_inv_eq (n := 7) rfl rfl rfl rfl rfl rfl (fun _ => h1) rfl)
theorem q_m_rowFrom5_16 (l0 l1 l2 l3 l4 l5 l6 l7 : Int) (v8 : nb_V) (M : nb_M) :
    nb_R nb_P 189 16 [(20, l0), (0, l1), (0, l2), (0, l3), (0, l4), (0, l5), (0, l6), (0, l7), v8] [] M = nb_R nb_P 189 7 [(20, l0), (0, l1), (0, l2), (0, l3), (0, l4), (0, l5), (0, l6), (0, nb_add l7 1), v8] [] M :=
  nb_step (c := true) rfl rfl
theorem q_m_rowFrom5_17 (v0 v1 v2 v3 v4 v5 v6 v7 v8 : nb_V) (M : nb_M) :
    nb_R nb_P 189 17 [v0, v1, v2, v3, v4, v5, v6, v7, v8] [] M = some ([], M) :=
  nb_step (c := true) rfl rfl
theorem q_m_rowFrom7_0 (l0 l1 l2 l3 l4 l5 l6 : Int) (v7 v8 : nb_V) (M : nb_M) (h1 : l0 ≠ 0) :
    nb_R nb_P 191 0 [(20, l0), (0, l1), (0, l2), (0, l3), (0, l4), (0, l5), (0, l6), v7, v8] [] M = if l6 < nb_rd M l0 33 then nb_R nb_P 191 2 [(20, l0), (0, l1), (0, l2), (0, l3), (0, l4), (0, l5), (0, l6), v7, v8] [] M else nb_R nb_P 191 1 [(20, l0), (0, l1), (0, l2), (0, l3), (0, l4), (0, l5), (0, l6), v7, v8] [] M :=
  nb_step (c := (true && !decide ((l0 : Int) = 0))) rfl (by simp [h1])
theorem q_m_rowFrom7_1 (v0 v1 v2 v3 v4 v5 v6 v7 v8 : nb_V) (M : nb_M) :
    nb_R nb_P 191 1 [v0, v1, v2, v3, v4, v5, v6, v7, v8] [] M = some ([], M) :=
  nb_step (c := true) rfl rfl
theorem q_m_rowFrom7_2 (l0 l1 l2 l3 l4 l5 l6 : Int) (v7 v8 : nb_V) (M : nb_M) :
    nb_R nb_P 191 2 [(20, l0), (0, l1), (0, l2), (0, l3), (0, l4), (0, l5), (0, l6), v7, v8] [] M = if l1 = l2 then nb_R nb_P 191 3 [(20, l0), (0, l1), (0, l2), (0, l3), (0, l4), (0, l5), (0, l6), v7, v8] [] M else nb_R nb_P 191 6 [(20, l0), (0, l1), (0, l2), (0, l3), (0, l4), (0, l5), (0, l6), v7, v8] [] M :=
  nb_step (c := true) rfl rfl
theorem q_m_rowFrom7_3 (l0 l2 l6 : Int) (v1 v3 v4 v5 v7 v8 : nb_V) (M : nb_M) (h1 : l0 ≠ 0) :
    nb_R nb_P 191 3 [(20, l0), v1, (0, l2), v3, v4, v5, (0, l6), v7, v8] [] M = nb_R nb_P 191 4 [(20, l0), v1, (0, l2), v3, v4, v5, (0, l6), v7, v8] [] (nb_wr M l0 33 l6) :=
  nb_step (c := (true && (!decide ((l0 : Int) = 0) && (!false || (decide ((l6 : Int) = 0) || decide ((l6 : Int) = 1)))))) rfl (by simp [h1])
theorem q_m_rowFrom7_4 (l0 l2 : Int) (v1 v3 v4 v5 v6 v7 v8 : nb_V) (M : nb_M) (h1 : l0 ≠ 0) :
    nb_R nb_P 191 4 [(20, l0), v1, (0, l2), v3, v4, v5, v6, v7, v8] [] M = (nb_R nb_P 86 0 [(3, nb_rd M l0 31), (0, 0), (3, nb_rd M l0 32), (0, 0), (0, l2), (98, 0)] [] M).bind fun r => nb_R nb_P 191 5 [(20, l0), v1, (0, l2), v3, v4, v5, v6, v7, v8] (r.1 ++ []) r.2 :=
  nb_stepC (c := ((true && !decide ((l0 : Int) = 0)) && !decide ((l0 : Int) = 0))) (L2 := [(20, l0), v1, (0, l2), v3, v4, v5, v6, v7, v8]) (S2 := [(0, l2), (0, 0), (3, nb_rd M l0 32), (0, 0), (3, nb_rd M l0 31)]) (M2 := M) (t := 5) (cl := 86) (vi := false) rfl (by simp [h1]) (nb_inv_eq (n := 5) rfl rfl rfl rfl rfl rfl (fun h => by cases h) rfl)
theorem q_m_rowFrom7_5 (v0 v1 v2 v3 v4 v5 v6 v7 v8 : nb_V) (M : nb_M) :
    nb_R nb_P 191 5 [v0, v1, v2, v3, v4, v5, v6, v7, v8] [] M = some ([], M) :=
  nb_step (c := true) rfl rfl
theorem q_m_rowFrom7_6 (l0 l1 l2 l3 l4 l5 l6 : Int) (v7 v8 : nb_V) (M : nb_M) :
    nb_R nb_P 191 6 [(20, l0), (0, l1), (0, l2), (0, l3), (0, l4), (0, l5), (0, l6), v7, v8] [] M = nb_R nb_P 191 7 [(20, l0), (0, l1), (0, l2), (0, l3), (0, l4), (0, l5), (0, l6), (0, 0), v8] [] M :=
  nb_step (c := true) rfl rfl
theorem q_m_rowFrom7_7 (l0 l1 l2 l3 l4 l5 l6 l7 : Int) (v8 : nb_V) (M : nb_M) (h1 : l0 ≠ 0) (h2 : (nb_rd M l0 15) ≠ 0) (h3 : (0 : Int) ≤ 5) (h4 : 5 < nb_ln M (nb_rd M l0 15)) :
    nb_R nb_P 191 7 [(20, l0), (0, l1), (0, l2), (0, l3), (0, l4), (0, l5), (0, l6), (0, l7), v8] [] M = if l7 < nb_rd M (nb_rd M l0 15) 5 then nb_R nb_P 191 8 [(20, l0), (0, l1), (0, l2), (0, l3), (0, l4), (0, l5), (0, l6), (0, l7), v8] [] M else nb_R nb_P 191 17 [(20, l0), (0, l1), (0, l2), (0, l3), (0, l4), (0, l5), (0, l6), (0, l7), v8] [] M :=
  nb_step (c := ((true && !decide ((l0 : Int) = 0)) && (!decide ((nb_rd M l0 15 : Int) = 0) && (decide ((0 : Int) ≤ 5) && decide (5 < nb_ln M (nb_rd M l0 15)))))) rfl (by simp [h1, h2, h3, h4])
theorem q_m_rowFrom7_8 (l0 l1 l2 l3 l4 l5 l6 l7 : Int) (v8 : nb_V) (M : nb_M) :
    nb_R nb_P 191 8 [(20, l0), (0, l1), (0, l2), (0, l3), (0, l4), (0, l5), (0, l6), (0, l7), v8] [] M = (nb_R nb_P 84 0 [(0, l3), (0, l7)] [] M).bind fun r => nb_R nb_P 191 9 [(20, l0), (0, l1), (0, l2), (0, l3), (0, l4), (0, l5), (0, l6), (0, l7), v8] (r.1 ++ []) r.2 :=
  nb_stepC (c := true) (L2 := [(20, l0), (0, l1), (0, l2), (0, l3), (0, l4), (0, l5), (0, l6), (0, l7), v8]) (S2 := [(0, l7), (0, l3)]) (M2 := M) (t := 9) (cl := 84) (vi := false) rfl rfl (nb_inv_eq (n := 2) rfl rfl rfl rfl rfl rfl (fun h => by cases h) rfl)
theorem q_m_rowFrom7_9 (l0 l1 l2 l3 l4 l5 l6 l7 s0 : Int) (v8 : nb_V) (M : nb_M) :
    nb_R nb_P 191 9 [(20, l0), (0, l1), (0, l2), (0, l3), (0, l4), (0, l5), (0, l6), (0, l7), v8] [(0, s0)] M = if s0 = 0 then nb_R nb_P 191 10 [(20, l0), (0, l1), (0, l2), (0, l3), (0, l4), (0, l5), (0, l6), (0, l7), v8] [] M else nb_R nb_P 191 16 [(20, l0), (0, l1), (0, l2), (0, l3), (0, l4), (0, l5), (0, l6), (0, l7), v8] [] M :=
  nb_step (c := true) rfl rfl
theorem q_m_rowFrom7_10 (l0 l1 l2 l3 l4 l5 l6 l7 : Int) (v8 : nb_V) (M : nb_M) (h1 : l0 ≠ 0) :
    nb_R nb_P 191 10 [(20, l0), (0, l1), (0, l2), (0, l3), (0, l4), (0, l5), (0, l6), (0, l7), v8] [] M = (nb_R nb_P 126 0 [(3, nb_rd M l0 17), (0, l7)] [] M).bind fun r => nb_R nb_P 191 11 [(20, l0), (0, l1), (0, l2), (0, l3), (0, l4), (0, l5), (0, l6), (0, l7), v8] (r.1 ++ []) r.2 :=
  nb_stepC (c := (true && !decide ((l0 : Int) = 0))) (L2 := [(20, l0), (0, l1), (0, l2), (0, l3), (0, l4), (0, l5), (0, l6), (0, l7), v8]) (S2 := [(0, l7), (3, nb_rd M l0 17)]) (M2 := M) (t := 11) (cl := 126) (vi := false) rfl (by simp [h1]) (nb_inv_eq (n := 2) rfl rfl rfl rfl rfl rfl (fun h => by cases h) rfl)
theorem q_m_rowFrom7_11 (l0 l1 l2 l3 l4 l5 l6 l7 s0 : Int) (v8 : nb_V) (M : nb_M) :
    nb_R nb_P 191 11 [(20, l0), (0, l1), (0, l2), (0, l3), (0, l4), (0, l5), (0, l6), (0, l7), v8] [(0, s0)] M = if s0 = 0 then nb_R nb_P 191 12 [(20, l0), (0, l1), (0, l2), (0, l3), (0, l4), (0, l5), (0, l6), (0, l7), v8] [] M else nb_R nb_P 191 13 [(20, l0), (0, l1), (0, l2), (0, l3), (0, l4), (0, l5), (0, l6), (0, l7), v8] [] M :=
  nb_step (c := true) rfl rfl
theorem q_m_rowFrom7_12 (l0 l1 l2 l3 l4 l5 l6 l7 : Int) (v8 : nb_V) (M : nb_M) :
    nb_R nb_P 191 12 [(20, l0), (0, l1), (0, l2), (0, l3), (0, l4), (0, l5), (0, l6), (0, l7), v8] [] M = nb_R nb_P 191 16 [(20, l0), (0, l1), (0, l2), (0, l3), (0, l4), (0, l5), (0, l6), (0, l7), v8] [] M :=
  nb_step (c := true) rfl rfl
theorem q_m_rowFrom7_13 (l0 l1 l2 l3 l4 l5 l6 l7 : Int) (v8 : nb_V) (M : nb_M) (h1 : l0 ≠ 0) :
    nb_R nb_P 191 13 [(20, l0), (0, l1), (0, l2), (0, l3), (0, l4), (0, l5), (0, l6), (0, l7), v8] [] M = (nb_R nb_P 129 0 [(20, l0), (0, l4), (0, l7), (98, 0), (98, 0), (98, 0), (98, 0)] [] M).bind fun r => nb_R nb_P 191 14 [(20, l0), (0, l1), (0, l2), (0, l3), (0, l4), (0, l5), (0, l6), (0, l7), v8] (r.1 ++ [(0, l5)]) r.2 :=
  nb_stepC (c := true) (L2 := [(20, l0), (0, l1), (0, l2), (0, l3), (0, l4), (0, l5), (0, l6), (0, l7), v8]) (S2 := [(0, l7), (0, l4), (20, l0), (0, l5)]) (M2 := M) (t := 14) (cl := 129) (vi := true) rfl rfl (nb_inv_eq (n := 3) rfl rfl rfl rfl rfl rfl (fun _ => h1) rfl)
theorem q_m_rowFrom7_14 (l0 l1 l2 l3 l4 l5 l6 l7 s0 s1 : Int) (v8 : nb_V) (M : nb_M) (h1 : l0 ≠ 0) (h2 : (nb_rd M l0 31) ≠ 0) (h3 : (nb_rd M l0 31) ≠ 1) (h4 : (0 : Int) ≤ l1) (h5 : l1 < nb_ln M (nb_rd M l0 31)) :
    nb_R nb_P 191 14 [(20, l0), (0, l1), (0, l2), (0, l3), (0, l4), (0, l5), (0, l6), (0, l7), v8] [(0, s0), (0, s1)] M = nb_R nb_P 191 15 [(20, l0), (0, l1), (0, l2), (0, l3), (0, l4), (0, l5), (0, l6), (0, l7), (0, nb_add s1 s0)] [] (nb_wr M (nb_rd M l0 31) l1 l7) :=
  nb_step (c := ((true && !decide ((l0 : Int) = 0)) && (!decide ((nb_rd M l0 31 : Int) = 0) && (!decide ((nb_rd M l0 31 : Int) = 1) && (decide ((0 : Int) ≤ l1) && decide (l1 < nb_ln M (nb_rd M l0 31))))))) rfl (by simp [h1, h2, h3, h4, h5])
theorem q_m_rowFrom7_16 (l0 l1 l2 l3 l4 l5 l6 l7 : Int) (v8 : nb_V) (M : nb_M) :
    nb_R nb_P 191 16 [(20, l0), (0, l1), (0, l2), (0, l3), (0, l4), (0, l5), (0, l6), (0, l7), v8] [] M = nb_R nb_P 191 7 [(20, l0), (0, l1), (0, l2), (0, l3), (0, l4), (0, l5), (0, l6), (0, nb_add l7 1), v8] [] M :=
  nb_step (c := true) rfl rfl
theorem q_m_rowFrom7_17 (v0 v1 v2 v3 v4 v5 v6 v7 v8 : nb_V) (M : nb_M) :
    nb_R nb_P 191 17 [v0, v1, v2, v3, v4, v5, v6, v7, v8] [] M = some ([], M) :=
  nb_step (c := true) rfl rfl
theorem q_m_row_0 (l0 l1 l2 : Int) (v3 : nb_V) (M : nb_M) (h1 : l0 ≠ 0) :
    nb_R nb_P 193 0 [(20, l0), (0, l1), (0, l2), v3] [] M = (nb_R nb_P 79 0 [(20, l0)] [] M).bind fun r => nb_R nb_P 193 1 [(20, l0), (0, l1), (0, l2), v3] (r.1 ++ []) r.2 :=
  nb_stepC (c := true) (L2 := [(20, l0), (0, l1), (0, l2), v3]) (S2 := [(20, l0)]) (M2 := M) (t := 1) (cl := 79) (vi := true) rfl rfl (nb_inv_eq (n := 1) rfl rfl rfl rfl rfl rfl (fun _ => h1) rfl)
theorem q_m_row_1 (l0 l1 l2 : Int) (v3 : nb_V) (M : nb_M) (h1 : l0 ≠ 0) :
    nb_R nb_P 193 1 [(20, l0), (0, l1), (0, l2), v3] [] M = (nb_R nb_P 117 0 [(20, l0), (0, l1)] [] M).bind fun r => nb_R nb_P 193 2 [(20, l0), (0, l1), (0, l2), v3] (r.1 ++ []) r.2 :=
  nb_stepC (c := true) (L2 := [(20, l0), (0, l1), (0, l2), v3]) (S2 := [(0, l1), (20, l0)]) (M2 := M) (t := 2) (cl := 117) (vi := true) rfl rfl (nb_inv_eq (n := 2) rfl rfl rfl rfl rfl rfl (fun _ => h1) rfl)
theorem q_m_row_2 (l0 l1 l2 s0 : Int) (v3 : nb_V) (M : nb_M) :
    nb_R nb_P 193 2 [(20, l0), (0, l1), (0, l2), v3] [(0, s0)] M = if s0 = 0 then nb_R nb_P 193 6 [(20, l0), (0, l1), (0, l2), v3] [] M else nb_R nb_P 193 3 [(20, l0), (0, l1), (0, l2), v3] [] M :=
  nb_step (c := true) rfl rfl
theorem q_m_row_3 (l0 l1 l2 : Int) (v3 : nb_V) (M : nb_M) (h1 : l0 ≠ 0) :
    nb_R nb_P 193 3 [(20, l0), (0, l1), (0, l2), v3] [] M = (nb_R nb_P 145 0 [(20, l0), (3, nb_rd M l0 17), (98, 0), (98, 0)] [] M).bind fun r => nb_R nb_P 193 4 [(20, l0), (0, l1), (0, l2), v3] (r.1 ++ [(0, 0), (0, l2)]) r.2 :=
  nb_stepC (c := (true && !decide ((l0 : Int) = 0))) (L2 := [(20, l0), (0, l1), (0, l2), v3]) (S2 := [(3, nb_rd M l0 17), (20, l0), (0, 0), (0, l2)]) (M2 := M) (t := 4) (cl := 145) (vi := true) rfl (by simp [h1]) (nb_inv_eq (n := 2) rfl rfl rfl rfl rfl rfl (fun _ => h1) rfl)
theorem q_m_row_4 (l0 l1 l2 s0 s1 s2 : Int) (v3 : nb_V) (M : nb_M) :
    nb_R nb_P 193 4 [(20, l0), (0, l1), (0, l2), v3] [(0, s0), (0, s1), (0, s2)] M = (nb_R nb_P 83 0 [(0, s2), (0, s1), (0, nb_sub s0 1)] [] M).bind fun r => nb_R nb_P 193 5 [(20, l0), (0, l1), (0, l2), v3] (r.1 ++ []) r.2 :=
  nb_stepC (c := true) (L2 := [(20, l0), (0, l1), (0, l2), v3]) (S2 := [(0, nb_sub s0 1), (0, s1), (0, s2)]) (M2 := M) (t := 5) (cl := 83) (vi := false) rfl rfl (nb_inv_eq (n := 3) rfl rfl rfl rfl rfl rfl (fun h => by cases h) rfl)
theorem q_m_row_5 (l0 l1 l2 s0 : Int) (v3 : nb_V) (M : nb_M) :
    nb_R nb_P 193 5 [(20, l0), (0, l1), (0, l2), v3] [(0, s0)] M = if s0 = 0 then nb_R nb_P 193 6 [(20, l0), (0, l1), (0, l2), v3] [] M else nb_R nb_P 193 8 [(20, l0), (0, l1), (0, l2), v3] [] M :=
  nb_step (c := true) rfl rfl
theorem q_m_row_6 (l0 : Int) (v1 v2 v3 : nb_V) (M : nb_M) (h1 : l0 ≠ 0) :
    nb_R nb_P 193 6 [(20, l0), v1, v2, v3] [] M = (nb_R nb_P 80 0 [(20, l0), (0, 1)] [] M).bind fun r => nb_R nb_P 193 7 [(20, l0), v1, v2, v3] (r.1 ++ []) r.2 :=
  nb_stepC (c := true) (L2 := [(20, l0), v1, v2, v3]) (S2 := [(0, 1), (20, l0)]) (M2 := M) (t := 7) (cl := 80) (vi := true) rfl rfl (nb_inv_eq (n := 2) rfl rfl rfl rfl rfl rfl (fun _ => h1) rfl)
theorem q_m_row_7 (s0 : Int) (v0 v1 v2 v3 : nb_V) (M : nb_M) :
    nb_R nb_P 193 7 [v0, v1, v2, v3] [(0, s0)] M = some ([(0, s0)], M) :=
  nb_step (c := true) rfl rfl
theorem q_m_row_8 (l0 l1 l2 : Int) (v3 : nb_V) (M : nb_M) (h1 : l0 ≠ 0) :
    nb_R nb_P 193 8 [(20, l0), (0, l1), (0, l2), v3] [] M = (nb_R nb_P 192 0 [(20, l0), (0, l1), (98, 0)] [] M).bind fun r => nb_R nb_P 193 9 [(20, l0), (0, l1), (0, l2), v3] (r.1 ++ []) r.2 :=
  nb_stepC (c := true) (L2 := [(20, l0), (0, l1), (0, l2), v3]) (S2 := [(0, l1), (20, l0)]) (M2 := M) (t := 9) (cl := 192) (vi := true) rfl rfl (nb_inv_eq (n := 2) rfl rfl rfl rfl rfl rfl (fun _ => h1) rfl)
theorem q_m_row_9 (l0 l2 s0 : Int) (v1 v3 : nb_V) (M : nb_M) :
    nb_R nb_P 193 9 [(20, l0), v1, (0, l2), v3] [(0, s0)] M = if s0 = 0 then nb_R nb_P 193 12 [(20, l0), v1, (0, l2), (0, s0)] [] M else nb_R nb_P 193 10 [(20, l0), v1, (0, l2), (0, s0)] [] M :=
  nb_step (c := true) rfl rfl
theorem q_m_row_10 (l0 l3 : Int) (v1 v2 : nb_V) (M : nb_M) (h1 : l0 ≠ 0) :
    nb_R nb_P 193 10 [(20, l0), v1, v2, (0, l3)] [] M = (nb_R nb_P 80 0 [(20, l0), (0, l3)] [] M).bind fun r => nb_R nb_P 193 11 [(20, l0), v1, v2, (0, l3)] (r.1 ++ []) r.2 :=
  nb_stepC (c := true) (L2 := [(20, l0), v1, v2, (0, l3)]) (S2 := [(0, l3), (20, l0)]) (M2 := M) (t := 11) (cl := 80) (vi := true) rfl rfl (nb_inv_eq (n := 2) rfl rfl rfl rfl rfl rfl (fun _ => h1) rfl)
theorem q_m_row_11 (s0 : Int) (v0 v1 v2 v3 : nb_V) (M : nb_M) :
    nb_R nb_P 193 11 [v0, v1, v2, v3] [(0, s0)] M = nb_R nb_P 193 13 [v0, v1, v2, v3] [(0, s0)] M :=
  nb_step (c := true) rfl rfl
theorem q_m_row_12 (l0 l2 : Int) (v1 v3 : nb_V) (M : nb_M) (h1 : l0 ≠ 0) (h2 : (nb_rd M l0 32) ≠ 0) (h3 : (0 : Int) ≤ l2) (h4 : l2 < nb_ln M (nb_rd M l0 32)) :
    nb_R nb_P 193 12 [(20, l0), v1, (0, l2), v3] [] M = nb_R nb_P 193 13 [(20, l0), v1, (0, l2), v3] [(0, nb_rd M (nb_rd M l0 32) l2)] M :=
  nb_step (c := ((true && !decide ((l0 : Int) = 0)) && (!decide ((nb_rd M l0 32 : Int) = 0) && (decide ((0 : Int) ≤ l2) && decide (l2 < nb_ln M (nb_rd M l0 32)))))) rfl (by simp [h1, h2, h3, h4])
theorem q_m_row_13 (s0 : Int) (v0 v1 v2 v3 : nb_V) (M : nb_M) :
    nb_R nb_P 193 13 [v0, v1, v2, v3] [(0, s0)] M = some ([(0, s0)], M) :=
  nb_step (c := true) rfl rfl
theorem q_m_layTellings_0 (l0 l1 : Int) (v2 v3 v4 : nb_V) (M : nb_M) :
    nb_R nb_P 195 0 [(20, l0), (0, l1), v2, v3, v4] [] M = nb_R nb_P 195 1 [(20, l0), (0, l1), (0, 0), v3, v4] [] M :=
  nb_step (c := true) rfl rfl
theorem q_m_layTellings_1 (l0 l1 l2 : Int) (v3 v4 : nb_V) (M : nb_M) :
    nb_R nb_P 195 1 [(20, l0), (0, l1), (0, l2), v3, v4] [] M = if l2 < 100 then nb_R nb_P 195 2 [(20, l0), (0, l1), (0, l2), v3, v4] [] M else nb_R nb_P 195 4 [(20, l0), (0, l1), (0, l2), v3, v4] [] M :=
  nb_step (c := true) rfl rfl
theorem q_m_layTellings_2 (l0 l1 l2 : Int) (v3 v4 : nb_V) (M : nb_M) (h1 : l0 ≠ 0) (h2 : (nb_rd M l0 34) ≠ 0) (h3 : (nb_rd M l0 34) ≠ 1) (h4 : (0 : Int) ≤ l2) (h5 : l2 < nb_ln M (nb_rd M l0 34)) :
    nb_R nb_P 195 2 [(20, l0), (0, l1), (0, l2), v3, v4] [] M = nb_R nb_P 195 3 [(20, l0), (0, l1), (0, l2), v3, v4] [] (nb_wr M (nb_rd M l0 34) l2 (nb_i2z 0)) :=
  nb_step (c := ((true && !decide ((l0 : Int) = 0)) && (!decide ((nb_rd M l0 34 : Int) = 0) && (!decide ((nb_rd M l0 34 : Int) = 1) && (decide ((0 : Int) ≤ l2) && decide (l2 < nb_ln M (nb_rd M l0 34))))))) rfl (by simp [h1, h2, h3, h4, h5])
theorem q_m_layTellings_3 (l0 l1 l2 : Int) (v3 v4 : nb_V) (M : nb_M) :
    nb_R nb_P 195 3 [(20, l0), (0, l1), (0, l2), v3, v4] [] M = nb_R nb_P 195 1 [(20, l0), (0, l1), (0, nb_add l2 1), v3, v4] [] M :=
  nb_step (c := true) rfl rfl
theorem q_m_layTellings_4 (l0 l1 : Int) (v2 v3 v4 : nb_V) (M : nb_M) :
    nb_R nb_P 195 4 [(20, l0), (0, l1), v2, v3, v4] [] M = nb_R nb_P 195 5 [(20, l0), (0, l1), (0, 0), v3, v4] [] M :=
  nb_step (c := true) rfl rfl
theorem q_m_layTellings_5 (l0 l1 l2 : Int) (v3 v4 : nb_V) (M : nb_M) (h1 : l0 ≠ 0) (h2 : (nb_rd M l0 15) ≠ 0) (h3 : (0 : Int) ≤ 7) (h4 : 7 < nb_ln M (nb_rd M l0 15)) :
    nb_R nb_P 195 5 [(20, l0), (0, l1), (0, l2), v3, v4] [] M = if l2 < nb_rd M (nb_rd M l0 15) 7 then nb_R nb_P 195 6 [(20, l0), (0, l1), (0, l2), v3, v4] [] M else nb_R nb_P 195 10 [(20, l0), (0, l1), (0, l2), v3, v4] [] M :=
  nb_step (c := ((true && !decide ((l0 : Int) = 0)) && (!decide ((nb_rd M l0 15 : Int) = 0) && (decide ((0 : Int) ≤ 7) && decide (7 < nb_ln M (nb_rd M l0 15)))))) rfl (by simp [h1, h2, h3, h4])
theorem q_m_layTellings_6 (l0 l1 l2 : Int) (v3 v4 : nb_V) (M : nb_M) (h1 : l0 ≠ 0) (h2 : (nb_rd M l0 15) ≠ 0) (h3 : (0 : Int) ≤ nb_add 161 (nb_mul 3 l2)) (h4 : nb_add 161 (nb_mul 3 l2) < nb_ln M (nb_rd M l0 15)) :
    nb_R nb_P 195 6 [(20, l0), (0, l1), (0, l2), v3, v4] [] M = (nb_R nb_P 84 0 [(0, l1), (0, nb_rd M (nb_rd M l0 15) (nb_add 161 (nb_mul 3 l2)))] [] M).bind fun r => nb_R nb_P 195 7 [(20, l0), (0, l1), (0, l2), v3, v4] (r.1 ++ []) r.2 :=
  nb_stepC (c := ((true && !decide ((l0 : Int) = 0)) && (!decide ((nb_rd M l0 15 : Int) = 0) && (decide ((0 : Int) ≤ nb_add 161 (nb_mul 3 l2)) && decide (nb_add 161 (nb_mul 3 l2) < nb_ln M (nb_rd M l0 15)))))) (L2 := [(20, l0), (0, l1), (0, l2), v3, v4]) (S2 := [(0, nb_rd M (nb_rd M l0 15) (nb_add 161 (nb_mul 3 l2))), (0, l1)]) (M2 := M) (t := 7) (cl := 84) (vi := false) rfl (by simp [h1, h2, h3, h4]) (nb_inv_eq (n := 2) rfl rfl rfl rfl rfl rfl (fun h => by cases h) rfl)
theorem q_m_layTellings_7 (l0 l1 l2 s0 : Int) (v3 v4 : nb_V) (M : nb_M) :
    nb_R nb_P 195 7 [(20, l0), (0, l1), (0, l2), v3, v4] [(0, s0)] M = if s0 = 0 then nb_R nb_P 195 8 [(20, l0), (0, l1), (0, l2), v3, v4] [] M else nb_R nb_P 195 9 [(20, l0), (0, l1), (0, l2), v3, v4] [] M :=
  nb_step (c := true) rfl rfl
set_option maxRecDepth 10000 in
theorem q_m_layTellings_8 (l0 l1 l2 : Int) (v3 v4 : nb_V) (M : nb_M) (h1 : l0 ≠ 0) (h2 : (nb_rd M l0 15) ≠ 0) (h3 : (0 : Int) ≤ nb_add (nb_add 161 (nb_mul 3 l2)) 1) (h4 : nb_add (nb_add 161 (nb_mul 3 l2)) 1 < nb_ln M (nb_rd M l0 15)) (h5 : (0 : Int) ≤ nb_add (nb_add 161 (nb_mul 3 l2)) 2) (h6 : nb_add (nb_add 161 (nb_mul 3 l2)) 2 < nb_ln M (nb_rd M l0 15)) (h7 : (nb_rd M l0 34) ≠ 0) (h8 : (nb_rd M l0 34) ≠ 1) (h9 : (0 : Int) ≤ nb_add (nb_mul 10 (nb_rd M (nb_rd M l0 15) (nb_add (nb_add 161 (nb_mul 3 l2)) 1))) (nb_rd M (nb_rd M l0 15) (nb_add (nb_add 161 (nb_mul 3 l2)) 2))) (h10 : nb_add (nb_mul 10 (nb_rd M (nb_rd M l0 15) (nb_add (nb_add 161 (nb_mul 3 l2)) 1))) (nb_rd M (nb_rd M l0 15) (nb_add (nb_add 161 (nb_mul 3 l2)) 2)) < nb_ln M (nb_rd M l0 34)) :
    nb_R nb_P 195 8 [(20, l0), (0, l1), (0, l2), v3, v4] [] M = nb_R nb_P 195 9 [(20, l0), (0, l1), (0, l2), v3, v4] [] (nb_wr M (nb_rd M l0 34) (nb_add (nb_mul 10 (nb_rd M (nb_rd M l0 15) (nb_add (nb_add 161 (nb_mul 3 l2)) 1))) (nb_rd M (nb_rd M l0 15) (nb_add (nb_add 161 (nb_mul 3 l2)) 2))) (nb_i2z 1)) :=
  nb_step (c := ((((((true && !decide ((l0 : Int) = 0)) && !decide ((l0 : Int) = 0)) && (!decide ((nb_rd M l0 15 : Int) = 0) && (decide ((0 : Int) ≤ nb_add (nb_add 161 (nb_mul 3 l2)) 1) && decide (nb_add (nb_add 161 (nb_mul 3 l2)) 1 < nb_ln M (nb_rd M l0 15))))) && !decide ((l0 : Int) = 0)) && (!decide ((nb_rd M l0 15 : Int) = 0) && (decide ((0 : Int) ≤ nb_add (nb_add 161 (nb_mul 3 l2)) 2) && decide (nb_add (nb_add 161 (nb_mul 3 l2)) 2 < nb_ln M (nb_rd M l0 15))))) && (!decide ((nb_rd M l0 34 : Int) = 0) && (!decide ((nb_rd M l0 34 : Int) = 1) && (decide ((0 : Int) ≤ nb_add (nb_mul 10 (nb_rd M (nb_rd M l0 15) (nb_add (nb_add 161 (nb_mul 3 l2)) 1))) (nb_rd M (nb_rd M l0 15) (nb_add (nb_add 161 (nb_mul 3 l2)) 2))) && decide (nb_add (nb_mul 10 (nb_rd M (nb_rd M l0 15) (nb_add (nb_add 161 (nb_mul 3 l2)) 1))) (nb_rd M (nb_rd M l0 15) (nb_add (nb_add 161 (nb_mul 3 l2)) 2)) < nb_ln M (nb_rd M l0 34))))))) rfl (by simp [h1, h2, h3, h4, h5, h6, h7, h8, h9, h10])
theorem q_m_layTellings_9 (l0 l1 l2 : Int) (v3 v4 : nb_V) (M : nb_M) :
    nb_R nb_P 195 9 [(20, l0), (0, l1), (0, l2), v3, v4] [] M = nb_R nb_P 195 5 [(20, l0), (0, l1), (0, nb_add l2 1), v3, v4] [] M :=
  nb_step (c := true) rfl rfl
theorem q_m_layTellings_10 (l0 : Int) (v1 v2 v3 v4 : nb_V) (M : nb_M) :
    nb_R nb_P 195 10 [(20, l0), v1, v2, v3, v4] [] M = nb_R nb_P 195 11 [(20, l0), nb_clr v1, (0, 0), v3, v4] [] M :=
  nb_step (c := true) rfl rfl
theorem q_m_layTellings_11 (l0 l2 : Int) (v1 v3 v4 : nb_V) (M : nb_M) :
    nb_R nb_P 195 11 [(20, l0), v1, (0, l2), v3, v4] [] M = if l2 < 10 then nb_R nb_P 195 12 [(20, l0), v1, (0, l2), v3, v4] [] M else nb_R nb_P 195 25 [(20, l0), v1, (0, l2), v3, v4] [] M :=
  nb_step (c := true) rfl rfl
theorem q_m_layTellings_12 (l0 l2 : Int) (v1 v3 v4 : nb_V) (M : nb_M) :
    nb_R nb_P 195 12 [(20, l0), v1, (0, l2), v3, v4] [] M = nb_R nb_P 195 13 [(20, l0), v1, (0, l2), (0, 0), v4] [] M :=
  nb_step (c := true) rfl rfl
theorem q_m_layTellings_13 (l0 l2 l3 : Int) (v1 v4 : nb_V) (M : nb_M) :
    nb_R nb_P 195 13 [(20, l0), v1, (0, l2), (0, l3), v4] [] M = if l3 < 10 then nb_R nb_P 195 14 [(20, l0), v1, (0, l2), (0, l3), v4] [] M else nb_R nb_P 195 24 [(20, l0), v1, (0, l2), (0, l3), v4] [] M :=
  nb_step (c := true) rfl rfl
theorem q_m_layTellings_14 (l0 l2 l3 : Int) (v1 v4 : nb_V) (M : nb_M) :
    nb_R nb_P 195 14 [(20, l0), v1, (0, l2), (0, l3), v4] [] M = nb_R nb_P 195 15 [(20, l0), v1, (0, l2), (0, l3), (0, 0)] [] M :=
  nb_step (c := true) rfl rfl
theorem q_m_layTellings_15 (l0 l2 l3 l4 : Int) (v1 : nb_V) (M : nb_M) :
    nb_R nb_P 195 15 [(20, l0), v1, (0, l2), (0, l3), (0, l4)] [] M = if l4 < 10 then nb_R nb_P 195 16 [(20, l0), v1, (0, l2), (0, l3), (0, l4)] [] M else nb_R nb_P 195 23 [(20, l0), v1, (0, l2), (0, l3), (0, l4)] [] M :=
  nb_step (c := true) rfl rfl
theorem q_m_layTellings_16 (l0 l2 l3 l4 : Int) (v1 : nb_V) (M : nb_M) (h1 : l0 ≠ 0) (h2 : (nb_rd M l0 34) ≠ 0) (h3 : (0 : Int) ≤ nb_add (nb_mul 10 l3) l4) (h4 : nb_add (nb_mul 10 l3) l4 < nb_ln M (nb_rd M l0 34)) :
    nb_R nb_P 195 16 [(20, l0), v1, (0, l2), (0, l3), (0, l4)] [] M = if nb_rd M (nb_rd M l0 34) (nb_add (nb_mul 10 l3) l4) = 0 then nb_R nb_P 195 17 [(20, l0), v1, (0, l2), (0, l3), (0, l4)] [(0, nb_add (nb_mul 10 l3) l4), (6, nb_rd M l0 34)] M else nb_R nb_P 195 19 [(20, l0), v1, (0, l2), (0, l3), (0, l4)] [(0, nb_add (nb_mul 10 l3) l4), (6, nb_rd M l0 34)] M :=
  nb_step (c := (((true && !decide ((l0 : Int) = 0)) && !decide ((l0 : Int) = 0)) && (!decide ((nb_rd M l0 34 : Int) = 0) && (decide ((0 : Int) ≤ nb_add (nb_mul 10 l3) l4) && decide (nb_add (nb_mul 10 l3) l4 < nb_ln M (nb_rd M l0 34)))))) rfl (by simp [h1, h2, h3, h4])
theorem q_m_layTellings_17 (l0 l2 l3 l4 s0 s1 : Int) (v1 : nb_V) (M : nb_M) (h1 : l0 ≠ 0) (h2 : (nb_rd M l0 34) ≠ 0) (h3 : (0 : Int) ≤ nb_add (nb_mul 10 l3) l2) (h4 : nb_add (nb_mul 10 l3) l2 < nb_ln M (nb_rd M l0 34)) :
    nb_R nb_P 195 17 [(20, l0), v1, (0, l2), (0, l3), (0, l4)] [(0, s0), (6, s1)] M = if nb_rd M (nb_rd M l0 34) (nb_add (nb_mul 10 l3) l2) = 0 then nb_R nb_P 195 20 [(20, l0), v1, (0, l2), (0, l3), (0, l4)] [(0, s0), (6, s1)] M else nb_R nb_P 195 18 [(20, l0), v1, (0, l2), (0, l3), (0, l4)] [(0, s0), (6, s1)] M :=
  nb_step (c := ((true && !decide ((l0 : Int) = 0)) && (!decide ((nb_rd M l0 34 : Int) = 0) && (decide ((0 : Int) ≤ nb_add (nb_mul 10 l3) l2) && decide (nb_add (nb_mul 10 l3) l2 < nb_ln M (nb_rd M l0 34)))))) rfl (by simp [h1, h2, h3, h4])
theorem q_m_layTellings_18 (l0 l2 l3 l4 s0 s1 : Int) (v1 : nb_V) (M : nb_M) (h1 : l0 ≠ 0) (h2 : (nb_rd M l0 34) ≠ 0) (h3 : (0 : Int) ≤ nb_add (nb_mul 10 l2) l4) (h4 : nb_add (nb_mul 10 l2) l4 < nb_ln M (nb_rd M l0 34)) :
    nb_R nb_P 195 18 [(20, l0), v1, (0, l2), (0, l3), (0, l4)] [(0, s0), (6, s1)] M = if nb_rd M (nb_rd M l0 34) (nb_add (nb_mul 10 l2) l4) = 0 then nb_R nb_P 195 20 [(20, l0), v1, (0, l2), (0, l3), (0, l4)] [(0, s0), (6, s1)] M else nb_R nb_P 195 19 [(20, l0), v1, (0, l2), (0, l3), (0, l4)] [(0, s0), (6, s1)] M :=
  nb_step (c := ((true && !decide ((l0 : Int) = 0)) && (!decide ((nb_rd M l0 34 : Int) = 0) && (decide ((0 : Int) ≤ nb_add (nb_mul 10 l2) l4) && decide (nb_add (nb_mul 10 l2) l4 < nb_ln M (nb_rd M l0 34)))))) rfl (by simp [h1, h2, h3, h4])
theorem q_m_layTellings_19 (l0 l2 l3 l4 s0 s1 : Int) (v1 : nb_V) (M : nb_M) :
    nb_R nb_P 195 19 [(20, l0), v1, (0, l2), (0, l3), (0, l4)] [(0, s0), (6, s1)] M = nb_R nb_P 195 21 [(20, l0), v1, (0, l2), (0, l3), (0, l4)] [(0, 1), (0, s0), (6, s1)] M :=
  nb_step (c := true) rfl rfl
theorem q_m_layTellings_20 (l0 l2 l3 l4 s0 s1 : Int) (v1 : nb_V) (M : nb_M) :
    nb_R nb_P 195 20 [(20, l0), v1, (0, l2), (0, l3), (0, l4)] [(0, s0), (6, s1)] M = nb_R nb_P 195 21 [(20, l0), v1, (0, l2), (0, l3), (0, l4)] [(0, 0), (0, s0), (6, s1)] M :=
  nb_step (c := true) rfl rfl
theorem q_m_layTellings_21 (l0 l2 l3 l4 s0 s1 s2 : Int) (v1 : nb_V) (M : nb_M) (h1 : s2 ≠ 0) (h2 : s2 ≠ 1) (h3 : (0 : Int) ≤ s1) (h4 : s1 < nb_ln M s2) :
    nb_R nb_P 195 21 [(20, l0), v1, (0, l2), (0, l3), (0, l4)] [(0, s0), (0, s1), (6, s2)] M = nb_R nb_P 195 22 [(20, l0), v1, (0, l2), (0, l3), (0, l4)] [] (nb_wr M s2 s1 (nb_i2z s0)) :=
  nb_step (c := (true && (!decide ((s2 : Int) = 0) && (!decide ((s2 : Int) = 1) && (decide ((0 : Int) ≤ s1) && decide (s1 < nb_ln M s2)))))) rfl (by simp [h1, h2, h3, h4])
theorem q_m_layTellings_22 (l0 l2 l3 l4 : Int) (v1 : nb_V) (M : nb_M) :
    nb_R nb_P 195 22 [(20, l0), v1, (0, l2), (0, l3), (0, l4)] [] M = nb_R nb_P 195 15 [(20, l0), v1, (0, l2), (0, l3), (0, nb_add l4 1)] [] M :=
  nb_step (c := true) rfl rfl
theorem q_m_layTellings_23 (l0 l2 l3 : Int) (v1 v4 : nb_V) (M : nb_M) :
    nb_R nb_P 195 23 [(20, l0), v1, (0, l2), (0, l3), v4] [] M = nb_R nb_P 195 13 [(20, l0), v1, (0, l2), (0, nb_add l3 1), v4] [] M :=
  nb_step (c := true) rfl rfl
theorem q_m_layTellings_24 (l0 l2 : Int) (v1 v3 v4 : nb_V) (M : nb_M) :
    nb_R nb_P 195 24 [(20, l0), v1, (0, l2), v3, v4] [] M = nb_R nb_P 195 11 [(20, l0), nb_clr v1, (0, nb_add l2 1), v3, v4] [] M :=
  nb_step (c := true) rfl rfl
theorem q_m_layTellings_25 (l0 : Int) (v1 v2 v3 v4 : nb_V) (M : nb_M) :
    nb_R nb_P 195 25 [(20, l0), v1, v2, v3, v4] [] M = nb_R nb_P 195 26 [(20, l0), nb_clr v1, (0, 1), (0, 0), v4] [] M :=
  nb_step (c := true) rfl rfl
theorem q_m_layTellings_26 (l0 l2 l3 : Int) (v1 v4 : nb_V) (M : nb_M) :
    nb_R nb_P 195 26 [(20, l0), v1, (0, l2), (0, l3), v4] [] M = if l3 < 10 then nb_R nb_P 195 27 [(20, l0), v1, (0, l2), (0, l3), v4] [] M else nb_R nb_P 195 32 [(20, l0), v1, (0, l2), (0, l3), v4] [] M :=
  nb_step (c := true) rfl rfl
theorem q_m_layTellings_27 (l0 l2 l3 : Int) (v1 v4 : nb_V) (M : nb_M) :
    nb_R nb_P 195 27 [(20, l0), v1, (0, l2), (0, l3), v4] [] M = if l2 = 0 then nb_R nb_P 195 30 [(20, l0), v1, (0, l2), (0, l3), v4] [] M else nb_R nb_P 195 28 [(20, l0), v1, (0, l2), (0, l3), v4] [] M :=
  nb_step (c := true) rfl rfl
theorem q_m_layTellings_28 (l0 l3 : Int) (v1 v2 v4 : nb_V) (M : nb_M) (h1 : l0 ≠ 0) (h2 : (nb_rd M l0 34) ≠ 0) (h3 : (0 : Int) ≤ nb_mul 11 l3) (h4 : nb_mul 11 l3 < nb_ln M (nb_rd M l0 34)) :
    nb_R nb_P 195 28 [(20, l0), v1, v2, (0, l3), v4] [] M = if nb_rd M (nb_rd M l0 34) (nb_mul 11 l3) = 0 then nb_R nb_P 195 29 [(20, l0), v1, v2, (0, l3), v4] [] M else nb_R nb_P 195 30 [(20, l0), v1, v2, (0, l3), v4] [] M :=
  nb_step (c := ((true && !decide ((l0 : Int) = 0)) && (!decide ((nb_rd M l0 34 : Int) = 0) && (decide ((0 : Int) ≤ nb_mul 11 l3) && decide (nb_mul 11 l3 < nb_ln M (nb_rd M l0 34)))))) rfl (by simp [h1, h2, h3, h4])
theorem q_m_layTellings_29 (l0 l3 : Int) (v1 v2 v4 : nb_V) (M : nb_M) :
    nb_R nb_P 195 29 [(20, l0), v1, v2, (0, l3), v4] [] M = nb_R nb_P 195 31 [(20, l0), v1, v2, (0, l3), v4] [(0, 1)] M :=
  nb_step (c := true) rfl rfl
theorem q_m_layTellings_30 (l0 l3 : Int) (v1 v2 v4 : nb_V) (M : nb_M) :
    nb_R nb_P 195 30 [(20, l0), v1, v2, (0, l3), v4] [] M = nb_R nb_P 195 31 [(20, l0), v1, v2, (0, l3), v4] [(0, 0)] M :=
  nb_step (c := true) rfl rfl
theorem q_m_layTellings_31 (l0 l3 s0 : Int) (v1 v2 v4 : nb_V) (M : nb_M) :
    nb_R nb_P 195 31 [(20, l0), v1, v2, (0, l3), v4] [(0, s0)] M = nb_R nb_P 195 26 [(20, l0), nb_clr v1, (0, s0), (0, nb_add l3 1), v4] [] M :=
  nb_step (c := true) rfl rfl
theorem q_m_layTellings_32 (l2 : Int) (v0 v1 v3 v4 : nb_V) (M : nb_M) :
    nb_R nb_P 195 32 [v0, v1, (0, l2), v3, v4] [] M = some ([(0, nb_i2z l2)], M) :=
  nb_step (c := true) rfl rfl
theorem q_m_liars_0 (l0 : Int) (M : nb_M) (h1 : l0 ≠ 0) :
    nb_R nb_P 197 0 [(20, l0)] [] M = (nb_R nb_P 79 0 [(20, l0)] [] M).bind fun r => nb_R nb_P 197 1 [(20, l0)] (r.1 ++ []) r.2 :=
  nb_stepC (c := true) (L2 := [(20, l0)]) (S2 := [(20, l0)]) (M2 := M) (t := 1) (cl := 79) (vi := true) rfl rfl (nb_inv_eq (n := 1) rfl rfl rfl rfl rfl rfl (fun _ => h1) rfl)
theorem q_m_liars_1 (l0 : Int) (M : nb_M) (h1 : l0 ≠ 0) :
    nb_R nb_P 197 1 [(20, l0)] [] M = if nb_rd M l0 14 = 0 then nb_R nb_P 197 4 [(20, l0)] [] M else nb_R nb_P 197 2 [(20, l0)] [] M :=
  nb_step (c := (true && !decide ((l0 : Int) = 0))) rfl (by simp [h1])
theorem q_m_liars_2 (l0 : Int) (M : nb_M) (h1 : l0 ≠ 0) :
    nb_R nb_P 197 2 [(20, l0)] [] M = (nb_R nb_P 196 0 [(20, l0), (98, 0), (98, 0)] [] M).bind fun r => nb_R nb_P 197 3 [(20, l0)] (r.1 ++ []) r.2 :=
  nb_stepC (c := true) (L2 := [(20, l0)]) (S2 := [(20, l0)]) (M2 := M) (t := 3) (cl := 196) (vi := true) rfl rfl (nb_inv_eq (n := 1) rfl rfl rfl rfl rfl rfl (fun _ => h1) rfl)
theorem q_m_liars_3 (s0 : Int) (v0 : nb_V) (M : nb_M) :
    nb_R nb_P 197 3 [v0] [(0, s0)] M = nb_R nb_P 197 5 [v0] [(0, s0)] M :=
  nb_step (c := true) rfl rfl
theorem q_m_liars_4 (l0 : Int) (M : nb_M) (h1 : l0 ≠ 0) :
    nb_R nb_P 197 4 [(20, l0)] [] M = (nb_R nb_P 80 0 [(20, l0), (0, 1)] [] M).bind fun r => nb_R nb_P 197 5 [(20, l0)] (r.1 ++ []) r.2 :=
  nb_stepC (c := true) (L2 := [(20, l0)]) (S2 := [(0, 1), (20, l0)]) (M2 := M) (t := 5) (cl := 80) (vi := true) rfl rfl (nb_inv_eq (n := 2) rfl rfl rfl rfl rfl rfl (fun _ => h1) rfl)
theorem q_m_liars_5 (s0 : Int) (v0 : nb_V) (M : nb_M) :
    nb_R nb_P 197 5 [v0] [(0, s0)] M = some ([(0, s0)], M) :=
  nb_step (c := true) rfl rfl
theorem q_m_so_0 (l0 : Int) (v1 v2 : nb_V) (M : nb_M) (h1 : l0 ≠ 0) :
    nb_R nb_P 199 0 [(20, l0), v1, v2] [] M = (nb_R nb_P 79 0 [(20, l0)] [] M).bind fun r => nb_R nb_P 199 1 [(20, l0), v1, v2] (r.1 ++ []) r.2 :=
  nb_stepC (c := true) (L2 := [(20, l0), v1, v2]) (S2 := [(20, l0)]) (M2 := M) (t := 1) (cl := 79) (vi := true) rfl rfl (nb_inv_eq (n := 1) rfl rfl rfl rfl rfl rfl (fun _ => h1) rfl)
theorem q_m_so_1 (l0 : Int) (v1 v2 : nb_V) (M : nb_M) (h1 : l0 ≠ 0) :
    nb_R nb_P 199 1 [(20, l0), v1, v2] [] M = if nb_rd M l0 14 = 0 then nb_R nb_P 199 2 [(20, l0), v1, v2] [] M else nb_R nb_P 199 4 [(20, l0), v1, v2] [] M :=
  nb_step (c := (true && !decide ((l0 : Int) = 0))) rfl (by simp [h1])
theorem q_m_so_2 (l0 : Int) (v1 v2 : nb_V) (M : nb_M) (h1 : l0 ≠ 0) :
    nb_R nb_P 199 2 [(20, l0), v1, v2] [] M = (nb_R nb_P 80 0 [(20, l0), (0, 1)] [] M).bind fun r => nb_R nb_P 199 3 [(20, l0), v1, v2] (r.1 ++ []) r.2 :=
  nb_stepC (c := true) (L2 := [(20, l0), v1, v2]) (S2 := [(0, 1), (20, l0)]) (M2 := M) (t := 3) (cl := 80) (vi := true) rfl rfl (nb_inv_eq (n := 2) rfl rfl rfl rfl rfl rfl (fun _ => h1) rfl)
theorem q_m_so_3 (s0 : Int) (v0 v1 v2 : nb_V) (M : nb_M) :
    nb_R nb_P 199 3 [v0, v1, v2] [(0, s0)] M = some ([(0, s0)], M) :=
  nb_step (c := true) rfl rfl
theorem q_m_so_4 (l0 : Int) (v1 v2 : nb_V) (M : nb_M) (h1 : l0 ≠ 0) :
    nb_R nb_P 199 4 [(20, l0), v1, v2] [] M = (nb_R nb_P 121 0 [(20, l0)] [] M).bind fun r => nb_R nb_P 199 5 [(20, l0), v1, v2] (r.1 ++ []) r.2 :=
  nb_stepC (c := true) (L2 := [(20, l0), v1, v2]) (S2 := [(20, l0)]) (M2 := M) (t := 5) (cl := 121) (vi := true) rfl rfl (nb_inv_eq (n := 1) rfl rfl rfl rfl rfl rfl (fun _ => h1) rfl)
theorem q_m_so_5 (l0 : Int) (v1 v2 : nb_V) (M : nb_M) :
    nb_R nb_P 199 5 [(20, l0), v1, v2] [] M = nb_R nb_P 199 6 [(20, l0), (0, 0), (0, 0)] [] M :=
  nb_step (c := true) rfl rfl
theorem q_m_so_6 (l0 l1 l2 : Int) (M : nb_M) (h1 : l0 ≠ 0) (h2 : (nb_rd M l0 15) ≠ 0) (h3 : (0 : Int) ≤ 7) (h4 : 7 < nb_ln M (nb_rd M l0 15)) :
    nb_R nb_P 199 6 [(20, l0), (0, l1), (0, l2)] [] M = if l2 < nb_rd M (nb_rd M l0 15) 7 then nb_R nb_P 199 7 [(20, l0), (0, l1), (0, l2)] [] M else nb_R nb_P 199 12 [(20, l0), (0, l1), (0, l2)] [] M :=
  nb_step (c := ((true && !decide ((l0 : Int) = 0)) && (!decide ((nb_rd M l0 15 : Int) = 0) && (decide ((0 : Int) ≤ 7) && decide (7 < nb_ln M (nb_rd M l0 15)))))) rfl (by simp [h1, h2, h3, h4])
set_option maxRecDepth 10000 in
theorem q_m_so_7 (l0 l1 l2 : Int) (M : nb_M) (h1 : l0 ≠ 0) (h2 : (nb_rd M l0 15) ≠ 0) (h3 : (0 : Int) ≤ nb_add (nb_add 161 (nb_mul 3 l2)) 2) (h4 : nb_add (nb_add 161 (nb_mul 3 l2)) 2 < nb_ln M (nb_rd M l0 15)) (h5 : (0 : Int) ≤ nb_add (nb_add 161 (nb_mul 3 l2)) 1) (h6 : nb_add (nb_add 161 (nb_mul 3 l2)) 1 < nb_ln M (nb_rd M l0 15)) :
    nb_R nb_P 199 7 [(20, l0), (0, l1), (0, l2)] [] M = (nb_R nb_P 137 0 [(20, l0), (0, nb_rd M (nb_rd M l0 15) (nb_add (nb_add 161 (nb_mul 3 l2)) 2)), (0, nb_rd M (nb_rd M l0 15) (nb_add (nb_add 161 (nb_mul 3 l2)) 1))] [] M).bind fun r => nb_R nb_P 199 8 [(20, l0), (0, l1), (0, l2)] (r.1 ++ [(0, l1)]) r.2 :=
  nb_stepC (c := ((((true && !decide ((l0 : Int) = 0)) && (!decide ((nb_rd M l0 15 : Int) = 0) && (decide ((0 : Int) ≤ nb_add (nb_add 161 (nb_mul 3 l2)) 2) && decide (nb_add (nb_add 161 (nb_mul 3 l2)) 2 < nb_ln M (nb_rd M l0 15))))) && !decide ((l0 : Int) = 0)) && (!decide ((nb_rd M l0 15 : Int) = 0) && (decide ((0 : Int) ≤ nb_add (nb_add 161 (nb_mul 3 l2)) 1) && decide (nb_add (nb_add 161 (nb_mul 3 l2)) 1 < nb_ln M (nb_rd M l0 15)))))) (L2 := [(20, l0), (0, l1), (0, l2)]) (S2 := [(0, nb_rd M (nb_rd M l0 15) (nb_add (nb_add 161 (nb_mul 3 l2)) 1)), (0, nb_rd M (nb_rd M l0 15) (nb_add (nb_add 161 (nb_mul 3 l2)) 2)), (20, l0), (0, l1)]) (M2 := M) (t := 8) (cl := 137) (vi := true) rfl (by simp [h1, h2, h3, h4, h5, h6]) (nb_inv_eq (n := 3) rfl rfl rfl rfl rfl rfl (fun _ => h1) rfl)
theorem q_m_so_8 (l0 l2 s0 s1 : Int) (v1 : nb_V) (M : nb_M) :
    nb_R nb_P 199 8 [(20, l0), v1, (0, l2)] [(0, s0), (0, s1)] M = if s0 = 0 then nb_R nb_P 199 10 [(20, l0), v1, (0, l2)] [(0, s1)] M else nb_R nb_P 199 9 [(20, l0), v1, (0, l2)] [(0, s1)] M :=
  nb_step (c := true) rfl rfl
theorem q_m_so_9 (l0 l2 s0 : Int) (v1 : nb_V) (M : nb_M) :
    nb_R nb_P 199 9 [(20, l0), v1, (0, l2)] [(0, s0)] M = nb_R nb_P 199 11 [(20, l0), v1, (0, l2)] [(0, 1), (0, s0)] M :=
  nb_step (c := true) rfl rfl
theorem q_m_so_10 (l0 l2 s0 : Int) (v1 : nb_V) (M : nb_M) :
    nb_R nb_P 199 10 [(20, l0), v1, (0, l2)] [(0, s0)] M = nb_R nb_P 199 11 [(20, l0), v1, (0, l2)] [(0, 0), (0, s0)] M :=
  nb_step (c := true) rfl rfl
theorem q_m_so_11 (l0 l2 s0 s1 : Int) (v1 : nb_V) (M : nb_M) :
    nb_R nb_P 199 11 [(20, l0), v1, (0, l2)] [(0, s0), (0, s1)] M = nb_R nb_P 199 6 [(20, l0), (0, nb_add s1 s0), (0, nb_add l2 1)] [] M :=
  nb_step (c := true) rfl rfl
theorem q_m_so_12 (l1 : Int) (v0 v2 : nb_V) (M : nb_M) :
    nb_R nb_P 199 12 [v0, (0, l1), v2] [] M = some ([(0, l1)], M) :=
  nb_step (c := true) rfl rfl
theorem q_m_pass_0 (l0 l1 : Int) (v2 : nb_V) (M : nb_M) (h1 : l0 ≠ 0) :
    nb_R nb_P 201 0 [(20, l0), (0, l1), v2] [] M = (nb_R nb_P 79 0 [(20, l0)] [] M).bind fun r => nb_R nb_P 201 1 [(20, l0), (0, l1), v2] (r.1 ++ []) r.2 :=
  nb_stepC (c := true) (L2 := [(20, l0), (0, l1), v2]) (S2 := [(20, l0)]) (M2 := M) (t := 1) (cl := 79) (vi := true) rfl rfl (nb_inv_eq (n := 1) rfl rfl rfl rfl rfl rfl (fun _ => h1) rfl)
theorem q_m_pass_1 (l0 l1 : Int) (v2 : nb_V) (M : nb_M) (h1 : l0 ≠ 0) :
    nb_R nb_P 201 1 [(20, l0), (0, l1), v2] [] M = if nb_rd M l0 14 = 0 then nb_R nb_P 201 2 [(20, l0), (0, l1), v2] [] M else nb_R nb_P 201 4 [(20, l0), (0, l1), v2] [] M :=
  nb_step (c := (true && !decide ((l0 : Int) = 0))) rfl (by simp [h1])
theorem q_m_pass_2 (l0 : Int) (v1 v2 : nb_V) (M : nb_M) (h1 : l0 ≠ 0) :
    nb_R nb_P 201 2 [(20, l0), v1, v2] [] M = (nb_R nb_P 80 0 [(20, l0), (0, 1)] [] M).bind fun r => nb_R nb_P 201 3 [(20, l0), v1, v2] (r.1 ++ []) r.2 :=
  nb_stepC (c := true) (L2 := [(20, l0), v1, v2]) (S2 := [(0, 1), (20, l0)]) (M2 := M) (t := 3) (cl := 80) (vi := true) rfl rfl (nb_inv_eq (n := 2) rfl rfl rfl rfl rfl rfl (fun _ => h1) rfl)
theorem q_m_pass_3 (s0 : Int) (v0 v1 v2 : nb_V) (M : nb_M) :
    nb_R nb_P 201 3 [v0, v1, v2] [(0, s0)] M = some ([(0, s0)], M) :=
  nb_step (c := true) rfl rfl
theorem q_m_pass_4 (l0 l1 : Int) (v2 : nb_V) (M : nb_M) :
    nb_R nb_P 201 4 [(20, l0), (0, l1), v2] [] M = (nb_R nb_P 83 0 [(0, l1), (0, 1), (0, 200)] [] M).bind fun r => nb_R nb_P 201 5 [(20, l0), (0, l1), v2] (r.1 ++ []) r.2 :=
  nb_stepC (c := true) (L2 := [(20, l0), (0, l1), v2]) (S2 := [(0, 200), (0, 1), (0, l1)]) (M2 := M) (t := 5) (cl := 83) (vi := false) rfl rfl (nb_inv_eq (n := 3) rfl rfl rfl rfl rfl rfl (fun h => by cases h) rfl)
theorem q_m_pass_5 (l0 l1 s0 : Int) (v2 : nb_V) (M : nb_M) :
    nb_R nb_P 201 5 [(20, l0), (0, l1), v2] [(0, s0)] M = if s0 = 0 then nb_R nb_P 201 6 [(20, l0), (0, l1), v2] [] M else nb_R nb_P 201 8 [(20, l0), (0, l1), v2] [] M :=
  nb_step (c := true) rfl rfl
theorem q_m_pass_6 (l0 : Int) (v1 v2 : nb_V) (M : nb_M) (h1 : l0 ≠ 0) :
    nb_R nb_P 201 6 [(20, l0), v1, v2] [] M = (nb_R nb_P 80 0 [(20, l0), (0, 2)] [] M).bind fun r => nb_R nb_P 201 7 [(20, l0), v1, v2] (r.1 ++ []) r.2 :=
  nb_stepC (c := true) (L2 := [(20, l0), v1, v2]) (S2 := [(0, 2), (20, l0)]) (M2 := M) (t := 7) (cl := 80) (vi := true) rfl rfl (nb_inv_eq (n := 2) rfl rfl rfl rfl rfl rfl (fun _ => h1) rfl)
theorem q_m_pass_7 (s0 : Int) (v0 v1 v2 : nb_V) (M : nb_M) :
    nb_R nb_P 201 7 [v0, v1, v2] [(0, s0)] M = some ([(0, s0)], M) :=
  nb_step (c := true) rfl rfl
theorem q_m_pass_8 (l0 l1 : Int) (v2 : nb_V) (M : nb_M) (h1 : l0 ≠ 0) (h2 : (nb_rd M l0 17) ≠ 0) (h3 : (0 : Int) ≤ 0) (h4 : 0 < nb_ln M (nb_rd M l0 17)) (h5 : (nb_rd M l0 15) ≠ 0) (h6 : (0 : Int) ≤ 2) (h7 : 2 < nb_ln M (nb_rd M l0 15)) :
    nb_R nb_P 201 8 [(20, l0), (0, l1), v2] [] M = if nb_add (nb_rd M (nb_rd M l0 15) 2) 1 < nb_add (nb_rd M (nb_rd M l0 17) 0) l1 then nb_R nb_P 201 9 [(20, l0), (0, l1), v2] [] M else nb_R nb_P 201 11 [(20, l0), (0, l1), v2] [] M :=
  nb_step (c := ((((true && !decide ((l0 : Int) = 0)) && (!decide ((nb_rd M l0 17 : Int) = 0) && (decide ((0 : Int) ≤ 0) && decide (0 < nb_ln M (nb_rd M l0 17))))) && !decide ((l0 : Int) = 0)) && (!decide ((nb_rd M l0 15 : Int) = 0) && (decide ((0 : Int) ≤ 2) && decide (2 < nb_ln M (nb_rd M l0 15)))))) rfl (by simp [h1, h2, h3, h4, h5, h6, h7])
theorem q_m_pass_9 (l0 : Int) (v1 v2 : nb_V) (M : nb_M) (h1 : l0 ≠ 0) :
    nb_R nb_P 201 9 [(20, l0), v1, v2] [] M = (nb_R nb_P 80 0 [(20, l0), (0, 3)] [] M).bind fun r => nb_R nb_P 201 10 [(20, l0), v1, v2] (r.1 ++ []) r.2 :=
  nb_stepC (c := true) (L2 := [(20, l0), v1, v2]) (S2 := [(0, 3), (20, l0)]) (M2 := M) (t := 10) (cl := 80) (vi := true) rfl rfl (nb_inv_eq (n := 2) rfl rfl rfl rfl rfl rfl (fun _ => h1) rfl)
theorem q_m_pass_10 (s0 : Int) (v0 v1 v2 : nb_V) (M : nb_M) :
    nb_R nb_P 201 10 [v0, v1, v2] [(0, s0)] M = some ([(0, s0)], M) :=
  nb_step (c := true) rfl rfl
theorem q_m_pass_11 (l0 l1 : Int) (v2 : nb_V) (M : nb_M) (h1 : l0 ≠ 0) :
    nb_R nb_P 201 11 [(20, l0), (0, l1), v2] [] M = (nb_R nb_P 200 0 [(20, l0), (98, 0)] [] M).bind fun r => nb_R nb_P 201 12 [(20, l0), (0, l1), v2] (r.1 ++ []) r.2 :=
  nb_stepC (c := true) (L2 := [(20, l0), (0, l1), v2]) (S2 := [(20, l0)]) (M2 := M) (t := 12) (cl := 200) (vi := true) rfl rfl (nb_inv_eq (n := 1) rfl rfl rfl rfl rfl rfl (fun _ => h1) rfl)
theorem q_m_pass_12 (l0 l1 : Int) (v2 : nb_V) (M : nb_M) (h1 : l0 ≠ 0) :
    nb_R nb_P 201 12 [(20, l0), (0, l1), v2] [] M = (nb_R nb_P 121 0 [(20, l0)] [] M).bind fun r => nb_R nb_P 201 13 [(20, l0), (0, l1), v2] (r.1 ++ []) r.2 :=
  nb_stepC (c := true) (L2 := [(20, l0), (0, l1), v2]) (S2 := [(20, l0)]) (M2 := M) (t := 13) (cl := 121) (vi := true) rfl rfl (nb_inv_eq (n := 1) rfl rfl rfl rfl rfl rfl (fun _ => h1) rfl)
theorem q_m_pass_13 (l0 l1 : Int) (v2 : nb_V) (M : nb_M) :
    nb_R nb_P 201 13 [(20, l0), (0, l1), v2] [] M = nb_R nb_P 201 14 [(20, l0), (0, l1), (0, 0)] [] M :=
  nb_step (c := true) rfl rfl
theorem q_m_pass_14 (l0 l1 l2 : Int) (M : nb_M) :
    nb_R nb_P 201 14 [(20, l0), (0, l1), (0, l2)] [] M = if l2 < l1 then nb_R nb_P 201 15 [(20, l0), (0, l1), (0, l2)] [] M else nb_R nb_P 201 17 [(20, l0), (0, l1), (0, l2)] [] M :=
  nb_step (c := true) rfl rfl
theorem q_m_pass_15 (l0 l1 l2 : Int) (M : nb_M) (h1 : l0 ≠ 0) :
    nb_R nb_P 201 15 [(20, l0), (0, l1), (0, l2)] [] M = (nb_R nb_P 132 0 [(20, l0), (3, nb_rd M l0 17), (98, 0), (98, 0), (98, 0), (98, 0)] [] M).bind fun r => nb_R nb_P 201 16 [(20, l0), (0, l1), (0, l2)] (r.1 ++ []) r.2 :=
  nb_stepC (c := (true && !decide ((l0 : Int) = 0))) (L2 := [(20, l0), (0, l1), (0, l2)]) (S2 := [(3, nb_rd M l0 17), (20, l0)]) (M2 := M) (t := 16) (cl := 132) (vi := true) rfl (by simp [h1]) (nb_inv_eq (n := 2) rfl rfl rfl rfl rfl rfl (fun _ => h1) rfl)
theorem q_m_pass_16 (l0 l1 l2 : Int) (M : nb_M) :
    nb_R nb_P 201 16 [(20, l0), (0, l1), (0, l2)] [] M = nb_R nb_P 201 14 [(20, l0), (0, l1), (0, nb_add l2 1)] [] M :=
  nb_step (c := true) rfl rfl
theorem q_m_pass_17 (l0 : Int) (v1 v2 : nb_V) (M : nb_M) (h1 : l0 ≠ 0) (h2 : (nb_rd M l0 17) ≠ 0) (h3 : (0 : Int) ≤ 0) (h4 : 0 < nb_ln M (nb_rd M l0 17)) :
    nb_R nb_P 201 17 [(20, l0), v1, v2] [] M = some ([(0, nb_rd M (nb_rd M l0 17) 0)], M) :=
  nb_step (c := ((true && !decide ((l0 : Int) = 0)) && (!decide ((nb_rd M l0 17 : Int) = 0) && (decide ((0 : Int) ≤ 0) && decide (0 < nb_ln M (nb_rd M l0 17)))))) rfl (by simp [h1, h2, h3, h4])
theorem q_m_lets_0 (l0 l1 l2 : Int) (M : nb_M) (h1 : l0 ≠ 0) :
    nb_R nb_P 203 0 [(20, l0), (0, l1), (0, l2)] [] M = (nb_R nb_P 79 0 [(20, l0)] [] M).bind fun r => nb_R nb_P 203 1 [(20, l0), (0, l1), (0, l2)] (r.1 ++ []) r.2 :=
  nb_stepC (c := true) (L2 := [(20, l0), (0, l1), (0, l2)]) (S2 := [(20, l0)]) (M2 := M) (t := 1) (cl := 79) (vi := true) rfl rfl (nb_inv_eq (n := 1) rfl rfl rfl rfl rfl rfl (fun _ => h1) rfl)
theorem q_m_lets_1 (l0 l1 l2 : Int) (M : nb_M) (h1 : l0 ≠ 0) :
    nb_R nb_P 203 1 [(20, l0), (0, l1), (0, l2)] [] M = (nb_R nb_P 116 0 [(20, l0), (0, l1)] [] M).bind fun r => nb_R nb_P 203 2 [(20, l0), (0, l1), (0, l2)] (r.1 ++ []) r.2 :=
  nb_stepC (c := true) (L2 := [(20, l0), (0, l1), (0, l2)]) (S2 := [(0, l1), (20, l0)]) (M2 := M) (t := 2) (cl := 116) (vi := true) rfl rfl (nb_inv_eq (n := 2) rfl rfl rfl rfl rfl rfl (fun _ => h1) rfl)
theorem q_m_lets_2 (l0 l1 l2 s0 : Int) (M : nb_M) :
    nb_R nb_P 203 2 [(20, l0), (0, l1), (0, l2)] [(0, s0)] M = if s0 = 0 then nb_R nb_P 203 6 [(20, l0), (0, l1), (0, l2)] [] M else nb_R nb_P 203 3 [(20, l0), (0, l1), (0, l2)] [] M :=
  nb_step (c := true) rfl rfl
theorem q_m_lets_3 (l0 l1 l2 : Int) (M : nb_M) (h1 : l0 ≠ 0) :
    nb_R nb_P 203 3 [(20, l0), (0, l1), (0, l2)] [] M = (nb_R nb_P 116 0 [(20, l0), (0, l2)] [] M).bind fun r => nb_R nb_P 203 4 [(20, l0), (0, l1), (0, l2)] (r.1 ++ []) r.2 :=
  nb_stepC (c := true) (L2 := [(20, l0), (0, l1), (0, l2)]) (S2 := [(0, l2), (20, l0)]) (M2 := M) (t := 4) (cl := 116) (vi := true) rfl rfl (nb_inv_eq (n := 2) rfl rfl rfl rfl rfl rfl (fun _ => h1) rfl)
theorem q_m_lets_4 (l0 l1 l2 s0 : Int) (M : nb_M) :
    nb_R nb_P 203 4 [(20, l0), (0, l1), (0, l2)] [(0, s0)] M = if s0 = 0 then nb_R nb_P 203 6 [(20, l0), (0, l1), (0, l2)] [] M else nb_R nb_P 203 5 [(20, l0), (0, l1), (0, l2)] [] M :=
  nb_step (c := true) rfl rfl
theorem q_m_lets_5 (l0 l1 l2 : Int) (M : nb_M) :
    nb_R nb_P 203 5 [(20, l0), (0, l1), (0, l2)] [] M = if l1 = l2 then nb_R nb_P 203 6 [(20, l0), (0, l1), (0, l2)] [] M else nb_R nb_P 203 8 [(20, l0), (0, l1), (0, l2)] [] M :=
  nb_step (c := true) rfl rfl
theorem q_m_lets_6 (l0 : Int) (v1 v2 : nb_V) (M : nb_M) (h1 : l0 ≠ 0) :
    nb_R nb_P 203 6 [(20, l0), v1, v2] [] M = (nb_R nb_P 82 0 [(20, l0), (0, 1)] [] M).bind fun r => nb_R nb_P 203 7 [(20, l0), v1, v2] (r.1 ++ []) r.2 :=
  nb_stepC (c := true) (L2 := [(20, l0), v1, v2]) (S2 := [(0, 1), (20, l0)]) (M2 := M) (t := 7) (cl := 82) (vi := true) rfl rfl (nb_inv_eq (n := 2) rfl rfl rfl rfl rfl rfl (fun _ => h1) rfl)
theorem q_m_lets_7 (s0 : Int) (v0 v1 v2 : nb_V) (M : nb_M) :
    nb_R nb_P 203 7 [v0, v1, v2] [(0, s0)] M = some ([(0, nb_i2z s0)], M) :=
  nb_step (c := true) rfl rfl
theorem q_m_lets_8 (l0 l1 l2 : Int) (M : nb_M) (h1 : l0 ≠ 0) :
    nb_R nb_P 203 8 [(20, l0), (0, l1), (0, l2)] [] M = (nb_R nb_P 175 0 [(20, l0), (0, l1), (0, l2)] [] M).bind fun r => nb_R nb_P 203 9 [(20, l0), (0, l1), (0, l2)] (r.1 ++ []) r.2 :=
  nb_stepC (c := true) (L2 := [(20, l0), (0, l1), (0, l2)]) (S2 := [(0, l2), (0, l1), (20, l0)]) (M2 := M) (t := 9) (cl := 175) (vi := true) rfl rfl (nb_inv_eq (n := 3) rfl rfl rfl rfl rfl rfl (fun _ => h1) rfl)
theorem q_m_lets_9 (l0 l1 l2 s0 : Int) (M : nb_M) :
    nb_R nb_P 203 9 [(20, l0), (0, l1), (0, l2)] [(0, s0)] M = if s0 = 0 then nb_R nb_P 203 12 [(20, l0), (0, l1), (0, l2)] [] M else nb_R nb_P 203 10 [(20, l0), (0, l1), (0, l2)] [] M :=
  nb_step (c := true) rfl rfl
theorem q_m_lets_10 (l0 : Int) (v1 v2 : nb_V) (M : nb_M) (h1 : l0 ≠ 0) :
    nb_R nb_P 203 10 [(20, l0), v1, v2] [] M = (nb_R nb_P 82 0 [(20, l0), (0, 5)] [] M).bind fun r => nb_R nb_P 203 11 [(20, l0), v1, v2] (r.1 ++ []) r.2 :=
  nb_stepC (c := true) (L2 := [(20, l0), v1, v2]) (S2 := [(0, 5), (20, l0)]) (M2 := M) (t := 11) (cl := 82) (vi := true) rfl rfl (nb_inv_eq (n := 2) rfl rfl rfl rfl rfl rfl (fun _ => h1) rfl)
theorem q_m_lets_11 (s0 : Int) (v0 v1 v2 : nb_V) (M : nb_M) :
    nb_R nb_P 203 11 [v0, v1, v2] [(0, s0)] M = some ([(0, nb_i2z s0)], M) :=
  nb_step (c := true) rfl rfl
theorem q_m_lets_12 (l0 l1 l2 : Int) (M : nb_M) (h1 : l0 ≠ 0) :
    nb_R nb_P 203 12 [(20, l0), (0, l1), (0, l2)] [] M = (nb_R nb_P 200 0 [(20, l0), (98, 0)] [] M).bind fun r => nb_R nb_P 203 13 [(20, l0), (0, l1), (0, l2)] (r.1 ++ []) r.2 :=
  nb_stepC (c := true) (L2 := [(20, l0), (0, l1), (0, l2)]) (S2 := [(20, l0)]) (M2 := M) (t := 13) (cl := 200) (vi := true) rfl rfl (nb_inv_eq (n := 1) rfl rfl rfl rfl rfl rfl (fun _ => h1) rfl)
theorem q_m_lets_13 (l0 l1 l2 : Int) (M : nb_M) (h1 : l0 ≠ 0) :
    nb_R nb_P 203 13 [(20, l0), (0, l1), (0, l2)] [] M = (nb_R nb_P 125 0 [(3, nb_rd M l0 17), (0, l2), (0, 3)] [] M).bind fun r => nb_R nb_P 203 14 [(20, l0), (0, l1), (0, l2)] (r.1 ++ [(0, nb_add (nb_add 12 (nb_mul 8 l1)) 3), (3, nb_rd M l0 17)]) r.2 :=
  nb_stepC (c := ((true && !decide ((l0 : Int) = 0)) && !decide ((l0 : Int) = 0))) (L2 := [(20, l0), (0, l1), (0, l2)]) (S2 := [(0, 3), (0, l2), (3, nb_rd M l0 17), (0, nb_add (nb_add 12 (nb_mul 8 l1)) 3), (3, nb_rd M l0 17)]) (M2 := M) (t := 14) (cl := 125) (vi := false) rfl (by simp [h1]) (nb_inv_eq (n := 3) rfl rfl rfl rfl rfl rfl (fun h => by cases h) rfl)
theorem q_m_lets_14 (s0 s1 s2 : Int) (v0 v1 v2 : nb_V) (M : nb_M) (h1 : s2 ≠ 0) (h2 : s2 ≠ 1) (h3 : (0 : Int) ≤ s1) (h4 : s1 < nb_ln M s2) :
    nb_R nb_P 203 14 [v0, v1, v2] [(0, s0), (0, s1), (3, s2)] M = nb_R nb_P 203 15 [v0, v1, v2] [] (nb_wr M s2 s1 (nb_add s0 1)) :=
  nb_step (c := (true && (!decide ((s2 : Int) = 0) && (!decide ((s2 : Int) = 1) && (decide ((0 : Int) ≤ s1) && decide (s1 < nb_ln M s2)))))) rfl (by simp [h1, h2, h3, h4])
theorem q_m_lets_15 (v0 v1 v2 : nb_V) (M : nb_M) :
    nb_R nb_P 203 15 [v0, v1, v2] [] M = some ([(0, 1)], M) :=
  nb_step (c := true) rfl rfl
theorem q_m_leaves_0 (l0 l1 : Int) (M : nb_M) (h1 : l0 ≠ 0) :
    nb_R nb_P 205 0 [(20, l0), (0, l1)] [] M = (nb_R nb_P 79 0 [(20, l0)] [] M).bind fun r => nb_R nb_P 205 1 [(20, l0), (0, l1)] (r.1 ++ []) r.2 :=
  nb_stepC (c := true) (L2 := [(20, l0), (0, l1)]) (S2 := [(20, l0)]) (M2 := M) (t := 1) (cl := 79) (vi := true) rfl rfl (nb_inv_eq (n := 1) rfl rfl rfl rfl rfl rfl (fun _ => h1) rfl)
theorem q_m_leaves_1 (l0 l1 : Int) (M : nb_M) (h1 : l0 ≠ 0) :
    nb_R nb_P 205 1 [(20, l0), (0, l1)] [] M = (nb_R nb_P 116 0 [(20, l0), (0, l1)] [] M).bind fun r => nb_R nb_P 205 2 [(20, l0), (0, l1)] (r.1 ++ []) r.2 :=
  nb_stepC (c := true) (L2 := [(20, l0), (0, l1)]) (S2 := [(0, l1), (20, l0)]) (M2 := M) (t := 2) (cl := 116) (vi := true) rfl rfl (nb_inv_eq (n := 2) rfl rfl rfl rfl rfl rfl (fun _ => h1) rfl)
theorem q_m_leaves_2 (l0 l1 s0 : Int) (M : nb_M) :
    nb_R nb_P 205 2 [(20, l0), (0, l1)] [(0, s0)] M = if s0 = 0 then nb_R nb_P 205 3 [(20, l0), (0, l1)] [] M else nb_R nb_P 205 5 [(20, l0), (0, l1)] [] M :=
  nb_step (c := true) rfl rfl
theorem q_m_leaves_3 (l0 : Int) (v1 : nb_V) (M : nb_M) (h1 : l0 ≠ 0) :
    nb_R nb_P 205 3 [(20, l0), v1] [] M = (nb_R nb_P 82 0 [(20, l0), (0, 1)] [] M).bind fun r => nb_R nb_P 205 4 [(20, l0), v1] (r.1 ++ []) r.2 :=
  nb_stepC (c := true) (L2 := [(20, l0), v1]) (S2 := [(0, 1), (20, l0)]) (M2 := M) (t := 4) (cl := 82) (vi := true) rfl rfl (nb_inv_eq (n := 2) rfl rfl rfl rfl rfl rfl (fun _ => h1) rfl)
theorem q_m_leaves_4 (s0 : Int) (v0 v1 : nb_V) (M : nb_M) :
    nb_R nb_P 205 4 [v0, v1] [(0, s0)] M = some ([(0, nb_i2z s0)], M) :=
  nb_step (c := true) rfl rfl
theorem q_m_leaves_5 (l0 l1 : Int) (M : nb_M) (h1 : l0 ≠ 0) :
    nb_R nb_P 205 5 [(20, l0), (0, l1)] [] M = (nb_R nb_P 126 0 [(3, nb_rd M l0 17), (0, l1)] [] M).bind fun r => nb_R nb_P 205 6 [(20, l0), (0, l1)] (r.1 ++ []) r.2 :=
  nb_stepC (c := (true && !decide ((l0 : Int) = 0))) (L2 := [(20, l0), (0, l1)]) (S2 := [(0, l1), (3, nb_rd M l0 17)]) (M2 := M) (t := 6) (cl := 126) (vi := false) rfl (by simp [h1]) (nb_inv_eq (n := 2) rfl rfl rfl rfl rfl rfl (fun h => by cases h) rfl)
theorem q_m_leaves_6 (l0 l1 s0 : Int) (M : nb_M) :
    nb_R nb_P 205 6 [(20, l0), (0, l1)] [(0, s0)] M = if s0 = 0 then nb_R nb_P 205 7 [(20, l0), (0, l1)] [] M else nb_R nb_P 205 9 [(20, l0), (0, l1)] [] M :=
  nb_step (c := true) rfl rfl
theorem q_m_leaves_7 (l0 : Int) (v1 : nb_V) (M : nb_M) (h1 : l0 ≠ 0) :
    nb_R nb_P 205 7 [(20, l0), v1] [] M = (nb_R nb_P 82 0 [(20, l0), (0, 5)] [] M).bind fun r => nb_R nb_P 205 8 [(20, l0), v1] (r.1 ++ []) r.2 :=
  nb_stepC (c := true) (L2 := [(20, l0), v1]) (S2 := [(0, 5), (20, l0)]) (M2 := M) (t := 8) (cl := 82) (vi := true) rfl rfl (nb_inv_eq (n := 2) rfl rfl rfl rfl rfl rfl (fun _ => h1) rfl)
theorem q_m_leaves_8 (s0 : Int) (v0 v1 : nb_V) (M : nb_M) :
    nb_R nb_P 205 8 [v0, v1] [(0, s0)] M = some ([(0, nb_i2z s0)], M) :=
  nb_step (c := true) rfl rfl
theorem q_m_leaves_9 (l0 l1 : Int) (M : nb_M) (h1 : l0 ≠ 0) :
    nb_R nb_P 205 9 [(20, l0), (0, l1)] [] M = (nb_R nb_P 200 0 [(20, l0), (98, 0)] [] M).bind fun r => nb_R nb_P 205 10 [(20, l0), (0, l1)] (r.1 ++ []) r.2 :=
  nb_stepC (c := true) (L2 := [(20, l0), (0, l1)]) (S2 := [(20, l0)]) (M2 := M) (t := 10) (cl := 200) (vi := true) rfl rfl (nb_inv_eq (n := 1) rfl rfl rfl rfl rfl rfl (fun _ => h1) rfl)
theorem q_m_leaves_10 (l0 l1 : Int) (M : nb_M) (h1 : l0 ≠ 0) (h2 : (nb_rd M l0 17) ≠ 0) (h3 : (nb_rd M l0 17) ≠ 1) (h4 : (0 : Int) ≤ nb_add (nb_add 12 (nb_mul 8 l1)) 0) (h5 : nb_add (nb_add 12 (nb_mul 8 l1)) 0 < nb_ln M (nb_rd M l0 17)) :
    nb_R nb_P 205 10 [(20, l0), (0, l1)] [] M = nb_R nb_P 205 11 [(20, l0), (0, l1)] [] (nb_wr M (nb_rd M l0 17) (nb_add (nb_add 12 (nb_mul 8 l1)) 0) 5) :=
  nb_step (c := ((true && !decide ((l0 : Int) = 0)) && (!decide ((nb_rd M l0 17 : Int) = 0) && (!decide ((nb_rd M l0 17 : Int) = 1) && (decide ((0 : Int) ≤ nb_add (nb_add 12 (nb_mul 8 l1)) 0) && decide (nb_add (nb_add 12 (nb_mul 8 l1)) 0 < nb_ln M (nb_rd M l0 17))))))) rfl (by simp [h1, h2, h3, h4, h5])
theorem q_m_leaves_11 (l0 l1 : Int) (M : nb_M) (h1 : l0 ≠ 0) (h2 : (nb_rd M l0 17) ≠ 0) (h3 : (0 : Int) ≤ 0) (h4 : 0 < nb_ln M (nb_rd M l0 17)) (h5 : (nb_rd M l0 17) ≠ 1) (h6 : (0 : Int) ≤ nb_add (nb_add 12 (nb_mul 8 l1)) 7) (h7 : nb_add (nb_add 12 (nb_mul 8 l1)) 7 < nb_ln M (nb_rd M l0 17)) :
    nb_R nb_P 205 11 [(20, l0), (0, l1)] [] M = nb_R nb_P 205 12 [(20, l0), (0, l1)] [] (nb_wr M (nb_rd M l0 17) (nb_add (nb_add 12 (nb_mul 8 l1)) 7) (nb_rd M (nb_rd M l0 17) 0)) :=
  nb_step (c := ((((true && !decide ((l0 : Int) = 0)) && !decide ((l0 : Int) = 0)) && (!decide ((nb_rd M l0 17 : Int) = 0) && (decide ((0 : Int) ≤ 0) && decide (0 < nb_ln M (nb_rd M l0 17))))) && (!decide ((nb_rd M l0 17 : Int) = 0) && (!decide ((nb_rd M l0 17 : Int) = 1) && (decide ((0 : Int) ≤ nb_add (nb_add 12 (nb_mul 8 l1)) 7) && decide (nb_add (nb_add 12 (nb_mul 8 l1)) 7 < nb_ln M (nb_rd M l0 17))))))) rfl (by simp [h1, h2, h3, h4, h5, h6, h7])
theorem q_m_leaves_12 (v0 v1 : nb_V) (M : nb_M) :
    nb_R nb_P 205 12 [v0, v1] [] M = some ([(0, 1)], M) :=
  nb_step (c := true) rfl rfl
theorem q_m_image_0 (l0 : Int) (M : nb_M) (h1 : l0 ≠ 0) :
    nb_R nb_P 207 0 [(20, l0)] [] M = (nb_R nb_P 79 0 [(20, l0)] [] M).bind fun r => nb_R nb_P 207 1 [(20, l0)] (r.1 ++ []) r.2 :=
  nb_stepC (c := true) (L2 := [(20, l0)]) (S2 := [(20, l0)]) (M2 := M) (t := 1) (cl := 79) (vi := true) rfl rfl (nb_inv_eq (n := 1) rfl rfl rfl rfl rfl rfl (fun _ => h1) rfl)
theorem q_m_image_1 (l0 : Int) (M : nb_M) (h1 : l0 ≠ 0) :
    nb_R nb_P 207 1 [(20, l0)] [] M = if nb_rd M l0 14 = 0 then nb_R nb_P 207 2 [(20, l0)] [] M else nb_R nb_P 207 4 [(20, l0)] [] M :=
  nb_step (c := (true && !decide ((l0 : Int) = 0))) rfl (by simp [h1])
theorem q_m_image_2 (l0 : Int) (M : nb_M) (h1 : l0 ≠ 0) :
    nb_R nb_P 207 2 [(20, l0)] [] M = (nb_R nb_P 80 0 [(20, l0), (0, 1)] [] M).bind fun r => nb_R nb_P 207 3 [(20, l0)] (r.1 ++ []) r.2 :=
  nb_stepC (c := true) (L2 := [(20, l0)]) (S2 := [(0, 1), (20, l0)]) (M2 := M) (t := 3) (cl := 80) (vi := true) rfl rfl (nb_inv_eq (n := 2) rfl rfl rfl rfl rfl rfl (fun _ => h1) rfl)
theorem q_m_image_3 (s0 : Int) (v0 : nb_V) (M : nb_M) :
    nb_R nb_P 207 3 [v0] [(0, s0)] M = some ([(0, s0)], M) :=
  nb_step (c := true) rfl rfl
theorem q_m_image_4 (l0 : Int) (M : nb_M) (h1 : l0 ≠ 0) :
    nb_R nb_P 207 4 [(20, l0)] [] M = if nb_rd M l0 22 = 3 then nb_R nb_P 207 5 [(20, l0)] [] M else nb_R nb_P 207 7 [(20, l0)] [] M :=
  nb_step (c := (true && !decide ((l0 : Int) = 0))) rfl (by simp [h1])
theorem q_m_image_5 (l0 : Int) (M : nb_M) (h1 : l0 ≠ 0) :
    nb_R nb_P 207 5 [(20, l0)] [] M = (nb_R nb_P 80 0 [(20, l0), (0, 3)] [] M).bind fun r => nb_R nb_P 207 6 [(20, l0)] (r.1 ++ []) r.2 :=
  nb_stepC (c := true) (L2 := [(20, l0)]) (S2 := [(0, 3), (20, l0)]) (M2 := M) (t := 6) (cl := 80) (vi := true) rfl rfl (nb_inv_eq (n := 2) rfl rfl rfl rfl rfl rfl (fun _ => h1) rfl)
theorem q_m_image_6 (s0 : Int) (v0 : nb_V) (M : nb_M) :
    nb_R nb_P 207 6 [v0] [(0, s0)] M = some ([(0, s0)], M) :=
  nb_step (c := true) rfl rfl
theorem q_m_image_7 (l0 : Int) (M : nb_M) (h1 : l0 ≠ 0) :
    nb_R nb_P 207 7 [(20, l0)] [] M = (nb_R nb_P 86 0 [(3, nb_rd M l0 17), (0, 0), (3, nb_rd M l0 20), (0, nb_mul 108 (nb_rd M l0 22)), (0, 108), (98, 0)] [] M).bind fun r => nb_R nb_P 207 8 [(20, l0)] (r.1 ++ []) r.2 :=
  nb_stepC (c := (((true && !decide ((l0 : Int) = 0)) && !decide ((l0 : Int) = 0)) && !decide ((l0 : Int) = 0))) (L2 := [(20, l0)]) (S2 := [(0, 108), (0, nb_mul 108 (nb_rd M l0 22)), (3, nb_rd M l0 20), (0, 0), (3, nb_rd M l0 17)]) (M2 := M) (t := 8) (cl := 86) (vi := false) rfl (by simp [h1]) (nb_inv_eq (n := 5) rfl rfl rfl rfl rfl rfl (fun h => by cases h) rfl)
theorem q_m_image_8 (l0 : Int) (M : nb_M) (h1 : l0 ≠ 0) :
    nb_R nb_P 207 8 [(20, l0)] [] M = nb_R nb_P 207 9 [(20, l0)] [] (nb_wr M l0 22 (nb_add (nb_rd M l0 22) 1)) :=
  nb_step (c := ((true && !decide ((l0 : Int) = 0)) && (!decide ((l0 : Int) = 0) && (!false || (decide ((nb_add (nb_rd M l0 22) 1 : Int) = 0) || decide ((nb_add (nb_rd M l0 22) 1 : Int) = 1)))))) rfl (by simp [h1])
theorem q_m_image_9 (l0 : Int) (M : nb_M) (h1 : l0 ≠ 0) :
    nb_R nb_P 207 9 [(20, l0)] [] M = some ([(0, nb_sub (nb_rd M l0 22) 1)], M) :=
  nb_step (c := (true && !decide ((l0 : Int) = 0))) rfl (by simp [h1])
theorem q_m_told_0 (l0 l1 l2 : Int) (v3 : nb_V) (M : nb_M) (h1 : l0 ≠ 0) :
    nb_R nb_P 209 0 [(20, l0), (0, l1), (0, l2), v3] [] M = (nb_R nb_P 79 0 [(20, l0)] [] M).bind fun r => nb_R nb_P 209 1 [(20, l0), (0, l1), (0, l2), v3] (r.1 ++ []) r.2 :=
  nb_stepC (c := true) (L2 := [(20, l0), (0, l1), (0, l2), v3]) (S2 := [(20, l0)]) (M2 := M) (t := 1) (cl := 79) (vi := true) rfl rfl (nb_inv_eq (n := 1) rfl rfl rfl rfl rfl rfl (fun _ => h1) rfl)
theorem q_m_told_1 (l0 l1 l2 : Int) (v3 : nb_V) (M : nb_M) (h1 : l0 ≠ 0) :
    nb_R nb_P 209 1 [(20, l0), (0, l1), (0, l2), v3] [] M = (nb_R nb_P 116 0 [(20, l0), (0, l1)] [] M).bind fun r => nb_R nb_P 209 2 [(20, l0), (0, l1), (0, l2), v3] (r.1 ++ []) r.2 :=
  nb_stepC (c := true) (L2 := [(20, l0), (0, l1), (0, l2), v3]) (S2 := [(0, l1), (20, l0)]) (M2 := M) (t := 2) (cl := 116) (vi := true) rfl rfl (nb_inv_eq (n := 2) rfl rfl rfl rfl rfl rfl (fun _ => h1) rfl)
theorem q_m_told_2 (l0 l1 l2 s0 : Int) (v3 : nb_V) (M : nb_M) :
    nb_R nb_P 209 2 [(20, l0), (0, l1), (0, l2), v3] [(0, s0)] M = if s0 = 0 then nb_R nb_P 209 5 [(20, l0), (0, l1), (0, l2), v3] [] M else nb_R nb_P 209 3 [(20, l0), (0, l1), (0, l2), v3] [] M :=
  nb_step (c := true) rfl rfl
theorem q_m_told_3 (l0 l1 l2 : Int) (v3 : nb_V) (M : nb_M) :
    nb_R nb_P 209 3 [(20, l0), (0, l1), (0, l2), v3] [] M = (nb_R nb_P 83 0 [(0, l2), (0, 0), (0, 6)] [] M).bind fun r => nb_R nb_P 209 4 [(20, l0), (0, l1), (0, l2), v3] (r.1 ++ []) r.2 :=
  nb_stepC (c := true) (L2 := [(20, l0), (0, l1), (0, l2), v3]) (S2 := [(0, 6), (0, 0), (0, l2)]) (M2 := M) (t := 4) (cl := 83) (vi := false) rfl rfl (nb_inv_eq (n := 3) rfl rfl rfl rfl rfl rfl (fun h => by cases h) rfl)
theorem q_m_told_4 (l0 l1 l2 s0 : Int) (v3 : nb_V) (M : nb_M) :
    nb_R nb_P 209 4 [(20, l0), (0, l1), (0, l2), v3] [(0, s0)] M = if s0 = 0 then nb_R nb_P 209 5 [(20, l0), (0, l1), (0, l2), v3] [] M else nb_R nb_P 209 7 [(20, l0), (0, l1), (0, l2), v3] [] M :=
  nb_step (c := true) rfl rfl
theorem q_m_told_5 (l0 : Int) (v1 v2 v3 : nb_V) (M : nb_M) (h1 : l0 ≠ 0) :
    nb_R nb_P 209 5 [(20, l0), v1, v2, v3] [] M = (nb_R nb_P 80 0 [(20, l0), (0, 1)] [] M).bind fun r => nb_R nb_P 209 6 [(20, l0), v1, v2, v3] (r.1 ++ []) r.2 :=
  nb_stepC (c := true) (L2 := [(20, l0), v1, v2, v3]) (S2 := [(0, 1), (20, l0)]) (M2 := M) (t := 6) (cl := 80) (vi := true) rfl rfl (nb_inv_eq (n := 2) rfl rfl rfl rfl rfl rfl (fun _ => h1) rfl)
theorem q_m_told_6 (s0 : Int) (v0 v1 v2 v3 : nb_V) (M : nb_M) :
    nb_R nb_P 209 6 [v0, v1, v2, v3] [(0, s0)] M = some ([(0, s0)], M) :=
  nb_step (c := true) rfl rfl
theorem q_m_told_7 (l0 l1 l2 : Int) (v3 : nb_V) (M : nb_M) (h1 : l0 ≠ 0) (h2 : (nb_rd M l0 15) ≠ 0) (h3 : (0 : Int) ≤ nb_add (nb_add 41 (nb_mul 7 l1)) l2) (h4 : nb_add (nb_add 41 (nb_mul 7 l1)) l2 < nb_ln M (nb_rd M l0 15)) :
    nb_R nb_P 209 7 [(20, l0), (0, l1), (0, l2), v3] [] M = if l2 < 6 then nb_R nb_P 209 8 [(20, l0), (0, l1), (0, l2), (0, nb_rd M (nb_rd M l0 15) (nb_add (nb_add 41 (nb_mul 7 l1)) l2))] [] M else nb_R nb_P 209 9 [(20, l0), (0, l1), (0, l2), (0, nb_rd M (nb_rd M l0 15) (nb_add (nb_add 41 (nb_mul 7 l1)) l2))] [] M :=
  nb_step (c := ((true && !decide ((l0 : Int) = 0)) && (!decide ((nb_rd M l0 15 : Int) = 0) && (decide ((0 : Int) ≤ nb_add (nb_add 41 (nb_mul 7 l1)) l2) && decide (nb_add (nb_add 41 (nb_mul 7 l1)) l2 < nb_ln M (nb_rd M l0 15)))))) rfl (by simp [h1, h2, h3, h4])
theorem q_m_told_8 (l3 : Int) (v0 v1 v2 : nb_V) (M : nb_M) :
    nb_R nb_P 209 8 [v0, v1, v2, (0, l3)] [] M = nb_R nb_P 209 12 [v0, v1, v2, (0, l3)] [(0, l3)] M :=
  nb_step (c := true) rfl rfl
theorem q_m_told_9 (l3 : Int) (v0 v1 v2 : nb_V) (M : nb_M) :
    nb_R nb_P 209 9 [v0, v1, v2, (0, l3)] [] M = if l3 = 0 then nb_R nb_P 209 10 [v0, v1, v2, (0, l3)] [] M else nb_R nb_P 209 11 [v0, v1, v2, (0, l3)] [] M :=
  nb_step (c := true) rfl rfl
theorem q_m_told_10 (v0 v1 v2 v3 : nb_V) (M : nb_M) :
    nb_R nb_P 209 10 [v0, v1, v2, v3] [] M = nb_R nb_P 209 12 [v0, v1, v2, v3] [(0, (-2))] M :=
  nb_step (c := true) rfl rfl
theorem q_m_told_11 (l3 : Int) (v0 v1 v2 : nb_V) (M : nb_M) :
    nb_R nb_P 209 11 [v0, v1, v2, (0, l3)] [] M = nb_R nb_P 209 12 [v0, v1, v2, (0, l3)] [(0, nb_sub l3 1)] M :=
  nb_step (c := true) rfl rfl
theorem q_m_told_12 (s0 : Int) (v0 v1 v2 v3 : nb_V) (M : nb_M) :
    nb_R nb_P 209 12 [v0, v1, v2, v3] [(0, s0)] M = some ([(0, s0)], M) :=
  nb_step (c := true) rfl rfl
theorem q_m_led_0 (l0 l1 : Int) (v2 v3 : nb_V) (M : nb_M) :
    nb_R nb_P 211 0 [(20, l0), (0, l1), v2, v3] [] M = nb_R nb_P 211 1 [(20, l0), (0, l1), (0, 0), (0, 0)] [] M :=
  nb_step (c := true) rfl rfl
theorem q_m_led_1 (l0 l1 l2 l3 : Int) (M : nb_M) (h1 : l0 ≠ 0) :
    nb_R nb_P 211 1 [(20, l0), (0, l1), (0, l2), (0, l3)] [] M = if nb_rd M l0 14 = 0 then nb_R nb_P 211 11 [(20, l0), (0, l1), (0, l2), (0, l3)] [] M else nb_R nb_P 211 2 [(20, l0), (0, l1), (0, l2), (0, l3)] [] M :=
  nb_step (c := (true && !decide ((l0 : Int) = 0))) rfl (by simp [h1])
theorem q_m_led_2 (l0 l1 l2 l3 : Int) (M : nb_M) (h1 : l0 ≠ 0) (h2 : (nb_rd M l0 15) ≠ 0) (h3 : (0 : Int) ≤ 5) (h4 : 5 < nb_ln M (nb_rd M l0 15)) :
    nb_R nb_P 211 2 [(20, l0), (0, l1), (0, l2), (0, l3)] [] M = if l3 < nb_rd M (nb_rd M l0 15) 5 then nb_R nb_P 211 3 [(20, l0), (0, l1), (0, l2), (0, l3)] [] M else nb_R nb_P 211 11 [(20, l0), (0, l1), (0, l2), (0, l3)] [] M :=
  nb_step (c := ((true && !decide ((l0 : Int) = 0)) && (!decide ((nb_rd M l0 15 : Int) = 0) && (decide ((0 : Int) ≤ 5) && decide (5 < nb_ln M (nb_rd M l0 15)))))) rfl (by simp [h1, h2, h3, h4])
theorem q_m_led_3 (l0 l1 l2 l3 : Int) (M : nb_M) (h1 : l0 ≠ 0) :
    nb_R nb_P 211 3 [(20, l0), (0, l1), (0, l2), (0, l3)] [] M = (nb_R nb_P 126 0 [(3, nb_rd M l0 17), (0, l3)] [] M).bind fun r => nb_R nb_P 211 4 [(20, l0), (0, l1), (0, l2), (0, l3)] (r.1 ++ []) r.2 :=
  nb_stepC (c := (true && !decide ((l0 : Int) = 0))) (L2 := [(20, l0), (0, l1), (0, l2), (0, l3)]) (S2 := [(0, l3), (3, nb_rd M l0 17)]) (M2 := M) (t := 4) (cl := 126) (vi := false) rfl (by simp [h1]) (nb_inv_eq (n := 2) rfl rfl rfl rfl rfl rfl (fun h => by cases h) rfl)
theorem q_m_led_4 (l0 l1 l2 l3 s0 : Int) (M : nb_M) :
    nb_R nb_P 211 4 [(20, l0), (0, l1), (0, l2), (0, l3)] [(0, s0)] M = if s0 = 0 then nb_R nb_P 211 5 [(20, l0), (0, l1), (0, l2), (0, l3)] [] M else nb_R nb_P 211 6 [(20, l0), (0, l1), (0, l2), (0, l3)] [] M :=
  nb_step (c := true) rfl rfl
theorem q_m_led_5 (l0 l1 l2 l3 : Int) (M : nb_M) :
    nb_R nb_P 211 5 [(20, l0), (0, l1), (0, l2), (0, l3)] [] M = nb_R nb_P 211 10 [(20, l0), (0, l1), (0, l2), (0, l3)] [] M :=
  nb_step (c := true) rfl rfl
theorem q_m_led_6 (l0 l1 l2 l3 : Int) (M : nb_M) :
    nb_R nb_P 211 6 [(20, l0), (0, l1), (0, l2), (0, l3)] [] M = if l2 = l1 then nb_R nb_P 211 7 [(20, l0), (0, l1), (0, l2), (0, l3)] [] M else nb_R nb_P 211 9 [(20, l0), (0, l1), (0, l2), (0, l3)] [] M :=
  nb_step (c := true) rfl rfl
theorem q_m_led_7 (l0 l3 : Int) (v1 v2 : nb_V) (M : nb_M) (h1 : l0 ≠ 0) :
    nb_R nb_P 211 7 [(20, l0), v1, v2, (0, l3)] [] M = nb_R nb_P 211 8 [(20, l0), v1, v2, (0, l3)] [] (nb_wr M l0 0 0) :=
  nb_step (c := (true && (!decide ((l0 : Int) = 0) && (!false || (decide ((0 : Int) = 0) || decide ((0 : Int) = 1)))))) rfl (by simp [h1])
theorem q_m_led_8 (l3 : Int) (v0 v1 v2 : nb_V) (M : nb_M) :
    nb_R nb_P 211 8 [v0, v1, v2, (0, l3)] [] M = some ([(0, l3)], M) :=
  nb_step (c := true) rfl rfl
theorem q_m_led_9 (l0 l1 l2 l3 : Int) (M : nb_M) :
    nb_R nb_P 211 9 [(20, l0), (0, l1), (0, l2), (0, l3)] [] M = nb_R nb_P 211 10 [(20, l0), (0, l1), (0, nb_add l2 1), (0, l3)] [] M :=
  nb_step (c := true) rfl rfl
theorem q_m_led_10 (l0 l1 l2 l3 : Int) (M : nb_M) :
    nb_R nb_P 211 10 [(20, l0), (0, l1), (0, l2), (0, l3)] [] M = nb_R nb_P 211 1 [(20, l0), (0, l1), (0, l2), (0, nb_add l3 1)] [] M :=
  nb_step (c := true) rfl rfl
theorem q_m_led_11 (l0 : Int) (v1 v2 v3 : nb_V) (M : nb_M) (h1 : l0 ≠ 0) :
    nb_R nb_P 211 11 [(20, l0), v1, v2, v3] [] M = nb_R nb_P 211 12 [(20, l0), v1, v2, v3] [] (nb_wr M l0 0 1) :=
  nb_step (c := (true && (!decide ((l0 : Int) = 0) && (!false || (decide ((1 : Int) = 0) || decide ((1 : Int) = 1)))))) rfl (by simp [h1])
theorem q_m_led_12 (v0 v1 v2 v3 : nb_V) (M : nb_M) :
    nb_R nb_P 211 12 [v0, v1, v2, v3] [] M = some ([(0, 0)], M) :=
  nb_step (c := true) rfl rfl
theorem q_m_trouble_0 (l0 : Int) (M : nb_M) (h1 : l0 ≠ 0) :
    nb_R nb_P 213 0 [(20, l0)] [] M = nb_R nb_P 213 1 [(20, l0)] [] (nb_wr M l0 0 0) :=
  nb_step (c := (true && (!decide ((l0 : Int) = 0) && (!false || (decide ((0 : Int) = 0) || decide ((0 : Int) = 1)))))) rfl (by simp [h1])
theorem q_m_trouble_1 (l0 : Int) (M : nb_M) (h1 : l0 ≠ 0) :
    nb_R nb_P 213 1 [(20, l0)] [] M = some ([(0, nb_rd M l0 11)], M) :=
  nb_step (c := (true && !decide ((l0 : Int) = 0))) rfl (by simp [h1])
