/-! block equations, printed by wip/gen/emit.py -/
theorem q_g_init_0 (l0 : Int) (M : nb_M) (h1 : l0 ≠ 0) :
    nb_R nb_P 214 0 [(11, l0)] [] M = ((some ([], M) : nb_A)).bind fun r => nb_R nb_P 214 1 [(11, l0)] (r.1 ++ []) r.2 :=
  nb_stepC (c := true) (L2 := [(11, l0)]) (S2 := [(11, l0)]) (M2 := M) (t := 1) (cl := 900) (vi := true) rfl rfl (nb_inv_eq (n := 1) rfl rfl rfl rfl rfl rfl (fun _ => h1) rfl)
theorem q_g_init_1 (l0 : Int) (M : nb_M) (h1 : l0 ≠ 0) :
    nb_R nb_P 214 1 [(11, l0)] [] M = nb_R nb_P 214 2 [(11, l0)] [] (nb_wr M l0 6 ((-2))) :=
  nb_step (c := (true && (!decide ((l0 : Int) = 0) && (!false || (decide (((-2) : Int) = 0) || decide (((-2) : Int) = 1)))))) rfl (by simp [h1])
theorem q_g_init_2 (l0 : Int) (M : nb_M) (h1 : l0 ≠ 0) :
    nb_R nb_P 214 2 [(11, l0)] [] M = nb_R nb_P 214 3 [(11, l0)] [] (nb_wr M l0 8 0) :=
  nb_step (c := (true && (!decide ((l0 : Int) = 0) && (!false || (decide ((0 : Int) = 0) || decide ((0 : Int) = 1)))))) rfl (by simp [h1])
theorem q_g_init_3 (l0 : Int) (M : nb_M) (h1 : l0 ≠ 0) :
    nb_R nb_P 214 3 [(11, l0)] [] M = nb_R nb_P 214 4 [(11, l0)] [] (nb_wr M l0 9 ((-2))) :=
  nb_step (c := (true && (!decide ((l0 : Int) = 0) && (!false || (decide (((-2) : Int) = 0) || decide (((-2) : Int) = 1)))))) rfl (by simp [h1])
theorem q_g_init_4 (l0 : Int) (M : nb_M) (h1 : l0 ≠ 0) :
    nb_R nb_P 214 4 [(11, l0)] [] M = nb_R nb_P 214 5 [(11, l0)] [] (nb_wr M l0 10 ((-2))) :=
  nb_step (c := (true && (!decide ((l0 : Int) = 0) && (!false || (decide (((-2) : Int) = 0) || decide (((-2) : Int) = 1)))))) rfl (by simp [h1])
theorem q_g_init_5 (l0 : Int) (M : nb_M) (h1 : l0 ≠ 0) :
    nb_R nb_P 214 5 [(11, l0)] [] M = nb_R nb_P 214 6 [(11, l0)] [] (nb_wr M l0 12 ((-2))) :=
  nb_step (c := (true && (!decide ((l0 : Int) = 0) && (!false || (decide (((-2) : Int) = 0) || decide (((-2) : Int) = 1)))))) rfl (by simp [h1])
theorem q_g_init_6 (v0 : nb_V) (M : nb_M) :
    nb_R nb_P 214 6 [v0] [] M = some ([], M) :=
  nb_step (c := true) rfl rfl
theorem q_g_take_0 (l0 l1 : Int) (M : nb_M) (h1 : l1 ≠ 0) (h2 : l0 ≠ 0) :
    nb_R nb_P 215 0 [(11, l0), (11, l1)] [] M = nb_R nb_P 215 1 [(11, l0), (11, l1)] [] (nb_wr M l0 0 (nb_rd M l1 0)) :=
  nb_step (c := ((true && !decide ((l1 : Int) = 0)) && (!decide ((l0 : Int) = 0) && (!false || (decide ((nb_rd M l1 0 : Int) = 0) || decide ((nb_rd M l1 0 : Int) = 1)))))) rfl (by simp [h1, h2])
theorem q_g_take_1 (l0 l1 : Int) (M : nb_M) (h1 : l1 ≠ 0) (h2 : l0 ≠ 0) :
    nb_R nb_P 215 1 [(11, l0), (11, l1)] [] M = nb_R nb_P 215 2 [(11, l0), (11, l1)] [] (nb_wr M l0 1 (nb_rd M l1 1)) :=
  nb_step (c := ((true && !decide ((l1 : Int) = 0)) && (!decide ((l0 : Int) = 0) && (!false || (decide ((nb_rd M l1 1 : Int) = 0) || decide ((nb_rd M l1 1 : Int) = 1)))))) rfl (by simp [h1, h2])
theorem q_g_take_2 (l0 l1 : Int) (M : nb_M) (h1 : l1 ≠ 0) (h2 : l0 ≠ 0) :
    nb_R nb_P 215 2 [(11, l0), (11, l1)] [] M = nb_R nb_P 215 3 [(11, l0), (11, l1)] [] (nb_wr M l0 2 (nb_rd M l1 2)) :=
  nb_step (c := ((true && !decide ((l1 : Int) = 0)) && (!decide ((l0 : Int) = 0) && (!false || (decide ((nb_rd M l1 2 : Int) = 0) || decide ((nb_rd M l1 2 : Int) = 1)))))) rfl (by simp [h1, h2])
theorem q_g_take_3 (l0 l1 : Int) (M : nb_M) (h1 : l1 ≠ 0) (h2 : l0 ≠ 0) :
    nb_R nb_P 215 3 [(11, l0), (11, l1)] [] M = nb_R nb_P 215 4 [(11, l0), (11, l1)] [] (nb_wr M l0 3 (nb_rd M l1 3)) :=
  nb_step (c := ((true && !decide ((l1 : Int) = 0)) && (!decide ((l0 : Int) = 0) && (!false || (decide ((nb_rd M l1 3 : Int) = 0) || decide ((nb_rd M l1 3 : Int) = 1)))))) rfl (by simp [h1, h2])
theorem q_g_take_4 (l0 l1 : Int) (M : nb_M) (h1 : l1 ≠ 0) (h2 : l0 ≠ 0) :
    nb_R nb_P 215 4 [(11, l0), (11, l1)] [] M = nb_R nb_P 215 5 [(11, l0), (11, l1)] [] (nb_wr M l0 4 (nb_rd M l1 4)) :=
  nb_step (c := ((true && !decide ((l1 : Int) = 0)) && (!decide ((l0 : Int) = 0) && (!false || (decide ((nb_rd M l1 4 : Int) = 0) || decide ((nb_rd M l1 4 : Int) = 1)))))) rfl (by simp [h1, h2])
theorem q_g_take_5 (l0 l1 : Int) (M : nb_M) (h1 : l1 ≠ 0) (h2 : l0 ≠ 0) :
    nb_R nb_P 215 5 [(11, l0), (11, l1)] [] M = nb_R nb_P 215 6 [(11, l0), (11, l1)] [] (nb_wr M l0 5 (nb_rd M l1 5)) :=
  nb_step (c := ((true && !decide ((l1 : Int) = 0)) && (!decide ((l0 : Int) = 0) && (!false || (decide ((nb_rd M l1 5 : Int) = 0) || decide ((nb_rd M l1 5 : Int) = 1)))))) rfl (by simp [h1, h2])
theorem q_g_take_6 (l0 l1 : Int) (M : nb_M) (h1 : l1 ≠ 0) (h2 : l0 ≠ 0) :
    nb_R nb_P 215 6 [(11, l0), (11, l1)] [] M = nb_R nb_P 215 7 [(11, l0), (11, l1)] [] (nb_wr M l0 6 (nb_rd M l1 6)) :=
  nb_step (c := ((true && !decide ((l1 : Int) = 0)) && (!decide ((l0 : Int) = 0) && (!false || (decide ((nb_rd M l1 6 : Int) = 0) || decide ((nb_rd M l1 6 : Int) = 1)))))) rfl (by simp [h1, h2])
theorem q_g_take_7 (l0 l1 : Int) (M : nb_M) (h1 : l1 ≠ 0) (h2 : l0 ≠ 0) :
    nb_R nb_P 215 7 [(11, l0), (11, l1)] [] M = nb_R nb_P 215 8 [(11, l0), (11, l1)] [] (nb_wr M l0 7 (nb_rd M l1 7)) :=
  nb_step (c := ((true && !decide ((l1 : Int) = 0)) && (!decide ((l0 : Int) = 0) && (!false || (decide ((nb_rd M l1 7 : Int) = 0) || decide ((nb_rd M l1 7 : Int) = 1)))))) rfl (by simp [h1, h2])
theorem q_g_take_8 (l0 l1 : Int) (M : nb_M) (h1 : l1 ≠ 0) (h2 : l0 ≠ 0) :
    nb_R nb_P 215 8 [(11, l0), (11, l1)] [] M = nb_R nb_P 215 9 [(11, l0), (11, l1)] [] (nb_wr M l0 8 (nb_rd M l1 8)) :=
  nb_step (c := ((true && !decide ((l1 : Int) = 0)) && (!decide ((l0 : Int) = 0) && (!false || (decide ((nb_rd M l1 8 : Int) = 0) || decide ((nb_rd M l1 8 : Int) = 1)))))) rfl (by simp [h1, h2])
theorem q_g_take_9 (l0 l1 : Int) (M : nb_M) (h1 : l1 ≠ 0) (h2 : l0 ≠ 0) :
    nb_R nb_P 215 9 [(11, l0), (11, l1)] [] M = nb_R nb_P 215 10 [(11, l0), (11, l1)] [] (nb_wr M l0 9 (nb_rd M l1 9)) :=
  nb_step (c := ((true && !decide ((l1 : Int) = 0)) && (!decide ((l0 : Int) = 0) && (!false || (decide ((nb_rd M l1 9 : Int) = 0) || decide ((nb_rd M l1 9 : Int) = 1)))))) rfl (by simp [h1, h2])
theorem q_g_take_10 (l0 l1 : Int) (M : nb_M) (h1 : l1 ≠ 0) (h2 : l0 ≠ 0) :
    nb_R nb_P 215 10 [(11, l0), (11, l1)] [] M = nb_R nb_P 215 11 [(11, l0), (11, l1)] [] (nb_wr M l0 10 (nb_rd M l1 10)) :=
  nb_step (c := ((true && !decide ((l1 : Int) = 0)) && (!decide ((l0 : Int) = 0) && (!false || (decide ((nb_rd M l1 10 : Int) = 0) || decide ((nb_rd M l1 10 : Int) = 1)))))) rfl (by simp [h1, h2])
theorem q_g_take_11 (l0 l1 : Int) (M : nb_M) (h1 : l1 ≠ 0) (h2 : l0 ≠ 0) :
    nb_R nb_P 215 11 [(11, l0), (11, l1)] [] M = nb_R nb_P 215 12 [(11, l0), (11, l1)] [] (nb_wr M l0 11 (nb_rd M l1 11)) :=
  nb_step (c := ((true && !decide ((l1 : Int) = 0)) && (!decide ((l0 : Int) = 0) && (!false || (decide ((nb_rd M l1 11 : Int) = 0) || decide ((nb_rd M l1 11 : Int) = 1)))))) rfl (by simp [h1, h2])
theorem q_g_take_12 (l0 l1 : Int) (M : nb_M) (h1 : l1 ≠ 0) (h2 : l0 ≠ 0) :
    nb_R nb_P 215 12 [(11, l0), (11, l1)] [] M = nb_R nb_P 215 13 [(11, l0), (11, l1)] [] (nb_wr M l0 12 (nb_rd M l1 12)) :=
  nb_step (c := ((true && !decide ((l1 : Int) = 0)) && (!decide ((l0 : Int) = 0) && (!false || (decide ((nb_rd M l1 12 : Int) = 0) || decide ((nb_rd M l1 12 : Int) = 1)))))) rfl (by simp [h1, h2])
theorem q_g_take_13 (l0 l1 : Int) (M : nb_M) (h1 : l1 ≠ 0) (h2 : l0 ≠ 0) :
    nb_R nb_P 215 13 [(11, l0), (11, l1)] [] M = nb_R nb_P 215 14 [(11, l0), (11, l1)] [] (nb_wr M l0 13 (nb_rd M l1 13)) :=
  nb_step (c := ((true && !decide ((l1 : Int) = 0)) && (!decide ((l0 : Int) = 0) && (!false || (decide ((nb_rd M l1 13 : Int) = 0) || decide ((nb_rd M l1 13 : Int) = 1)))))) rfl (by simp [h1, h2])
theorem q_g_take_14 (l0 l1 : Int) (M : nb_M) (h1 : l1 ≠ 0) (h2 : l0 ≠ 0) :
    nb_R nb_P 215 14 [(11, l0), (11, l1)] [] M = nb_R nb_P 215 15 [(11, l0), (11, l1)] [] (nb_wr M l0 14 (nb_rd M l1 14)) :=
  nb_step (c := ((true && !decide ((l1 : Int) = 0)) && (!decide ((l0 : Int) = 0) && (!false || (decide ((nb_rd M l1 14 : Int) = 0) || decide ((nb_rd M l1 14 : Int) = 1)))))) rfl (by simp [h1, h2])
theorem q_g_take_15 (v0 v1 : nb_V) (M : nb_M) :
    nb_R nb_P 215 15 [v0, v1] [] M = some ([], M) :=
  nb_step (c := true) rfl rfl
theorem q_g_behave_0 (l0 l1 l2 : Int) (M : nb_M) (h1 : l0 ≠ 0) :
    nb_R nb_P 216 0 [(11, l0), (0, l1), (0, l2)] [] M = nb_R nb_P 216 1 [(11, l0), (0, l1), (0, l2)] [] (nb_wr M l0 0 l1) :=
  nb_step (c := (true && (!decide ((l0 : Int) = 0) && (!false || (decide ((l1 : Int) = 0) || decide ((l1 : Int) = 1)))))) rfl (by simp [h1])
theorem q_g_behave_1 (l0 l2 : Int) (v1 : nb_V) (M : nb_M) (h1 : l0 ≠ 0) :
    nb_R nb_P 216 1 [(11, l0), v1, (0, l2)] [] M = nb_R nb_P 216 2 [(11, l0), v1, (0, l2)] [] (nb_wr M l0 1 l2) :=
  nb_step (c := (true && (!decide ((l0 : Int) = 0) && (!false || (decide ((l2 : Int) = 0) || decide ((l2 : Int) = 1)))))) rfl (by simp [h1])
theorem q_g_behave_2 (l0 : Int) (v1 v2 : nb_V) (M : nb_M) (h1 : l0 ≠ 0) :
    nb_R nb_P 216 2 [(11, l0), v1, v2] [] M = nb_R nb_P 216 3 [(11, l0), v1, v2] [] (nb_wr M l0 7 (nb_rd M l0 2)) :=
  nb_step (c := ((true && !decide ((l0 : Int) = 0)) && (!decide ((l0 : Int) = 0) && (!false || (decide ((nb_rd M l0 2 : Int) = 0) || decide ((nb_rd M l0 2 : Int) = 1)))))) rfl (by simp [h1])
theorem q_g_behave_3 (l0 : Int) (v1 v2 : nb_V) (M : nb_M) (h1 : l0 ≠ 0) :
    nb_R nb_P 216 3 [(11, l0), v1, v2] [] M = if nb_rd M l0 0 = 1 then nb_R nb_P 216 4 [(11, l0), v1, v2] [] M else nb_R nb_P 216 6 [(11, l0), v1, v2] [] M :=
  nb_step (c := (true && !decide ((l0 : Int) = 0))) rfl (by simp [h1])
theorem q_g_behave_4 (l0 : Int) (v1 v2 : nb_V) (M : nb_M) (h1 : l0 ≠ 0) :
    nb_R nb_P 216 4 [(11, l0), v1, v2] [] M = nb_R nb_P 216 5 [(11, l0), v1, v2] [] (nb_wr M l0 7 (nb_sub (nb_rd M l0 2) (nb_rd M l0 1))) :=
  nb_step (c := (((true && !decide ((l0 : Int) = 0)) && !decide ((l0 : Int) = 0)) && (!decide ((l0 : Int) = 0) && (!false || (decide ((nb_sub (nb_rd M l0 2) (nb_rd M l0 1) : Int) = 0) || decide ((nb_sub (nb_rd M l0 2) (nb_rd M l0 1) : Int) = 1)))))) rfl (by simp [h1])
theorem q_g_behave_5 (v0 v1 v2 : nb_V) (M : nb_M) :
    nb_R nb_P 216 5 [v0, v1, v2] [] M = nb_R nb_P 216 8 [v0, v1, v2] [] M :=
  nb_step (c := true) rfl rfl
theorem q_g_behave_6 (l0 : Int) (v1 v2 : nb_V) (M : nb_M) (h1 : l0 ≠ 0) :
    nb_R nb_P 216 6 [(11, l0), v1, v2] [] M = if nb_rd M l0 0 = 2 then nb_R nb_P 216 7 [(11, l0), v1, v2] [] M else nb_R nb_P 216 8 [(11, l0), v1, v2] [] M :=
  nb_step (c := (true && !decide ((l0 : Int) = 0))) rfl (by simp [h1])
theorem q_g_behave_7 (l0 : Int) (v1 v2 : nb_V) (M : nb_M) (h1 : l0 ≠ 0) :
    nb_R nb_P 216 7 [(11, l0), v1, v2] [] M = nb_R nb_P 216 8 [(11, l0), v1, v2] [] (nb_wr M l0 7 (nb_add (nb_rd M l0 2) (nb_rd M l0 1))) :=
  nb_step (c := (((true && !decide ((l0 : Int) = 0)) && !decide ((l0 : Int) = 0)) && (!decide ((l0 : Int) = 0) && (!false || (decide ((nb_add (nb_rd M l0 2) (nb_rd M l0 1) : Int) = 0) || decide ((nb_add (nb_rd M l0 2) (nb_rd M l0 1) : Int) = 1)))))) rfl (by simp [h1])
theorem q_g_behave_8 (v0 v1 v2 : nb_V) (M : nb_M) :
    nb_R nb_P 216 8 [v0, v1, v2] [] M = some ([], M) :=
  nb_step (c := true) rfl rfl
theorem q_g_isServed_0 (l0 : Int) (M : nb_M) (h1 : l0 ≠ 0) :
    nb_R nb_P 217 0 [(11, l0)] [] M = if nb_rd M l0 8 = 2 then nb_R nb_P 217 2 [(11, l0)] [] M else nb_R nb_P 217 1 [(11, l0)] [] M :=
  nb_step (c := (true && !decide ((l0 : Int) = 0))) rfl (by simp [h1])
theorem q_g_isServed_1 (l0 : Int) (M : nb_M) (h1 : l0 ≠ 0) :
    nb_R nb_P 217 1 [(11, l0)] [] M = if nb_rd M l0 8 = 3 then nb_R nb_P 217 2 [(11, l0)] [] M else nb_R nb_P 217 3 [(11, l0)] [] M :=
  nb_step (c := (true && !decide ((l0 : Int) = 0))) rfl (by simp [h1])
theorem q_g_isServed_2 (v0 : nb_V) (M : nb_M) :
    nb_R nb_P 217 2 [v0] [] M = nb_R nb_P 217 4 [v0] [(0, 1)] M :=
  nb_step (c := true) rfl rfl
theorem q_g_isServed_3 (v0 : nb_V) (M : nb_M) :
    nb_R nb_P 217 3 [v0] [] M = nb_R nb_P 217 4 [v0] [(0, 0)] M :=
  nb_step (c := true) rfl rfl
theorem q_g_isServed_4 (s0 : Int) (v0 : nb_V) (M : nb_M) :
    nb_R nb_P 217 4 [v0] [(0, s0)] M = some ([(0, nb_i2z s0)], M) :=
  nb_step (c := true) rfl rfl
theorem q_h_init_0 (l0 : Int) (v1 : nb_V) (M : nb_M) (h1 : l0 ≠ 0) :
    nb_R nb_P 218 0 [(12, l0), v1] [] M = ((some ([], M) : nb_A)).bind fun r => nb_R nb_P 218 1 [(12, l0), v1] (r.1 ++ []) r.2 :=
  nb_stepC (c := true) (L2 := [(12, l0), v1]) (S2 := [(12, l0)]) (M2 := M) (t := 1) (cl := 900) (vi := true) rfl rfl (nb_inv_eq (n := 1) rfl rfl rfl rfl rfl rfl (fun _ => h1) rfl)
theorem q_h_init_1 (l0 : Int) (v1 : nb_V) (M : nb_M) (h1 : M.2.2.1 = 0) :
    nb_R nb_P 218 1 [(12, l0), v1] [] M = nb_R nb_P 218 2 [(12, l0), v1] [(3, nb_nx M), (12, l0)] (nb_al M 0 5) :=
  nb_step (c := (true && (decide (M.2.2.1 = 0) && (decide ((0 : Int) ≤ 5) && decide ((5 : Int) ≤ 100000))))) rfl (by simp [h1])
theorem q_h_init_2 (l0 s0 s1 : Int) (v1 : nb_V) (M : nb_M) (h1 : s1 ≠ 0) :
    nb_R nb_P 218 2 [(12, l0), v1] [(3, s0), (12, s1)] M = nb_R nb_P 218 3 [(12, l0), v1] [] (nb_wr M s1 0 s0) :=
  nb_step (c := (true && (!decide ((s1 : Int) = 0) && (!false || (decide ((s0 : Int) = 0) || decide ((s0 : Int) = 1)))))) rfl (by simp [h1])
theorem q_h_init_3 (l0 : Int) (v1 : nb_V) (M : nb_M) (h1 : M.2.2.1 = 0) :
    nb_R nb_P 218 3 [(12, l0), v1] [] M = nb_R nb_P 218 4 [(12, l0), v1] [(3, nb_nx M), (12, l0)] (nb_al M 0 5) :=
  nb_step (c := (true && (decide (M.2.2.1 = 0) && (decide ((0 : Int) ≤ 5) && decide ((5 : Int) ≤ 100000))))) rfl (by simp [h1])
theorem q_h_init_4 (l0 s0 s1 : Int) (v1 : nb_V) (M : nb_M) (h1 : s1 ≠ 0) :
    nb_R nb_P 218 4 [(12, l0), v1] [(3, s0), (12, s1)] M = nb_R nb_P 218 5 [(12, l0), v1] [] (nb_wr M s1 1 s0) :=
  nb_step (c := (true && (!decide ((s1 : Int) = 0) && (!false || (decide ((s0 : Int) = 0) || decide ((s0 : Int) = 1)))))) rfl (by simp [h1])
theorem q_h_init_5 (l0 : Int) (v1 : nb_V) (M : nb_M) (h1 : M.2.2.1 = 0) :
    nb_R nb_P 218 5 [(12, l0), v1] [] M = nb_R nb_P 218 6 [(12, l0), v1] [(3, nb_nx M), (12, l0)] (nb_al M 0 5) :=
  nb_step (c := (true && (decide (M.2.2.1 = 0) && (decide ((0 : Int) ≤ 5) && decide ((5 : Int) ≤ 100000))))) rfl (by simp [h1])
theorem q_h_init_6 (l0 s0 s1 : Int) (v1 : nb_V) (M : nb_M) (h1 : s1 ≠ 0) :
    nb_R nb_P 218 6 [(12, l0), v1] [(3, s0), (12, s1)] M = nb_R nb_P 218 7 [(12, l0), v1] [] (nb_wr M s1 2 s0) :=
  nb_step (c := (true && (!decide ((s1 : Int) = 0) && (!false || (decide ((s0 : Int) = 0) || decide ((s0 : Int) = 1)))))) rfl (by simp [h1])
theorem q_h_init_7 (l0 : Int) (v1 : nb_V) (M : nb_M) (h1 : M.2.2.1 = 0) :
    nb_R nb_P 218 7 [(12, l0), v1] [] M = nb_R nb_P 218 8 [(12, l0), v1] [(10, nb_nx M), (12, l0)] (nb_alm M 10 5) :=
  nb_step (c := (true && (decide (M.2.2.1 = 0) && (decide ((0 : Int) ≤ 10) && (decide ((10 : Int) ≤ 1000) && (decide ((0 : Int) ≤ 5) && decide ((5 : Int) ≤ 1000))))))) rfl (by simp [h1])
theorem q_h_init_8 (l0 s0 s1 : Int) (v1 : nb_V) (M : nb_M) (h1 : s1 ≠ 0) :
    nb_R nb_P 218 8 [(12, l0), v1] [(10, s0), (12, s1)] M = nb_R nb_P 218 9 [(12, l0), v1] [] (nb_wr M s1 3 s0) :=
  nb_step (c := (true && (!decide ((s1 : Int) = 0) && (!false || (decide ((s0 : Int) = 0) || decide ((s0 : Int) = 1)))))) rfl (by simp [h1])
theorem q_h_init_9 (l0 : Int) (v1 : nb_V) (M : nb_M) (h1 : M.2.2.1 = 0) :
    nb_R nb_P 218 9 [(12, l0), v1] [] M = nb_R nb_P 218 10 [(12, l0), v1] [(7, nb_nx M), (12, l0)] (nb_al M 4 10) :=
  nb_step (c := (true && (decide (M.2.2.1 = 0) && (decide ((0 : Int) ≤ 10) && decide ((10 : Int) ≤ 100000))))) rfl (by simp [h1])
theorem q_h_init_10 (l0 s0 s1 : Int) (v1 : nb_V) (M : nb_M) (h1 : s1 ≠ 0) :
    nb_R nb_P 218 10 [(12, l0), v1] [(7, s0), (12, s1)] M = nb_R nb_P 218 11 [(12, l0), v1] [] (nb_wr M s1 4 s0) :=
  nb_step (c := (true && (!decide ((s1 : Int) = 0) && (!false || (decide ((s0 : Int) = 0) || decide ((s0 : Int) = 1)))))) rfl (by simp [h1])
theorem q_h_init_11 (l0 : Int) (v1 : nb_V) (M : nb_M) (h1 : M.2.2.1 = 0) :
    nb_R nb_P 218 11 [(12, l0), v1] [] M = nb_R nb_P 218 12 [(12, l0), v1] [(8, nb_nx M), (12, l0)] (nb_al M 5 3) :=
  nb_step (c := (true && (decide (M.2.2.1 = 0) && (decide ((0 : Int) ≤ 3) && decide ((3 : Int) ≤ 100000))))) rfl (by simp [h1])
theorem q_h_init_12 (l0 s0 s1 : Int) (v1 : nb_V) (M : nb_M) (h1 : s1 ≠ 0) :
    nb_R nb_P 218 12 [(12, l0), v1] [(8, s0), (12, s1)] M = nb_R nb_P 218 13 [(12, l0), v1] [] (nb_wr M s1 5 s0) :=
  nb_step (c := (true && (!decide ((s1 : Int) = 0) && (!false || (decide ((s0 : Int) = 0) || decide ((s0 : Int) = 1)))))) rfl (by simp [h1])
theorem q_h_init_13 (l0 : Int) (v1 : nb_V) (M : nb_M) (h1 : M.2.2.1 = 0) :
    nb_R nb_P 218 13 [(12, l0), v1] [] M = nb_R nb_P 218 14 [(12, l0), v1] [(3, nb_nx M), (12, l0)] (nb_al M 0 8) :=
  nb_step (c := (true && (decide (M.2.2.1 = 0) && (decide ((0 : Int) ≤ 8) && decide ((8 : Int) ≤ 100000))))) rfl (by simp [h1])
theorem q_h_init_14 (l0 s0 s1 : Int) (v1 : nb_V) (M : nb_M) (h1 : s1 ≠ 0) :
    nb_R nb_P 218 14 [(12, l0), v1] [(3, s0), (12, s1)] M = nb_R nb_P 218 15 [(12, l0), v1] [] (nb_wr M s1 6 s0) :=
  nb_step (c := (true && (!decide ((s1 : Int) = 0) && (!false || (decide ((s0 : Int) = 0) || decide ((s0 : Int) = 1)))))) rfl (by simp [h1])
theorem q_h_init_15 (l0 : Int) (v1 : nb_V) (M : nb_M) (h1 : M.2.2.1 = 0) :
    nb_R nb_P 218 15 [(12, l0), v1] [] M = nb_R nb_P 218 16 [(12, l0), v1] [(3, nb_nx M), (12, l0)] (nb_al M 0 8) :=
  nb_step (c := (true && (decide (M.2.2.1 = 0) && (decide ((0 : Int) ≤ 8) && decide ((8 : Int) ≤ 100000))))) rfl (by simp [h1])
theorem q_h_init_16 (l0 s0 s1 : Int) (v1 : nb_V) (M : nb_M) (h1 : s1 ≠ 0) :
    nb_R nb_P 218 16 [(12, l0), v1] [(3, s0), (12, s1)] M = nb_R nb_P 218 17 [(12, l0), v1] [] (nb_wr M s1 7 s0) :=
  nb_step (c := (true && (!decide ((s1 : Int) = 0) && (!false || (decide ((s0 : Int) = 0) || decide ((s0 : Int) = 1)))))) rfl (by simp [h1])
theorem q_h_init_17 (l0 : Int) (v1 : nb_V) (M : nb_M) (h1 : M.2.2.1 = 0) :
    nb_R nb_P 218 17 [(12, l0), v1] [] M = nb_R nb_P 218 18 [(12, l0), v1] [(3, nb_nx M), (12, l0)] (nb_al M 0 8) :=
  nb_step (c := (true && (decide (M.2.2.1 = 0) && (decide ((0 : Int) ≤ 8) && decide ((8 : Int) ≤ 100000))))) rfl (by simp [h1])
theorem q_h_init_18 (l0 s0 s1 : Int) (v1 : nb_V) (M : nb_M) (h1 : s1 ≠ 0) :
    nb_R nb_P 218 18 [(12, l0), v1] [(3, s0), (12, s1)] M = nb_R nb_P 218 19 [(12, l0), v1] [] (nb_wr M s1 8 s0) :=
  nb_step (c := (true && (!decide ((s1 : Int) = 0) && (!false || (decide ((s0 : Int) = 0) || decide ((s0 : Int) = 1)))))) rfl (by simp [h1])
theorem q_h_init_19 (l0 : Int) (v1 : nb_V) (M : nb_M) :
    nb_R nb_P 218 19 [(12, l0), v1] [] M = nb_R nb_P 218 20 [(12, l0), (0, 0)] [] M :=
  nb_step (c := true) rfl rfl
theorem q_h_init_20 (l0 l1 : Int) (M : nb_M) :
    nb_R nb_P 218 20 [(12, l0), (0, l1)] [] M = if l1 < 10 then nb_R nb_P 218 21 [(12, l0), (0, l1)] [] M else nb_R nb_P 218 25 [(12, l0), (0, l1)] [] M :=
  nb_step (c := true) rfl rfl
theorem q_h_init_21 (l0 l1 : Int) (M : nb_M) (h1 : l0 ≠ 0) (h2 : M.2.2.1 = 0) :
    nb_R nb_P 218 21 [(12, l0), (0, l1)] [] M = nb_R nb_P 218 22 [(12, l0), (0, l1)] [(11, nb_nx M), (0, l1), (7, nb_rd M l0 4)] (nb_al M 8 15) :=
  nb_step (c := ((true && !decide ((l0 : Int) = 0)) && decide (M.2.2.1 = 0))) rfl (by simp [h1, h2])
theorem q_h_init_22 (l0 l1 s0 s1 s2 : Int) (M : nb_M) (h1 : s0 ≠ 0) :
    nb_R nb_P 218 22 [(12, l0), (0, l1)] [(11, s0), (0, s1), (7, s2)] M = (nb_R nb_P 214 0 [(11, s0)] [] M).bind fun r => nb_R nb_P 218 23 [(12, l0), (0, l1)] (r.1 ++ [(11, s0), (0, s1), (7, s2)]) r.2 :=
  nb_stepC (c := true) (L2 := [(12, l0), (0, l1)]) (S2 := [(11, s0), (11, s0), (0, s1), (7, s2)]) (M2 := M) (t := 23) (cl := 214) (vi := true) rfl rfl (nb_inv_eq (n := 1) rfl rfl rfl rfl rfl rfl (fun _ => h1) rfl)
theorem q_h_init_23 (l0 l1 s0 s1 s2 : Int) (M : nb_M) (h1 : s0 ≠ 0) (h2 : s2 ≠ 0) (h3 : s2 ≠ 1) (h4 : (0 : Int) ≤ s1) (h5 : s1 < nb_ln M s2) :
    nb_R nb_P 218 23 [(12, l0), (0, l1)] [(11, s0), (0, s1), (7, s2)] M = nb_R nb_P 218 24 [(12, l0), (0, l1)] [] (nb_wr M s2 s1 s0) :=
  nb_step (c := ((true && !decide ((s0 : Int) = 0)) && (!decide ((s2 : Int) = 0) && (!decide ((s2 : Int) = 1) && (decide ((0 : Int) ≤ s1) && decide (s1 < nb_ln M s2)))))) rfl (by simp [h1, h2, h3, h4, h5])
theorem q_h_init_24 (l0 l1 : Int) (M : nb_M) :
    nb_R nb_P 218 24 [(12, l0), (0, l1)] [] M = nb_R nb_P 218 20 [(12, l0), (0, nb_add l1 1)] [] M :=
  nb_step (c := true) rfl rfl
theorem q_h_init_25 (l0 : Int) (v1 : nb_V) (M : nb_M) :
    nb_R nb_P 218 25 [(12, l0), v1] [] M = nb_R nb_P 218 26 [(12, l0), (0, 0)] [] M :=
  nb_step (c := true) rfl rfl
theorem q_h_init_26 (l0 l1 : Int) (M : nb_M) :
    nb_R nb_P 218 26 [(12, l0), (0, l1)] [] M = if l1 < 3 then nb_R nb_P 218 27 [(12, l0), (0, l1)] [] M else nb_R nb_P 218 31 [(12, l0), (0, l1)] [] M :=
  nb_step (c := true) rfl rfl
theorem q_h_init_27 (l0 l1 : Int) (M : nb_M) (h1 : l0 ≠ 0) (h2 : M.2.2.1 = 0) :
    nb_R nb_P 218 27 [(12, l0), (0, l1)] [] M = nb_R nb_P 218 28 [(12, l0), (0, l1)] [(16, nb_nx M), (0, l1), (8, nb_rd M l0 5)] (nb_al M 13 8) :=
  nb_step (c := ((true && !decide ((l0 : Int) = 0)) && decide (M.2.2.1 = 0))) rfl (by simp [h1, h2])
theorem q_h_init_28 (l0 l1 s0 s1 s2 : Int) (M : nb_M) (h1 : s0 ≠ 0) :
    nb_R nb_P 218 28 [(12, l0), (0, l1)] [(16, s0), (0, s1), (8, s2)] M = (nb_R nb_P 271 0 [(16, s0)] [] M).bind fun r => nb_R nb_P 218 29 [(12, l0), (0, l1)] (r.1 ++ [(16, s0), (0, s1), (8, s2)]) r.2 :=
  nb_stepC (c := true) (L2 := [(12, l0), (0, l1)]) (S2 := [(16, s0), (16, s0), (0, s1), (8, s2)]) (M2 := M) (t := 29) (cl := 271) (vi := true) rfl rfl (nb_inv_eq (n := 1) rfl rfl rfl rfl rfl rfl (fun _ => h1) rfl)
theorem q_h_init_29 (l0 l1 s0 s1 s2 : Int) (M : nb_M) (h1 : s0 ≠ 0) (h2 : s2 ≠ 0) (h3 : s2 ≠ 1) (h4 : (0 : Int) ≤ s1) (h5 : s1 < nb_ln M s2) :
    nb_R nb_P 218 29 [(12, l0), (0, l1)] [(16, s0), (0, s1), (8, s2)] M = nb_R nb_P 218 30 [(12, l0), (0, l1)] [] (nb_wr M s2 s1 s0) :=
  nb_step (c := ((true && !decide ((s0 : Int) = 0)) && (!decide ((s2 : Int) = 0) && (!decide ((s2 : Int) = 1) && (decide ((0 : Int) ≤ s1) && decide (s1 < nb_ln M s2)))))) rfl (by simp [h1, h2, h3, h4, h5])
theorem q_h_init_30 (l0 l1 : Int) (M : nb_M) :
    nb_R nb_P 218 30 [(12, l0), (0, l1)] [] M = nb_R nb_P 218 26 [(12, l0), (0, nb_add l1 1)] [] M :=
  nb_step (c := true) rfl rfl
theorem q_h_init_31 (v0 v1 : nb_V) (M : nb_M) :
    nb_R nb_P 218 31 [v0, v1] [] M = some ([], M) :=
  nb_step (c := true) rfl rfl
theorem q_h_empty_0 (l0 : Int) (v1 : nb_V) (M : nb_M) (h1 : l0 ≠ 0) :
    nb_R nb_P 219 0 [(12, l0), v1] [] M = nb_R nb_P 219 1 [(12, l0), v1] [] (nb_wr M l0 9 0) :=
  nb_step (c := (true && (!decide ((l0 : Int) = 0) && (!false || (decide ((0 : Int) = 0) || decide ((0 : Int) = 1)))))) rfl (by simp [h1])
theorem q_h_empty_1 (l0 : Int) (v1 : nb_V) (M : nb_M) (h1 : l0 ≠ 0) :
    nb_R nb_P 219 1 [(12, l0), v1] [] M = nb_R nb_P 219 2 [(12, l0), v1] [] (nb_wr M l0 10 0) :=
  nb_step (c := (true && (!decide ((l0 : Int) = 0) && (!false || (decide ((0 : Int) = 0) || decide ((0 : Int) = 1)))))) rfl (by simp [h1])
theorem q_h_empty_2 (l0 : Int) (v1 : nb_V) (M : nb_M) (h1 : l0 ≠ 0) :
    nb_R nb_P 219 2 [(12, l0), v1] [] M = nb_R nb_P 219 3 [(12, l0), v1] [] (nb_wr M l0 11 0) :=
  nb_step (c := (true && (!decide ((l0 : Int) = 0) && (!false || (decide ((0 : Int) = 0) || decide ((0 : Int) = 1)))))) rfl (by simp [h1])
theorem q_h_empty_3 (l0 : Int) (v1 : nb_V) (M : nb_M) (h1 : l0 ≠ 0) :
    nb_R nb_P 219 3 [(12, l0), v1] [] M = nb_R nb_P 219 4 [(12, l0), v1] [] (nb_wr M l0 12 0) :=
  nb_step (c := (true && (!decide ((l0 : Int) = 0) && (!false || (decide ((0 : Int) = 0) || decide ((0 : Int) = 1)))))) rfl (by simp [h1])
theorem q_h_empty_4 (l0 : Int) (v1 : nb_V) (M : nb_M) (h1 : l0 ≠ 0) :
    nb_R nb_P 219 4 [(12, l0), v1] [] M = nb_R nb_P 219 5 [(12, l0), v1] [] (nb_wr M l0 13 0) :=
  nb_step (c := (true && (!decide ((l0 : Int) = 0) && (!false || (decide ((0 : Int) = 0) || decide ((0 : Int) = 1)))))) rfl (by simp [h1])
theorem q_h_empty_5 (l0 : Int) (v1 : nb_V) (M : nb_M) (h1 : l0 ≠ 0) :
    nb_R nb_P 219 5 [(12, l0), v1] [] M = nb_R nb_P 219 6 [(12, l0), v1] [] (nb_wr M l0 14 0) :=
  nb_step (c := (true && (!decide ((l0 : Int) = 0) && (!false || (decide ((0 : Int) = 0) || decide ((0 : Int) = 1)))))) rfl (by simp [h1])
theorem q_h_empty_6 (l0 : Int) (v1 : nb_V) (M : nb_M) (h1 : l0 ≠ 0) :
    nb_R nb_P 219 6 [(12, l0), v1] [] M = nb_R nb_P 219 7 [(12, l0), v1] [] (nb_wr M l0 15 0) :=
  nb_step (c := (true && (!decide ((l0 : Int) = 0) && (!false || (decide ((0 : Int) = 0) || decide ((0 : Int) = 1)))))) rfl (by simp [h1])
theorem q_h_empty_7 (l0 : Int) (v1 : nb_V) (M : nb_M) :
    nb_R nb_P 219 7 [(12, l0), v1] [] M = nb_R nb_P 219 8 [(12, l0), (0, 0)] [] M :=
  nb_step (c := true) rfl rfl
theorem q_h_empty_8 (l0 l1 : Int) (M : nb_M) :
    nb_R nb_P 219 8 [(12, l0), (0, l1)] [] M = if l1 < 10 then nb_R nb_P 219 9 [(12, l0), (0, l1)] [] M else nb_R nb_P 219 12 [(12, l0), (0, l1)] [] M :=
  nb_step (c := true) rfl rfl
theorem q_h_empty_9 (l0 l1 : Int) (M : nb_M) (h1 : l0 ≠ 0) (h2 : (nb_rd M l0 3) ≠ 0) (h3 : (0 : Int) ≤ l1) (h4 : l1 < nb_ln M (nb_rd M l0 3)) :
    nb_R nb_P 219 9 [(12, l0), (0, l1)] [] M = (nb_R nb_P 295 0 [(3, nb_rd M (nb_rd M l0 3) l1), (0, 0), (98, 0), (98, 0)] [] M).bind fun r => nb_R nb_P 219 10 [(12, l0), (0, l1)] (r.1 ++ []) r.2 :=
  nb_stepC (c := ((true && !decide ((l0 : Int) = 0)) && (!decide ((nb_rd M l0 3 : Int) = 0) && (decide ((0 : Int) ≤ l1) && decide (l1 < nb_ln M (nb_rd M l0 3)))))) (L2 := [(12, l0), (0, l1)]) (S2 := [(0, 0), (3, nb_rd M (nb_rd M l0 3) l1)]) (M2 := M) (t := 10) (cl := 295) (vi := false) rfl (by simp [h1, h2, h3, h4]) (nb_inv_eq (n := 2) rfl rfl rfl rfl rfl rfl (fun h => by cases h) rfl)
theorem q_h_empty_10 (l0 l1 : Int) (M : nb_M) (h1 : l0 ≠ 0) (h2 : (nb_rd M l0 4) ≠ 0) (h3 : (0 : Int) ≤ l1) (h4 : l1 < nb_ln M (nb_rd M l0 4)) (h5 : (nb_rd M (nb_rd M l0 4) l1) ≠ 0) :
    nb_R nb_P 219 10 [(12, l0), (0, l1)] [] M = nb_R nb_P 219 11 [(12, l0), (0, l1)] [] (nb_wr M (nb_rd M (nb_rd M l0 4) l1) 6 ((-2))) :=
  nb_step (c := (((true && !decide ((l0 : Int) = 0)) && (!decide ((nb_rd M l0 4 : Int) = 0) && (decide ((0 : Int) ≤ l1) && decide (l1 < nb_ln M (nb_rd M l0 4))))) && (!decide ((nb_rd M (nb_rd M l0 4) l1 : Int) = 0) && (!false || (decide (((-2) : Int) = 0) || decide (((-2) : Int) = 1)))))) rfl (by simp [h1, h2, h3, h4, h5])
theorem q_h_empty_11 (l0 l1 : Int) (M : nb_M) :
    nb_R nb_P 219 11 [(12, l0), (0, l1)] [] M = nb_R nb_P 219 8 [(12, l0), (0, nb_add l1 1)] [] M :=
  nb_step (c := true) rfl rfl
theorem q_h_empty_12 (v0 v1 : nb_V) (M : nb_M) :
    nb_R nb_P 219 12 [v0, v1] [] M = some ([], M) :=
  nb_step (c := true) rfl rfl
theorem q_h_timeBehind_0 (l0 l1 l2 : Int) (v3 v4 v5 v6 : nb_V) (M : nb_M) :
    nb_R nb_P 220 0 [(12, l0), (0, l1), (0, l2), v3, v4, v5, v6] [] M = nb_R nb_P 220 1 [(12, l0), (0, l1), (0, l2), (0, 0), (0, 0), v5, v6] [] M :=
  nb_step (c := true) rfl rfl
theorem q_h_timeBehind_1 (l0 l1 l2 l3 l4 : Int) (v5 v6 : nb_V) (M : nb_M) (h1 : l0 ≠ 0) :
    nb_R nb_P 220 1 [(12, l0), (0, l1), (0, l2), (0, l3), (0, l4), v5, v6] [] M = if l4 < nb_rd M l0 11 then nb_R nb_P 220 2 [(12, l0), (0, l1), (0, l2), (0, l3), (0, l4), v5, v6] [] M else nb_R nb_P 220 13 [(12, l0), (0, l1), (0, l2), (0, l3), (0, l4), v5, v6] [] M :=
  nb_step (c := (true && !decide ((l0 : Int) = 0))) rfl (by simp [h1])
theorem q_h_timeBehind_2 (l0 l1 l2 l3 l4 : Int) (v5 v6 : nb_V) (M : nb_M) (h1 : l0 ≠ 0) (h2 : (nb_rd M l0 3) ≠ 0) (h3 : (0 : Int) ≤ l2) (h4 : l2 < nb_ln M (nb_rd M l0 3)) (h5 : (nb_rd M (nb_rd M l0 3) l2) ≠ 0) (h6 : (0 : Int) ≤ l4) (h7 : l4 < nb_ln M (nb_rd M (nb_rd M l0 3) l2)) :
    nb_R nb_P 220 2 [(12, l0), (0, l1), (0, l2), (0, l3), (0, l4), v5, v6] [] M = if 0 < nb_rd M (nb_rd M (nb_rd M l0 3) l2) l4 then nb_R nb_P 220 3 [(12, l0), (0, l1), (0, l2), (0, l3), (0, l4), (0, nb_rd M (nb_rd M (nb_rd M l0 3) l2) l4), v6] [] M else nb_R nb_P 220 12 [(12, l0), (0, l1), (0, l2), (0, l3), (0, l4), (0, nb_rd M (nb_rd M (nb_rd M l0 3) l2) l4), v6] [] M :=
  nb_step (c := (((true && !decide ((l0 : Int) = 0)) && (!decide ((nb_rd M l0 3 : Int) = 0) && (decide ((0 : Int) ≤ l2) && decide (l2 < nb_ln M (nb_rd M l0 3))))) && (!decide ((nb_rd M (nb_rd M l0 3) l2 : Int) = 0) && (decide ((0 : Int) ≤ l4) && decide (l4 < nb_ln M (nb_rd M (nb_rd M l0 3) l2)))))) rfl (by simp [h1, h2, h3, h4, h5, h6, h7])
theorem q_h_timeBehind_3 (l0 l1 l2 l3 l4 l5 : Int) (v6 : nb_V) (M : nb_M) :
    nb_R nb_P 220 3 [(12, l0), (0, l1), (0, l2), (0, l3), (0, l4), (0, l5), v6] [] M = if l1 < 0 then nb_R nb_P 220 7 [(12, l0), (0, l1), (0, l2), (0, l3), (0, l4), (0, l5), v6] [] M else nb_R nb_P 220 4 [(12, l0), (0, l1), (0, l2), (0, l3), (0, l4), (0, l5), v6] [] M :=
  nb_step (c := true) rfl rfl
theorem q_h_timeBehind_4 (l0 l1 l2 l3 l4 l5 : Int) (v6 : nb_V) (M : nb_M) (h1 : l0 ≠ 0) :
    nb_R nb_P 220 4 [(12, l0), (0, l1), (0, l2), (0, l3), (0, l4), (0, l5), v6] [] M = if l1 < nb_rd M l0 13 then nb_R nb_P 220 5 [(12, l0), (0, l1), (0, l2), (0, l3), (0, l4), (0, l5), v6] [] M else nb_R nb_P 220 7 [(12, l0), (0, l1), (0, l2), (0, l3), (0, l4), (0, l5), v6] [] M :=
  nb_step (c := (true && !decide ((l0 : Int) = 0))) rfl (by simp [h1])
theorem q_h_timeBehind_5 (l0 l1 l2 l3 l4 l5 : Int) (v6 : nb_V) (M : nb_M) (h1 : l0 ≠ 0) (h2 : (nb_rd M l0 3) ≠ 0) (h3 : (0 : Int) ≤ l1) (h4 : l1 < nb_ln M (nb_rd M l0 3)) (h5 : (nb_rd M (nb_rd M l0 3) l1) ≠ 0) (h6 : (0 : Int) ≤ l4) (h7 : l4 < nb_ln M (nb_rd M (nb_rd M l0 3) l1)) :
    nb_R nb_P 220 5 [(12, l0), (0, l1), (0, l2), (0, l3), (0, l4), (0, l5), v6] [] M = if 0 < nb_rd M (nb_rd M (nb_rd M l0 3) l1) l4 then nb_R nb_P 220 6 [(12, l0), (0, l1), (0, l2), (0, l3), (0, l4), (0, l5), v6] [] M else nb_R nb_P 220 7 [(12, l0), (0, l1), (0, l2), (0, l3), (0, l4), (0, l5), v6] [] M :=
  nb_step (c := (((true && !decide ((l0 : Int) = 0)) && (!decide ((nb_rd M l0 3 : Int) = 0) && (decide ((0 : Int) ≤ l1) && decide (l1 < nb_ln M (nb_rd M l0 3))))) && (!decide ((nb_rd M (nb_rd M l0 3) l1 : Int) = 0) && (decide ((0 : Int) ≤ l4) && decide (l4 < nb_ln M (nb_rd M (nb_rd M l0 3) l1)))))) rfl (by simp [h1, h2, h3, h4, h5, h6, h7])
theorem q_h_timeBehind_6 (l0 l1 l2 l3 l4 l5 : Int) (v6 : nb_V) (M : nb_M) :
    nb_R nb_P 220 6 [(12, l0), (0, l1), (0, l2), (0, l3), (0, l4), (0, l5), v6] [] M = nb_R nb_P 220 8 [(12, l0), (0, l1), (0, l2), (0, l3), (0, l4), (0, l5), v6] [(0, 1)] M :=
  nb_step (c := true) rfl rfl
theorem q_h_timeBehind_7 (l0 l1 l2 l3 l4 l5 : Int) (v6 : nb_V) (M : nb_M) :
    nb_R nb_P 220 7 [(12, l0), (0, l1), (0, l2), (0, l3), (0, l4), (0, l5), v6] [] M = nb_R nb_P 220 8 [(12, l0), (0, l1), (0, l2), (0, l3), (0, l4), (0, l5), v6] [(0, 0)] M :=
  nb_step (c := true) rfl rfl
theorem q_h_timeBehind_8 (l0 l1 l2 l3 l4 l5 s0 : Int) (v6 : nb_V) (M : nb_M) :
    nb_R nb_P 220 8 [(12, l0), (0, l1), (0, l2), (0, l3), (0, l4), (0, l5), v6] [(0, s0)] M = if s0 = 0 then nb_R nb_P 220 10 [(12, l0), (0, l1), (0, l2), (0, l3), (0, l4), (0, l5), (0, s0)] [(0, l3)] M else nb_R nb_P 220 9 [(12, l0), (0, l1), (0, l2), (0, l3), (0, l4), (0, l5), (0, s0)] [(0, l3)] M :=
  nb_step (c := true) rfl rfl
theorem q_h_timeBehind_9 (l0 l1 l2 l4 l5 s0 : Int) (v3 v6 : nb_V) (M : nb_M) (h1 : l0 ≠ 0) (h2 : (nb_rd M l0 1) ≠ 0) (h3 : (0 : Int) ≤ l4) (h4 : l4 < nb_ln M (nb_rd M l0 1)) :
    nb_R nb_P 220 9 [(12, l0), (0, l1), (0, l2), v3, (0, l4), (0, l5), v6] [(0, s0)] M = nb_R nb_P 220 11 [(12, l0), (0, l1), (0, l2), v3, (0, l4), (0, l5), v6] [(0, nb_rd M (nb_rd M l0 1) l4), (0, s0)] M :=
  nb_step (c := ((true && !decide ((l0 : Int) = 0)) && (!decide ((nb_rd M l0 1 : Int) = 0) && (decide ((0 : Int) ≤ l4) && decide (l4 < nb_ln M (nb_rd M l0 1)))))) rfl (by simp [h1, h2, h3, h4])
theorem q_h_timeBehind_10 (l0 l1 l2 l4 l5 s0 : Int) (v3 v6 : nb_V) (M : nb_M) (h1 : l0 ≠ 0) (h2 : (nb_rd M l0 0) ≠ 0) (h3 : (0 : Int) ≤ l4) (h4 : l4 < nb_ln M (nb_rd M l0 0)) :
    nb_R nb_P 220 10 [(12, l0), (0, l1), (0, l2), v3, (0, l4), (0, l5), v6] [(0, s0)] M = nb_R nb_P 220 11 [(12, l0), (0, l1), (0, l2), v3, (0, l4), (0, l5), v6] [(0, nb_rd M (nb_rd M l0 0) l4), (0, s0)] M :=
  nb_step (c := ((true && !decide ((l0 : Int) = 0)) && (!decide ((nb_rd M l0 0 : Int) = 0) && (decide ((0 : Int) ≤ l4) && decide (l4 < nb_ln M (nb_rd M l0 0)))))) rfl (by simp [h1, h2, h3, h4])
theorem q_h_timeBehind_11 (l0 l1 l2 l4 l5 s0 s1 : Int) (v3 v6 : nb_V) (M : nb_M) (h1 : l0 ≠ 0) (h2 : (nb_rd M l0 1) ≠ 0) (h3 : (0 : Int) ≤ l4) (h4 : l4 < nb_ln M (nb_rd M l0 1)) :
    nb_R nb_P 220 11 [(12, l0), (0, l1), (0, l2), v3, (0, l4), (0, l5), v6] [(0, s0), (0, s1)] M = nb_R nb_P 220 12 [(12, l0), (0, l1), (0, l2), (0, nb_add s1 (nb_add s0 (nb_mul (nb_sub l5 1) (nb_rd M (nb_rd M l0 1) l4)))), (0, l4), (0, l5), v6] [] M :=
  nb_step (c := ((true && !decide ((l0 : Int) = 0)) && (!decide ((nb_rd M l0 1 : Int) = 0) && (decide ((0 : Int) ≤ l4) && decide (l4 < nb_ln M (nb_rd M l0 1)))))) rfl (by simp [h1, h2, h3, h4])
theorem q_h_timeBehind_12 (l0 l1 l2 l3 l4 : Int) (v5 v6 : nb_V) (M : nb_M) :
    nb_R nb_P 220 12 [(12, l0), (0, l1), (0, l2), (0, l3), (0, l4), v5, v6] [] M = nb_R nb_P 220 1 [(12, l0), (0, l1), (0, l2), (0, l3), (0, nb_add l4 1), v5, v6] [] M :=
  nb_step (c := true) rfl rfl
theorem q_h_timeBehind_13 (l3 : Int) (v0 v1 v2 v4 v5 v6 : nb_V) (M : nb_M) :
    nb_R nb_P 220 13 [v0, v1, v2, (0, l3), v4, v5, v6] [] M = some ([(0, l3)], M) :=
  nb_step (c := true) rfl rfl
theorem q_h_priceOf_0 (l0 l1 : Int) (v2 v3 : nb_V) (M : nb_M) :
    nb_R nb_P 221 0 [(12, l0), (0, l1), v2, v3] [] M = nb_R nb_P 221 1 [(12, l0), (0, l1), (0, 0), (0, 0)] [] M :=
  nb_step (c := true) rfl rfl
theorem q_h_priceOf_1 (l0 l1 l2 l3 : Int) (M : nb_M) (h1 : l0 ≠ 0) :
    nb_R nb_P 221 1 [(12, l0), (0, l1), (0, l2), (0, l3)] [] M = if l3 < nb_rd M l0 11 then nb_R nb_P 221 2 [(12, l0), (0, l1), (0, l2), (0, l3)] [] M else nb_R nb_P 221 3 [(12, l0), (0, l1), (0, l2), (0, l3)] [] M :=
  nb_step (c := (true && !decide ((l0 : Int) = 0))) rfl (by simp [h1])
theorem q_h_priceOf_2 (l0 l1 l2 l3 : Int) (M : nb_M) (h1 : l0 ≠ 0) (h2 : (nb_rd M l0 3) ≠ 0) (h3 : (0 : Int) ≤ l1) (h4 : l1 < nb_ln M (nb_rd M l0 3)) (h5 : (nb_rd M (nb_rd M l0 3) l1) ≠ 0) (h6 : (0 : Int) ≤ l3) (h7 : l3 < nb_ln M (nb_rd M (nb_rd M l0 3) l1)) (h8 : (nb_rd M l0 2) ≠ 0) (h9 : l3 < nb_ln M (nb_rd M l0 2)) :
    nb_R nb_P 221 2 [(12, l0), (0, l1), (0, l2), (0, l3)] [] M = nb_R nb_P 221 1 [(12, l0), (0, l1), (0, nb_add l2 (nb_mul (nb_rd M (nb_rd M (nb_rd M l0 3) l1) l3) (nb_rd M (nb_rd M l0 2) l3))), (0, nb_add l3 1)] [] M :=
  nb_step (c := (((((true && !decide ((l0 : Int) = 0)) && (!decide ((nb_rd M l0 3 : Int) = 0) && (decide ((0 : Int) ≤ l1) && decide (l1 < nb_ln M (nb_rd M l0 3))))) && (!decide ((nb_rd M (nb_rd M l0 3) l1 : Int) = 0) && (decide ((0 : Int) ≤ l3) && decide (l3 < nb_ln M (nb_rd M (nb_rd M l0 3) l1))))) && !decide ((l0 : Int) = 0)) && (!decide ((nb_rd M l0 2 : Int) = 0) && (decide ((0 : Int) ≤ l3) && decide (l3 < nb_ln M (nb_rd M l0 2)))))) rfl (by simp [h1, h2, h3, h4, h5, h6, h7, h8, h9])
theorem q_h_priceOf_3 (l2 : Int) (v0 v1 v3 : nb_V) (M : nb_M) :
    nb_R nb_P 221 3 [v0, v1, (0, l2), v3] [] M = some ([(0, l2)], M) :=
  nb_step (c := true) rfl rfl
theorem q_h_cameAhead_0 (l0 l1 l2 : Int) (v3 v4 : nb_V) (M : nb_M) (h1 : l0 ≠ 0) (h2 : (nb_rd M l0 4) ≠ 0) (h3 : (0 : Int) ≤ l1) (h4 : l1 < nb_ln M (nb_rd M l0 4)) (h5 : (nb_rd M (nb_rd M l0 4) l1) ≠ 0) (h6 : (0 : Int) ≤ l2) (h7 : l2 < nb_ln M (nb_rd M l0 4)) (h8 : (nb_rd M (nb_rd M l0 4) l2) ≠ 0) :
    nb_R nb_P 222 0 [(12, l0), (0, l1), (0, l2), v3, v4] [] M = if nb_rd M (nb_rd M (nb_rd M l0 4) l1) 2 < nb_rd M (nb_rd M (nb_rd M l0 4) l2) 2 then nb_R nb_P 222 3 [(12, l0), (0, l1), (0, l2), (0, nb_rd M (nb_rd M (nb_rd M l0 4) l1) 2), (0, nb_rd M (nb_rd M (nb_rd M l0 4) l2) 2)] [] M else nb_R nb_P 222 1 [(12, l0), (0, l1), (0, l2), (0, nb_rd M (nb_rd M (nb_rd M l0 4) l1) 2), (0, nb_rd M (nb_rd M (nb_rd M l0 4) l2) 2)] [] M :=
  nb_step (c := ((((((true && !decide ((l0 : Int) = 0)) && (!decide ((nb_rd M l0 4 : Int) = 0) && (decide ((0 : Int) ≤ l1) && decide (l1 < nb_ln M (nb_rd M l0 4))))) && !decide ((nb_rd M (nb_rd M l0 4) l1 : Int) = 0)) && !decide ((l0 : Int) = 0)) && (!decide ((nb_rd M l0 4 : Int) = 0) && (decide ((0 : Int) ≤ l2) && decide (l2 < nb_ln M (nb_rd M l0 4))))) && !decide ((nb_rd M (nb_rd M l0 4) l2 : Int) = 0))) rfl (by simp [h1, h2, h3, h4, h5, h6, h7, h8])
theorem q_h_cameAhead_1 (l1 l2 l3 l4 : Int) (v0 : nb_V) (M : nb_M) :
    nb_R nb_P 222 1 [v0, (0, l1), (0, l2), (0, l3), (0, l4)] [] M = if l3 = l4 then nb_R nb_P 222 2 [v0, (0, l1), (0, l2), (0, l3), (0, l4)] [] M else nb_R nb_P 222 4 [v0, (0, l1), (0, l2), (0, l3), (0, l4)] [] M :=
  nb_step (c := true) rfl rfl
theorem q_h_cameAhead_2 (l1 l2 : Int) (v0 v3 v4 : nb_V) (M : nb_M) :
    nb_R nb_P 222 2 [v0, (0, l1), (0, l2), v3, v4] [] M = if l1 < l2 then nb_R nb_P 222 3 [v0, (0, l1), (0, l2), v3, v4] [] M else nb_R nb_P 222 4 [v0, (0, l1), (0, l2), v3, v4] [] M :=
  nb_step (c := true) rfl rfl
theorem q_h_cameAhead_3 (v0 v1 v2 v3 v4 : nb_V) (M : nb_M) :
    nb_R nb_P 222 3 [v0, v1, v2, v3, v4] [] M = nb_R nb_P 222 5 [v0, v1, v2, v3, v4] [(0, 1)] M :=
  nb_step (c := true) rfl rfl
theorem q_h_cameAhead_4 (v0 v1 v2 v3 v4 : nb_V) (M : nb_M) :
    nb_R nb_P 222 4 [v0, v1, v2, v3, v4] [] M = nb_R nb_P 222 5 [v0, v1, v2, v3, v4] [(0, 0)] M :=
  nb_step (c := true) rfl rfl
theorem q_h_cameAhead_5 (s0 : Int) (v0 v1 v2 v3 v4 : nb_V) (M : nb_M) :
    nb_R nb_P 222 5 [v0, v1, v2, v3, v4] [(0, s0)] M = some ([(0, nb_i2z s0)], M) :=
  nb_step (c := true) rfl rfl
theorem q_sv_init_0 (l0 : Int) (M : nb_M) (h1 : l0 ≠ 0) :
    nb_R nb_P 271 0 [(16, l0)] [] M = ((some ([], M) : nb_A)).bind fun r => nb_R nb_P 271 1 [(16, l0)] (r.1 ++ []) r.2 :=
  nb_stepC (c := true) (L2 := [(16, l0)]) (S2 := [(16, l0)]) (M2 := M) (t := 1) (cl := 900) (vi := true) rfl rfl (nb_inv_eq (n := 1) rfl rfl rfl rfl rfl rfl (fun _ => h1) rfl)
theorem q_sv_init_1 (l0 : Int) (M : nb_M) (h1 : M.2.2.1 = 0) :
    nb_R nb_P 271 1 [(16, l0)] [] M = nb_R nb_P 271 2 [(16, l0)] [(3, nb_nx M), (16, l0)] (nb_al M 0 2) :=
  nb_step (c := (true && (decide (M.2.2.1 = 0) && (decide ((0 : Int) ≤ 2) && decide ((2 : Int) ≤ 100000))))) rfl (by simp [h1])
theorem q_sv_init_2 (s0 s1 : Int) (v0 : nb_V) (M : nb_M) (h1 : s1 ≠ 0) :
    nb_R nb_P 271 2 [v0] [(3, s0), (16, s1)] M = nb_R nb_P 271 3 [v0] [] (nb_wr M s1 0 s0) :=
  nb_step (c := (true && (!decide ((s1 : Int) = 0) && (!false || (decide ((s0 : Int) = 0) || decide ((s0 : Int) = 1)))))) rfl (by simp [h1])
theorem q_sv_init_3 (v0 : nb_V) (M : nb_M) :
    nb_R nb_P 271 3 [v0] [] M = some ([], M) :=
  nb_step (c := true) rfl rfl
theorem q_sv_beginAfresh_0 (l0 : Int) (M : nb_M) (h1 : l0 ≠ 0) :
    nb_R nb_P 272 0 [(16, l0)] [] M = nb_R nb_P 272 1 [(16, l0)] [] (nb_wr M l0 7 ((-1))) :=
  nb_step (c := (true && (!decide ((l0 : Int) = 0) && (!false || (decide (((-1) : Int) = 0) || decide (((-1) : Int) = 1)))))) rfl (by simp [h1])
theorem q_sv_beginAfresh_1 (l0 : Int) (M : nb_M) (h1 : l0 ≠ 0) :
    nb_R nb_P 272 1 [(16, l0)] [] M = (nb_R nb_P 295 0 [(3, nb_rd M l0 0), (0, 0), (98, 0), (98, 0)] [] M).bind fun r => nb_R nb_P 272 2 [(16, l0)] (r.1 ++ []) r.2 :=
  nb_stepC (c := (true && !decide ((l0 : Int) = 0))) (L2 := [(16, l0)]) (S2 := [(0, 0), (3, nb_rd M l0 0)]) (M2 := M) (t := 2) (cl := 295) (vi := false) rfl (by simp [h1]) (nb_inv_eq (n := 2) rfl rfl rfl rfl rfl rfl (fun h => by cases h) rfl)
theorem q_sv_beginAfresh_2 (v0 : nb_V) (M : nb_M) :
    nb_R nb_P 272 2 [v0] [] M = some ([], M) :=
  nb_step (c := true) rfl rfl
theorem q_sv_take_0 (l0 l1 : Int) (M : nb_M) (h1 : l1 ≠ 0) (h2 : l0 ≠ 0) :
    nb_R nb_P 273 0 [(16, l0), (16, l1)] [] M = ((if 2 ≤ (nb_rd M l1 0) ∧ 2 ≤ (nb_rd M l0 0) ∧ (nb_rd M l1 0) ≠ (nb_rd M l0 0) ∧ (0 : Int) ≤ 0 ∧ (0 : Int) ≤ 0 ∧ (0 : Int) ≤ 2 ∧ 0 + 2 ≤ nb_ln M (nb_rd M l1 0) ∧ 0 + 2 ≤ nb_ln M (nb_rd M l0 0) then some ([], nb_cpy M (nb_rd M l1 0) 0 (nb_rd M l0 0) 0 2) else none : nb_A)).bind fun r => nb_R nb_P 273 1 [(16, l0), (16, l1)] (r.1 ++ []) r.2 :=
  nb_stepC (c := ((true && !decide ((l1 : Int) = 0)) && !decide ((l0 : Int) = 0))) (L2 := [(16, l0), (16, l1)]) (S2 := [(0, 2), (0, 0), (3, nb_rd M l0 0), (0, 0), (3, nb_rd M l1 0)]) (M2 := M) (t := 1) (cl := 903) (vi := false) rfl (by simp [h1, h2]) (nb_inv_eq (n := 5) rfl rfl rfl rfl rfl rfl (fun h => by cases h) rfl)
theorem q_sv_take_1 (l0 l1 : Int) (M : nb_M) (h1 : l1 ≠ 0) (h2 : l0 ≠ 0) :
    nb_R nb_P 273 1 [(16, l0), (16, l1)] [] M = nb_R nb_P 273 2 [(16, l0), (16, l1)] [] (nb_wr M l0 1 (nb_rd M l1 1)) :=
  nb_step (c := ((true && !decide ((l1 : Int) = 0)) && (!decide ((l0 : Int) = 0) && (!false || (decide ((nb_rd M l1 1 : Int) = 0) || decide ((nb_rd M l1 1 : Int) = 1)))))) rfl (by simp [h1, h2])
theorem q_sv_take_2 (l0 l1 : Int) (M : nb_M) (h1 : l1 ≠ 0) (h2 : l0 ≠ 0) :
    nb_R nb_P 273 2 [(16, l0), (16, l1)] [] M = nb_R nb_P 273 3 [(16, l0), (16, l1)] [] (nb_wr M l0 2 (nb_rd M l1 2)) :=
  nb_step (c := ((true && !decide ((l1 : Int) = 0)) && (!decide ((l0 : Int) = 0) && (!false || (decide ((nb_rd M l1 2 : Int) = 0) || decide ((nb_rd M l1 2 : Int) = 1)))))) rfl (by simp [h1, h2])
theorem q_sv_take_3 (l0 l1 : Int) (M : nb_M) (h1 : l1 ≠ 0) (h2 : l0 ≠ 0) :
    nb_R nb_P 273 3 [(16, l0), (16, l1)] [] M = nb_R nb_P 273 4 [(16, l0), (16, l1)] [] (nb_wr M l0 3 (nb_rd M l1 3)) :=
  nb_step (c := ((true && !decide ((l1 : Int) = 0)) && (!decide ((l0 : Int) = 0) && (!false || (decide ((nb_rd M l1 3 : Int) = 0) || decide ((nb_rd M l1 3 : Int) = 1)))))) rfl (by simp [h1, h2])
theorem q_sv_take_4 (l0 l1 : Int) (M : nb_M) (h1 : l1 ≠ 0) (h2 : l0 ≠ 0) :
    nb_R nb_P 273 4 [(16, l0), (16, l1)] [] M = nb_R nb_P 273 5 [(16, l0), (16, l1)] [] (nb_wr M l0 4 (nb_rd M l1 4)) :=
  nb_step (c := ((true && !decide ((l1 : Int) = 0)) && (!decide ((l0 : Int) = 0) && (!false || (decide ((nb_rd M l1 4 : Int) = 0) || decide ((nb_rd M l1 4 : Int) = 1)))))) rfl (by simp [h1, h2])
theorem q_sv_take_5 (l0 l1 : Int) (M : nb_M) (h1 : l1 ≠ 0) (h2 : l0 ≠ 0) :
    nb_R nb_P 273 5 [(16, l0), (16, l1)] [] M = nb_R nb_P 273 6 [(16, l0), (16, l1)] [] (nb_wr M l0 5 (nb_rd M l1 5)) :=
  nb_step (c := ((true && !decide ((l1 : Int) = 0)) && (!decide ((l0 : Int) = 0) && (!false || (decide ((nb_rd M l1 5 : Int) = 0) || decide ((nb_rd M l1 5 : Int) = 1)))))) rfl (by simp [h1, h2])
theorem q_sv_take_6 (l0 l1 : Int) (M : nb_M) (h1 : l1 ≠ 0) (h2 : l0 ≠ 0) :
    nb_R nb_P 273 6 [(16, l0), (16, l1)] [] M = nb_R nb_P 273 7 [(16, l0), (16, l1)] [] (nb_wr M l0 6 (nb_rd M l1 6)) :=
  nb_step (c := ((true && !decide ((l1 : Int) = 0)) && (!decide ((l0 : Int) = 0) && (!false || (decide ((nb_rd M l1 6 : Int) = 0) || decide ((nb_rd M l1 6 : Int) = 1)))))) rfl (by simp [h1, h2])
theorem q_sv_take_7 (l0 l1 : Int) (M : nb_M) (h1 : l1 ≠ 0) (h2 : l0 ≠ 0) :
    nb_R nb_P 273 7 [(16, l0), (16, l1)] [] M = nb_R nb_P 273 8 [(16, l0), (16, l1)] [] (nb_wr M l0 7 (nb_rd M l1 7)) :=
  nb_step (c := ((true && !decide ((l1 : Int) = 0)) && (!decide ((l0 : Int) = 0) && (!false || (decide ((nb_rd M l1 7 : Int) = 0) || decide ((nb_rd M l1 7 : Int) = 1)))))) rfl (by simp [h1, h2])
theorem q_sv_take_8 (v0 v1 : nb_V) (M : nb_M) :
    nb_R nb_P 273 8 [v0, v1] [] M = some ([], M) :=
  nb_step (c := true) rfl rfl
theorem q_sv_stretch_0 (l0 l1 l2 : Int) (M : nb_M) (h1 : l0 ≠ 0) :
    nb_R nb_P 274 0 [(16, l0), (0, l1), (0, l2)] [] M = nb_R nb_P 274 1 [(16, l0), (0, l1), (0, l2)] [] (nb_wr M l0 3 l1) :=
  nb_step (c := (true && (!decide ((l0 : Int) = 0) && (!false || (decide ((l1 : Int) = 0) || decide ((l1 : Int) = 1)))))) rfl (by simp [h1])
theorem q_sv_stretch_1 (l0 l2 : Int) (v1 : nb_V) (M : nb_M) (h1 : l0 ≠ 0) :
    nb_R nb_P 274 1 [(16, l0), v1, (0, l2)] [] M = nb_R nb_P 274 2 [(16, l0), v1, (0, l2)] [] (nb_wr M l0 4 l2) :=
  nb_step (c := (true && (!decide ((l0 : Int) = 0) && (!false || (decide ((l2 : Int) = 0) || decide ((l2 : Int) = 1)))))) rfl (by simp [h1])
theorem q_sv_stretch_2 (v0 v1 v2 : nb_V) (M : nb_M) :
    nb_R nb_P 274 2 [v0, v1, v2] [] M = some ([], M) :=
  nb_step (c := true) rfl rfl
theorem q_sv_freeHand_0 (l0 l1 : Int) (v2 : nb_V) (M : nb_M) :
    nb_R nb_P 275 0 [(16, l0), (0, l1), v2] [] M = nb_R nb_P 275 1 [(16, l0), (0, l1), (0, 0)] [] M :=
  nb_step (c := true) rfl rfl
theorem q_sv_freeHand_1 (l0 l1 l2 : Int) (M : nb_M) :
    nb_R nb_P 275 1 [(16, l0), (0, l1), (0, l2)] [] M = if l2 < 2 then nb_R nb_P 275 2 [(16, l0), (0, l1), (0, l2)] [] M else nb_R nb_P 275 6 [(16, l0), (0, l1), (0, l2)] [] M :=
  nb_step (c := true) rfl rfl
theorem q_sv_freeHand_2 (l0 l1 l2 : Int) (M : nb_M) (h1 : l0 ≠ 0) :
    nb_R nb_P 275 2 [(16, l0), (0, l1), (0, l2)] [] M = if l2 < nb_rd M l0 6 then nb_R nb_P 275 3 [(16, l0), (0, l1), (0, l2)] [] M else nb_R nb_P 275 6 [(16, l0), (0, l1), (0, l2)] [] M :=
  nb_step (c := (true && !decide ((l0 : Int) = 0))) rfl (by simp [h1])
theorem q_sv_freeHand_3 (l0 l1 l2 : Int) (M : nb_M) (h1 : l0 ≠ 0) (h2 : (nb_rd M l0 0) ≠ 0) (h3 : (0 : Int) ≤ l2) (h4 : l2 < nb_ln M (nb_rd M l0 0)) :
    nb_R nb_P 275 3 [(16, l0), (0, l1), (0, l2)] [] M = if l1 < nb_rd M (nb_rd M l0 0) l2 then nb_R nb_P 275 5 [(16, l0), (0, l1), (0, l2)] [] M else nb_R nb_P 275 4 [(16, l0), (0, l1), (0, l2)] [] M :=
  nb_step (c := ((true && !decide ((l0 : Int) = 0)) && (!decide ((nb_rd M l0 0 : Int) = 0) && (decide ((0 : Int) ≤ l2) && decide (l2 < nb_ln M (nb_rd M l0 0)))))) rfl (by simp [h1, h2, h3, h4])
theorem q_sv_freeHand_4 (l2 : Int) (v0 v1 : nb_V) (M : nb_M) :
    nb_R nb_P 275 4 [v0, v1, (0, l2)] [] M = some ([(0, l2)], M) :=
  nb_step (c := true) rfl rfl
theorem q_sv_freeHand_5 (l0 l1 l2 : Int) (M : nb_M) :
    nb_R nb_P 275 5 [(16, l0), (0, l1), (0, l2)] [] M = nb_R nb_P 275 1 [(16, l0), (0, l1), (0, nb_add l2 1)] [] M :=
  nb_step (c := true) rfl rfl
theorem q_sv_freeHand_6 (v0 v1 v2 : nb_V) (M : nb_M) :
    nb_R nb_P 275 6 [v0, v1, v2] [] M = some ([(0, (-1))], M) :=
  nb_step (c := true) rfl rfl
theorem q_sv_busyHands_0 (l0 l1 : Int) (v2 v3 : nb_V) (M : nb_M) :
    nb_R nb_P 276 0 [(16, l0), (0, l1), v2, v3] [] M = nb_R nb_P 276 1 [(16, l0), (0, l1), (0, 0), (0, 0)] [] M :=
  nb_step (c := true) rfl rfl
theorem q_sv_busyHands_1 (l0 l1 l2 l3 : Int) (M : nb_M) :
    nb_R nb_P 276 1 [(16, l0), (0, l1), (0, l2), (0, l3)] [] M = if l3 < 2 then nb_R nb_P 276 2 [(16, l0), (0, l1), (0, l2), (0, l3)] [] M else nb_R nb_P 276 6 [(16, l0), (0, l1), (0, l2), (0, l3)] [] M :=
  nb_step (c := true) rfl rfl
theorem q_sv_busyHands_2 (l0 l1 l2 l3 : Int) (M : nb_M) (h1 : l0 ≠ 0) :
    nb_R nb_P 276 2 [(16, l0), (0, l1), (0, l2), (0, l3)] [] M = if l3 < nb_rd M l0 6 then nb_R nb_P 276 3 [(16, l0), (0, l1), (0, l2), (0, l3)] [] M else nb_R nb_P 276 6 [(16, l0), (0, l1), (0, l2), (0, l3)] [] M :=
  nb_step (c := (true && !decide ((l0 : Int) = 0))) rfl (by simp [h1])
theorem q_sv_busyHands_3 (l0 l1 l2 l3 : Int) (M : nb_M) (h1 : l0 ≠ 0) (h2 : (nb_rd M l0 0) ≠ 0) (h3 : (0 : Int) ≤ l3) (h4 : l3 < nb_ln M (nb_rd M l0 0)) :
    nb_R nb_P 276 3 [(16, l0), (0, l1), (0, l2), (0, l3)] [] M = if l1 < nb_rd M (nb_rd M l0 0) l3 then nb_R nb_P 276 4 [(16, l0), (0, l1), (0, l2), (0, l3)] [] M else nb_R nb_P 276 5 [(16, l0), (0, l1), (0, l2), (0, l3)] [] M :=
  nb_step (c := ((true && !decide ((l0 : Int) = 0)) && (!decide ((nb_rd M l0 0 : Int) = 0) && (decide ((0 : Int) ≤ l3) && decide (l3 < nb_ln M (nb_rd M l0 0)))))) rfl (by simp [h1, h2, h3, h4])
theorem q_sv_busyHands_4 (l0 l1 l2 l3 : Int) (M : nb_M) :
    nb_R nb_P 276 4 [(16, l0), (0, l1), (0, l2), (0, l3)] [] M = nb_R nb_P 276 5 [(16, l0), (0, l1), (0, nb_add l2 1), (0, l3)] [] M :=
  nb_step (c := true) rfl rfl
theorem q_sv_busyHands_5 (l0 l1 l2 l3 : Int) (M : nb_M) :
    nb_R nb_P 276 5 [(16, l0), (0, l1), (0, l2), (0, l3)] [] M = nb_R nb_P 276 1 [(16, l0), (0, l1), (0, l2), (0, nb_add l3 1)] [] M :=
  nb_step (c := true) rfl rfl
theorem q_sv_busyHands_6 (l2 : Int) (v0 v1 v3 : nb_V) (M : nb_M) :
    nb_R nb_P 276 6 [v0, v1, (0, l2), v3] [] M = some ([(0, l2)], M) :=
  nb_step (c := true) rfl rfl
theorem q_sv_firstFree_0 (l0 l1 : Int) (v2 v3 : nb_V) (M : nb_M) :
    nb_R nb_P 277 0 [(16, l0), (0, l1), v2, v3] [] M = nb_R nb_P 277 1 [(16, l0), (0, l1), (0, 1000000), (0, 0)] [] M :=
  nb_step (c := true) rfl rfl
theorem q_sv_firstFree_1 (l0 l1 l2 l3 : Int) (M : nb_M) :
    nb_R nb_P 277 1 [(16, l0), (0, l1), (0, l2), (0, l3)] [] M = if l3 < 2 then nb_R nb_P 277 2 [(16, l0), (0, l1), (0, l2), (0, l3)] [] M else nb_R nb_P 277 6 [(16, l0), (0, l1), (0, l2), (0, l3)] [] M :=
  nb_step (c := true) rfl rfl
theorem q_sv_firstFree_2 (l0 l1 l2 l3 : Int) (M : nb_M) (h1 : l0 ≠ 0) :
    nb_R nb_P 277 2 [(16, l0), (0, l1), (0, l2), (0, l3)] [] M = if l3 < nb_rd M l0 6 then nb_R nb_P 277 3 [(16, l0), (0, l1), (0, l2), (0, l3)] [] M else nb_R nb_P 277 6 [(16, l0), (0, l1), (0, l2), (0, l3)] [] M :=
  nb_step (c := (true && !decide ((l0 : Int) = 0))) rfl (by simp [h1])
theorem q_sv_firstFree_3 (l0 l1 l2 l3 : Int) (M : nb_M) (h1 : l0 ≠ 0) (h2 : (nb_rd M l0 0) ≠ 0) (h3 : (0 : Int) ≤ l3) (h4 : l3 < nb_ln M (nb_rd M l0 0)) :
    nb_R nb_P 277 3 [(16, l0), (0, l1), (0, l2), (0, l3)] [] M = ((some ([(0, if l1 < nb_rd M (nb_rd M l0 0) l3 then nb_rd M (nb_rd M l0 0) l3 else l1)], M) : nb_A)).bind fun r => nb_R nb_P 277 4 [(16, l0), (0, l1), (0, l2), (0, l3)] (r.1 ++ [(0, l2)]) r.2 :=
  nb_stepC (c := ((true && !decide ((l0 : Int) = 0)) && (!decide ((nb_rd M l0 0 : Int) = 0) && (decide ((0 : Int) ≤ l3) && decide (l3 < nb_ln M (nb_rd M l0 0)))))) (L2 := [(16, l0), (0, l1), (0, l2), (0, l3)]) (S2 := [(0, nb_rd M (nb_rd M l0 0) l3), (0, l1), (0, l2)]) (M2 := M) (t := 4) (cl := 905) (vi := false) rfl (by simp [h1, h2, h3, h4]) (nb_inv_eq (n := 2) rfl rfl rfl rfl rfl rfl (fun h => by cases h) rfl)
theorem q_sv_firstFree_4 (l0 l1 l3 s0 s1 : Int) (v2 : nb_V) (M : nb_M) :
    nb_R nb_P 277 4 [(16, l0), (0, l1), v2, (0, l3)] [(0, s0), (0, s1)] M = ((some ([(0, if s0 < s1 then s0 else s1)], M) : nb_A)).bind fun r => nb_R nb_P 277 5 [(16, l0), (0, l1), v2, (0, l3)] (r.1 ++ []) r.2 :=
  nb_stepC (c := true) (L2 := [(16, l0), (0, l1), v2, (0, l3)]) (S2 := [(0, s0), (0, s1)]) (M2 := M) (t := 5) (cl := 906) (vi := false) rfl rfl (nb_inv_eq (n := 2) rfl rfl rfl rfl rfl rfl (fun h => by cases h) rfl)
theorem q_sv_firstFree_5 (l0 l1 l3 s0 : Int) (v2 : nb_V) (M : nb_M) :
    nb_R nb_P 277 5 [(16, l0), (0, l1), v2, (0, l3)] [(0, s0)] M = nb_R nb_P 277 1 [(16, l0), (0, l1), (0, s0), (0, nb_add l3 1)] [] M :=
  nb_step (c := true) rfl rfl
theorem q_sv_firstFree_6 (l2 : Int) (v0 v1 v3 : nb_V) (M : nb_M) :
    nb_R nb_P 277 6 [v0, v1, (0, l2), v3] [] M = some ([(0, l2)], M) :=
  nb_step (c := true) rfl rfl
set_option maxRecDepth 10000 in
theorem q_sv_rank_0 (l0 l1 : Int) (v2 : nb_V) (M : nb_M) (h1 : l1 ≠ 0) (h2 : l0 ≠ 0) :
    nb_R nb_P 278 0 [(16, l0), (11, l1), v2] [] M = if nb_rd M l0 1 = 0 then nb_R nb_P 278 1 [(16, l0), (11, l1), (0, nb_sub (nb_rd M l1 3) (nb_rd M l0 2))] [] M else if nb_rd M l0 1 = 1 then nb_R nb_P 278 5 [(16, l0), (11, l1), (0, nb_sub (nb_rd M l1 3) (nb_rd M l0 2))] [] M else if nb_rd M l0 1 = 2 then nb_R nb_P 278 9 [(16, l0), (11, l1), (0, nb_sub (nb_rd M l1 3) (nb_rd M l0 2))] [] M else if nb_rd M l0 1 = 3 then nb_R nb_P 278 10 [(16, l0), (11, l1), (0, nb_sub (nb_rd M l1 3) (nb_rd M l0 2))] [] M else nb_R nb_P 278 11 [(16, l0), (11, l1), (0, nb_sub (nb_rd M l1 3) (nb_rd M l0 2))] [] M :=
  nb_step (c := (((true && !decide ((l1 : Int) = 0)) && !decide ((l0 : Int) = 0)) && !decide ((l0 : Int) = 0))) rfl (by simp [h1, h2])
theorem q_sv_rank_1 (l1 l2 : Int) (v0 : nb_V) (M : nb_M) :
    nb_R nb_P 278 1 [v0, (11, l1), (0, l2)] [] M = if l2 < 0 then nb_R nb_P 278 3 [v0, (11, l1), (0, l2)] [] M else nb_R nb_P 278 2 [v0, (11, l1), (0, l2)] [] M :=
  nb_step (c := true) rfl rfl
theorem q_sv_rank_2 (l2 : Int) (v0 v1 : nb_V) (M : nb_M) :
    nb_R nb_P 278 2 [v0, v1, (0, l2)] [] M = nb_R nb_P 278 4 [v0, v1, (0, l2)] [(0, l2)] M :=
  nb_step (c := true) rfl rfl
theorem q_sv_rank_3 (l1 : Int) (v0 v2 : nb_V) (M : nb_M) (h1 : l1 ≠ 0) :
    nb_R nb_P 278 3 [v0, (11, l1), v2] [] M = nb_R nb_P 278 4 [v0, (11, l1), v2] [(0, nb_add 20 (nb_rd M l1 3))] M :=
  nb_step (c := (true && !decide ((l1 : Int) = 0))) rfl (by simp [h1])
theorem q_sv_rank_4 (s0 : Int) (v0 v1 v2 : nb_V) (M : nb_M) :
    nb_R nb_P 278 4 [v0, v1, v2] [(0, s0)] M = some ([(0, s0)], M) :=
  nb_step (c := true) rfl rfl
theorem q_sv_rank_5 (l2 : Int) (v0 v1 : nb_V) (M : nb_M) :
    nb_R nb_P 278 5 [v0, v1, (0, l2)] [] M = if 0 < l2 then nb_R nb_P 278 6 [v0, v1, (0, l2)] [] M else nb_R nb_P 278 7 [v0, v1, (0, l2)] [] M :=
  nb_step (c := true) rfl rfl
theorem q_sv_rank_6 (l2 : Int) (v0 v1 : nb_V) (M : nb_M) :
    nb_R nb_P 278 6 [v0, v1, (0, l2)] [] M = nb_R nb_P 278 8 [v0, v1, (0, l2)] [(0, nb_add (nb_mul 2 l2) 1)] M :=
  nb_step (c := true) rfl rfl
theorem q_sv_rank_7 (l2 : Int) (v0 v1 : nb_V) (M : nb_M) :
    nb_R nb_P 278 7 [v0, v1, (0, l2)] [] M = nb_R nb_P 278 8 [v0, v1, (0, l2)] [(0, nb_mul ((-2)) l2)] M :=
  nb_step (c := true) rfl rfl
theorem q_sv_rank_8 (s0 : Int) (v0 v1 v2 : nb_V) (M : nb_M) :
    nb_R nb_P 278 8 [v0, v1, v2] [(0, s0)] M = some ([(0, s0)], M) :=
  nb_step (c := true) rfl rfl
theorem q_sv_rank_9 (l1 : Int) (v0 v2 : nb_V) (M : nb_M) (h1 : l1 ≠ 0) :
    nb_R nb_P 278 9 [v0, (11, l1), v2] [] M = some ([(0, nb_neg (nb_rd M l1 5))], M) :=
  nb_step (c := (true && !decide ((l1 : Int) = 0))) rfl (by simp [h1])
theorem q_sv_rank_10 (l1 : Int) (v0 v2 : nb_V) (M : nb_M) (h1 : l1 ≠ 0) :
    nb_R nb_P 278 10 [v0, (11, l1), v2] [] M = some ([(0, nb_rd M l1 7)], M) :=
  nb_step (c := (true && !decide ((l1 : Int) = 0))) rfl (by simp [h1])
theorem q_sv_rank_11 (l1 : Int) (v0 v2 : nb_V) (M : nb_M) (h1 : l1 ≠ 0) :
    nb_R nb_P 278 11 [v0, (11, l1), v2] [] M = if nb_rd M l1 0 = 3 then nb_R nb_P 278 12 [v0, (11, l1), v2] [] M else nb_R nb_P 278 13 [v0, (11, l1), v2] [] M :=
  nb_step (c := (true && !decide ((l1 : Int) = 0))) rfl (by simp [h1])
theorem q_sv_rank_12 (v0 v1 v2 : nb_V) (M : nb_M) :
    nb_R nb_P 278 12 [v0, v1, v2] [] M = nb_R nb_P 278 14 [v0, v1, v2] [(0, 0)] M :=
  nb_step (c := true) rfl rfl
theorem q_sv_rank_13 (v0 v1 v2 : nb_V) (M : nb_M) :
    nb_R nb_P 278 13 [v0, v1, v2] [] M = nb_R nb_P 278 14 [v0, v1, v2] [(0, 1)] M :=
  nb_step (c := true) rfl rfl
theorem q_sv_rank_14 (s0 : Int) (v0 v1 v2 : nb_V) (M : nb_M) :
    nb_R nb_P 278 14 [v0, v1, v2] [(0, s0)] M = some ([(0, s0)], M) :=
  nb_step (c := true) rfl rfl
theorem q_tl_init_0 (l0 : Int) (M : nb_M) (h1 : l0 ≠ 0) :
    nb_R nb_P 279 0 [(17, l0)] [] M = ((some ([], M) : nb_A)).bind fun r => nb_R nb_P 279 1 [(17, l0)] (r.1 ++ []) r.2 :=
  nb_stepC (c := true) (L2 := [(17, l0)]) (S2 := [(17, l0)]) (M2 := M) (t := 1) (cl := 900) (vi := true) rfl rfl (nb_inv_eq (n := 1) rfl rfl rfl rfl rfl rfl (fun _ => h1) rfl)
theorem q_tl_init_1 (l0 : Int) (M : nb_M) (h1 : M.2.2.1 = 0) :
    nb_R nb_P 279 1 [(17, l0)] [] M = nb_R nb_P 279 2 [(17, l0)] [(3, nb_nx M), (17, l0)] (nb_al M 0 10) :=
  nb_step (c := (true && (decide (M.2.2.1 = 0) && (decide ((0 : Int) ≤ 10) && decide ((10 : Int) ≤ 100000))))) rfl (by simp [h1])
theorem q_tl_init_2 (s0 s1 : Int) (v0 : nb_V) (M : nb_M) (h1 : s1 ≠ 0) :
    nb_R nb_P 279 2 [v0] [(3, s0), (17, s1)] M = nb_R nb_P 279 3 [v0] [] (nb_wr M s1 0 s0) :=
  nb_step (c := (true && (!decide ((s1 : Int) = 0) && (!false || (decide ((s0 : Int) = 0) || decide ((s0 : Int) = 1)))))) rfl (by simp [h1])
theorem q_tl_init_3 (v0 : nb_V) (M : nb_M) :
    nb_R nb_P 279 3 [v0] [] M = some ([], M) :=
  nb_step (c := true) rfl rfl
theorem q_tl_fewestLiars_0 (l0 l1 : Int) (v2 v3 v4 v5 : nb_V) (M : nb_M) :
    nb_R nb_P 280 0 [(17, l0), (12, l1), v2, v3, v4, v5] [] M = nb_R nb_P 280 1 [(17, l0), (12, l1), (0, 0), (0, 0), v4, v5] [] M :=
  nb_step (c := true) rfl rfl
theorem q_tl_fewestLiars_1 (l0 l1 l2 l3 : Int) (v4 v5 : nb_V) (M : nb_M) (h1 : l1 ≠ 0) :
    nb_R nb_P 280 1 [(17, l0), (12, l1), (0, l2), (0, l3), v4, v5] [] M = if l3 < nb_rd M l1 15 then nb_R nb_P 280 2 [(17, l0), (12, l1), (0, l2), (0, l3), v4, v5] [] M else nb_R nb_P 280 3 [(17, l0), (12, l1), (0, l2), (0, l3), v4, v5] [] M :=
  nb_step (c := (true && !decide ((l1 : Int) = 0))) rfl (by simp [h1])
theorem q_tl_fewestLiars_2 (l0 l1 l2 l3 : Int) (v4 v5 : nb_V) (M : nb_M) (h1 : l1 ≠ 0) (h2 : (nb_rd M l1 6) ≠ 0) (h3 : (0 : Int) ≤ l3) (h4 : l3 < nb_ln M (nb_rd M l1 6)) :
    nb_R nb_P 280 2 [(17, l0), (12, l1), (0, l2), (0, l3), v4, v5] [] M = nb_R nb_P 280 1 [(17, l0), (12, l1), (0, nb_or l2 (nb_shl 1 (nb_rd M (nb_rd M l1 6) l3))), (0, nb_add l3 1), v4, v5] [] M :=
  nb_step (c := ((true && !decide ((l1 : Int) = 0)) && (!decide ((nb_rd M l1 6 : Int) = 0) && (decide ((0 : Int) ≤ l3) && decide (l3 < nb_ln M (nb_rd M l1 6)))))) rfl (by simp [h1, h2, h3, h4])
theorem q_tl_fewestLiars_3 (l0 l1 l2 : Int) (v3 v4 v5 : nb_V) (M : nb_M) :
    nb_R nb_P 280 3 [(17, l0), (12, l1), (0, l2), v3, v4, v5] [] M = nb_R nb_P 280 4 [(17, l0), (12, l1), (0, l2), (0, l2), (0, 0), v5] [] M :=
  nb_step (c := true) rfl rfl
theorem q_tl_fewestLiars_4 (l0 l1 l2 l3 l4 : Int) (v5 : nb_V) (M : nb_M) :
    nb_R nb_P 280 4 [(17, l0), (12, l1), (0, l2), (0, l3), (0, l4), v5] [] M = if l4 < l2 then nb_R nb_P 280 5 [(17, l0), (12, l1), (0, l2), (0, l3), (0, l4), v5] [] M else nb_R nb_P 280 16 [(17, l0), (12, l1), (0, l2), (0, l3), (0, l4), v5] [] M :=
  nb_step (c := true) rfl rfl
theorem q_tl_fewestLiars_5 (l0 l1 l2 l3 l4 : Int) (v5 : nb_V) (M : nb_M) :
    nb_R nb_P 280 5 [(17, l0), (12, l1), (0, l2), (0, l3), (0, l4), v5] [] M = if nb_and l4 (nb_xor l2 ((-1))) = 0 then nb_R nb_P 280 6 [(17, l0), (12, l1), (0, l2), (0, l3), (0, l4), v5] [] M else nb_R nb_P 280 7 [(17, l0), (12, l1), (0, l2), (0, l3), (0, l4), v5] [] M :=
  nb_step (c := true) rfl rfl
theorem q_tl_fewestLiars_6 (l0 l1 l2 l3 l4 : Int) (v5 : nb_V) (M : nb_M) :
    nb_R nb_P 280 6 [(17, l0), (12, l1), (0, l2), (0, l3), (0, l4), v5] [] M = nb_R nb_P 280 8 [(17, l0), (12, l1), (0, l2), (0, l3), (0, l4), v5] [(0, 1)] M :=
  nb_step (c := true) rfl rfl
theorem q_tl_fewestLiars_7 (l0 l1 l2 l3 l4 : Int) (v5 : nb_V) (M : nb_M) :
    nb_R nb_P 280 7 [(17, l0), (12, l1), (0, l2), (0, l3), (0, l4), v5] [] M = nb_R nb_P 280 8 [(17, l0), (12, l1), (0, l2), (0, l3), (0, l4), v5] [(0, 0)] M :=
  nb_step (c := true) rfl rfl
theorem q_tl_fewestLiars_8 (l0 l1 l2 l3 l4 s0 : Int) (v5 : nb_V) (M : nb_M) :
    nb_R nb_P 280 8 [(17, l0), (12, l1), (0, l2), (0, l3), (0, l4), v5] [(0, s0)] M = if s0 = 0 then nb_R nb_P 280 15 [(17, l0), (12, l1), (0, l2), (0, l3), (0, l4), (0, s0)] [] M else nb_R nb_P 280 9 [(17, l0), (12, l1), (0, l2), (0, l3), (0, l4), (0, s0)] [] M :=
  nb_step (c := true) rfl rfl
theorem q_tl_fewestLiars_9 (l0 l1 l2 l3 l4 : Int) (v5 : nb_V) (M : nb_M) :
    nb_R nb_P 280 9 [(17, l0), (12, l1), (0, l2), (0, l3), (0, l4), v5] [] M = (nb_R nb_P 294 0 [(0, l4)] [] M).bind fun r => nb_R nb_P 280 10 [(17, l0), (12, l1), (0, l2), (0, l3), (0, l4), v5] (r.1 ++ []) r.2 :=
  nb_stepC (c := true) (L2 := [(17, l0), (12, l1), (0, l2), (0, l3), (0, l4), v5]) (S2 := [(0, l4)]) (M2 := M) (t := 10) (cl := 294) (vi := false) rfl rfl (nb_inv_eq (n := 1) rfl rfl rfl rfl rfl rfl (fun h => by cases h) rfl)
theorem q_tl_fewestLiars_10 (l0 l1 l2 l3 l4 s0 : Int) (v5 : nb_V) (M : nb_M) :
    nb_R nb_P 280 10 [(17, l0), (12, l1), (0, l2), (0, l3), (0, l4), v5] [(0, s0)] M = (nb_R nb_P 294 0 [(0, l3)] [] M).bind fun r => nb_R nb_P 280 11 [(17, l0), (12, l1), (0, l2), (0, l3), (0, l4), v5] (r.1 ++ [(0, s0)]) r.2 :=
  nb_stepC (c := true) (L2 := [(17, l0), (12, l1), (0, l2), (0, l3), (0, l4), v5]) (S2 := [(0, l3), (0, s0)]) (M2 := M) (t := 11) (cl := 294) (vi := false) rfl rfl (nb_inv_eq (n := 1) rfl rfl rfl rfl rfl rfl (fun h => by cases h) rfl)
theorem q_tl_fewestLiars_11 (l0 l1 l2 l3 l4 s0 s1 : Int) (v5 : nb_V) (M : nb_M) :
    nb_R nb_P 280 11 [(17, l0), (12, l1), (0, l2), (0, l3), (0, l4), v5] [(0, s0), (0, s1)] M = if s1 < s0 then nb_R nb_P 280 12 [(17, l0), (12, l1), (0, l2), (0, l3), (0, l4), v5] [] M else nb_R nb_P 280 15 [(17, l0), (12, l1), (0, l2), (0, l3), (0, l4), v5] [] M :=
  nb_step (c := true) rfl rfl
theorem q_tl_fewestLiars_12 (l0 l1 l2 l3 l4 : Int) (v5 : nb_V) (M : nb_M) (h1 : l0 ≠ 0) :
    nb_R nb_P 280 12 [(17, l0), (12, l1), (0, l2), (0, l3), (0, l4), v5] [] M = (nb_R nb_P 282 0 [(17, l0), (12, l1), (0, l4), (98, 0), (98, 0)] [] M).bind fun r => nb_R nb_P 280 13 [(17, l0), (12, l1), (0, l2), (0, l3), (0, l4), v5] (r.1 ++ []) r.2 :=
  nb_stepC (c := true) (L2 := [(17, l0), (12, l1), (0, l2), (0, l3), (0, l4), v5]) (S2 := [(0, l4), (12, l1), (17, l0)]) (M2 := M) (t := 13) (cl := 282) (vi := true) rfl rfl (nb_inv_eq (n := 3) rfl rfl rfl rfl rfl rfl (fun _ => h1) rfl)
theorem q_tl_fewestLiars_13 (l0 l1 l2 l3 l4 s0 : Int) (v5 : nb_V) (M : nb_M) :
    nb_R nb_P 280 13 [(17, l0), (12, l1), (0, l2), (0, l3), (0, l4), v5] [(0, s0)] M = if s0 = 0 then nb_R nb_P 280 15 [(17, l0), (12, l1), (0, l2), (0, l3), (0, l4), v5] [] M else nb_R nb_P 280 14 [(17, l0), (12, l1), (0, l2), (0, l3), (0, l4), v5] [] M :=
  nb_step (c := true) rfl rfl
theorem q_tl_fewestLiars_14 (l0 l1 l2 l4 : Int) (v3 v5 : nb_V) (M : nb_M) :
    nb_R nb_P 280 14 [(17, l0), (12, l1), (0, l2), v3, (0, l4), v5] [] M = nb_R nb_P 280 15 [(17, l0), (12, l1), (0, l2), (0, l4), (0, l4), v5] [] M :=
  nb_step (c := true) rfl rfl
theorem q_tl_fewestLiars_15 (l0 l1 l2 l3 l4 : Int) (v5 : nb_V) (M : nb_M) :
    nb_R nb_P 280 15 [(17, l0), (12, l1), (0, l2), (0, l3), (0, l4), v5] [] M = nb_R nb_P 280 4 [(17, l0), (12, l1), (0, l2), (0, l3), (0, nb_add l4 1), v5] [] M :=
  nb_step (c := true) rfl rfl
theorem q_tl_fewestLiars_16 (l3 : Int) (v0 v1 v2 v4 v5 : nb_V) (M : nb_M) :
    nb_R nb_P 280 16 [v0, v1, v2, (0, l3), v4, v5] [] M = some ([(0, l3)], M) :=
  nb_step (c := true) rfl rfl
theorem q_tl_follows_0 (l0 l1 l2 l3 : Int) (M : nb_M) (h1 : l0 ≠ 0) :
    nb_R nb_P 281 0 [(17, l0), (12, l1), (0, l2), (0, l3)] [] M = (nb_R nb_P 280 0 [(17, l0), (12, l1), (98, 0), (98, 0), (98, 0), (98, 0)] [] M).bind fun r => nb_R nb_P 281 1 [(17, l0), (12, l1), (0, l2), (0, l3)] (r.1 ++ [(12, l1), (17, l0)]) r.2 :=
  nb_stepC (c := true) (L2 := [(17, l0), (12, l1), (0, l2), (0, l3)]) (S2 := [(12, l1), (17, l0), (12, l1), (17, l0)]) (M2 := M) (t := 1) (cl := 280) (vi := true) rfl rfl (nb_inv_eq (n := 2) rfl rfl rfl rfl rfl rfl (fun _ => h1) rfl)
theorem q_tl_follows_1 (l0 l2 l3 s0 s1 s2 : Int) (v1 : nb_V) (M : nb_M) (h1 : s2 ≠ 0) :
    nb_R nb_P 281 1 [(17, l0), v1, (0, l2), (0, l3)] [(0, s0), (12, s1), (17, s2)] M = (nb_R nb_P 282 0 [(17, s2), (12, s1), (0, s0), (98, 0), (98, 0)] [] M).bind fun r => nb_R nb_P 281 2 [(17, l0), v1, (0, l2), (0, l3)] (r.1 ++ []) r.2 :=
  nb_stepC (c := true) (L2 := [(17, l0), v1, (0, l2), (0, l3)]) (S2 := [(0, s0), (12, s1), (17, s2)]) (M2 := M) (t := 2) (cl := 282) (vi := true) rfl rfl (nb_inv_eq (n := 3) rfl rfl rfl rfl rfl rfl (fun _ => h1) rfl)
theorem q_tl_follows_2 (l0 l2 l3 s0 : Int) (v1 : nb_V) (M : nb_M) (h1 : l0 ≠ 0) (h2 : (nb_rd M l0 0) ≠ 0) (h3 : (0 : Int) ≤ l2) (h4 : l2 < nb_ln M (nb_rd M l0 0)) :
    nb_R nb_P 281 2 [(17, l0), v1, (0, l2), (0, l3)] [(0, s0)] M = if nb_and (nb_shr (nb_rd M (nb_rd M l0 0) l2) l3) 1 = 1 then nb_R nb_P 281 3 [(17, l0), v1, (0, l2), (0, l3)] [] M else nb_R nb_P 281 4 [(17, l0), v1, (0, l2), (0, l3)] [] M :=
  nb_step (c := ((true && !decide ((l0 : Int) = 0)) && (!decide ((nb_rd M l0 0 : Int) = 0) && (decide ((0 : Int) ≤ l2) && decide (l2 < nb_ln M (nb_rd M l0 0)))))) rfl (by simp [h1, h2, h3, h4])
theorem q_tl_follows_3 (v0 v1 v2 v3 : nb_V) (M : nb_M) :
    nb_R nb_P 281 3 [v0, v1, v2, v3] [] M = nb_R nb_P 281 5 [v0, v1, v2, v3] [(0, 1)] M :=
  nb_step (c := true) rfl rfl
theorem q_tl_follows_4 (v0 v1 v2 v3 : nb_V) (M : nb_M) :
    nb_R nb_P 281 4 [v0, v1, v2, v3] [] M = nb_R nb_P 281 5 [v0, v1, v2, v3] [(0, 0)] M :=
  nb_step (c := true) rfl rfl
theorem q_tl_follows_5 (s0 : Int) (v0 v1 v2 v3 : nb_V) (M : nb_M) :
    nb_R nb_P 281 5 [v0, v1, v2, v3] [(0, s0)] M = some ([(0, nb_i2z s0)], M) :=
  nb_step (c := true) rfl rfl
theorem q_tl_agreeWithout_0 (l0 l1 l2 : Int) (v3 v4 : nb_V) (M : nb_M) (h1 : l0 ≠ 0) :
    nb_R nb_P 282 0 [(17, l0), (12, l1), (0, l2), v3, v4] [] M = (nb_R nb_P 295 0 [(3, nb_rd M l0 0), (0, 0), (98, 0), (98, 0)] [] M).bind fun r => nb_R nb_P 282 1 [(17, l0), (12, l1), (0, l2), v3, v4] (r.1 ++ []) r.2 :=
  nb_stepC (c := (true && !decide ((l0 : Int) = 0))) (L2 := [(17, l0), (12, l1), (0, l2), v3, v4]) (S2 := [(0, 0), (3, nb_rd M l0 0)]) (M2 := M) (t := 1) (cl := 295) (vi := false) rfl (by simp [h1]) (nb_inv_eq (n := 2) rfl rfl rfl rfl rfl rfl (fun h => by cases h) rfl)
theorem q_tl_agreeWithout_1 (l0 l1 l2 : Int) (v3 v4 : nb_V) (M : nb_M) :
    nb_R nb_P 282 1 [(17, l0), (12, l1), (0, l2), v3, v4] [] M = nb_R nb_P 282 2 [(17, l0), (12, l1), (0, l2), (0, 0), v4] [] M :=
  nb_step (c := true) rfl rfl
theorem q_tl_agreeWithout_2 (l0 l1 l2 l3 : Int) (v4 : nb_V) (M : nb_M) (h1 : l1 ≠ 0) :
    nb_R nb_P 282 2 [(17, l0), (12, l1), (0, l2), (0, l3), v4] [] M = if l3 < nb_rd M l1 15 then nb_R nb_P 282 3 [(17, l0), (12, l1), (0, l2), (0, l3), v4] [] M else nb_R nb_P 282 6 [(17, l0), (12, l1), (0, l2), (0, l3), v4] [] M :=
  nb_step (c := (true && !decide ((l1 : Int) = 0))) rfl (by simp [h1])
theorem q_tl_agreeWithout_3 (l0 l1 l2 l3 : Int) (v4 : nb_V) (M : nb_M) (h1 : l1 ≠ 0) (h2 : (nb_rd M l1 6) ≠ 0) (h3 : (0 : Int) ≤ l3) (h4 : l3 < nb_ln M (nb_rd M l1 6)) :
    nb_R nb_P 282 3 [(17, l0), (12, l1), (0, l2), (0, l3), v4] [] M = if nb_and (nb_shr l2 (nb_rd M (nb_rd M l1 6) l3)) 1 = 0 then nb_R nb_P 282 4 [(17, l0), (12, l1), (0, l2), (0, l3), v4] [] M else nb_R nb_P 282 5 [(17, l0), (12, l1), (0, l2), (0, l3), v4] [] M :=
  nb_step (c := ((true && !decide ((l1 : Int) = 0)) && (!decide ((nb_rd M l1 6 : Int) = 0) && (decide ((0 : Int) ≤ l3) && decide (l3 < nb_ln M (nb_rd M l1 6)))))) rfl (by simp [h1, h2, h3, h4])
theorem q_tl_agreeWithout_4 (l0 l1 l2 l3 : Int) (v4 : nb_V) (M : nb_M) (h1 : l0 ≠ 0) (h2 : l1 ≠ 0) (h3 : (nb_rd M l1 7) ≠ 0) (h4 : (0 : Int) ≤ l3) (h5 : l3 < nb_ln M (nb_rd M l1 7)) (h6 : (nb_rd M l0 0) ≠ 0) (h7 : (0 : Int) ≤ nb_rd M (nb_rd M l1 7) l3) (h8 : nb_rd M (nb_rd M l1 7) l3 < nb_ln M (nb_rd M l0 0)) (h9 : (nb_rd M l1 8) ≠ 0) (h10 : l3 < nb_ln M (nb_rd M l1 8)) (h11 : (nb_rd M l0 0) ≠ 1) :
    nb_R nb_P 282 4 [(17, l0), (12, l1), (0, l2), (0, l3), v4] [] M = nb_R nb_P 282 5 [(17, l0), (12, l1), (0, l2), (0, l3), v4] [] (nb_wr M (nb_rd M l0 0) (nb_rd M (nb_rd M l1 7) l3) (nb_or (nb_rd M (nb_rd M l0 0) (nb_rd M (nb_rd M l1 7) l3)) (nb_shl 1 (nb_rd M (nb_rd M l1 8) l3)))) :=
  nb_step (c := (((((((true && !decide ((l0 : Int) = 0)) && !decide ((l1 : Int) = 0)) && (!decide ((nb_rd M l1 7 : Int) = 0) && (decide ((0 : Int) ≤ l3) && decide (l3 < nb_ln M (nb_rd M l1 7))))) && (!decide ((nb_rd M l0 0 : Int) = 0) && (decide ((0 : Int) ≤ nb_rd M (nb_rd M l1 7) l3) && decide (nb_rd M (nb_rd M l1 7) l3 < nb_ln M (nb_rd M l0 0))))) && !decide ((l1 : Int) = 0)) && (!decide ((nb_rd M l1 8 : Int) = 0) && (decide ((0 : Int) ≤ l3) && decide (l3 < nb_ln M (nb_rd M l1 8))))) && (!decide ((nb_rd M l0 0 : Int) = 0) && (!decide ((nb_rd M l0 0 : Int) = 1) && (decide ((0 : Int) ≤ nb_rd M (nb_rd M l1 7) l3) && decide (nb_rd M (nb_rd M l1 7) l3 < nb_ln M (nb_rd M l0 0))))))) rfl (by simp [h1, h2, h3, h4, h5, h6, h7, h8, h9, h10, h11])
theorem q_tl_agreeWithout_5 (l0 l1 l2 l3 : Int) (v4 : nb_V) (M : nb_M) :
    nb_R nb_P 282 5 [(17, l0), (12, l1), (0, l2), (0, l3), v4] [] M = nb_R nb_P 282 2 [(17, l0), (12, l1), (0, l2), (0, nb_add l3 1), v4] [] M :=
  nb_step (c := true) rfl rfl
theorem q_tl_agreeWithout_6 (l0 : Int) (v1 v2 v3 v4 : nb_V) (M : nb_M) :
    nb_R nb_P 282 6 [(17, l0), v1, v2, v3, v4] [] M = nb_R nb_P 282 7 [(17, l0), v1, nb_clr v2, (0, 0), v4] [] M :=
  nb_step (c := true) rfl rfl
theorem q_tl_agreeWithout_7 (l0 l3 : Int) (v1 v2 v4 : nb_V) (M : nb_M) :
    nb_R nb_P 282 7 [(17, l0), v1, v2, (0, l3), v4] [] M = if l3 < 10 then nb_R nb_P 282 8 [(17, l0), v1, v2, (0, l3), v4] [] M else nb_R nb_P 282 14 [(17, l0), v1, v2, (0, l3), v4] [] M :=
  nb_step (c := true) rfl rfl
theorem q_tl_agreeWithout_8 (l0 l3 : Int) (v1 v2 v4 : nb_V) (M : nb_M) :
    nb_R nb_P 282 8 [(17, l0), v1, v2, (0, l3), v4] [] M = nb_R nb_P 282 9 [(17, l0), v1, v2, (0, l3), (0, 0)] [] M :=
  nb_step (c := true) rfl rfl
theorem q_tl_agreeWithout_9 (l0 l3 l4 : Int) (v1 v2 : nb_V) (M : nb_M) :
    nb_R nb_P 282 9 [(17, l0), v1, v2, (0, l3), (0, l4)] [] M = if l4 < 10 then nb_R nb_P 282 10 [(17, l0), v1, v2, (0, l3), (0, l4)] [] M else nb_R nb_P 282 13 [(17, l0), v1, v2, (0, l3), (0, l4)] [] M :=
  nb_step (c := true) rfl rfl
theorem q_tl_agreeWithout_10 (l0 l3 l4 : Int) (v1 v2 : nb_V) (M : nb_M) (h1 : l0 ≠ 0) (h2 : (nb_rd M l0 0) ≠ 0) (h3 : (0 : Int) ≤ l4) (h4 : l4 < nb_ln M (nb_rd M l0 0)) :
    nb_R nb_P 282 10 [(17, l0), v1, v2, (0, l3), (0, l4)] [] M = if nb_and (nb_shr (nb_rd M (nb_rd M l0 0) l4) l3) 1 = 1 then nb_R nb_P 282 11 [(17, l0), v1, v2, (0, l3), (0, l4)] [] M else nb_R nb_P 282 12 [(17, l0), v1, v2, (0, l3), (0, l4)] [] M :=
  nb_step (c := ((true && !decide ((l0 : Int) = 0)) && (!decide ((nb_rd M l0 0 : Int) = 0) && (decide ((0 : Int) ≤ l4) && decide (l4 < nb_ln M (nb_rd M l0 0)))))) rfl (by simp [h1, h2, h3, h4])
theorem q_tl_agreeWithout_11 (l0 l3 l4 : Int) (v1 v2 : nb_V) (M : nb_M) (h1 : l0 ≠ 0) (h2 : (nb_rd M l0 0) ≠ 0) (h3 : (0 : Int) ≤ l4) (h4 : l4 < nb_ln M (nb_rd M l0 0)) (h5 : (0 : Int) ≤ l3) (h6 : l3 < nb_ln M (nb_rd M l0 0)) (h7 : (nb_rd M l0 0) ≠ 1) :
    nb_R nb_P 282 11 [(17, l0), v1, v2, (0, l3), (0, l4)] [] M = nb_R nb_P 282 12 [(17, l0), v1, v2, (0, l3), (0, l4)] [] (nb_wr M (nb_rd M l0 0) l4 (nb_or (nb_rd M (nb_rd M l0 0) l4) (nb_rd M (nb_rd M l0 0) l3))) :=
  nb_step (c := (((((true && !decide ((l0 : Int) = 0)) && (!decide ((nb_rd M l0 0 : Int) = 0) && (decide ((0 : Int) ≤ l4) && decide (l4 < nb_ln M (nb_rd M l0 0))))) && !decide ((l0 : Int) = 0)) && (!decide ((nb_rd M l0 0 : Int) = 0) && (decide ((0 : Int) ≤ l3) && decide (l3 < nb_ln M (nb_rd M l0 0))))) && (!decide ((nb_rd M l0 0 : Int) = 0) && (!decide ((nb_rd M l0 0 : Int) = 1) && (decide ((0 : Int) ≤ l4) && decide (l4 < nb_ln M (nb_rd M l0 0))))))) rfl (by simp [h1, h2, h3, h4, h5, h6, h7])
theorem q_tl_agreeWithout_12 (l0 l3 l4 : Int) (v1 v2 : nb_V) (M : nb_M) :
    nb_R nb_P 282 12 [(17, l0), v1, v2, (0, l3), (0, l4)] [] M = nb_R nb_P 282 9 [(17, l0), v1, v2, (0, l3), (0, nb_add l4 1)] [] M :=
  nb_step (c := true) rfl rfl
theorem q_tl_agreeWithout_13 (l0 l3 : Int) (v1 v2 v4 : nb_V) (M : nb_M) :
    nb_R nb_P 282 13 [(17, l0), v1, v2, (0, l3), v4] [] M = nb_R nb_P 282 7 [(17, l0), v1, nb_clr v2, (0, nb_add l3 1), v4] [] M :=
  nb_step (c := true) rfl rfl
theorem q_tl_agreeWithout_14 (l0 : Int) (v1 v2 v3 v4 : nb_V) (M : nb_M) :
    nb_R nb_P 282 14 [(17, l0), v1, v2, v3, v4] [] M = nb_R nb_P 282 15 [(17, l0), v1, nb_clr v2, (0, 0), v4] [] M :=
  nb_step (c := true) rfl rfl
theorem q_tl_agreeWithout_15 (l0 l3 : Int) (v1 v2 v4 : nb_V) (M : nb_M) :
    nb_R nb_P 282 15 [(17, l0), v1, v2, (0, l3), v4] [] M = if l3 < 10 then nb_R nb_P 282 16 [(17, l0), v1, v2, (0, l3), v4] [] M else nb_R nb_P 282 19 [(17, l0), v1, v2, (0, l3), v4] [] M :=
  nb_step (c := true) rfl rfl
theorem q_tl_agreeWithout_16 (l0 l3 : Int) (v1 v2 v4 : nb_V) (M : nb_M) (h1 : l0 ≠ 0) (h2 : (nb_rd M l0 0) ≠ 0) (h3 : (0 : Int) ≤ l3) (h4 : l3 < nb_ln M (nb_rd M l0 0)) :
    nb_R nb_P 282 16 [(17, l0), v1, v2, (0, l3), v4] [] M = if nb_and (nb_shr (nb_rd M (nb_rd M l0 0) l3) l3) 1 = 1 then nb_R nb_P 282 17 [(17, l0), v1, v2, (0, l3), v4] [] M else nb_R nb_P 282 18 [(17, l0), v1, v2, (0, l3), v4] [] M :=
  nb_step (c := ((true && !decide ((l0 : Int) = 0)) && (!decide ((nb_rd M l0 0 : Int) = 0) && (decide ((0 : Int) ≤ l3) && decide (l3 < nb_ln M (nb_rd M l0 0)))))) rfl (by simp [h1, h2, h3, h4])
theorem q_tl_agreeWithout_17 (v0 v1 v2 v3 v4 : nb_V) (M : nb_M) :
    nb_R nb_P 282 17 [v0, v1, v2, v3, v4] [] M = some ([(0, 0)], M) :=
  nb_step (c := true) rfl rfl
theorem q_tl_agreeWithout_18 (l0 l3 : Int) (v1 v2 v4 : nb_V) (M : nb_M) :
    nb_R nb_P 282 18 [(17, l0), v1, v2, (0, l3), v4] [] M = nb_R nb_P 282 15 [(17, l0), v1, nb_clr v2, (0, nb_add l3 1), v4] [] M :=
  nb_step (c := true) rfl rfl
theorem q_tl_agreeWithout_19 (v0 v1 v2 v3 v4 : nb_V) (M : nb_M) :
    nb_R nb_P 282 19 [v0, v1, v2, v3, v4] [] M = some ([(0, 1)], M) :=
  nb_step (c := true) rfl rfl
theorem q_tk_init_0 (l0 : Int) (M : nb_M) (h1 : l0 ≠ 0) :
    nb_R nb_P 283 0 [(18, l0)] [] M = ((some ([], M) : nb_A)).bind fun r => nb_R nb_P 283 1 [(18, l0)] (r.1 ++ []) r.2 :=
  nb_stepC (c := true) (L2 := [(18, l0)]) (S2 := [(18, l0)]) (M2 := M) (t := 1) (cl := 900) (vi := true) rfl rfl (nb_inv_eq (n := 1) rfl rfl rfl rfl rfl rfl (fun _ => h1) rfl)
theorem q_tk_init_1 (l0 : Int) (M : nb_M) (h1 : M.2.2.1 = 0) :
    nb_R nb_P 283 1 [(18, l0)] [] M = nb_R nb_P 283 2 [(18, l0)] [(3, nb_nx M), (18, l0)] (nb_al M 0 1001) :=
  nb_step (c := (true && (decide (M.2.2.1 = 0) && (decide ((0 : Int) ≤ 1001) && decide ((1001 : Int) ≤ 100000))))) rfl (by simp [h1])
theorem q_tk_init_2 (l0 s0 s1 : Int) (M : nb_M) (h1 : s1 ≠ 0) :
    nb_R nb_P 283 2 [(18, l0)] [(3, s0), (18, s1)] M = nb_R nb_P 283 3 [(18, l0)] [] (nb_wr M s1 0 s0) :=
  nb_step (c := (true && (!decide ((s1 : Int) = 0) && (!false || (decide ((s0 : Int) = 0) || decide ((s0 : Int) = 1)))))) rfl (by simp [h1])
theorem q_tk_init_3 (l0 : Int) (M : nb_M) (h1 : M.2.2.1 = 0) :
    nb_R nb_P 283 3 [(18, l0)] [] M = nb_R nb_P 283 4 [(18, l0)] [(3, nb_nx M), (18, l0)] (nb_al M 0 1001) :=
  nb_step (c := (true && (decide (M.2.2.1 = 0) && (decide ((0 : Int) ≤ 1001) && decide ((1001 : Int) ≤ 100000))))) rfl (by simp [h1])
theorem q_tk_init_4 (l0 s0 s1 : Int) (M : nb_M) (h1 : s1 ≠ 0) :
    nb_R nb_P 283 4 [(18, l0)] [(3, s0), (18, s1)] M = nb_R nb_P 283 5 [(18, l0)] [] (nb_wr M s1 1 s0) :=
  nb_step (c := (true && (!decide ((s1 : Int) = 0) && (!false || (decide ((s0 : Int) = 0) || decide ((s0 : Int) = 1)))))) rfl (by simp [h1])
theorem q_tk_init_5 (l0 : Int) (M : nb_M) (h1 : M.2.2.1 = 0) :
    nb_R nb_P 283 5 [(18, l0)] [] M = nb_R nb_P 283 6 [(18, l0)] [(5, nb_nx M), (18, l0)] (nb_al M 2 1001) :=
  nb_step (c := (true && (decide (M.2.2.1 = 0) && (decide ((0 : Int) ≤ 1001) && decide ((1001 : Int) ≤ 100000))))) rfl (by simp [h1])
theorem q_tk_init_6 (s0 s1 : Int) (v0 : nb_V) (M : nb_M) (h1 : s1 ≠ 0) :
    nb_R nb_P 283 6 [v0] [(5, s0), (18, s1)] M = nb_R nb_P 283 7 [v0] [] (nb_wr M s1 2 s0) :=
  nb_step (c := (true && (!decide ((s1 : Int) = 0) && (!false || (decide ((s0 : Int) = 0) || decide ((s0 : Int) = 1)))))) rfl (by simp [h1])
theorem q_tk_init_7 (v0 : nb_V) (M : nb_M) :
    nb_R nb_P 283 7 [v0] [] M = some ([], M) :=
  nb_step (c := true) rfl rfl
theorem q_tk_part_0 (l0 l1 l2 : Int) (v3 v4 v5 : nb_V) (M : nb_M) (h1 : l0 ≠ 0) :
    nb_R nb_P 284 0 [(18, l0), (4, l1), (0, l2), v3, v4, v5] [] M = nb_R nb_P 284 1 [(18, l0), (4, l1), (0, l2), v3, v4, v5] [] (nb_wr M l0 3 0) :=
  nb_step (c := (true && (!decide ((l0 : Int) = 0) && (!false || (decide ((0 : Int) = 0) || decide ((0 : Int) = 1)))))) rfl (by simp [h1])
theorem q_tk_part_1 (l0 l1 l2 : Int) (v3 v4 v5 : nb_V) (M : nb_M) :
    nb_R nb_P 284 1 [(18, l0), (4, l1), (0, l2), v3, v4, v5] [] M = nb_R nb_P 284 2 [(18, l0), (4, l1), (0, l2), (0, 0), (0, 0), v5] [] M :=
  nb_step (c := true) rfl rfl
theorem q_tk_part_2 (l0 l1 l2 l3 l4 : Int) (v5 : nb_V) (M : nb_M) :
    nb_R nb_P 284 2 [(18, l0), (4, l1), (0, l2), (0, l3), (0, l4), v5] [] M = if l3 < l2 then nb_R nb_P 284 3 [(18, l0), (4, l1), (0, l2), (0, l3), (0, l4), v5] [] M else nb_R nb_P 284 12 [(18, l0), (4, l1), (0, l2), (0, l3), (0, l4), v5] [] M :=
  nb_step (c := true) rfl rfl
theorem q_tk_part_3 (l0 l1 l2 l3 l4 : Int) (v5 : nb_V) (M : nb_M) :
    nb_R nb_P 284 3 [(18, l0), (4, l1), (0, l2), (0, l3), (0, l4), v5] [] M = if l4 = 0 then nb_R nb_P 284 4 [(18, l0), (4, l1), (0, l2), (0, l3), (0, l4), v5] [] M else nb_R nb_P 284 12 [(18, l0), (4, l1), (0, l2), (0, l3), (0, l4), v5] [] M :=
  nb_step (c := true) rfl rfl
theorem q_tk_part_4 (l0 l1 l2 l3 l4 : Int) (v5 : nb_V) (M : nb_M) (h1 : l1 ≠ 0) (h2 : (0 : Int) ≤ l3) (h3 : l3 < nb_ln M l1) :
    nb_R nb_P 284 4 [(18, l0), (4, l1), (0, l2), (0, l3), (0, l4), v5] [] M = if nb_rd M l1 l3 = 32 then nb_R nb_P 284 5 [(18, l0), (4, l1), (0, l2), (0, l3), (0, l4), v5] [] M else nb_R nb_P 284 6 [(18, l0), (4, l1), (0, l2), (0, l3), (0, l4), v5] [] M :=
  nb_step (c := (true && (!decide ((l1 : Int) = 0) && (decide ((0 : Int) ≤ l3) && decide (l3 < nb_ln M l1))))) rfl (by simp [h1, h2, h3])
theorem q_tk_part_5 (l0 l1 l2 l3 l4 : Int) (v5 : nb_V) (M : nb_M) :
    nb_R nb_P 284 5 [(18, l0), (4, l1), (0, l2), (0, l3), (0, l4), v5] [] M = nb_R nb_P 284 2 [(18, l0), (4, l1), (0, l2), (0, nb_add l3 1), (0, l4), v5] [] M :=
  nb_step (c := true) rfl rfl
theorem q_tk_part_6 (l0 l1 l2 l3 : Int) (v4 v5 : nb_V) (M : nb_M) :
    nb_R nb_P 284 6 [(18, l0), (4, l1), (0, l2), (0, l3), v4, v5] [] M = (nb_R nb_P 287 0 [(4, l1), (0, l3), (0, l2), (98, 0)] [] M).bind fun r => nb_R nb_P 284 7 [(18, l0), (4, l1), (0, l2), (0, l3), v4, v5] (r.1 ++ []) r.2 :=
  nb_stepC (c := true) (L2 := [(18, l0), (4, l1), (0, l2), (0, l3), v4, v5]) (S2 := [(0, l2), (0, l3), (4, l1)]) (M2 := M) (t := 7) (cl := 287) (vi := false) rfl rfl (nb_inv_eq (n := 3) rfl rfl rfl rfl rfl rfl (fun h => by cases h) rfl)
theorem q_tk_part_7 (l0 l1 l2 l3 s0 : Int) (v4 v5 : nb_V) (M : nb_M) (h1 : l0 ≠ 0) :
    nb_R nb_P 284 7 [(18, l0), (4, l1), (0, l2), (0, l3), v4, v5] [(0, s0)] M = (nb_R nb_P 288 0 [(18, l0), (4, l1), (0, l3), (0, s0)] [] M).bind fun r => nb_R nb_P 284 8 [(18, l0), (4, l1), (0, l2), (0, l3), nb_clr v4, (0, s0)] (r.1 ++ []) r.2 :=
  nb_stepC (c := true) (L2 := [(18, l0), (4, l1), (0, l2), (0, l3), nb_clr v4, (0, s0)]) (S2 := [(0, s0), (0, l3), (4, l1), (18, l0)]) (M2 := M) (t := 8) (cl := 288) (vi := true) rfl rfl (nb_inv_eq (n := 4) rfl rfl rfl rfl rfl rfl (fun _ => h1) rfl)
theorem q_tk_part_8 (l0 l1 l2 l5 : Int) (v3 v4 : nb_V) (M : nb_M) (h1 : l0 ≠ 0) (h2 : (nb_rd M l0 0) ≠ 0) (h3 : (0 : Int) ≤ nb_sub (nb_rd M l0 3) 1) (h4 : nb_sub (nb_rd M l0 3) 1 < nb_ln M (nb_rd M l0 0)) :
    nb_R nb_P 284 8 [(18, l0), (4, l1), (0, l2), v3, v4, (0, l5)] [] M = if nb_rd M (nb_rd M l0 0) (nb_sub (nb_rd M l0 3) 1) = 6 then nb_R nb_P 284 9 [(18, l0), (4, l1), (0, l2), v3, v4, (0, l5)] [] M else nb_R nb_P 284 10 [(18, l0), (4, l1), (0, l2), v3, v4, (0, l5)] [] M :=
  nb_step (c := (((true && !decide ((l0 : Int) = 0)) && !decide ((l0 : Int) = 0)) && (!decide ((nb_rd M l0 0 : Int) = 0) && (decide ((0 : Int) ≤ nb_sub (nb_rd M l0 3) 1) && decide (nb_sub (nb_rd M l0 3) 1 < nb_ln M (nb_rd M l0 0)))))) rfl (by simp [h1, h2, h3, h4])
theorem q_tk_part_9 (l0 l1 l2 l5 : Int) (v3 v4 : nb_V) (M : nb_M) :
    nb_R nb_P 284 9 [(18, l0), (4, l1), (0, l2), v3, v4, (0, l5)] [] M = nb_R nb_P 284 11 [(18, l0), (4, l1), (0, l2), v3, v4, (0, l5)] [(0, 1)] M :=
  nb_step (c := true) rfl rfl
theorem q_tk_part_10 (l0 l1 l2 l5 : Int) (v3 v4 : nb_V) (M : nb_M) :
    nb_R nb_P 284 10 [(18, l0), (4, l1), (0, l2), v3, v4, (0, l5)] [] M = nb_R nb_P 284 11 [(18, l0), (4, l1), (0, l2), v3, v4, (0, l5)] [(0, 0)] M :=
  nb_step (c := true) rfl rfl
theorem q_tk_part_11 (l0 l1 l2 l5 s0 : Int) (v3 v4 : nb_V) (M : nb_M) :
    nb_R nb_P 284 11 [(18, l0), (4, l1), (0, l2), v3, v4, (0, l5)] [(0, s0)] M = nb_R nb_P 284 2 [(18, l0), (4, l1), (0, l2), (0, l5), (0, s0), (0, l5)] [] M :=
  nb_step (c := true) rfl rfl
theorem q_tk_part_12 (l0 l2 l4 : Int) (v1 v3 v5 : nb_V) (M : nb_M) (h1 : l0 ≠ 0) :
    nb_R nb_P 284 12 [(18, l0), v1, (0, l2), v3, (0, l4), v5] [] M = if l4 = 0 then nb_R nb_P 284 14 [(18, l0), v1, (0, l2), v3, (0, l4), v5] [(0, nb_rd M l0 3), (3, nb_rd M l0 0)] M else nb_R nb_P 284 13 [(18, l0), v1, (0, l2), v3, (0, l4), v5] [(0, nb_rd M l0 3), (3, nb_rd M l0 0)] M :=
  nb_step (c := ((true && !decide ((l0 : Int) = 0)) && !decide ((l0 : Int) = 0))) rfl (by simp [h1])
theorem q_tk_part_13 (l0 l2 s0 s1 : Int) (v1 v3 v4 v5 : nb_V) (M : nb_M) :
    nb_R nb_P 284 13 [(18, l0), v1, (0, l2), v3, v4, v5] [(0, s0), (3, s1)] M = nb_R nb_P 284 15 [(18, l0), v1, (0, l2), v3, v4, v5] [(0, 6), (0, s0), (3, s1)] M :=
  nb_step (c := true) rfl rfl
theorem q_tk_part_14 (l0 l2 s0 s1 : Int) (v1 v3 v4 v5 : nb_V) (M : nb_M) :
    nb_R nb_P 284 14 [(18, l0), v1, (0, l2), v3, v4, v5] [(0, s0), (3, s1)] M = nb_R nb_P 284 15 [(18, l0), v1, (0, l2), v3, v4, v5] [(0, 0), (0, s0), (3, s1)] M :=
  nb_step (c := true) rfl rfl
theorem q_tk_part_15 (l0 l2 s0 s1 s2 : Int) (v1 v3 v4 v5 : nb_V) (M : nb_M) (h1 : s2 ≠ 0) (h2 : s2 ≠ 1) (h3 : (0 : Int) ≤ s1) (h4 : s1 < nb_ln M s2) :
    nb_R nb_P 284 15 [(18, l0), v1, (0, l2), v3, v4, v5] [(0, s0), (0, s1), (3, s2)] M = nb_R nb_P 284 16 [(18, l0), v1, (0, l2), v3, v4, v5] [] (nb_wr M s2 s1 s0) :=
  nb_step (c := (true && (!decide ((s2 : Int) = 0) && (!decide ((s2 : Int) = 1) && (decide ((0 : Int) ≤ s1) && decide (s1 < nb_ln M s2)))))) rfl (by simp [h1, h2, h3, h4])
theorem q_tk_part_16 (l0 l2 : Int) (v1 v3 v4 v5 : nb_V) (M : nb_M) (h1 : l0 ≠ 0) (h2 : (nb_rd M l0 1) ≠ 0) (h3 : (nb_rd M l0 1) ≠ 1) (h4 : (0 : Int) ≤ nb_rd M l0 3) (h5 : nb_rd M l0 3 < nb_ln M (nb_rd M l0 1)) :
    nb_R nb_P 284 16 [(18, l0), v1, (0, l2), v3, v4, v5] [] M = nb_R nb_P 284 17 [(18, l0), v1, (0, l2), v3, v4, v5] [] (nb_wr M (nb_rd M l0 1) (nb_rd M l0 3) l2) :=
  nb_step (c := (((true && !decide ((l0 : Int) = 0)) && !decide ((l0 : Int) = 0)) && (!decide ((nb_rd M l0 1 : Int) = 0) && (!decide ((nb_rd M l0 1 : Int) = 1) && (decide ((0 : Int) ≤ nb_rd M l0 3) && decide (nb_rd M l0 3 < nb_ln M (nb_rd M l0 1))))))) rfl (by simp [h1, h2, h3, h4, h5])
theorem q_tk_part_17 (l0 : Int) (v1 v2 v3 v4 v5 : nb_V) (M : nb_M) (h1 : l0 ≠ 0) (h2 : (nb_rd M l0 2) ≠ 0) (h3 : (nb_rd M l0 2) ≠ 1) (h4 : (0 : Int) ≤ nb_rd M l0 3) (h5 : nb_rd M l0 3 < nb_ln M (nb_rd M l0 2)) :
    nb_R nb_P 284 17 [(18, l0), v1, v2, v3, v4, v5] [] M = nb_R nb_P 284 18 [(18, l0), v1, v2, v3, v4, v5] [] (nb_wr M (nb_rd M l0 2) (nb_rd M l0 3) 0) :=
  nb_step (c := (((true && !decide ((l0 : Int) = 0)) && !decide ((l0 : Int) = 0)) && (!decide ((nb_rd M l0 2 : Int) = 0) && (!decide ((nb_rd M l0 2 : Int) = 1) && (decide ((0 : Int) ≤ nb_rd M l0 3) && decide (nb_rd M l0 3 < nb_ln M (nb_rd M l0 2))))))) rfl (by simp [h1, h2, h3, h4, h5])
theorem q_tk_part_18 (v0 v1 v2 v3 v4 v5 : nb_V) (M : nb_M) :
    nb_R nb_P 284 18 [v0, v1, v2, v3, v4, v5] [] M = some ([], M) :=
  nb_step (c := true) rfl rfl
theorem q_tk_isLetter_0 (l0 : Int) (M : nb_M) :
    nb_R nb_P 285 0 [(0, l0)] [] M = if l0 < 97 then nb_R nb_P 285 3 [(0, l0)] [] M else nb_R nb_P 285 1 [(0, l0)] [] M :=
  nb_step (c := true) rfl rfl
theorem q_tk_isLetter_1 (l0 : Int) (M : nb_M) :
    nb_R nb_P 285 1 [(0, l0)] [] M = if 122 < l0 then nb_R nb_P 285 3 [(0, l0)] [] M else nb_R nb_P 285 2 [(0, l0)] [] M :=
  nb_step (c := true) rfl rfl
theorem q_tk_isLetter_2 (v0 : nb_V) (M : nb_M) :
    nb_R nb_P 285 2 [v0] [] M = nb_R nb_P 285 4 [v0] [(0, 1)] M :=
  nb_step (c := true) rfl rfl
theorem q_tk_isLetter_3 (v0 : nb_V) (M : nb_M) :
    nb_R nb_P 285 3 [v0] [] M = nb_R nb_P 285 4 [v0] [(0, 0)] M :=
  nb_step (c := true) rfl rfl
theorem q_tk_isLetter_4 (s0 : Int) (v0 : nb_V) (M : nb_M) :
    nb_R nb_P 285 4 [v0] [(0, s0)] M = some ([(0, nb_i2z s0)], M) :=
  nb_step (c := true) rfl rfl
theorem q_tk_isDigit_0 (l0 : Int) (M : nb_M) :
    nb_R nb_P 286 0 [(0, l0)] [] M = if l0 < 48 then nb_R nb_P 286 3 [(0, l0)] [] M else nb_R nb_P 286 1 [(0, l0)] [] M :=
  nb_step (c := true) rfl rfl
theorem q_tk_isDigit_1 (l0 : Int) (M : nb_M) :
    nb_R nb_P 286 1 [(0, l0)] [] M = if 57 < l0 then nb_R nb_P 286 3 [(0, l0)] [] M else nb_R nb_P 286 2 [(0, l0)] [] M :=
  nb_step (c := true) rfl rfl
theorem q_tk_isDigit_2 (v0 : nb_V) (M : nb_M) :
    nb_R nb_P 286 2 [v0] [] M = nb_R nb_P 286 4 [v0] [(0, 1)] M :=
  nb_step (c := true) rfl rfl
theorem q_tk_isDigit_3 (v0 : nb_V) (M : nb_M) :
    nb_R nb_P 286 3 [v0] [] M = nb_R nb_P 286 4 [v0] [(0, 0)] M :=
  nb_step (c := true) rfl rfl
theorem q_tk_isDigit_4 (s0 : Int) (v0 : nb_V) (M : nb_M) :
    nb_R nb_P 286 4 [v0] [(0, s0)] M = some ([(0, nb_i2z s0)], M) :=
  nb_step (c := true) rfl rfl
theorem q_tk_endOfToken_0 (l0 l1 l2 : Int) (v3 : nb_V) (M : nb_M) (h1 : l0 ≠ 0) (h2 : (0 : Int) ≤ l1) (h3 : l1 < nb_ln M l0) :
    nb_R nb_P 287 0 [(4, l0), (0, l1), (0, l2), v3] [] M = (nb_R nb_P 285 0 [(0, nb_rd M l0 l1)] [] M).bind fun r => nb_R nb_P 287 1 [(4, l0), (0, l1), (0, l2), (0, nb_add l1 1)] (r.1 ++ []) r.2 :=
  nb_stepC (c := (true && (!decide ((l0 : Int) = 0) && (decide ((0 : Int) ≤ l1) && decide (l1 < nb_ln M l0))))) (L2 := [(4, l0), (0, l1), (0, l2), (0, nb_add l1 1)]) (S2 := [(0, nb_rd M l0 l1)]) (M2 := M) (t := 1) (cl := 285) (vi := false) rfl (by simp [h1, h2, h3]) (nb_inv_eq (n := 1) rfl rfl rfl rfl rfl rfl (fun h => by cases h) rfl)
theorem q_tk_endOfToken_1 (l0 l1 l2 l3 s0 : Int) (M : nb_M) :
    nb_R nb_P 287 1 [(4, l0), (0, l1), (0, l2), (0, l3)] [(0, s0)] M = if s0 = 0 then nb_R nb_P 287 6 [(4, l0), (0, l1), (0, l2), (0, l3)] [] M else nb_R nb_P 287 2 [(4, l0), (0, l1), (0, l2), (0, l3)] [] M :=
  nb_step (c := true) rfl rfl
theorem q_tk_endOfToken_2 (l0 l2 l3 : Int) (v1 : nb_V) (M : nb_M) :
    nb_R nb_P 287 2 [(4, l0), v1, (0, l2), (0, l3)] [] M = if l3 < l2 then nb_R nb_P 287 3 [(4, l0), v1, (0, l2), (0, l3)] [] M else nb_R nb_P 287 12 [(4, l0), v1, (0, l2), (0, l3)] [] M :=
  nb_step (c := true) rfl rfl
theorem q_tk_endOfToken_3 (l0 l2 l3 : Int) (v1 : nb_V) (M : nb_M) (h1 : l0 ≠ 0) (h2 : (0 : Int) ≤ l3) (h3 : l3 < nb_ln M l0) :
    nb_R nb_P 287 3 [(4, l0), v1, (0, l2), (0, l3)] [] M = (nb_R nb_P 285 0 [(0, nb_rd M l0 l3)] [] M).bind fun r => nb_R nb_P 287 4 [(4, l0), v1, (0, l2), (0, l3)] (r.1 ++ []) r.2 :=
  nb_stepC (c := (true && (!decide ((l0 : Int) = 0) && (decide ((0 : Int) ≤ l3) && decide (l3 < nb_ln M l0))))) (L2 := [(4, l0), v1, (0, l2), (0, l3)]) (S2 := [(0, nb_rd M l0 l3)]) (M2 := M) (t := 4) (cl := 285) (vi := false) rfl (by simp [h1, h2, h3]) (nb_inv_eq (n := 1) rfl rfl rfl rfl rfl rfl (fun h => by cases h) rfl)
theorem q_tk_endOfToken_4 (l0 l2 l3 s0 : Int) (v1 : nb_V) (M : nb_M) :
    nb_R nb_P 287 4 [(4, l0), v1, (0, l2), (0, l3)] [(0, s0)] M = if s0 = 0 then nb_R nb_P 287 12 [(4, l0), v1, (0, l2), (0, l3)] [] M else nb_R nb_P 287 5 [(4, l0), v1, (0, l2), (0, l3)] [] M :=
  nb_step (c := true) rfl rfl
theorem q_tk_endOfToken_5 (l0 l2 l3 : Int) (v1 : nb_V) (M : nb_M) :
    nb_R nb_P 287 5 [(4, l0), v1, (0, l2), (0, l3)] [] M = nb_R nb_P 287 2 [(4, l0), v1, (0, l2), (0, nb_add l3 1)] [] M :=
  nb_step (c := true) rfl rfl
theorem q_tk_endOfToken_6 (l0 l1 l2 l3 : Int) (M : nb_M) (h1 : l0 ≠ 0) (h2 : (0 : Int) ≤ l1) (h3 : l1 < nb_ln M l0) :
    nb_R nb_P 287 6 [(4, l0), (0, l1), (0, l2), (0, l3)] [] M = (nb_R nb_P 286 0 [(0, nb_rd M l0 l1)] [] M).bind fun r => nb_R nb_P 287 7 [(4, l0), (0, l1), (0, l2), (0, l3)] (r.1 ++ []) r.2 :=
  nb_stepC (c := (true && (!decide ((l0 : Int) = 0) && (decide ((0 : Int) ≤ l1) && decide (l1 < nb_ln M l0))))) (L2 := [(4, l0), (0, l1), (0, l2), (0, l3)]) (S2 := [(0, nb_rd M l0 l1)]) (M2 := M) (t := 7) (cl := 286) (vi := false) rfl (by simp [h1, h2, h3]) (nb_inv_eq (n := 1) rfl rfl rfl rfl rfl rfl (fun h => by cases h) rfl)
theorem q_tk_endOfToken_7 (l0 l2 l3 s0 : Int) (v1 : nb_V) (M : nb_M) :
    nb_R nb_P 287 7 [(4, l0), v1, (0, l2), (0, l3)] [(0, s0)] M = if s0 = 0 then nb_R nb_P 287 12 [(4, l0), v1, (0, l2), (0, l3)] [] M else nb_R nb_P 287 8 [(4, l0), v1, (0, l2), (0, l3)] [] M :=
  nb_step (c := true) rfl rfl
theorem q_tk_endOfToken_8 (l0 l2 l3 : Int) (v1 : nb_V) (M : nb_M) :
    nb_R nb_P 287 8 [(4, l0), v1, (0, l2), (0, l3)] [] M = if l3 < l2 then nb_R nb_P 287 9 [(4, l0), v1, (0, l2), (0, l3)] [] M else nb_R nb_P 287 12 [(4, l0), v1, (0, l2), (0, l3)] [] M :=
  nb_step (c := true) rfl rfl
theorem q_tk_endOfToken_9 (l0 l2 l3 : Int) (v1 : nb_V) (M : nb_M) (h1 : l0 ≠ 0) (h2 : (0 : Int) ≤ l3) (h3 : l3 < nb_ln M l0) :
    nb_R nb_P 287 9 [(4, l0), v1, (0, l2), (0, l3)] [] M = (nb_R nb_P 286 0 [(0, nb_rd M l0 l3)] [] M).bind fun r => nb_R nb_P 287 10 [(4, l0), v1, (0, l2), (0, l3)] (r.1 ++ []) r.2 :=
  nb_stepC (c := (true && (!decide ((l0 : Int) = 0) && (decide ((0 : Int) ≤ l3) && decide (l3 < nb_ln M l0))))) (L2 := [(4, l0), v1, (0, l2), (0, l3)]) (S2 := [(0, nb_rd M l0 l3)]) (M2 := M) (t := 10) (cl := 286) (vi := false) rfl (by simp [h1, h2, h3]) (nb_inv_eq (n := 1) rfl rfl rfl rfl rfl rfl (fun h => by cases h) rfl)
theorem q_tk_endOfToken_10 (l0 l2 l3 s0 : Int) (v1 : nb_V) (M : nb_M) :
    nb_R nb_P 287 10 [(4, l0), v1, (0, l2), (0, l3)] [(0, s0)] M = if s0 = 0 then nb_R nb_P 287 12 [(4, l0), v1, (0, l2), (0, l3)] [] M else nb_R nb_P 287 11 [(4, l0), v1, (0, l2), (0, l3)] [] M :=
  nb_step (c := true) rfl rfl
theorem q_tk_endOfToken_11 (l0 l2 l3 : Int) (v1 : nb_V) (M : nb_M) :
    nb_R nb_P 287 11 [(4, l0), v1, (0, l2), (0, l3)] [] M = nb_R nb_P 287 8 [(4, l0), v1, (0, l2), (0, nb_add l3 1)] [] M :=
  nb_step (c := true) rfl rfl
theorem q_tk_endOfToken_12 (l3 : Int) (v0 v1 v2 : nb_V) (M : nb_M) :
    nb_R nb_P 287 12 [v0, v1, v2, (0, l3)] [] M = some ([(0, l3)], M) :=
  nb_step (c := true) rfl rfl
theorem q_tk_add_0 (l0 l1 l2 l3 : Int) (M : nb_M) (h1 : l0 ≠ 0) (h2 : (nb_rd M l0 1) ≠ 0) (h3 : (nb_rd M l0 1) ≠ 1) (h4 : (0 : Int) ≤ nb_rd M l0 3) (h5 : nb_rd M l0 3 < nb_ln M (nb_rd M l0 1)) :
    nb_R nb_P 288 0 [(18, l0), (4, l1), (0, l2), (0, l3)] [] M = nb_R nb_P 288 1 [(18, l0), (4, l1), (0, l2), (0, l3)] [] (nb_wr M (nb_rd M l0 1) (nb_rd M l0 3) l2) :=
  nb_step (c := (((true && !decide ((l0 : Int) = 0)) && !decide ((l0 : Int) = 0)) && (!decide ((nb_rd M l0 1 : Int) = 0) && (!decide ((nb_rd M l0 1 : Int) = 1) && (decide ((0 : Int) ≤ nb_rd M l0 3) && decide (nb_rd M l0 3 < nb_ln M (nb_rd M l0 1))))))) rfl (by simp [h1, h2, h3, h4, h5])
theorem q_tk_add_1 (l0 l1 l2 l3 : Int) (M : nb_M) (h1 : l0 ≠ 0) (h2 : (nb_rd M l0 2) ≠ 0) (h3 : (nb_rd M l0 2) ≠ 1) (h4 : (0 : Int) ≤ nb_rd M l0 3) (h5 : nb_rd M l0 3 < nb_ln M (nb_rd M l0 2)) :
    nb_R nb_P 288 1 [(18, l0), (4, l1), (0, l2), (0, l3)] [] M = nb_R nb_P 288 2 [(18, l0), (4, l1), (0, l2), (0, l3)] [] (nb_wr M (nb_rd M l0 2) (nb_rd M l0 3) 0) :=
  nb_step (c := (((true && !decide ((l0 : Int) = 0)) && !decide ((l0 : Int) = 0)) && (!decide ((nb_rd M l0 2 : Int) = 0) && (!decide ((nb_rd M l0 2 : Int) = 1) && (decide ((0 : Int) ≤ nb_rd M l0 3) && decide (nb_rd M l0 3 < nb_ln M (nb_rd M l0 2))))))) rfl (by simp [h1, h2, h3, h4, h5])
theorem q_tk_add_2 (l0 l1 l2 l3 : Int) (M : nb_M) (h1 : l1 ≠ 0) (h2 : (0 : Int) ≤ l2) (h3 : l2 < nb_ln M l1) :
    nb_R nb_P 288 2 [(18, l0), (4, l1), (0, l2), (0, l3)] [] M = (nb_R nb_P 285 0 [(0, nb_rd M l1 l2)] [] M).bind fun r => nb_R nb_P 288 3 [(18, l0), (4, l1), (0, l2), (0, l3)] (r.1 ++ []) r.2 :=
  nb_stepC (c := (true && (!decide ((l1 : Int) = 0) && (decide ((0 : Int) ≤ l2) && decide (l2 < nb_ln M l1))))) (L2 := [(18, l0), (4, l1), (0, l2), (0, l3)]) (S2 := [(0, nb_rd M l1 l2)]) (M2 := M) (t := 3) (cl := 285) (vi := false) rfl (by simp [h1, h2, h3]) (nb_inv_eq (n := 1) rfl rfl rfl rfl rfl rfl (fun h => by cases h) rfl)
theorem q_tk_add_3 (l0 l1 l2 l3 s0 : Int) (M : nb_M) :
    nb_R nb_P 288 3 [(18, l0), (4, l1), (0, l2), (0, l3)] [(0, s0)] M = if s0 = 0 then nb_R nb_P 288 6 [(18, l0), (4, l1), (0, l2), (0, l3)] [] M else nb_R nb_P 288 4 [(18, l0), (4, l1), (0, l2), (0, l3)] [] M :=
  nb_step (c := true) rfl rfl
theorem q_tk_add_4 (l0 l1 l2 l3 : Int) (M : nb_M) (h1 : l0 ≠ 0) :
    nb_R nb_P 288 4 [(18, l0), (4, l1), (0, l2), (0, l3)] [] M = (nb_R nb_P 289 0 [(18, l0), (4, l1), (0, l2), (0, l3), (98, 0), (98, 0), (98, 0)] [] M).bind fun r => nb_R nb_P 288 5 [(18, l0), (4, l1), (0, l2), (0, l3)] (r.1 ++ []) r.2 :=
  nb_stepC (c := true) (L2 := [(18, l0), (4, l1), (0, l2), (0, l3)]) (S2 := [(0, l3), (0, l2), (4, l1), (18, l0)]) (M2 := M) (t := 5) (cl := 289) (vi := true) rfl rfl (nb_inv_eq (n := 4) rfl rfl rfl rfl rfl rfl (fun _ => h1) rfl)
theorem q_tk_add_5 (l0 : Int) (v1 v2 v3 : nb_V) (M : nb_M) :
    nb_R nb_P 288 5 [(18, l0), v1, v2, v3] [] M = nb_R nb_P 288 17 [(18, l0), v1, v2, v3] [] M :=
  nb_step (c := true) rfl rfl
theorem q_tk_add_6 (l0 l1 l2 l3 : Int) (M : nb_M) (h1 : l1 ≠ 0) (h2 : (0 : Int) ≤ l2) (h3 : l2 < nb_ln M l1) :
    nb_R nb_P 288 6 [(18, l0), (4, l1), (0, l2), (0, l3)] [] M = (nb_R nb_P 286 0 [(0, nb_rd M l1 l2)] [] M).bind fun r => nb_R nb_P 288 7 [(18, l0), (4, l1), (0, l2), (0, l3)] (r.1 ++ []) r.2 :=
  nb_stepC (c := (true && (!decide ((l1 : Int) = 0) && (decide ((0 : Int) ≤ l2) && decide (l2 < nb_ln M l1))))) (L2 := [(18, l0), (4, l1), (0, l2), (0, l3)]) (S2 := [(0, nb_rd M l1 l2)]) (M2 := M) (t := 7) (cl := 286) (vi := false) rfl (by simp [h1, h2, h3]) (nb_inv_eq (n := 1) rfl rfl rfl rfl rfl rfl (fun h => by cases h) rfl)
theorem q_tk_add_7 (l0 l1 l2 l3 s0 : Int) (M : nb_M) :
    nb_R nb_P 288 7 [(18, l0), (4, l1), (0, l2), (0, l3)] [(0, s0)] M = if s0 = 0 then nb_R nb_P 288 10 [(18, l0), (4, l1), (0, l2), (0, l3)] [] M else nb_R nb_P 288 8 [(18, l0), (4, l1), (0, l2), (0, l3)] [] M :=
  nb_step (c := true) rfl rfl
theorem q_tk_add_8 (l0 l1 l2 l3 : Int) (M : nb_M) (h1 : l0 ≠ 0) :
    nb_R nb_P 288 8 [(18, l0), (4, l1), (0, l2), (0, l3)] [] M = (nb_R nb_P 290 0 [(18, l0), (4, l1), (0, l2), (0, l3), (98, 0), (98, 0), (98, 0)] [] M).bind fun r => nb_R nb_P 288 9 [(18, l0), (4, l1), (0, l2), (0, l3)] (r.1 ++ []) r.2 :=
  nb_stepC (c := true) (L2 := [(18, l0), (4, l1), (0, l2), (0, l3)]) (S2 := [(0, l3), (0, l2), (4, l1), (18, l0)]) (M2 := M) (t := 9) (cl := 290) (vi := true) rfl rfl (nb_inv_eq (n := 4) rfl rfl rfl rfl rfl rfl (fun _ => h1) rfl)
theorem q_tk_add_9 (l0 : Int) (v1 v2 v3 : nb_V) (M : nb_M) :
    nb_R nb_P 288 9 [(18, l0), v1, v2, v3] [] M = nb_R nb_P 288 17 [(18, l0), v1, v2, v3] [] M :=
  nb_step (c := true) rfl rfl
theorem q_tk_add_10 (l0 l1 l2 : Int) (v3 : nb_V) (M : nb_M) (h1 : l1 ≠ 0) (h2 : (0 : Int) ≤ l2) (h3 : l2 < nb_ln M l1) :
    nb_R nb_P 288 10 [(18, l0), (4, l1), (0, l2), v3] [] M = if nb_rd M l1 l2 = 59 then nb_R nb_P 288 11 [(18, l0), (4, l1), (0, l2), v3] [] M else nb_R nb_P 288 13 [(18, l0), (4, l1), (0, l2), v3] [] M :=
  nb_step (c := (true && (!decide ((l1 : Int) = 0) && (decide ((0 : Int) ≤ l2) && decide (l2 < nb_ln M l1))))) rfl (by simp [h1, h2, h3])
theorem q_tk_add_11 (l0 : Int) (v1 v2 v3 : nb_V) (M : nb_M) (h1 : l0 ≠ 0) (h2 : (nb_rd M l0 0) ≠ 0) (h3 : (nb_rd M l0 0) ≠ 1) (h4 : (0 : Int) ≤ nb_rd M l0 3) (h5 : nb_rd M l0 3 < nb_ln M (nb_rd M l0 0)) :
    nb_R nb_P 288 11 [(18, l0), v1, v2, v3] [] M = nb_R nb_P 288 12 [(18, l0), v1, v2, v3] [] (nb_wr M (nb_rd M l0 0) (nb_rd M l0 3) 4) :=
  nb_step (c := (((true && !decide ((l0 : Int) = 0)) && !decide ((l0 : Int) = 0)) && (!decide ((nb_rd M l0 0 : Int) = 0) && (!decide ((nb_rd M l0 0 : Int) = 1) && (decide ((0 : Int) ≤ nb_rd M l0 3) && decide (nb_rd M l0 3 < nb_ln M (nb_rd M l0 0))))))) rfl (by simp [h1, h2, h3, h4, h5])
theorem q_tk_add_12 (l0 : Int) (v1 v2 v3 : nb_V) (M : nb_M) :
    nb_R nb_P 288 12 [(18, l0), v1, v2, v3] [] M = nb_R nb_P 288 17 [(18, l0), v1, v2, v3] [] M :=
  nb_step (c := true) rfl rfl
theorem q_tk_add_13 (l0 l1 l2 : Int) (v3 : nb_V) (M : nb_M) (h1 : l0 ≠ 0) (h2 : l1 ≠ 0) (h3 : (0 : Int) ≤ l2) (h4 : l2 < nb_ln M l1) :
    nb_R nb_P 288 13 [(18, l0), (4, l1), (0, l2), v3] [] M = if nb_rd M l1 l2 = 44 then nb_R nb_P 288 14 [(18, l0), (4, l1), (0, l2), v3] [(0, nb_rd M l0 3), (3, nb_rd M l0 0)] M else nb_R nb_P 288 15 [(18, l0), (4, l1), (0, l2), v3] [(0, nb_rd M l0 3), (3, nb_rd M l0 0)] M :=
  nb_step (c := (((true && !decide ((l0 : Int) = 0)) && !decide ((l0 : Int) = 0)) && (!decide ((l1 : Int) = 0) && (decide ((0 : Int) ≤ l2) && decide (l2 < nb_ln M l1))))) rfl (by simp [h1, h2, h3, h4])
theorem q_tk_add_14 (l0 s0 s1 : Int) (v1 v2 v3 : nb_V) (M : nb_M) :
    nb_R nb_P 288 14 [(18, l0), v1, v2, v3] [(0, s0), (3, s1)] M = nb_R nb_P 288 16 [(18, l0), v1, v2, v3] [(0, 5), (0, s0), (3, s1)] M :=
  nb_step (c := true) rfl rfl
theorem q_tk_add_15 (l0 s0 s1 : Int) (v1 v2 v3 : nb_V) (M : nb_M) :
    nb_R nb_P 288 15 [(18, l0), v1, v2, v3] [(0, s0), (3, s1)] M = nb_R nb_P 288 16 [(18, l0), v1, v2, v3] [(0, 6), (0, s0), (3, s1)] M :=
  nb_step (c := true) rfl rfl
theorem q_tk_add_16 (l0 s0 s1 s2 : Int) (v1 v2 v3 : nb_V) (M : nb_M) (h1 : s2 ≠ 0) (h2 : s2 ≠ 1) (h3 : (0 : Int) ≤ s1) (h4 : s1 < nb_ln M s2) :
    nb_R nb_P 288 16 [(18, l0), v1, v2, v3] [(0, s0), (0, s1), (3, s2)] M = nb_R nb_P 288 17 [(18, l0), v1, v2, v3] [] (nb_wr M s2 s1 s0) :=
  nb_step (c := (true && (!decide ((s2 : Int) = 0) && (!decide ((s2 : Int) = 1) && (decide ((0 : Int) ≤ s1) && decide (s1 < nb_ln M s2)))))) rfl (by simp [h1, h2, h3, h4])
theorem q_tk_add_17 (l0 : Int) (v1 v2 v3 : nb_V) (M : nb_M) (h1 : l0 ≠ 0) :
    nb_R nb_P 288 17 [(18, l0), v1, v2, v3] [] M = nb_R nb_P 288 18 [(18, l0), v1, v2, v3] [] (nb_wr M l0 3 (nb_add (nb_rd M l0 3) 1)) :=
  nb_step (c := ((true && !decide ((l0 : Int) = 0)) && (!decide ((l0 : Int) = 0) && (!false || (decide ((nb_add (nb_rd M l0 3) 1 : Int) = 0) || decide ((nb_add (nb_rd M l0 3) 1 : Int) = 1)))))) rfl (by simp [h1])
theorem q_tk_add_18 (v0 v1 v2 v3 : nb_V) (M : nb_M) :
    nb_R nb_P 288 18 [v0, v1, v2, v3] [] M = some ([], M) :=
  nb_step (c := true) rfl rfl
theorem q_tk_addWord_0 (l0 l1 l2 l3 : Int) (v4 v5 v6 : nb_V) (M : nb_M) :
    nb_R nb_P 289 0 [(18, l0), (4, l1), (0, l2), (0, l3), v4, v5, v6] [] M = if 8 < nb_sub l3 l2 then nb_R nb_P 289 1 [(18, l0), (4, l1), (0, l2), (0, l3), v4, v5, v6] [] M else nb_R nb_P 289 3 [(18, l0), (4, l1), (0, l2), (0, l3), v4, v5, v6] [] M :=
  nb_step (c := true) rfl rfl
theorem q_tk_addWord_1 (l0 : Int) (v1 v2 v3 v4 v5 v6 : nb_V) (M : nb_M) (h1 : l0 ≠ 0) (h2 : (nb_rd M l0 0) ≠ 0) (h3 : (nb_rd M l0 0) ≠ 1) (h4 : (0 : Int) ≤ nb_rd M l0 3) (h5 : nb_rd M l0 3 < nb_ln M (nb_rd M l0 0)) :
    nb_R nb_P 289 1 [(18, l0), v1, v2, v3, v4, v5, v6] [] M = nb_R nb_P 289 2 [(18, l0), v1, v2, v3, v4, v5, v6] [] (nb_wr M (nb_rd M l0 0) (nb_rd M l0 3) 6) :=
  nb_step (c := (((true && !decide ((l0 : Int) = 0)) && !decide ((l0 : Int) = 0)) && (!decide ((nb_rd M l0 0 : Int) = 0) && (!decide ((nb_rd M l0 0 : Int) = 1) && (decide ((0 : Int) ≤ nb_rd M l0 3) && decide (nb_rd M l0 3 < nb_ln M (nb_rd M l0 0))))))) rfl (by simp [h1, h2, h3, h4, h5])
theorem q_tk_addWord_2 (v0 v1 v2 v3 v4 v5 v6 : nb_V) (M : nb_M) :
    nb_R nb_P 289 2 [v0, v1, v2, v3, v4, v5, v6] [] M = some ([], M) :=
  nb_step (c := true) rfl rfl
theorem q_tk_addWord_3 (l0 l1 l2 l3 : Int) (v4 v5 v6 : nb_V) (M : nb_M) :
    nb_R nb_P 289 3 [(18, l0), (4, l1), (0, l2), (0, l3), v4, v5, v6] [] M = nb_R nb_P 289 4 [(18, l0), (4, l1), (0, l2), (0, l3), (1, 0), (98, 0), (0, l2)] [] M :=
  nb_step (c := true) rfl rfl
theorem q_tk_addWord_4 (l0 l1 l3 l4 l6 : Int) (v2 v5 : nb_V) (M : nb_M) :
    nb_R nb_P 289 4 [(18, l0), (4, l1), v2, (0, l3), (1, l4), v5, (0, l6)] [] M = if l6 < l3 then nb_R nb_P 289 5 [(18, l0), (4, l1), v2, (0, l3), (1, l4), v5, (0, l6)] [] M else nb_R nb_P 289 6 [(18, l0), (4, l1), v2, (0, l3), (1, l4), v5, (0, l6)] [] M :=
  nb_step (c := true) rfl rfl
theorem q_tk_addWord_5 (l0 l1 l3 l4 l6 : Int) (v2 v5 : nb_V) (M : nb_M) (h1 : l1 ≠ 0) (h2 : (0 : Int) ≤ l6) (h3 : l6 < nb_ln M l1) :
    nb_R nb_P 289 5 [(18, l0), (4, l1), v2, (0, l3), (1, l4), v5, (0, l6)] [] M = nb_R nb_P 289 4 [(18, l0), (4, l1), v2, (0, l3), (1, nb_lor (nb_lshl l4 5) (nb_i2l (nb_add (nb_sub (nb_rd M l1 l6) 97) 1))), (98, 0), (0, nb_add l6 1)] [] M :=
  nb_step (c := (true && (!decide ((l1 : Int) = 0) && (decide ((0 : Int) ≤ l6) && decide (l6 < nb_ln M l1))))) rfl (by simp [h1, h2, h3])
theorem q_tk_addWord_6 (l0 l4 : Int) (v1 v2 v3 v5 v6 : nb_V) (M : nb_M) (h1 : l0 ≠ 0) (h2 : (nb_rd M l0 2) ≠ 0) (h3 : (nb_rd M l0 2) ≠ 1) (h4 : (0 : Int) ≤ nb_rd M l0 3) (h5 : nb_rd M l0 3 < nb_ln M (nb_rd M l0 2)) :
    nb_R nb_P 289 6 [(18, l0), v1, v2, v3, (1, l4), v5, v6] [] M = nb_R nb_P 289 7 [(18, l0), v1, v2, v3, (1, l4), v5, v6] [] (nb_wr M (nb_rd M l0 2) (nb_rd M l0 3) l4) :=
  nb_step (c := (((true && !decide ((l0 : Int) = 0)) && !decide ((l0 : Int) = 0)) && (!decide ((nb_rd M l0 2 : Int) = 0) && (!decide ((nb_rd M l0 2 : Int) = 1) && (decide ((0 : Int) ≤ nb_rd M l0 3) && decide (nb_rd M l0 3 < nb_ln M (nb_rd M l0 2))))))) rfl (by simp [h1, h2, h3, h4, h5])
theorem q_tk_addWord_7 (l0 l4 : Int) (v1 v2 v3 v5 v6 : nb_V) (M : nb_M) (h1 : l0 ≠ 0) :
    nb_R nb_P 289 7 [(18, l0), v1, v2, v3, (1, l4), v5, v6] [] M = (nb_R nb_P 291 0 [(1, l4), (98, 0)] [] M).bind fun r => nb_R nb_P 289 8 [(18, l0), v1, v2, v3, (1, l4), v5, v6] (r.1 ++ [(0, nb_rd M l0 3), (3, nb_rd M l0 0)]) r.2 :=
  nb_stepC (c := ((true && !decide ((l0 : Int) = 0)) && !decide ((l0 : Int) = 0))) (L2 := [(18, l0), v1, v2, v3, (1, l4), v5, v6]) (S2 := [(1, l4), (0, nb_rd M l0 3), (3, nb_rd M l0 0)]) (M2 := M) (t := 8) (cl := 291) (vi := false) rfl (by simp [h1]) (nb_inv_eq (n := 1) rfl rfl rfl rfl rfl rfl (fun h => by cases h) rfl)
theorem q_tk_addWord_8 (s0 s1 s2 : Int) (v0 v1 v2 v3 v4 v5 v6 : nb_V) (M : nb_M) :
    nb_R nb_P 289 8 [v0, v1, v2, v3, v4, v5, v6] [(0, s0), (0, s1), (3, s2)] M = if s0 = 0 then nb_R nb_P 289 10 [v0, v1, v2, v3, v4, v5, v6] [(0, s1), (3, s2)] M else nb_R nb_P 289 9 [v0, v1, v2, v3, v4, v5, v6] [(0, s1), (3, s2)] M :=
  nb_step (c := true) rfl rfl
theorem q_tk_addWord_9 (s0 s1 : Int) (v0 v1 v2 v3 v4 v5 v6 : nb_V) (M : nb_M) :
    nb_R nb_P 289 9 [v0, v1, v2, v3, v4, v5, v6] [(0, s0), (3, s1)] M = nb_R nb_P 289 11 [v0, v1, v2, v3, v4, v5, v6] [(0, 2), (0, s0), (3, s1)] M :=
  nb_step (c := true) rfl rfl
theorem q_tk_addWord_10 (s0 s1 : Int) (v0 v1 v2 v3 v4 v5 v6 : nb_V) (M : nb_M) :
    nb_R nb_P 289 10 [v0, v1, v2, v3, v4, v5, v6] [(0, s0), (3, s1)] M = nb_R nb_P 289 11 [v0, v1, v2, v3, v4, v5, v6] [(0, 1), (0, s0), (3, s1)] M :=
  nb_step (c := true) rfl rfl
theorem q_tk_addWord_11 (s0 s1 s2 : Int) (v0 v1 v2 v3 v4 v5 v6 : nb_V) (M : nb_M) (h1 : s2 ≠ 0) (h2 : s2 ≠ 1) (h3 : (0 : Int) ≤ s1) (h4 : s1 < nb_ln M s2) :
    nb_R nb_P 289 11 [v0, v1, v2, v3, v4, v5, v6] [(0, s0), (0, s1), (3, s2)] M = nb_R nb_P 289 12 [v0, v1, v2, v3, v4, v5, v6] [] (nb_wr M s2 s1 s0) :=
  nb_step (c := (true && (!decide ((s2 : Int) = 0) && (!decide ((s2 : Int) = 1) && (decide ((0 : Int) ≤ s1) && decide (s1 < nb_ln M s2)))))) rfl (by simp [h1, h2, h3, h4])
theorem q_tk_addWord_12 (v0 v1 v2 v3 v4 v5 v6 : nb_V) (M : nb_M) :
    nb_R nb_P 289 12 [v0, v1, v2, v3, v4, v5, v6] [] M = some ([], M) :=
  nb_step (c := true) rfl rfl
theorem q_tk_addWhole_0 (l0 l1 l2 l3 : Int) (v4 v5 v6 : nb_V) (M : nb_M) :
    nb_R nb_P 290 0 [(18, l0), (4, l1), (0, l2), (0, l3), v4, v5, v6] [] M = if 3 < nb_sub l3 l2 then nb_R nb_P 290 1 [(18, l0), (4, l1), (0, l2), (0, l3), v4, v5, v6] [] M else nb_R nb_P 290 3 [(18, l0), (4, l1), (0, l2), (0, l3), v4, v5, v6] [] M :=
  nb_step (c := true) rfl rfl
theorem q_tk_addWhole_1 (l0 : Int) (v1 v2 v3 v4 v5 v6 : nb_V) (M : nb_M) (h1 : l0 ≠ 0) (h2 : (nb_rd M l0 0) ≠ 0) (h3 : (nb_rd M l0 0) ≠ 1) (h4 : (0 : Int) ≤ nb_rd M l0 3) (h5 : nb_rd M l0 3 < nb_ln M (nb_rd M l0 0)) :
    nb_R nb_P 290 1 [(18, l0), v1, v2, v3, v4, v5, v6] [] M = nb_R nb_P 290 2 [(18, l0), v1, v2, v3, v4, v5, v6] [] (nb_wr M (nb_rd M l0 0) (nb_rd M l0 3) 6) :=
  nb_step (c := (((true && !decide ((l0 : Int) = 0)) && !decide ((l0 : Int) = 0)) && (!decide ((nb_rd M l0 0 : Int) = 0) && (!decide ((nb_rd M l0 0 : Int) = 1) && (decide ((0 : Int) ≤ nb_rd M l0 3) && decide (nb_rd M l0 3 < nb_ln M (nb_rd M l0 0))))))) rfl (by simp [h1, h2, h3, h4, h5])
theorem q_tk_addWhole_2 (v0 v1 v2 v3 v4 v5 v6 : nb_V) (M : nb_M) :
    nb_R nb_P 290 2 [v0, v1, v2, v3, v4, v5, v6] [] M = some ([], M) :=
  nb_step (c := true) rfl rfl
theorem q_tk_addWhole_3 (l0 l1 l2 l3 : Int) (v4 v5 v6 : nb_V) (M : nb_M) :
    nb_R nb_P 290 3 [(18, l0), (4, l1), (0, l2), (0, l3), v4, v5, v6] [] M = nb_R nb_P 290 4 [(18, l0), (4, l1), (0, l2), (0, l3), (1, 0), (98, 0), (0, l2)] [] M :=
  nb_step (c := true) rfl rfl
theorem q_tk_addWhole_4 (l0 l1 l3 l4 l6 : Int) (v2 v5 : nb_V) (M : nb_M) :
    nb_R nb_P 290 4 [(18, l0), (4, l1), v2, (0, l3), (1, l4), v5, (0, l6)] [] M = if l6 < l3 then nb_R nb_P 290 5 [(18, l0), (4, l1), v2, (0, l3), (1, l4), v5, (0, l6)] [] M else nb_R nb_P 290 6 [(18, l0), (4, l1), v2, (0, l3), (1, l4), v5, (0, l6)] [] M :=
  nb_step (c := true) rfl rfl
theorem q_tk_addWhole_5 (l0 l1 l3 l4 l6 : Int) (v2 v5 : nb_V) (M : nb_M) (h1 : l1 ≠ 0) (h2 : (0 : Int) ≤ l6) (h3 : l6 < nb_ln M l1) :
    nb_R nb_P 290 5 [(18, l0), (4, l1), v2, (0, l3), (1, l4), v5, (0, l6)] [] M = nb_R nb_P 290 4 [(18, l0), (4, l1), v2, (0, l3), (1, nb_lsub (nb_ladd (nb_lmul l4 10) (nb_i2l (nb_rd M l1 l6))) 48), (98, 0), (0, nb_add l6 1)] [] M :=
  nb_step (c := (true && (!decide ((l1 : Int) = 0) && (decide ((0 : Int) ≤ l6) && decide (l6 < nb_ln M l1))))) rfl (by simp [h1, h2, h3])
theorem q_tk_addWhole_6 (l0 l4 : Int) (v1 v2 v3 v5 v6 : nb_V) (M : nb_M) (h1 : l0 ≠ 0) (h2 : (nb_rd M l0 2) ≠ 0) (h3 : (nb_rd M l0 2) ≠ 1) (h4 : (0 : Int) ≤ nb_rd M l0 3) (h5 : nb_rd M l0 3 < nb_ln M (nb_rd M l0 2)) :
    nb_R nb_P 290 6 [(18, l0), v1, v2, v3, (1, l4), v5, v6] [] M = nb_R nb_P 290 7 [(18, l0), v1, v2, v3, (1, l4), v5, v6] [] (nb_wr M (nb_rd M l0 2) (nb_rd M l0 3) l4) :=
  nb_step (c := (((true && !decide ((l0 : Int) = 0)) && !decide ((l0 : Int) = 0)) && (!decide ((nb_rd M l0 2 : Int) = 0) && (!decide ((nb_rd M l0 2 : Int) = 1) && (decide ((0 : Int) ≤ nb_rd M l0 3) && decide (nb_rd M l0 3 < nb_ln M (nb_rd M l0 2))))))) rfl (by simp [h1, h2, h3, h4, h5])
theorem q_tk_addWhole_7 (l0 : Int) (v1 v2 v3 v4 v5 v6 : nb_V) (M : nb_M) (h1 : l0 ≠ 0) (h2 : (nb_rd M l0 0) ≠ 0) (h3 : (nb_rd M l0 0) ≠ 1) (h4 : (0 : Int) ≤ nb_rd M l0 3) (h5 : nb_rd M l0 3 < nb_ln M (nb_rd M l0 0)) :
    nb_R nb_P 290 7 [(18, l0), v1, v2, v3, v4, v5, v6] [] M = nb_R nb_P 290 8 [(18, l0), v1, v2, v3, v4, v5, v6] [] (nb_wr M (nb_rd M l0 0) (nb_rd M l0 3) 3) :=
  nb_step (c := (((true && !decide ((l0 : Int) = 0)) && !decide ((l0 : Int) = 0)) && (!decide ((nb_rd M l0 0 : Int) = 0) && (!decide ((nb_rd M l0 0 : Int) = 1) && (decide ((0 : Int) ≤ nb_rd M l0 3) && decide (nb_rd M l0 3 < nb_ln M (nb_rd M l0 0))))))) rfl (by simp [h1, h2, h3, h4, h5])
theorem q_tk_addWhole_8 (v0 v1 v2 v3 v4 v5 v6 : nb_V) (M : nb_M) :
    nb_R nb_P 290 8 [v0, v1, v2, v3, v4, v5, v6] [] M = some ([], M) :=
  nb_step (c := true) rfl rfl
theorem q_tk_isLineWord_0 (l0 : Int) (v1 : nb_V) (M : nb_M) :
    nb_R nb_P 291 0 [(1, l0), v1] [] M = (nb_R nb_P 292 0 [(2, 60), (98, 0), (98, 0), (98, 0)] [] M).bind fun r => nb_R nb_P 291 1 [(1, l0), v1] (r.1 ++ [(1, l0)]) r.2 :=
  nb_stepC (c := true) (L2 := [(1, l0), v1]) (S2 := [(2, 60), (1, l0)]) (M2 := M) (t := 1) (cl := 292) (vi := false) rfl rfl (nb_inv_eq (n := 1) rfl rfl rfl rfl rfl rfl (fun h => by cases h) rfl)
theorem q_tk_isLineWord_1 (l0 s0 s1 : Int) (v1 : nb_V) (M : nb_M) :
    nb_R nb_P 291 1 [(1, l0), v1] [(1, s0), (1, s1)] M = if nb_lcmp s1 s0 = 0 then nb_R nb_P 291 12 [(1, l0), v1] [] M else nb_R nb_P 291 2 [(1, l0), v1] [] M :=
  nb_step (c := true) rfl rfl
theorem q_tk_isLineWord_2 (l0 : Int) (v1 : nb_V) (M : nb_M) :
    nb_R nb_P 291 2 [(1, l0), v1] [] M = (nb_R nb_P 292 0 [(2, 61), (98, 0), (98, 0), (98, 0)] [] M).bind fun r => nb_R nb_P 291 3 [(1, l0), v1] (r.1 ++ [(1, l0)]) r.2 :=
  nb_stepC (c := true) (L2 := [(1, l0), v1]) (S2 := [(2, 61), (1, l0)]) (M2 := M) (t := 3) (cl := 292) (vi := false) rfl rfl (nb_inv_eq (n := 1) rfl rfl rfl rfl rfl rfl (fun h => by cases h) rfl)
theorem q_tk_isLineWord_3 (l0 s0 s1 : Int) (v1 : nb_V) (M : nb_M) :
    nb_R nb_P 291 3 [(1, l0), v1] [(1, s0), (1, s1)] M = if nb_lcmp s1 s0 = 0 then nb_R nb_P 291 12 [(1, l0), v1] [] M else nb_R nb_P 291 4 [(1, l0), v1] [] M :=
  nb_step (c := true) rfl rfl
theorem q_tk_isLineWord_4 (l0 : Int) (v1 : nb_V) (M : nb_M) :
    nb_R nb_P 291 4 [(1, l0), v1] [] M = (nb_R nb_P 292 0 [(2, 62), (98, 0), (98, 0), (98, 0)] [] M).bind fun r => nb_R nb_P 291 5 [(1, l0), v1] (r.1 ++ [(1, l0)]) r.2 :=
  nb_stepC (c := true) (L2 := [(1, l0), v1]) (S2 := [(2, 62), (1, l0)]) (M2 := M) (t := 5) (cl := 292) (vi := false) rfl rfl (nb_inv_eq (n := 1) rfl rfl rfl rfl rfl rfl (fun h => by cases h) rfl)
theorem q_tk_isLineWord_5 (l0 s0 s1 : Int) (v1 : nb_V) (M : nb_M) :
    nb_R nb_P 291 5 [(1, l0), v1] [(1, s0), (1, s1)] M = if nb_lcmp s1 s0 = 0 then nb_R nb_P 291 12 [(1, l0), v1] [] M else nb_R nb_P 291 6 [(1, l0), v1] [] M :=
  nb_step (c := true) rfl rfl
theorem q_tk_isLineWord_6 (l0 : Int) (v1 : nb_V) (M : nb_M) :
    nb_R nb_P 291 6 [(1, l0), v1] [] M = (nb_R nb_P 292 0 [(2, 63), (98, 0), (98, 0), (98, 0)] [] M).bind fun r => nb_R nb_P 291 7 [(1, l0), v1] (r.1 ++ [(1, l0)]) r.2 :=
  nb_stepC (c := true) (L2 := [(1, l0), v1]) (S2 := [(2, 63), (1, l0)]) (M2 := M) (t := 7) (cl := 292) (vi := false) rfl rfl (nb_inv_eq (n := 1) rfl rfl rfl rfl rfl rfl (fun h => by cases h) rfl)
theorem q_tk_isLineWord_7 (l0 s0 s1 : Int) (v1 : nb_V) (M : nb_M) :
    nb_R nb_P 291 7 [(1, l0), v1] [(1, s0), (1, s1)] M = if nb_lcmp s1 s0 = 0 then nb_R nb_P 291 12 [(1, l0), v1] [] M else nb_R nb_P 291 8 [(1, l0), v1] [] M :=
  nb_step (c := true) rfl rfl
theorem q_tk_isLineWord_8 (l0 : Int) (v1 : nb_V) (M : nb_M) :
    nb_R nb_P 291 8 [(1, l0), v1] [] M = (nb_R nb_P 292 0 [(2, 64), (98, 0), (98, 0), (98, 0)] [] M).bind fun r => nb_R nb_P 291 9 [(1, l0), v1] (r.1 ++ [(1, l0)]) r.2 :=
  nb_stepC (c := true) (L2 := [(1, l0), v1]) (S2 := [(2, 64), (1, l0)]) (M2 := M) (t := 9) (cl := 292) (vi := false) rfl rfl (nb_inv_eq (n := 1) rfl rfl rfl rfl rfl rfl (fun h => by cases h) rfl)
theorem q_tk_isLineWord_9 (l0 s0 s1 : Int) (v1 : nb_V) (M : nb_M) :
    nb_R nb_P 291 9 [(1, l0), v1] [(1, s0), (1, s1)] M = if nb_lcmp s1 s0 = 0 then nb_R nb_P 291 12 [(1, l0), v1] [] M else nb_R nb_P 291 10 [(1, l0), v1] [] M :=
  nb_step (c := true) rfl rfl
theorem q_tk_isLineWord_10 (l0 : Int) (v1 : nb_V) (M : nb_M) :
    nb_R nb_P 291 10 [(1, l0), v1] [] M = (nb_R nb_P 292 0 [(2, 65), (98, 0), (98, 0), (98, 0)] [] M).bind fun r => nb_R nb_P 291 11 [(1, l0), v1] (r.1 ++ [(1, l0)]) r.2 :=
  nb_stepC (c := true) (L2 := [(1, l0), v1]) (S2 := [(2, 65), (1, l0)]) (M2 := M) (t := 11) (cl := 292) (vi := false) rfl rfl (nb_inv_eq (n := 1) rfl rfl rfl rfl rfl rfl (fun h => by cases h) rfl)
theorem q_tk_isLineWord_11 (s0 s1 : Int) (v0 v1 : nb_V) (M : nb_M) :
    nb_R nb_P 291 11 [v0, v1] [(1, s0), (1, s1)] M = if nb_lcmp s1 s0 = 0 then nb_R nb_P 291 12 [v0, v1] [] M else nb_R nb_P 291 13 [v0, v1] [] M :=
  nb_step (c := true) rfl rfl
theorem q_tk_isLineWord_12 (v0 v1 : nb_V) (M : nb_M) :
    nb_R nb_P 291 12 [v0, v1] [] M = nb_R nb_P 291 14 [v0, v1] [(0, 1)] M :=
  nb_step (c := true) rfl rfl
theorem q_tk_isLineWord_13 (v0 v1 : nb_V) (M : nb_M) :
    nb_R nb_P 291 13 [v0, v1] [] M = nb_R nb_P 291 14 [v0, v1] [(0, 0)] M :=
  nb_step (c := true) rfl rfl
theorem q_tk_isLineWord_14 (s0 : Int) (v0 v1 : nb_V) (M : nb_M) :
    nb_R nb_P 291 14 [v0, v1] [(0, s0)] M = some ([(0, nb_i2z s0)], M) :=
  nb_step (c := true) rfl rfl
theorem q_tk_letters_0 (l0 : Int) (v1 v2 v3 : nb_V) (M : nb_M) :
    nb_R nb_P 292 0 [(2, l0), v1, v2, v3] [] M = nb_R nb_P 292 1 [(2, l0), (1, 0), (98, 0), (0, 0)] [] M :=
  nb_step (c := true) rfl rfl
theorem q_tk_letters_1 (l0 l1 l3 : Int) (v2 : nb_V) (M : nb_M) (h1 : l0 ≠ 0) :
    nb_R nb_P 292 1 [(2, l0), (1, l1), v2, (0, l3)] [] M = ((if 0 < (nb_P.2.2.2.2.2 l0).length then some ([(0, ((nb_P.2.2.2.2.2 l0).length : Int))], M) else none : nb_A)).bind fun r => nb_R nb_P 292 2 [(2, l0), (1, l1), v2, (0, l3)] (r.1 ++ [(0, l3)]) r.2 :=
  nb_stepC (c := true) (L2 := [(2, l0), (1, l1), v2, (0, l3)]) (S2 := [(2, l0), (0, l3)]) (M2 := M) (t := 2) (cl := 901) (vi := true) rfl rfl (nb_inv_eq (n := 1) rfl rfl rfl rfl rfl rfl (fun _ => h1) rfl)
theorem q_tk_letters_2 (l0 l1 l3 s0 s1 : Int) (v2 : nb_V) (M : nb_M) :
    nb_R nb_P 292 2 [(2, l0), (1, l1), v2, (0, l3)] [(0, s0), (0, s1)] M = if s1 < s0 then nb_R nb_P 292 3 [(2, l0), (1, l1), v2, (0, l3)] [] M else nb_R nb_P 292 5 [(2, l0), (1, l1), v2, (0, l3)] [] M :=
  nb_step (c := true) rfl rfl
theorem q_tk_letters_3 (l0 l1 l3 : Int) (v2 : nb_V) (M : nb_M) (h1 : l0 ≠ 0) :
    nb_R nb_P 292 3 [(2, l0), (1, l1), v2, (0, l3)] [] M = ((if (0 : Int) ≤ l3 ∧ l3 < ((nb_P.2.2.2.2.2 l0).length : Int) then some ([(0, (nb_P.2.2.2.2.2 l0).getD (l3 : Int).toNat 0)], M) else none : nb_A)).bind fun r => nb_R nb_P 292 4 [(2, l0), (1, l1), v2, (0, l3)] (r.1 ++ [(1, nb_lshl l1 5)]) r.2 :=
  nb_stepC (c := true) (L2 := [(2, l0), (1, l1), v2, (0, l3)]) (S2 := [(0, l3), (2, l0), (1, nb_lshl l1 5)]) (M2 := M) (t := 4) (cl := 902) (vi := true) rfl rfl (nb_inv_eq (n := 2) rfl rfl rfl rfl rfl rfl (fun _ => h1) rfl)
theorem q_tk_letters_4 (l0 l3 s0 s1 : Int) (v1 v2 : nb_V) (M : nb_M) :
    nb_R nb_P 292 4 [(2, l0), v1, v2, (0, l3)] [(0, s0), (1, s1)] M = nb_R nb_P 292 1 [(2, l0), (1, nb_lor s1 (nb_i2l (nb_add (nb_sub s0 97) 1))), (98, 0), (0, nb_add l3 1)] [] M :=
  nb_step (c := true) rfl rfl
theorem q_tk_letters_5 (l1 : Int) (v0 v2 v3 : nb_V) (M : nb_M) :
    nb_R nb_P 292 5 [v0, (1, l1), v2, v3] [] M = some ([(1, l1)], M) :=
  nb_step (c := true) rfl rfl
set_option maxRecDepth 10000 in
theorem q_ji_bitCount_0 (l0 : Int) (M : nb_M) :
    nb_R nb_P 294 0 [(0, l0)] [] M = some ([(0, nb_and (nb_add (nb_add (nb_and (nb_add (nb_add (nb_and (nb_sub l0 (nb_and (nb_ushr l0 1) 1431655765)) 858993459) (nb_and (nb_ushr (nb_sub l0 (nb_and (nb_ushr l0 1) 1431655765)) 2) 858993459)) (nb_ushr (nb_add (nb_and (nb_sub l0 (nb_and (nb_ushr l0 1) 1431655765)) 858993459) (nb_and (nb_ushr (nb_sub l0 (nb_and (nb_ushr l0 1) 1431655765)) 2) 858993459)) 4)) 252645135) (nb_ushr (nb_and (nb_add (nb_add (nb_and (nb_sub l0 (nb_and (nb_ushr l0 1) 1431655765)) 858993459) (nb_and (nb_ushr (nb_sub l0 (nb_and (nb_ushr l0 1) 1431655765)) 2) 858993459)) (nb_ushr (nb_add (nb_and (nb_sub l0 (nb_and (nb_ushr l0 1) 1431655765)) 858993459) (nb_and (nb_ushr (nb_sub l0 (nb_and (nb_ushr l0 1) 1431655765)) 2) 858993459)) 4)) 252645135) 8)) (nb_ushr (nb_add (nb_and (nb_add (nb_add (nb_and (nb_sub l0 (nb_and (nb_ushr l0 1) 1431655765)) 858993459) (nb_and (nb_ushr (nb_sub l0 (nb_and (nb_ushr l0 1) 1431655765)) 2) 858993459)) (nb_ushr (nb_add (nb_and (nb_sub l0 (nb_and (nb_ushr l0 1) 1431655765)) 858993459) (nb_and (nb_ushr (nb_sub l0 (nb_and (nb_ushr l0 1) 1431655765)) 2) 858993459)) 4)) 252645135) (nb_ushr (nb_and (nb_add (nb_add (nb_and (nb_sub l0 (nb_and (nb_ushr l0 1) 1431655765)) 858993459) (nb_and (nb_ushr (nb_sub l0 (nb_and (nb_ushr l0 1) 1431655765)) 2) 858993459)) (nb_ushr (nb_add (nb_and (nb_sub l0 (nb_and (nb_ushr l0 1) 1431655765)) 858993459) (nb_and (nb_ushr (nb_sub l0 (nb_and (nb_ushr l0 1) 1431655765)) 2) 858993459)) 4)) 252645135) 8)) 16)) 63)], M) :=
  nb_step (c := true) rfl rfl
theorem q_ja_fill_0 (l0 l1 : Int) (v2 v3 : nb_V) (M : nb_M) (h1 : l0 ≠ 0) :
    nb_R nb_P 295 0 [(3, l0), (0, l1), v2, v3] [] M = nb_R nb_P 295 1 [(3, l0), (0, l1), (0, 0), (0, nb_ln M l0)] [] M :=
  nb_step (c := (true && !decide ((l0 : Int) = 0))) rfl (by simp [h1])
theorem q_ja_fill_1 (l0 l1 l2 l3 : Int) (M : nb_M) :
    nb_R nb_P 295 1 [(3, l0), (0, l1), (0, l2), (0, l3)] [] M = if l2 < l3 then nb_R nb_P 295 2 [(3, l0), (0, l1), (0, l2), (0, l3)] [] M else nb_R nb_P 295 4 [(3, l0), (0, l1), (0, l2), (0, l3)] [] M :=
  nb_step (c := true) rfl rfl
theorem q_ja_fill_2 (l0 l1 l2 l3 : Int) (M : nb_M) (h1 : l0 ≠ 0) (h2 : l0 ≠ 1) (h3 : (0 : Int) ≤ l2) (h4 : l2 < nb_ln M l0) :
    nb_R nb_P 295 2 [(3, l0), (0, l1), (0, l2), (0, l3)] [] M = nb_R nb_P 295 3 [(3, l0), (0, l1), (0, l2), (0, l3)] [] (nb_wr M l0 l2 l1) :=
  nb_step (c := (true && (!decide ((l0 : Int) = 0) && (!decide ((l0 : Int) = 1) && (decide ((0 : Int) ≤ l2) && decide (l2 < nb_ln M l0)))))) rfl (by simp [h1, h2, h3, h4])
theorem q_ja_fill_3 (l0 l1 l2 l3 : Int) (M : nb_M) :
    nb_R nb_P 295 3 [(3, l0), (0, l1), (0, l2), (0, l3)] [] M = nb_R nb_P 295 1 [(3, l0), (0, l1), (0, nb_add l2 1), (0, l3)] [] M :=
  nb_step (c := true) rfl rfl
theorem q_ja_fill_4 (v0 v1 v2 v3 : nb_V) (M : nb_M) :
    nb_R nb_P 295 4 [v0, v1, v2, v3] [] M = some ([], M) :=
  nb_step (c := true) rfl rfl
