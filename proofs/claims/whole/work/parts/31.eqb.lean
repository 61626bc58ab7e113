/-! block equations, printed by wip/gen/emit.py -/
theorem q_sc_waitingAsNumber_0 (l0 l1 : Int) (v2 v3 : nb_V) (M : nb_M) :
    nb_R nb_P 0 0 [(15, l0), (0, l1), v2, v3] [] M = nb_R nb_P 0 1 [(15, l0), (0, l1), (0, l1), (0, 0)] [] M :=
  nb_step (c := true) rfl rfl
theorem q_sc_waitingAsNumber_1 (l0 l2 l3 : Int) (v1 : nb_V) (M : nb_M) (h1 : l0 ≠ 0) :
    nb_R nb_P 0 1 [(15, l0), v1, (0, l2), (0, l3)] [] M = if l3 < nb_rd M l0 4 then nb_R nb_P 0 2 [(15, l0), v1, (0, l2), (0, l3)] [] M else nb_R nb_P 0 7 [(15, l0), v1, (0, l2), (0, l3)] [] M :=
  nb_step (c := (true && !decide ((l0 : Int) = 0))) rfl (by simp [h1])
theorem q_sc_waitingAsNumber_2 (l0 l2 l3 : Int) (v1 : nb_V) (M : nb_M) (h1 : l0 ≠ 0) (h2 : (nb_rd M l0 0) ≠ 0) (h3 : (0 : Int) ≤ l3) (h4 : l3 < nb_ln M (nb_rd M l0 0)) (h5 : (nb_rd M (nb_rd M l0 0) l3) ≠ 0) :
    nb_R nb_P 0 2 [(15, l0), v1, (0, l2), (0, l3)] [] M = if nb_rd M (nb_rd M (nb_rd M l0 0) l3) 8 = 1 then nb_R nb_P 0 3 [(15, l0), v1, (0, l2), (0, l3)] [] M else nb_R nb_P 0 6 [(15, l0), v1, (0, l2), (0, l3)] [] M :=
  nb_step (c := (((true && !decide ((l0 : Int) = 0)) && (!decide ((nb_rd M l0 0 : Int) = 0) && (decide ((0 : Int) ≤ l3) && decide (l3 < nb_ln M (nb_rd M l0 0))))) && !decide ((nb_rd M (nb_rd M l0 0) l3 : Int) = 0))) rfl (by simp [h1, h2, h3, h4, h5])
theorem q_sc_waitingAsNumber_3 (l0 l2 l3 : Int) (v1 : nb_V) (M : nb_M) :
    nb_R nb_P 0 3 [(15, l0), v1, (0, l2), (0, l3)] [] M = if l2 = 0 then nb_R nb_P 0 4 [(15, l0), v1, (0, l2), (0, l3)] [] M else nb_R nb_P 0 5 [(15, l0), v1, (0, l2), (0, l3)] [] M :=
  nb_step (c := true) rfl rfl
theorem q_sc_waitingAsNumber_4 (l3 : Int) (v0 v1 v2 : nb_V) (M : nb_M) :
    nb_R nb_P 0 4 [v0, v1, v2, (0, l3)] [] M = some ([(0, l3)], M) :=
  nb_step (c := true) rfl rfl
theorem q_sc_waitingAsNumber_5 (l0 l2 l3 : Int) (v1 : nb_V) (M : nb_M) :
    nb_R nb_P 0 5 [(15, l0), v1, (0, l2), (0, l3)] [] M = nb_R nb_P 0 6 [(15, l0), nb_clr v1, (0, nb_add l2 (-1)), (0, l3)] [] M :=
  nb_step (c := true) rfl rfl
theorem q_sc_waitingAsNumber_6 (l0 l2 l3 : Int) (v1 : nb_V) (M : nb_M) :
    nb_R nb_P 0 6 [(15, l0), v1, (0, l2), (0, l3)] [] M = nb_R nb_P 0 1 [(15, l0), v1, (0, l2), (0, nb_add l3 1)] [] M :=
  nb_step (c := true) rfl rfl
theorem q_sc_waitingAsNumber_7 (v0 v1 v2 v3 : nb_V) (M : nb_M) :
    nb_R nb_P 0 7 [v0, v1, v2, v3] [] M = some ([(0, (-1))], M) :=
  nb_step (c := true) rfl rfl
theorem q_rd_init_0 (l0 l1 : Int) (M : nb_M) (h1 : l0 ≠ 0) :
    nb_R nb_P 223 0 [(13, l0), (12, l1)] [] M = ((some ([], M) : nb_A)).bind fun r => nb_R nb_P 223 1 [(13, l0), (12, l1)] (r.1 ++ []) r.2 :=
  nb_stepC (c := true) (L2 := [(13, l0), (12, l1)]) (S2 := [(13, l0)]) (M2 := M) (t := 1) (cl := 900) (vi := true) rfl rfl (nb_inv_eq (n := 1) rfl rfl rfl rfl rfl rfl (fun _ => h1) rfl)
theorem q_rd_init_1 (l0 l1 : Int) (M : nb_M) (h1 : M.2.2.1 = 0) :
    nb_R nb_P 223 1 [(13, l0), (12, l1)] [] M = nb_R nb_P 223 2 [(13, l0), (12, l1)] [(18, nb_nx M), (13, l0)] (nb_al M 15 4) :=
  nb_step (c := (true && decide (M.2.2.1 = 0))) rfl (by simp [h1])
theorem q_rd_init_2 (l0 l1 s0 s1 : Int) (M : nb_M) (h1 : s0 ≠ 0) :
    nb_R nb_P 223 2 [(13, l0), (12, l1)] [(18, s0), (13, s1)] M = (nb_R nb_P 283 0 [(18, s0)] [] M).bind fun r => nb_R nb_P 223 3 [(13, l0), (12, l1)] (r.1 ++ [(18, s0), (13, s1)]) r.2 :=
  nb_stepC (c := true) (L2 := [(13, l0), (12, l1)]) (S2 := [(18, s0), (18, s0), (13, s1)]) (M2 := M) (t := 3) (cl := 283) (vi := true) rfl rfl (nb_inv_eq (n := 1) rfl rfl rfl rfl rfl rfl (fun _ => h1) rfl)
theorem q_rd_init_3 (l0 l1 s0 s1 : Int) (M : nb_M) (h1 : s1 ≠ 0) :
    nb_R nb_P 223 3 [(13, l0), (12, l1)] [(18, s0), (13, s1)] M = nb_R nb_P 223 4 [(13, l0), (12, l1)] [] (nb_wr M s1 0 s0) :=
  nb_step (c := (true && (!decide ((s1 : Int) = 0) && (!false || (decide ((s0 : Int) = 0) || decide ((s0 : Int) = 1)))))) rfl (by simp [h1])
theorem q_rd_init_4 (l0 l1 : Int) (M : nb_M) (h1 : M.2.2.1 = 0) :
    nb_R nb_P 223 4 [(13, l0), (12, l1)] [] M = nb_R nb_P 223 5 [(13, l0), (12, l1)] [(5, nb_nx M), (13, l0)] (nb_al M 2 18) :=
  nb_step (c := (true && (decide (M.2.2.1 = 0) && (decide ((0 : Int) ≤ 18) && decide ((18 : Int) ≤ 100000))))) rfl (by simp [h1])
theorem q_rd_init_5 (l0 l1 s0 s1 : Int) (M : nb_M) (h1 : s1 ≠ 0) :
    nb_R nb_P 223 5 [(13, l0), (12, l1)] [(5, s0), (13, s1)] M = nb_R nb_P 223 6 [(13, l0), (12, l1)] [] (nb_wr M s1 1 s0) :=
  nb_step (c := (true && (!decide ((s1 : Int) = 0) && (!false || (decide ((s0 : Int) = 0) || decide ((s0 : Int) = 1)))))) rfl (by simp [h1])
theorem q_rd_init_6 (l0 l1 : Int) (M : nb_M) (h1 : M.2.2.1 = 0) :
    nb_R nb_P 223 6 [(13, l0), (12, l1)] [] M = nb_R nb_P 223 7 [(13, l0), (12, l1)] [(3, nb_nx M), (13, l0)] (nb_al M 0 18) :=
  nb_step (c := (true && (decide (M.2.2.1 = 0) && (decide ((0 : Int) ≤ 18) && decide ((18 : Int) ≤ 100000))))) rfl (by simp [h1])
theorem q_rd_init_7 (l0 l1 s0 s1 : Int) (M : nb_M) (h1 : s1 ≠ 0) :
    nb_R nb_P 223 7 [(13, l0), (12, l1)] [(3, s0), (13, s1)] M = nb_R nb_P 223 8 [(13, l0), (12, l1)] [] (nb_wr M s1 2 s0) :=
  nb_step (c := (true && (!decide ((s1 : Int) = 0) && (!false || (decide ((s0 : Int) = 0) || decide ((s0 : Int) = 1)))))) rfl (by simp [h1])
theorem q_rd_init_8 (l0 l1 : Int) (M : nb_M) (h1 : M.2.2.1 = 0) :
    nb_R nb_P 223 8 [(13, l0), (12, l1)] [] M = nb_R nb_P 223 9 [(13, l0), (12, l1)] [(3, nb_nx M), (13, l0)] (nb_al M 0 18) :=
  nb_step (c := (true && (decide (M.2.2.1 = 0) && (decide ((0 : Int) ≤ 18) && decide ((18 : Int) ≤ 100000))))) rfl (by simp [h1])
theorem q_rd_init_9 (l0 l1 s0 s1 : Int) (M : nb_M) (h1 : s1 ≠ 0) :
    nb_R nb_P 223 9 [(13, l0), (12, l1)] [(3, s0), (13, s1)] M = nb_R nb_P 223 10 [(13, l0), (12, l1)] [] (nb_wr M s1 3 s0) :=
  nb_step (c := (true && (!decide ((s1 : Int) = 0) && (!false || (decide ((s0 : Int) = 0) || decide ((s0 : Int) = 1)))))) rfl (by simp [h1])
theorem q_rd_init_10 (l0 l1 : Int) (M : nb_M) (h1 : l0 ≠ 0) :
    nb_R nb_P 223 10 [(13, l0), (12, l1)] [] M = nb_R nb_P 223 11 [(13, l0), (12, l1)] [] (nb_wr M l0 4 l1) :=
  nb_step (c := (true && (!decide ((l0 : Int) = 0) && (!false || (decide ((l1 : Int) = 0) || decide ((l1 : Int) = 1)))))) rfl (by simp [h1])
theorem q_rd_init_11 (v0 v1 : nb_V) (M : nb_M) :
    nb_R nb_P 223 11 [v0, v1] [] M = some ([], M) :=
  nb_step (c := true) rfl rfl
theorem q_rd_reads_0 (l0 l1 l2 l3 : Int) (v4 : nb_V) (M : nb_M) (h1 : l0 ≠ 0) (h2 : (nb_rd M l0 0) ≠ 0) :
    nb_R nb_P 224 0 [(13, l0), (4, l1), (0, l2), (12, l3), v4] [] M = (nb_R nb_P 284 0 [(18, nb_rd M l0 0), (4, l1), (0, l2), (98, 0), (98, 0), (98, 0)] [] M).bind fun r => nb_R nb_P 224 1 [(13, l0), (4, l1), (0, l2), (12, l3), v4] (r.1 ++ []) r.2 :=
  nb_stepC (c := (true && !decide ((l0 : Int) = 0))) (L2 := [(13, l0), (4, l1), (0, l2), (12, l3), v4]) (S2 := [(0, l2), (4, l1), (18, nb_rd M l0 0)]) (M2 := M) (t := 1) (cl := 284) (vi := true) rfl (by simp [h1, h2]) (nb_inv_eq (n := 3) rfl rfl rfl rfl rfl rfl (fun _ => h2) rfl)
theorem q_rd_reads_1 (l0 l3 : Int) (v1 v2 v4 : nb_V) (M : nb_M) (h1 : l0 ≠ 0) :
    nb_R nb_P 224 1 [(13, l0), v1, v2, (12, l3), v4] [] M = nb_R nb_P 224 2 [(13, l0), v1, v2, (12, l3), v4] [] (nb_wr M l0 4 l3) :=
  nb_step (c := (true && (!decide ((l0 : Int) = 0) && (!false || (decide ((l3 : Int) = 0) || decide ((l3 : Int) = 1)))))) rfl (by simp [h1])
theorem q_rd_reads_2 (l0 : Int) (v1 v2 v3 v4 : nb_V) (M : nb_M) (h1 : l0 ≠ 0) (h2 : (nb_rd M l0 4) ≠ 0) :
    nb_R nb_P 224 2 [(13, l0), v1, v2, v3, v4] [] M = (nb_R nb_P 219 0 [(12, nb_rd M l0 4), (98, 0)] [] M).bind fun r => nb_R nb_P 224 3 [(13, l0), v1, v2, v3, v4] (r.1 ++ []) r.2 :=
  nb_stepC (c := (true && !decide ((l0 : Int) = 0))) (L2 := [(13, l0), v1, v2, v3, v4]) (S2 := [(12, nb_rd M l0 4)]) (M2 := M) (t := 3) (cl := 219) (vi := true) rfl (by simp [h1, h2]) (nb_inv_eq (n := 1) rfl rfl rfl rfl rfl rfl (fun _ => h2) rfl)
theorem q_rd_reads_3 (l0 : Int) (v1 v2 v3 v4 : nb_V) (M : nb_M) (h1 : l0 ≠ 0) :
    nb_R nb_P 224 3 [(13, l0), v1, v2, v3, v4] [] M = nb_R nb_P 224 4 [(13, l0), v1, v2, v3, v4] [] (nb_wr M l0 5 0) :=
  nb_step (c := (true && (!decide ((l0 : Int) = 0) && (!false || (decide ((0 : Int) = 0) || decide ((0 : Int) = 1)))))) rfl (by simp [h1])
theorem q_rd_reads_4 (l0 : Int) (v1 v2 v3 v4 : nb_V) (M : nb_M) (h1 : l0 ≠ 0) :
    nb_R nb_P 224 4 [(13, l0), v1, v2, v3, v4] [] M = nb_R nb_P 224 5 [(13, l0), v1, v2, v3, v4] [] (nb_wr M l0 9 0) :=
  nb_step (c := (true && (!decide ((l0 : Int) = 0) && (!false || (decide ((0 : Int) = 0) || decide ((0 : Int) = 1)))))) rfl (by simp [h1])
theorem q_rd_reads_5 (l0 : Int) (v1 v2 v3 v4 : nb_V) (M : nb_M) (h1 : l0 ≠ 0) :
    nb_R nb_P 224 5 [(13, l0), v1, v2, v3, v4] [] M = nb_R nb_P 224 6 [(13, l0), v1, v2, v3, v4] [] (nb_wr M l0 10 ((-1))) :=
  nb_step (c := (true && (!decide ((l0 : Int) = 0) && (!false || (decide (((-1) : Int) = 0) || decide (((-1) : Int) = 1)))))) rfl (by simp [h1])
theorem q_rd_reads_6 (l0 : Int) (v1 v2 v3 v4 : nb_V) (M : nb_M) (h1 : l0 ≠ 0) :
    nb_R nb_P 224 6 [(13, l0), v1, v2, v3, v4] [] M = nb_R nb_P 224 7 [(13, l0), v1, v2, v3, v4] [] (nb_wr M l0 6 0) :=
  nb_step (c := (true && (!decide ((l0 : Int) = 0) && (!false || (decide ((0 : Int) = 0) || decide ((0 : Int) = 1)))))) rfl (by simp [h1])
theorem q_rd_reads_7 (l0 : Int) (v1 v2 v3 v4 : nb_V) (M : nb_M) (h1 : l0 ≠ 0) (h2 : (nb_rd M l0 0) ≠ 0) (h3 : (nb_rd M (nb_rd M l0 0) 0) ≠ 0) (h4 : (0 : Int) ≤ 0) (h5 : 0 < nb_ln M (nb_rd M (nb_rd M l0 0) 0)) :
    nb_R nb_P 224 7 [(13, l0), v1, v2, v3, v4] [] M = nb_R nb_P 224 8 [(13, l0), v1, v2, v3, v4] [] (nb_wr M l0 7 (nb_rd M (nb_rd M (nb_rd M l0 0) 0) 0)) :=
  nb_step (c := ((((true && !decide ((l0 : Int) = 0)) && !decide ((nb_rd M l0 0 : Int) = 0)) && (!decide ((nb_rd M (nb_rd M l0 0) 0 : Int) = 0) && (decide ((0 : Int) ≤ 0) && decide (0 < nb_ln M (nb_rd M (nb_rd M l0 0) 0))))) && (!decide ((l0 : Int) = 0) && (!false || (decide ((nb_rd M (nb_rd M (nb_rd M l0 0) 0) 0 : Int) = 0) || decide ((nb_rd M (nb_rd M (nb_rd M l0 0) 0) 0 : Int) = 1)))))) rfl (by simp [h1, h2, h3, h4, h5])
theorem q_rd_reads_8 (l0 : Int) (v1 v2 v3 v4 : nb_V) (M : nb_M) (h1 : l0 ≠ 0) (h2 : (nb_rd M l0 0) ≠ 0) (h3 : (nb_rd M (nb_rd M l0 0) 2) ≠ 0) (h4 : (0 : Int) ≤ 0) (h5 : 0 < nb_ln M (nb_rd M (nb_rd M l0 0) 2)) :
    nb_R nb_P 224 8 [(13, l0), v1, v2, v3, v4] [] M = nb_R nb_P 224 9 [(13, l0), v1, v2, v3, v4] [] (nb_wr M l0 8 (nb_rd M (nb_rd M (nb_rd M l0 0) 2) 0)) :=
  nb_step (c := ((((true && !decide ((l0 : Int) = 0)) && !decide ((nb_rd M l0 0 : Int) = 0)) && (!decide ((nb_rd M (nb_rd M l0 0) 2 : Int) = 0) && (decide ((0 : Int) ≤ 0) && decide (0 < nb_ln M (nb_rd M (nb_rd M l0 0) 2))))) && (!decide ((l0 : Int) = 0) && (!false || (decide ((nb_rd M (nb_rd M (nb_rd M l0 0) 2) 0 : Int) = 0) || decide ((nb_rd M (nb_rd M (nb_rd M l0 0) 2) 0 : Int) = 1)))))) rfl (by simp [h1, h2, h3, h4, h5])
theorem q_rd_reads_9 (l0 : Int) (v1 v2 v3 v4 : nb_V) (M : nb_M) (h1 : l0 ≠ 0) :
    nb_R nb_P 224 9 [(13, l0), v1, v2, v3, v4] [] M = (nb_R nb_P 229 0 [(13, l0)] [] M).bind fun r => nb_R nb_P 224 10 [(13, l0), v1, v2, v3, v4] (r.1 ++ []) r.2 :=
  nb_stepC (c := true) (L2 := [(13, l0), v1, v2, v3, v4]) (S2 := [(13, l0)]) (M2 := M) (t := 10) (cl := 229) (vi := true) rfl rfl (nb_inv_eq (n := 1) rfl rfl rfl rfl rfl rfl (fun _ => h1) rfl)
theorem q_rd_reads_10 (l0 : Int) (v1 v2 v3 v4 : nb_V) (M : nb_M) (h1 : l0 ≠ 0) (h2 : (nb_rd M l0 0) ≠ 0) :
    nb_R nb_P 224 10 [(13, l0), v1, v2, v3, v4] [] M = nb_R nb_P 224 11 [(13, l0), v1, v2, nb_clr v3, (0, nb_rd M (nb_rd M l0 0) 3)] [] M :=
  nb_step (c := ((true && !decide ((l0 : Int) = 0)) && !decide ((nb_rd M l0 0 : Int) = 0))) rfl (by simp [h1, h2])
theorem q_rd_reads_11 (l0 l4 : Int) (v1 v2 v3 : nb_V) (M : nb_M) :
    nb_R nb_P 224 11 [(13, l0), v1, v2, v3, (0, l4)] [] M = if 0 < l4 then nb_R nb_P 224 12 [(13, l0), v1, v2, v3, (0, l4)] [] M else nb_R nb_P 224 17 [(13, l0), v1, v2, v3, (0, l4)] [] M :=
  nb_step (c := true) rfl rfl
theorem q_rd_reads_12 (l0 l4 : Int) (v1 v2 v3 : nb_V) (M : nb_M) (h1 : l0 ≠ 0) :
    nb_R nb_P 224 12 [(13, l0), v1, v2, v3, (0, l4)] [] M = if nb_rd M l0 9 = 0 then nb_R nb_P 224 13 [(13, l0), v1, v2, v3, (0, l4)] [] M else nb_R nb_P 224 17 [(13, l0), v1, v2, v3, (0, l4)] [] M :=
  nb_step (c := (true && !decide ((l0 : Int) = 0))) rfl (by simp [h1])
theorem q_rd_reads_13 (l0 l4 : Int) (v1 v2 v3 : nb_V) (M : nb_M) (h1 : l0 ≠ 0) :
    nb_R nb_P 224 13 [(13, l0), v1, v2, v3, (0, l4)] [] M = if nb_rd M l0 7 = 4 then nb_R nb_P 224 14 [(13, l0), v1, v2, v3, (0, l4)] [] M else nb_R nb_P 224 17 [(13, l0), v1, v2, v3, (0, l4)] [] M :=
  nb_step (c := (true && !decide ((l0 : Int) = 0))) rfl (by simp [h1])
theorem q_rd_reads_14 (l0 l4 : Int) (v1 v2 v3 : nb_V) (M : nb_M) (h1 : l0 ≠ 0) :
    nb_R nb_P 224 14 [(13, l0), v1, v2, v3, (0, l4)] [] M = (nb_R nb_P 225 0 [(13, l0)] [] M).bind fun r => nb_R nb_P 224 15 [(13, l0), v1, v2, v3, (0, l4)] (r.1 ++ []) r.2 :=
  nb_stepC (c := true) (L2 := [(13, l0), v1, v2, v3, (0, l4)]) (S2 := [(13, l0)]) (M2 := M) (t := 15) (cl := 225) (vi := true) rfl rfl (nb_inv_eq (n := 1) rfl rfl rfl rfl rfl rfl (fun _ => h1) rfl)
theorem q_rd_reads_15 (l0 l4 : Int) (v1 v2 v3 : nb_V) (M : nb_M) (h1 : l0 ≠ 0) :
    nb_R nb_P 224 15 [(13, l0), v1, v2, v3, (0, l4)] [] M = (nb_R nb_P 229 0 [(13, l0)] [] M).bind fun r => nb_R nb_P 224 16 [(13, l0), v1, v2, v3, (0, l4)] (r.1 ++ []) r.2 :=
  nb_stepC (c := true) (L2 := [(13, l0), v1, v2, v3, (0, l4)]) (S2 := [(13, l0)]) (M2 := M) (t := 16) (cl := 229) (vi := true) rfl rfl (nb_inv_eq (n := 1) rfl rfl rfl rfl rfl rfl (fun _ => h1) rfl)
theorem q_rd_reads_16 (l0 l4 : Int) (v1 v2 v3 : nb_V) (M : nb_M) :
    nb_R nb_P 224 16 [(13, l0), v1, v2, v3, (0, l4)] [] M = nb_R nb_P 224 11 [(13, l0), v1, v2, nb_clr v3, (0, nb_add l4 (-1))] [] M :=
  nb_step (c := true) rfl rfl
theorem q_rd_reads_17 (l0 : Int) (v1 v2 v3 v4 : nb_V) (M : nb_M) (h1 : l0 ≠ 0) :
    nb_R nb_P 224 17 [(13, l0), v1, v2, v3, v4] [] M = (nb_R nb_P 228 0 [(13, l0)] [] M).bind fun r => nb_R nb_P 224 18 [(13, l0), v1, v2, v3, v4] (r.1 ++ []) r.2 :=
  nb_stepC (c := true) (L2 := [(13, l0), v1, v2, v3, v4]) (S2 := [(13, l0)]) (M2 := M) (t := 18) (cl := 228) (vi := true) rfl rfl (nb_inv_eq (n := 1) rfl rfl rfl rfl rfl rfl (fun _ => h1) rfl)
theorem q_rd_reads_18 (l0 : Int) (v1 v2 v3 v4 : nb_V) (M : nb_M) (h1 : l0 ≠ 0) :
    nb_R nb_P 224 18 [(13, l0), v1, v2, v3, v4] [] M = if nb_rd M l0 9 = 0 then nb_R nb_P 224 19 [(13, l0), v1, v2, v3, v4] [] M else nb_R nb_P 224 20 [(13, l0), v1, v2, v3, v4] [] M :=
  nb_step (c := (true && !decide ((l0 : Int) = 0))) rfl (by simp [h1])
theorem q_rd_reads_19 (v0 v1 v2 v3 v4 : nb_V) (M : nb_M) :
    nb_R nb_P 224 19 [v0, v1, v2, v3, v4] [] M = nb_R nb_P 224 21 [v0, v1, v2, v3, v4] [(0, 1)] M :=
  nb_step (c := true) rfl rfl
theorem q_rd_reads_20 (v0 v1 v2 v3 v4 : nb_V) (M : nb_M) :
    nb_R nb_P 224 20 [v0, v1, v2, v3, v4] [] M = nb_R nb_P 224 21 [v0, v1, v2, v3, v4] [(0, 0)] M :=
  nb_step (c := true) rfl rfl
theorem q_rd_reads_21 (s0 : Int) (v0 v1 v2 v3 v4 : nb_V) (M : nb_M) :
    nb_R nb_P 224 21 [v0, v1, v2, v3, v4] [(0, s0)] M = some ([(0, nb_i2z s0)], M) :=
  nb_step (c := true) rfl rfl
theorem q_rd_step_0 (l0 : Int) (M : nb_M) (h1 : l0 ≠ 0) :
    nb_R nb_P 225 0 [(13, l0)] [] M = if nb_rd M l0 9 = 0 then nb_R nb_P 225 1 [(13, l0)] [] M else nb_R nb_P 225 6 [(13, l0)] [] M :=
  nb_step (c := (true && !decide ((l0 : Int) = 0))) rfl (by simp [h1])
theorem q_rd_step_1 (l0 : Int) (M : nb_M) (h1 : l0 ≠ 0) (h2 : (nb_rd M l0 0) ≠ 0) :
    nb_R nb_P 225 1 [(13, l0)] [] M = if nb_rd M l0 6 < nb_rd M (nb_rd M l0 0) 3 then nb_R nb_P 225 2 [(13, l0)] [] M else nb_R nb_P 225 6 [(13, l0)] [] M :=
  nb_step (c := (((true && !decide ((l0 : Int) = 0)) && !decide ((l0 : Int) = 0)) && !decide ((nb_rd M l0 0 : Int) = 0))) rfl (by simp [h1, h2])
theorem q_rd_step_2 (l0 : Int) (M : nb_M) (h1 : l0 ≠ 0) :
    nb_R nb_P 225 2 [(13, l0)] [] M = if nb_rd M l0 6 < 1000 then nb_R nb_P 225 3 [(13, l0)] [] M else nb_R nb_P 225 6 [(13, l0)] [] M :=
  nb_step (c := (true && !decide ((l0 : Int) = 0))) rfl (by simp [h1])
theorem q_rd_step_3 (l0 : Int) (M : nb_M) (h1 : l0 ≠ 0) :
    nb_R nb_P 225 3 [(13, l0)] [] M = nb_R nb_P 225 4 [(13, l0)] [] (nb_wr M l0 6 (nb_add (nb_rd M l0 6) 1)) :=
  nb_step (c := ((true && !decide ((l0 : Int) = 0)) && (!decide ((l0 : Int) = 0) && (!false || (decide ((nb_add (nb_rd M l0 6) 1 : Int) = 0) || decide ((nb_add (nb_rd M l0 6) 1 : Int) = 1)))))) rfl (by simp [h1])
theorem q_rd_step_4 (l0 : Int) (M : nb_M) (h1 : l0 ≠ 0) (h2 : (nb_rd M l0 0) ≠ 0) (h3 : (nb_rd M (nb_rd M l0 0) 0) ≠ 0) (h4 : (0 : Int) ≤ nb_rd M l0 6) (h5 : nb_rd M l0 6 < nb_ln M (nb_rd M (nb_rd M l0 0) 0)) :
    nb_R nb_P 225 4 [(13, l0)] [] M = nb_R nb_P 225 5 [(13, l0)] [] (nb_wr M l0 7 (nb_rd M (nb_rd M (nb_rd M l0 0) 0) (nb_rd M l0 6))) :=
  nb_step (c := (((((true && !decide ((l0 : Int) = 0)) && !decide ((nb_rd M l0 0 : Int) = 0)) && !decide ((l0 : Int) = 0)) && (!decide ((nb_rd M (nb_rd M l0 0) 0 : Int) = 0) && (decide ((0 : Int) ≤ nb_rd M l0 6) && decide (nb_rd M l0 6 < nb_ln M (nb_rd M (nb_rd M l0 0) 0))))) && (!decide ((l0 : Int) = 0) && (!false || (decide ((nb_rd M (nb_rd M (nb_rd M l0 0) 0) (nb_rd M l0 6) : Int) = 0) || decide ((nb_rd M (nb_rd M (nb_rd M l0 0) 0) (nb_rd M l0 6) : Int) = 1)))))) rfl (by simp [h1, h2, h3, h4, h5])
theorem q_rd_step_5 (l0 : Int) (M : nb_M) (h1 : l0 ≠ 0) (h2 : (nb_rd M l0 0) ≠ 0) (h3 : (nb_rd M (nb_rd M l0 0) 2) ≠ 0) (h4 : (0 : Int) ≤ nb_rd M l0 6) (h5 : nb_rd M l0 6 < nb_ln M (nb_rd M (nb_rd M l0 0) 2)) :
    nb_R nb_P 225 5 [(13, l0)] [] M = nb_R nb_P 225 6 [(13, l0)] [] (nb_wr M l0 8 (nb_rd M (nb_rd M (nb_rd M l0 0) 2) (nb_rd M l0 6))) :=
  nb_step (c := (((((true && !decide ((l0 : Int) = 0)) && !decide ((nb_rd M l0 0 : Int) = 0)) && !decide ((l0 : Int) = 0)) && (!decide ((nb_rd M (nb_rd M l0 0) 2 : Int) = 0) && (decide ((0 : Int) ≤ nb_rd M l0 6) && decide (nb_rd M l0 6 < nb_ln M (nb_rd M (nb_rd M l0 0) 2))))) && (!decide ((l0 : Int) = 0) && (!false || (decide ((nb_rd M (nb_rd M (nb_rd M l0 0) 2) (nb_rd M l0 6) : Int) = 0) || decide ((nb_rd M (nb_rd M (nb_rd M l0 0) 2) (nb_rd M l0 6) : Int) = 1)))))) rfl (by simp [h1, h2, h3, h4, h5])
theorem q_rd_step_6 (v0 : nb_V) (M : nb_M) :
    nb_R nb_P 225 6 [v0] [] M = some ([], M) :=
  nb_step (c := true) rfl rfl
theorem q_rd_fail_0 (l0 l1 : Int) (M : nb_M) (h1 : l0 ≠ 0) :
    nb_R nb_P 226 0 [(13, l0), (0, l1)] [] M = if nb_rd M l0 9 = 0 then nb_R nb_P 226 1 [(13, l0), (0, l1)] [] M else nb_R nb_P 226 3 [(13, l0), (0, l1)] [] M :=
  nb_step (c := (true && !decide ((l0 : Int) = 0))) rfl (by simp [h1])
theorem q_rd_fail_1 (l0 l1 : Int) (M : nb_M) (h1 : l0 ≠ 0) :
    nb_R nb_P 226 1 [(13, l0), (0, l1)] [] M = nb_R nb_P 226 2 [(13, l0), (0, l1)] [] (nb_wr M l0 9 l1) :=
  nb_step (c := (true && (!decide ((l0 : Int) = 0) && (!false || (decide ((l1 : Int) = 0) || decide ((l1 : Int) = 1)))))) rfl (by simp [h1])
theorem q_rd_fail_2 (l0 : Int) (v1 : nb_V) (M : nb_M) (h1 : l0 ≠ 0) (h2 : (nb_rd M l0 0) ≠ 0) (h3 : (nb_rd M (nb_rd M l0 0) 1) ≠ 0) (h4 : (0 : Int) ≤ nb_rd M l0 6) (h5 : nb_rd M l0 6 < nb_ln M (nb_rd M (nb_rd M l0 0) 1)) :
    nb_R nb_P 226 2 [(13, l0), v1] [] M = nb_R nb_P 226 3 [(13, l0), v1] [] (nb_wr M l0 10 (nb_rd M (nb_rd M (nb_rd M l0 0) 1) (nb_rd M l0 6))) :=
  nb_step (c := (((((true && !decide ((l0 : Int) = 0)) && !decide ((nb_rd M l0 0 : Int) = 0)) && !decide ((l0 : Int) = 0)) && (!decide ((nb_rd M (nb_rd M l0 0) 1 : Int) = 0) && (decide ((0 : Int) ≤ nb_rd M l0 6) && decide (nb_rd M l0 6 < nb_ln M (nb_rd M (nb_rd M l0 0) 1))))) && (!decide ((l0 : Int) = 0) && (!false || (decide ((nb_rd M (nb_rd M (nb_rd M l0 0) 1) (nb_rd M l0 6) : Int) = 0) || decide ((nb_rd M (nb_rd M (nb_rd M l0 0) 1) (nb_rd M l0 6) : Int) = 1)))))) rfl (by simp [h1, h2, h3, h4, h5])
theorem q_rd_fail_3 (v0 v1 : nb_V) (M : nb_M) :
    nb_R nb_P 226 3 [v0, v1] [] M = some ([], M) :=
  nb_step (c := true) rfl rfl
theorem q_rd_stands_0 (l0 l1 : Int) (M : nb_M) (h1 : l0 ≠ 0) :
    nb_R nb_P 227 0 [(13, l0), (2, l1)] [] M = if nb_rd M l0 7 = 1 then nb_R nb_P 227 2 [(13, l0), (2, l1)] [] M else nb_R nb_P 227 1 [(13, l0), (2, l1)] [] M :=
  nb_step (c := (true && !decide ((l0 : Int) = 0))) rfl (by simp [h1])
theorem q_rd_stands_1 (l0 l1 : Int) (M : nb_M) (h1 : l0 ≠ 0) :
    nb_R nb_P 227 1 [(13, l0), (2, l1)] [] M = if nb_rd M l0 7 = 2 then nb_R nb_P 227 2 [(13, l0), (2, l1)] [] M else nb_R nb_P 227 5 [(13, l0), (2, l1)] [] M :=
  nb_step (c := (true && !decide ((l0 : Int) = 0))) rfl (by simp [h1])
theorem q_rd_stands_2 (l0 l1 : Int) (M : nb_M) (h1 : l0 ≠ 0) :
    nb_R nb_P 227 2 [(13, l0), (2, l1)] [] M = (nb_R nb_P 292 0 [(2, l1), (98, 0), (98, 0), (98, 0)] [] M).bind fun r => nb_R nb_P 227 3 [(13, l0), (2, l1)] (r.1 ++ [(1, nb_rd M l0 8)]) r.2 :=
  nb_stepC (c := (true && !decide ((l0 : Int) = 0))) (L2 := [(13, l0), (2, l1)]) (S2 := [(2, l1), (1, nb_rd M l0 8)]) (M2 := M) (t := 3) (cl := 292) (vi := false) rfl (by simp [h1]) (nb_inv_eq (n := 1) rfl rfl rfl rfl rfl rfl (fun h => by cases h) rfl)
theorem q_rd_stands_3 (s0 s1 : Int) (v0 v1 : nb_V) (M : nb_M) :
    nb_R nb_P 227 3 [v0, v1] [(1, s0), (1, s1)] M = if nb_lcmp s1 s0 = 0 then nb_R nb_P 227 4 [v0, v1] [] M else nb_R nb_P 227 5 [v0, v1] [] M :=
  nb_step (c := true) rfl rfl
theorem q_rd_stands_4 (v0 v1 : nb_V) (M : nb_M) :
    nb_R nb_P 227 4 [v0, v1] [] M = nb_R nb_P 227 6 [v0, v1] [(0, 1)] M :=
  nb_step (c := true) rfl rfl
theorem q_rd_stands_5 (v0 v1 : nb_V) (M : nb_M) :
    nb_R nb_P 227 5 [v0, v1] [] M = nb_R nb_P 227 6 [v0, v1] [(0, 0)] M :=
  nb_step (c := true) rfl rfl
theorem q_rd_stands_6 (s0 : Int) (v0 v1 : nb_V) (M : nb_M) :
    nb_R nb_P 227 6 [v0, v1] [(0, s0)] M = some ([(0, nb_i2z s0)], M) :=
  nb_step (c := true) rfl rfl
theorem q_rd_readEnd_0 (l0 : Int) (M : nb_M) (h1 : l0 ≠ 0) :
    nb_R nb_P 228 0 [(13, l0)] [] M = if nb_rd M l0 7 = 0 then nb_R nb_P 228 3 [(13, l0)] [] M else nb_R nb_P 228 1 [(13, l0)] [] M :=
  nb_step (c := (true && !decide ((l0 : Int) = 0))) rfl (by simp [h1])
theorem q_rd_readEnd_1 (l0 : Int) (M : nb_M) (h1 : l0 ≠ 0) :
    nb_R nb_P 228 1 [(13, l0)] [] M = (nb_R nb_P 226 0 [(13, l0), (0, 1)] [] M).bind fun r => nb_R nb_P 228 2 [(13, l0)] (r.1 ++ []) r.2 :=
  nb_stepC (c := true) (L2 := [(13, l0)]) (S2 := [(0, 1), (13, l0)]) (M2 := M) (t := 2) (cl := 226) (vi := true) rfl rfl (nb_inv_eq (n := 2) rfl rfl rfl rfl rfl rfl (fun _ => h1) rfl)
theorem q_rd_readEnd_2 (v0 : nb_V) (M : nb_M) :
    nb_R nb_P 228 2 [v0] [] M = nb_R nb_P 228 7 [v0] [] M :=
  nb_step (c := true) rfl rfl
theorem q_rd_readEnd_3 (l0 : Int) (M : nb_M) (h1 : l0 ≠ 0) (h2 : (nb_rd M l0 4) ≠ 0) :
    nb_R nb_P 228 3 [(13, l0)] [] M = if nb_rd M (nb_rd M l0 4) 11 = 0 then nb_R nb_P 228 6 [(13, l0)] [] M else nb_R nb_P 228 4 [(13, l0)] [] M :=
  nb_step (c := ((true && !decide ((l0 : Int) = 0)) && !decide ((nb_rd M l0 4 : Int) = 0))) rfl (by simp [h1, h2])
theorem q_rd_readEnd_4 (l0 : Int) (M : nb_M) (h1 : l0 ≠ 0) (h2 : (nb_rd M l0 4) ≠ 0) :
    nb_R nb_P 228 4 [(13, l0)] [] M = if nb_rd M (nb_rd M l0 4) 12 = 0 then nb_R nb_P 228 6 [(13, l0)] [] M else nb_R nb_P 228 5 [(13, l0)] [] M :=
  nb_step (c := ((true && !decide ((l0 : Int) = 0)) && !decide ((nb_rd M l0 4 : Int) = 0))) rfl (by simp [h1, h2])
theorem q_rd_readEnd_5 (l0 : Int) (M : nb_M) (h1 : l0 ≠ 0) (h2 : (nb_rd M l0 4) ≠ 0) :
    nb_R nb_P 228 5 [(13, l0)] [] M = if nb_rd M (nb_rd M l0 4) 13 = 0 then nb_R nb_P 228 6 [(13, l0)] [] M else nb_R nb_P 228 7 [(13, l0)] [] M :=
  nb_step (c := ((true && !decide ((l0 : Int) = 0)) && !decide ((nb_rd M l0 4 : Int) = 0))) rfl (by simp [h1, h2])
theorem q_rd_readEnd_6 (l0 : Int) (M : nb_M) (h1 : l0 ≠ 0) :
    nb_R nb_P 228 6 [(13, l0)] [] M = (nb_R nb_P 226 0 [(13, l0), (0, 6)] [] M).bind fun r => nb_R nb_P 228 7 [(13, l0)] (r.1 ++ []) r.2 :=
  nb_stepC (c := true) (L2 := [(13, l0)]) (S2 := [(0, 6), (13, l0)]) (M2 := M) (t := 7) (cl := 226) (vi := true) rfl rfl (nb_inv_eq (n := 2) rfl rfl rfl rfl rfl rfl (fun _ => h1) rfl)
theorem q_rd_readEnd_7 (v0 : nb_V) (M : nb_M) :
    nb_R nb_P 228 7 [v0] [] M = some ([], M) :=
  nb_step (c := true) rfl rfl
theorem q_rd_readLine_0 (l0 : Int) (M : nb_M) (h1 : l0 ≠ 0) :
    nb_R nb_P 229 0 [(13, l0)] [] M = if nb_rd M l0 7 = 2 then nb_R nb_P 229 3 [(13, l0)] [] M else nb_R nb_P 229 1 [(13, l0)] [] M :=
  nb_step (c := (true && !decide ((l0 : Int) = 0))) rfl (by simp [h1])
theorem q_rd_readLine_1 (l0 : Int) (M : nb_M) (h1 : l0 ≠ 0) :
    nb_R nb_P 229 1 [(13, l0)] [] M = (nb_R nb_P 226 0 [(13, l0), (0, 1)] [] M).bind fun r => nb_R nb_P 229 2 [(13, l0)] (r.1 ++ []) r.2 :=
  nb_stepC (c := true) (L2 := [(13, l0)]) (S2 := [(0, 1), (13, l0)]) (M2 := M) (t := 2) (cl := 226) (vi := true) rfl rfl (nb_inv_eq (n := 2) rfl rfl rfl rfl rfl rfl (fun _ => h1) rfl)
theorem q_rd_readLine_2 (v0 : nb_V) (M : nb_M) :
    nb_R nb_P 229 2 [v0] [] M = nb_R nb_P 229 27 [v0] [] M :=
  nb_step (c := true) rfl rfl
theorem q_rd_readLine_3 (l0 : Int) (M : nb_M) (h1 : l0 ≠ 0) :
    nb_R nb_P 229 3 [(13, l0)] [] M = (nb_R nb_P 227 0 [(13, l0), (2, 31)] [] M).bind fun r => nb_R nb_P 229 4 [(13, l0)] (r.1 ++ []) r.2 :=
  nb_stepC (c := true) (L2 := [(13, l0)]) (S2 := [(2, 31), (13, l0)]) (M2 := M) (t := 4) (cl := 227) (vi := true) rfl rfl (nb_inv_eq (n := 2) rfl rfl rfl rfl rfl rfl (fun _ => h1) rfl)
theorem q_rd_readLine_4 (l0 s0 : Int) (M : nb_M) :
    nb_R nb_P 229 4 [(13, l0)] [(0, s0)] M = if s0 = 0 then nb_R nb_P 229 7 [(13, l0)] [] M else nb_R nb_P 229 5 [(13, l0)] [] M :=
  nb_step (c := true) rfl rfl
theorem q_rd_readLine_5 (l0 : Int) (M : nb_M) (h1 : l0 ≠ 0) :
    nb_R nb_P 229 5 [(13, l0)] [] M = (nb_R nb_P 230 0 [(13, l0)] [] M).bind fun r => nb_R nb_P 229 6 [(13, l0)] (r.1 ++ []) r.2 :=
  nb_stepC (c := true) (L2 := [(13, l0)]) (S2 := [(13, l0)]) (M2 := M) (t := 6) (cl := 230) (vi := true) rfl rfl (nb_inv_eq (n := 1) rfl rfl rfl rfl rfl rfl (fun _ => h1) rfl)
theorem q_rd_readLine_6 (v0 : nb_V) (M : nb_M) :
    nb_R nb_P 229 6 [v0] [] M = nb_R nb_P 229 27 [v0] [] M :=
  nb_step (c := true) rfl rfl
theorem q_rd_readLine_7 (l0 : Int) (M : nb_M) (h1 : l0 ≠ 0) (h2 : (nb_rd M l0 4) ≠ 0) :
    nb_R nb_P 229 7 [(13, l0)] [] M = if nb_rd M (nb_rd M l0 4) 9 = 0 then nb_R nb_P 229 8 [(13, l0)] [] M else nb_R nb_P 229 10 [(13, l0)] [] M :=
  nb_step (c := ((true && !decide ((l0 : Int) = 0)) && !decide ((nb_rd M l0 4 : Int) = 0))) rfl (by simp [h1, h2])
theorem q_rd_readLine_8 (l0 : Int) (M : nb_M) (h1 : l0 ≠ 0) :
    nb_R nb_P 229 8 [(13, l0)] [] M = (nb_R nb_P 226 0 [(13, l0), (0, 6)] [] M).bind fun r => nb_R nb_P 229 9 [(13, l0)] (r.1 ++ []) r.2 :=
  nb_stepC (c := true) (L2 := [(13, l0)]) (S2 := [(0, 6), (13, l0)]) (M2 := M) (t := 9) (cl := 226) (vi := true) rfl rfl (nb_inv_eq (n := 2) rfl rfl rfl rfl rfl rfl (fun _ => h1) rfl)
theorem q_rd_readLine_9 (v0 : nb_V) (M : nb_M) :
    nb_R nb_P 229 9 [v0] [] M = nb_R nb_P 229 27 [v0] [] M :=
  nb_step (c := true) rfl rfl
theorem q_rd_readLine_10 (l0 : Int) (M : nb_M) (h1 : l0 ≠ 0) :
    nb_R nb_P 229 10 [(13, l0)] [] M = (nb_R nb_P 227 0 [(13, l0), (2, 32)] [] M).bind fun r => nb_R nb_P 229 11 [(13, l0)] (r.1 ++ []) r.2 :=
  nb_stepC (c := true) (L2 := [(13, l0)]) (S2 := [(2, 32), (13, l0)]) (M2 := M) (t := 11) (cl := 227) (vi := true) rfl rfl (nb_inv_eq (n := 2) rfl rfl rfl rfl rfl rfl (fun _ => h1) rfl)
theorem q_rd_readLine_11 (l0 s0 : Int) (M : nb_M) :
    nb_R nb_P 229 11 [(13, l0)] [(0, s0)] M = if s0 = 0 then nb_R nb_P 229 14 [(13, l0)] [] M else nb_R nb_P 229 12 [(13, l0)] [] M :=
  nb_step (c := true) rfl rfl
theorem q_rd_readLine_12 (l0 : Int) (M : nb_M) (h1 : l0 ≠ 0) :
    nb_R nb_P 229 12 [(13, l0)] [] M = (nb_R nb_P 231 0 [(13, l0), (98, 0), (98, 0), (98, 0)] [] M).bind fun r => nb_R nb_P 229 13 [(13, l0)] (r.1 ++ []) r.2 :=
  nb_stepC (c := true) (L2 := [(13, l0)]) (S2 := [(13, l0)]) (M2 := M) (t := 13) (cl := 231) (vi := true) rfl rfl (nb_inv_eq (n := 1) rfl rfl rfl rfl rfl rfl (fun _ => h1) rfl)
theorem q_rd_readLine_13 (v0 : nb_V) (M : nb_M) :
    nb_R nb_P 229 13 [v0] [] M = nb_R nb_P 229 27 [v0] [] M :=
  nb_step (c := true) rfl rfl
theorem q_rd_readLine_14 (l0 : Int) (M : nb_M) (h1 : l0 ≠ 0) :
    nb_R nb_P 229 14 [(13, l0)] [] M = (nb_R nb_P 227 0 [(13, l0), (2, 33)] [] M).bind fun r => nb_R nb_P 229 15 [(13, l0)] (r.1 ++ []) r.2 :=
  nb_stepC (c := true) (L2 := [(13, l0)]) (S2 := [(2, 33), (13, l0)]) (M2 := M) (t := 15) (cl := 227) (vi := true) rfl rfl (nb_inv_eq (n := 2) rfl rfl rfl rfl rfl rfl (fun _ => h1) rfl)
theorem q_rd_readLine_15 (l0 s0 : Int) (M : nb_M) :
    nb_R nb_P 229 15 [(13, l0)] [(0, s0)] M = if s0 = 0 then nb_R nb_P 229 18 [(13, l0)] [] M else nb_R nb_P 229 16 [(13, l0)] [] M :=
  nb_step (c := true) rfl rfl
theorem q_rd_readLine_16 (l0 : Int) (M : nb_M) (h1 : l0 ≠ 0) :
    nb_R nb_P 229 16 [(13, l0)] [] M = (nb_R nb_P 232 0 [(13, l0), (98, 0), (98, 0), (98, 0), (98, 0), (98, 0), (98, 0), (98, 0), (98, 0)] [] M).bind fun r => nb_R nb_P 229 17 [(13, l0)] (r.1 ++ []) r.2 :=
  nb_stepC (c := true) (L2 := [(13, l0)]) (S2 := [(13, l0)]) (M2 := M) (t := 17) (cl := 232) (vi := true) rfl rfl (nb_inv_eq (n := 1) rfl rfl rfl rfl rfl rfl (fun _ => h1) rfl)
theorem q_rd_readLine_17 (v0 : nb_V) (M : nb_M) :
    nb_R nb_P 229 17 [v0] [] M = nb_R nb_P 229 27 [v0] [] M :=
  nb_step (c := true) rfl rfl
theorem q_rd_readLine_18 (l0 : Int) (M : nb_M) (h1 : l0 ≠ 0) :
    nb_R nb_P 229 18 [(13, l0)] [] M = (nb_R nb_P 227 0 [(13, l0), (2, 34)] [] M).bind fun r => nb_R nb_P 229 19 [(13, l0)] (r.1 ++ []) r.2 :=
  nb_stepC (c := true) (L2 := [(13, l0)]) (S2 := [(2, 34), (13, l0)]) (M2 := M) (t := 19) (cl := 227) (vi := true) rfl rfl (nb_inv_eq (n := 2) rfl rfl rfl rfl rfl rfl (fun _ => h1) rfl)
theorem q_rd_readLine_19 (l0 s0 : Int) (M : nb_M) :
    nb_R nb_P 229 19 [(13, l0)] [(0, s0)] M = if s0 = 0 then nb_R nb_P 229 22 [(13, l0)] [] M else nb_R nb_P 229 20 [(13, l0)] [] M :=
  nb_step (c := true) rfl rfl
theorem q_rd_readLine_20 (l0 : Int) (M : nb_M) (h1 : l0 ≠ 0) :
    nb_R nb_P 229 20 [(13, l0)] [] M = (nb_R nb_P 233 0 [(13, l0), (98, 0), (98, 0), (98, 0), (98, 0), (98, 0), (98, 0), (98, 0)] [] M).bind fun r => nb_R nb_P 229 21 [(13, l0)] (r.1 ++ []) r.2 :=
  nb_stepC (c := true) (L2 := [(13, l0)]) (S2 := [(13, l0)]) (M2 := M) (t := 21) (cl := 233) (vi := true) rfl rfl (nb_inv_eq (n := 1) rfl rfl rfl rfl rfl rfl (fun _ => h1) rfl)
theorem q_rd_readLine_21 (v0 : nb_V) (M : nb_M) :
    nb_R nb_P 229 21 [v0] [] M = nb_R nb_P 229 27 [v0] [] M :=
  nb_step (c := true) rfl rfl
theorem q_rd_readLine_22 (l0 : Int) (M : nb_M) (h1 : l0 ≠ 0) :
    nb_R nb_P 229 22 [(13, l0)] [] M = (nb_R nb_P 227 0 [(13, l0), (2, 35)] [] M).bind fun r => nb_R nb_P 229 23 [(13, l0)] (r.1 ++ []) r.2 :=
  nb_stepC (c := true) (L2 := [(13, l0)]) (S2 := [(2, 35), (13, l0)]) (M2 := M) (t := 23) (cl := 227) (vi := true) rfl rfl (nb_inv_eq (n := 2) rfl rfl rfl rfl rfl rfl (fun _ => h1) rfl)
theorem q_rd_readLine_23 (l0 s0 : Int) (M : nb_M) :
    nb_R nb_P 229 23 [(13, l0)] [(0, s0)] M = if s0 = 0 then nb_R nb_P 229 26 [(13, l0)] [] M else nb_R nb_P 229 24 [(13, l0)] [] M :=
  nb_step (c := true) rfl rfl
theorem q_rd_readLine_24 (l0 : Int) (M : nb_M) (h1 : l0 ≠ 0) :
    nb_R nb_P 229 24 [(13, l0)] [] M = (nb_R nb_P 236 0 [(13, l0), (98, 0)] [] M).bind fun r => nb_R nb_P 229 25 [(13, l0)] (r.1 ++ []) r.2 :=
  nb_stepC (c := true) (L2 := [(13, l0)]) (S2 := [(13, l0)]) (M2 := M) (t := 25) (cl := 236) (vi := true) rfl rfl (nb_inv_eq (n := 1) rfl rfl rfl rfl rfl rfl (fun _ => h1) rfl)
theorem q_rd_readLine_25 (v0 : nb_V) (M : nb_M) :
    nb_R nb_P 229 25 [v0] [] M = nb_R nb_P 229 27 [v0] [] M :=
  nb_step (c := true) rfl rfl
theorem q_rd_readLine_26 (l0 : Int) (M : nb_M) (h1 : l0 ≠ 0) :
    nb_R nb_P 229 26 [(13, l0)] [] M = (nb_R nb_P 237 0 [(13, l0), (98, 0), (98, 0), (98, 0)] [] M).bind fun r => nb_R nb_P 229 27 [(13, l0)] (r.1 ++ []) r.2 :=
  nb_stepC (c := true) (L2 := [(13, l0)]) (S2 := [(13, l0)]) (M2 := M) (t := 27) (cl := 237) (vi := true) rfl rfl (nb_inv_eq (n := 1) rfl rfl rfl rfl rfl rfl (fun _ => h1) rfl)
theorem q_rd_readLine_27 (v0 : nb_V) (M : nb_M) :
    nb_R nb_P 229 27 [v0] [] M = some ([], M) :=
  nb_step (c := true) rfl rfl
theorem q_rd_readHouse_0 (l0 : Int) (M : nb_M) (h1 : l0 ≠ 0) (h2 : (nb_rd M l0 4) ≠ 0) :
    nb_R nb_P 230 0 [(13, l0)] [] M = if nb_rd M (nb_rd M l0 4) 9 = 0 then nb_R nb_P 230 2 [(13, l0)] [] M else nb_R nb_P 230 1 [(13, l0)] [] M :=
  nb_step (c := ((true && !decide ((l0 : Int) = 0)) && !decide ((nb_rd M l0 4 : Int) = 0))) rfl (by simp [h1, h2])
theorem q_rd_readHouse_1 (l0 : Int) (M : nb_M) (h1 : l0 ≠ 0) :
    nb_R nb_P 230 1 [(13, l0)] [] M = (nb_R nb_P 226 0 [(13, l0), (0, 3)] [] M).bind fun r => nb_R nb_P 230 2 [(13, l0)] (r.1 ++ []) r.2 :=
  nb_stepC (c := true) (L2 := [(13, l0)]) (S2 := [(0, 3), (13, l0)]) (M2 := M) (t := 2) (cl := 226) (vi := true) rfl rfl (nb_inv_eq (n := 2) rfl rfl rfl rfl rfl rfl (fun _ => h1) rfl)
theorem q_rd_readHouse_2 (l0 : Int) (M : nb_M) (h1 : l0 ≠ 0) :
    nb_R nb_P 230 2 [(13, l0)] [] M = (nb_R nb_P 225 0 [(13, l0)] [] M).bind fun r => nb_R nb_P 230 3 [(13, l0)] (r.1 ++ []) r.2 :=
  nb_stepC (c := true) (L2 := [(13, l0)]) (S2 := [(13, l0)]) (M2 := M) (t := 3) (cl := 225) (vi := true) rfl rfl (nb_inv_eq (n := 1) rfl rfl rfl rfl rfl rfl (fun _ => h1) rfl)
theorem q_rd_readHouse_3 (l0 : Int) (M : nb_M) (h1 : l0 ≠ 0) :
    nb_R nb_P 230 3 [(13, l0)] [] M = (nb_R nb_P 243 0 [(13, l0), (2, 36), (0, 1), (0, 20)] [] M).bind fun r => nb_R nb_P 230 4 [(13, l0)] (r.1 ++ [(12, nb_rd M l0 4)]) r.2 :=
  nb_stepC (c := (true && !decide ((l0 : Int) = 0))) (L2 := [(13, l0)]) (S2 := [(0, 20), (0, 1), (2, 36), (13, l0), (12, nb_rd M l0 4)]) (M2 := M) (t := 4) (cl := 243) (vi := true) rfl (by simp [h1]) (nb_inv_eq (n := 4) rfl rfl rfl rfl rfl rfl (fun _ => h1) rfl)
theorem q_rd_readHouse_4 (l0 s0 s1 : Int) (M : nb_M) (h1 : s1 ≠ 0) :
    nb_R nb_P 230 4 [(13, l0)] [(0, s0), (12, s1)] M = nb_R nb_P 230 5 [(13, l0)] [] (nb_wr M s1 9 s0) :=
  nb_step (c := (true && (!decide ((s1 : Int) = 0) && (!false || (decide ((s0 : Int) = 0) || decide ((s0 : Int) = 1)))))) rfl (by simp [h1])
theorem q_rd_readHouse_5 (l0 : Int) (M : nb_M) (h1 : l0 ≠ 0) :
    nb_R nb_P 230 5 [(13, l0)] [] M = (nb_R nb_P 243 0 [(13, l0), (2, 37), (0, 1), (0, 600)] [] M).bind fun r => nb_R nb_P 230 6 [(13, l0)] (r.1 ++ [(12, nb_rd M l0 4)]) r.2 :=
  nb_stepC (c := (true && !decide ((l0 : Int) = 0))) (L2 := [(13, l0)]) (S2 := [(0, 600), (0, 1), (2, 37), (13, l0), (12, nb_rd M l0 4)]) (M2 := M) (t := 6) (cl := 243) (vi := true) rfl (by simp [h1]) (nb_inv_eq (n := 4) rfl rfl rfl rfl rfl rfl (fun _ => h1) rfl)
theorem q_rd_readHouse_6 (s0 s1 : Int) (v0 : nb_V) (M : nb_M) (h1 : s1 ≠ 0) :
    nb_R nb_P 230 6 [v0] [(0, s0), (12, s1)] M = nb_R nb_P 230 7 [v0] [] (nb_wr M s1 10 s0) :=
  nb_step (c := (true && (!decide ((s1 : Int) = 0) && (!false || (decide ((s0 : Int) = 0) || decide ((s0 : Int) = 1)))))) rfl (by simp [h1])
theorem q_rd_readHouse_7 (v0 : nb_V) (M : nb_M) :
    nb_R nb_P 230 7 [v0] [] M = some ([], M) :=
  nb_step (c := true) rfl rfl
theorem q_rd_readDrink_0 (l0 : Int) (v1 v2 v3 : nb_V) (M : nb_M) (h1 : l0 ≠ 0) (h2 : (nb_rd M l0 4) ≠ 0) :
    nb_R nb_P 231 0 [(13, l0), v1, v2, v3] [] M = (nb_R nb_P 238 0 [(13, l0), (0, nb_rd M (nb_rd M l0 4) 11), (0, 5)] [] M).bind fun r => nb_R nb_P 231 1 [(13, l0), v1, v2, v3] (r.1 ++ []) r.2 :=
  nb_stepC (c := ((true && !decide ((l0 : Int) = 0)) && !decide ((nb_rd M l0 4 : Int) = 0))) (L2 := [(13, l0), v1, v2, v3]) (S2 := [(0, 5), (0, nb_rd M (nb_rd M l0 4) 11), (13, l0)]) (M2 := M) (t := 1) (cl := 238) (vi := true) rfl (by simp [h1, h2]) (nb_inv_eq (n := 3) rfl rfl rfl rfl rfl rfl (fun _ => h1) rfl)
theorem q_rd_readDrink_1 (l0 : Int) (v1 v2 v3 : nb_V) (M : nb_M) (h1 : l0 ≠ 0) (h2 : (nb_rd M l0 4) ≠ 0) :
    nb_R nb_P 231 1 [(13, l0), v1, v2, v3] [] M = (nb_R nb_P 239 0 [(13, l0), (0, 0), (0, nb_rd M (nb_rd M l0 4) 11)] [] M).bind fun r => nb_R nb_P 231 2 [(13, l0), v1, v2, v3] (r.1 ++ []) r.2 :=
  nb_stepC (c := ((true && !decide ((l0 : Int) = 0)) && !decide ((nb_rd M l0 4 : Int) = 0))) (L2 := [(13, l0), v1, v2, v3]) (S2 := [(0, nb_rd M (nb_rd M l0 4) 11), (0, 0), (13, l0)]) (M2 := M) (t := 2) (cl := 239) (vi := true) rfl (by simp [h1, h2]) (nb_inv_eq (n := 3) rfl rfl rfl rfl rfl rfl (fun _ => h1) rfl)
theorem q_rd_readDrink_2 (l0 : Int) (v1 v2 v3 : nb_V) (M : nb_M) (h1 : l0 ≠ 0) :
    nb_R nb_P 231 2 [(13, l0), v1, v2, v3] [] M = (nb_R nb_P 243 0 [(13, l0), (2, 38), (0, 1), (0, 90)] [] M).bind fun r => nb_R nb_P 231 3 [(13, l0), v1, v2, v3] (r.1 ++ []) r.2 :=
  nb_stepC (c := true) (L2 := [(13, l0), v1, v2, v3]) (S2 := [(0, 90), (0, 1), (2, 38), (13, l0)]) (M2 := M) (t := 3) (cl := 243) (vi := true) rfl rfl (nb_inv_eq (n := 4) rfl rfl rfl rfl rfl rfl (fun _ => h1) rfl)
theorem q_rd_readDrink_3 (l0 s0 : Int) (v1 v2 v3 : nb_V) (M : nb_M) (h1 : l0 ≠ 0) :
    nb_R nb_P 231 3 [(13, l0), v1, v2, v3] [(0, s0)] M = (nb_R nb_P 243 0 [(13, l0), (2, 39), (0, 0), (0, s0)] [] M).bind fun r => nb_R nb_P 231 4 [(13, l0), (0, s0), v2, v3] (r.1 ++ []) r.2 :=
  nb_stepC (c := true) (L2 := [(13, l0), (0, s0), v2, v3]) (S2 := [(0, s0), (0, 0), (2, 39), (13, l0)]) (M2 := M) (t := 4) (cl := 243) (vi := true) rfl rfl (nb_inv_eq (n := 4) rfl rfl rfl rfl rfl rfl (fun _ => h1) rfl)
theorem q_rd_readDrink_4 (l0 l1 s0 : Int) (v2 v3 : nb_V) (M : nb_M) (h1 : l0 ≠ 0) :
    nb_R nb_P 231 4 [(13, l0), (0, l1), v2, v3] [(0, s0)] M = (nb_R nb_P 243 0 [(13, l0), (2, 40), (0, 0), (0, 99)] [] M).bind fun r => nb_R nb_P 231 5 [(13, l0), (0, l1), (0, s0), v3] (r.1 ++ []) r.2 :=
  nb_stepC (c := true) (L2 := [(13, l0), (0, l1), (0, s0), v3]) (S2 := [(0, 99), (0, 0), (2, 40), (13, l0)]) (M2 := M) (t := 5) (cl := 243) (vi := true) rfl rfl (nb_inv_eq (n := 4) rfl rfl rfl rfl rfl rfl (fun _ => h1) rfl)
theorem q_rd_readDrink_5 (l0 l1 l2 s0 : Int) (v3 : nb_V) (M : nb_M) (h1 : l0 ≠ 0) :
    nb_R nb_P 231 5 [(13, l0), (0, l1), (0, l2), v3] [(0, s0)] M = if nb_rd M l0 9 = 0 then nb_R nb_P 231 6 [(13, l0), (0, l1), (0, l2), (0, s0)] [] M else nb_R nb_P 231 11 [(13, l0), (0, l1), (0, l2), (0, s0)] [] M :=
  nb_step (c := (true && !decide ((l0 : Int) = 0))) rfl (by simp [h1])
theorem q_rd_readDrink_6 (l0 l1 l2 l3 : Int) (M : nb_M) (h1 : l0 ≠ 0) (h2 : (nb_rd M l0 4) ≠ 0) :
    nb_R nb_P 231 6 [(13, l0), (0, l1), (0, l2), (0, l3)] [] M = if nb_rd M (nb_rd M l0 4) 11 < 5 then nb_R nb_P 231 7 [(13, l0), (0, l1), (0, l2), (0, l3)] [] M else nb_R nb_P 231 11 [(13, l0), (0, l1), (0, l2), (0, l3)] [] M :=
  nb_step (c := ((true && !decide ((l0 : Int) = 0)) && !decide ((nb_rd M l0 4 : Int) = 0))) rfl (by simp [h1, h2])
theorem q_rd_readDrink_7 (l0 l1 l2 l3 : Int) (M : nb_M) (h1 : l0 ≠ 0) (h2 : (nb_rd M l0 4) ≠ 0) (h3 : (nb_rd M (nb_rd M l0 4) 0) ≠ 0) (h4 : (nb_rd M (nb_rd M l0 4) 0) ≠ 1) (h5 : (0 : Int) ≤ nb_rd M (nb_rd M l0 4) 11) (h6 : nb_rd M (nb_rd M l0 4) 11 < nb_ln M (nb_rd M (nb_rd M l0 4) 0)) :
    nb_R nb_P 231 7 [(13, l0), (0, l1), (0, l2), (0, l3)] [] M = nb_R nb_P 231 8 [(13, l0), (0, l1), (0, l2), (0, l3)] [] (nb_wr M (nb_rd M (nb_rd M l0 4) 0) (nb_rd M (nb_rd M l0 4) 11) l1) :=
  nb_step (c := (((((true && !decide ((l0 : Int) = 0)) && !decide ((nb_rd M l0 4 : Int) = 0)) && !decide ((l0 : Int) = 0)) && !decide ((nb_rd M l0 4 : Int) = 0)) && (!decide ((nb_rd M (nb_rd M l0 4) 0 : Int) = 0) && (!decide ((nb_rd M (nb_rd M l0 4) 0 : Int) = 1) && (decide ((0 : Int) ≤ nb_rd M (nb_rd M l0 4) 11) && decide (nb_rd M (nb_rd M l0 4) 11 < nb_ln M (nb_rd M (nb_rd M l0 4) 0))))))) rfl (by simp [h1, h2, h3, h4, h5, h6])
theorem q_rd_readDrink_8 (l0 l2 l3 : Int) (v1 : nb_V) (M : nb_M) (h1 : l0 ≠ 0) (h2 : (nb_rd M l0 4) ≠ 0) (h3 : (nb_rd M (nb_rd M l0 4) 1) ≠ 0) (h4 : (nb_rd M (nb_rd M l0 4) 1) ≠ 1) (h5 : (0 : Int) ≤ nb_rd M (nb_rd M l0 4) 11) (h6 : nb_rd M (nb_rd M l0 4) 11 < nb_ln M (nb_rd M (nb_rd M l0 4) 1)) :
    nb_R nb_P 231 8 [(13, l0), v1, (0, l2), (0, l3)] [] M = nb_R nb_P 231 9 [(13, l0), v1, (0, l2), (0, l3)] [] (nb_wr M (nb_rd M (nb_rd M l0 4) 1) (nb_rd M (nb_rd M l0 4) 11) l2) :=
  nb_step (c := (((((true && !decide ((l0 : Int) = 0)) && !decide ((nb_rd M l0 4 : Int) = 0)) && !decide ((l0 : Int) = 0)) && !decide ((nb_rd M l0 4 : Int) = 0)) && (!decide ((nb_rd M (nb_rd M l0 4) 1 : Int) = 0) && (!decide ((nb_rd M (nb_rd M l0 4) 1 : Int) = 1) && (decide ((0 : Int) ≤ nb_rd M (nb_rd M l0 4) 11) && decide (nb_rd M (nb_rd M l0 4) 11 < nb_ln M (nb_rd M (nb_rd M l0 4) 1))))))) rfl (by simp [h1, h2, h3, h4, h5, h6])
theorem q_rd_readDrink_9 (l0 l3 : Int) (v1 v2 : nb_V) (M : nb_M) (h1 : l0 ≠ 0) (h2 : (nb_rd M l0 4) ≠ 0) (h3 : (nb_rd M (nb_rd M l0 4) 2) ≠ 0) (h4 : (nb_rd M (nb_rd M l0 4) 2) ≠ 1) (h5 : (0 : Int) ≤ nb_rd M (nb_rd M l0 4) 11) (h6 : nb_rd M (nb_rd M l0 4) 11 < nb_ln M (nb_rd M (nb_rd M l0 4) 2)) :
    nb_R nb_P 231 9 [(13, l0), v1, v2, (0, l3)] [] M = nb_R nb_P 231 10 [(13, l0), v1, v2, (0, l3)] [] (nb_wr M (nb_rd M (nb_rd M l0 4) 2) (nb_rd M (nb_rd M l0 4) 11) l3) :=
  nb_step (c := (((((true && !decide ((l0 : Int) = 0)) && !decide ((nb_rd M l0 4 : Int) = 0)) && !decide ((l0 : Int) = 0)) && !decide ((nb_rd M l0 4 : Int) = 0)) && (!decide ((nb_rd M (nb_rd M l0 4) 2 : Int) = 0) && (!decide ((nb_rd M (nb_rd M l0 4) 2 : Int) = 1) && (decide ((0 : Int) ≤ nb_rd M (nb_rd M l0 4) 11) && decide (nb_rd M (nb_rd M l0 4) 11 < nb_ln M (nb_rd M (nb_rd M l0 4) 2))))))) rfl (by simp [h1, h2, h3, h4, h5, h6])
theorem q_rd_readDrink_10 (l0 : Int) (v1 v2 v3 : nb_V) (M : nb_M) (h1 : l0 ≠ 0) (h2 : (nb_rd M l0 4) ≠ 0) :
    nb_R nb_P 231 10 [(13, l0), v1, v2, v3] [] M = nb_R nb_P 231 11 [(13, l0), v1, v2, v3] [] (nb_wr M (nb_rd M l0 4) 11 (nb_add (nb_rd M (nb_rd M l0 4) 11) 1)) :=
  nb_step (c := (((true && !decide ((l0 : Int) = 0)) && !decide ((nb_rd M l0 4 : Int) = 0)) && (!decide ((nb_rd M l0 4 : Int) = 0) && (!false || (decide ((nb_add (nb_rd M (nb_rd M l0 4) 11) 1 : Int) = 0) || decide ((nb_add (nb_rd M (nb_rd M l0 4) 11) 1 : Int) = 1)))))) rfl (by simp [h1, h2])
theorem q_rd_readDrink_11 (v0 v1 v2 v3 : nb_V) (M : nb_M) :
    nb_R nb_P 231 11 [v0, v1, v2, v3] [] M = some ([], M) :=
  nb_step (c := true) rfl rfl
theorem q_rd_readStaff_0 (l0 : Int) (v1 v2 v3 v4 v5 v6 v7 v8 : nb_V) (M : nb_M) (h1 : l0 ≠ 0) (h2 : (nb_rd M l0 4) ≠ 0) :
    nb_R nb_P 232 0 [(13, l0), v1, v2, v3, v4, v5, v6, v7, v8] [] M = (nb_R nb_P 238 0 [(13, l0), (0, nb_rd M (nb_rd M l0 4) 12), (0, 3)] [] M).bind fun r => nb_R nb_P 232 1 [(13, l0), v1, v2, v3, v4, v5, v6, v7, v8] (r.1 ++ []) r.2 :=
  nb_stepC (c := ((true && !decide ((l0 : Int) = 0)) && !decide ((nb_rd M l0 4 : Int) = 0))) (L2 := [(13, l0), v1, v2, v3, v4, v5, v6, v7, v8]) (S2 := [(0, 3), (0, nb_rd M (nb_rd M l0 4) 12), (13, l0)]) (M2 := M) (t := 1) (cl := 238) (vi := true) rfl (by simp [h1, h2]) (nb_inv_eq (n := 3) rfl rfl rfl rfl rfl rfl (fun _ => h1) rfl)
theorem q_rd_readStaff_1 (l0 : Int) (v1 v2 v3 v4 v5 v6 v7 v8 : nb_V) (M : nb_M) (h1 : l0 ≠ 0) (h2 : (nb_rd M l0 4) ≠ 0) :
    nb_R nb_P 232 1 [(13, l0), v1, v2, v3, v4, v5, v6, v7, v8] [] M = (nb_R nb_P 239 0 [(13, l0), (0, 1), (0, nb_rd M (nb_rd M l0 4) 12)] [] M).bind fun r => nb_R nb_P 232 2 [(13, l0), v1, v2, v3, v4, v5, v6, v7, v8] (r.1 ++ []) r.2 :=
  nb_stepC (c := ((true && !decide ((l0 : Int) = 0)) && !decide ((nb_rd M l0 4 : Int) = 0))) (L2 := [(13, l0), v1, v2, v3, v4, v5, v6, v7, v8]) (S2 := [(0, nb_rd M (nb_rd M l0 4) 12), (0, 1), (13, l0)]) (M2 := M) (t := 2) (cl := 239) (vi := true) rfl (by simp [h1, h2]) (nb_inv_eq (n := 3) rfl rfl rfl rfl rfl rfl (fun _ => h1) rfl)
theorem q_rd_readStaff_2 (l0 : Int) (v1 v2 v3 v4 v5 v6 v7 v8 : nb_V) (M : nb_M) (h1 : l0 ≠ 0) :
    nb_R nb_P 232 2 [(13, l0), v1, v2, v3, v4, v5, v6, v7, v8] [] M = (nb_R nb_P 245 0 [(13, l0), (98, 0)] [] M).bind fun r => nb_R nb_P 232 3 [(13, l0), v1, v2, v3, v4, v5, v6, v7, v8] (r.1 ++ []) r.2 :=
  nb_stepC (c := true) (L2 := [(13, l0), v1, v2, v3, v4, v5, v6, v7, v8]) (S2 := [(13, l0)]) (M2 := M) (t := 3) (cl := 245) (vi := true) rfl rfl (nb_inv_eq (n := 1) rfl rfl rfl rfl rfl rfl (fun _ => h1) rfl)
theorem q_rd_readStaff_3 (l0 s0 : Int) (v1 v2 v3 v4 v5 v6 v7 v8 : nb_V) (M : nb_M) (h1 : l0 ≠ 0) (h2 : (nb_rd M l0 4) ≠ 0) :
    nb_R nb_P 232 3 [(13, l0), v1, v2, v3, v4, v5, v6, v7, v8] [(0, s0)] M = (nb_R nb_P 243 0 [(13, l0), (2, 41), (0, 0), (0, nb_sub (nb_rd M (nb_rd M l0 4) 9) 1)] [] M).bind fun r => nb_R nb_P 232 4 [(13, l0), (0, s0), (0, nb_sub (nb_rd M (nb_rd M l0 4) 9) 1), v3, v4, v5, v6, v7, v8] (r.1 ++ []) r.2 :=
  nb_stepC (c := ((true && !decide ((l0 : Int) = 0)) && !decide ((nb_rd M l0 4 : Int) = 0))) (L2 := [(13, l0), (0, s0), (0, nb_sub (nb_rd M (nb_rd M l0 4) 9) 1), v3, v4, v5, v6, v7, v8]) (S2 := [(0, nb_sub (nb_rd M (nb_rd M l0 4) 9) 1), (0, 0), (2, 41), (13, l0)]) (M2 := M) (t := 4) (cl := 243) (vi := true) rfl (by simp [h1, h2]) (nb_inv_eq (n := 4) rfl rfl rfl rfl rfl rfl (fun _ => h1) rfl)
theorem q_rd_readStaff_4 (l0 l1 l2 s0 : Int) (v3 v4 v5 v6 v7 v8 : nb_V) (M : nb_M) (h1 : l0 ≠ 0) :
    nb_R nb_P 232 4 [(13, l0), (0, l1), (0, l2), v3, v4, v5, v6, v7, v8] [(0, s0)] M = (nb_R nb_P 243 0 [(13, l0), (2, 42), (0, 0), (0, l2)] [] M).bind fun r => nb_R nb_P 232 5 [(13, l0), (0, l1), (0, l2), (0, s0), v4, v5, v6, v7, v8] (r.1 ++ []) r.2 :=
  nb_stepC (c := true) (L2 := [(13, l0), (0, l1), (0, l2), (0, s0), v4, v5, v6, v7, v8]) (S2 := [(0, l2), (0, 0), (2, 42), (13, l0)]) (M2 := M) (t := 5) (cl := 243) (vi := true) rfl rfl (nb_inv_eq (n := 4) rfl rfl rfl rfl rfl rfl (fun _ => h1) rfl)
theorem q_rd_readStaff_5 (l0 l1 l2 l3 s0 : Int) (v4 v5 v6 v7 v8 : nb_V) (M : nb_M) (h1 : l0 ≠ 0) :
    nb_R nb_P 232 5 [(13, l0), (0, l1), (0, l2), (0, l3), v4, v5, v6, v7, v8] [(0, s0)] M = (nb_R nb_P 243 0 [(13, l0), (2, 43), (0, s0), (0, l2)] [] M).bind fun r => nb_R nb_P 232 6 [(13, l0), (0, l1), (0, l2), (0, l3), (0, s0), v5, v6, v7, v8] (r.1 ++ []) r.2 :=
  nb_stepC (c := true) (L2 := [(13, l0), (0, l1), (0, l2), (0, l3), (0, s0), v5, v6, v7, v8]) (S2 := [(0, l2), (0, s0), (2, 43), (13, l0)]) (M2 := M) (t := 6) (cl := 243) (vi := true) rfl rfl (nb_inv_eq (n := 4) rfl rfl rfl rfl rfl rfl (fun _ => h1) rfl)
theorem q_rd_readStaff_6 (l0 l1 l3 l4 s0 : Int) (v2 v5 v6 v7 v8 : nb_V) (M : nb_M) (h1 : l0 ≠ 0) :
    nb_R nb_P 232 6 [(13, l0), (0, l1), v2, (0, l3), (0, l4), v5, v6, v7, v8] [(0, s0)] M = (nb_R nb_P 243 0 [(13, l0), (2, 44), (0, 0), (0, 9)] [] M).bind fun r => nb_R nb_P 232 7 [(13, l0), (0, l1), v2, (0, l3), (0, l4), (0, s0), v6, v7, v8] (r.1 ++ []) r.2 :=
  nb_stepC (c := true) (L2 := [(13, l0), (0, l1), v2, (0, l3), (0, l4), (0, s0), v6, v7, v8]) (S2 := [(0, 9), (0, 0), (2, 44), (13, l0)]) (M2 := M) (t := 7) (cl := 243) (vi := true) rfl rfl (nb_inv_eq (n := 4) rfl rfl rfl rfl rfl rfl (fun _ => h1) rfl)
theorem q_rd_readStaff_7 (l0 l1 l3 l4 l5 s0 : Int) (v2 v6 v7 v8 : nb_V) (M : nb_M) (h1 : l0 ≠ 0) :
    nb_R nb_P 232 7 [(13, l0), (0, l1), v2, (0, l3), (0, l4), (0, l5), v6, v7, v8] [(0, s0)] M = (nb_R nb_P 243 0 [(13, l0), (2, 45), (0, 1), (0, 2)] [] M).bind fun r => nb_R nb_P 232 8 [(13, l0), (0, l1), v2, (0, l3), (0, l4), (0, l5), (0, s0), v7, v8] (r.1 ++ []) r.2 :=
  nb_stepC (c := true) (L2 := [(13, l0), (0, l1), v2, (0, l3), (0, l4), (0, l5), (0, s0), v7, v8]) (S2 := [(0, 2), (0, 1), (2, 45), (13, l0)]) (M2 := M) (t := 8) (cl := 243) (vi := true) rfl rfl (nb_inv_eq (n := 4) rfl rfl rfl rfl rfl rfl (fun _ => h1) rfl)
theorem q_rd_readStaff_8 (l0 l1 l3 l4 l5 l6 s0 : Int) (v2 v7 v8 : nb_V) (M : nb_M) (h1 : l0 ≠ 0) :
    nb_R nb_P 232 8 [(13, l0), (0, l1), v2, (0, l3), (0, l4), (0, l5), (0, l6), v7, v8] [(0, s0)] M = if nb_rd M l0 9 = 0 then nb_R nb_P 232 9 [(13, l0), (0, l1), v2, (0, l3), (0, l4), (0, l5), (0, l6), (0, s0), v8] [] M else nb_R nb_P 232 17 [(13, l0), (0, l1), v2, (0, l3), (0, l4), (0, l5), (0, l6), (0, s0), v8] [] M :=
  nb_step (c := (true && !decide ((l0 : Int) = 0))) rfl (by simp [h1])
theorem q_rd_readStaff_9 (l0 l1 l3 l4 l5 l6 l7 : Int) (v2 v8 : nb_V) (M : nb_M) (h1 : l0 ≠ 0) (h2 : (nb_rd M l0 4) ≠ 0) :
    nb_R nb_P 232 9 [(13, l0), (0, l1), v2, (0, l3), (0, l4), (0, l5), (0, l6), (0, l7), v8] [] M = if nb_rd M (nb_rd M l0 4) 12 < 3 then nb_R nb_P 232 10 [(13, l0), (0, l1), v2, (0, l3), (0, l4), (0, l5), (0, l6), (0, l7), v8] [] M else nb_R nb_P 232 17 [(13, l0), (0, l1), v2, (0, l3), (0, l4), (0, l5), (0, l6), (0, l7), v8] [] M :=
  nb_step (c := ((true && !decide ((l0 : Int) = 0)) && !decide ((nb_rd M l0 4 : Int) = 0))) rfl (by simp [h1, h2])
theorem q_rd_readStaff_10 (l0 l1 l3 l4 l5 l6 l7 : Int) (v2 v8 : nb_V) (M : nb_M) (h1 : l0 ≠ 0) (h2 : (nb_rd M l0 4) ≠ 0) (h3 : (nb_rd M (nb_rd M l0 4) 5) ≠ 0) (h4 : (0 : Int) ≤ nb_rd M (nb_rd M l0 4) 12) (h5 : nb_rd M (nb_rd M l0 4) 12 < nb_ln M (nb_rd M (nb_rd M l0 4) 5)) (h6 : (nb_rd M (nb_rd M (nb_rd M l0 4) 5) (nb_rd M (nb_rd M l0 4) 12)) ≠ 0) :
    nb_R nb_P 232 10 [(13, l0), (0, l1), v2, (0, l3), (0, l4), (0, l5), (0, l6), (0, l7), v8] [] M = (nb_R nb_P 272 0 [(16, nb_rd M (nb_rd M (nb_rd M l0 4) 5) (nb_rd M (nb_rd M l0 4) 12))] [] M).bind fun r => nb_R nb_P 232 11 [(13, l0), (0, l1), v2, (0, l3), (0, l4), (0, l5), (0, l6), (0, l7), (16, nb_rd M (nb_rd M (nb_rd M l0 4) 5) (nb_rd M (nb_rd M l0 4) 12))] (r.1 ++ []) r.2 :=
  nb_stepC (c := (((((true && !decide ((l0 : Int) = 0)) && !decide ((nb_rd M l0 4 : Int) = 0)) && !decide ((l0 : Int) = 0)) && !decide ((nb_rd M l0 4 : Int) = 0)) && (!decide ((nb_rd M (nb_rd M l0 4) 5 : Int) = 0) && (decide ((0 : Int) ≤ nb_rd M (nb_rd M l0 4) 12) && decide (nb_rd M (nb_rd M l0 4) 12 < nb_ln M (nb_rd M (nb_rd M l0 4) 5)))))) (L2 := [(13, l0), (0, l1), v2, (0, l3), (0, l4), (0, l5), (0, l6), (0, l7), (16, nb_rd M (nb_rd M (nb_rd M l0 4) 5) (nb_rd M (nb_rd M l0 4) 12))]) (S2 := [(16, nb_rd M (nb_rd M (nb_rd M l0 4) 5) (nb_rd M (nb_rd M l0 4) 12))]) (M2 := M) (t := 11) (cl := 272) (vi := true) rfl (by simp [h1, h2, h3, h4, h5, h6]) (nb_inv_eq (n := 1) rfl rfl rfl rfl rfl rfl (fun _ => h6) rfl)
theorem q_rd_readStaff_11 (l0 l1 l3 l4 l5 l6 l7 l8 : Int) (v2 : nb_V) (M : nb_M) (h1 : l8 ≠ 0) :
    nb_R nb_P 232 11 [(13, l0), (0, l1), v2, (0, l3), (0, l4), (0, l5), (0, l6), (0, l7), (16, l8)] [] M = nb_R nb_P 232 12 [(13, l0), (0, l1), v2, (0, l3), (0, l4), (0, l5), (0, l6), (0, l7), (16, l8)] [] (nb_wr M l8 1 l1) :=
  nb_step (c := (true && (!decide ((l8 : Int) = 0) && (!false || (decide ((l1 : Int) = 0) || decide ((l1 : Int) = 1)))))) rfl (by simp [h1])
theorem q_rd_readStaff_12 (l0 l3 l4 l5 l6 l7 l8 : Int) (v1 v2 : nb_V) (M : nb_M) (h1 : l8 ≠ 0) :
    nb_R nb_P 232 12 [(13, l0), v1, v2, (0, l3), (0, l4), (0, l5), (0, l6), (0, l7), (16, l8)] [] M = nb_R nb_P 232 13 [(13, l0), v1, v2, (0, l3), (0, l4), (0, l5), (0, l6), (0, l7), (16, l8)] [] (nb_wr M l8 2 l3) :=
  nb_step (c := (true && (!decide ((l8 : Int) = 0) && (!false || (decide ((l3 : Int) = 0) || decide ((l3 : Int) = 1)))))) rfl (by simp [h1])
theorem q_rd_readStaff_13 (l0 l4 l5 l6 l7 l8 : Int) (v1 v2 v3 : nb_V) (M : nb_M) (h1 : l8 ≠ 0) :
    nb_R nb_P 232 13 [(13, l0), v1, v2, v3, (0, l4), (0, l5), (0, l6), (0, l7), (16, l8)] [] M = (nb_R nb_P 274 0 [(16, l8), (0, l4), (0, l5)] [] M).bind fun r => nb_R nb_P 232 14 [(13, l0), v1, v2, v3, (0, l4), (0, l5), (0, l6), (0, l7), (16, l8)] (r.1 ++ []) r.2 :=
  nb_stepC (c := true) (L2 := [(13, l0), v1, v2, v3, (0, l4), (0, l5), (0, l6), (0, l7), (16, l8)]) (S2 := [(0, l5), (0, l4), (16, l8)]) (M2 := M) (t := 14) (cl := 274) (vi := true) rfl rfl (nb_inv_eq (n := 3) rfl rfl rfl rfl rfl rfl (fun _ => h1) rfl)
theorem q_rd_readStaff_14 (l0 l6 l7 l8 : Int) (v1 v2 v3 v4 v5 : nb_V) (M : nb_M) (h1 : l8 ≠ 0) :
    nb_R nb_P 232 14 [(13, l0), v1, v2, v3, v4, v5, (0, l6), (0, l7), (16, l8)] [] M = nb_R nb_P 232 15 [(13, l0), v1, v2, v3, v4, v5, (0, l6), (0, l7), (16, l8)] [] (nb_wr M l8 5 l6) :=
  nb_step (c := (true && (!decide ((l8 : Int) = 0) && (!false || (decide ((l6 : Int) = 0) || decide ((l6 : Int) = 1)))))) rfl (by simp [h1])
theorem q_rd_readStaff_15 (l0 l7 l8 : Int) (v1 v2 v3 v4 v5 v6 : nb_V) (M : nb_M) (h1 : l8 ≠ 0) :
    nb_R nb_P 232 15 [(13, l0), v1, v2, v3, v4, v5, v6, (0, l7), (16, l8)] [] M = nb_R nb_P 232 16 [(13, l0), v1, v2, v3, v4, v5, v6, (0, l7), (16, l8)] [] (nb_wr M l8 6 l7) :=
  nb_step (c := (true && (!decide ((l8 : Int) = 0) && (!false || (decide ((l7 : Int) = 0) || decide ((l7 : Int) = 1)))))) rfl (by simp [h1])
theorem q_rd_readStaff_16 (l0 : Int) (v1 v2 v3 v4 v5 v6 v7 v8 : nb_V) (M : nb_M) (h1 : l0 ≠ 0) (h2 : (nb_rd M l0 4) ≠ 0) :
    nb_R nb_P 232 16 [(13, l0), v1, v2, v3, v4, v5, v6, v7, v8] [] M = nb_R nb_P 232 17 [(13, l0), v1, v2, v3, v4, v5, v6, v7, v8] [] (nb_wr M (nb_rd M l0 4) 12 (nb_add (nb_rd M (nb_rd M l0 4) 12) 1)) :=
  nb_step (c := (((true && !decide ((l0 : Int) = 0)) && !decide ((nb_rd M l0 4 : Int) = 0)) && (!decide ((nb_rd M l0 4 : Int) = 0) && (!false || (decide ((nb_add (nb_rd M (nb_rd M l0 4) 12) 1 : Int) = 0) || decide ((nb_add (nb_rd M (nb_rd M l0 4) 12) 1 : Int) = 1)))))) rfl (by simp [h1, h2])
theorem q_rd_readStaff_17 (v0 v1 v2 v3 v4 v5 v6 v7 v8 : nb_V) (M : nb_M) :
    nb_R nb_P 232 17 [v0, v1, v2, v3, v4, v5, v6, v7, v8] [] M = some ([], M) :=
  nb_step (c := true) rfl rfl
theorem q_rd_readPerson_0 (l0 : Int) (v1 v2 v3 v4 v5 v6 v7 : nb_V) (M : nb_M) (h1 : l0 ≠ 0) (h2 : (nb_rd M l0 4) ≠ 0) :
    nb_R nb_P 233 0 [(13, l0), v1, v2, v3, v4, v5, v6, v7] [] M = (nb_R nb_P 238 0 [(13, l0), (0, nb_rd M (nb_rd M l0 4) 13), (0, 10)] [] M).bind fun r => nb_R nb_P 233 1 [(13, l0), v1, v2, v3, v4, v5, v6, v7] (r.1 ++ []) r.2 :=
  nb_stepC (c := ((true && !decide ((l0 : Int) = 0)) && !decide ((nb_rd M l0 4 : Int) = 0))) (L2 := [(13, l0), v1, v2, v3, v4, v5, v6, v7]) (S2 := [(0, 10), (0, nb_rd M (nb_rd M l0 4) 13), (13, l0)]) (M2 := M) (t := 1) (cl := 238) (vi := true) rfl (by simp [h1, h2]) (nb_inv_eq (n := 3) rfl rfl rfl rfl rfl rfl (fun _ => h1) rfl)
theorem q_rd_readPerson_1 (l0 : Int) (v1 v2 v3 v4 v5 v6 v7 : nb_V) (M : nb_M) (h1 : l0 ≠ 0) (h2 : (nb_rd M l0 4) ≠ 0) :
    nb_R nb_P 233 1 [(13, l0), v1, v2, v3, v4, v5, v6, v7] [] M = (nb_R nb_P 239 0 [(13, l0), (0, 2), (0, nb_rd M (nb_rd M l0 4) 13)] [] M).bind fun r => nb_R nb_P 233 2 [(13, l0), v1, v2, v3, v4, v5, v6, v7] (r.1 ++ []) r.2 :=
  nb_stepC (c := ((true && !decide ((l0 : Int) = 0)) && !decide ((nb_rd M l0 4 : Int) = 0))) (L2 := [(13, l0), v1, v2, v3, v4, v5, v6, v7]) (S2 := [(0, nb_rd M (nb_rd M l0 4) 13), (0, 2), (13, l0)]) (M2 := M) (t := 2) (cl := 239) (vi := true) rfl (by simp [h1, h2]) (nb_inv_eq (n := 3) rfl rfl rfl rfl rfl rfl (fun _ => h1) rfl)
theorem q_rd_readPerson_2 (l0 : Int) (v1 v2 v3 v4 v5 v6 v7 : nb_V) (M : nb_M) (h1 : l0 ≠ 0) :
    nb_R nb_P 233 2 [(13, l0), v1, v2, v3, v4, v5, v6, v7] [] M = (nb_R nb_P 246 0 [(13, l0), (98, 0)] [] M).bind fun r => nb_R nb_P 233 3 [(13, l0), v1, v2, v3, v4, v5, v6, v7] (r.1 ++ []) r.2 :=
  nb_stepC (c := true) (L2 := [(13, l0), v1, v2, v3, v4, v5, v6, v7]) (S2 := [(13, l0)]) (M2 := M) (t := 3) (cl := 246) (vi := true) rfl rfl (nb_inv_eq (n := 1) rfl rfl rfl rfl rfl rfl (fun _ => h1) rfl)
theorem q_rd_readPerson_3 (l0 s0 : Int) (v1 v2 v3 v4 v5 v6 v7 : nb_V) (M : nb_M) :
    nb_R nb_P 233 3 [(13, l0), v1, v2, v3, v4, v5, v6, v7] [(0, s0)] M = if s0 = 1 then nb_R nb_P 233 5 [(13, l0), (0, s0), (0, 0), v3, v4, v5, v6, v7] [] M else nb_R nb_P 233 4 [(13, l0), (0, s0), (0, 0), v3, v4, v5, v6, v7] [] M :=
  nb_step (c := true) rfl rfl
theorem q_rd_readPerson_4 (l0 l1 l2 : Int) (v3 v4 v5 v6 v7 : nb_V) (M : nb_M) :
    nb_R nb_P 233 4 [(13, l0), (0, l1), (0, l2), v3, v4, v5, v6, v7] [] M = if l1 = 2 then nb_R nb_P 233 5 [(13, l0), (0, l1), (0, l2), v3, v4, v5, v6, v7] [] M else nb_R nb_P 233 7 [(13, l0), (0, l1), (0, l2), v3, v4, v5, v6, v7] [] M :=
  nb_step (c := true) rfl rfl
theorem q_rd_readPerson_5 (l0 l1 : Int) (v2 v3 v4 v5 v6 v7 : nb_V) (M : nb_M) (h1 : l0 ≠ 0) :
    nb_R nb_P 233 5 [(13, l0), (0, l1), v2, v3, v4, v5, v6, v7] [] M = (nb_R nb_P 244 0 [(13, l0), (0, 1), (0, 99), (98, 0)] [] M).bind fun r => nb_R nb_P 233 6 [(13, l0), (0, l1), v2, v3, v4, v5, v6, v7] (r.1 ++ []) r.2 :=
  nb_stepC (c := true) (L2 := [(13, l0), (0, l1), v2, v3, v4, v5, v6, v7]) (S2 := [(0, 99), (0, 1), (13, l0)]) (M2 := M) (t := 6) (cl := 244) (vi := true) rfl rfl (nb_inv_eq (n := 3) rfl rfl rfl rfl rfl rfl (fun _ => h1) rfl)
theorem q_rd_readPerson_6 (l0 l1 s0 : Int) (v2 v3 v4 v5 v6 v7 : nb_V) (M : nb_M) :
    nb_R nb_P 233 6 [(13, l0), (0, l1), v2, v3, v4, v5, v6, v7] [(0, s0)] M = nb_R nb_P 233 7 [(13, l0), (0, l1), (0, s0), v3, v4, v5, v6, v7] [] M :=
  nb_step (c := true) rfl rfl
theorem q_rd_readPerson_7 (l0 l1 l2 : Int) (v3 v4 v5 v6 v7 : nb_V) (M : nb_M) (h1 : l0 ≠ 0) (h2 : (nb_rd M l0 4) ≠ 0) :
    nb_R nb_P 233 7 [(13, l0), (0, l1), (0, l2), v3, v4, v5, v6, v7] [] M = (nb_R nb_P 243 0 [(13, l0), (2, 46), (0, 0), (0, nb_rd M (nb_rd M l0 4) 10)] [] M).bind fun r => nb_R nb_P 233 8 [(13, l0), (0, l1), (0, l2), v3, v4, v5, v6, v7] (r.1 ++ []) r.2 :=
  nb_stepC (c := ((true && !decide ((l0 : Int) = 0)) && !decide ((nb_rd M l0 4 : Int) = 0))) (L2 := [(13, l0), (0, l1), (0, l2), v3, v4, v5, v6, v7]) (S2 := [(0, nb_rd M (nb_rd M l0 4) 10), (0, 0), (2, 46), (13, l0)]) (M2 := M) (t := 8) (cl := 243) (vi := true) rfl (by simp [h1, h2]) (nb_inv_eq (n := 4) rfl rfl rfl rfl rfl rfl (fun _ => h1) rfl)
theorem q_rd_readPerson_8 (l0 l1 l2 s0 : Int) (v3 v4 v5 v6 v7 : nb_V) (M : nb_M) (h1 : l0 ≠ 0) (h2 : (nb_rd M l0 4) ≠ 0) :
    nb_R nb_P 233 8 [(13, l0), (0, l1), (0, l2), v3, v4, v5, v6, v7] [(0, s0)] M = (nb_R nb_P 243 0 [(13, l0), (2, 41), (0, 0), (0, nb_sub (nb_rd M (nb_rd M l0 4) 9) 1)] [] M).bind fun r => nb_R nb_P 233 9 [(13, l0), (0, l1), (0, l2), (0, s0), v4, v5, v6, v7] (r.1 ++ []) r.2 :=
  nb_stepC (c := ((true && !decide ((l0 : Int) = 0)) && !decide ((nb_rd M l0 4 : Int) = 0))) (L2 := [(13, l0), (0, l1), (0, l2), (0, s0), v4, v5, v6, v7]) (S2 := [(0, nb_sub (nb_rd M (nb_rd M l0 4) 9) 1), (0, 0), (2, 41), (13, l0)]) (M2 := M) (t := 9) (cl := 243) (vi := true) rfl (by simp [h1, h2]) (nb_inv_eq (n := 4) rfl rfl rfl rfl rfl rfl (fun _ => h1) rfl)
theorem q_rd_readPerson_9 (l0 l1 l2 l3 s0 : Int) (v4 v5 v6 v7 : nb_V) (M : nb_M) (h1 : l0 ≠ 0) :
    nb_R nb_P 233 9 [(13, l0), (0, l1), (0, l2), (0, l3), v4, v5, v6, v7] [(0, s0)] M = (nb_R nb_P 243 0 [(13, l0), (2, 47), (0, 0), (0, 600)] [] M).bind fun r => nb_R nb_P 233 10 [(13, l0), (0, l1), (0, l2), (0, l3), (0, s0), v5, v6, v7] (r.1 ++ []) r.2 :=
  nb_stepC (c := true) (L2 := [(13, l0), (0, l1), (0, l2), (0, l3), (0, s0), v5, v6, v7]) (S2 := [(0, 600), (0, 0), (2, 47), (13, l0)]) (M2 := M) (t := 10) (cl := 243) (vi := true) rfl rfl (nb_inv_eq (n := 4) rfl rfl rfl rfl rfl rfl (fun _ => h1) rfl)
theorem q_rd_readPerson_10 (l0 l1 l2 l3 l4 s0 : Int) (v5 v6 v7 : nb_V) (M : nb_M) (h1 : l0 ≠ 0) :
    nb_R nb_P 233 10 [(13, l0), (0, l1), (0, l2), (0, l3), (0, l4), v5, v6, v7] [(0, s0)] M = (nb_R nb_P 243 0 [(13, l0), (2, 48), (0, 0), (0, 99)] [] M).bind fun r => nb_R nb_P 233 11 [(13, l0), (0, l1), (0, l2), (0, l3), (0, l4), (0, s0), v6, v7] (r.1 ++ []) r.2 :=
  nb_stepC (c := true) (L2 := [(13, l0), (0, l1), (0, l2), (0, l3), (0, l4), (0, s0), v6, v7]) (S2 := [(0, 99), (0, 0), (2, 48), (13, l0)]) (M2 := M) (t := 11) (cl := 243) (vi := true) rfl rfl (nb_inv_eq (n := 4) rfl rfl rfl rfl rfl rfl (fun _ => h1) rfl)
theorem q_rd_readPerson_11 (l0 l1 l2 l3 l4 l5 s0 : Int) (v6 v7 : nb_V) (M : nb_M) (h1 : l0 ≠ 0) :
    nb_R nb_P 233 11 [(13, l0), (0, l1), (0, l2), (0, l3), (0, l4), (0, l5), v6, v7] [(0, s0)] M = (nb_R nb_P 242 0 [(13, l0), (2, 49)] [] M).bind fun r => nb_R nb_P 233 12 [(13, l0), (0, l1), (0, l2), (0, l3), (0, l4), (0, l5), (0, s0), v7] (r.1 ++ []) r.2 :=
  nb_stepC (c := true) (L2 := [(13, l0), (0, l1), (0, l2), (0, l3), (0, l4), (0, l5), (0, s0), v7]) (S2 := [(2, 49), (13, l0)]) (M2 := M) (t := 12) (cl := 242) (vi := true) rfl rfl (nb_inv_eq (n := 2) rfl rfl rfl rfl rfl rfl (fun _ => h1) rfl)
theorem q_rd_readPerson_12 (l0 l1 l2 l3 l4 l5 l6 : Int) (v7 : nb_V) (M : nb_M) (h1 : l0 ≠ 0) :
    nb_R nb_P 233 12 [(13, l0), (0, l1), (0, l2), (0, l3), (0, l4), (0, l5), (0, l6), v7] [] M = if nb_rd M l0 9 = 0 then nb_R nb_P 233 13 [(13, l0), (0, l1), (0, l2), (0, l3), (0, l4), (0, l5), (0, l6), v7] [] M else nb_R nb_P 233 21 [(13, l0), (0, l1), (0, l2), (0, l3), (0, l4), (0, l5), (0, l6), v7] [] M :=
  nb_step (c := (true && !decide ((l0 : Int) = 0))) rfl (by simp [h1])
theorem q_rd_readPerson_13 (l0 l1 l2 l3 l4 l5 l6 : Int) (v7 : nb_V) (M : nb_M) (h1 : l0 ≠ 0) (h2 : (nb_rd M l0 4) ≠ 0) :
    nb_R nb_P 233 13 [(13, l0), (0, l1), (0, l2), (0, l3), (0, l4), (0, l5), (0, l6), v7] [] M = if nb_rd M (nb_rd M l0 4) 13 < 10 then nb_R nb_P 233 14 [(13, l0), (0, l1), (0, l2), (0, l3), (0, l4), (0, l5), (0, l6), v7] [] M else nb_R nb_P 233 21 [(13, l0), (0, l1), (0, l2), (0, l3), (0, l4), (0, l5), (0, l6), v7] [] M :=
  nb_step (c := ((true && !decide ((l0 : Int) = 0)) && !decide ((nb_rd M l0 4 : Int) = 0))) rfl (by simp [h1, h2])
theorem q_rd_readPerson_14 (l0 l1 l2 l3 l4 l5 l6 : Int) (v7 : nb_V) (M : nb_M) (h1 : l0 ≠ 0) (h2 : (nb_rd M l0 4) ≠ 0) (h3 : (nb_rd M (nb_rd M l0 4) 4) ≠ 0) (h4 : (0 : Int) ≤ nb_rd M (nb_rd M l0 4) 13) (h5 : nb_rd M (nb_rd M l0 4) 13 < nb_ln M (nb_rd M (nb_rd M l0 4) 4)) (h6 : (nb_rd M (nb_rd M (nb_rd M l0 4) 4) (nb_rd M (nb_rd M l0 4) 13)) ≠ 0) :
    nb_R nb_P 233 14 [(13, l0), (0, l1), (0, l2), (0, l3), (0, l4), (0, l5), (0, l6), v7] [] M = nb_R nb_P 233 15 [(13, l0), (0, l1), (0, l2), (0, l3), (0, l4), (0, l5), (0, l6), (11, nb_rd M (nb_rd M (nb_rd M l0 4) 4) (nb_rd M (nb_rd M l0 4) 13))] [] (nb_wr M (nb_rd M (nb_rd M (nb_rd M l0 4) 4) (nb_rd M (nb_rd M l0 4) 13)) 2 l3) :=
  nb_step (c := ((((((true && !decide ((l0 : Int) = 0)) && !decide ((nb_rd M l0 4 : Int) = 0)) && !decide ((l0 : Int) = 0)) && !decide ((nb_rd M l0 4 : Int) = 0)) && (!decide ((nb_rd M (nb_rd M l0 4) 4 : Int) = 0) && (decide ((0 : Int) ≤ nb_rd M (nb_rd M l0 4) 13) && decide (nb_rd M (nb_rd M l0 4) 13 < nb_ln M (nb_rd M (nb_rd M l0 4) 4))))) && (!decide ((nb_rd M (nb_rd M (nb_rd M l0 4) 4) (nb_rd M (nb_rd M l0 4) 13) : Int) = 0) && (!false || (decide ((l3 : Int) = 0) || decide ((l3 : Int) = 1)))))) rfl (by simp [h1, h2, h3, h4, h5, h6])
theorem q_rd_readPerson_15 (l0 l1 l2 l4 l5 l6 l7 : Int) (v3 : nb_V) (M : nb_M) (h1 : l7 ≠ 0) :
    nb_R nb_P 233 15 [(13, l0), (0, l1), (0, l2), v3, (0, l4), (0, l5), (0, l6), (11, l7)] [] M = nb_R nb_P 233 16 [(13, l0), (0, l1), (0, l2), v3, (0, l4), (0, l5), (0, l6), (11, l7)] [] (nb_wr M l7 3 l4) :=
  nb_step (c := (true && (!decide ((l7 : Int) = 0) && (!false || (decide ((l4 : Int) = 0) || decide ((l4 : Int) = 1)))))) rfl (by simp [h1])
theorem q_rd_readPerson_16 (l0 l1 l2 l5 l6 l7 : Int) (v3 v4 : nb_V) (M : nb_M) (h1 : l7 ≠ 0) :
    nb_R nb_P 233 16 [(13, l0), (0, l1), (0, l2), v3, v4, (0, l5), (0, l6), (11, l7)] [] M = nb_R nb_P 233 17 [(13, l0), (0, l1), (0, l2), v3, v4, (0, l5), (0, l6), (11, l7)] [] (nb_wr M l7 4 l5) :=
  nb_step (c := (true && (!decide ((l7 : Int) = 0) && (!false || (decide ((l5 : Int) = 0) || decide ((l5 : Int) = 1)))))) rfl (by simp [h1])
theorem q_rd_readPerson_17 (l0 l1 l2 l6 l7 : Int) (v3 v4 v5 : nb_V) (M : nb_M) (h1 : l7 ≠ 0) :
    nb_R nb_P 233 17 [(13, l0), (0, l1), (0, l2), v3, v4, v5, (0, l6), (11, l7)] [] M = nb_R nb_P 233 18 [(13, l0), (0, l1), (0, l2), v3, v4, v5, (0, l6), (11, l7)] [] (nb_wr M l7 5 l6) :=
  nb_step (c := (true && (!decide ((l7 : Int) = 0) && (!false || (decide ((l6 : Int) = 0) || decide ((l6 : Int) = 1)))))) rfl (by simp [h1])
theorem q_rd_readPerson_18 (l0 l1 l2 l7 : Int) (v3 v4 v5 v6 : nb_V) (M : nb_M) (h1 : l7 ≠ 0) :
    nb_R nb_P 233 18 [(13, l0), (0, l1), (0, l2), v3, v4, v5, v6, (11, l7)] [] M = (nb_R nb_P 216 0 [(11, l7), (0, l1), (0, l2)] [] M).bind fun r => nb_R nb_P 233 19 [(13, l0), (0, l1), (0, l2), v3, v4, v5, v6, (11, l7)] (r.1 ++ []) r.2 :=
  nb_stepC (c := true) (L2 := [(13, l0), (0, l1), (0, l2), v3, v4, v5, v6, (11, l7)]) (S2 := [(0, l2), (0, l1), (11, l7)]) (M2 := M) (t := 19) (cl := 216) (vi := true) rfl rfl (nb_inv_eq (n := 3) rfl rfl rfl rfl rfl rfl (fun _ => h1) rfl)
theorem q_rd_readPerson_19 (l0 : Int) (v1 v2 v3 v4 v5 v6 v7 : nb_V) (M : nb_M) (h1 : l0 ≠ 0) (h2 : (nb_rd M l0 4) ≠ 0) (h3 : (nb_rd M (nb_rd M l0 4) 3) ≠ 0) (h4 : (0 : Int) ≤ nb_rd M (nb_rd M l0 4) 13) (h5 : nb_rd M (nb_rd M l0 4) 13 < nb_ln M (nb_rd M (nb_rd M l0 4) 3)) :
    nb_R nb_P 233 19 [(13, l0), v1, v2, v3, v4, v5, v6, v7] [] M = (nb_R nb_P 234 0 [(13, l0), (3, nb_rd M (nb_rd M (nb_rd M l0 4) 3) (nb_rd M (nb_rd M l0 4) 13)), (98, 0)] [] M).bind fun r => nb_R nb_P 233 20 [(13, l0), v1, v2, v3, v4, v5, v6, v7] (r.1 ++ []) r.2 :=
  nb_stepC (c := (((((true && !decide ((l0 : Int) = 0)) && !decide ((nb_rd M l0 4 : Int) = 0)) && !decide ((l0 : Int) = 0)) && !decide ((nb_rd M l0 4 : Int) = 0)) && (!decide ((nb_rd M (nb_rd M l0 4) 3 : Int) = 0) && (decide ((0 : Int) ≤ nb_rd M (nb_rd M l0 4) 13) && decide (nb_rd M (nb_rd M l0 4) 13 < nb_ln M (nb_rd M (nb_rd M l0 4) 3)))))) (L2 := [(13, l0), v1, v2, v3, v4, v5, v6, v7]) (S2 := [(3, nb_rd M (nb_rd M (nb_rd M l0 4) 3) (nb_rd M (nb_rd M l0 4) 13)), (13, l0)]) (M2 := M) (t := 20) (cl := 234) (vi := true) rfl (by simp [h1, h2, h3, h4, h5]) (nb_inv_eq (n := 2) rfl rfl rfl rfl rfl rfl (fun _ => h1) rfl)
theorem q_rd_readPerson_20 (l0 : Int) (v1 v2 v3 v4 v5 v6 v7 : nb_V) (M : nb_M) (h1 : l0 ≠ 0) (h2 : (nb_rd M l0 4) ≠ 0) :
    nb_R nb_P 233 20 [(13, l0), v1, v2, v3, v4, v5, v6, v7] [] M = nb_R nb_P 233 21 [(13, l0), v1, v2, v3, v4, v5, v6, v7] [] (nb_wr M (nb_rd M l0 4) 13 (nb_add (nb_rd M (nb_rd M l0 4) 13) 1)) :=
  nb_step (c := (((true && !decide ((l0 : Int) = 0)) && !decide ((nb_rd M l0 4 : Int) = 0)) && (!decide ((nb_rd M l0 4 : Int) = 0) && (!false || (decide ((nb_add (nb_rd M (nb_rd M l0 4) 13) 1 : Int) = 0) || decide ((nb_add (nb_rd M (nb_rd M l0 4) 13) 1 : Int) = 1)))))) rfl (by simp [h1, h2])
theorem q_rd_readPerson_21 (v0 v1 v2 v3 v4 v5 v6 v7 : nb_V) (M : nb_M) :
    nb_R nb_P 233 21 [v0, v1, v2, v3, v4, v5, v6, v7] [] M = some ([], M) :=
  nb_step (c := true) rfl rfl
theorem q_rd_readOrders_0 (l0 l1 : Int) (v2 : nb_V) (M : nb_M) (h1 : l0 ≠ 0) :
    nb_R nb_P 234 0 [(13, l0), (3, l1), v2] [] M = (nb_R nb_P 235 0 [(13, l0), (3, l1), (0, 1), (98, 0)] [] M).bind fun r => nb_R nb_P 234 1 [(13, l0), (3, l1), v2] (r.1 ++ []) r.2 :=
  nb_stepC (c := true) (L2 := [(13, l0), (3, l1), v2]) (S2 := [(0, 1), (3, l1), (13, l0)]) (M2 := M) (t := 1) (cl := 235) (vi := true) rfl rfl (nb_inv_eq (n := 3) rfl rfl rfl rfl rfl rfl (fun _ => h1) rfl)
theorem q_rd_readOrders_1 (l0 l1 : Int) (v2 : nb_V) (M : nb_M) :
    nb_R nb_P 234 1 [(13, l0), (3, l1), v2] [] M = nb_R nb_P 234 2 [(13, l0), (3, l1), (0, 1)] [] M :=
  nb_step (c := true) rfl rfl
theorem q_rd_readOrders_2 (l0 l1 l2 : Int) (M : nb_M) :
    nb_R nb_P 234 2 [(13, l0), (3, l1), (0, l2)] [] M = if 3 < l2 then nb_R nb_P 234 11 [(13, l0), (3, l1), (0, l2)] [] M else nb_R nb_P 234 3 [(13, l0), (3, l1), (0, l2)] [] M :=
  nb_step (c := true) rfl rfl
theorem q_rd_readOrders_3 (l0 l1 l2 : Int) (M : nb_M) (h1 : l0 ≠ 0) :
    nb_R nb_P 234 3 [(13, l0), (3, l1), (0, l2)] [] M = if nb_rd M l0 9 = 0 then nb_R nb_P 234 4 [(13, l0), (3, l1), (0, l2)] [] M else nb_R nb_P 234 11 [(13, l0), (3, l1), (0, l2)] [] M :=
  nb_step (c := (true && !decide ((l0 : Int) = 0))) rfl (by simp [h1])
theorem q_rd_readOrders_4 (l0 l1 l2 : Int) (M : nb_M) (h1 : l0 ≠ 0) :
    nb_R nb_P 234 4 [(13, l0), (3, l1), (0, l2)] [] M = if nb_rd M l0 7 = 5 then nb_R nb_P 234 5 [(13, l0), (3, l1), (0, l2)] [] M else nb_R nb_P 234 11 [(13, l0), (3, l1), (0, l2)] [] M :=
  nb_step (c := (true && !decide ((l0 : Int) = 0))) rfl (by simp [h1])
theorem q_rd_readOrders_5 (l0 l1 l2 : Int) (M : nb_M) (h1 : l0 ≠ 0) :
    nb_R nb_P 234 5 [(13, l0), (3, l1), (0, l2)] [] M = (nb_R nb_P 225 0 [(13, l0)] [] M).bind fun r => nb_R nb_P 234 6 [(13, l0), (3, l1), (0, l2)] (r.1 ++ []) r.2 :=
  nb_stepC (c := true) (L2 := [(13, l0), (3, l1), (0, l2)]) (S2 := [(13, l0)]) (M2 := M) (t := 6) (cl := 225) (vi := true) rfl rfl (nb_inv_eq (n := 1) rfl rfl rfl rfl rfl rfl (fun _ => h1) rfl)
theorem q_rd_readOrders_6 (l0 l1 l2 : Int) (M : nb_M) :
    nb_R nb_P 234 6 [(13, l0), (3, l1), (0, l2)] [] M = if l2 < 3 then nb_R nb_P 234 7 [(13, l0), (3, l1), (0, l2)] [(3, l1), (13, l0)] M else nb_R nb_P 234 8 [(13, l0), (3, l1), (0, l2)] [(3, l1), (13, l0)] M :=
  nb_step (c := true) rfl rfl
theorem q_rd_readOrders_7 (l0 l1 l2 s0 s1 : Int) (M : nb_M) :
    nb_R nb_P 234 7 [(13, l0), (3, l1), (0, l2)] [(3, s0), (13, s1)] M = nb_R nb_P 234 9 [(13, l0), (3, l1), (0, l2)] [(0, 1), (3, s0), (13, s1)] M :=
  nb_step (c := true) rfl rfl
theorem q_rd_readOrders_8 (l0 l1 l2 s0 s1 : Int) (M : nb_M) :
    nb_R nb_P 234 8 [(13, l0), (3, l1), (0, l2)] [(3, s0), (13, s1)] M = nb_R nb_P 234 9 [(13, l0), (3, l1), (0, l2)] [(0, 0), (3, s0), (13, s1)] M :=
  nb_step (c := true) rfl rfl
theorem q_rd_readOrders_9 (l0 l1 l2 s0 s1 s2 : Int) (M : nb_M) (h1 : s2 ≠ 0) :
    nb_R nb_P 234 9 [(13, l0), (3, l1), (0, l2)] [(0, s0), (3, s1), (13, s2)] M = (nb_R nb_P 235 0 [(13, s2), (3, s1), (0, s0), (98, 0)] [] M).bind fun r => nb_R nb_P 234 10 [(13, l0), (3, l1), (0, l2)] (r.1 ++ []) r.2 :=
  nb_stepC (c := true) (L2 := [(13, l0), (3, l1), (0, l2)]) (S2 := [(0, s0), (3, s1), (13, s2)]) (M2 := M) (t := 10) (cl := 235) (vi := true) rfl rfl (nb_inv_eq (n := 3) rfl rfl rfl rfl rfl rfl (fun _ => h1) rfl)
theorem q_rd_readOrders_10 (l0 l1 l2 : Int) (M : nb_M) :
    nb_R nb_P 234 10 [(13, l0), (3, l1), (0, l2)] [] M = nb_R nb_P 234 2 [(13, l0), (3, l1), (0, nb_add l2 1)] [] M :=
  nb_step (c := true) rfl rfl
theorem q_rd_readOrders_11 (v0 v1 v2 : nb_V) (M : nb_M) :
    nb_R nb_P 234 11 [v0, v1, v2] [] M = some ([], M) :=
  nb_step (c := true) rfl rfl
theorem q_rd_readOrder_0 (l0 l1 l2 : Int) (v3 : nb_V) (M : nb_M) (h1 : l0 ≠ 0) :
    nb_R nb_P 235 0 [(13, l0), (3, l1), (0, l2), v3] [] M = (nb_R nb_P 241 0 [(13, l0), (0, 0), (98, 0)] [] M).bind fun r => nb_R nb_P 235 1 [(13, l0), (3, l1), (0, l2), v3] (r.1 ++ []) r.2 :=
  nb_stepC (c := true) (L2 := [(13, l0), (3, l1), (0, l2), v3]) (S2 := [(0, 0), (13, l0)]) (M2 := M) (t := 1) (cl := 241) (vi := true) rfl rfl (nb_inv_eq (n := 2) rfl rfl rfl rfl rfl rfl (fun _ => h1) rfl)
theorem q_rd_readOrder_1 (l0 l1 l2 s0 : Int) (v3 : nb_V) (M : nb_M) :
    nb_R nb_P 235 1 [(13, l0), (3, l1), (0, l2), v3] [(0, s0)] M = if s0 < 0 then nb_R nb_P 235 3 [(13, l0), (3, l1), (0, l2), (0, s0)] [] M else nb_R nb_P 235 2 [(13, l0), (3, l1), (0, l2), (0, s0)] [] M :=
  nb_step (c := true) rfl rfl
theorem q_rd_readOrder_2 (l0 l1 l2 l3 : Int) (M : nb_M) :
    nb_R nb_P 235 2 [(13, l0), (3, l1), (0, l2), (0, l3)] [] M = if l3 < 5 then nb_R nb_P 235 4 [(13, l0), (3, l1), (0, l2), (0, l3)] [] M else nb_R nb_P 235 3 [(13, l0), (3, l1), (0, l2), (0, l3)] [] M :=
  nb_step (c := true) rfl rfl
theorem q_rd_readOrder_3 (v0 v1 v2 v3 : nb_V) (M : nb_M) :
    nb_R nb_P 235 3 [v0, v1, v2, v3] [] M = some ([], M) :=
  nb_step (c := true) rfl rfl
theorem q_rd_readOrder_4 (l0 l1 l2 l3 : Int) (M : nb_M) (h1 : l1 ≠ 0) (h2 : (0 : Int) ≤ l3) (h3 : l3 < nb_ln M l1) :
    nb_R nb_P 235 4 [(13, l0), (3, l1), (0, l2), (0, l3)] [] M = if 0 < nb_rd M l1 l3 then nb_R nb_P 235 5 [(13, l0), (3, l1), (0, l2), (0, l3)] [] M else nb_R nb_P 235 7 [(13, l0), (3, l1), (0, l2), (0, l3)] [] M :=
  nb_step (c := (true && (!decide ((l1 : Int) = 0) && (decide ((0 : Int) ≤ l3) && decide (l3 < nb_ln M l1))))) rfl (by simp [h1, h2, h3])
theorem q_rd_readOrder_5 (l0 l1 l3 : Int) (v2 : nb_V) (M : nb_M) (h1 : l0 ≠ 0) :
    nb_R nb_P 235 5 [(13, l0), (3, l1), v2, (0, l3)] [] M = (nb_R nb_P 226 0 [(13, l0), (0, 3)] [] M).bind fun r => nb_R nb_P 235 6 [(13, l0), (3, l1), v2, (0, l3)] (r.1 ++ []) r.2 :=
  nb_stepC (c := true) (L2 := [(13, l0), (3, l1), v2, (0, l3)]) (S2 := [(0, 3), (13, l0)]) (M2 := M) (t := 6) (cl := 226) (vi := true) rfl rfl (nb_inv_eq (n := 2) rfl rfl rfl rfl rfl rfl (fun _ => h1) rfl)
theorem q_rd_readOrder_6 (l0 l1 l3 : Int) (v2 : nb_V) (M : nb_M) :
    nb_R nb_P 235 6 [(13, l0), (3, l1), v2, (0, l3)] [] M = nb_R nb_P 235 9 [(13, l0), (3, l1), v2, (0, l3)] [] M :=
  nb_step (c := true) rfl rfl
theorem q_rd_readOrder_7 (l0 l1 l2 l3 : Int) (M : nb_M) :
    nb_R nb_P 235 7 [(13, l0), (3, l1), (0, l2), (0, l3)] [] M = if l2 = 0 then nb_R nb_P 235 8 [(13, l0), (3, l1), (0, l2), (0, l3)] [] M else nb_R nb_P 235 9 [(13, l0), (3, l1), (0, l2), (0, l3)] [] M :=
  nb_step (c := true) rfl rfl
theorem q_rd_readOrder_8 (l0 l1 l3 : Int) (v2 : nb_V) (M : nb_M) (h1 : l0 ≠ 0) :
    nb_R nb_P 235 8 [(13, l0), (3, l1), v2, (0, l3)] [] M = (nb_R nb_P 226 0 [(13, l0), (0, 5)] [] M).bind fun r => nb_R nb_P 235 9 [(13, l0), (3, l1), v2, (0, l3)] (r.1 ++ []) r.2 :=
  nb_stepC (c := true) (L2 := [(13, l0), (3, l1), v2, (0, l3)]) (S2 := [(0, 5), (13, l0)]) (M2 := M) (t := 9) (cl := 226) (vi := true) rfl rfl (nb_inv_eq (n := 2) rfl rfl rfl rfl rfl rfl (fun _ => h1) rfl)
theorem q_rd_readOrder_9 (l0 l1 l3 : Int) (v2 : nb_V) (M : nb_M) (h1 : l0 ≠ 0) :
    nb_R nb_P 235 9 [(13, l0), (3, l1), v2, (0, l3)] [] M = (nb_R nb_P 225 0 [(13, l0)] [] M).bind fun r => nb_R nb_P 235 10 [(13, l0), (3, l1), v2, (0, l3)] (r.1 ++ []) r.2 :=
  nb_stepC (c := true) (L2 := [(13, l0), (3, l1), v2, (0, l3)]) (S2 := [(13, l0)]) (M2 := M) (t := 10) (cl := 225) (vi := true) rfl rfl (nb_inv_eq (n := 1) rfl rfl rfl rfl rfl rfl (fun _ => h1) rfl)
theorem q_rd_readOrder_10 (l0 l1 l3 : Int) (v2 : nb_V) (M : nb_M) (h1 : l0 ≠ 0) :
    nb_R nb_P 235 10 [(13, l0), (3, l1), v2, (0, l3)] [] M = (nb_R nb_P 244 0 [(13, l0), (0, 1), (0, 9), (98, 0)] [] M).bind fun r => nb_R nb_P 235 11 [(13, l0), (3, l1), v2, (0, l3)] (r.1 ++ [(0, l3), (3, l1)]) r.2 :=
  nb_stepC (c := true) (L2 := [(13, l0), (3, l1), v2, (0, l3)]) (S2 := [(0, 9), (0, 1), (13, l0), (0, l3), (3, l1)]) (M2 := M) (t := 11) (cl := 244) (vi := true) rfl rfl (nb_inv_eq (n := 3) rfl rfl rfl rfl rfl rfl (fun _ => h1) rfl)
theorem q_rd_readOrder_11 (s0 s1 s2 : Int) (v0 v1 v2 v3 : nb_V) (M : nb_M) (h1 : s2 ≠ 0) (h2 : s2 ≠ 1) (h3 : (0 : Int) ≤ s1) (h4 : s1 < nb_ln M s2) :
    nb_R nb_P 235 11 [v0, v1, v2, v3] [(0, s0), (0, s1), (3, s2)] M = nb_R nb_P 235 12 [v0, v1, v2, v3] [] (nb_wr M s2 s1 s0) :=
  nb_step (c := (true && (!decide ((s2 : Int) = 0) && (!decide ((s2 : Int) = 1) && (decide ((0 : Int) ≤ s1) && decide (s1 < nb_ln M s2)))))) rfl (by simp [h1, h2, h3, h4])
theorem q_rd_readOrder_12 (v0 v1 v2 v3 : nb_V) (M : nb_M) :
    nb_R nb_P 235 12 [v0, v1, v2, v3] [] M = some ([], M) :=
  nb_step (c := true) rfl rfl
theorem q_rd_readShelf_0 (l0 : Int) (v1 : nb_V) (M : nb_M) (h1 : l0 ≠ 0) :
    nb_R nb_P 236 0 [(13, l0), v1] [] M = (nb_R nb_P 225 0 [(13, l0)] [] M).bind fun r => nb_R nb_P 236 1 [(13, l0), v1] (r.1 ++ []) r.2 :=
  nb_stepC (c := true) (L2 := [(13, l0), v1]) (S2 := [(13, l0)]) (M2 := M) (t := 1) (cl := 225) (vi := true) rfl rfl (nb_inv_eq (n := 1) rfl rfl rfl rfl rfl rfl (fun _ => h1) rfl)
theorem q_rd_readShelf_1 (l0 : Int) (v1 : nb_V) (M : nb_M) (h1 : l0 ≠ 0) :
    nb_R nb_P 236 1 [(13, l0), v1] [] M = (nb_R nb_P 241 0 [(13, l0), (0, 2), (98, 0)] [] M).bind fun r => nb_R nb_P 236 2 [(13, l0), v1] (r.1 ++ []) r.2 :=
  nb_stepC (c := true) (L2 := [(13, l0), v1]) (S2 := [(0, 2), (13, l0)]) (M2 := M) (t := 2) (cl := 241) (vi := true) rfl rfl (nb_inv_eq (n := 2) rfl rfl rfl rfl rfl rfl (fun _ => h1) rfl)
theorem q_rd_readShelf_2 (l0 s0 : Int) (v1 : nb_V) (M : nb_M) :
    nb_R nb_P 236 2 [(13, l0), v1] [(0, s0)] M = if s0 < 0 then nb_R nb_P 236 4 [(13, l0), (0, s0)] [] M else nb_R nb_P 236 3 [(13, l0), (0, s0)] [] M :=
  nb_step (c := true) rfl rfl
theorem q_rd_readShelf_3 (l0 l1 : Int) (M : nb_M) :
    nb_R nb_P 236 3 [(13, l0), (0, l1)] [] M = if l1 < 10 then nb_R nb_P 236 5 [(13, l0), (0, l1)] [] M else nb_R nb_P 236 4 [(13, l0), (0, l1)] [] M :=
  nb_step (c := true) rfl rfl
theorem q_rd_readShelf_4 (v0 v1 : nb_V) (M : nb_M) :
    nb_R nb_P 236 4 [v0, v1] [] M = some ([], M) :=
  nb_step (c := true) rfl rfl
theorem q_rd_readShelf_5 (l0 l1 : Int) (M : nb_M) (h1 : l0 ≠ 0) (h2 : (nb_rd M l0 4) ≠ 0) (h3 : (nb_rd M (nb_rd M l0 4) 4) ≠ 0) (h4 : (0 : Int) ≤ l1) (h5 : l1 < nb_ln M (nb_rd M (nb_rd M l0 4) 4)) (h6 : (nb_rd M (nb_rd M (nb_rd M l0 4) 4) l1) ≠ 0) :
    nb_R nb_P 236 5 [(13, l0), (0, l1)] [] M = if nb_rd M (nb_rd M (nb_rd M (nb_rd M l0 4) 4) l1) 6 = (-2) then nb_R nb_P 236 7 [(13, l0), (0, l1)] [] M else nb_R nb_P 236 6 [(13, l0), (0, l1)] [] M :=
  nb_step (c := ((((true && !decide ((l0 : Int) = 0)) && !decide ((nb_rd M l0 4 : Int) = 0)) && (!decide ((nb_rd M (nb_rd M l0 4) 4 : Int) = 0) && (decide ((0 : Int) ≤ l1) && decide (l1 < nb_ln M (nb_rd M (nb_rd M l0 4) 4))))) && !decide ((nb_rd M (nb_rd M (nb_rd M l0 4) 4) l1 : Int) = 0))) rfl (by simp [h1, h2, h3, h4, h5, h6])
theorem q_rd_readShelf_6 (l0 l1 : Int) (M : nb_M) (h1 : l0 ≠ 0) :
    nb_R nb_P 236 6 [(13, l0), (0, l1)] [] M = (nb_R nb_P 226 0 [(13, l0), (0, 3)] [] M).bind fun r => nb_R nb_P 236 7 [(13, l0), (0, l1)] (r.1 ++ []) r.2 :=
  nb_stepC (c := true) (L2 := [(13, l0), (0, l1)]) (S2 := [(0, 3), (13, l0)]) (M2 := M) (t := 7) (cl := 226) (vi := true) rfl rfl (nb_inv_eq (n := 2) rfl rfl rfl rfl rfl rfl (fun _ => h1) rfl)
theorem q_rd_readShelf_7 (l0 l1 : Int) (M : nb_M) (h1 : l0 ≠ 0) :
    nb_R nb_P 236 7 [(13, l0), (0, l1)] [] M = (nb_R nb_P 225 0 [(13, l0)] [] M).bind fun r => nb_R nb_P 236 8 [(13, l0), (0, l1)] (r.1 ++ []) r.2 :=
  nb_stepC (c := true) (L2 := [(13, l0), (0, l1)]) (S2 := [(13, l0)]) (M2 := M) (t := 8) (cl := 225) (vi := true) rfl rfl (nb_inv_eq (n := 1) rfl rfl rfl rfl rfl rfl (fun _ => h1) rfl)
theorem q_rd_readShelf_8 (l0 l1 : Int) (M : nb_M) (h1 : l0 ≠ 0) (h2 : (nb_rd M l0 4) ≠ 0) (h3 : (nb_rd M (nb_rd M l0 4) 4) ≠ 0) (h4 : (0 : Int) ≤ l1) (h5 : l1 < nb_ln M (nb_rd M (nb_rd M l0 4) 4)) :
    nb_R nb_P 236 8 [(13, l0), (0, l1)] [] M = (nb_R nb_P 243 0 [(13, l0), (2, 50), (0, 0), (0, nb_rd M (nb_rd M l0 4) 10)] [] M).bind fun r => nb_R nb_P 236 9 [(13, l0), (0, l1)] (r.1 ++ [(11, nb_rd M (nb_rd M (nb_rd M l0 4) 4) l1)]) r.2 :=
  nb_stepC (c := (((((true && !decide ((l0 : Int) = 0)) && !decide ((nb_rd M l0 4 : Int) = 0)) && (!decide ((nb_rd M (nb_rd M l0 4) 4 : Int) = 0) && (decide ((0 : Int) ≤ l1) && decide (l1 < nb_ln M (nb_rd M (nb_rd M l0 4) 4))))) && !decide ((l0 : Int) = 0)) && !decide ((nb_rd M l0 4 : Int) = 0))) (L2 := [(13, l0), (0, l1)]) (S2 := [(0, nb_rd M (nb_rd M l0 4) 10), (0, 0), (2, 50), (13, l0), (11, nb_rd M (nb_rd M (nb_rd M l0 4) 4) l1)]) (M2 := M) (t := 9) (cl := 243) (vi := true) rfl (by simp [h1, h2, h3, h4, h5]) (nb_inv_eq (n := 4) rfl rfl rfl rfl rfl rfl (fun _ => h1) rfl)
theorem q_rd_readShelf_9 (l0 s0 s1 : Int) (v1 : nb_V) (M : nb_M) (h1 : s1 ≠ 0) :
    nb_R nb_P 236 9 [(13, l0), v1] [(0, s0), (11, s1)] M = nb_R nb_P 236 10 [(13, l0), v1] [] (nb_wr M s1 6 s0) :=
  nb_step (c := (true && (!decide ((s1 : Int) = 0) && (!false || (decide ((s0 : Int) = 0) || decide ((s0 : Int) = 1)))))) rfl (by simp [h1])
theorem q_rd_readShelf_10 (l0 : Int) (v1 : nb_V) (M : nb_M) (h1 : l0 ≠ 0) (h2 : (nb_rd M l0 4) ≠ 0) :
    nb_R nb_P 236 10 [(13, l0), v1] [] M = nb_R nb_P 236 11 [(13, l0), v1] [] (nb_wr M (nb_rd M l0 4) 14 (nb_add (nb_rd M (nb_rd M l0 4) 14) 1)) :=
  nb_step (c := (((true && !decide ((l0 : Int) = 0)) && !decide ((nb_rd M l0 4 : Int) = 0)) && (!decide ((nb_rd M l0 4 : Int) = 0) && (!false || (decide ((nb_add (nb_rd M (nb_rd M l0 4) 14) 1 : Int) = 0) || decide ((nb_add (nb_rd M (nb_rd M l0 4) 14) 1 : Int) = 1)))))) rfl (by simp [h1, h2])
theorem q_rd_readShelf_11 (v0 v1 : nb_V) (M : nb_M) :
    nb_R nb_P 236 11 [v0, v1] [] M = some ([], M) :=
  nb_step (c := true) rfl rfl
theorem q_rd_readTelling_0 (l0 : Int) (v1 v2 v3 : nb_V) (M : nb_M) (h1 : l0 ≠ 0) (h2 : (nb_rd M l0 4) ≠ 0) :
    nb_R nb_P 237 0 [(13, l0), v1, v2, v3] [] M = (nb_R nb_P 238 0 [(13, l0), (0, nb_rd M (nb_rd M l0 4) 15), (0, 8)] [] M).bind fun r => nb_R nb_P 237 1 [(13, l0), v1, v2, v3] (r.1 ++ []) r.2 :=
  nb_stepC (c := ((true && !decide ((l0 : Int) = 0)) && !decide ((nb_rd M l0 4 : Int) = 0))) (L2 := [(13, l0), v1, v2, v3]) (S2 := [(0, 8), (0, nb_rd M (nb_rd M l0 4) 15), (13, l0)]) (M2 := M) (t := 1) (cl := 238) (vi := true) rfl (by simp [h1, h2]) (nb_inv_eq (n := 3) rfl rfl rfl rfl rfl rfl (fun _ => h1) rfl)
theorem q_rd_readTelling_1 (l0 : Int) (v1 v2 v3 : nb_V) (M : nb_M) (h1 : l0 ≠ 0) :
    nb_R nb_P 237 1 [(13, l0), v1, v2, v3] [] M = (nb_R nb_P 241 0 [(13, l0), (0, 2), (98, 0)] [] M).bind fun r => nb_R nb_P 237 2 [(13, l0), v1, v2, v3] (r.1 ++ []) r.2 :=
  nb_stepC (c := true) (L2 := [(13, l0), v1, v2, v3]) (S2 := [(0, 2), (13, l0)]) (M2 := M) (t := 2) (cl := 241) (vi := true) rfl rfl (nb_inv_eq (n := 2) rfl rfl rfl rfl rfl rfl (fun _ => h1) rfl)
theorem q_rd_readTelling_2 (l0 s0 : Int) (v1 v2 v3 : nb_V) (M : nb_M) (h1 : l0 ≠ 0) :
    nb_R nb_P 237 2 [(13, l0), v1, v2, v3] [(0, s0)] M = (nb_R nb_P 225 0 [(13, l0)] [] M).bind fun r => nb_R nb_P 237 3 [(13, l0), (0, s0), v2, v3] (r.1 ++ []) r.2 :=
  nb_stepC (c := true) (L2 := [(13, l0), (0, s0), v2, v3]) (S2 := [(13, l0)]) (M2 := M) (t := 3) (cl := 225) (vi := true) rfl rfl (nb_inv_eq (n := 1) rfl rfl rfl rfl rfl rfl (fun _ => h1) rfl)
theorem q_rd_readTelling_3 (l0 l1 : Int) (v2 v3 : nb_V) (M : nb_M) (h1 : l0 ≠ 0) :
    nb_R nb_P 237 3 [(13, l0), (0, l1), v2, v3] [] M = (nb_R nb_P 241 0 [(13, l0), (0, 2), (98, 0)] [] M).bind fun r => nb_R nb_P 237 4 [(13, l0), (0, l1), v2, v3] (r.1 ++ []) r.2 :=
  nb_stepC (c := true) (L2 := [(13, l0), (0, l1), v2, v3]) (S2 := [(0, 2), (13, l0)]) (M2 := M) (t := 4) (cl := 241) (vi := true) rfl rfl (nb_inv_eq (n := 2) rfl rfl rfl rfl rfl rfl (fun _ => h1) rfl)
theorem q_rd_readTelling_4 (l0 l1 s0 : Int) (v2 v3 : nb_V) (M : nb_M) (h1 : l0 ≠ 0) :
    nb_R nb_P 237 4 [(13, l0), (0, l1), v2, v3] [(0, s0)] M = (nb_R nb_P 225 0 [(13, l0)] [] M).bind fun r => nb_R nb_P 237 5 [(13, l0), (0, l1), (0, s0), v3] (r.1 ++ []) r.2 :=
  nb_stepC (c := true) (L2 := [(13, l0), (0, l1), (0, s0), v3]) (S2 := [(13, l0)]) (M2 := M) (t := 5) (cl := 225) (vi := true) rfl rfl (nb_inv_eq (n := 1) rfl rfl rfl rfl rfl rfl (fun _ => h1) rfl)
theorem q_rd_readTelling_5 (l0 l1 l2 : Int) (v3 : nb_V) (M : nb_M) (h1 : l0 ≠ 0) :
    nb_R nb_P 237 5 [(13, l0), (0, l1), (0, l2), v3] [] M = (nb_R nb_P 242 0 [(13, l0), (2, 51)] [] M).bind fun r => nb_R nb_P 237 6 [(13, l0), (0, l1), (0, l2), v3] (r.1 ++ []) r.2 :=
  nb_stepC (c := true) (L2 := [(13, l0), (0, l1), (0, l2), v3]) (S2 := [(2, 51), (13, l0)]) (M2 := M) (t := 6) (cl := 242) (vi := true) rfl rfl (nb_inv_eq (n := 2) rfl rfl rfl rfl rfl rfl (fun _ => h1) rfl)
theorem q_rd_readTelling_6 (l0 l1 l2 : Int) (v3 : nb_V) (M : nb_M) (h1 : l0 ≠ 0) :
    nb_R nb_P 237 6 [(13, l0), (0, l1), (0, l2), v3] [] M = (nb_R nb_P 241 0 [(13, l0), (0, 2), (98, 0)] [] M).bind fun r => nb_R nb_P 237 7 [(13, l0), (0, l1), (0, l2), v3] (r.1 ++ []) r.2 :=
  nb_stepC (c := true) (L2 := [(13, l0), (0, l1), (0, l2), v3]) (S2 := [(0, 2), (13, l0)]) (M2 := M) (t := 7) (cl := 241) (vi := true) rfl rfl (nb_inv_eq (n := 2) rfl rfl rfl rfl rfl rfl (fun _ => h1) rfl)
theorem q_rd_readTelling_7 (l0 l1 l2 s0 : Int) (v3 : nb_V) (M : nb_M) :
    nb_R nb_P 237 7 [(13, l0), (0, l1), (0, l2), v3] [(0, s0)] M = if s0 = l2 then nb_R nb_P 237 8 [(13, l0), (0, l1), (0, l2), (0, s0)] [] M else nb_R nb_P 237 9 [(13, l0), (0, l1), (0, l2), (0, s0)] [] M :=
  nb_step (c := true) rfl rfl
theorem q_rd_readTelling_8 (l0 l1 l2 l3 : Int) (M : nb_M) (h1 : l0 ≠ 0) :
    nb_R nb_P 237 8 [(13, l0), (0, l1), (0, l2), (0, l3)] [] M = (nb_R nb_P 226 0 [(13, l0), (0, 3)] [] M).bind fun r => nb_R nb_P 237 9 [(13, l0), (0, l1), (0, l2), (0, l3)] (r.1 ++ []) r.2 :=
  nb_stepC (c := true) (L2 := [(13, l0), (0, l1), (0, l2), (0, l3)]) (S2 := [(0, 3), (13, l0)]) (M2 := M) (t := 9) (cl := 226) (vi := true) rfl rfl (nb_inv_eq (n := 2) rfl rfl rfl rfl rfl rfl (fun _ => h1) rfl)
theorem q_rd_readTelling_9 (l0 l1 l2 l3 : Int) (M : nb_M) (h1 : l0 ≠ 0) :
    nb_R nb_P 237 9 [(13, l0), (0, l1), (0, l2), (0, l3)] [] M = (nb_R nb_P 225 0 [(13, l0)] [] M).bind fun r => nb_R nb_P 237 10 [(13, l0), (0, l1), (0, l2), (0, l3)] (r.1 ++ []) r.2 :=
  nb_stepC (c := true) (L2 := [(13, l0), (0, l1), (0, l2), (0, l3)]) (S2 := [(13, l0)]) (M2 := M) (t := 10) (cl := 225) (vi := true) rfl rfl (nb_inv_eq (n := 1) rfl rfl rfl rfl rfl rfl (fun _ => h1) rfl)
theorem q_rd_readTelling_10 (l0 l1 l2 l3 : Int) (M : nb_M) (h1 : l0 ≠ 0) :
    nb_R nb_P 237 10 [(13, l0), (0, l1), (0, l2), (0, l3)] [] M = if nb_rd M l0 9 = 0 then nb_R nb_P 237 11 [(13, l0), (0, l1), (0, l2), (0, l3)] [] M else nb_R nb_P 237 16 [(13, l0), (0, l1), (0, l2), (0, l3)] [] M :=
  nb_step (c := (true && !decide ((l0 : Int) = 0))) rfl (by simp [h1])
theorem q_rd_readTelling_11 (l0 l1 l2 l3 : Int) (M : nb_M) (h1 : l0 ≠ 0) (h2 : (nb_rd M l0 4) ≠ 0) :
    nb_R nb_P 237 11 [(13, l0), (0, l1), (0, l2), (0, l3)] [] M = if nb_rd M (nb_rd M l0 4) 15 < 8 then nb_R nb_P 237 12 [(13, l0), (0, l1), (0, l2), (0, l3)] [] M else nb_R nb_P 237 16 [(13, l0), (0, l1), (0, l2), (0, l3)] [] M :=
  nb_step (c := ((true && !decide ((l0 : Int) = 0)) && !decide ((nb_rd M l0 4 : Int) = 0))) rfl (by simp [h1, h2])
theorem q_rd_readTelling_12 (l0 l1 l2 l3 : Int) (M : nb_M) (h1 : l0 ≠ 0) (h2 : (nb_rd M l0 4) ≠ 0) (h3 : (nb_rd M (nb_rd M l0 4) 6) ≠ 0) (h4 : (nb_rd M (nb_rd M l0 4) 6) ≠ 1) (h5 : (0 : Int) ≤ nb_rd M (nb_rd M l0 4) 15) (h6 : nb_rd M (nb_rd M l0 4) 15 < nb_ln M (nb_rd M (nb_rd M l0 4) 6)) :
    nb_R nb_P 237 12 [(13, l0), (0, l1), (0, l2), (0, l3)] [] M = nb_R nb_P 237 13 [(13, l0), (0, l1), (0, l2), (0, l3)] [] (nb_wr M (nb_rd M (nb_rd M l0 4) 6) (nb_rd M (nb_rd M l0 4) 15) l1) :=
  nb_step (c := (((((true && !decide ((l0 : Int) = 0)) && !decide ((nb_rd M l0 4 : Int) = 0)) && !decide ((l0 : Int) = 0)) && !decide ((nb_rd M l0 4 : Int) = 0)) && (!decide ((nb_rd M (nb_rd M l0 4) 6 : Int) = 0) && (!decide ((nb_rd M (nb_rd M l0 4) 6 : Int) = 1) && (decide ((0 : Int) ≤ nb_rd M (nb_rd M l0 4) 15) && decide (nb_rd M (nb_rd M l0 4) 15 < nb_ln M (nb_rd M (nb_rd M l0 4) 6))))))) rfl (by simp [h1, h2, h3, h4, h5, h6])
theorem q_rd_readTelling_13 (l0 l2 l3 : Int) (v1 : nb_V) (M : nb_M) (h1 : l0 ≠ 0) (h2 : (nb_rd M l0 4) ≠ 0) (h3 : (nb_rd M (nb_rd M l0 4) 7) ≠ 0) (h4 : (nb_rd M (nb_rd M l0 4) 7) ≠ 1) (h5 : (0 : Int) ≤ nb_rd M (nb_rd M l0 4) 15) (h6 : nb_rd M (nb_rd M l0 4) 15 < nb_ln M (nb_rd M (nb_rd M l0 4) 7)) :
    nb_R nb_P 237 13 [(13, l0), v1, (0, l2), (0, l3)] [] M = nb_R nb_P 237 14 [(13, l0), v1, (0, l2), (0, l3)] [] (nb_wr M (nb_rd M (nb_rd M l0 4) 7) (nb_rd M (nb_rd M l0 4) 15) l2) :=
  nb_step (c := (((((true && !decide ((l0 : Int) = 0)) && !decide ((nb_rd M l0 4 : Int) = 0)) && !decide ((l0 : Int) = 0)) && !decide ((nb_rd M l0 4 : Int) = 0)) && (!decide ((nb_rd M (nb_rd M l0 4) 7 : Int) = 0) && (!decide ((nb_rd M (nb_rd M l0 4) 7 : Int) = 1) && (decide ((0 : Int) ≤ nb_rd M (nb_rd M l0 4) 15) && decide (nb_rd M (nb_rd M l0 4) 15 < nb_ln M (nb_rd M (nb_rd M l0 4) 7))))))) rfl (by simp [h1, h2, h3, h4, h5, h6])
theorem q_rd_readTelling_14 (l0 l3 : Int) (v1 v2 : nb_V) (M : nb_M) (h1 : l0 ≠ 0) (h2 : (nb_rd M l0 4) ≠ 0) (h3 : (nb_rd M (nb_rd M l0 4) 8) ≠ 0) (h4 : (nb_rd M (nb_rd M l0 4) 8) ≠ 1) (h5 : (0 : Int) ≤ nb_rd M (nb_rd M l0 4) 15) (h6 : nb_rd M (nb_rd M l0 4) 15 < nb_ln M (nb_rd M (nb_rd M l0 4) 8)) :
    nb_R nb_P 237 14 [(13, l0), v1, v2, (0, l3)] [] M = nb_R nb_P 237 15 [(13, l0), v1, v2, (0, l3)] [] (nb_wr M (nb_rd M (nb_rd M l0 4) 8) (nb_rd M (nb_rd M l0 4) 15) l3) :=
  nb_step (c := (((((true && !decide ((l0 : Int) = 0)) && !decide ((nb_rd M l0 4 : Int) = 0)) && !decide ((l0 : Int) = 0)) && !decide ((nb_rd M l0 4 : Int) = 0)) && (!decide ((nb_rd M (nb_rd M l0 4) 8 : Int) = 0) && (!decide ((nb_rd M (nb_rd M l0 4) 8 : Int) = 1) && (decide ((0 : Int) ≤ nb_rd M (nb_rd M l0 4) 15) && decide (nb_rd M (nb_rd M l0 4) 15 < nb_ln M (nb_rd M (nb_rd M l0 4) 8))))))) rfl (by simp [h1, h2, h3, h4, h5, h6])
theorem q_rd_readTelling_15 (l0 : Int) (v1 v2 v3 : nb_V) (M : nb_M) (h1 : l0 ≠ 0) (h2 : (nb_rd M l0 4) ≠ 0) :
    nb_R nb_P 237 15 [(13, l0), v1, v2, v3] [] M = nb_R nb_P 237 16 [(13, l0), v1, v2, v3] [] (nb_wr M (nb_rd M l0 4) 15 (nb_add (nb_rd M (nb_rd M l0 4) 15) 1)) :=
  nb_step (c := (((true && !decide ((l0 : Int) = 0)) && !decide ((nb_rd M l0 4 : Int) = 0)) && (!decide ((nb_rd M l0 4 : Int) = 0) && (!false || (decide ((nb_add (nb_rd M (nb_rd M l0 4) 15) 1 : Int) = 0) || decide ((nb_add (nb_rd M (nb_rd M l0 4) 15) 1 : Int) = 1)))))) rfl (by simp [h1, h2])
theorem q_rd_readTelling_16 (v0 v1 v2 v3 : nb_V) (M : nb_M) :
    nb_R nb_P 237 16 [v0, v1, v2, v3] [] M = some ([], M) :=
  nb_step (c := true) rfl rfl
theorem q_rd_beginLine_0 (l0 l1 l2 : Int) (M : nb_M) :
    nb_R nb_P 238 0 [(13, l0), (0, l1), (0, l2)] [] M = if l1 < l2 then nb_R nb_P 238 2 [(13, l0), (0, l1), (0, l2)] [] M else nb_R nb_P 238 1 [(13, l0), (0, l1), (0, l2)] [] M :=
  nb_step (c := true) rfl rfl
theorem q_rd_beginLine_1 (l0 : Int) (v1 v2 : nb_V) (M : nb_M) (h1 : l0 ≠ 0) :
    nb_R nb_P 238 1 [(13, l0), v1, v2] [] M = (nb_R nb_P 226 0 [(13, l0), (0, 5)] [] M).bind fun r => nb_R nb_P 238 2 [(13, l0), v1, v2] (r.1 ++ []) r.2 :=
  nb_stepC (c := true) (L2 := [(13, l0), v1, v2]) (S2 := [(0, 5), (13, l0)]) (M2 := M) (t := 2) (cl := 226) (vi := true) rfl rfl (nb_inv_eq (n := 2) rfl rfl rfl rfl rfl rfl (fun _ => h1) rfl)
theorem q_rd_beginLine_2 (l0 : Int) (v1 v2 : nb_V) (M : nb_M) (h1 : l0 ≠ 0) :
    nb_R nb_P 238 2 [(13, l0), v1, v2] [] M = (nb_R nb_P 225 0 [(13, l0)] [] M).bind fun r => nb_R nb_P 238 3 [(13, l0), v1, v2] (r.1 ++ []) r.2 :=
  nb_stepC (c := true) (L2 := [(13, l0), v1, v2]) (S2 := [(13, l0)]) (M2 := M) (t := 3) (cl := 225) (vi := true) rfl rfl (nb_inv_eq (n := 1) rfl rfl rfl rfl rfl rfl (fun _ => h1) rfl)
theorem q_rd_beginLine_3 (v0 v1 v2 : nb_V) (M : nb_M) :
    nb_R nb_P 238 3 [v0, v1, v2] [] M = some ([], M) :=
  nb_step (c := true) rfl rfl
theorem q_rd_tellName_0 (l0 l1 l2 : Int) (M : nb_M) (h1 : l0 ≠ 0) :
    nb_R nb_P 239 0 [(13, l0), (0, l1), (0, l2)] [] M = if nb_rd M l0 7 = 1 then nb_R nb_P 239 3 [(13, l0), (0, l1), (0, l2)] [] M else nb_R nb_P 239 1 [(13, l0), (0, l1), (0, l2)] [] M :=
  nb_step (c := (true && !decide ((l0 : Int) = 0))) rfl (by simp [h1])
theorem q_rd_tellName_1 (l0 : Int) (v1 v2 : nb_V) (M : nb_M) (h1 : l0 ≠ 0) :
    nb_R nb_P 239 1 [(13, l0), v1, v2] [] M = (nb_R nb_P 226 0 [(13, l0), (0, 1)] [] M).bind fun r => nb_R nb_P 239 2 [(13, l0), v1, v2] (r.1 ++ []) r.2 :=
  nb_stepC (c := true) (L2 := [(13, l0), v1, v2]) (S2 := [(0, 1), (13, l0)]) (M2 := M) (t := 2) (cl := 226) (vi := true) rfl rfl (nb_inv_eq (n := 2) rfl rfl rfl rfl rfl rfl (fun _ => h1) rfl)
theorem q_rd_tellName_2 (l0 : Int) (v1 v2 : nb_V) (M : nb_M) :
    nb_R nb_P 239 2 [(13, l0), v1, v2] [] M = nb_R nb_P 239 13 [(13, l0), v1, v2] [] M :=
  nb_step (c := true) rfl rfl
theorem q_rd_tellName_3 (l0 l1 l2 : Int) (M : nb_M) (h1 : l0 ≠ 0) :
    nb_R nb_P 239 3 [(13, l0), (0, l1), (0, l2)] [] M = (nb_R nb_P 240 0 [(13, l0), (98, 0)] [] M).bind fun r => nb_R nb_P 239 4 [(13, l0), (0, l1), (0, l2)] (r.1 ++ []) r.2 :=
  nb_stepC (c := true) (L2 := [(13, l0), (0, l1), (0, l2)]) (S2 := [(13, l0)]) (M2 := M) (t := 4) (cl := 240) (vi := true) rfl rfl (nb_inv_eq (n := 1) rfl rfl rfl rfl rfl rfl (fun _ => h1) rfl)
theorem q_rd_tellName_4 (l0 l1 l2 s0 : Int) (M : nb_M) :
    nb_R nb_P 239 4 [(13, l0), (0, l1), (0, l2)] [(0, s0)] M = if s0 < 0 then nb_R nb_P 239 7 [(13, l0), (0, l1), (0, l2)] [] M else nb_R nb_P 239 5 [(13, l0), (0, l1), (0, l2)] [] M :=
  nb_step (c := true) rfl rfl
theorem q_rd_tellName_5 (l0 : Int) (v1 v2 : nb_V) (M : nb_M) (h1 : l0 ≠ 0) :
    nb_R nb_P 239 5 [(13, l0), v1, v2] [] M = (nb_R nb_P 226 0 [(13, l0), (0, 3)] [] M).bind fun r => nb_R nb_P 239 6 [(13, l0), v1, v2] (r.1 ++ []) r.2 :=
  nb_stepC (c := true) (L2 := [(13, l0), v1, v2]) (S2 := [(0, 3), (13, l0)]) (M2 := M) (t := 6) (cl := 226) (vi := true) rfl rfl (nb_inv_eq (n := 2) rfl rfl rfl rfl rfl rfl (fun _ => h1) rfl)
theorem q_rd_tellName_6 (l0 : Int) (v1 v2 : nb_V) (M : nb_M) :
    nb_R nb_P 239 6 [(13, l0), v1, v2] [] M = nb_R nb_P 239 13 [(13, l0), v1, v2] [] M :=
  nb_step (c := true) rfl rfl
theorem q_rd_tellName_7 (l0 l1 l2 : Int) (M : nb_M) (h1 : l0 ≠ 0) :
    nb_R nb_P 239 7 [(13, l0), (0, l1), (0, l2)] [] M = if nb_rd M l0 9 = 0 then nb_R nb_P 239 8 [(13, l0), (0, l1), (0, l2)] [] M else nb_R nb_P 239 13 [(13, l0), (0, l1), (0, l2)] [] M :=
  nb_step (c := (true && !decide ((l0 : Int) = 0))) rfl (by simp [h1])
theorem q_rd_tellName_8 (l0 l1 l2 : Int) (M : nb_M) (h1 : l0 ≠ 0) :
    nb_R nb_P 239 8 [(13, l0), (0, l1), (0, l2)] [] M = if nb_rd M l0 5 < 18 then nb_R nb_P 239 9 [(13, l0), (0, l1), (0, l2)] [] M else nb_R nb_P 239 13 [(13, l0), (0, l1), (0, l2)] [] M :=
  nb_step (c := (true && !decide ((l0 : Int) = 0))) rfl (by simp [h1])
theorem q_rd_tellName_9 (l0 l1 l2 : Int) (M : nb_M) (h1 : l0 ≠ 0) (h2 : (nb_rd M l0 1) ≠ 0) (h3 : (nb_rd M l0 1) ≠ 1) (h4 : (0 : Int) ≤ nb_rd M l0 5) (h5 : nb_rd M l0 5 < nb_ln M (nb_rd M l0 1)) :
    nb_R nb_P 239 9 [(13, l0), (0, l1), (0, l2)] [] M = nb_R nb_P 239 10 [(13, l0), (0, l1), (0, l2)] [] (nb_wr M (nb_rd M l0 1) (nb_rd M l0 5) (nb_rd M l0 8)) :=
  nb_step (c := ((((true && !decide ((l0 : Int) = 0)) && !decide ((l0 : Int) = 0)) && !decide ((l0 : Int) = 0)) && (!decide ((nb_rd M l0 1 : Int) = 0) && (!decide ((nb_rd M l0 1 : Int) = 1) && (decide ((0 : Int) ≤ nb_rd M l0 5) && decide (nb_rd M l0 5 < nb_ln M (nb_rd M l0 1))))))) rfl (by simp [h1, h2, h3, h4, h5])
theorem q_rd_tellName_10 (l0 l1 l2 : Int) (M : nb_M) (h1 : l0 ≠ 0) (h2 : (nb_rd M l0 2) ≠ 0) (h3 : (nb_rd M l0 2) ≠ 1) (h4 : (0 : Int) ≤ nb_rd M l0 5) (h5 : nb_rd M l0 5 < nb_ln M (nb_rd M l0 2)) :
    nb_R nb_P 239 10 [(13, l0), (0, l1), (0, l2)] [] M = nb_R nb_P 239 11 [(13, l0), (0, l1), (0, l2)] [] (nb_wr M (nb_rd M l0 2) (nb_rd M l0 5) l1) :=
  nb_step (c := (((true && !decide ((l0 : Int) = 0)) && !decide ((l0 : Int) = 0)) && (!decide ((nb_rd M l0 2 : Int) = 0) && (!decide ((nb_rd M l0 2 : Int) = 1) && (decide ((0 : Int) ≤ nb_rd M l0 5) && decide (nb_rd M l0 5 < nb_ln M (nb_rd M l0 2))))))) rfl (by simp [h1, h2, h3, h4, h5])
theorem q_rd_tellName_11 (l0 l2 : Int) (v1 : nb_V) (M : nb_M) (h1 : l0 ≠ 0) (h2 : (nb_rd M l0 3) ≠ 0) (h3 : (nb_rd M l0 3) ≠ 1) (h4 : (0 : Int) ≤ nb_rd M l0 5) (h5 : nb_rd M l0 5 < nb_ln M (nb_rd M l0 3)) :
    nb_R nb_P 239 11 [(13, l0), v1, (0, l2)] [] M = nb_R nb_P 239 12 [(13, l0), v1, (0, l2)] [] (nb_wr M (nb_rd M l0 3) (nb_rd M l0 5) l2) :=
  nb_step (c := (((true && !decide ((l0 : Int) = 0)) && !decide ((l0 : Int) = 0)) && (!decide ((nb_rd M l0 3 : Int) = 0) && (!decide ((nb_rd M l0 3 : Int) = 1) && (decide ((0 : Int) ≤ nb_rd M l0 5) && decide (nb_rd M l0 5 < nb_ln M (nb_rd M l0 3))))))) rfl (by simp [h1, h2, h3, h4, h5])
theorem q_rd_tellName_12 (l0 : Int) (v1 v2 : nb_V) (M : nb_M) (h1 : l0 ≠ 0) :
    nb_R nb_P 239 12 [(13, l0), v1, v2] [] M = nb_R nb_P 239 13 [(13, l0), v1, v2] [] (nb_wr M l0 5 (nb_add (nb_rd M l0 5) 1)) :=
  nb_step (c := ((true && !decide ((l0 : Int) = 0)) && (!decide ((l0 : Int) = 0) && (!false || (decide ((nb_add (nb_rd M l0 5) 1 : Int) = 0) || decide ((nb_add (nb_rd M l0 5) 1 : Int) = 1)))))) rfl (by simp [h1])
theorem q_rd_tellName_13 (l0 : Int) (v1 v2 : nb_V) (M : nb_M) (h1 : l0 ≠ 0) :
    nb_R nb_P 239 13 [(13, l0), v1, v2] [] M = (nb_R nb_P 225 0 [(13, l0)] [] M).bind fun r => nb_R nb_P 239 14 [(13, l0), v1, v2] (r.1 ++ []) r.2 :=
  nb_stepC (c := true) (L2 := [(13, l0), v1, v2]) (S2 := [(13, l0)]) (M2 := M) (t := 14) (cl := 225) (vi := true) rfl rfl (nb_inv_eq (n := 1) rfl rfl rfl rfl rfl rfl (fun _ => h1) rfl)
theorem q_rd_tellName_14 (v0 v1 v2 : nb_V) (M : nb_M) :
    nb_R nb_P 239 14 [v0, v1, v2] [] M = some ([], M) :=
  nb_step (c := true) rfl rfl
theorem q_rd_find_0 (l0 : Int) (v1 : nb_V) (M : nb_M) :
    nb_R nb_P 240 0 [(13, l0), v1] [] M = nb_R nb_P 240 1 [(13, l0), (0, 0)] [] M :=
  nb_step (c := true) rfl rfl
theorem q_rd_find_1 (l0 l1 : Int) (M : nb_M) (h1 : l0 ≠ 0) :
    nb_R nb_P 240 1 [(13, l0), (0, l1)] [] M = if l1 < nb_rd M l0 5 then nb_R nb_P 240 2 [(13, l0), (0, l1)] [] M else nb_R nb_P 240 5 [(13, l0), (0, l1)] [] M :=
  nb_step (c := (true && !decide ((l0 : Int) = 0))) rfl (by simp [h1])
theorem q_rd_find_2 (l0 l1 : Int) (M : nb_M) (h1 : l0 ≠ 0) (h2 : (nb_rd M l0 1) ≠ 0) (h3 : (0 : Int) ≤ l1) (h4 : l1 < nb_ln M (nb_rd M l0 1)) :
    nb_R nb_P 240 2 [(13, l0), (0, l1)] [] M = if nb_lcmp (nb_rd M (nb_rd M l0 1) l1) (nb_rd M l0 8) = 0 then nb_R nb_P 240 3 [(13, l0), (0, l1)] [] M else nb_R nb_P 240 4 [(13, l0), (0, l1)] [] M :=
  nb_step (c := (((true && !decide ((l0 : Int) = 0)) && (!decide ((nb_rd M l0 1 : Int) = 0) && (decide ((0 : Int) ≤ l1) && decide (l1 < nb_ln M (nb_rd M l0 1))))) && !decide ((l0 : Int) = 0))) rfl (by simp [h1, h2, h3, h4])
theorem q_rd_find_3 (l1 : Int) (v0 : nb_V) (M : nb_M) :
    nb_R nb_P 240 3 [v0, (0, l1)] [] M = some ([(0, l1)], M) :=
  nb_step (c := true) rfl rfl
theorem q_rd_find_4 (l0 l1 : Int) (M : nb_M) :
    nb_R nb_P 240 4 [(13, l0), (0, l1)] [] M = nb_R nb_P 240 1 [(13, l0), (0, nb_add l1 1)] [] M :=
  nb_step (c := true) rfl rfl
theorem q_rd_find_5 (v0 v1 : nb_V) (M : nb_M) :
    nb_R nb_P 240 5 [v0, v1] [] M = some ([(0, (-1))], M) :=
  nb_step (c := true) rfl rfl
theorem q_rd_known_0 (l0 l1 : Int) (v2 : nb_V) (M : nb_M) (h1 : l0 ≠ 0) :
    nb_R nb_P 241 0 [(13, l0), (0, l1), v2] [] M = (nb_R nb_P 240 0 [(13, l0), (98, 0)] [] M).bind fun r => nb_R nb_P 241 1 [(13, l0), (0, l1), v2] (r.1 ++ []) r.2 :=
  nb_stepC (c := true) (L2 := [(13, l0), (0, l1), v2]) (S2 := [(13, l0)]) (M2 := M) (t := 1) (cl := 240) (vi := true) rfl rfl (nb_inv_eq (n := 1) rfl rfl rfl rfl rfl rfl (fun _ => h1) rfl)
theorem q_rd_known_1 (l0 l1 s0 : Int) (v2 : nb_V) (M : nb_M) (h1 : l0 ≠ 0) :
    nb_R nb_P 241 1 [(13, l0), (0, l1), v2] [(0, s0)] M = if nb_rd M l0 7 = 1 then nb_R nb_P 241 4 [(13, l0), (0, l1), (0, s0)] [] M else nb_R nb_P 241 2 [(13, l0), (0, l1), (0, s0)] [] M :=
  nb_step (c := (true && !decide ((l0 : Int) = 0))) rfl (by simp [h1])
theorem q_rd_known_2 (l0 l2 : Int) (v1 : nb_V) (M : nb_M) (h1 : l0 ≠ 0) :
    nb_R nb_P 241 2 [(13, l0), v1, (0, l2)] [] M = (nb_R nb_P 226 0 [(13, l0), (0, 1)] [] M).bind fun r => nb_R nb_P 241 3 [(13, l0), v1, (0, l2)] (r.1 ++ []) r.2 :=
  nb_stepC (c := true) (L2 := [(13, l0), v1, (0, l2)]) (S2 := [(0, 1), (13, l0)]) (M2 := M) (t := 3) (cl := 226) (vi := true) rfl rfl (nb_inv_eq (n := 2) rfl rfl rfl rfl rfl rfl (fun _ => h1) rfl)
theorem q_rd_known_3 (l0 l2 : Int) (v1 : nb_V) (M : nb_M) :
    nb_R nb_P 241 3 [(13, l0), v1, (0, l2)] [] M = nb_R nb_P 241 7 [(13, l0), v1, (0, l2)] [] M :=
  nb_step (c := true) rfl rfl
theorem q_rd_known_4 (l0 l1 l2 : Int) (M : nb_M) :
    nb_R nb_P 241 4 [(13, l0), (0, l1), (0, l2)] [] M = if l2 < 0 then nb_R nb_P 241 6 [(13, l0), (0, l1), (0, l2)] [] M else nb_R nb_P 241 5 [(13, l0), (0, l1), (0, l2)] [] M :=
  nb_step (c := true) rfl rfl
theorem q_rd_known_5 (l0 l1 l2 : Int) (M : nb_M) (h1 : l0 ≠ 0) (h2 : (nb_rd M l0 2) ≠ 0) (h3 : (0 : Int) ≤ l2) (h4 : l2 < nb_ln M (nb_rd M l0 2)) :
    nb_R nb_P 241 5 [(13, l0), (0, l1), (0, l2)] [] M = if nb_rd M (nb_rd M l0 2) l2 = l1 then nb_R nb_P 241 7 [(13, l0), (0, l1), (0, l2)] [] M else nb_R nb_P 241 6 [(13, l0), (0, l1), (0, l2)] [] M :=
  nb_step (c := ((true && !decide ((l0 : Int) = 0)) && (!decide ((nb_rd M l0 2 : Int) = 0) && (decide ((0 : Int) ≤ l2) && decide (l2 < nb_ln M (nb_rd M l0 2)))))) rfl (by simp [h1, h2, h3, h4])
theorem q_rd_known_6 (l0 l2 : Int) (v1 : nb_V) (M : nb_M) (h1 : l0 ≠ 0) :
    nb_R nb_P 241 6 [(13, l0), v1, (0, l2)] [] M = (nb_R nb_P 226 0 [(13, l0), (0, 2)] [] M).bind fun r => nb_R nb_P 241 7 [(13, l0), v1, (0, l2)] (r.1 ++ []) r.2 :=
  nb_stepC (c := true) (L2 := [(13, l0), v1, (0, l2)]) (S2 := [(0, 2), (13, l0)]) (M2 := M) (t := 7) (cl := 226) (vi := true) rfl rfl (nb_inv_eq (n := 2) rfl rfl rfl rfl rfl rfl (fun _ => h1) rfl)
theorem q_rd_known_7 (l0 l2 : Int) (v1 : nb_V) (M : nb_M) (h1 : l0 ≠ 0) :
    nb_R nb_P 241 7 [(13, l0), v1, (0, l2)] [] M = if nb_rd M l0 9 = 0 then nb_R nb_P 241 8 [(13, l0), v1, (0, l2)] [] M else nb_R nb_P 241 10 [(13, l0), v1, (0, l2)] [] M :=
  nb_step (c := (true && !decide ((l0 : Int) = 0))) rfl (by simp [h1])
theorem q_rd_known_8 (l0 l2 : Int) (v1 : nb_V) (M : nb_M) :
    nb_R nb_P 241 8 [(13, l0), v1, (0, l2)] [] M = if l2 < 0 then nb_R nb_P 241 10 [(13, l0), v1, (0, l2)] [] M else nb_R nb_P 241 9 [(13, l0), v1, (0, l2)] [] M :=
  nb_step (c := true) rfl rfl
theorem q_rd_known_9 (l0 l2 : Int) (v1 : nb_V) (M : nb_M) (h1 : l0 ≠ 0) (h2 : (nb_rd M l0 3) ≠ 0) (h3 : (0 : Int) ≤ l2) (h4 : l2 < nb_ln M (nb_rd M l0 3)) :
    nb_R nb_P 241 9 [(13, l0), v1, (0, l2)] [] M = nb_R nb_P 241 11 [(13, l0), v1, (0, l2)] [(0, nb_rd M (nb_rd M l0 3) l2)] M :=
  nb_step (c := ((true && !decide ((l0 : Int) = 0)) && (!decide ((nb_rd M l0 3 : Int) = 0) && (decide ((0 : Int) ≤ l2) && decide (l2 < nb_ln M (nb_rd M l0 3)))))) rfl (by simp [h1, h2, h3, h4])
theorem q_rd_known_10 (v0 v1 v2 : nb_V) (M : nb_M) :
    nb_R nb_P 241 10 [v0, v1, v2] [] M = nb_R nb_P 241 11 [v0, v1, v2] [(0, (-1))] M :=
  nb_step (c := true) rfl rfl
theorem q_rd_known_11 (s0 : Int) (v0 v1 v2 : nb_V) (M : nb_M) :
    nb_R nb_P 241 11 [v0, v1, v2] [(0, s0)] M = some ([(0, s0)], M) :=
  nb_step (c := true) rfl rfl
theorem q_rd_expect_0 (l0 l1 : Int) (M : nb_M) (h1 : l0 ≠ 0) :
    nb_R nb_P 242 0 [(13, l0), (2, l1)] [] M = (nb_R nb_P 227 0 [(13, l0), (2, l1)] [] M).bind fun r => nb_R nb_P 242 1 [(13, l0), (2, l1)] (r.1 ++ []) r.2 :=
  nb_stepC (c := true) (L2 := [(13, l0), (2, l1)]) (S2 := [(2, l1), (13, l0)]) (M2 := M) (t := 1) (cl := 227) (vi := true) rfl rfl (nb_inv_eq (n := 2) rfl rfl rfl rfl rfl rfl (fun _ => h1) rfl)
theorem q_rd_expect_1 (l0 s0 : Int) (v1 : nb_V) (M : nb_M) :
    nb_R nb_P 242 1 [(13, l0), v1] [(0, s0)] M = if s0 = 0 then nb_R nb_P 242 2 [(13, l0), v1] [] M else nb_R nb_P 242 3 [(13, l0), v1] [] M :=
  nb_step (c := true) rfl rfl
theorem q_rd_expect_2 (l0 : Int) (v1 : nb_V) (M : nb_M) (h1 : l0 ≠ 0) :
    nb_R nb_P 242 2 [(13, l0), v1] [] M = (nb_R nb_P 226 0 [(13, l0), (0, 1)] [] M).bind fun r => nb_R nb_P 242 3 [(13, l0), v1] (r.1 ++ []) r.2 :=
  nb_stepC (c := true) (L2 := [(13, l0), v1]) (S2 := [(0, 1), (13, l0)]) (M2 := M) (t := 3) (cl := 226) (vi := true) rfl rfl (nb_inv_eq (n := 2) rfl rfl rfl rfl rfl rfl (fun _ => h1) rfl)
theorem q_rd_expect_3 (l0 : Int) (v1 : nb_V) (M : nb_M) (h1 : l0 ≠ 0) :
    nb_R nb_P 242 3 [(13, l0), v1] [] M = (nb_R nb_P 225 0 [(13, l0)] [] M).bind fun r => nb_R nb_P 242 4 [(13, l0), v1] (r.1 ++ []) r.2 :=
  nb_stepC (c := true) (L2 := [(13, l0), v1]) (S2 := [(13, l0)]) (M2 := M) (t := 4) (cl := 225) (vi := true) rfl rfl (nb_inv_eq (n := 1) rfl rfl rfl rfl rfl rfl (fun _ => h1) rfl)
theorem q_rd_expect_4 (v0 v1 : nb_V) (M : nb_M) :
    nb_R nb_P 242 4 [v0, v1] [] M = some ([], M) :=
  nb_step (c := true) rfl rfl
theorem q_rd_number_0 (l0 l1 l2 l3 : Int) (M : nb_M) (h1 : l0 ≠ 0) :
    nb_R nb_P 243 0 [(13, l0), (2, l1), (0, l2), (0, l3)] [] M = (nb_R nb_P 227 0 [(13, l0), (2, l1)] [] M).bind fun r => nb_R nb_P 243 1 [(13, l0), (2, l1), (0, l2), (0, l3)] (r.1 ++ []) r.2 :=
  nb_stepC (c := true) (L2 := [(13, l0), (2, l1), (0, l2), (0, l3)]) (S2 := [(2, l1), (13, l0)]) (M2 := M) (t := 1) (cl := 227) (vi := true) rfl rfl (nb_inv_eq (n := 2) rfl rfl rfl rfl rfl rfl (fun _ => h1) rfl)
theorem q_rd_number_1 (l0 l2 l3 s0 : Int) (v1 : nb_V) (M : nb_M) :
    nb_R nb_P 243 1 [(13, l0), v1, (0, l2), (0, l3)] [(0, s0)] M = if s0 = 0 then nb_R nb_P 243 2 [(13, l0), v1, (0, l2), (0, l3)] [] M else nb_R nb_P 243 3 [(13, l0), v1, (0, l2), (0, l3)] [] M :=
  nb_step (c := true) rfl rfl
theorem q_rd_number_2 (l0 l2 l3 : Int) (v1 : nb_V) (M : nb_M) (h1 : l0 ≠ 0) :
    nb_R nb_P 243 2 [(13, l0), v1, (0, l2), (0, l3)] [] M = (nb_R nb_P 226 0 [(13, l0), (0, 1)] [] M).bind fun r => nb_R nb_P 243 3 [(13, l0), v1, (0, l2), (0, l3)] (r.1 ++ []) r.2 :=
  nb_stepC (c := true) (L2 := [(13, l0), v1, (0, l2), (0, l3)]) (S2 := [(0, 1), (13, l0)]) (M2 := M) (t := 3) (cl := 226) (vi := true) rfl rfl (nb_inv_eq (n := 2) rfl rfl rfl rfl rfl rfl (fun _ => h1) rfl)
theorem q_rd_number_3 (l0 l2 l3 : Int) (v1 : nb_V) (M : nb_M) (h1 : l0 ≠ 0) :
    nb_R nb_P 243 3 [(13, l0), v1, (0, l2), (0, l3)] [] M = (nb_R nb_P 225 0 [(13, l0)] [] M).bind fun r => nb_R nb_P 243 4 [(13, l0), v1, (0, l2), (0, l3)] (r.1 ++ []) r.2 :=
  nb_stepC (c := true) (L2 := [(13, l0), v1, (0, l2), (0, l3)]) (S2 := [(13, l0)]) (M2 := M) (t := 4) (cl := 225) (vi := true) rfl rfl (nb_inv_eq (n := 1) rfl rfl rfl rfl rfl rfl (fun _ => h1) rfl)
theorem q_rd_number_4 (l0 l2 l3 : Int) (v1 : nb_V) (M : nb_M) (h1 : l0 ≠ 0) :
    nb_R nb_P 243 4 [(13, l0), v1, (0, l2), (0, l3)] [] M = (nb_R nb_P 244 0 [(13, l0), (0, l2), (0, l3), (98, 0)] [] M).bind fun r => nb_R nb_P 243 5 [(13, l0), v1, (0, l2), (0, l3)] (r.1 ++ []) r.2 :=
  nb_stepC (c := true) (L2 := [(13, l0), v1, (0, l2), (0, l3)]) (S2 := [(0, l3), (0, l2), (13, l0)]) (M2 := M) (t := 5) (cl := 244) (vi := true) rfl rfl (nb_inv_eq (n := 3) rfl rfl rfl rfl rfl rfl (fun _ => h1) rfl)
theorem q_rd_number_5 (s0 : Int) (v0 v1 v2 v3 : nb_V) (M : nb_M) :
    nb_R nb_P 243 5 [v0, v1, v2, v3] [(0, s0)] M = some ([(0, s0)], M) :=
  nb_step (c := true) rfl rfl
theorem q_rd_whole_0 (l0 l1 l2 : Int) (v3 : nb_V) (M : nb_M) (h1 : l0 ≠ 0) :
    nb_R nb_P 244 0 [(13, l0), (0, l1), (0, l2), v3] [] M = if nb_rd M l0 7 = 3 then nb_R nb_P 244 3 [(13, l0), (0, l1), (0, l2), (0, nb_l2i (nb_rd M l0 8))] [] M else nb_R nb_P 244 1 [(13, l0), (0, l1), (0, l2), (0, nb_l2i (nb_rd M l0 8))] [] M :=
  nb_step (c := ((true && !decide ((l0 : Int) = 0)) && !decide ((l0 : Int) = 0))) rfl (by simp [h1])
theorem q_rd_whole_1 (l0 l3 : Int) (v1 v2 : nb_V) (M : nb_M) (h1 : l0 ≠ 0) :
    nb_R nb_P 244 1 [(13, l0), v1, v2, (0, l3)] [] M = (nb_R nb_P 226 0 [(13, l0), (0, 1)] [] M).bind fun r => nb_R nb_P 244 2 [(13, l0), v1, v2, (0, l3)] (r.1 ++ []) r.2 :=
  nb_stepC (c := true) (L2 := [(13, l0), v1, v2, (0, l3)]) (S2 := [(0, 1), (13, l0)]) (M2 := M) (t := 2) (cl := 226) (vi := true) rfl rfl (nb_inv_eq (n := 2) rfl rfl rfl rfl rfl rfl (fun _ => h1) rfl)
theorem q_rd_whole_2 (l0 l3 : Int) (v1 v2 : nb_V) (M : nb_M) :
    nb_R nb_P 244 2 [(13, l0), v1, v2, (0, l3)] [] M = nb_R nb_P 244 6 [(13, l0), v1, v2, (0, l3)] [] M :=
  nb_step (c := true) rfl rfl
theorem q_rd_whole_3 (l0 l1 l2 l3 : Int) (M : nb_M) :
    nb_R nb_P 244 3 [(13, l0), (0, l1), (0, l2), (0, l3)] [] M = if l3 < l1 then nb_R nb_P 244 5 [(13, l0), (0, l1), (0, l2), (0, l3)] [] M else nb_R nb_P 244 4 [(13, l0), (0, l1), (0, l2), (0, l3)] [] M :=
  nb_step (c := true) rfl rfl
theorem q_rd_whole_4 (l0 l2 l3 : Int) (v1 : nb_V) (M : nb_M) :
    nb_R nb_P 244 4 [(13, l0), v1, (0, l2), (0, l3)] [] M = if l2 < l3 then nb_R nb_P 244 5 [(13, l0), v1, (0, l2), (0, l3)] [] M else nb_R nb_P 244 6 [(13, l0), v1, (0, l2), (0, l3)] [] M :=
  nb_step (c := true) rfl rfl
theorem q_rd_whole_5 (l0 l3 : Int) (v1 v2 : nb_V) (M : nb_M) (h1 : l0 ≠ 0) :
    nb_R nb_P 244 5 [(13, l0), v1, v2, (0, l3)] [] M = (nb_R nb_P 226 0 [(13, l0), (0, 4)] [] M).bind fun r => nb_R nb_P 244 6 [(13, l0), v1, v2, (0, l3)] (r.1 ++ []) r.2 :=
  nb_stepC (c := true) (L2 := [(13, l0), v1, v2, (0, l3)]) (S2 := [(0, 4), (13, l0)]) (M2 := M) (t := 6) (cl := 226) (vi := true) rfl rfl (nb_inv_eq (n := 2) rfl rfl rfl rfl rfl rfl (fun _ => h1) rfl)
theorem q_rd_whole_6 (l0 l3 : Int) (v1 v2 : nb_V) (M : nb_M) (h1 : l0 ≠ 0) :
    nb_R nb_P 244 6 [(13, l0), v1, v2, (0, l3)] [] M = (nb_R nb_P 225 0 [(13, l0)] [] M).bind fun r => nb_R nb_P 244 7 [(13, l0), v1, v2, (0, l3)] (r.1 ++ []) r.2 :=
  nb_stepC (c := true) (L2 := [(13, l0), v1, v2, (0, l3)]) (S2 := [(13, l0)]) (M2 := M) (t := 7) (cl := 225) (vi := true) rfl rfl (nb_inv_eq (n := 1) rfl rfl rfl rfl rfl rfl (fun _ => h1) rfl)
theorem q_rd_whole_7 (l3 : Int) (v0 v1 v2 : nb_V) (M : nb_M) :
    nb_R nb_P 244 7 [v0, v1, v2, (0, l3)] [] M = some ([(0, l3)], M) :=
  nb_step (c := true) rfl rfl
theorem q_rd_rule_0 (l0 : Int) (v1 : nb_V) (M : nb_M) (h1 : l0 ≠ 0) :
    nb_R nb_P 245 0 [(13, l0), v1] [] M = (nb_R nb_P 227 0 [(13, l0), (2, 52)] [] M).bind fun r => nb_R nb_P 245 1 [(13, l0), (0, (-1))] (r.1 ++ []) r.2 :=
  nb_stepC (c := true) (L2 := [(13, l0), (0, (-1))]) (S2 := [(2, 52), (13, l0)]) (M2 := M) (t := 1) (cl := 227) (vi := true) rfl rfl (nb_inv_eq (n := 2) rfl rfl rfl rfl rfl rfl (fun _ => h1) rfl)
theorem q_rd_rule_1 (l0 l1 s0 : Int) (M : nb_M) :
    nb_R nb_P 245 1 [(13, l0), (0, l1)] [(0, s0)] M = if s0 = 0 then nb_R nb_P 245 3 [(13, l0), (0, l1)] [] M else nb_R nb_P 245 2 [(13, l0), (0, l1)] [] M :=
  nb_step (c := true) rfl rfl
theorem q_rd_rule_2 (l0 : Int) (v1 : nb_V) (M : nb_M) :
    nb_R nb_P 245 2 [(13, l0), v1] [] M = nb_R nb_P 245 16 [(13, l0), (0, 0)] [] M :=
  nb_step (c := true) rfl rfl
theorem q_rd_rule_3 (l0 l1 : Int) (M : nb_M) (h1 : l0 ≠ 0) :
    nb_R nb_P 245 3 [(13, l0), (0, l1)] [] M = (nb_R nb_P 227 0 [(13, l0), (2, 53)] [] M).bind fun r => nb_R nb_P 245 4 [(13, l0), (0, l1)] (r.1 ++ []) r.2 :=
  nb_stepC (c := true) (L2 := [(13, l0), (0, l1)]) (S2 := [(2, 53), (13, l0)]) (M2 := M) (t := 4) (cl := 227) (vi := true) rfl rfl (nb_inv_eq (n := 2) rfl rfl rfl rfl rfl rfl (fun _ => h1) rfl)
theorem q_rd_rule_4 (l0 l1 s0 : Int) (M : nb_M) :
    nb_R nb_P 245 4 [(13, l0), (0, l1)] [(0, s0)] M = if s0 = 0 then nb_R nb_P 245 6 [(13, l0), (0, l1)] [] M else nb_R nb_P 245 5 [(13, l0), (0, l1)] [] M :=
  nb_step (c := true) rfl rfl
theorem q_rd_rule_5 (l0 : Int) (v1 : nb_V) (M : nb_M) :
    nb_R nb_P 245 5 [(13, l0), v1] [] M = nb_R nb_P 245 16 [(13, l0), (0, 1)] [] M :=
  nb_step (c := true) rfl rfl
theorem q_rd_rule_6 (l0 l1 : Int) (M : nb_M) (h1 : l0 ≠ 0) :
    nb_R nb_P 245 6 [(13, l0), (0, l1)] [] M = (nb_R nb_P 227 0 [(13, l0), (2, 54)] [] M).bind fun r => nb_R nb_P 245 7 [(13, l0), (0, l1)] (r.1 ++ []) r.2 :=
  nb_stepC (c := true) (L2 := [(13, l0), (0, l1)]) (S2 := [(2, 54), (13, l0)]) (M2 := M) (t := 7) (cl := 227) (vi := true) rfl rfl (nb_inv_eq (n := 2) rfl rfl rfl rfl rfl rfl (fun _ => h1) rfl)
theorem q_rd_rule_7 (l0 l1 s0 : Int) (M : nb_M) :
    nb_R nb_P 245 7 [(13, l0), (0, l1)] [(0, s0)] M = if s0 = 0 then nb_R nb_P 245 9 [(13, l0), (0, l1)] [] M else nb_R nb_P 245 8 [(13, l0), (0, l1)] [] M :=
  nb_step (c := true) rfl rfl
theorem q_rd_rule_8 (l0 : Int) (v1 : nb_V) (M : nb_M) :
    nb_R nb_P 245 8 [(13, l0), v1] [] M = nb_R nb_P 245 16 [(13, l0), (0, 2)] [] M :=
  nb_step (c := true) rfl rfl
theorem q_rd_rule_9 (l0 l1 : Int) (M : nb_M) (h1 : l0 ≠ 0) :
    nb_R nb_P 245 9 [(13, l0), (0, l1)] [] M = (nb_R nb_P 227 0 [(13, l0), (2, 55)] [] M).bind fun r => nb_R nb_P 245 10 [(13, l0), (0, l1)] (r.1 ++ []) r.2 :=
  nb_stepC (c := true) (L2 := [(13, l0), (0, l1)]) (S2 := [(2, 55), (13, l0)]) (M2 := M) (t := 10) (cl := 227) (vi := true) rfl rfl (nb_inv_eq (n := 2) rfl rfl rfl rfl rfl rfl (fun _ => h1) rfl)
theorem q_rd_rule_10 (l0 l1 s0 : Int) (M : nb_M) :
    nb_R nb_P 245 10 [(13, l0), (0, l1)] [(0, s0)] M = if s0 = 0 then nb_R nb_P 245 12 [(13, l0), (0, l1)] [] M else nb_R nb_P 245 11 [(13, l0), (0, l1)] [] M :=
  nb_step (c := true) rfl rfl
theorem q_rd_rule_11 (l0 : Int) (v1 : nb_V) (M : nb_M) :
    nb_R nb_P 245 11 [(13, l0), v1] [] M = nb_R nb_P 245 16 [(13, l0), (0, 3)] [] M :=
  nb_step (c := true) rfl rfl
theorem q_rd_rule_12 (l0 l1 : Int) (M : nb_M) (h1 : l0 ≠ 0) :
    nb_R nb_P 245 12 [(13, l0), (0, l1)] [] M = (nb_R nb_P 227 0 [(13, l0), (2, 56)] [] M).bind fun r => nb_R nb_P 245 13 [(13, l0), (0, l1)] (r.1 ++ []) r.2 :=
  nb_stepC (c := true) (L2 := [(13, l0), (0, l1)]) (S2 := [(2, 56), (13, l0)]) (M2 := M) (t := 13) (cl := 227) (vi := true) rfl rfl (nb_inv_eq (n := 2) rfl rfl rfl rfl rfl rfl (fun _ => h1) rfl)
theorem q_rd_rule_13 (l0 l1 s0 : Int) (M : nb_M) :
    nb_R nb_P 245 13 [(13, l0), (0, l1)] [(0, s0)] M = if s0 = 0 then nb_R nb_P 245 15 [(13, l0), (0, l1)] [] M else nb_R nb_P 245 14 [(13, l0), (0, l1)] [] M :=
  nb_step (c := true) rfl rfl
theorem q_rd_rule_14 (l0 : Int) (v1 : nb_V) (M : nb_M) :
    nb_R nb_P 245 14 [(13, l0), v1] [] M = nb_R nb_P 245 16 [(13, l0), (0, 4)] [] M :=
  nb_step (c := true) rfl rfl
theorem q_rd_rule_15 (l0 l1 : Int) (M : nb_M) (h1 : l0 ≠ 0) :
    nb_R nb_P 245 15 [(13, l0), (0, l1)] [] M = (nb_R nb_P 226 0 [(13, l0), (0, 1)] [] M).bind fun r => nb_R nb_P 245 16 [(13, l0), (0, l1)] (r.1 ++ []) r.2 :=
  nb_stepC (c := true) (L2 := [(13, l0), (0, l1)]) (S2 := [(0, 1), (13, l0)]) (M2 := M) (t := 16) (cl := 226) (vi := true) rfl rfl (nb_inv_eq (n := 2) rfl rfl rfl rfl rfl rfl (fun _ => h1) rfl)
theorem q_rd_rule_16 (l0 l1 : Int) (M : nb_M) (h1 : l0 ≠ 0) :
    nb_R nb_P 245 16 [(13, l0), (0, l1)] [] M = (nb_R nb_P 225 0 [(13, l0)] [] M).bind fun r => nb_R nb_P 245 17 [(13, l0), (0, l1)] (r.1 ++ []) r.2 :=
  nb_stepC (c := true) (L2 := [(13, l0), (0, l1)]) (S2 := [(13, l0)]) (M2 := M) (t := 17) (cl := 225) (vi := true) rfl rfl (nb_inv_eq (n := 1) rfl rfl rfl rfl rfl rfl (fun _ => h1) rfl)
theorem q_rd_rule_17 (l1 : Int) (v0 : nb_V) (M : nb_M) :
    nb_R nb_P 245 17 [v0, (0, l1)] [] M = some ([(0, l1)], M) :=
  nb_step (c := true) rfl rfl
theorem q_rd_manner_0 (l0 : Int) (v1 : nb_V) (M : nb_M) (h1 : l0 ≠ 0) :
    nb_R nb_P 246 0 [(13, l0), v1] [] M = (nb_R nb_P 227 0 [(13, l0), (2, 57)] [] M).bind fun r => nb_R nb_P 246 1 [(13, l0), (0, (-1))] (r.1 ++ []) r.2 :=
  nb_stepC (c := true) (L2 := [(13, l0), (0, (-1))]) (S2 := [(2, 57), (13, l0)]) (M2 := M) (t := 1) (cl := 227) (vi := true) rfl rfl (nb_inv_eq (n := 2) rfl rfl rfl rfl rfl rfl (fun _ => h1) rfl)
theorem q_rd_manner_1 (l0 l1 s0 : Int) (M : nb_M) :
    nb_R nb_P 246 1 [(13, l0), (0, l1)] [(0, s0)] M = if s0 = 0 then nb_R nb_P 246 3 [(13, l0), (0, l1)] [] M else nb_R nb_P 246 2 [(13, l0), (0, l1)] [] M :=
  nb_step (c := true) rfl rfl
theorem q_rd_manner_2 (l0 : Int) (v1 : nb_V) (M : nb_M) :
    nb_R nb_P 246 2 [(13, l0), v1] [] M = nb_R nb_P 246 13 [(13, l0), (0, 0)] [] M :=
  nb_step (c := true) rfl rfl
theorem q_rd_manner_3 (l0 l1 : Int) (M : nb_M) (h1 : l0 ≠ 0) :
    nb_R nb_P 246 3 [(13, l0), (0, l1)] [] M = (nb_R nb_P 227 0 [(13, l0), (2, 58)] [] M).bind fun r => nb_R nb_P 246 4 [(13, l0), (0, l1)] (r.1 ++ []) r.2 :=
  nb_stepC (c := true) (L2 := [(13, l0), (0, l1)]) (S2 := [(2, 58), (13, l0)]) (M2 := M) (t := 4) (cl := 227) (vi := true) rfl rfl (nb_inv_eq (n := 2) rfl rfl rfl rfl rfl rfl (fun _ => h1) rfl)
theorem q_rd_manner_4 (l0 l1 s0 : Int) (M : nb_M) :
    nb_R nb_P 246 4 [(13, l0), (0, l1)] [(0, s0)] M = if s0 = 0 then nb_R nb_P 246 6 [(13, l0), (0, l1)] [] M else nb_R nb_P 246 5 [(13, l0), (0, l1)] [] M :=
  nb_step (c := true) rfl rfl
theorem q_rd_manner_5 (l0 : Int) (v1 : nb_V) (M : nb_M) :
    nb_R nb_P 246 5 [(13, l0), v1] [] M = nb_R nb_P 246 13 [(13, l0), (0, 1)] [] M :=
  nb_step (c := true) rfl rfl
theorem q_rd_manner_6 (l0 l1 : Int) (M : nb_M) (h1 : l0 ≠ 0) :
    nb_R nb_P 246 6 [(13, l0), (0, l1)] [] M = (nb_R nb_P 227 0 [(13, l0), (2, 59)] [] M).bind fun r => nb_R nb_P 246 7 [(13, l0), (0, l1)] (r.1 ++ []) r.2 :=
  nb_stepC (c := true) (L2 := [(13, l0), (0, l1)]) (S2 := [(2, 59), (13, l0)]) (M2 := M) (t := 7) (cl := 227) (vi := true) rfl rfl (nb_inv_eq (n := 2) rfl rfl rfl rfl rfl rfl (fun _ => h1) rfl)
theorem q_rd_manner_7 (l0 l1 s0 : Int) (M : nb_M) :
    nb_R nb_P 246 7 [(13, l0), (0, l1)] [(0, s0)] M = if s0 = 0 then nb_R nb_P 246 9 [(13, l0), (0, l1)] [] M else nb_R nb_P 246 8 [(13, l0), (0, l1)] [] M :=
  nb_step (c := true) rfl rfl
theorem q_rd_manner_8 (l0 : Int) (v1 : nb_V) (M : nb_M) :
    nb_R nb_P 246 8 [(13, l0), v1] [] M = nb_R nb_P 246 13 [(13, l0), (0, 2)] [] M :=
  nb_step (c := true) rfl rfl
theorem q_rd_manner_9 (l0 l1 : Int) (M : nb_M) (h1 : l0 ≠ 0) :
    nb_R nb_P 246 9 [(13, l0), (0, l1)] [] M = (nb_R nb_P 227 0 [(13, l0), (2, 56)] [] M).bind fun r => nb_R nb_P 246 10 [(13, l0), (0, l1)] (r.1 ++ []) r.2 :=
  nb_stepC (c := true) (L2 := [(13, l0), (0, l1)]) (S2 := [(2, 56), (13, l0)]) (M2 := M) (t := 10) (cl := 227) (vi := true) rfl rfl (nb_inv_eq (n := 2) rfl rfl rfl rfl rfl rfl (fun _ => h1) rfl)
theorem q_rd_manner_10 (l0 l1 s0 : Int) (M : nb_M) :
    nb_R nb_P 246 10 [(13, l0), (0, l1)] [(0, s0)] M = if s0 = 0 then nb_R nb_P 246 12 [(13, l0), (0, l1)] [] M else nb_R nb_P 246 11 [(13, l0), (0, l1)] [] M :=
  nb_step (c := true) rfl rfl
theorem q_rd_manner_11 (l0 : Int) (v1 : nb_V) (M : nb_M) :
    nb_R nb_P 246 11 [(13, l0), v1] [] M = nb_R nb_P 246 13 [(13, l0), (0, 3)] [] M :=
  nb_step (c := true) rfl rfl
theorem q_rd_manner_12 (l0 l1 : Int) (M : nb_M) (h1 : l0 ≠ 0) :
    nb_R nb_P 246 12 [(13, l0), (0, l1)] [] M = (nb_R nb_P 226 0 [(13, l0), (0, 1)] [] M).bind fun r => nb_R nb_P 246 13 [(13, l0), (0, l1)] (r.1 ++ []) r.2 :=
  nb_stepC (c := true) (L2 := [(13, l0), (0, l1)]) (S2 := [(0, 1), (13, l0)]) (M2 := M) (t := 13) (cl := 226) (vi := true) rfl rfl (nb_inv_eq (n := 2) rfl rfl rfl rfl rfl rfl (fun _ => h1) rfl)
theorem q_rd_manner_13 (l0 l1 : Int) (M : nb_M) (h1 : l0 ≠ 0) :
    nb_R nb_P 246 13 [(13, l0), (0, l1)] [] M = (nb_R nb_P 225 0 [(13, l0)] [] M).bind fun r => nb_R nb_P 246 14 [(13, l0), (0, l1)] (r.1 ++ []) r.2 :=
  nb_stepC (c := true) (L2 := [(13, l0), (0, l1)]) (S2 := [(13, l0)]) (M2 := M) (t := 14) (cl := 225) (vi := true) rfl rfl (nb_inv_eq (n := 1) rfl rfl rfl rfl rfl rfl (fun _ => h1) rfl)
theorem q_rd_manner_14 (l1 : Int) (v0 : nb_V) (M : nb_M) :
    nb_R nb_P 246 14 [v0, (0, l1)] [] M = some ([(0, l1)], M) :=
  nb_step (c := true) rfl rfl
theorem q_rw_init_0 (l0 : Int) (M : nb_M) (h1 : l0 ≠ 0) :
    nb_R nb_P 247 0 [(14, l0)] [] M = ((some ([], M) : nb_A)).bind fun r => nb_R nb_P 247 1 [(14, l0)] (r.1 ++ []) r.2 :=
  nb_stepC (c := true) (L2 := [(14, l0)]) (S2 := [(14, l0)]) (M2 := M) (t := 1) (cl := 900) (vi := true) rfl rfl (nb_inv_eq (n := 1) rfl rfl rfl rfl rfl rfl (fun _ => h1) rfl)
theorem q_rw_init_1 (l0 : Int) (M : nb_M) (h1 : M.2.2.1 = 0) :
    nb_R nb_P 247 1 [(14, l0)] [] M = nb_R nb_P 247 2 [(14, l0)] [(3, nb_nx M), (14, l0)] (nb_al M 0 7) :=
  nb_step (c := (true && (decide (M.2.2.1 = 0) && (decide ((0 : Int) ≤ 7) && decide ((7 : Int) ≤ 100000))))) rfl (by simp [h1])
theorem q_rw_init_2 (l0 s0 s1 : Int) (M : nb_M) (h1 : s1 ≠ 0) :
    nb_R nb_P 247 2 [(14, l0)] [(3, s0), (14, s1)] M = nb_R nb_P 247 3 [(14, l0)] [] (nb_wr M s1 0 s0) :=
  nb_step (c := (true && (!decide ((s1 : Int) = 0) && (!false || (decide ((s0 : Int) = 0) || decide ((s0 : Int) = 1)))))) rfl (by simp [h1])
theorem q_rw_init_3 (l0 : Int) (M : nb_M) (h1 : M.2.2.1 = 0) :
    nb_R nb_P 247 3 [(14, l0)] [] M = nb_R nb_P 247 4 [(14, l0)] [(10, nb_nx M), (14, l0)] (nb_alm M 8 7) :=
  nb_step (c := (true && (decide (M.2.2.1 = 0) && (decide ((0 : Int) ≤ 8) && (decide ((8 : Int) ≤ 1000) && (decide ((0 : Int) ≤ 7) && decide ((7 : Int) ≤ 1000))))))) rfl (by simp [h1])
theorem q_rw_init_4 (l0 s0 s1 : Int) (M : nb_M) (h1 : s1 ≠ 0) :
    nb_R nb_P 247 4 [(14, l0)] [(10, s0), (14, s1)] M = nb_R nb_P 247 5 [(14, l0)] [] (nb_wr M s1 1 s0) :=
  nb_step (c := (true && (!decide ((s1 : Int) = 0) && (!false || (decide ((s0 : Int) = 0) || decide ((s0 : Int) = 1)))))) rfl (by simp [h1])
theorem q_rw_init_5 (l0 : Int) (M : nb_M) (h1 : M.2.2.1 = 0) :
    nb_R nb_P 247 5 [(14, l0)] [] M = nb_R nb_P 247 6 [(14, l0)] [(3, nb_nx M), (14, l0)] (nb_al M 0 1024) :=
  nb_step (c := (true && (decide (M.2.2.1 = 0) && (decide ((0 : Int) ≤ 1024) && decide ((1024 : Int) ≤ 100000))))) rfl (by simp [h1])
theorem q_rw_init_6 (s0 s1 : Int) (v0 : nb_V) (M : nb_M) (h1 : s1 ≠ 0) :
    nb_R nb_P 247 6 [v0] [(3, s0), (14, s1)] M = nb_R nb_P 247 7 [v0] [] (nb_wr M s1 2 s0) :=
  nb_step (c := (true && (!decide ((s1 : Int) = 0) && (!false || (decide ((s0 : Int) = 0) || decide ((s0 : Int) = 1)))))) rfl (by simp [h1])
theorem q_rw_init_7 (v0 : nb_V) (M : nb_M) :
    nb_R nb_P 247 7 [v0] [] M = some ([], M) :=
  nb_step (c := true) rfl rfl
theorem q_rw_settle_0 (l0 l1 l2 : Int) (v3 v4 : nb_V) (M : nb_M) (h1 : l1 ≠ 0) :
    nb_R nb_P 248 0 [(14, l0), (15, l1), (0, l2), v3, v4] [] M = (nb_R nb_P 265 0 [(15, l1), (0, 1), (98, 0), (98, 0)] [] M).bind fun r => nb_R nb_P 248 1 [(14, l0), (15, l1), (0, l2), v3, v4] (r.1 ++ [(0, 7), (14, l0)]) r.2 :=
  nb_stepC (c := true) (L2 := [(14, l0), (15, l1), (0, l2), v3, v4]) (S2 := [(0, 1), (15, l1), (0, 7), (14, l0)]) (M2 := M) (t := 1) (cl := 265) (vi := true) rfl rfl (nb_inv_eq (n := 2) rfl rfl rfl rfl rfl rfl (fun _ => h1) rfl)
theorem q_rw_settle_1 (l0 l1 l2 s0 s1 s2 : Int) (v3 v4 : nb_V) (M : nb_M) :
    nb_R nb_P 248 1 [(14, l0), (15, l1), (0, l2), v3, v4] [(0, s0), (0, s1), (14, s2)] M = ((some ([(0, if s0 < s1 then s0 else s1)], M) : nb_A)).bind fun r => nb_R nb_P 248 2 [(14, l0), (15, l1), (0, l2), v3, v4] (r.1 ++ [(14, s2)]) r.2 :=
  nb_stepC (c := true) (L2 := [(14, l0), (15, l1), (0, l2), v3, v4]) (S2 := [(0, s0), (0, s1), (14, s2)]) (M2 := M) (t := 2) (cl := 906) (vi := false) rfl rfl (nb_inv_eq (n := 2) rfl rfl rfl rfl rfl rfl (fun h => by cases h) rfl)
theorem q_rw_settle_2 (l0 l1 l2 s0 s1 : Int) (v3 v4 : nb_V) (M : nb_M) (h1 : s1 ≠ 0) :
    nb_R nb_P 248 2 [(14, l0), (15, l1), (0, l2), v3, v4] [(0, s0), (14, s1)] M = nb_R nb_P 248 3 [(14, l0), (15, l1), (0, l2), v3, v4] [] (nb_wr M s1 3 s0) :=
  nb_step (c := (true && (!decide ((s1 : Int) = 0) && (!false || (decide ((s0 : Int) = 0) || decide ((s0 : Int) = 1)))))) rfl (by simp [h1])
theorem q_rw_settle_3 (l0 l1 l2 : Int) (v3 v4 : nb_V) (M : nb_M) :
    nb_R nb_P 248 3 [(14, l0), (15, l1), (0, l2), v3, v4] [] M = nb_R nb_P 248 4 [(14, l0), (15, l1), (0, l2), (0, 0), v4] [] M :=
  nb_step (c := true) rfl rfl
theorem q_rw_settle_4 (l0 l1 l2 l3 : Int) (v4 : nb_V) (M : nb_M) (h1 : l0 ≠ 0) :
    nb_R nb_P 248 4 [(14, l0), (15, l1), (0, l2), (0, l3), v4] [] M = if l3 < nb_rd M l0 3 then nb_R nb_P 248 5 [(14, l0), (15, l1), (0, l2), (0, l3), v4] [] M else nb_R nb_P 248 8 [(14, l0), (15, l1), (0, l2), (0, l3), v4] [] M :=
  nb_step (c := (true && !decide ((l0 : Int) = 0))) rfl (by simp [h1])
theorem q_rw_settle_5 (l0 l1 l2 l3 : Int) (v4 : nb_V) (M : nb_M) (h1 : l0 ≠ 0) (h2 : l1 ≠ 0) :
    nb_R nb_P 248 5 [(14, l0), (15, l1), (0, l2), (0, l3), v4] [] M = (nb_R nb_P 0 0 [(15, l1), (0, l3), (98, 0), (98, 0)] [] M).bind fun r => nb_R nb_P 248 6 [(14, l0), (15, l1), (0, l2), (0, l3), v4] (r.1 ++ [(0, l3), (3, nb_rd M l0 0)]) r.2 :=
  nb_stepC (c := (true && !decide ((l0 : Int) = 0))) (L2 := [(14, l0), (15, l1), (0, l2), (0, l3), v4]) (S2 := [(0, l3), (15, l1), (0, l3), (3, nb_rd M l0 0)]) (M2 := M) (t := 6) (cl := 0) (vi := true) rfl (by simp [h1, h2]) (nb_inv_eq (n := 2) rfl rfl rfl rfl rfl rfl (fun _ => h2) rfl)
theorem q_rw_settle_6 (l0 l1 l2 l3 s0 s1 s2 : Int) (v4 : nb_V) (M : nb_M) (h1 : s2 ≠ 0) (h2 : s2 ≠ 1) (h3 : (0 : Int) ≤ s1) (h4 : s1 < nb_ln M s2) :
    nb_R nb_P 248 6 [(14, l0), (15, l1), (0, l2), (0, l3), v4] [(0, s0), (0, s1), (3, s2)] M = nb_R nb_P 248 7 [(14, l0), (15, l1), (0, l2), (0, l3), v4] [] (nb_wr M s2 s1 s0) :=
  nb_step (c := (true && (!decide ((s2 : Int) = 0) && (!decide ((s2 : Int) = 1) && (decide ((0 : Int) ≤ s1) && decide (s1 < nb_ln M s2)))))) rfl (by simp [h1, h2, h3, h4])
theorem q_rw_settle_7 (l0 l1 l2 l3 : Int) (v4 : nb_V) (M : nb_M) :
    nb_R nb_P 248 7 [(14, l0), (15, l1), (0, l2), (0, l3), v4] [] M = nb_R nb_P 248 4 [(14, l0), (15, l1), (0, l2), (0, nb_add l3 1), v4] [] M :=
  nb_step (c := true) rfl rfl
theorem q_rw_settle_8 (l0 l1 l2 : Int) (v3 v4 : nb_V) (M : nb_M) :
    nb_R nb_P 248 8 [(14, l0), (15, l1), (0, l2), v3, v4] [] M = nb_R nb_P 248 9 [(14, l0), (15, l1), (0, l2), (0, 0), v4] [] M :=
  nb_step (c := true) rfl rfl
theorem q_rw_settle_9 (l0 l1 l2 l3 : Int) (v4 : nb_V) (M : nb_M) (h1 : l0 ≠ 0) :
    nb_R nb_P 248 9 [(14, l0), (15, l1), (0, l2), (0, l3), v4] [] M = if l3 < nb_rd M l0 3 then nb_R nb_P 248 10 [(14, l0), (15, l1), (0, l2), (0, l3), v4] [] M else nb_R nb_P 248 18 [(14, l0), (15, l1), (0, l2), (0, l3), v4] [] M :=
  nb_step (c := (true && !decide ((l0 : Int) = 0))) rfl (by simp [h1])
theorem q_rw_settle_10 (l0 l1 l2 l3 : Int) (v4 : nb_V) (M : nb_M) :
    nb_R nb_P 248 10 [(14, l0), (15, l1), (0, l2), (0, l3), v4] [] M = nb_R nb_P 248 11 [(14, l0), (15, l1), (0, l2), (0, l3), (0, 0)] [] M :=
  nb_step (c := true) rfl rfl
theorem q_rw_settle_11 (l0 l1 l2 l3 l4 : Int) (M : nb_M) (h1 : l0 ≠ 0) :
    nb_R nb_P 248 11 [(14, l0), (15, l1), (0, l2), (0, l3), (0, l4)] [] M = if l4 < nb_rd M l0 3 then nb_R nb_P 248 12 [(14, l0), (15, l1), (0, l2), (0, l3), (0, l4)] [] M else nb_R nb_P 248 15 [(14, l0), (15, l1), (0, l2), (0, l3), (0, l4)] [] M :=
  nb_step (c := (true && !decide ((l0 : Int) = 0))) rfl (by simp [h1])
theorem q_rw_settle_12 (l0 l1 l2 l3 l4 : Int) (M : nb_M) (h1 : l0 ≠ 0) (h2 : (nb_rd M l0 1) ≠ 0) (h3 : (0 : Int) ≤ l4) (h4 : l4 < nb_ln M (nb_rd M l0 1)) (h5 : l1 ≠ 0) (h6 : (nb_rd M l0 0) ≠ 0) (h7 : l4 < nb_ln M (nb_rd M l0 0)) (h8 : (0 : Int) ≤ l3) (h9 : l3 < nb_ln M (nb_rd M l0 0)) (h10 : (nb_rd M l1 3) ≠ 0) :
    nb_R nb_P 248 12 [(14, l0), (15, l1), (0, l2), (0, l3), (0, l4)] [] M = (nb_R nb_P 220 0 [(12, nb_rd M l1 3), (0, nb_rd M (nb_rd M l0 0) l4), (0, nb_rd M (nb_rd M l0 0) l3), (98, 0), (98, 0), (98, 0), (98, 0)] [] M).bind fun r => nb_R nb_P 248 13 [(14, l0), (15, l1), (0, l2), (0, l3), (0, l4)] (r.1 ++ [(0, l3), (3, nb_rd M (nb_rd M l0 1) l4)]) r.2 :=
  nb_stepC (c := (((((((true && !decide ((l0 : Int) = 0)) && (!decide ((nb_rd M l0 1 : Int) = 0) && (decide ((0 : Int) ≤ l4) && decide (l4 < nb_ln M (nb_rd M l0 1))))) && !decide ((l1 : Int) = 0)) && !decide ((l0 : Int) = 0)) && (!decide ((nb_rd M l0 0 : Int) = 0) && (decide ((0 : Int) ≤ l4) && decide (l4 < nb_ln M (nb_rd M l0 0))))) && !decide ((l0 : Int) = 0)) && (!decide ((nb_rd M l0 0 : Int) = 0) && (decide ((0 : Int) ≤ l3) && decide (l3 < nb_ln M (nb_rd M l0 0)))))) (L2 := [(14, l0), (15, l1), (0, l2), (0, l3), (0, l4)]) (S2 := [(0, nb_rd M (nb_rd M l0 0) l3), (0, nb_rd M (nb_rd M l0 0) l4), (12, nb_rd M l1 3), (0, l3), (3, nb_rd M (nb_rd M l0 1) l4)]) (M2 := M) (t := 13) (cl := 220) (vi := true) rfl (by simp [h1, h2, h3, h4, h5, h6, h7, h8, h9, h10]) (nb_inv_eq (n := 3) rfl rfl rfl rfl rfl rfl (fun _ => h10) rfl)
theorem q_rw_settle_13 (l0 l1 l2 l3 l4 s0 s1 s2 : Int) (M : nb_M) (h1 : s2 ≠ 0) (h2 : s2 ≠ 1) (h3 : (0 : Int) ≤ s1) (h4 : s1 < nb_ln M s2) :
    nb_R nb_P 248 13 [(14, l0), (15, l1), (0, l2), (0, l3), (0, l4)] [(0, s0), (0, s1), (3, s2)] M = nb_R nb_P 248 14 [(14, l0), (15, l1), (0, l2), (0, l3), (0, l4)] [] (nb_wr M s2 s1 s0) :=
  nb_step (c := (true && (!decide ((s2 : Int) = 0) && (!decide ((s2 : Int) = 1) && (decide ((0 : Int) ≤ s1) && decide (s1 < nb_ln M s2)))))) rfl (by simp [h1, h2, h3, h4])
theorem q_rw_settle_14 (l0 l1 l2 l3 l4 : Int) (M : nb_M) :
    nb_R nb_P 248 14 [(14, l0), (15, l1), (0, l2), (0, l3), (0, l4)] [] M = nb_R nb_P 248 11 [(14, l0), (15, l1), (0, l2), (0, l3), (0, nb_add l4 1)] [] M :=
  nb_step (c := true) rfl rfl
theorem q_rw_settle_15 (l0 l1 l2 l3 : Int) (v4 : nb_V) (M : nb_M) (h1 : l0 ≠ 0) (h2 : (nb_rd M l0 1) ≠ 0) (h3 : (0 : Int) ≤ 7) (h4 : 7 < nb_ln M (nb_rd M l0 1)) (h5 : l1 ≠ 0) (h6 : (nb_rd M l1 1) ≠ 0) (h7 : (0 : Int) ≤ l2) (h8 : l2 < nb_ln M (nb_rd M l1 1)) (h9 : (nb_rd M (nb_rd M l1 1) l2) ≠ 0) (h10 : (nb_rd M l0 0) ≠ 0) (h11 : (0 : Int) ≤ l3) (h12 : l3 < nb_ln M (nb_rd M l0 0)) (h13 : (nb_rd M l1 3) ≠ 0) :
    nb_R nb_P 248 15 [(14, l0), (15, l1), (0, l2), (0, l3), v4] [] M = (nb_R nb_P 220 0 [(12, nb_rd M l1 3), (0, nb_rd M (nb_rd M (nb_rd M l1 1) l2) 7), (0, nb_rd M (nb_rd M l0 0) l3), (98, 0), (98, 0), (98, 0), (98, 0)] [] M).bind fun r => nb_R nb_P 248 16 [(14, l0), (15, l1), (0, l2), (0, l3), v4] (r.1 ++ [(0, l3), (3, nb_rd M (nb_rd M l0 1) 7)]) r.2 :=
  nb_stepC (c := ((((((((true && !decide ((l0 : Int) = 0)) && (!decide ((nb_rd M l0 1 : Int) = 0) && (decide ((0 : Int) ≤ 7) && decide (7 < nb_ln M (nb_rd M l0 1))))) && !decide ((l1 : Int) = 0)) && !decide ((l1 : Int) = 0)) && (!decide ((nb_rd M l1 1 : Int) = 0) && (decide ((0 : Int) ≤ l2) && decide (l2 < nb_ln M (nb_rd M l1 1))))) && !decide ((nb_rd M (nb_rd M l1 1) l2 : Int) = 0)) && !decide ((l0 : Int) = 0)) && (!decide ((nb_rd M l0 0 : Int) = 0) && (decide ((0 : Int) ≤ l3) && decide (l3 < nb_ln M (nb_rd M l0 0)))))) (L2 := [(14, l0), (15, l1), (0, l2), (0, l3), v4]) (S2 := [(0, nb_rd M (nb_rd M l0 0) l3), (0, nb_rd M (nb_rd M (nb_rd M l1 1) l2) 7), (12, nb_rd M l1 3), (0, l3), (3, nb_rd M (nb_rd M l0 1) 7)]) (M2 := M) (t := 16) (cl := 220) (vi := true) rfl (by simp [h1, h2, h3, h4, h5, h6, h7, h8, h9, h10, h11, h12, h13]) (nb_inv_eq (n := 3) rfl rfl rfl rfl rfl rfl (fun _ => h13) rfl)
theorem q_rw_settle_16 (l0 l1 l2 l3 s0 s1 s2 : Int) (v4 : nb_V) (M : nb_M) (h1 : s2 ≠ 0) (h2 : s2 ≠ 1) (h3 : (0 : Int) ≤ s1) (h4 : s1 < nb_ln M s2) :
    nb_R nb_P 248 16 [(14, l0), (15, l1), (0, l2), (0, l3), v4] [(0, s0), (0, s1), (3, s2)] M = nb_R nb_P 248 17 [(14, l0), (15, l1), (0, l2), (0, l3), v4] [] (nb_wr M s2 s1 s0) :=
  nb_step (c := (true && (!decide ((s2 : Int) = 0) && (!decide ((s2 : Int) = 1) && (decide ((0 : Int) ≤ s1) && decide (s1 < nb_ln M s2)))))) rfl (by simp [h1, h2, h3, h4])
theorem q_rw_settle_17 (l0 l1 l2 l3 : Int) (v4 : nb_V) (M : nb_M) :
    nb_R nb_P 248 17 [(14, l0), (15, l1), (0, l2), (0, l3), v4] [] M = nb_R nb_P 248 9 [(14, l0), (15, l1), (0, l2), (0, nb_add l3 1), v4] [] M :=
  nb_step (c := true) rfl rfl
theorem q_rw_settle_18 (l0 : Int) (v1 v2 v3 v4 : nb_V) (M : nb_M) :
    nb_R nb_P 248 18 [(14, l0), v1, v2, v3, v4] [] M = nb_R nb_P 248 19 [(14, l0), v1, nb_clr v2, (0, 1), v4] [] M :=
  nb_step (c := true) rfl rfl
theorem q_rw_settle_19 (l0 l3 : Int) (v1 v2 v4 : nb_V) (M : nb_M) (h1 : l0 ≠ 0) :
    nb_R nb_P 248 19 [(14, l0), v1, v2, (0, l3), v4] [] M = if l3 < nb_shl 1 (nb_rd M l0 3) then nb_R nb_P 248 20 [(14, l0), v1, v2, (0, l3), v4] [] M else nb_R nb_P 248 27 [(14, l0), v1, v2, (0, l3), v4] [] M :=
  nb_step (c := (true && !decide ((l0 : Int) = 0))) rfl (by simp [h1])
theorem q_rw_settle_20 (l0 l3 : Int) (v1 v2 v4 : nb_V) (M : nb_M) :
    nb_R nb_P 248 20 [(14, l0), v1, v2, (0, l3), v4] [] M = nb_R nb_P 248 21 [(14, l0), v1, v2, (0, l3), (0, 0)] [] M :=
  nb_step (c := true) rfl rfl
theorem q_rw_settle_21 (l0 l3 l4 : Int) (v1 v2 : nb_V) (M : nb_M) :
    nb_R nb_P 248 21 [(14, l0), v1, v2, (0, l3), (0, l4)] [] M = if l4 < 8 then nb_R nb_P 248 22 [(14, l0), v1, v2, (0, l3), (0, l4)] [] M else nb_R nb_P 248 26 [(14, l0), v1, v2, (0, l3), (0, l4)] [] M :=
  nb_step (c := true) rfl rfl
theorem q_rw_settle_22 (l0 l3 l4 : Int) (v1 v2 : nb_V) (M : nb_M) (h1 : l0 ≠ 0) :
    nb_R nb_P 248 22 [(14, l0), v1, v2, (0, l3), (0, l4)] [] M = (nb_R nb_P 250 0 [(14, l0), (0, l3), (0, l4), (98, 0), (98, 0), (98, 0), (98, 0)] [] M).bind fun r => nb_R nb_P 248 23 [(14, l0), v1, v2, (0, l3), (0, l4)] (r.1 ++ [(0, l4), (0, l3), (14, l0), (0, nb_add (nb_mul l3 8) l4), (3, nb_rd M l0 2)]) r.2 :=
  nb_stepC (c := (true && !decide ((l0 : Int) = 0))) (L2 := [(14, l0), v1, v2, (0, l3), (0, l4)]) (S2 := [(0, l4), (0, l3), (14, l0), (0, l4), (0, l3), (14, l0), (0, nb_add (nb_mul l3 8) l4), (3, nb_rd M l0 2)]) (M2 := M) (t := 23) (cl := 250) (vi := true) rfl (by simp [h1]) (nb_inv_eq (n := 3) rfl rfl rfl rfl rfl rfl (fun _ => h1) rfl)
theorem q_rw_settle_23 (l0 l3 l4 s0 s1 s2 s3 s4 s5 : Int) (v1 v2 : nb_V) (M : nb_M) (h1 : s3 ≠ 0) :
    nb_R nb_P 248 23 [(14, l0), v1, v2, (0, l3), (0, l4)] [(0, s0), (0, s1), (0, s2), (14, s3), (0, s4), (3, s5)] M = (nb_R nb_P 249 0 [(14, s3), (0, s2), (0, s1), (0, s0)] [] M).bind fun r => nb_R nb_P 248 24 [(14, l0), v1, v2, (0, l3), (0, l4)] (r.1 ++ [(0, s4), (3, s5)]) r.2 :=
  nb_stepC (c := true) (L2 := [(14, l0), v1, v2, (0, l3), (0, l4)]) (S2 := [(0, s0), (0, s1), (0, s2), (14, s3), (0, s4), (3, s5)]) (M2 := M) (t := 24) (cl := 249) (vi := true) rfl rfl (nb_inv_eq (n := 4) rfl rfl rfl rfl rfl rfl (fun _ => h1) rfl)
theorem q_rw_settle_24 (l0 l3 l4 s0 s1 s2 : Int) (v1 v2 : nb_V) (M : nb_M) (h1 : s2 ≠ 0) (h2 : s2 ≠ 1) (h3 : (0 : Int) ≤ s1) (h4 : s1 < nb_ln M s2) :
    nb_R nb_P 248 24 [(14, l0), v1, v2, (0, l3), (0, l4)] [(0, s0), (0, s1), (3, s2)] M = nb_R nb_P 248 25 [(14, l0), v1, v2, (0, l3), (0, l4)] [] (nb_wr M s2 s1 s0) :=
  nb_step (c := (true && (!decide ((s2 : Int) = 0) && (!decide ((s2 : Int) = 1) && (decide ((0 : Int) ≤ s1) && decide (s1 < nb_ln M s2)))))) rfl (by simp [h1, h2, h3, h4])
theorem q_rw_settle_25 (l0 l3 l4 : Int) (v1 v2 : nb_V) (M : nb_M) :
    nb_R nb_P 248 25 [(14, l0), v1, v2, (0, l3), (0, l4)] [] M = nb_R nb_P 248 21 [(14, l0), v1, v2, (0, l3), (0, nb_add l4 1)] [] M :=
  nb_step (c := true) rfl rfl
theorem q_rw_settle_26 (l0 l3 : Int) (v1 v2 v4 : nb_V) (M : nb_M) :
    nb_R nb_P 248 26 [(14, l0), v1, v2, (0, l3), v4] [] M = nb_R nb_P 248 19 [(14, l0), v1, nb_clr v2, (0, nb_add l3 1), v4] [] M :=
  nb_step (c := true) rfl rfl
theorem q_rw_settle_27 (v0 v1 v2 v3 v4 : nb_V) (M : nb_M) :
    nb_R nb_P 248 27 [v0, v1, v2, v3, v4] [] M = some ([], M) :=
  nb_step (c := true) rfl rfl
theorem q_rw_sumWith_0 (l0 l1 l2 l3 : Int) (M : nb_M) (h1 : l0 ≠ 0) (h2 : (nb_rd M l0 1) ≠ 0) (h3 : (0 : Int) ≤ l2) (h4 : l2 < nb_ln M (nb_rd M l0 1)) (h5 : (nb_rd M (nb_rd M l0 1) l2) ≠ 0) (h6 : (0 : Int) ≤ l3) (h7 : l3 < nb_ln M (nb_rd M (nb_rd M l0 1) l2)) :
    nb_R nb_P 249 0 [(14, l0), (0, l1), (0, l2), (0, l3)] [] M = (nb_R nb_P 294 0 [(0, l1)] [] M).bind fun r => nb_R nb_P 249 1 [(14, l0), (0, l1), (0, l2), (0, l3)] (r.1 ++ [(0, nb_rd M (nb_rd M (nb_rd M l0 1) l2) l3)]) r.2 :=
  nb_stepC (c := (((true && !decide ((l0 : Int) = 0)) && (!decide ((nb_rd M l0 1 : Int) = 0) && (decide ((0 : Int) ≤ l2) && decide (l2 < nb_ln M (nb_rd M l0 1))))) && (!decide ((nb_rd M (nb_rd M l0 1) l2 : Int) = 0) && (decide ((0 : Int) ≤ l3) && decide (l3 < nb_ln M (nb_rd M (nb_rd M l0 1) l2)))))) (L2 := [(14, l0), (0, l1), (0, l2), (0, l3)]) (S2 := [(0, l1), (0, nb_rd M (nb_rd M (nb_rd M l0 1) l2) l3)]) (M2 := M) (t := 1) (cl := 294) (vi := false) rfl (by simp [h1, h2, h3, h4, h5, h6, h7]) (nb_inv_eq (n := 1) rfl rfl rfl rfl rfl rfl (fun h => by cases h) rfl)
theorem q_rw_sumWith_1 (l0 l1 l3 s0 s1 : Int) (v2 : nb_V) (M : nb_M) (h1 : l0 ≠ 0) (h2 : (nb_rd M l0 2) ≠ 0) (h3 : (0 : Int) ≤ nb_add (nb_mul (nb_and l1 (nb_xor (nb_shl 1 l3) ((-1)))) 8) l3) (h4 : nb_add (nb_mul (nb_and l1 (nb_xor (nb_shl 1 l3) ((-1)))) 8) l3 < nb_ln M (nb_rd M l0 2)) :
    nb_R nb_P 249 1 [(14, l0), (0, l1), v2, (0, l3)] [(0, s0), (0, s1)] M = some ([(0, nb_add (nb_mul s1 s0) (nb_rd M (nb_rd M l0 2) (nb_add (nb_mul (nb_and l1 (nb_xor (nb_shl 1 l3) ((-1)))) 8) l3)))], M) :=
  nb_step (c := ((true && !decide ((l0 : Int) = 0)) && (!decide ((nb_rd M l0 2 : Int) = 0) && (decide ((0 : Int) ≤ nb_add (nb_mul (nb_and l1 (nb_xor (nb_shl 1 l3) ((-1)))) 8) l3) && decide (nb_add (nb_mul (nb_and l1 (nb_xor (nb_shl 1 l3) ((-1)))) 8) l3 < nb_ln M (nb_rd M l0 2)))))) rfl (by simp [h1, h2, h3, h4])
theorem q_rw_firstOf_0 (l0 l1 l2 : Int) (v3 v4 v5 v6 : nb_V) (M : nb_M) :
    nb_R nb_P 250 0 [(14, l0), (0, l1), (0, l2), v3, v4, v5, v6] [] M = nb_R nb_P 250 1 [(14, l0), (0, l1), (0, l2), (0, 0), (0, 1000000), (0, 0), v6] [] M :=
  nb_step (c := true) rfl rfl
theorem q_rw_firstOf_1 (l0 l1 l2 l3 l4 l5 : Int) (v6 : nb_V) (M : nb_M) (h1 : l0 ≠ 0) :
    nb_R nb_P 250 1 [(14, l0), (0, l1), (0, l2), (0, l3), (0, l4), (0, l5), v6] [] M = if l5 < nb_rd M l0 3 then nb_R nb_P 250 2 [(14, l0), (0, l1), (0, l2), (0, l3), (0, l4), (0, l5), v6] [] M else nb_R nb_P 250 7 [(14, l0), (0, l1), (0, l2), (0, l3), (0, l4), (0, l5), v6] [] M :=
  nb_step (c := (true && !decide ((l0 : Int) = 0))) rfl (by simp [h1])
theorem q_rw_firstOf_2 (l0 l1 l2 l3 l4 l5 : Int) (v6 : nb_V) (M : nb_M) :
    nb_R nb_P 250 2 [(14, l0), (0, l1), (0, l2), (0, l3), (0, l4), (0, l5), v6] [] M = if nb_and (nb_shr l1 l5) 1 = 1 then nb_R nb_P 250 3 [(14, l0), (0, l1), (0, l2), (0, l3), (0, l4), (0, l5), v6] [] M else nb_R nb_P 250 6 [(14, l0), (0, l1), (0, l2), (0, l3), (0, l4), (0, l5), v6] [] M :=
  nb_step (c := true) rfl rfl
theorem q_rw_firstOf_3 (l0 l1 l2 l3 l4 l5 : Int) (v6 : nb_V) (M : nb_M) (h1 : l0 ≠ 0) :
    nb_R nb_P 250 3 [(14, l0), (0, l1), (0, l2), (0, l3), (0, l4), (0, l5), v6] [] M = (nb_R nb_P 249 0 [(14, l0), (0, l1), (0, l2), (0, l5)] [] M).bind fun r => nb_R nb_P 250 4 [(14, l0), (0, l1), (0, l2), (0, l3), (0, l4), (0, l5), v6] (r.1 ++ []) r.2 :=
  nb_stepC (c := true) (L2 := [(14, l0), (0, l1), (0, l2), (0, l3), (0, l4), (0, l5), v6]) (S2 := [(0, l5), (0, l2), (0, l1), (14, l0)]) (M2 := M) (t := 4) (cl := 249) (vi := true) rfl rfl (nb_inv_eq (n := 4) rfl rfl rfl rfl rfl rfl (fun _ => h1) rfl)
theorem q_rw_firstOf_4 (l0 l1 l2 l3 l4 l5 s0 : Int) (v6 : nb_V) (M : nb_M) :
    nb_R nb_P 250 4 [(14, l0), (0, l1), (0, l2), (0, l3), (0, l4), (0, l5), v6] [(0, s0)] M = if s0 < l4 then nb_R nb_P 250 5 [(14, l0), (0, l1), (0, l2), (0, l3), (0, l4), (0, l5), (0, s0)] [] M else nb_R nb_P 250 6 [(14, l0), (0, l1), (0, l2), (0, l3), (0, l4), (0, l5), (0, s0)] [] M :=
  nb_step (c := true) rfl rfl
theorem q_rw_firstOf_5 (l0 l1 l2 l5 l6 : Int) (v3 v4 : nb_V) (M : nb_M) :
    nb_R nb_P 250 5 [(14, l0), (0, l1), (0, l2), v3, v4, (0, l5), (0, l6)] [] M = nb_R nb_P 250 6 [(14, l0), (0, l1), (0, l2), (0, l5), (0, l6), (0, l5), (0, l6)] [] M :=
  nb_step (c := true) rfl rfl
theorem q_rw_firstOf_6 (l0 l1 l2 l3 l4 l5 : Int) (v6 : nb_V) (M : nb_M) :
    nb_R nb_P 250 6 [(14, l0), (0, l1), (0, l2), (0, l3), (0, l4), (0, l5), v6] [] M = nb_R nb_P 250 1 [(14, l0), (0, l1), (0, l2), (0, l3), (0, l4), (0, nb_add l5 1), v6] [] M :=
  nb_step (c := true) rfl rfl
theorem q_rw_firstOf_7 (l3 : Int) (v0 v1 v2 v4 v5 v6 : nb_V) (M : nb_M) :
    nb_R nb_P 250 7 [v0, v1, v2, (0, l3), v4, v5, v6] [] M = some ([(0, l3)], M) :=
  nb_step (c := true) rfl rfl
theorem q_rw_leastSum_0 (l0 : Int) (M : nb_M) (h1 : l0 ≠ 0) :
    nb_R nb_P 251 0 [(14, l0)] [] M = nb_R nb_P 251 1 [(14, l0)] [(0, nb_add (nb_mul (nb_sub (nb_shl 1 (nb_rd M l0 3)) 1) 8) 7), (3, nb_rd M l0 2)] M :=
  nb_step (c := ((true && !decide ((l0 : Int) = 0)) && !decide ((l0 : Int) = 0))) rfl (by simp [h1])
theorem q_rw_leastSum_1 (s0 s1 : Int) (v0 : nb_V) (M : nb_M) (h1 : s1 ≠ 0) (h2 : (0 : Int) ≤ s0) (h3 : s0 < nb_ln M s1) :
    nb_R nb_P 251 1 [v0] [(0, s0), (3, s1)] M = some ([(0, nb_rd M s1 s0)], M) :=
  nb_step (c := (true && (!decide ((s1 : Int) = 0) && (decide ((0 : Int) ≤ s0) && decide (s0 < nb_ln M s1))))) rfl (by simp [h1, h2, h3])
theorem q_rw_inRow_0 (l0 l1 : Int) (v2 v3 v4 : nb_V) (M : nb_M) (h1 : l0 ≠ 0) :
    nb_R nb_P 252 0 [(14, l0), (0, l1), v2, v3, v4] [] M = nb_R nb_P 252 1 [(14, l0), (0, l1), (0, nb_sub (nb_shl 1 (nb_rd M l0 3)) 1), (0, 7), (0, 0)] [] M :=
  nb_step (c := (true && !decide ((l0 : Int) = 0))) rfl (by simp [h1])
theorem q_rw_inRow_1 (l0 l1 l2 l3 l4 : Int) (M : nb_M) :
    nb_R nb_P 252 1 [(14, l0), (0, l1), (0, l2), (0, l3), (0, l4)] [] M = if l1 < l4 then nb_R nb_P 252 5 [(14, l0), (0, l1), (0, l2), (0, l3), (0, l4)] [] M else nb_R nb_P 252 2 [(14, l0), (0, l1), (0, l2), (0, l3), (0, l4)] [] M :=
  nb_step (c := true) rfl rfl
theorem q_rw_inRow_2 (l0 l1 l2 l3 l4 : Int) (M : nb_M) (h1 : l0 ≠ 0) :
    nb_R nb_P 252 2 [(14, l0), (0, l1), (0, l2), (0, l3), (0, l4)] [] M = if l4 < nb_rd M l0 3 then nb_R nb_P 252 3 [(14, l0), (0, l1), (0, l2), (0, l3), (0, l4)] [] M else nb_R nb_P 252 5 [(14, l0), (0, l1), (0, l2), (0, l3), (0, l4)] [] M :=
  nb_step (c := (true && !decide ((l0 : Int) = 0))) rfl (by simp [h1])
theorem q_rw_inRow_3 (l0 l1 l2 l3 l4 : Int) (M : nb_M) (h1 : l0 ≠ 0) :
    nb_R nb_P 252 3 [(14, l0), (0, l1), (0, l2), (0, l3), (0, l4)] [] M = (nb_R nb_P 250 0 [(14, l0), (0, l2), (0, l3), (98, 0), (98, 0), (98, 0), (98, 0)] [] M).bind fun r => nb_R nb_P 252 4 [(14, l0), (0, l1), (0, l2), (0, l3), (0, l4)] (r.1 ++ []) r.2 :=
  nb_stepC (c := true) (L2 := [(14, l0), (0, l1), (0, l2), (0, l3), (0, l4)]) (S2 := [(0, l3), (0, l2), (14, l0)]) (M2 := M) (t := 4) (cl := 250) (vi := true) rfl rfl (nb_inv_eq (n := 3) rfl rfl rfl rfl rfl rfl (fun _ => h1) rfl)
theorem q_rw_inRow_4 (l0 l1 l2 l4 s0 : Int) (v3 : nb_V) (M : nb_M) :
    nb_R nb_P 252 4 [(14, l0), (0, l1), (0, l2), v3, (0, l4)] [(0, s0)] M = nb_R nb_P 252 1 [(14, l0), (0, l1), (0, nb_and l2 (nb_xor (nb_shl 1 s0) ((-1)))), (0, s0), (0, nb_add l4 1)] [] M :=
  nb_step (c := true) rfl rfl
theorem q_rw_inRow_5 (l0 l3 : Int) (v1 v2 v4 : nb_V) (M : nb_M) (h1 : l0 ≠ 0) :
    nb_R nb_P 252 5 [(14, l0), v1, v2, (0, l3), v4] [] M = if l3 < nb_rd M l0 3 then nb_R nb_P 252 6 [(14, l0), v1, v2, (0, l3), v4] [] M else nb_R nb_P 252 7 [(14, l0), v1, v2, (0, l3), v4] [] M :=
  nb_step (c := (true && !decide ((l0 : Int) = 0))) rfl (by simp [h1])
theorem q_rw_inRow_6 (l0 l3 : Int) (v1 v2 v4 : nb_V) (M : nb_M) (h1 : l0 ≠ 0) (h2 : (nb_rd M l0 0) ≠ 0) (h3 : (0 : Int) ≤ l3) (h4 : l3 < nb_ln M (nb_rd M l0 0)) :
    nb_R nb_P 252 6 [(14, l0), v1, v2, (0, l3), v4] [] M = nb_R nb_P 252 8 [(14, l0), v1, v2, (0, l3), v4] [(0, nb_rd M (nb_rd M l0 0) l3)] M :=
  nb_step (c := ((true && !decide ((l0 : Int) = 0)) && (!decide ((nb_rd M l0 0 : Int) = 0) && (decide ((0 : Int) ≤ l3) && decide (l3 < nb_ln M (nb_rd M l0 0)))))) rfl (by simp [h1, h2, h3, h4])
theorem q_rw_inRow_7 (v0 v1 v2 v3 v4 : nb_V) (M : nb_M) :
    nb_R nb_P 252 7 [v0, v1, v2, v3, v4] [] M = nb_R nb_P 252 8 [v0, v1, v2, v3, v4] [(0, (-1))] M :=
  nb_step (c := true) rfl rfl
theorem q_rw_inRow_8 (s0 : Int) (v0 v1 v2 v3 v4 : nb_V) (M : nb_M) :
    nb_R nb_P 252 8 [v0, v1, v2, v3, v4] [(0, s0)] M = some ([(0, s0)], M) :=
  nb_step (c := true) rfl rfl
theorem q_sc_init_0 (l0 l1 : Int) (v2 : nb_V) (M : nb_M) (h1 : l0 ≠ 0) :
    nb_R nb_P 253 0 [(15, l0), (12, l1), v2] [] M = ((some ([], M) : nb_A)).bind fun r => nb_R nb_P 253 1 [(15, l0), (12, l1), v2] (r.1 ++ []) r.2 :=
  nb_stepC (c := true) (L2 := [(15, l0), (12, l1), v2]) (S2 := [(15, l0)]) (M2 := M) (t := 1) (cl := 900) (vi := true) rfl rfl (nb_inv_eq (n := 1) rfl rfl rfl rfl rfl rfl (fun _ => h1) rfl)
theorem q_sc_init_1 (l0 l1 : Int) (v2 : nb_V) (M : nb_M) (h1 : M.2.2.1 = 0) :
    nb_R nb_P 253 1 [(15, l0), (12, l1), v2] [] M = nb_R nb_P 253 2 [(15, l0), (12, l1), v2] [(7, nb_nx M), (15, l0)] (nb_al M 4 10) :=
  nb_step (c := (true && (decide (M.2.2.1 = 0) && (decide ((0 : Int) ≤ 10) && decide ((10 : Int) ≤ 100000))))) rfl (by simp [h1])
theorem q_sc_init_2 (l0 l1 s0 s1 : Int) (v2 : nb_V) (M : nb_M) (h1 : s1 ≠ 0) :
    nb_R nb_P 253 2 [(15, l0), (12, l1), v2] [(7, s0), (15, s1)] M = nb_R nb_P 253 3 [(15, l0), (12, l1), v2] [] (nb_wr M s1 0 s0) :=
  nb_step (c := (true && (!decide ((s1 : Int) = 0) && (!false || (decide ((s0 : Int) = 0) || decide ((s0 : Int) = 1)))))) rfl (by simp [h1])
theorem q_sc_init_3 (l0 l1 : Int) (v2 : nb_V) (M : nb_M) (h1 : M.2.2.1 = 0) :
    nb_R nb_P 253 3 [(15, l0), (12, l1), v2] [] M = nb_R nb_P 253 4 [(15, l0), (12, l1), v2] [(8, nb_nx M), (15, l0)] (nb_al M 5 4) :=
  nb_step (c := (true && (decide (M.2.2.1 = 0) && (decide ((0 : Int) ≤ 4) && decide ((4 : Int) ≤ 100000))))) rfl (by simp [h1])
theorem q_sc_init_4 (l0 l1 s0 s1 : Int) (v2 : nb_V) (M : nb_M) (h1 : s1 ≠ 0) :
    nb_R nb_P 253 4 [(15, l0), (12, l1), v2] [(8, s0), (15, s1)] M = nb_R nb_P 253 5 [(15, l0), (12, l1), v2] [] (nb_wr M s1 1 s0) :=
  nb_step (c := (true && (!decide ((s1 : Int) = 0) && (!false || (decide ((s0 : Int) = 0) || decide ((s0 : Int) = 1)))))) rfl (by simp [h1])
theorem q_sc_init_5 (l0 l1 : Int) (v2 : nb_V) (M : nb_M) (h1 : M.2.2.1 = 0) :
    nb_R nb_P 253 5 [(15, l0), (12, l1), v2] [] M = nb_R nb_P 253 6 [(15, l0), (12, l1), v2] [(3, nb_nx M), (15, l0)] (nb_al M 0 10) :=
  nb_step (c := (true && (decide (M.2.2.1 = 0) && (decide ((0 : Int) ≤ 10) && decide ((10 : Int) ≤ 100000))))) rfl (by simp [h1])
theorem q_sc_init_6 (l0 l1 s0 s1 : Int) (v2 : nb_V) (M : nb_M) (h1 : s1 ≠ 0) :
    nb_R nb_P 253 6 [(15, l0), (12, l1), v2] [(3, s0), (15, s1)] M = nb_R nb_P 253 7 [(15, l0), (12, l1), v2] [] (nb_wr M s1 2 s0) :=
  nb_step (c := (true && (!decide ((s1 : Int) = 0) && (!false || (decide ((s0 : Int) = 0) || decide ((s0 : Int) = 1)))))) rfl (by simp [h1])
theorem q_sc_init_7 (l0 l1 : Int) (v2 : nb_V) (M : nb_M) (h1 : l0 ≠ 0) :
    nb_R nb_P 253 7 [(15, l0), (12, l1), v2] [] M = nb_R nb_P 253 8 [(15, l0), (12, l1), v2] [] (nb_wr M l0 3 l1) :=
  nb_step (c := (true && (!decide ((l0 : Int) = 0) && (!false || (decide ((l1 : Int) = 0) || decide ((l1 : Int) = 1)))))) rfl (by simp [h1])
theorem q_sc_init_8 (l0 : Int) (v1 v2 : nb_V) (M : nb_M) :
    nb_R nb_P 253 8 [(15, l0), v1, v2] [] M = nb_R nb_P 253 9 [(15, l0), nb_clr v1, (0, 0)] [] M :=
  nb_step (c := true) rfl rfl
theorem q_sc_init_9 (l0 l2 : Int) (v1 : nb_V) (M : nb_M) :
    nb_R nb_P 253 9 [(15, l0), v1, (0, l2)] [] M = if l2 < 10 then nb_R nb_P 253 10 [(15, l0), v1, (0, l2)] [] M else nb_R nb_P 253 14 [(15, l0), v1, (0, l2)] [] M :=
  nb_step (c := true) rfl rfl
theorem q_sc_init_10 (l0 l2 : Int) (v1 : nb_V) (M : nb_M) (h1 : l0 ≠ 0) (h2 : M.2.2.1 = 0) :
    nb_R nb_P 253 10 [(15, l0), v1, (0, l2)] [] M = nb_R nb_P 253 11 [(15, l0), v1, (0, l2)] [(11, nb_nx M), (0, l2), (7, nb_rd M l0 0)] (nb_al M 8 15) :=
  nb_step (c := ((true && !decide ((l0 : Int) = 0)) && decide (M.2.2.1 = 0))) rfl (by simp [h1, h2])
theorem q_sc_init_11 (l0 l2 s0 s1 s2 : Int) (v1 : nb_V) (M : nb_M) (h1 : s0 ≠ 0) :
    nb_R nb_P 253 11 [(15, l0), v1, (0, l2)] [(11, s0), (0, s1), (7, s2)] M = (nb_R nb_P 214 0 [(11, s0)] [] M).bind fun r => nb_R nb_P 253 12 [(15, l0), v1, (0, l2)] (r.1 ++ [(11, s0), (0, s1), (7, s2)]) r.2 :=
  nb_stepC (c := true) (L2 := [(15, l0), v1, (0, l2)]) (S2 := [(11, s0), (11, s0), (0, s1), (7, s2)]) (M2 := M) (t := 12) (cl := 214) (vi := true) rfl rfl (nb_inv_eq (n := 1) rfl rfl rfl rfl rfl rfl (fun _ => h1) rfl)
theorem q_sc_init_12 (l0 l2 s0 s1 s2 : Int) (v1 : nb_V) (M : nb_M) (h1 : s0 ≠ 0) (h2 : s2 ≠ 0) (h3 : s2 ≠ 1) (h4 : (0 : Int) ≤ s1) (h5 : s1 < nb_ln M s2) :
    nb_R nb_P 253 12 [(15, l0), v1, (0, l2)] [(11, s0), (0, s1), (7, s2)] M = nb_R nb_P 253 13 [(15, l0), v1, (0, l2)] [] (nb_wr M s2 s1 s0) :=
  nb_step (c := ((true && !decide ((s0 : Int) = 0)) && (!decide ((s2 : Int) = 0) && (!decide ((s2 : Int) = 1) && (decide ((0 : Int) ≤ s1) && decide (s1 < nb_ln M s2)))))) rfl (by simp [h1, h2, h3, h4, h5])
theorem q_sc_init_13 (l0 l2 : Int) (v1 : nb_V) (M : nb_M) :
    nb_R nb_P 253 13 [(15, l0), v1, (0, l2)] [] M = nb_R nb_P 253 9 [(15, l0), nb_clr v1, (0, nb_add l2 1)] [] M :=
  nb_step (c := true) rfl rfl
theorem q_sc_init_14 (l0 : Int) (v1 v2 : nb_V) (M : nb_M) :
    nb_R nb_P 253 14 [(15, l0), v1, v2] [] M = nb_R nb_P 253 15 [(15, l0), nb_clr v1, (0, 0)] [] M :=
  nb_step (c := true) rfl rfl
theorem q_sc_init_15 (l0 l2 : Int) (v1 : nb_V) (M : nb_M) :
    nb_R nb_P 253 15 [(15, l0), v1, (0, l2)] [] M = if 3 < l2 then nb_R nb_P 253 20 [(15, l0), v1, (0, l2)] [] M else nb_R nb_P 253 16 [(15, l0), v1, (0, l2)] [] M :=
  nb_step (c := true) rfl rfl
theorem q_sc_init_16 (l0 l2 : Int) (v1 : nb_V) (M : nb_M) (h1 : l0 ≠ 0) (h2 : M.2.2.1 = 0) :
    nb_R nb_P 253 16 [(15, l0), v1, (0, l2)] [] M = nb_R nb_P 253 17 [(15, l0), v1, (0, l2)] [(16, nb_nx M), (0, l2), (8, nb_rd M l0 1)] (nb_al M 13 8) :=
  nb_step (c := ((true && !decide ((l0 : Int) = 0)) && decide (M.2.2.1 = 0))) rfl (by simp [h1, h2])
theorem q_sc_init_17 (l0 l2 s0 s1 s2 : Int) (v1 : nb_V) (M : nb_M) (h1 : s0 ≠ 0) :
    nb_R nb_P 253 17 [(15, l0), v1, (0, l2)] [(16, s0), (0, s1), (8, s2)] M = (nb_R nb_P 271 0 [(16, s0)] [] M).bind fun r => nb_R nb_P 253 18 [(15, l0), v1, (0, l2)] (r.1 ++ [(16, s0), (0, s1), (8, s2)]) r.2 :=
  nb_stepC (c := true) (L2 := [(15, l0), v1, (0, l2)]) (S2 := [(16, s0), (16, s0), (0, s1), (8, s2)]) (M2 := M) (t := 18) (cl := 271) (vi := true) rfl rfl (nb_inv_eq (n := 1) rfl rfl rfl rfl rfl rfl (fun _ => h1) rfl)
theorem q_sc_init_18 (l0 l2 s0 s1 s2 : Int) (v1 : nb_V) (M : nb_M) (h1 : s0 ≠ 0) (h2 : s2 ≠ 0) (h3 : s2 ≠ 1) (h4 : (0 : Int) ≤ s1) (h5 : s1 < nb_ln M s2) :
    nb_R nb_P 253 18 [(15, l0), v1, (0, l2)] [(16, s0), (0, s1), (8, s2)] M = nb_R nb_P 253 19 [(15, l0), v1, (0, l2)] [] (nb_wr M s2 s1 s0) :=
  nb_step (c := ((true && !decide ((s0 : Int) = 0)) && (!decide ((s2 : Int) = 0) && (!decide ((s2 : Int) = 1) && (decide ((0 : Int) ≤ s1) && decide (s1 < nb_ln M s2)))))) rfl (by simp [h1, h2, h3, h4, h5])
theorem q_sc_init_19 (l0 l2 : Int) (v1 : nb_V) (M : nb_M) :
    nb_R nb_P 253 19 [(15, l0), v1, (0, l2)] [] M = nb_R nb_P 253 15 [(15, l0), nb_clr v1, (0, nb_add l2 1)] [] M :=
  nb_step (c := true) rfl rfl
theorem q_sc_init_20 (v0 v1 v2 : nb_V) (M : nb_M) :
    nb_R nb_P 253 20 [v0, v1, v2] [] M = some ([], M) :=
  nb_step (c := true) rfl rfl
theorem q_sc_open_0 (l0 l1 : Int) (v2 : nb_V) (M : nb_M) (h1 : l0 ≠ 0) :
    nb_R nb_P 254 0 [(15, l0), (12, l1), v2] [] M = nb_R nb_P 254 1 [(15, l0), (12, l1), v2] [] (nb_wr M l0 3 l1) :=
  nb_step (c := (true && (!decide ((l0 : Int) = 0) && (!false || (decide ((l1 : Int) = 0) || decide ((l1 : Int) = 1)))))) rfl (by simp [h1])
theorem q_sc_open_1 (l0 l1 : Int) (v2 : nb_V) (M : nb_M) (h1 : l1 ≠ 0) (h2 : l0 ≠ 0) :
    nb_R nb_P 254 1 [(15, l0), (12, l1), v2] [] M = nb_R nb_P 254 2 [(15, l0), (12, l1), v2] [] (nb_wr M l0 4 (nb_rd M l1 13)) :=
  nb_step (c := ((true && !decide ((l1 : Int) = 0)) && (!decide ((l0 : Int) = 0) && (!false || (decide ((nb_rd M l1 13 : Int) = 0) || decide ((nb_rd M l1 13 : Int) = 1)))))) rfl (by simp [h1, h2])
theorem q_sc_open_2 (l0 l1 : Int) (v2 : nb_V) (M : nb_M) (h1 : l1 ≠ 0) (h2 : l0 ≠ 0) :
    nb_R nb_P 254 2 [(15, l0), (12, l1), v2] [] M = nb_R nb_P 254 3 [(15, l0), (12, l1), v2] [] (nb_wr M l0 5 (nb_rd M l1 12)) :=
  nb_step (c := ((true && !decide ((l1 : Int) = 0)) && (!decide ((l0 : Int) = 0) && (!false || (decide ((nb_rd M l1 12 : Int) = 0) || decide ((nb_rd M l1 12 : Int) = 1)))))) rfl (by simp [h1, h2])
theorem q_sc_open_3 (l0 l1 : Int) (v2 : nb_V) (M : nb_M) (h1 : l0 ≠ 0) :
    nb_R nb_P 254 3 [(15, l0), (12, l1), v2] [] M = nb_R nb_P 254 4 [(15, l0), (12, l1), v2] [] (nb_wr M l0 6 0) :=
  nb_step (c := (true && (!decide ((l0 : Int) = 0) && (!false || (decide ((0 : Int) = 0) || decide ((0 : Int) = 1)))))) rfl (by simp [h1])
theorem q_sc_open_4 (l0 l1 : Int) (v2 : nb_V) (M : nb_M) (h1 : l0 ≠ 0) :
    nb_R nb_P 254 4 [(15, l0), (12, l1), v2] [] M = nb_R nb_P 254 5 [(15, l0), (12, l1), v2] [] (nb_wr M l0 7 0) :=
  nb_step (c := (true && (!decide ((l0 : Int) = 0) && (!false || (decide ((0 : Int) = 0) || decide ((0 : Int) = 1)))))) rfl (by simp [h1])
theorem q_sc_open_5 (l0 l1 : Int) (v2 : nb_V) (M : nb_M) (h1 : l1 ≠ 0) (h2 : l0 ≠ 0) :
    nb_R nb_P 254 5 [(15, l0), (12, l1), v2] [] M = nb_R nb_P 254 6 [(15, l0), (12, l1), v2] [] (nb_wr M l0 8 (nb_rd M l1 10)) :=
  nb_step (c := ((true && !decide ((l1 : Int) = 0)) && (!decide ((l0 : Int) = 0) && (!false || (decide ((nb_rd M l1 10 : Int) = 0) || decide ((nb_rd M l1 10 : Int) = 1)))))) rfl (by simp [h1, h2])
theorem q_sc_open_6 (l0 l1 : Int) (v2 : nb_V) (M : nb_M) :
    nb_R nb_P 254 6 [(15, l0), (12, l1), v2] [] M = nb_R nb_P 254 7 [(15, l0), (12, l1), (0, 0)] [] M :=
  nb_step (c := true) rfl rfl
theorem q_sc_open_7 (l0 l1 l2 : Int) (M : nb_M) (h1 : l0 ≠ 0) :
    nb_R nb_P 254 7 [(15, l0), (12, l1), (0, l2)] [] M = if l2 < nb_rd M l0 4 then nb_R nb_P 254 8 [(15, l0), (12, l1), (0, l2)] [] M else nb_R nb_P 254 10 [(15, l0), (12, l1), (0, l2)] [] M :=
  nb_step (c := (true && !decide ((l0 : Int) = 0))) rfl (by simp [h1])
theorem q_sc_open_8 (l0 l1 l2 : Int) (M : nb_M) (h1 : l0 ≠ 0) (h2 : (nb_rd M l0 0) ≠ 0) (h3 : (0 : Int) ≤ l2) (h4 : l2 < nb_ln M (nb_rd M l0 0)) (h5 : l1 ≠ 0) (h6 : (nb_rd M l1 4) ≠ 0) (h7 : l2 < nb_ln M (nb_rd M l1 4)) (h8 : (nb_rd M (nb_rd M l0 0) l2) ≠ 0) :
    nb_R nb_P 254 8 [(15, l0), (12, l1), (0, l2)] [] M = (nb_R nb_P 215 0 [(11, nb_rd M (nb_rd M l0 0) l2), (11, nb_rd M (nb_rd M l1 4) l2)] [] M).bind fun r => nb_R nb_P 254 9 [(15, l0), (12, l1), (0, l2)] (r.1 ++ []) r.2 :=
  nb_stepC (c := ((((true && !decide ((l0 : Int) = 0)) && (!decide ((nb_rd M l0 0 : Int) = 0) && (decide ((0 : Int) ≤ l2) && decide (l2 < nb_ln M (nb_rd M l0 0))))) && !decide ((l1 : Int) = 0)) && (!decide ((nb_rd M l1 4 : Int) = 0) && (decide ((0 : Int) ≤ l2) && decide (l2 < nb_ln M (nb_rd M l1 4)))))) (L2 := [(15, l0), (12, l1), (0, l2)]) (S2 := [(11, nb_rd M (nb_rd M l1 4) l2), (11, nb_rd M (nb_rd M l0 0) l2)]) (M2 := M) (t := 9) (cl := 215) (vi := true) rfl (by simp [h1, h2, h3, h4, h5, h6, h7, h8]) (nb_inv_eq (n := 2) rfl rfl rfl rfl rfl rfl (fun _ => h8) rfl)
theorem q_sc_open_9 (l0 l1 l2 : Int) (M : nb_M) :
    nb_R nb_P 254 9 [(15, l0), (12, l1), (0, l2)] [] M = nb_R nb_P 254 7 [(15, l0), (12, l1), (0, nb_add l2 1)] [] M :=
  nb_step (c := true) rfl rfl
theorem q_sc_open_10 (l0 l1 : Int) (v2 : nb_V) (M : nb_M) :
    nb_R nb_P 254 10 [(15, l0), (12, l1), v2] [] M = nb_R nb_P 254 11 [(15, l0), (12, l1), (0, 0)] [] M :=
  nb_step (c := true) rfl rfl
theorem q_sc_open_11 (l0 l1 l2 : Int) (M : nb_M) (h1 : l0 ≠ 0) :
    nb_R nb_P 254 11 [(15, l0), (12, l1), (0, l2)] [] M = if l2 < nb_rd M l0 5 then nb_R nb_P 254 12 [(15, l0), (12, l1), (0, l2)] [] M else nb_R nb_P 254 14 [(15, l0), (12, l1), (0, l2)] [] M :=
  nb_step (c := (true && !decide ((l0 : Int) = 0))) rfl (by simp [h1])
theorem q_sc_open_12 (l0 l1 l2 : Int) (M : nb_M) (h1 : l0 ≠ 0) (h2 : (nb_rd M l0 1) ≠ 0) (h3 : (0 : Int) ≤ l2) (h4 : l2 < nb_ln M (nb_rd M l0 1)) (h5 : l1 ≠ 0) (h6 : (nb_rd M l1 5) ≠ 0) (h7 : l2 < nb_ln M (nb_rd M l1 5)) (h8 : (nb_rd M (nb_rd M l0 1) l2) ≠ 0) :
    nb_R nb_P 254 12 [(15, l0), (12, l1), (0, l2)] [] M = (nb_R nb_P 273 0 [(16, nb_rd M (nb_rd M l0 1) l2), (16, nb_rd M (nb_rd M l1 5) l2)] [] M).bind fun r => nb_R nb_P 254 13 [(15, l0), (12, l1), (0, l2)] (r.1 ++ []) r.2 :=
  nb_stepC (c := ((((true && !decide ((l0 : Int) = 0)) && (!decide ((nb_rd M l0 1 : Int) = 0) && (decide ((0 : Int) ≤ l2) && decide (l2 < nb_ln M (nb_rd M l0 1))))) && !decide ((l1 : Int) = 0)) && (!decide ((nb_rd M l1 5 : Int) = 0) && (decide ((0 : Int) ≤ l2) && decide (l2 < nb_ln M (nb_rd M l1 5)))))) (L2 := [(15, l0), (12, l1), (0, l2)]) (S2 := [(16, nb_rd M (nb_rd M l1 5) l2), (16, nb_rd M (nb_rd M l0 1) l2)]) (M2 := M) (t := 13) (cl := 273) (vi := true) rfl (by simp [h1, h2, h3, h4, h5, h6, h7, h8]) (nb_inv_eq (n := 2) rfl rfl rfl rfl rfl rfl (fun _ => h8) rfl)
theorem q_sc_open_13 (l0 l1 l2 : Int) (M : nb_M) :
    nb_R nb_P 254 13 [(15, l0), (12, l1), (0, l2)] [] M = nb_R nb_P 254 11 [(15, l0), (12, l1), (0, nb_add l2 1)] [] M :=
  nb_step (c := true) rfl rfl
theorem q_sc_open_14 (v0 v1 v2 : nb_V) (M : nb_M) :
    nb_R nb_P 254 14 [v0, v1, v2] [] M = some ([], M) :=
  nb_step (c := true) rfl rfl
theorem q_sc_take_0 (l0 l1 : Int) (v2 : nb_V) (M : nb_M) (h1 : l1 ≠ 0) (h2 : l0 ≠ 0) :
    nb_R nb_P 255 0 [(15, l0), (15, l1), v2] [] M = nb_R nb_P 255 1 [(15, l0), (15, l1), v2] [] (nb_wr M l0 3 (nb_rd M l1 3)) :=
  nb_step (c := ((true && !decide ((l1 : Int) = 0)) && (!decide ((l0 : Int) = 0) && (!false || (decide ((nb_rd M l1 3 : Int) = 0) || decide ((nb_rd M l1 3 : Int) = 1)))))) rfl (by simp [h1, h2])
theorem q_sc_take_1 (l0 l1 : Int) (v2 : nb_V) (M : nb_M) (h1 : l1 ≠ 0) (h2 : l0 ≠ 0) :
    nb_R nb_P 255 1 [(15, l0), (15, l1), v2] [] M = nb_R nb_P 255 2 [(15, l0), (15, l1), v2] [] (nb_wr M l0 4 (nb_rd M l1 4)) :=
  nb_step (c := ((true && !decide ((l1 : Int) = 0)) && (!decide ((l0 : Int) = 0) && (!false || (decide ((nb_rd M l1 4 : Int) = 0) || decide ((nb_rd M l1 4 : Int) = 1)))))) rfl (by simp [h1, h2])
theorem q_sc_take_2 (l0 l1 : Int) (v2 : nb_V) (M : nb_M) (h1 : l1 ≠ 0) (h2 : l0 ≠ 0) :
    nb_R nb_P 255 2 [(15, l0), (15, l1), v2] [] M = nb_R nb_P 255 3 [(15, l0), (15, l1), v2] [] (nb_wr M l0 5 (nb_rd M l1 5)) :=
  nb_step (c := ((true && !decide ((l1 : Int) = 0)) && (!decide ((l0 : Int) = 0) && (!false || (decide ((nb_rd M l1 5 : Int) = 0) || decide ((nb_rd M l1 5 : Int) = 1)))))) rfl (by simp [h1, h2])
theorem q_sc_take_3 (l0 l1 : Int) (v2 : nb_V) (M : nb_M) (h1 : l1 ≠ 0) (h2 : l0 ≠ 0) :
    nb_R nb_P 255 3 [(15, l0), (15, l1), v2] [] M = nb_R nb_P 255 4 [(15, l0), (15, l1), v2] [] (nb_wr M l0 6 (nb_rd M l1 6)) :=
  nb_step (c := ((true && !decide ((l1 : Int) = 0)) && (!decide ((l0 : Int) = 0) && (!false || (decide ((nb_rd M l1 6 : Int) = 0) || decide ((nb_rd M l1 6 : Int) = 1)))))) rfl (by simp [h1, h2])
theorem q_sc_take_4 (l0 l1 : Int) (v2 : nb_V) (M : nb_M) (h1 : l1 ≠ 0) (h2 : l0 ≠ 0) :
    nb_R nb_P 255 4 [(15, l0), (15, l1), v2] [] M = nb_R nb_P 255 5 [(15, l0), (15, l1), v2] [] (nb_wr M l0 7 (nb_rd M l1 7)) :=
  nb_step (c := ((true && !decide ((l1 : Int) = 0)) && (!decide ((l0 : Int) = 0) && (!false || (decide ((nb_rd M l1 7 : Int) = 0) || decide ((nb_rd M l1 7 : Int) = 1)))))) rfl (by simp [h1, h2])
theorem q_sc_take_5 (l0 l1 : Int) (v2 : nb_V) (M : nb_M) (h1 : l1 ≠ 0) (h2 : l0 ≠ 0) :
    nb_R nb_P 255 5 [(15, l0), (15, l1), v2] [] M = nb_R nb_P 255 6 [(15, l0), (15, l1), v2] [] (nb_wr M l0 8 (nb_rd M l1 8)) :=
  nb_step (c := ((true && !decide ((l1 : Int) = 0)) && (!decide ((l0 : Int) = 0) && (!false || (decide ((nb_rd M l1 8 : Int) = 0) || decide ((nb_rd M l1 8 : Int) = 1)))))) rfl (by simp [h1, h2])
theorem q_sc_take_6 (l0 l1 : Int) (v2 : nb_V) (M : nb_M) :
    nb_R nb_P 255 6 [(15, l0), (15, l1), v2] [] M = nb_R nb_P 255 7 [(15, l0), (15, l1), (0, 0)] [] M :=
  nb_step (c := true) rfl rfl
theorem q_sc_take_7 (l0 l1 l2 : Int) (M : nb_M) (h1 : l0 ≠ 0) :
    nb_R nb_P 255 7 [(15, l0), (15, l1), (0, l2)] [] M = if l2 < nb_rd M l0 4 then nb_R nb_P 255 8 [(15, l0), (15, l1), (0, l2)] [] M else nb_R nb_P 255 10 [(15, l0), (15, l1), (0, l2)] [] M :=
  nb_step (c := (true && !decide ((l0 : Int) = 0))) rfl (by simp [h1])
theorem q_sc_take_8 (l0 l1 l2 : Int) (M : nb_M) (h1 : l0 ≠ 0) (h2 : (nb_rd M l0 0) ≠ 0) (h3 : (0 : Int) ≤ l2) (h4 : l2 < nb_ln M (nb_rd M l0 0)) (h5 : l1 ≠ 0) (h6 : (nb_rd M l1 0) ≠ 0) (h7 : l2 < nb_ln M (nb_rd M l1 0)) (h8 : (nb_rd M (nb_rd M l0 0) l2) ≠ 0) :
    nb_R nb_P 255 8 [(15, l0), (15, l1), (0, l2)] [] M = (nb_R nb_P 215 0 [(11, nb_rd M (nb_rd M l0 0) l2), (11, nb_rd M (nb_rd M l1 0) l2)] [] M).bind fun r => nb_R nb_P 255 9 [(15, l0), (15, l1), (0, l2)] (r.1 ++ []) r.2 :=
  nb_stepC (c := ((((true && !decide ((l0 : Int) = 0)) && (!decide ((nb_rd M l0 0 : Int) = 0) && (decide ((0 : Int) ≤ l2) && decide (l2 < nb_ln M (nb_rd M l0 0))))) && !decide ((l1 : Int) = 0)) && (!decide ((nb_rd M l1 0 : Int) = 0) && (decide ((0 : Int) ≤ l2) && decide (l2 < nb_ln M (nb_rd M l1 0)))))) (L2 := [(15, l0), (15, l1), (0, l2)]) (S2 := [(11, nb_rd M (nb_rd M l1 0) l2), (11, nb_rd M (nb_rd M l0 0) l2)]) (M2 := M) (t := 9) (cl := 215) (vi := true) rfl (by simp [h1, h2, h3, h4, h5, h6, h7, h8]) (nb_inv_eq (n := 2) rfl rfl rfl rfl rfl rfl (fun _ => h8) rfl)
theorem q_sc_take_9 (l0 l1 l2 : Int) (M : nb_M) :
    nb_R nb_P 255 9 [(15, l0), (15, l1), (0, l2)] [] M = nb_R nb_P 255 7 [(15, l0), (15, l1), (0, nb_add l2 1)] [] M :=
  nb_step (c := true) rfl rfl
theorem q_sc_take_10 (l0 l1 : Int) (v2 : nb_V) (M : nb_M) :
    nb_R nb_P 255 10 [(15, l0), (15, l1), v2] [] M = nb_R nb_P 255 11 [(15, l0), (15, l1), (0, 0)] [] M :=
  nb_step (c := true) rfl rfl
theorem q_sc_take_11 (l0 l1 l2 : Int) (M : nb_M) (h1 : l0 ≠ 0) :
    nb_R nb_P 255 11 [(15, l0), (15, l1), (0, l2)] [] M = if l2 < nb_rd M l0 5 then nb_R nb_P 255 12 [(15, l0), (15, l1), (0, l2)] [] M else nb_R nb_P 255 14 [(15, l0), (15, l1), (0, l2)] [] M :=
  nb_step (c := (true && !decide ((l0 : Int) = 0))) rfl (by simp [h1])
theorem q_sc_take_12 (l0 l1 l2 : Int) (M : nb_M) (h1 : l0 ≠ 0) (h2 : (nb_rd M l0 1) ≠ 0) (h3 : (0 : Int) ≤ l2) (h4 : l2 < nb_ln M (nb_rd M l0 1)) (h5 : l1 ≠ 0) (h6 : (nb_rd M l1 1) ≠ 0) (h7 : l2 < nb_ln M (nb_rd M l1 1)) (h8 : (nb_rd M (nb_rd M l0 1) l2) ≠ 0) :
    nb_R nb_P 255 12 [(15, l0), (15, l1), (0, l2)] [] M = (nb_R nb_P 273 0 [(16, nb_rd M (nb_rd M l0 1) l2), (16, nb_rd M (nb_rd M l1 1) l2)] [] M).bind fun r => nb_R nb_P 255 13 [(15, l0), (15, l1), (0, l2)] (r.1 ++ []) r.2 :=
  nb_stepC (c := ((((true && !decide ((l0 : Int) = 0)) && (!decide ((nb_rd M l0 1 : Int) = 0) && (decide ((0 : Int) ≤ l2) && decide (l2 < nb_ln M (nb_rd M l0 1))))) && !decide ((l1 : Int) = 0)) && (!decide ((nb_rd M l1 1 : Int) = 0) && (decide ((0 : Int) ≤ l2) && decide (l2 < nb_ln M (nb_rd M l1 1)))))) (L2 := [(15, l0), (15, l1), (0, l2)]) (S2 := [(16, nb_rd M (nb_rd M l1 1) l2), (16, nb_rd M (nb_rd M l0 1) l2)]) (M2 := M) (t := 13) (cl := 273) (vi := true) rfl (by simp [h1, h2, h3, h4, h5, h6, h7, h8]) (nb_inv_eq (n := 2) rfl rfl rfl rfl rfl rfl (fun _ => h8) rfl)
theorem q_sc_take_13 (l0 l1 l2 : Int) (M : nb_M) :
    nb_R nb_P 255 13 [(15, l0), (15, l1), (0, l2)] [] M = nb_R nb_P 255 11 [(15, l0), (15, l1), (0, nb_add l2 1)] [] M :=
  nb_step (c := true) rfl rfl
theorem q_sc_take_14 (l0 l1 : Int) (v2 : nb_V) (M : nb_M) (h1 : l1 ≠ 0) (h2 : l0 ≠ 0) :
    nb_R nb_P 255 14 [(15, l0), (15, l1), v2] [] M = ((if 2 ≤ (nb_rd M l1 2) ∧ 2 ≤ (nb_rd M l0 2) ∧ (nb_rd M l1 2) ≠ (nb_rd M l0 2) ∧ (0 : Int) ≤ 0 ∧ (0 : Int) ≤ 0 ∧ (0 : Int) ≤ 10 ∧ 0 + 10 ≤ nb_ln M (nb_rd M l1 2) ∧ 0 + 10 ≤ nb_ln M (nb_rd M l0 2) then some ([], nb_cpy M (nb_rd M l1 2) 0 (nb_rd M l0 2) 0 10) else none : nb_A)).bind fun r => nb_R nb_P 255 15 [(15, l0), (15, l1), v2] (r.1 ++ []) r.2 :=
  nb_stepC (c := ((true && !decide ((l1 : Int) = 0)) && !decide ((l0 : Int) = 0))) (L2 := [(15, l0), (15, l1), v2]) (S2 := [(0, 10), (0, 0), (3, nb_rd M l0 2), (0, 0), (3, nb_rd M l1 2)]) (M2 := M) (t := 15) (cl := 903) (vi := false) rfl (by simp [h1, h2]) (nb_inv_eq (n := 5) rfl rfl rfl rfl rfl rfl (fun h => by cases h) rfl)
theorem q_sc_take_15 (v0 v1 v2 : nb_V) (M : nb_M) :
    nb_R nb_P 255 15 [v0, v1, v2] [] M = some ([], M) :=
  nb_step (c := true) rfl rfl
theorem q_sc_addHand_0 (l0 : Int) (v1 : nb_V) (M : nb_M) (h1 : l0 ≠ 0) :
    nb_R nb_P 256 0 [(15, l0), v1] [] M = if 3 < nb_rd M l0 5 then nb_R nb_P 256 8 [(15, l0), v1] [] M else nb_R nb_P 256 1 [(15, l0), v1] [] M :=
  nb_step (c := (true && !decide ((l0 : Int) = 0))) rfl (by simp [h1])
theorem q_sc_addHand_1 (l0 : Int) (v1 : nb_V) (M : nb_M) (h1 : l0 ≠ 0) (h2 : (nb_rd M l0 1) ≠ 0) (h3 : (0 : Int) ≤ nb_rd M l0 5) (h4 : nb_rd M l0 5 < nb_ln M (nb_rd M l0 1)) (h5 : (nb_rd M (nb_rd M l0 1) (nb_rd M l0 5)) ≠ 0) :
    nb_R nb_P 256 1 [(15, l0), v1] [] M = (nb_R nb_P 272 0 [(16, nb_rd M (nb_rd M l0 1) (nb_rd M l0 5))] [] M).bind fun r => nb_R nb_P 256 2 [(15, l0), (16, nb_rd M (nb_rd M l0 1) (nb_rd M l0 5))] (r.1 ++ []) r.2 :=
  nb_stepC (c := (((true && !decide ((l0 : Int) = 0)) && !decide ((l0 : Int) = 0)) && (!decide ((nb_rd M l0 1 : Int) = 0) && (decide ((0 : Int) ≤ nb_rd M l0 5) && decide (nb_rd M l0 5 < nb_ln M (nb_rd M l0 1)))))) (L2 := [(15, l0), (16, nb_rd M (nb_rd M l0 1) (nb_rd M l0 5))]) (S2 := [(16, nb_rd M (nb_rd M l0 1) (nb_rd M l0 5))]) (M2 := M) (t := 2) (cl := 272) (vi := true) rfl (by simp [h1, h2, h3, h4, h5]) (nb_inv_eq (n := 1) rfl rfl rfl rfl rfl rfl (fun _ => h5) rfl)
theorem q_sc_addHand_2 (l0 l1 : Int) (M : nb_M) (h1 : l1 ≠ 0) :
    nb_R nb_P 256 2 [(15, l0), (16, l1)] [] M = nb_R nb_P 256 3 [(15, l0), (16, l1)] [] (nb_wr M l1 1 3) :=
  nb_step (c := (true && (!decide ((l1 : Int) = 0) && (!false || (decide ((3 : Int) = 0) || decide ((3 : Int) = 1)))))) rfl (by simp [h1])
theorem q_sc_addHand_3 (l0 l1 : Int) (M : nb_M) (h1 : l0 ≠ 0) (h2 : (nb_rd M l0 3) ≠ 0) (h3 : l1 ≠ 0) :
    nb_R nb_P 256 3 [(15, l0), (16, l1)] [] M = nb_R nb_P 256 4 [(15, l0), (16, l1)] [] (nb_wr M l1 2 (nb_div (nb_rd M (nb_rd M l0 3) 9) 2)) :=
  nb_step (c := ((((true && !decide ((l0 : Int) = 0)) && !decide ((nb_rd M l0 3 : Int) = 0)) && !decide ((2 : Int) = 0)) && (!decide ((l1 : Int) = 0) && (!false || (decide ((nb_div (nb_rd M (nb_rd M l0 3) 9) 2 : Int) = 0) || decide ((nb_div (nb_rd M (nb_rd M l0 3) 9) 2 : Int) = 1)))))) rfl (by simp [h1, h2, h3])
theorem q_sc_addHand_4 (l0 l1 : Int) (M : nb_M) (h1 : l0 ≠ 0) (h2 : (nb_rd M l0 3) ≠ 0) (h3 : l1 ≠ 0) :
    nb_R nb_P 256 4 [(15, l0), (16, l1)] [] M = (nb_R nb_P 274 0 [(16, l1), (0, 0), (0, nb_sub (nb_rd M (nb_rd M l0 3) 9) 1)] [] M).bind fun r => nb_R nb_P 256 5 [(15, l0), (16, l1)] (r.1 ++ []) r.2 :=
  nb_stepC (c := ((true && !decide ((l0 : Int) = 0)) && !decide ((nb_rd M l0 3 : Int) = 0))) (L2 := [(15, l0), (16, l1)]) (S2 := [(0, nb_sub (nb_rd M (nb_rd M l0 3) 9) 1), (0, 0), (16, l1)]) (M2 := M) (t := 5) (cl := 274) (vi := true) rfl (by simp [h1, h2, h3]) (nb_inv_eq (n := 3) rfl rfl rfl rfl rfl rfl (fun _ => h3) rfl)
theorem q_sc_addHand_5 (l0 l1 : Int) (M : nb_M) (h1 : l1 ≠ 0) :
    nb_R nb_P 256 5 [(15, l0), (16, l1)] [] M = nb_R nb_P 256 6 [(15, l0), (16, l1)] [] (nb_wr M l1 5 1) :=
  nb_step (c := (true && (!decide ((l1 : Int) = 0) && (!false || (decide ((1 : Int) = 0) || decide ((1 : Int) = 1)))))) rfl (by simp [h1])
theorem q_sc_addHand_6 (l0 l1 : Int) (M : nb_M) (h1 : l1 ≠ 0) :
    nb_R nb_P 256 6 [(15, l0), (16, l1)] [] M = nb_R nb_P 256 7 [(15, l0), (16, l1)] [] (nb_wr M l1 6 1) :=
  nb_step (c := (true && (!decide ((l1 : Int) = 0) && (!false || (decide ((1 : Int) = 0) || decide ((1 : Int) = 1)))))) rfl (by simp [h1])
theorem q_sc_addHand_7 (l0 : Int) (v1 : nb_V) (M : nb_M) (h1 : l0 ≠ 0) :
    nb_R nb_P 256 7 [(15, l0), v1] [] M = nb_R nb_P 256 8 [(15, l0), v1] [] (nb_wr M l0 5 (nb_add (nb_rd M l0 5) 1)) :=
  nb_step (c := ((true && !decide ((l0 : Int) = 0)) && (!decide ((l0 : Int) = 0) && (!false || (decide ((nb_add (nb_rd M l0 5) 1 : Int) = 0) || decide ((nb_add (nb_rd M l0 5) 1 : Int) = 1)))))) rfl (by simp [h1])
theorem q_sc_addHand_8 (v0 v1 : nb_V) (M : nb_M) :
    nb_R nb_P 256 8 [v0, v1] [] M = some ([], M) :=
  nb_step (c := true) rfl rfl
theorem q_sc_runTo_0 (l0 l1 : Int) (v2 v3 : nb_V) (M : nb_M) (h1 : l0 ≠ 0) :
    nb_R nb_P 257 0 [(15, l0), (0, l1), v2, v3] [] M = nb_R nb_P 257 1 [(15, l0), (0, l1), (0, nb_rd M l0 7), v3] [] M :=
  nb_step (c := (true && !decide ((l0 : Int) = 0))) rfl (by simp [h1])
theorem q_sc_runTo_1 (l0 l1 l2 : Int) (v3 : nb_V) (M : nb_M) :
    nb_R nb_P 257 1 [(15, l0), (0, l1), (0, l2), v3] [] M = if l1 < l2 then nb_R nb_P 257 13 [(15, l0), (0, l1), (0, l2), v3] [] M else nb_R nb_P 257 2 [(15, l0), (0, l1), (0, l2), v3] [] M :=
  nb_step (c := true) rfl rfl
theorem q_sc_runTo_2 (l0 l1 l2 : Int) (v3 : nb_V) (M : nb_M) :
    nb_R nb_P 257 2 [(15, l0), (0, l1), (0, l2), v3] [] M = nb_R nb_P 257 3 [(15, l0), (0, l1), (0, l2), (0, 0)] [] M :=
  nb_step (c := true) rfl rfl
theorem q_sc_runTo_3 (l0 l1 l2 l3 : Int) (M : nb_M) (h1 : l0 ≠ 0) :
    nb_R nb_P 257 3 [(15, l0), (0, l1), (0, l2), (0, l3)] [] M = if l3 < nb_rd M l0 4 then nb_R nb_P 257 4 [(15, l0), (0, l1), (0, l2), (0, l3)] [] M else nb_R nb_P 257 6 [(15, l0), (0, l1), (0, l2), (0, l3)] [] M :=
  nb_step (c := (true && !decide ((l0 : Int) = 0))) rfl (by simp [h1])
theorem q_sc_runTo_4 (l0 l1 l2 l3 : Int) (M : nb_M) (h1 : l0 ≠ 0) (h2 : (nb_rd M l0 0) ≠ 0) (h3 : (0 : Int) ≤ l3) (h4 : l3 < nb_ln M (nb_rd M l0 0)) :
    nb_R nb_P 257 4 [(15, l0), (0, l1), (0, l2), (0, l3)] [] M = (nb_R nb_P 260 0 [(11, nb_rd M (nb_rd M l0 0) l3), (0, l2)] [] M).bind fun r => nb_R nb_P 257 5 [(15, l0), (0, l1), (0, l2), (0, l3)] (r.1 ++ []) r.2 :=
  nb_stepC (c := ((true && !decide ((l0 : Int) = 0)) && (!decide ((nb_rd M l0 0 : Int) = 0) && (decide ((0 : Int) ≤ l3) && decide (l3 < nb_ln M (nb_rd M l0 0)))))) (L2 := [(15, l0), (0, l1), (0, l2), (0, l3)]) (S2 := [(0, l2), (11, nb_rd M (nb_rd M l0 0) l3)]) (M2 := M) (t := 5) (cl := 260) (vi := false) rfl (by simp [h1, h2, h3, h4]) (nb_inv_eq (n := 2) rfl rfl rfl rfl rfl rfl (fun h => by cases h) rfl)
theorem q_sc_runTo_5 (l0 l1 l2 l3 : Int) (M : nb_M) :
    nb_R nb_P 257 5 [(15, l0), (0, l1), (0, l2), (0, l3)] [] M = nb_R nb_P 257 3 [(15, l0), (0, l1), (0, l2), (0, nb_add l3 1)] [] M :=
  nb_step (c := true) rfl rfl
theorem q_sc_runTo_6 (l0 l1 l2 : Int) (v3 : nb_V) (M : nb_M) :
    nb_R nb_P 257 6 [(15, l0), (0, l1), (0, l2), v3] [] M = nb_R nb_P 257 7 [(15, l0), (0, l1), (0, l2), (0, 0)] [] M :=
  nb_step (c := true) rfl rfl
theorem q_sc_runTo_7 (l0 l1 l2 l3 : Int) (M : nb_M) (h1 : l0 ≠ 0) :
    nb_R nb_P 257 7 [(15, l0), (0, l1), (0, l2), (0, l3)] [] M = if l3 < nb_rd M l0 5 then nb_R nb_P 257 8 [(15, l0), (0, l1), (0, l2), (0, l3)] [] M else nb_R nb_P 257 10 [(15, l0), (0, l1), (0, l2), (0, l3)] [] M :=
  nb_step (c := (true && !decide ((l0 : Int) = 0))) rfl (by simp [h1])
theorem q_sc_runTo_8 (l0 l1 l2 l3 : Int) (M : nb_M) (h1 : l0 ≠ 0) :
    nb_R nb_P 257 8 [(15, l0), (0, l1), (0, l2), (0, l3)] [] M = (nb_R nb_P 261 0 [(15, l0), (0, l3), (0, l2), (98, 0), (98, 0), (98, 0)] [] M).bind fun r => nb_R nb_P 257 9 [(15, l0), (0, l1), (0, l2), (0, l3)] (r.1 ++ []) r.2 :=
  nb_stepC (c := true) (L2 := [(15, l0), (0, l1), (0, l2), (0, l3)]) (S2 := [(0, l2), (0, l3), (15, l0)]) (M2 := M) (t := 9) (cl := 261) (vi := true) rfl rfl (nb_inv_eq (n := 3) rfl rfl rfl rfl rfl rfl (fun _ => h1) rfl)
theorem q_sc_runTo_9 (l0 l1 l2 l3 : Int) (M : nb_M) :
    nb_R nb_P 257 9 [(15, l0), (0, l1), (0, l2), (0, l3)] [] M = nb_R nb_P 257 7 [(15, l0), (0, l1), (0, l2), (0, nb_add l3 1)] [] M :=
  nb_step (c := true) rfl rfl
theorem q_sc_runTo_10 (l0 l1 l2 : Int) (v3 : nb_V) (M : nb_M) (h1 : l0 ≠ 0) :
    nb_R nb_P 257 10 [(15, l0), (0, l1), (0, l2), v3] [] M = (nb_R nb_P 258 0 [(15, l0), (0, l2), (98, 0), (98, 0), (98, 0)] [] M).bind fun r => nb_R nb_P 257 11 [(15, l0), (0, l1), (0, l2), v3] (r.1 ++ [(0, nb_add l2 1)]) r.2 :=
  nb_stepC (c := true) (L2 := [(15, l0), (0, l1), (0, l2), v3]) (S2 := [(0, l2), (15, l0), (0, nb_add l2 1)]) (M2 := M) (t := 11) (cl := 258) (vi := true) rfl rfl (nb_inv_eq (n := 2) rfl rfl rfl rfl rfl rfl (fun _ => h1) rfl)
theorem q_sc_runTo_11 (l0 l1 s0 s1 : Int) (v2 v3 : nb_V) (M : nb_M) :
    nb_R nb_P 257 11 [(15, l0), (0, l1), v2, v3] [(0, s0), (0, s1)] M = ((some ([(0, if s1 < s0 then s0 else s1)], M) : nb_A)).bind fun r => nb_R nb_P 257 12 [(15, l0), (0, l1), v2, v3] (r.1 ++ []) r.2 :=
  nb_stepC (c := true) (L2 := [(15, l0), (0, l1), v2, v3]) (S2 := [(0, s0), (0, s1)]) (M2 := M) (t := 12) (cl := 905) (vi := false) rfl rfl (nb_inv_eq (n := 2) rfl rfl rfl rfl rfl rfl (fun h => by cases h) rfl)
theorem q_sc_runTo_12 (l0 l1 s0 : Int) (v2 v3 : nb_V) (M : nb_M) :
    nb_R nb_P 257 12 [(15, l0), (0, l1), v2, v3] [(0, s0)] M = nb_R nb_P 257 1 [(15, l0), (0, l1), (0, s0), v3] [] M :=
  nb_step (c := true) rfl rfl
theorem q_sc_runTo_13 (l0 l1 : Int) (v2 v3 : nb_V) (M : nb_M) (h1 : l0 ≠ 0) :
    nb_R nb_P 257 13 [(15, l0), (0, l1), v2, v3] [] M = ((some ([(0, if nb_rd M l0 7 < nb_add l1 1 then nb_add l1 1 else nb_rd M l0 7)], M) : nb_A)).bind fun r => nb_R nb_P 257 14 [(15, l0), (0, l1), v2, v3] (r.1 ++ [(15, l0)]) r.2 :=
  nb_stepC (c := (true && !decide ((l0 : Int) = 0))) (L2 := [(15, l0), (0, l1), v2, v3]) (S2 := [(0, nb_add l1 1), (0, nb_rd M l0 7), (15, l0)]) (M2 := M) (t := 14) (cl := 905) (vi := false) rfl (by simp [h1]) (nb_inv_eq (n := 2) rfl rfl rfl rfl rfl rfl (fun h => by cases h) rfl)
theorem q_sc_runTo_14 (s0 s1 : Int) (v0 v1 v2 v3 : nb_V) (M : nb_M) (h1 : s1 ≠ 0) :
    nb_R nb_P 257 14 [v0, v1, v2, v3] [(0, s0), (15, s1)] M = nb_R nb_P 257 15 [v0, v1, v2, v3] [] (nb_wr M s1 7 s0) :=
  nb_step (c := (true && (!decide ((s1 : Int) = 0) && (!false || (decide ((s0 : Int) = 0) || decide ((s0 : Int) = 1)))))) rfl (by simp [h1])
theorem q_sc_runTo_15 (v0 v1 v2 v3 : nb_V) (M : nb_M) :
    nb_R nb_P 257 15 [v0, v1, v2, v3] [] M = some ([], M) :=
  nb_step (c := true) rfl rfl
theorem q_sc_nextStir_0 (l0 l1 : Int) (v2 v3 v4 : nb_V) (M : nb_M) :
    nb_R nb_P 258 0 [(15, l0), (0, l1), v2, v3, v4] [] M = nb_R nb_P 258 1 [(15, l0), (0, l1), (0, 1000000), (0, 0), v4] [] M :=
  nb_step (c := true) rfl rfl
theorem q_sc_nextStir_1 (l0 l1 l2 l3 : Int) (v4 : nb_V) (M : nb_M) (h1 : l0 ≠ 0) :
    nb_R nb_P 258 1 [(15, l0), (0, l1), (0, l2), (0, l3), v4] [] M = if l3 < nb_rd M l0 4 then nb_R nb_P 258 2 [(15, l0), (0, l1), (0, l2), (0, l3), v4] [] M else nb_R nb_P 258 10 [(15, l0), (0, l1), (0, l2), (0, l3), v4] [] M :=
  nb_step (c := (true && !decide ((l0 : Int) = 0))) rfl (by simp [h1])
theorem q_sc_nextStir_2 (l0 l1 l2 l3 : Int) (v4 : nb_V) (M : nb_M) (h1 : l0 ≠ 0) (h2 : (nb_rd M l0 0) ≠ 0) (h3 : (0 : Int) ≤ l3) (h4 : l3 < nb_ln M (nb_rd M l0 0)) (h5 : (nb_rd M (nb_rd M l0 0) l3) ≠ 0) :
    nb_R nb_P 258 2 [(15, l0), (0, l1), (0, l2), (0, l3), v4] [] M = if nb_rd M (nb_rd M (nb_rd M l0 0) l3) 8 = 0 then nb_R nb_P 258 3 [(15, l0), (0, l1), (0, l2), (0, l3), (11, nb_rd M (nb_rd M l0 0) l3)] [] M else nb_R nb_P 258 5 [(15, l0), (0, l1), (0, l2), (0, l3), (11, nb_rd M (nb_rd M l0 0) l3)] [] M :=
  nb_step (c := (((true && !decide ((l0 : Int) = 0)) && (!decide ((nb_rd M l0 0 : Int) = 0) && (decide ((0 : Int) ≤ l3) && decide (l3 < nb_ln M (nb_rd M l0 0))))) && !decide ((nb_rd M (nb_rd M l0 0) l3 : Int) = 0))) rfl (by simp [h1, h2, h3, h4, h5])
theorem q_sc_nextStir_3 (l0 l1 l2 l3 l4 : Int) (M : nb_M) (h1 : l4 ≠ 0) :
    nb_R nb_P 258 3 [(15, l0), (0, l1), (0, l2), (0, l3), (11, l4)] [] M = (nb_R nb_P 259 0 [(0, l2), (0, nb_rd M l4 2), (0, l1)] [] M).bind fun r => nb_R nb_P 258 4 [(15, l0), (0, l1), (0, l2), (0, l3), (11, l4)] (r.1 ++ []) r.2 :=
  nb_stepC (c := (true && !decide ((l4 : Int) = 0))) (L2 := [(15, l0), (0, l1), (0, l2), (0, l3), (11, l4)]) (S2 := [(0, l1), (0, nb_rd M l4 2), (0, l2)]) (M2 := M) (t := 4) (cl := 259) (vi := false) rfl (by simp [h1]) (nb_inv_eq (n := 3) rfl rfl rfl rfl rfl rfl (fun h => by cases h) rfl)
theorem q_sc_nextStir_4 (l0 l1 l3 s0 : Int) (v2 v4 : nb_V) (M : nb_M) :
    nb_R nb_P 258 4 [(15, l0), (0, l1), v2, (0, l3), v4] [(0, s0)] M = nb_R nb_P 258 9 [(15, l0), (0, l1), (0, s0), (0, l3), v4] [] M :=
  nb_step (c := true) rfl rfl
theorem q_sc_nextStir_5 (l0 l1 l2 l3 l4 : Int) (M : nb_M) (h1 : l4 ≠ 0) :
    nb_R nb_P 258 5 [(15, l0), (0, l1), (0, l2), (0, l3), (11, l4)] [] M = if nb_rd M l4 8 = 1 then nb_R nb_P 258 6 [(15, l0), (0, l1), (0, l2), (0, l3), (11, l4)] [] M else nb_R nb_P 258 9 [(15, l0), (0, l1), (0, l2), (0, l3), (11, l4)] [] M :=
  nb_step (c := (true && !decide ((l4 : Int) = 0))) rfl (by simp [h1])
theorem q_sc_nextStir_6 (l0 l1 l2 l3 l4 : Int) (M : nb_M) (h1 : l4 ≠ 0) :
    nb_R nb_P 258 6 [(15, l0), (0, l1), (0, l2), (0, l3), (11, l4)] [] M = (nb_R nb_P 259 0 [(0, l2), (0, nb_add (nb_rd M l4 2) (nb_rd M l4 4)), (0, l1)] [] M).bind fun r => nb_R nb_P 258 7 [(15, l0), (0, l1), (0, l2), (0, l3), (11, l4)] (r.1 ++ []) r.2 :=
  nb_stepC (c := ((true && !decide ((l4 : Int) = 0)) && !decide ((l4 : Int) = 0))) (L2 := [(15, l0), (0, l1), (0, l2), (0, l3), (11, l4)]) (S2 := [(0, l1), (0, nb_add (nb_rd M l4 2) (nb_rd M l4 4)), (0, l2)]) (M2 := M) (t := 7) (cl := 259) (vi := false) rfl (by simp [h1]) (nb_inv_eq (n := 3) rfl rfl rfl rfl rfl rfl (fun h => by cases h) rfl)
theorem q_sc_nextStir_7 (l0 l1 l3 l4 s0 : Int) (v2 : nb_V) (M : nb_M) (h1 : l4 ≠ 0) :
    nb_R nb_P 258 7 [(15, l0), (0, l1), v2, (0, l3), (11, l4)] [(0, s0)] M = (nb_R nb_P 259 0 [(0, s0), (0, nb_rd M l4 6), (0, l1)] [] M).bind fun r => nb_R nb_P 258 8 [(15, l0), (0, l1), (0, s0), (0, l3), (11, l4)] (r.1 ++ []) r.2 :=
  nb_stepC (c := (true && !decide ((l4 : Int) = 0))) (L2 := [(15, l0), (0, l1), (0, s0), (0, l3), (11, l4)]) (S2 := [(0, l1), (0, nb_rd M l4 6), (0, s0)]) (M2 := M) (t := 8) (cl := 259) (vi := false) rfl (by simp [h1]) (nb_inv_eq (n := 3) rfl rfl rfl rfl rfl rfl (fun h => by cases h) rfl)
theorem q_sc_nextStir_8 (l0 l1 l3 s0 : Int) (v2 v4 : nb_V) (M : nb_M) :
    nb_R nb_P 258 8 [(15, l0), (0, l1), v2, (0, l3), v4] [(0, s0)] M = nb_R nb_P 258 9 [(15, l0), (0, l1), (0, s0), (0, l3), v4] [] M :=
  nb_step (c := true) rfl rfl
theorem q_sc_nextStir_9 (l0 l1 l2 l3 : Int) (v4 : nb_V) (M : nb_M) :
    nb_R nb_P 258 9 [(15, l0), (0, l1), (0, l2), (0, l3), v4] [] M = nb_R nb_P 258 1 [(15, l0), (0, l1), (0, l2), (0, nb_add l3 1), v4] [] M :=
  nb_step (c := true) rfl rfl
theorem q_sc_nextStir_10 (l0 l1 l2 : Int) (v3 v4 : nb_V) (M : nb_M) :
    nb_R nb_P 258 10 [(15, l0), (0, l1), (0, l2), v3, v4] [] M = nb_R nb_P 258 11 [(15, l0), (0, l1), (0, l2), (0, 0), v4] [] M :=
  nb_step (c := true) rfl rfl
theorem q_sc_nextStir_11 (l0 l1 l2 l3 : Int) (v4 : nb_V) (M : nb_M) (h1 : l0 ≠ 0) :
    nb_R nb_P 258 11 [(15, l0), (0, l1), (0, l2), (0, l3), v4] [] M = if l3 < nb_rd M l0 5 then nb_R nb_P 258 12 [(15, l0), (0, l1), (0, l2), (0, l3), v4] [] M else nb_R nb_P 258 17 [(15, l0), (0, l1), (0, l2), (0, l3), v4] [] M :=
  nb_step (c := (true && !decide ((l0 : Int) = 0))) rfl (by simp [h1])
theorem q_sc_nextStir_12 (l0 l1 l2 l3 : Int) (v4 : nb_V) (M : nb_M) :
    nb_R nb_P 258 12 [(15, l0), (0, l1), (0, l2), (0, l3), v4] [] M = nb_R nb_P 258 13 [(15, l0), (0, l1), (0, l2), (0, l3), (0, 0)] [] M :=
  nb_step (c := true) rfl rfl
theorem q_sc_nextStir_13 (l0 l1 l2 l3 l4 : Int) (M : nb_M) :
    nb_R nb_P 258 13 [(15, l0), (0, l1), (0, l2), (0, l3), (0, l4)] [] M = if l4 < 2 then nb_R nb_P 258 14 [(15, l0), (0, l1), (0, l2), (0, l3), (0, l4)] [] M else nb_R nb_P 258 16 [(15, l0), (0, l1), (0, l2), (0, l3), (0, l4)] [] M :=
  nb_step (c := true) rfl rfl
theorem q_sc_nextStir_14 (l0 l1 l2 l3 l4 : Int) (M : nb_M) (h1 : l0 ≠ 0) (h2 : (nb_rd M l0 1) ≠ 0) (h3 : (0 : Int) ≤ l3) (h4 : l3 < nb_ln M (nb_rd M l0 1)) (h5 : (nb_rd M (nb_rd M l0 1) l3) ≠ 0) (h6 : (nb_rd M (nb_rd M (nb_rd M l0 1) l3) 0) ≠ 0) (h7 : (0 : Int) ≤ l4) (h8 : l4 < nb_ln M (nb_rd M (nb_rd M (nb_rd M l0 1) l3) 0)) :
    nb_R nb_P 258 14 [(15, l0), (0, l1), (0, l2), (0, l3), (0, l4)] [] M = (nb_R nb_P 259 0 [(0, l2), (0, nb_rd M (nb_rd M (nb_rd M (nb_rd M l0 1) l3) 0) l4), (0, l1)] [] M).bind fun r => nb_R nb_P 258 15 [(15, l0), (0, l1), (0, l2), (0, l3), (0, l4)] (r.1 ++ []) r.2 :=
  nb_stepC (c := ((((true && !decide ((l0 : Int) = 0)) && (!decide ((nb_rd M l0 1 : Int) = 0) && (decide ((0 : Int) ≤ l3) && decide (l3 < nb_ln M (nb_rd M l0 1))))) && !decide ((nb_rd M (nb_rd M l0 1) l3 : Int) = 0)) && (!decide ((nb_rd M (nb_rd M (nb_rd M l0 1) l3) 0 : Int) = 0) && (decide ((0 : Int) ≤ l4) && decide (l4 < nb_ln M (nb_rd M (nb_rd M (nb_rd M l0 1) l3) 0)))))) (L2 := [(15, l0), (0, l1), (0, l2), (0, l3), (0, l4)]) (S2 := [(0, l1), (0, nb_rd M (nb_rd M (nb_rd M (nb_rd M l0 1) l3) 0) l4), (0, l2)]) (M2 := M) (t := 15) (cl := 259) (vi := false) rfl (by simp [h1, h2, h3, h4, h5, h6, h7, h8]) (nb_inv_eq (n := 3) rfl rfl rfl rfl rfl rfl (fun h => by cases h) rfl)
theorem q_sc_nextStir_15 (l0 l1 l3 l4 s0 : Int) (v2 : nb_V) (M : nb_M) :
    nb_R nb_P 258 15 [(15, l0), (0, l1), v2, (0, l3), (0, l4)] [(0, s0)] M = nb_R nb_P 258 13 [(15, l0), (0, l1), (0, s0), (0, l3), (0, nb_add l4 1)] [] M :=
  nb_step (c := true) rfl rfl
theorem q_sc_nextStir_16 (l0 l1 l2 l3 : Int) (v4 : nb_V) (M : nb_M) :
    nb_R nb_P 258 16 [(15, l0), (0, l1), (0, l2), (0, l3), v4] [] M = nb_R nb_P 258 11 [(15, l0), (0, l1), (0, l2), (0, nb_add l3 1), v4] [] M :=
  nb_step (c := true) rfl rfl
theorem q_sc_nextStir_17 (l2 : Int) (v0 v1 v3 v4 : nb_V) (M : nb_M) :
    nb_R nb_P 258 17 [v0, v1, (0, l2), v3, v4] [] M = some ([(0, l2)], M) :=
  nb_step (c := true) rfl rfl
theorem q_sc_sooner_0 (l0 l1 l2 : Int) (M : nb_M) :
    nb_R nb_P 259 0 [(0, l0), (0, l1), (0, l2)] [] M = if l2 < l1 then nb_R nb_P 259 1 [(0, l0), (0, l1), (0, l2)] [] M else nb_R nb_P 259 3 [(0, l0), (0, l1), (0, l2)] [] M :=
  nb_step (c := true) rfl rfl
theorem q_sc_sooner_1 (l0 l1 : Int) (v2 : nb_V) (M : nb_M) :
    nb_R nb_P 259 1 [(0, l0), (0, l1), v2] [] M = if l1 < l0 then nb_R nb_P 259 2 [(0, l0), (0, l1), v2] [] M else nb_R nb_P 259 3 [(0, l0), (0, l1), v2] [] M :=
  nb_step (c := true) rfl rfl
theorem q_sc_sooner_2 (l1 : Int) (v0 v2 : nb_V) (M : nb_M) :
    nb_R nb_P 259 2 [v0, (0, l1), v2] [] M = nb_R nb_P 259 4 [v0, (0, l1), v2] [(0, l1)] M :=
  nb_step (c := true) rfl rfl
theorem q_sc_sooner_3 (l0 : Int) (v1 v2 : nb_V) (M : nb_M) :
    nb_R nb_P 259 3 [(0, l0), v1, v2] [] M = nb_R nb_P 259 4 [(0, l0), v1, v2] [(0, l0)] M :=
  nb_step (c := true) rfl rfl
theorem q_sc_sooner_4 (s0 : Int) (v0 v1 v2 : nb_V) (M : nb_M) :
    nb_R nb_P 259 4 [v0, v1, v2] [(0, s0)] M = some ([(0, s0)], M) :=
  nb_step (c := true) rfl rfl
theorem q_sc_comeOrGo_0 (l0 l1 : Int) (M : nb_M) (h1 : l0 ≠ 0) :
    nb_R nb_P 260 0 [(11, l0), (0, l1)] [] M = if nb_rd M l0 8 = 0 then nb_R nb_P 260 1 [(11, l0), (0, l1)] [] M else nb_R nb_P 260 3 [(11, l0), (0, l1)] [] M :=
  nb_step (c := (true && !decide ((l0 : Int) = 0))) rfl (by simp [h1])
theorem q_sc_comeOrGo_1 (l0 l1 : Int) (M : nb_M) (h1 : l0 ≠ 0) :
    nb_R nb_P 260 1 [(11, l0), (0, l1)] [] M = if nb_rd M l0 2 = l1 then nb_R nb_P 260 2 [(11, l0), (0, l1)] [] M else nb_R nb_P 260 3 [(11, l0), (0, l1)] [] M :=
  nb_step (c := (true && !decide ((l0 : Int) = 0))) rfl (by simp [h1])
theorem q_sc_comeOrGo_2 (l0 l1 : Int) (M : nb_M) (h1 : l0 ≠ 0) :
    nb_R nb_P 260 2 [(11, l0), (0, l1)] [] M = nb_R nb_P 260 3 [(11, l0), (0, l1)] [] (nb_wr M l0 8 1) :=
  nb_step (c := (true && (!decide ((l0 : Int) = 0) && (!false || (decide ((1 : Int) = 0) || decide ((1 : Int) = 1)))))) rfl (by simp [h1])
theorem q_sc_comeOrGo_3 (l0 l1 : Int) (M : nb_M) (h1 : l0 ≠ 0) :
    nb_R nb_P 260 3 [(11, l0), (0, l1)] [] M = if nb_rd M l0 8 = 1 then nb_R nb_P 260 5 [(11, l0), (0, l1)] [] M else nb_R nb_P 260 4 [(11, l0), (0, l1)] [] M :=
  nb_step (c := (true && !decide ((l0 : Int) = 0))) rfl (by simp [h1])
theorem q_sc_comeOrGo_4 (v0 v1 : nb_V) (M : nb_M) :
    nb_R nb_P 260 4 [v0, v1] [] M = some ([], M) :=
  nb_step (c := true) rfl rfl
theorem q_sc_comeOrGo_5 (l0 l1 : Int) (M : nb_M) (h1 : l0 ≠ 0) :
    nb_R nb_P 260 5 [(11, l0), (0, l1)] [] M = if nb_rd M l0 6 = (-2) then nb_R nb_P 260 11 [(11, l0), (0, l1)] [] M else nb_R nb_P 260 6 [(11, l0), (0, l1)] [] M :=
  nb_step (c := (true && !decide ((l0 : Int) = 0))) rfl (by simp [h1])
theorem q_sc_comeOrGo_6 (l0 l1 : Int) (M : nb_M) (h1 : l0 ≠ 0) :
    nb_R nb_P 260 6 [(11, l0), (0, l1)] [] M = if l1 < nb_rd M l0 6 then nb_R nb_P 260 11 [(11, l0), (0, l1)] [] M else nb_R nb_P 260 7 [(11, l0), (0, l1)] [] M :=
  nb_step (c := (true && !decide ((l0 : Int) = 0))) rfl (by simp [h1])
theorem q_sc_comeOrGo_7 (l0 l1 : Int) (M : nb_M) (h1 : l0 ≠ 0) :
    nb_R nb_P 260 7 [(11, l0), (0, l1)] [] M = nb_R nb_P 260 8 [(11, l0), (0, l1)] [] (nb_wr M l0 8 3) :=
  nb_step (c := (true && (!decide ((l0 : Int) = 0) && (!false || (decide ((3 : Int) = 0) || decide ((3 : Int) = 1)))))) rfl (by simp [h1])
theorem q_sc_comeOrGo_8 (l0 l1 : Int) (M : nb_M) (h1 : l0 ≠ 0) :
    nb_R nb_P 260 8 [(11, l0), (0, l1)] [] M = nb_R nb_P 260 9 [(11, l0), (0, l1)] [] (nb_wr M l0 10 l1) :=
  nb_step (c := (true && (!decide ((l0 : Int) = 0) && (!false || (decide ((l1 : Int) = 0) || decide ((l1 : Int) = 1)))))) rfl (by simp [h1])
theorem q_sc_comeOrGo_9 (l0 l1 : Int) (M : nb_M) (h1 : l0 ≠ 0) :
    nb_R nb_P 260 9 [(11, l0), (0, l1)] [] M = nb_R nb_P 260 10 [(11, l0), (0, l1)] [] (nb_wr M l0 11 l1) :=
  nb_step (c := (true && (!decide ((l0 : Int) = 0) && (!false || (decide ((l1 : Int) = 0) || decide ((l1 : Int) = 1)))))) rfl (by simp [h1])
theorem q_sc_comeOrGo_10 (v0 v1 : nb_V) (M : nb_M) :
    nb_R nb_P 260 10 [v0, v1] [] M = nb_R nb_P 260 14 [v0, v1] [] M :=
  nb_step (c := true) rfl rfl
theorem q_sc_comeOrGo_11 (l0 l1 : Int) (M : nb_M) (h1 : l0 ≠ 0) :
    nb_R nb_P 260 11 [(11, l0), (0, l1)] [] M = if nb_sub l1 (nb_rd M l0 2) < nb_rd M l0 4 then nb_R nb_P 260 14 [(11, l0), (0, l1)] [] M else nb_R nb_P 260 12 [(11, l0), (0, l1)] [] M :=
  nb_step (c := ((true && !decide ((l0 : Int) = 0)) && !decide ((l0 : Int) = 0))) rfl (by simp [h1])
theorem q_sc_comeOrGo_12 (l0 l1 : Int) (M : nb_M) (h1 : l0 ≠ 0) :
    nb_R nb_P 260 12 [(11, l0), (0, l1)] [] M = nb_R nb_P 260 13 [(11, l0), (0, l1)] [] (nb_wr M l0 8 4) :=
  nb_step (c := (true && (!decide ((l0 : Int) = 0) && (!false || (decide ((4 : Int) = 0) || decide ((4 : Int) = 1)))))) rfl (by simp [h1])
theorem q_sc_comeOrGo_13 (l0 l1 : Int) (M : nb_M) (h1 : l0 ≠ 0) :
    nb_R nb_P 260 13 [(11, l0), (0, l1)] [] M = nb_R nb_P 260 14 [(11, l0), (0, l1)] [] (nb_wr M l0 11 l1) :=
  nb_step (c := (true && (!decide ((l0 : Int) = 0) && (!false || (decide ((l1 : Int) = 0) || decide ((l1 : Int) = 1)))))) rfl (by simp [h1])
theorem q_sc_comeOrGo_14 (v0 v1 : nb_V) (M : nb_M) :
    nb_R nb_P 260 14 [v0, v1] [] M = some ([], M) :=
  nb_step (c := true) rfl rfl
theorem q_sc_serve_0 (l0 l1 l2 : Int) (v3 v4 v5 : nb_V) (M : nb_M) :
    nb_R nb_P 261 0 [(15, l0), (0, l1), (0, l2), v3, v4, v5] [] M = nb_R nb_P 261 1 [(15, l0), (0, l1), (0, l2), (0, 0), v4, v5] [] M :=
  nb_step (c := true) rfl rfl
theorem q_sc_serve_1 (l0 l1 l2 l3 : Int) (v4 v5 : nb_V) (M : nb_M) (h1 : l0 ≠ 0) :
    nb_R nb_P 261 1 [(15, l0), (0, l1), (0, l2), (0, l3), v4, v5] [] M = if l3 < nb_rd M l0 4 then nb_R nb_P 261 2 [(15, l0), (0, l1), (0, l2), (0, l3), v4, v5] [] M else nb_R nb_P 261 10 [(15, l0), (0, l1), (0, l2), (0, l3), v4, v5] [] M :=
  nb_step (c := (true && !decide ((l0 : Int) = 0))) rfl (by simp [h1])
theorem q_sc_serve_2 (l0 l1 l2 l3 : Int) (v4 v5 : nb_V) (M : nb_M) (h1 : l0 ≠ 0) (h2 : (nb_rd M l0 1) ≠ 0) (h3 : (0 : Int) ≤ l1) (h4 : l1 < nb_ln M (nb_rd M l0 1)) (h5 : (nb_rd M (nb_rd M l0 1) l1) ≠ 0) :
    nb_R nb_P 261 2 [(15, l0), (0, l1), (0, l2), (0, l3), v4, v5] [] M = (nb_R nb_P 275 0 [(16, nb_rd M (nb_rd M l0 1) l1), (0, l2), (98, 0)] [] M).bind fun r => nb_R nb_P 261 3 [(15, l0), (0, l1), (0, l2), (0, l3), v4, v5] (r.1 ++ []) r.2 :=
  nb_stepC (c := ((true && !decide ((l0 : Int) = 0)) && (!decide ((nb_rd M l0 1 : Int) = 0) && (decide ((0 : Int) ≤ l1) && decide (l1 < nb_ln M (nb_rd M l0 1)))))) (L2 := [(15, l0), (0, l1), (0, l2), (0, l3), v4, v5]) (S2 := [(0, l2), (16, nb_rd M (nb_rd M l0 1) l1)]) (M2 := M) (t := 3) (cl := 275) (vi := true) rfl (by simp [h1, h2, h3, h4, h5]) (nb_inv_eq (n := 2) rfl rfl rfl rfl rfl rfl (fun _ => h5) rfl)
theorem q_sc_serve_3 (l0 l1 l2 l3 s0 : Int) (v4 v5 : nb_V) (M : nb_M) :
    nb_R nb_P 261 3 [(15, l0), (0, l1), (0, l2), (0, l3), v4, v5] [(0, s0)] M = if s0 = (-1) then nb_R nb_P 261 4 [(15, l0), (0, l1), (0, l2), (0, l3), (0, s0), v5] [] M else nb_R nb_P 261 5 [(15, l0), (0, l1), (0, l2), (0, l3), (0, s0), v5] [] M :=
  nb_step (c := true) rfl rfl
theorem q_sc_serve_4 (l0 l1 l2 l3 l4 : Int) (v5 : nb_V) (M : nb_M) :
    nb_R nb_P 261 4 [(15, l0), (0, l1), (0, l2), (0, l3), (0, l4), v5] [] M = nb_R nb_P 261 6 [(15, l0), (0, l1), (0, l2), (0, l3), (0, l4), v5] [(0, (-2))] M :=
  nb_step (c := true) rfl rfl
theorem q_sc_serve_5 (l0 l1 l2 l3 l4 : Int) (v5 : nb_V) (M : nb_M) (h1 : l0 ≠ 0) :
    nb_R nb_P 261 5 [(15, l0), (0, l1), (0, l2), (0, l3), (0, l4), v5] [] M = (nb_R nb_P 262 0 [(15, l0), (0, l1), (98, 0), (98, 0), (98, 0), (98, 0), (98, 0), (98, 0)] [] M).bind fun r => nb_R nb_P 261 6 [(15, l0), (0, l1), (0, l2), (0, l3), (0, l4), v5] (r.1 ++ []) r.2 :=
  nb_stepC (c := true) (L2 := [(15, l0), (0, l1), (0, l2), (0, l3), (0, l4), v5]) (S2 := [(0, l1), (15, l0)]) (M2 := M) (t := 6) (cl := 262) (vi := true) rfl rfl (nb_inv_eq (n := 2) rfl rfl rfl rfl rfl rfl (fun _ => h1) rfl)
theorem q_sc_serve_6 (l0 l1 l2 l3 l4 s0 : Int) (v5 : nb_V) (M : nb_M) :
    nb_R nb_P 261 6 [(15, l0), (0, l1), (0, l2), (0, l3), (0, l4), v5] [(0, s0)] M = if s0 < 0 then nb_R nb_P 261 7 [(15, l0), (0, l1), (0, l2), (0, l3), (0, l4), (0, s0)] [] M else nb_R nb_P 261 8 [(15, l0), (0, l1), (0, l2), (0, l3), (0, l4), (0, s0)] [] M :=
  nb_step (c := true) rfl rfl
theorem q_sc_serve_7 (v0 v1 v2 v3 v4 v5 : nb_V) (M : nb_M) :
    nb_R nb_P 261 7 [v0, v1, v2, v3, v4, v5] [] M = some ([], M) :=
  nb_step (c := true) rfl rfl
theorem q_sc_serve_8 (l0 l1 l2 l3 l4 l5 : Int) (M : nb_M) (h1 : l0 ≠ 0) :
    nb_R nb_P 261 8 [(15, l0), (0, l1), (0, l2), (0, l3), (0, l4), (0, l5)] [] M = (nb_R nb_P 263 0 [(15, l0), (0, l1), (0, l4), (0, l5), (0, l2), (98, 0), (98, 0), (98, 0)] [] M).bind fun r => nb_R nb_P 261 9 [(15, l0), (0, l1), (0, l2), (0, l3), (0, l4), (0, l5)] (r.1 ++ []) r.2 :=
  nb_stepC (c := true) (L2 := [(15, l0), (0, l1), (0, l2), (0, l3), (0, l4), (0, l5)]) (S2 := [(0, l2), (0, l5), (0, l4), (0, l1), (15, l0)]) (M2 := M) (t := 9) (cl := 263) (vi := true) rfl rfl (nb_inv_eq (n := 5) rfl rfl rfl rfl rfl rfl (fun _ => h1) rfl)
theorem q_sc_serve_9 (l0 l1 l2 l3 : Int) (v4 v5 : nb_V) (M : nb_M) :
    nb_R nb_P 261 9 [(15, l0), (0, l1), (0, l2), (0, l3), v4, v5] [] M = nb_R nb_P 261 1 [(15, l0), (0, l1), (0, l2), (0, nb_add l3 1), v4, v5] [] M :=
  nb_step (c := true) rfl rfl
theorem q_sc_serve_10 (v0 v1 v2 v3 v4 v5 : nb_V) (M : nb_M) :
    nb_R nb_P 261 10 [v0, v1, v2, v3, v4, v5] [] M = some ([], M) :=
  nb_step (c := true) rfl rfl
theorem q_sc_choice_0 (l0 l1 : Int) (v2 v3 v4 v5 v6 v7 : nb_V) (M : nb_M) (h1 : l0 ≠ 0) (h2 : (nb_rd M l0 1) ≠ 0) (h3 : (0 : Int) ≤ l1) (h4 : l1 < nb_ln M (nb_rd M l0 1)) :
    nb_R nb_P 262 0 [(15, l0), (0, l1), v2, v3, v4, v5, v6, v7] [] M = nb_R nb_P 262 1 [(15, l0), (0, l1), (16, nb_rd M (nb_rd M l0 1) l1), (0, (-2)), (0, 0), (0, 0), v6, v7] [] M :=
  nb_step (c := ((true && !decide ((l0 : Int) = 0)) && (!decide ((nb_rd M l0 1 : Int) = 0) && (decide ((0 : Int) ≤ l1) && decide (l1 < nb_ln M (nb_rd M l0 1)))))) rfl (by simp [h1, h2, h3, h4])
theorem q_sc_choice_1 (l0 l2 l3 l4 l5 : Int) (v1 v6 v7 : nb_V) (M : nb_M) (h1 : l0 ≠ 0) :
    nb_R nb_P 262 1 [(15, l0), v1, (16, l2), (0, l3), (0, l4), (0, l5), v6, v7] [] M = if l5 < nb_rd M l0 4 then nb_R nb_P 262 2 [(15, l0), v1, (16, l2), (0, l3), (0, l4), (0, l5), v6, v7] [] M else nb_R nb_P 262 13 [(15, l0), v1, (16, l2), (0, l3), (0, l4), (0, l5), v6, v7] [] M :=
  nb_step (c := (true && !decide ((l0 : Int) = 0))) rfl (by simp [h1])
theorem q_sc_choice_2 (l0 l2 l3 l4 l5 : Int) (v1 v6 v7 : nb_V) (M : nb_M) (h1 : l0 ≠ 0) (h2 : (nb_rd M l0 0) ≠ 0) (h3 : (0 : Int) ≤ l5) (h4 : l5 < nb_ln M (nb_rd M l0 0)) (h5 : (nb_rd M (nb_rd M l0 0) l5) ≠ 0) :
    nb_R nb_P 262 2 [(15, l0), v1, (16, l2), (0, l3), (0, l4), (0, l5), v6, v7] [] M = if nb_rd M (nb_rd M (nb_rd M l0 0) l5) 8 = 1 then nb_R nb_P 262 3 [(15, l0), v1, (16, l2), (0, l3), (0, l4), (0, l5), (11, nb_rd M (nb_rd M l0 0) l5), v7] [] M else nb_R nb_P 262 12 [(15, l0), v1, (16, l2), (0, l3), (0, l4), (0, l5), (11, nb_rd M (nb_rd M l0 0) l5), v7] [] M :=
  nb_step (c := (((true && !decide ((l0 : Int) = 0)) && (!decide ((nb_rd M l0 0 : Int) = 0) && (decide ((0 : Int) ≤ l5) && decide (l5 < nb_ln M (nb_rd M l0 0))))) && !decide ((nb_rd M (nb_rd M l0 0) l5 : Int) = 0))) rfl (by simp [h1, h2, h3, h4, h5])
theorem q_sc_choice_3 (l0 l2 l3 l4 l5 l6 : Int) (v1 v7 : nb_V) (M : nb_M) (h1 : l6 ≠ 0) (h2 : l2 ≠ 0) :
    nb_R nb_P 262 3 [(15, l0), v1, (16, l2), (0, l3), (0, l4), (0, l5), (11, l6), v7] [] M = if nb_rd M l6 3 < nb_rd M l2 3 then nb_R nb_P 262 12 [(15, l0), v1, (16, l2), (0, l3), (0, l4), (0, l5), (11, l6), v7] [] M else nb_R nb_P 262 4 [(15, l0), v1, (16, l2), (0, l3), (0, l4), (0, l5), (11, l6), v7] [] M :=
  nb_step (c := ((true && !decide ((l6 : Int) = 0)) && !decide ((l2 : Int) = 0))) rfl (by simp [h1, h2])
theorem q_sc_choice_4 (l0 l2 l3 l4 l5 l6 : Int) (v1 v7 : nb_V) (M : nb_M) (h1 : l6 ≠ 0) (h2 : l2 ≠ 0) :
    nb_R nb_P 262 4 [(15, l0), v1, (16, l2), (0, l3), (0, l4), (0, l5), (11, l6), v7] [] M = if nb_rd M l2 4 < nb_rd M l6 3 then nb_R nb_P 262 5 [(15, l0), v1, (16, l2), (0, l3), (0, l4), (0, l5), (11, l6), v7] [] M else nb_R nb_P 262 6 [(15, l0), v1, (16, l2), (0, l3), (0, l4), (0, l5), (11, l6), v7] [] M :=
  nb_step (c := ((true && !decide ((l6 : Int) = 0)) && !decide ((l2 : Int) = 0))) rfl (by simp [h1, h2])
theorem q_sc_choice_5 (l0 l2 l3 l4 l5 : Int) (v1 v6 v7 : nb_V) (M : nb_M) :
    nb_R nb_P 262 5 [(15, l0), v1, (16, l2), (0, l3), (0, l4), (0, l5), v6, v7] [] M = nb_R nb_P 262 12 [(15, l0), v1, (16, l2), (0, l3), (0, l4), (0, l5), v6, v7] [] M :=
  nb_step (c := true) rfl rfl
theorem q_sc_choice_6 (l0 l2 l3 l4 l5 l6 : Int) (v1 v7 : nb_V) (M : nb_M) (h1 : l2 ≠ 0) :
    nb_R nb_P 262 6 [(15, l0), v1, (16, l2), (0, l3), (0, l4), (0, l5), (11, l6), v7] [] M = (nb_R nb_P 278 0 [(16, l2), (11, l6), (98, 0)] [] M).bind fun r => nb_R nb_P 262 7 [(15, l0), v1, (16, l2), (0, l3), (0, l4), (0, l5), (11, l6), v7] (r.1 ++ []) r.2 :=
  nb_stepC (c := true) (L2 := [(15, l0), v1, (16, l2), (0, l3), (0, l4), (0, l5), (11, l6), v7]) (S2 := [(11, l6), (16, l2)]) (M2 := M) (t := 7) (cl := 278) (vi := true) rfl rfl (nb_inv_eq (n := 2) rfl rfl rfl rfl rfl rfl (fun _ => h1) rfl)
theorem q_sc_choice_7 (l0 l2 l3 l4 l5 l6 s0 : Int) (v1 v7 : nb_V) (M : nb_M) :
    nb_R nb_P 262 7 [(15, l0), v1, (16, l2), (0, l3), (0, l4), (0, l5), (11, l6), v7] [(0, s0)] M = if l3 < 0 then nb_R nb_P 262 11 [(15, l0), v1, (16, l2), (0, l3), (0, l4), (0, l5), (11, l6), (0, s0)] [] M else nb_R nb_P 262 8 [(15, l0), v1, (16, l2), (0, l3), (0, l4), (0, l5), (11, l6), (0, s0)] [] M :=
  nb_step (c := true) rfl rfl
theorem q_sc_choice_8 (l0 l2 l3 l4 l5 l6 l7 : Int) (v1 : nb_V) (M : nb_M) :
    nb_R nb_P 262 8 [(15, l0), v1, (16, l2), (0, l3), (0, l4), (0, l5), (11, l6), (0, l7)] [] M = if l7 < l4 then nb_R nb_P 262 11 [(15, l0), v1, (16, l2), (0, l3), (0, l4), (0, l5), (11, l6), (0, l7)] [] M else nb_R nb_P 262 9 [(15, l0), v1, (16, l2), (0, l3), (0, l4), (0, l5), (11, l6), (0, l7)] [] M :=
  nb_step (c := true) rfl rfl
theorem q_sc_choice_9 (l0 l2 l3 l4 l5 l6 l7 : Int) (v1 : nb_V) (M : nb_M) :
    nb_R nb_P 262 9 [(15, l0), v1, (16, l2), (0, l3), (0, l4), (0, l5), (11, l6), (0, l7)] [] M = if l7 = l4 then nb_R nb_P 262 10 [(15, l0), v1, (16, l2), (0, l3), (0, l4), (0, l5), (11, l6), (0, l7)] [] M else nb_R nb_P 262 12 [(15, l0), v1, (16, l2), (0, l3), (0, l4), (0, l5), (11, l6), (0, l7)] [] M :=
  nb_step (c := true) rfl rfl
theorem q_sc_choice_10 (l0 l2 l3 l4 l5 l6 l7 : Int) (v1 : nb_V) (M : nb_M) (h1 : l6 ≠ 0) (h2 : l0 ≠ 0) (h3 : (nb_rd M l0 0) ≠ 0) (h4 : (0 : Int) ≤ l3) (h5 : l3 < nb_ln M (nb_rd M l0 0)) (h6 : (nb_rd M (nb_rd M l0 0) l3) ≠ 0) :
    nb_R nb_P 262 10 [(15, l0), v1, (16, l2), (0, l3), (0, l4), (0, l5), (11, l6), (0, l7)] [] M = if nb_rd M l6 2 < nb_rd M (nb_rd M (nb_rd M l0 0) l3) 2 then nb_R nb_P 262 11 [(15, l0), v1, (16, l2), (0, l3), (0, l4), (0, l5), (11, l6), (0, l7)] [] M else nb_R nb_P 262 12 [(15, l0), v1, (16, l2), (0, l3), (0, l4), (0, l5), (11, l6), (0, l7)] [] M :=
  nb_step (c := ((((true && !decide ((l6 : Int) = 0)) && !decide ((l0 : Int) = 0)) && (!decide ((nb_rd M l0 0 : Int) = 0) && (decide ((0 : Int) ≤ l3) && decide (l3 < nb_ln M (nb_rd M l0 0))))) && !decide ((nb_rd M (nb_rd M l0 0) l3 : Int) = 0))) rfl (by simp [h1, h2, h3, h4, h5, h6])
theorem q_sc_choice_11 (l0 l2 l5 l7 : Int) (v1 v3 v4 v6 : nb_V) (M : nb_M) :
    nb_R nb_P 262 11 [(15, l0), v1, (16, l2), v3, v4, (0, l5), v6, (0, l7)] [] M = nb_R nb_P 262 12 [(15, l0), v1, (16, l2), (0, l5), (0, l7), (0, l5), v6, (0, l7)] [] M :=
  nb_step (c := true) rfl rfl
theorem q_sc_choice_12 (l0 l2 l3 l4 l5 : Int) (v1 v6 v7 : nb_V) (M : nb_M) :
    nb_R nb_P 262 12 [(15, l0), v1, (16, l2), (0, l3), (0, l4), (0, l5), v6, v7] [] M = nb_R nb_P 262 1 [(15, l0), v1, (16, l2), (0, l3), (0, l4), (0, nb_add l5 1), v6, v7] [] M :=
  nb_step (c := true) rfl rfl
theorem q_sc_choice_13 (l3 : Int) (v0 v1 v2 v4 v5 v6 v7 : nb_V) (M : nb_M) :
    nb_R nb_P 262 13 [v0, v1, v2, (0, l3), v4, v5, v6, v7] [] M = some ([(0, l3)], M) :=
  nb_step (c := true) rfl rfl
theorem q_sc_begin_0 (l0 l1 l2 l3 l4 : Int) (v5 v6 v7 : nb_V) (M : nb_M) (h1 : l0 ≠ 0) (h2 : (nb_rd M l0 1) ≠ 0) (h3 : (0 : Int) ≤ l1) (h4 : l1 < nb_ln M (nb_rd M l0 1)) (h5 : (nb_rd M l0 0) ≠ 0) (h6 : (0 : Int) ≤ l3) (h7 : l3 < nb_ln M (nb_rd M l0 0)) (h8 : (nb_rd M (nb_rd M l0 1) l1) ≠ 0) (h9 : (nb_rd M (nb_rd M l0 0) l3) ≠ 0) :
    nb_R nb_P 263 0 [(15, l0), (0, l1), (0, l2), (0, l3), (0, l4), v5, v6, v7] [] M = ((some ([(0, if 0 ≤ nb_sub (nb_rd M (nb_rd M (nb_rd M l0 0) l3) 3) (nb_rd M (nb_rd M (nb_rd M l0 1) l1) 2) then nb_sub (nb_rd M (nb_rd M (nb_rd M l0 0) l3) 3) (nb_rd M (nb_rd M (nb_rd M l0 1) l1) 2) else nb_neg (nb_sub (nb_rd M (nb_rd M (nb_rd M l0 0) l3) 3) (nb_rd M (nb_rd M (nb_rd M l0 1) l1) 2)))], M) : nb_A)).bind fun r => nb_R nb_P 263 1 [(15, l0), (0, l1), (0, l2), (0, l3), (0, l4), (16, nb_rd M (nb_rd M l0 1) l1), (11, nb_rd M (nb_rd M l0 0) l3), v7] (r.1 ++ [(0, nb_rd M (nb_rd M (nb_rd M l0 1) l1) 5)]) r.2 :=
  nb_stepC (c := (((((((true && !decide ((l0 : Int) = 0)) && (!decide ((nb_rd M l0 1 : Int) = 0) && (decide ((0 : Int) ≤ l1) && decide (l1 < nb_ln M (nb_rd M l0 1))))) && !decide ((l0 : Int) = 0)) && (!decide ((nb_rd M l0 0 : Int) = 0) && (decide ((0 : Int) ≤ l3) && decide (l3 < nb_ln M (nb_rd M l0 0))))) && !decide ((nb_rd M (nb_rd M l0 1) l1 : Int) = 0)) && !decide ((nb_rd M (nb_rd M l0 0) l3 : Int) = 0)) && !decide ((nb_rd M (nb_rd M l0 1) l1 : Int) = 0))) (L2 := [(15, l0), (0, l1), (0, l2), (0, l3), (0, l4), (16, nb_rd M (nb_rd M l0 1) l1), (11, nb_rd M (nb_rd M l0 0) l3), v7]) (S2 := [(0, nb_sub (nb_rd M (nb_rd M (nb_rd M l0 0) l3) 3) (nb_rd M (nb_rd M (nb_rd M l0 1) l1) 2)), (0, nb_rd M (nb_rd M (nb_rd M l0 1) l1) 5)]) (M2 := M) (t := 1) (cl := 907) (vi := false) rfl (by simp [h1, h2, h3, h4, h5, h6, h7, h8, h9]) (nb_inv_eq (n := 1) rfl rfl rfl rfl rfl rfl (fun h => by cases h) rfl)
theorem q_sc_begin_1 (l0 l1 l2 l3 l4 l5 l6 s0 s1 : Int) (v7 : nb_V) (M : nb_M) (h1 : l6 ≠ 0) :
    nb_R nb_P 263 1 [(15, l0), (0, l1), (0, l2), (0, l3), (0, l4), (16, l5), (11, l6), v7] [(0, s0), (0, s1)] M = nb_R nb_P 263 2 [(15, l0), (0, l1), (0, l2), (0, l3), (0, l4), (16, l5), (11, l6), (0, nb_mul s1 s0)] [] (nb_wr M l6 8 2) :=
  nb_step (c := (true && (!decide ((l6 : Int) = 0) && (!false || (decide ((2 : Int) = 0) || decide ((2 : Int) = 1)))))) rfl (by simp [h1])
theorem q_sc_begin_2 (l0 l1 l2 l3 l4 l5 l6 l7 : Int) (M : nb_M) (h1 : l6 ≠ 0) :
    nb_R nb_P 263 2 [(15, l0), (0, l1), (0, l2), (0, l3), (0, l4), (16, l5), (11, l6), (0, l7)] [] M = nb_R nb_P 263 3 [(15, l0), (0, l1), (0, l2), (0, l3), (0, l4), (16, l5), (11, l6), (0, l7)] [] (nb_wr M l6 9 l4) :=
  nb_step (c := (true && (!decide ((l6 : Int) = 0) && (!false || (decide ((l4 : Int) = 0) || decide ((l4 : Int) = 1)))))) rfl (by simp [h1])
theorem q_sc_begin_3 (l0 l1 l2 l3 l4 l5 l6 l7 : Int) (M : nb_M) (h1 : l6 ≠ 0) :
    nb_R nb_P 263 3 [(15, l0), (0, l1), (0, l2), (0, l3), (0, l4), (16, l5), (11, l6), (0, l7)] [] M = nb_R nb_P 263 4 [(15, l0), (0, l1), (0, l2), (0, l3), (0, l4), (16, l5), (11, l6), (0, l7)] [] (nb_wr M l6 11 l4) :=
  nb_step (c := (true && (!decide ((l6 : Int) = 0) && (!false || (decide ((l4 : Int) = 0) || decide ((l4 : Int) = 1)))))) rfl (by simp [h1])
theorem q_sc_begin_4 (l0 l1 l2 l3 l4 l5 l6 l7 : Int) (M : nb_M) (h1 : l6 ≠ 0) :
    nb_R nb_P 263 4 [(15, l0), (0, l1), (0, l2), (0, l3), (0, l4), (16, l5), (11, l6), (0, l7)] [] M = nb_R nb_P 263 5 [(15, l0), (0, l1), (0, l2), (0, l3), (0, l4), (16, l5), (11, l6), (0, l7)] [] (nb_wr M l6 12 l1) :=
  nb_step (c := (true && (!decide ((l6 : Int) = 0) && (!false || (decide ((l1 : Int) = 0) || decide ((l1 : Int) = 1)))))) rfl (by simp [h1])
theorem q_sc_begin_5 (l0 l2 l3 l4 l5 l6 l7 : Int) (v1 : nb_V) (M : nb_M) (h1 : l0 ≠ 0) (h2 : l5 ≠ 0) (h3 : (nb_rd M l0 3) ≠ 0) :
    nb_R nb_P 263 5 [(15, l0), v1, (0, l2), (0, l3), (0, l4), (16, l5), (11, l6), (0, l7)] [] M = (nb_R nb_P 220 0 [(12, nb_rd M l0 3), (0, nb_rd M l5 7), (0, l3), (98, 0), (98, 0), (98, 0), (98, 0)] [] M).bind fun r => nb_R nb_P 263 6 [(15, l0), v1, (0, l2), (0, l3), (0, l4), (16, l5), (11, l6), (0, l7)] (r.1 ++ [(0, nb_add l4 l7), (11, l6)]) r.2 :=
  nb_stepC (c := ((true && !decide ((l0 : Int) = 0)) && !decide ((l5 : Int) = 0))) (L2 := [(15, l0), v1, (0, l2), (0, l3), (0, l4), (16, l5), (11, l6), (0, l7)]) (S2 := [(0, l3), (0, nb_rd M l5 7), (12, nb_rd M l0 3), (0, nb_add l4 l7), (11, l6)]) (M2 := M) (t := 6) (cl := 220) (vi := true) rfl (by simp [h1, h2, h3]) (nb_inv_eq (n := 3) rfl rfl rfl rfl rfl rfl (fun _ => h3) rfl)
theorem q_sc_begin_6 (l0 l2 l3 l5 l6 s0 s1 s2 : Int) (v1 v4 v7 : nb_V) (M : nb_M) (h1 : s2 ≠ 0) :
    nb_R nb_P 263 6 [(15, l0), v1, (0, l2), (0, l3), v4, (16, l5), (11, l6), v7] [(0, s0), (0, s1), (11, s2)] M = nb_R nb_P 263 7 [(15, l0), v1, (0, l2), (0, l3), v4, (16, l5), (11, l6), v7] [] (nb_wr M s2 10 (nb_add s1 s0)) :=
  nb_step (c := (true && (!decide ((s2 : Int) = 0) && (!false || (decide ((nb_add s1 s0 : Int) = 0) || decide ((nb_add s1 s0 : Int) = 1)))))) rfl (by simp [h1])
theorem q_sc_begin_7 (l0 l2 l3 l5 l6 : Int) (v1 v4 v7 : nb_V) (M : nb_M) (h1 : l6 ≠ 0) (h2 : l5 ≠ 0) :
    nb_R nb_P 263 7 [(15, l0), v1, (0, l2), (0, l3), v4, (16, l5), (11, l6), v7] [] M = nb_R nb_P 263 8 [(15, l0), v1, (0, l2), (0, l3), v4, (16, l5), (11, l6), v7] [] (nb_wr M l5 2 (nb_rd M l6 3)) :=
  nb_step (c := ((true && !decide ((l6 : Int) = 0)) && (!decide ((l5 : Int) = 0) && (!false || (decide ((nb_rd M l6 3 : Int) = 0) || decide ((nb_rd M l6 3 : Int) = 1)))))) rfl (by simp [h1, h2])
theorem q_sc_begin_8 (l0 l2 l3 l5 l6 : Int) (v1 v4 v7 : nb_V) (M : nb_M) (h1 : l5 ≠ 0) :
    nb_R nb_P 263 8 [(15, l0), v1, (0, l2), (0, l3), v4, (16, l5), (11, l6), v7] [] M = nb_R nb_P 263 9 [(15, l0), v1, (0, l2), (0, l3), v4, (16, l5), (11, l6), v7] [] (nb_wr M l5 7 l3) :=
  nb_step (c := (true && (!decide ((l5 : Int) = 0) && (!false || (decide ((l3 : Int) = 0) || decide ((l3 : Int) = 1)))))) rfl (by simp [h1])
theorem q_sc_begin_9 (l0 l2 l3 l5 l6 : Int) (v1 v4 v7 : nb_V) (M : nb_M) (h1 : l5 ≠ 0) (h2 : l6 ≠ 0) (h3 : (nb_rd M l5 0) ≠ 0) (h4 : (nb_rd M l5 0) ≠ 1) (h5 : (0 : Int) ≤ l2) (h6 : l2 < nb_ln M (nb_rd M l5 0)) :
    nb_R nb_P 263 9 [(15, l0), v1, (0, l2), (0, l3), v4, (16, l5), (11, l6), v7] [] M = nb_R nb_P 263 10 [(15, l0), v1, (0, l2), (0, l3), v4, (16, l5), (11, l6), v7] [] (nb_wr M (nb_rd M l5 0) l2 (nb_rd M l6 10)) :=
  nb_step (c := (((true && !decide ((l5 : Int) = 0)) && !decide ((l6 : Int) = 0)) && (!decide ((nb_rd M l5 0 : Int) = 0) && (!decide ((nb_rd M l5 0 : Int) = 1) && (decide ((0 : Int) ≤ l2) && decide (l2 < nb_ln M (nb_rd M l5 0))))))) rfl (by simp [h1, h2, h3, h4, h5, h6])
theorem q_sc_begin_10 (l0 l3 : Int) (v1 v2 v4 v5 v6 v7 : nb_V) (M : nb_M) (h1 : l0 ≠ 0) :
    nb_R nb_P 263 10 [(15, l0), v1, v2, (0, l3), v4, v5, v6, v7] [] M = if nb_rd M l0 6 < 10 then nb_R nb_P 263 11 [(15, l0), v1, v2, (0, l3), v4, v5, v6, v7] [] M else nb_R nb_P 263 13 [(15, l0), v1, v2, (0, l3), v4, v5, v6, v7] [] M :=
  nb_step (c := (true && !decide ((l0 : Int) = 0))) rfl (by simp [h1])
theorem q_sc_begin_11 (l0 l3 : Int) (v1 v2 v4 v5 v6 v7 : nb_V) (M : nb_M) (h1 : l0 ≠ 0) (h2 : (nb_rd M l0 2) ≠ 0) (h3 : (nb_rd M l0 2) ≠ 1) (h4 : (0 : Int) ≤ nb_rd M l0 6) (h5 : nb_rd M l0 6 < nb_ln M (nb_rd M l0 2)) :
    nb_R nb_P 263 11 [(15, l0), v1, v2, (0, l3), v4, v5, v6, v7] [] M = nb_R nb_P 263 12 [(15, l0), v1, v2, (0, l3), v4, v5, v6, v7] [] (nb_wr M (nb_rd M l0 2) (nb_rd M l0 6) l3) :=
  nb_step (c := (((true && !decide ((l0 : Int) = 0)) && !decide ((l0 : Int) = 0)) && (!decide ((nb_rd M l0 2 : Int) = 0) && (!decide ((nb_rd M l0 2 : Int) = 1) && (decide ((0 : Int) ≤ nb_rd M l0 6) && decide (nb_rd M l0 6 < nb_ln M (nb_rd M l0 2))))))) rfl (by simp [h1, h2, h3, h4, h5])
theorem q_sc_begin_12 (l0 l3 : Int) (v1 v2 v4 v5 v6 v7 : nb_V) (M : nb_M) (h1 : l0 ≠ 0) :
    nb_R nb_P 263 12 [(15, l0), v1, v2, (0, l3), v4, v5, v6, v7] [] M = nb_R nb_P 263 13 [(15, l0), v1, v2, (0, l3), v4, v5, v6, v7] [] (nb_wr M l0 6 (nb_add (nb_rd M l0 6) 1)) :=
  nb_step (c := ((true && !decide ((l0 : Int) = 0)) && (!decide ((l0 : Int) = 0) && (!false || (decide ((nb_add (nb_rd M l0 6) 1 : Int) = 0) || decide ((nb_add (nb_rd M l0 6) 1 : Int) = 1)))))) rfl (by simp [h1])
theorem q_sc_begin_13 (l0 l3 : Int) (v1 v2 v4 v5 v6 v7 : nb_V) (M : nb_M) (h1 : l0 ≠ 0) :
    nb_R nb_P 263 13 [(15, l0), v1, v2, (0, l3), v4, v5, v6, v7] [] M = (nb_R nb_P 264 0 [(15, l0), (0, l3), (98, 0)] [] M).bind fun r => nb_R nb_P 263 14 [(15, l0), v1, v2, (0, l3), v4, v5, v6, v7] (r.1 ++ []) r.2 :=
  nb_stepC (c := true) (L2 := [(15, l0), v1, v2, (0, l3), v4, v5, v6, v7]) (S2 := [(0, l3), (15, l0)]) (M2 := M) (t := 14) (cl := 264) (vi := true) rfl rfl (nb_inv_eq (n := 2) rfl rfl rfl rfl rfl rfl (fun _ => h1) rfl)
theorem q_sc_begin_14 (v0 v1 v2 v3 v4 v5 v6 v7 : nb_V) (M : nb_M) :
    nb_R nb_P 263 14 [v0, v1, v2, v3, v4, v5, v6, v7] [] M = some ([], M) :=
  nb_step (c := true) rfl rfl
theorem q_sc_notePassed_0 (l0 l1 : Int) (v2 : nb_V) (M : nb_M) :
    nb_R nb_P 264 0 [(15, l0), (0, l1), v2] [] M = nb_R nb_P 264 1 [(15, l0), (0, l1), (0, 0)] [] M :=
  nb_step (c := true) rfl rfl
theorem q_sc_notePassed_1 (l0 l1 l2 : Int) (M : nb_M) (h1 : l0 ≠ 0) :
    nb_R nb_P 264 1 [(15, l0), (0, l1), (0, l2)] [] M = if l2 < nb_rd M l0 4 then nb_R nb_P 264 2 [(15, l0), (0, l1), (0, l2)] [] M else nb_R nb_P 264 8 [(15, l0), (0, l1), (0, l2)] [] M :=
  nb_step (c := (true && !decide ((l0 : Int) = 0))) rfl (by simp [h1])
theorem q_sc_notePassed_2 (l0 l1 l2 : Int) (M : nb_M) (h1 : l0 ≠ 0) (h2 : (nb_rd M l0 0) ≠ 0) (h3 : (0 : Int) ≤ l2) (h4 : l2 < nb_ln M (nb_rd M l0 0)) (h5 : (nb_rd M (nb_rd M l0 0) l2) ≠ 0) :
    nb_R nb_P 264 2 [(15, l0), (0, l1), (0, l2)] [] M = if nb_rd M (nb_rd M (nb_rd M l0 0) l2) 8 = 1 then nb_R nb_P 264 3 [(15, l0), (0, l1), (0, l2)] [] M else nb_R nb_P 264 7 [(15, l0), (0, l1), (0, l2)] [] M :=
  nb_step (c := (((true && !decide ((l0 : Int) = 0)) && (!decide ((nb_rd M l0 0 : Int) = 0) && (decide ((0 : Int) ≤ l2) && decide (l2 < nb_ln M (nb_rd M l0 0))))) && !decide ((nb_rd M (nb_rd M l0 0) l2 : Int) = 0))) rfl (by simp [h1, h2, h3, h4, h5])
theorem q_sc_notePassed_3 (l0 l1 l2 : Int) (M : nb_M) (h1 : l0 ≠ 0) (h2 : (nb_rd M l0 3) ≠ 0) :
    nb_R nb_P 264 3 [(15, l0), (0, l1), (0, l2)] [] M = (nb_R nb_P 222 0 [(12, nb_rd M l0 3), (0, l2), (0, l1), (98, 0), (98, 0)] [] M).bind fun r => nb_R nb_P 264 4 [(15, l0), (0, l1), (0, l2)] (r.1 ++ []) r.2 :=
  nb_stepC (c := (true && !decide ((l0 : Int) = 0))) (L2 := [(15, l0), (0, l1), (0, l2)]) (S2 := [(0, l1), (0, l2), (12, nb_rd M l0 3)]) (M2 := M) (t := 4) (cl := 222) (vi := true) rfl (by simp [h1, h2]) (nb_inv_eq (n := 3) rfl rfl rfl rfl rfl rfl (fun _ => h2) rfl)
theorem q_sc_notePassed_4 (l0 l1 l2 s0 : Int) (M : nb_M) :
    nb_R nb_P 264 4 [(15, l0), (0, l1), (0, l2)] [(0, s0)] M = if s0 = 0 then nb_R nb_P 264 7 [(15, l0), (0, l1), (0, l2)] [] M else nb_R nb_P 264 5 [(15, l0), (0, l1), (0, l2)] [] M :=
  nb_step (c := true) rfl rfl
theorem q_sc_notePassed_5 (l0 l1 l2 : Int) (M : nb_M) (h1 : l0 ≠ 0) (h2 : (nb_rd M l0 0) ≠ 0) (h3 : (0 : Int) ≤ l2) (h4 : l2 < nb_ln M (nb_rd M l0 0)) (h5 : (nb_rd M (nb_rd M l0 0) l2) ≠ 0) :
    nb_R nb_P 264 5 [(15, l0), (0, l1), (0, l2)] [] M = nb_R nb_P 264 6 [(15, l0), (0, l1), (0, l2)] [] (nb_wr M (nb_rd M (nb_rd M l0 0) l2) 13 (nb_or (nb_rd M (nb_rd M (nb_rd M l0 0) l2) 13) (nb_shl 1 l1))) :=
  nb_step (c := ((((true && !decide ((l0 : Int) = 0)) && (!decide ((nb_rd M l0 0 : Int) = 0) && (decide ((0 : Int) ≤ l2) && decide (l2 < nb_ln M (nb_rd M l0 0))))) && !decide ((nb_rd M (nb_rd M l0 0) l2 : Int) = 0)) && (!decide ((nb_rd M (nb_rd M l0 0) l2 : Int) = 0) && (!false || (decide ((nb_or (nb_rd M (nb_rd M (nb_rd M l0 0) l2) 13) (nb_shl 1 l1) : Int) = 0) || decide ((nb_or (nb_rd M (nb_rd M (nb_rd M l0 0) l2) 13) (nb_shl 1 l1) : Int) = 1)))))) rfl (by simp [h1, h2, h3, h4, h5])
theorem q_sc_notePassed_6 (l0 l1 l2 : Int) (M : nb_M) (h1 : l0 ≠ 0) (h2 : (nb_rd M l0 0) ≠ 0) (h3 : (0 : Int) ≤ l1) (h4 : l1 < nb_ln M (nb_rd M l0 0)) (h5 : (nb_rd M (nb_rd M l0 0) l1) ≠ 0) :
    nb_R nb_P 264 6 [(15, l0), (0, l1), (0, l2)] [] M = nb_R nb_P 264 7 [(15, l0), (0, l1), (0, l2)] [] (nb_wr M (nb_rd M (nb_rd M l0 0) l1) 14 (nb_or (nb_rd M (nb_rd M (nb_rd M l0 0) l1) 14) (nb_shl 1 l2))) :=
  nb_step (c := ((((true && !decide ((l0 : Int) = 0)) && (!decide ((nb_rd M l0 0 : Int) = 0) && (decide ((0 : Int) ≤ l1) && decide (l1 < nb_ln M (nb_rd M l0 0))))) && !decide ((nb_rd M (nb_rd M l0 0) l1 : Int) = 0)) && (!decide ((nb_rd M (nb_rd M l0 0) l1 : Int) = 0) && (!false || (decide ((nb_or (nb_rd M (nb_rd M (nb_rd M l0 0) l1) 14) (nb_shl 1 l2) : Int) = 0) || decide ((nb_or (nb_rd M (nb_rd M (nb_rd M l0 0) l1) 14) (nb_shl 1 l2) : Int) = 1)))))) rfl (by simp [h1, h2, h3, h4, h5])
theorem q_sc_notePassed_7 (l0 l1 l2 : Int) (M : nb_M) :
    nb_R nb_P 264 7 [(15, l0), (0, l1), (0, l2)] [] M = nb_R nb_P 264 1 [(15, l0), (0, l1), (0, nb_add l2 1)] [] M :=
  nb_step (c := true) rfl rfl
theorem q_sc_notePassed_8 (v0 v1 v2 : nb_V) (M : nb_M) :
    nb_R nb_P 264 8 [v0, v1, v2] [] M = some ([], M) :=
  nb_step (c := true) rfl rfl
theorem q_sc_countOf_0 (l0 l1 : Int) (v2 v3 : nb_V) (M : nb_M) :
    nb_R nb_P 265 0 [(15, l0), (0, l1), v2, v3] [] M = nb_R nb_P 265 1 [(15, l0), (0, l1), (0, 0), (0, 0)] [] M :=
  nb_step (c := true) rfl rfl
theorem q_sc_countOf_1 (l0 l1 l2 l3 : Int) (M : nb_M) (h1 : l0 ≠ 0) :
    nb_R nb_P 265 1 [(15, l0), (0, l1), (0, l2), (0, l3)] [] M = if l3 < nb_rd M l0 4 then nb_R nb_P 265 2 [(15, l0), (0, l1), (0, l2), (0, l3)] [] M else nb_R nb_P 265 5 [(15, l0), (0, l1), (0, l2), (0, l3)] [] M :=
  nb_step (c := (true && !decide ((l0 : Int) = 0))) rfl (by simp [h1])
theorem q_sc_countOf_2 (l0 l1 l2 l3 : Int) (M : nb_M) (h1 : l0 ≠ 0) (h2 : (nb_rd M l0 0) ≠ 0) (h3 : (0 : Int) ≤ l3) (h4 : l3 < nb_ln M (nb_rd M l0 0)) (h5 : (nb_rd M (nb_rd M l0 0) l3) ≠ 0) :
    nb_R nb_P 265 2 [(15, l0), (0, l1), (0, l2), (0, l3)] [] M = if nb_rd M (nb_rd M (nb_rd M l0 0) l3) 8 = l1 then nb_R nb_P 265 3 [(15, l0), (0, l1), (0, l2), (0, l3)] [] M else nb_R nb_P 265 4 [(15, l0), (0, l1), (0, l2), (0, l3)] [] M :=
  nb_step (c := (((true && !decide ((l0 : Int) = 0)) && (!decide ((nb_rd M l0 0 : Int) = 0) && (decide ((0 : Int) ≤ l3) && decide (l3 < nb_ln M (nb_rd M l0 0))))) && !decide ((nb_rd M (nb_rd M l0 0) l3 : Int) = 0))) rfl (by simp [h1, h2, h3, h4, h5])
theorem q_sc_countOf_3 (l0 l1 l2 l3 : Int) (M : nb_M) :
    nb_R nb_P 265 3 [(15, l0), (0, l1), (0, l2), (0, l3)] [] M = nb_R nb_P 265 4 [(15, l0), (0, l1), (0, nb_add l2 1), (0, l3)] [] M :=
  nb_step (c := true) rfl rfl
theorem q_sc_countOf_4 (l0 l1 l2 l3 : Int) (M : nb_M) :
    nb_R nb_P 265 4 [(15, l0), (0, l1), (0, l2), (0, l3)] [] M = nb_R nb_P 265 1 [(15, l0), (0, l1), (0, l2), (0, nb_add l3 1)] [] M :=
  nb_step (c := true) rfl rfl
theorem q_sc_countOf_5 (l2 : Int) (v0 v1 v3 : nb_V) (M : nb_M) :
    nb_R nb_P 265 5 [v0, v1, (0, l2), v3] [] M = some ([(0, l2)], M) :=
  nb_step (c := true) rfl rfl
theorem q_sc_waitOf_0 (l0 l1 : Int) (v2 : nb_V) (M : nb_M) (h1 : l0 ≠ 0) (h2 : (nb_rd M l0 0) ≠ 0) (h3 : (0 : Int) ≤ l1) (h4 : l1 < nb_ln M (nb_rd M l0 0)) (h5 : (nb_rd M (nb_rd M l0 0) l1) ≠ 0) :
    nb_R nb_P 266 0 [(15, l0), (0, l1), v2] [] M = if nb_rd M (nb_rd M (nb_rd M l0 0) l1) 8 = 0 then nb_R nb_P 266 2 [(15, l0), (0, l1), (11, nb_rd M (nb_rd M l0 0) l1)] [] M else nb_R nb_P 266 1 [(15, l0), (0, l1), (11, nb_rd M (nb_rd M l0 0) l1)] [] M :=
  nb_step (c := (((true && !decide ((l0 : Int) = 0)) && (!decide ((nb_rd M l0 0 : Int) = 0) && (decide ((0 : Int) ≤ l1) && decide (l1 < nb_ln M (nb_rd M l0 0))))) && !decide ((nb_rd M (nb_rd M l0 0) l1 : Int) = 0))) rfl (by simp [h1, h2, h3, h4, h5])
theorem q_sc_waitOf_1 (l0 l2 : Int) (v1 : nb_V) (M : nb_M) (h1 : l2 ≠ 0) :
    nb_R nb_P 266 1 [(15, l0), v1, (11, l2)] [] M = if nb_rd M l2 8 = 5 then nb_R nb_P 266 2 [(15, l0), v1, (11, l2)] [] M else nb_R nb_P 266 3 [(15, l0), v1, (11, l2)] [] M :=
  nb_step (c := (true && !decide ((l2 : Int) = 0))) rfl (by simp [h1])
theorem q_sc_waitOf_2 (v0 v1 v2 : nb_V) (M : nb_M) :
    nb_R nb_P 266 2 [v0, v1, v2] [] M = some ([(0, 0)], M) :=
  nb_step (c := true) rfl rfl
theorem q_sc_waitOf_3 (l0 l2 : Int) (v1 : nb_V) (M : nb_M) (h1 : l2 ≠ 0) :
    nb_R nb_P 266 3 [(15, l0), v1, (11, l2)] [] M = if nb_rd M l2 8 = 1 then nb_R nb_P 266 4 [(15, l0), v1, (11, l2)] [] M else nb_R nb_P 266 5 [(15, l0), v1, (11, l2)] [] M :=
  nb_step (c := (true && !decide ((l2 : Int) = 0))) rfl (by simp [h1])
theorem q_sc_waitOf_4 (l0 l2 : Int) (v1 : nb_V) (M : nb_M) (h1 : l0 ≠ 0) :
    nb_R nb_P 266 4 [(15, l0), v1, (11, l2)] [] M = nb_R nb_P 266 6 [(15, l0), v1, (11, l2)] [(0, nb_rd M l0 8)] M :=
  nb_step (c := (true && !decide ((l0 : Int) = 0))) rfl (by simp [h1])
theorem q_sc_waitOf_5 (l2 : Int) (v0 v1 : nb_V) (M : nb_M) (h1 : l2 ≠ 0) :
    nb_R nb_P 266 5 [v0, v1, (11, l2)] [] M = nb_R nb_P 266 6 [v0, v1, (11, l2)] [(0, nb_rd M l2 11)] M :=
  nb_step (c := (true && !decide ((l2 : Int) = 0))) rfl (by simp [h1])
theorem q_sc_waitOf_6 (l2 s0 : Int) (v0 v1 : nb_V) (M : nb_M) (h1 : l2 ≠ 0) :
    nb_R nb_P 266 6 [v0, v1, (11, l2)] [(0, s0)] M = some ([(0, nb_sub s0 (nb_rd M l2 2))], M) :=
  nb_step (c := (true && !decide ((l2 : Int) = 0))) rfl (by simp [h1])
theorem q_sc_servedWait_0 (l0 l1 : Int) (M : nb_M) (h1 : l0 ≠ 0) (h2 : (nb_rd M l0 0) ≠ 0) (h3 : (0 : Int) ≤ l1) (h4 : l1 < nb_ln M (nb_rd M l0 0)) (h5 : (nb_rd M (nb_rd M l0 0) l1) ≠ 0) :
    nb_R nb_P 267 0 [(15, l0), (0, l1)] [] M = (nb_R nb_P 217 0 [(11, nb_rd M (nb_rd M l0 0) l1)] [] M).bind fun r => nb_R nb_P 267 1 [(15, l0), (0, l1)] (r.1 ++ []) r.2 :=
  nb_stepC (c := ((true && !decide ((l0 : Int) = 0)) && (!decide ((nb_rd M l0 0 : Int) = 0) && (decide ((0 : Int) ≤ l1) && decide (l1 < nb_ln M (nb_rd M l0 0)))))) (L2 := [(15, l0), (0, l1)]) (S2 := [(11, nb_rd M (nb_rd M l0 0) l1)]) (M2 := M) (t := 1) (cl := 217) (vi := true) rfl (by simp [h1, h2, h3, h4, h5]) (nb_inv_eq (n := 1) rfl rfl rfl rfl rfl rfl (fun _ => h5) rfl)
theorem q_sc_servedWait_1 (l0 l1 s0 : Int) (M : nb_M) :
    nb_R nb_P 267 1 [(15, l0), (0, l1)] [(0, s0)] M = if s0 = 0 then nb_R nb_P 267 4 [(15, l0), (0, l1)] [] M else nb_R nb_P 267 2 [(15, l0), (0, l1)] [] M :=
  nb_step (c := true) rfl rfl
theorem q_sc_servedWait_2 (l0 l1 : Int) (M : nb_M) (h1 : l0 ≠ 0) :
    nb_R nb_P 267 2 [(15, l0), (0, l1)] [] M = (nb_R nb_P 266 0 [(15, l0), (0, l1), (98, 0)] [] M).bind fun r => nb_R nb_P 267 3 [(15, l0), (0, l1)] (r.1 ++ []) r.2 :=
  nb_stepC (c := true) (L2 := [(15, l0), (0, l1)]) (S2 := [(0, l1), (15, l0)]) (M2 := M) (t := 3) (cl := 266) (vi := true) rfl rfl (nb_inv_eq (n := 2) rfl rfl rfl rfl rfl rfl (fun _ => h1) rfl)
theorem q_sc_servedWait_3 (s0 : Int) (v0 v1 : nb_V) (M : nb_M) :
    nb_R nb_P 267 3 [v0, v1] [(0, s0)] M = nb_R nb_P 267 5 [v0, v1] [(0, s0)] M :=
  nb_step (c := true) rfl rfl
theorem q_sc_servedWait_4 (v0 v1 : nb_V) (M : nb_M) :
    nb_R nb_P 267 4 [v0, v1] [] M = nb_R nb_P 267 5 [v0, v1] [(0, 1000000)] M :=
  nb_step (c := true) rfl rfl
theorem q_sc_servedWait_5 (s0 : Int) (v0 v1 : nb_V) (M : nb_M) :
    nb_R nb_P 267 5 [v0, v1] [(0, s0)] M = some ([(0, s0)], M) :=
  nb_step (c := true) rfl rfl
set_option maxRecDepth 10000 in
theorem q_sc_total_0 (l0 l1 : Int) (M : nb_M) :
    nb_R nb_P 268 0 [(15, l0), (0, l1)] [] M = if l1 = 0 then nb_R nb_P 268 1 [(15, l0), (0, l1)] [] M else if l1 = 1 then nb_R nb_P 268 4 [(15, l0), (0, l1)] [] M else if l1 = 2 then nb_R nb_P 268 6 [(15, l0), (0, l1)] [] M else nb_R nb_P 268 8 [(15, l0), (0, l1)] [] M :=
  nb_step (c := true) rfl rfl
theorem q_sc_total_1 (l0 : Int) (v1 : nb_V) (M : nb_M) (h1 : l0 ≠ 0) :
    nb_R nb_P 268 1 [(15, l0), v1] [] M = (nb_R nb_P 265 0 [(15, l0), (0, 2), (98, 0), (98, 0)] [] M).bind fun r => nb_R nb_P 268 2 [(15, l0), v1] (r.1 ++ []) r.2 :=
  nb_stepC (c := true) (L2 := [(15, l0), v1]) (S2 := [(0, 2), (15, l0)]) (M2 := M) (t := 2) (cl := 265) (vi := true) rfl rfl (nb_inv_eq (n := 2) rfl rfl rfl rfl rfl rfl (fun _ => h1) rfl)
theorem q_sc_total_2 (l0 s0 : Int) (v1 : nb_V) (M : nb_M) (h1 : l0 ≠ 0) :
    nb_R nb_P 268 2 [(15, l0), v1] [(0, s0)] M = (nb_R nb_P 265 0 [(15, l0), (0, 3), (98, 0), (98, 0)] [] M).bind fun r => nb_R nb_P 268 3 [(15, l0), v1] (r.1 ++ [(0, s0)]) r.2 :=
  nb_stepC (c := true) (L2 := [(15, l0), v1]) (S2 := [(0, 3), (15, l0), (0, s0)]) (M2 := M) (t := 3) (cl := 265) (vi := true) rfl rfl (nb_inv_eq (n := 2) rfl rfl rfl rfl rfl rfl (fun _ => h1) rfl)
theorem q_sc_total_3 (s0 s1 : Int) (v0 v1 : nb_V) (M : nb_M) :
    nb_R nb_P 268 3 [v0, v1] [(0, s0), (0, s1)] M = some ([(0, nb_add s1 s0)], M) :=
  nb_step (c := true) rfl rfl
theorem q_sc_total_4 (l0 : Int) (v1 : nb_V) (M : nb_M) (h1 : l0 ≠ 0) :
    nb_R nb_P 268 4 [(15, l0), v1] [] M = (nb_R nb_P 265 0 [(15, l0), (0, 4), (98, 0), (98, 0)] [] M).bind fun r => nb_R nb_P 268 5 [(15, l0), v1] (r.1 ++ []) r.2 :=
  nb_stepC (c := true) (L2 := [(15, l0), v1]) (S2 := [(0, 4), (15, l0)]) (M2 := M) (t := 5) (cl := 265) (vi := true) rfl rfl (nb_inv_eq (n := 2) rfl rfl rfl rfl rfl rfl (fun _ => h1) rfl)
theorem q_sc_total_5 (s0 : Int) (v0 v1 : nb_V) (M : nb_M) :
    nb_R nb_P 268 5 [v0, v1] [(0, s0)] M = some ([(0, s0)], M) :=
  nb_step (c := true) rfl rfl
theorem q_sc_total_6 (l0 : Int) (v1 : nb_V) (M : nb_M) (h1 : l0 ≠ 0) :
    nb_R nb_P 268 6 [(15, l0), v1] [] M = (nb_R nb_P 265 0 [(15, l0), (0, 1), (98, 0), (98, 0)] [] M).bind fun r => nb_R nb_P 268 7 [(15, l0), v1] (r.1 ++ []) r.2 :=
  nb_stepC (c := true) (L2 := [(15, l0), v1]) (S2 := [(0, 1), (15, l0)]) (M2 := M) (t := 7) (cl := 265) (vi := true) rfl rfl (nb_inv_eq (n := 2) rfl rfl rfl rfl rfl rfl (fun _ => h1) rfl)
theorem q_sc_total_7 (s0 : Int) (v0 v1 : nb_V) (M : nb_M) :
    nb_R nb_P 268 7 [v0, v1] [(0, s0)] M = some ([(0, s0)], M) :=
  nb_step (c := true) rfl rfl
theorem q_sc_total_8 (l0 l1 : Int) (M : nb_M) (h1 : l0 ≠ 0) :
    nb_R nb_P 268 8 [(15, l0), (0, l1)] [] M = (nb_R nb_P 269 0 [(15, l0), (0, l1), (98, 0), (98, 0)] [] M).bind fun r => nb_R nb_P 268 9 [(15, l0), (0, l1)] (r.1 ++ []) r.2 :=
  nb_stepC (c := true) (L2 := [(15, l0), (0, l1)]) (S2 := [(0, l1), (15, l0)]) (M2 := M) (t := 9) (cl := 269) (vi := true) rfl rfl (nb_inv_eq (n := 2) rfl rfl rfl rfl rfl rfl (fun _ => h1) rfl)
theorem q_sc_total_9 (s0 : Int) (v0 v1 : nb_V) (M : nb_M) :
    nb_R nb_P 268 9 [v0, v1] [(0, s0)] M = some ([(0, s0)], M) :=
  nb_step (c := true) rfl rfl
theorem q_sc_added_0 (l0 l1 : Int) (v2 v3 : nb_V) (M : nb_M) :
    nb_R nb_P 269 0 [(15, l0), (0, l1), v2, v3] [] M = nb_R nb_P 269 1 [(15, l0), (0, l1), (0, 0), (0, 0)] [] M :=
  nb_step (c := true) rfl rfl
theorem q_sc_added_1 (l0 l1 l2 l3 : Int) (M : nb_M) (h1 : l0 ≠ 0) :
    nb_R nb_P 269 1 [(15, l0), (0, l1), (0, l2), (0, l3)] [] M = if l3 < nb_rd M l0 4 then nb_R nb_P 269 2 [(15, l0), (0, l1), (0, l2), (0, l3)] [] M else nb_R nb_P 269 14 [(15, l0), (0, l1), (0, l2), (0, l3)] [] M :=
  nb_step (c := (true && !decide ((l0 : Int) = 0))) rfl (by simp [h1])
theorem q_sc_added_2 (l0 l1 l2 l3 : Int) (M : nb_M) :
    nb_R nb_P 269 2 [(15, l0), (0, l1), (0, l2), (0, l3)] [] M = if l1 = 3 then nb_R nb_P 269 3 [(15, l0), (0, l1), (0, l2), (0, l3)] [] M else nb_R nb_P 269 5 [(15, l0), (0, l1), (0, l2), (0, l3)] [] M :=
  nb_step (c := true) rfl rfl
theorem q_sc_added_3 (l0 l1 l2 l3 : Int) (M : nb_M) (h1 : l0 ≠ 0) :
    nb_R nb_P 269 3 [(15, l0), (0, l1), (0, l2), (0, l3)] [] M = (nb_R nb_P 266 0 [(15, l0), (0, l3), (98, 0)] [] M).bind fun r => nb_R nb_P 269 4 [(15, l0), (0, l1), (0, l2), (0, l3)] (r.1 ++ [(0, l2)]) r.2 :=
  nb_stepC (c := true) (L2 := [(15, l0), (0, l1), (0, l2), (0, l3)]) (S2 := [(0, l3), (15, l0), (0, l2)]) (M2 := M) (t := 4) (cl := 266) (vi := true) rfl rfl (nb_inv_eq (n := 2) rfl rfl rfl rfl rfl rfl (fun _ => h1) rfl)
theorem q_sc_added_4 (l0 l1 l3 s0 s1 : Int) (v2 : nb_V) (M : nb_M) :
    nb_R nb_P 269 4 [(15, l0), (0, l1), v2, (0, l3)] [(0, s0), (0, s1)] M = nb_R nb_P 269 13 [(15, l0), (0, l1), (0, nb_add s1 s0), (0, l3)] [] M :=
  nb_step (c := true) rfl rfl
theorem q_sc_added_5 (l0 l1 l2 l3 : Int) (M : nb_M) :
    nb_R nb_P 269 5 [(15, l0), (0, l1), (0, l2), (0, l3)] [] M = if l1 = 4 then nb_R nb_P 269 6 [(15, l0), (0, l1), (0, l2), (0, l3)] [] M else nb_R nb_P 269 8 [(15, l0), (0, l1), (0, l2), (0, l3)] [] M :=
  nb_step (c := true) rfl rfl
theorem q_sc_added_6 (l0 l1 l2 l3 : Int) (M : nb_M) (h1 : l0 ≠ 0) (h2 : (nb_rd M l0 0) ≠ 0) (h3 : (0 : Int) ≤ l3) (h4 : l3 < nb_ln M (nb_rd M l0 0)) (h5 : (nb_rd M (nb_rd M l0 0) l3) ≠ 0) :
    nb_R nb_P 269 6 [(15, l0), (0, l1), (0, l2), (0, l3)] [] M = (nb_R nb_P 294 0 [(0, nb_rd M (nb_rd M (nb_rd M l0 0) l3) 13)] [] M).bind fun r => nb_R nb_P 269 7 [(15, l0), (0, l1), (0, l2), (0, l3)] (r.1 ++ [(0, l2)]) r.2 :=
  nb_stepC (c := (((true && !decide ((l0 : Int) = 0)) && (!decide ((nb_rd M l0 0 : Int) = 0) && (decide ((0 : Int) ≤ l3) && decide (l3 < nb_ln M (nb_rd M l0 0))))) && !decide ((nb_rd M (nb_rd M l0 0) l3 : Int) = 0))) (L2 := [(15, l0), (0, l1), (0, l2), (0, l3)]) (S2 := [(0, nb_rd M (nb_rd M (nb_rd M l0 0) l3) 13), (0, l2)]) (M2 := M) (t := 7) (cl := 294) (vi := false) rfl (by simp [h1, h2, h3, h4, h5]) (nb_inv_eq (n := 1) rfl rfl rfl rfl rfl rfl (fun h => by cases h) rfl)
theorem q_sc_added_7 (l0 l1 l3 s0 s1 : Int) (v2 : nb_V) (M : nb_M) :
    nb_R nb_P 269 7 [(15, l0), (0, l1), v2, (0, l3)] [(0, s0), (0, s1)] M = nb_R nb_P 269 13 [(15, l0), (0, l1), (0, nb_add s1 s0), (0, l3)] [] M :=
  nb_step (c := true) rfl rfl
theorem q_sc_added_8 (l0 l1 l2 l3 : Int) (M : nb_M) :
    nb_R nb_P 269 8 [(15, l0), (0, l1), (0, l2), (0, l3)] [] M = if l1 = 5 then nb_R nb_P 269 9 [(15, l0), (0, l1), (0, l2), (0, l3)] [] M else nb_R nb_P 269 13 [(15, l0), (0, l1), (0, l2), (0, l3)] [] M :=
  nb_step (c := true) rfl rfl
theorem q_sc_added_9 (l0 l1 l2 l3 : Int) (M : nb_M) (h1 : l0 ≠ 0) (h2 : (nb_rd M l0 0) ≠ 0) (h3 : (0 : Int) ≤ l3) (h4 : l3 < nb_ln M (nb_rd M l0 0)) (h5 : (nb_rd M (nb_rd M l0 0) l3) ≠ 0) :
    nb_R nb_P 269 9 [(15, l0), (0, l1), (0, l2), (0, l3)] [] M = (nb_R nb_P 217 0 [(11, nb_rd M (nb_rd M l0 0) l3)] [] M).bind fun r => nb_R nb_P 269 10 [(15, l0), (0, l1), (0, l2), (0, l3)] (r.1 ++ []) r.2 :=
  nb_stepC (c := ((true && !decide ((l0 : Int) = 0)) && (!decide ((nb_rd M l0 0 : Int) = 0) && (decide ((0 : Int) ≤ l3) && decide (l3 < nb_ln M (nb_rd M l0 0)))))) (L2 := [(15, l0), (0, l1), (0, l2), (0, l3)]) (S2 := [(11, nb_rd M (nb_rd M l0 0) l3)]) (M2 := M) (t := 10) (cl := 217) (vi := true) rfl (by simp [h1, h2, h3, h4, h5]) (nb_inv_eq (n := 1) rfl rfl rfl rfl rfl rfl (fun _ => h5) rfl)
theorem q_sc_added_10 (l0 l1 l2 l3 s0 : Int) (M : nb_M) :
    nb_R nb_P 269 10 [(15, l0), (0, l1), (0, l2), (0, l3)] [(0, s0)] M = if s0 = 0 then nb_R nb_P 269 13 [(15, l0), (0, l1), (0, l2), (0, l3)] [] M else nb_R nb_P 269 11 [(15, l0), (0, l1), (0, l2), (0, l3)] [] M :=
  nb_step (c := true) rfl rfl
theorem q_sc_added_11 (l0 l1 l2 l3 : Int) (M : nb_M) (h1 : l0 ≠ 0) (h2 : (nb_rd M l0 3) ≠ 0) :
    nb_R nb_P 269 11 [(15, l0), (0, l1), (0, l2), (0, l3)] [] M = (nb_R nb_P 221 0 [(12, nb_rd M l0 3), (0, l3), (98, 0), (98, 0)] [] M).bind fun r => nb_R nb_P 269 12 [(15, l0), (0, l1), (0, l2), (0, l3)] (r.1 ++ [(0, l2)]) r.2 :=
  nb_stepC (c := (true && !decide ((l0 : Int) = 0))) (L2 := [(15, l0), (0, l1), (0, l2), (0, l3)]) (S2 := [(0, l3), (12, nb_rd M l0 3), (0, l2)]) (M2 := M) (t := 12) (cl := 221) (vi := true) rfl (by simp [h1, h2]) (nb_inv_eq (n := 2) rfl rfl rfl rfl rfl rfl (fun _ => h2) rfl)
theorem q_sc_added_12 (l0 l1 l3 s0 s1 : Int) (v2 : nb_V) (M : nb_M) :
    nb_R nb_P 269 12 [(15, l0), (0, l1), v2, (0, l3)] [(0, s0), (0, s1)] M = nb_R nb_P 269 13 [(15, l0), (0, l1), (0, nb_add s1 s0), (0, l3)] [] M :=
  nb_step (c := true) rfl rfl
theorem q_sc_added_13 (l0 l1 l2 l3 : Int) (M : nb_M) :
    nb_R nb_P 269 13 [(15, l0), (0, l1), (0, l2), (0, l3)] [] M = nb_R nb_P 269 1 [(15, l0), (0, l1), (0, l2), (0, nb_add l3 1)] [] M :=
  nb_step (c := true) rfl rfl
theorem q_sc_added_14 (l2 : Int) (v0 v1 v3 : nb_V) (M : nb_M) :
    nb_R nb_P 269 14 [v0, v1, (0, l2), v3] [] M = some ([(0, l2)], M) :=
  nb_step (c := true) rfl rfl
theorem q_sc_waitsOfSet_0 (l0 l1 : Int) (v2 v3 : nb_V) (M : nb_M) :
    nb_R nb_P 270 0 [(15, l0), (0, l1), v2, v3] [] M = nb_R nb_P 270 1 [(15, l0), (0, l1), (0, 0), (0, 0)] [] M :=
  nb_step (c := true) rfl rfl
theorem q_sc_waitsOfSet_1 (l0 l1 l2 l3 : Int) (M : nb_M) (h1 : l0 ≠ 0) :
    nb_R nb_P 270 1 [(15, l0), (0, l1), (0, l2), (0, l3)] [] M = if l3 < nb_rd M l0 4 then nb_R nb_P 270 2 [(15, l0), (0, l1), (0, l2), (0, l3)] [] M else nb_R nb_P 270 6 [(15, l0), (0, l1), (0, l2), (0, l3)] [] M :=
  nb_step (c := (true && !decide ((l0 : Int) = 0))) rfl (by simp [h1])
theorem q_sc_waitsOfSet_2 (l0 l1 l2 l3 : Int) (M : nb_M) :
    nb_R nb_P 270 2 [(15, l0), (0, l1), (0, l2), (0, l3)] [] M = if nb_and (nb_shr l1 l3) 1 = 1 then nb_R nb_P 270 3 [(15, l0), (0, l1), (0, l2), (0, l3)] [] M else nb_R nb_P 270 5 [(15, l0), (0, l1), (0, l2), (0, l3)] [] M :=
  nb_step (c := true) rfl rfl
theorem q_sc_waitsOfSet_3 (l0 l1 l2 l3 : Int) (M : nb_M) (h1 : l0 ≠ 0) :
    nb_R nb_P 270 3 [(15, l0), (0, l1), (0, l2), (0, l3)] [] M = (nb_R nb_P 266 0 [(15, l0), (0, l3), (98, 0)] [] M).bind fun r => nb_R nb_P 270 4 [(15, l0), (0, l1), (0, l2), (0, l3)] (r.1 ++ [(0, l2)]) r.2 :=
  nb_stepC (c := true) (L2 := [(15, l0), (0, l1), (0, l2), (0, l3)]) (S2 := [(0, l3), (15, l0), (0, l2)]) (M2 := M) (t := 4) (cl := 266) (vi := true) rfl rfl (nb_inv_eq (n := 2) rfl rfl rfl rfl rfl rfl (fun _ => h1) rfl)
theorem q_sc_waitsOfSet_4 (l0 l1 l3 s0 s1 : Int) (v2 : nb_V) (M : nb_M) :
    nb_R nb_P 270 4 [(15, l0), (0, l1), v2, (0, l3)] [(0, s0), (0, s1)] M = nb_R nb_P 270 5 [(15, l0), (0, l1), (0, nb_add s1 s0), (0, l3)] [] M :=
  nb_step (c := true) rfl rfl
theorem q_sc_waitsOfSet_5 (l0 l1 l2 l3 : Int) (M : nb_M) :
    nb_R nb_P 270 5 [(15, l0), (0, l1), (0, l2), (0, l3)] [] M = nb_R nb_P 270 1 [(15, l0), (0, l1), (0, l2), (0, nb_add l3 1)] [] M :=
  nb_step (c := true) rfl rfl
theorem q_sc_waitsOfSet_6 (l2 : Int) (v0 v1 v3 : nb_V) (M : nb_M) :
    nb_R nb_P 270 6 [v0, v1, (0, l2), v3] [] M = some ([(0, l2)], M) :=
  nb_step (c := true) rfl rfl
