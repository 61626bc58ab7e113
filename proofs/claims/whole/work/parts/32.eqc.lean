/-! block equations, printed by wip/gen/emit.py -/
theorem q_c_init_0 (l0 : Int) (v1 : nb_V) (M : nb_M) (h1 : l0 ≠ 0) :
    nb_R nb_P 1 0 [(19, l0), v1] [] M = ((some ([], M) : nb_A)).bind fun r => nb_R nb_P 1 1 [(19, l0), v1] (r.1 ++ []) r.2 :=
  nb_stepC (c := true) (L2 := [(19, l0), v1]) (S2 := [(19, l0)]) (M2 := M) (t := 1) (cl := 900) (vi := true) rfl rfl (nb_inv_eq (n := 1) rfl rfl rfl rfl rfl rfl (fun _ => h1) rfl)
theorem q_c_init_1 (l0 : Int) (v1 : nb_V) (M : nb_M) (h1 : M.2.2.1 = 0) :
    nb_R nb_P 1 1 [(19, l0), v1] [] M = nb_R nb_P 1 2 [(19, l0), v1] [(4, nb_nx M), (19, l0)] (nb_al M 1 1000) :=
  nb_step (c := (true && (decide (M.2.2.1 = 0) && (decide ((0 : Int) ≤ 1000) && decide ((1000 : Int) ≤ 100000))))) rfl (by simp [h1])
theorem q_c_init_2 (l0 s0 s1 : Int) (v1 : nb_V) (M : nb_M) (h1 : s1 ≠ 0) :
    nb_R nb_P 1 2 [(19, l0), v1] [(4, s0), (19, s1)] M = nb_R nb_P 1 3 [(19, l0), v1] [] (nb_wr M s1 0 s0) :=
  nb_step (c := (true && (!decide ((s1 : Int) = 0) && (!false || (decide ((s0 : Int) = 0) || decide ((s0 : Int) = 1)))))) rfl (by simp [h1])
theorem q_c_init_3 (l0 : Int) (v1 : nb_V) (M : nb_M) (h1 : M.2.2.1 = 0) :
    nb_R nb_P 1 3 [(19, l0), v1] [] M = nb_R nb_P 1 4 [(19, l0), v1] [(12, nb_nx M), (19, l0)] (nb_al M 9 16) :=
  nb_step (c := (true && decide (M.2.2.1 = 0))) rfl (by simp [h1])
theorem q_c_init_4 (l0 s0 s1 : Int) (v1 : nb_V) (M : nb_M) (h1 : s0 ≠ 0) :
    nb_R nb_P 1 4 [(19, l0), v1] [(12, s0), (19, s1)] M = (nb_R nb_P 218 0 [(12, s0), (98, 0)] [] M).bind fun r => nb_R nb_P 1 5 [(19, l0), v1] (r.1 ++ [(12, s0), (19, s1)]) r.2 :=
  nb_stepC (c := true) (L2 := [(19, l0), v1]) (S2 := [(12, s0), (12, s0), (19, s1)]) (M2 := M) (t := 5) (cl := 218) (vi := true) rfl rfl (nb_inv_eq (n := 1) rfl rfl rfl rfl rfl rfl (fun _ => h1) rfl)
theorem q_c_init_5 (l0 s0 s1 : Int) (v1 : nb_V) (M : nb_M) (h1 : s1 ≠ 0) :
    nb_R nb_P 1 5 [(19, l0), v1] [(12, s0), (19, s1)] M = nb_R nb_P 1 6 [(19, l0), v1] [] (nb_wr M s1 2 s0) :=
  nb_step (c := (true && (!decide ((s1 : Int) = 0) && (!false || (decide ((s0 : Int) = 0) || decide ((s0 : Int) = 1)))))) rfl (by simp [h1])
theorem q_c_init_6 (l0 : Int) (v1 : nb_V) (M : nb_M) (h1 : M.2.2.1 = 0) :
    nb_R nb_P 1 6 [(19, l0), v1] [] M = nb_R nb_P 1 7 [(19, l0), v1] [(12, nb_nx M), (19, l0)] (nb_al M 9 16) :=
  nb_step (c := (true && decide (M.2.2.1 = 0))) rfl (by simp [h1])
theorem q_c_init_7 (l0 s0 s1 : Int) (v1 : nb_V) (M : nb_M) (h1 : s0 ≠ 0) :
    nb_R nb_P 1 7 [(19, l0), v1] [(12, s0), (19, s1)] M = (nb_R nb_P 218 0 [(12, s0), (98, 0)] [] M).bind fun r => nb_R nb_P 1 8 [(19, l0), v1] (r.1 ++ [(12, s0), (19, s1)]) r.2 :=
  nb_stepC (c := true) (L2 := [(19, l0), v1]) (S2 := [(12, s0), (12, s0), (19, s1)]) (M2 := M) (t := 8) (cl := 218) (vi := true) rfl rfl (nb_inv_eq (n := 1) rfl rfl rfl rfl rfl rfl (fun _ => h1) rfl)
theorem q_c_init_8 (l0 s0 s1 : Int) (v1 : nb_V) (M : nb_M) (h1 : s1 ≠ 0) :
    nb_R nb_P 1 8 [(19, l0), v1] [(12, s0), (19, s1)] M = nb_R nb_P 1 9 [(19, l0), v1] [] (nb_wr M s1 3 s0) :=
  nb_step (c := (true && (!decide ((s1 : Int) = 0) && (!false || (decide ((s0 : Int) = 0) || decide ((s0 : Int) = 1)))))) rfl (by simp [h1])
theorem q_c_init_9 (l0 : Int) (v1 : nb_V) (M : nb_M) (h1 : M.2.2.1 = 0) :
    nb_R nb_P 1 9 [(19, l0), v1] [] M = nb_R nb_P 1 10 [(19, l0), v1] [(13, nb_nx M), (19, l0)] (nb_al M 10 11) :=
  nb_step (c := (true && decide (M.2.2.1 = 0))) rfl (by simp [h1])
theorem q_c_init_10 (l0 s0 s1 : Int) (v1 : nb_V) (M : nb_M) (h1 : l0 ≠ 0) (h2 : s0 ≠ 0) :
    nb_R nb_P 1 10 [(19, l0), v1] [(13, s0), (19, s1)] M = (nb_R nb_P 223 0 [(13, s0), (12, nb_rd M l0 3)] [] M).bind fun r => nb_R nb_P 1 11 [(19, l0), v1] (r.1 ++ [(13, s0), (19, s1)]) r.2 :=
  nb_stepC (c := (true && !decide ((l0 : Int) = 0))) (L2 := [(19, l0), v1]) (S2 := [(12, nb_rd M l0 3), (13, s0), (13, s0), (19, s1)]) (M2 := M) (t := 11) (cl := 223) (vi := true) rfl (by simp [h1, h2]) (nb_inv_eq (n := 2) rfl rfl rfl rfl rfl rfl (fun _ => h2) rfl)
theorem q_c_init_11 (l0 s0 s1 : Int) (v1 : nb_V) (M : nb_M) (h1 : s1 ≠ 0) :
    nb_R nb_P 1 11 [(19, l0), v1] [(13, s0), (19, s1)] M = nb_R nb_P 1 12 [(19, l0), v1] [] (nb_wr M s1 4 s0) :=
  nb_step (c := (true && (!decide ((s1 : Int) = 0) && (!false || (decide ((s0 : Int) = 0) || decide ((s0 : Int) = 1)))))) rfl (by simp [h1])
theorem q_c_init_12 (l0 : Int) (v1 : nb_V) (M : nb_M) (h1 : M.2.2.1 = 0) :
    nb_R nb_P 1 12 [(19, l0), v1] [] M = nb_R nb_P 1 13 [(19, l0), v1] [(15, nb_nx M), (19, l0)] (nb_al M 12 9) :=
  nb_step (c := (true && decide (M.2.2.1 = 0))) rfl (by simp [h1])
theorem q_c_init_13 (l0 s0 s1 : Int) (v1 : nb_V) (M : nb_M) (h1 : l0 ≠ 0) (h2 : s0 ≠ 0) :
    nb_R nb_P 1 13 [(19, l0), v1] [(15, s0), (19, s1)] M = (nb_R nb_P 253 0 [(15, s0), (12, nb_rd M l0 2), (98, 0)] [] M).bind fun r => nb_R nb_P 1 14 [(19, l0), v1] (r.1 ++ [(15, s0), (19, s1)]) r.2 :=
  nb_stepC (c := (true && !decide ((l0 : Int) = 0))) (L2 := [(19, l0), v1]) (S2 := [(12, nb_rd M l0 2), (15, s0), (15, s0), (19, s1)]) (M2 := M) (t := 14) (cl := 253) (vi := true) rfl (by simp [h1, h2]) (nb_inv_eq (n := 2) rfl rfl rfl rfl rfl rfl (fun _ => h2) rfl)
theorem q_c_init_14 (l0 s0 s1 : Int) (v1 : nb_V) (M : nb_M) (h1 : s1 ≠ 0) :
    nb_R nb_P 1 14 [(19, l0), v1] [(15, s0), (19, s1)] M = nb_R nb_P 1 15 [(19, l0), v1] [] (nb_wr M s1 5 s0) :=
  nb_step (c := (true && (!decide ((s1 : Int) = 0) && (!false || (decide ((s0 : Int) = 0) || decide ((s0 : Int) = 1)))))) rfl (by simp [h1])
theorem q_c_init_15 (l0 : Int) (v1 : nb_V) (M : nb_M) (h1 : M.2.2.1 = 0) :
    nb_R nb_P 1 15 [(19, l0), v1] [] M = nb_R nb_P 1 16 [(19, l0), v1] [(15, nb_nx M), (19, l0)] (nb_al M 12 9) :=
  nb_step (c := (true && decide (M.2.2.1 = 0))) rfl (by simp [h1])
theorem q_c_init_16 (l0 s0 s1 : Int) (v1 : nb_V) (M : nb_M) (h1 : l0 ≠ 0) (h2 : s0 ≠ 0) :
    nb_R nb_P 1 16 [(19, l0), v1] [(15, s0), (19, s1)] M = (nb_R nb_P 253 0 [(15, s0), (12, nb_rd M l0 2), (98, 0)] [] M).bind fun r => nb_R nb_P 1 17 [(19, l0), v1] (r.1 ++ [(15, s0), (19, s1)]) r.2 :=
  nb_stepC (c := (true && !decide ((l0 : Int) = 0))) (L2 := [(19, l0), v1]) (S2 := [(12, nb_rd M l0 2), (15, s0), (15, s0), (19, s1)]) (M2 := M) (t := 17) (cl := 253) (vi := true) rfl (by simp [h1, h2]) (nb_inv_eq (n := 2) rfl rfl rfl rfl rfl rfl (fun _ => h2) rfl)
theorem q_c_init_17 (l0 s0 s1 : Int) (v1 : nb_V) (M : nb_M) (h1 : s1 ≠ 0) :
    nb_R nb_P 1 17 [(19, l0), v1] [(15, s0), (19, s1)] M = nb_R nb_P 1 18 [(19, l0), v1] [] (nb_wr M s1 6 s0) :=
  nb_step (c := (true && (!decide ((s1 : Int) = 0) && (!false || (decide ((s0 : Int) = 0) || decide ((s0 : Int) = 1)))))) rfl (by simp [h1])
theorem q_c_init_18 (l0 : Int) (v1 : nb_V) (M : nb_M) (h1 : M.2.2.1 = 0) :
    nb_R nb_P 1 18 [(19, l0), v1] [] M = nb_R nb_P 1 19 [(19, l0), v1] [(9, nb_nx M), (19, l0)] (nb_al M 6 12) :=
  nb_step (c := (true && (decide (M.2.2.1 = 0) && (decide ((0 : Int) ≤ 12) && decide ((12 : Int) ≤ 100000))))) rfl (by simp [h1])
theorem q_c_init_19 (l0 s0 s1 : Int) (v1 : nb_V) (M : nb_M) (h1 : s1 ≠ 0) :
    nb_R nb_P 1 19 [(19, l0), v1] [(9, s0), (19, s1)] M = nb_R nb_P 1 20 [(19, l0), v1] [] (nb_wr M s1 7 s0) :=
  nb_step (c := (true && (!decide ((s1 : Int) = 0) && (!false || (decide ((s0 : Int) = 0) || decide ((s0 : Int) = 1)))))) rfl (by simp [h1])
theorem q_c_init_20 (l0 : Int) (v1 : nb_V) (M : nb_M) (h1 : M.2.2.1 = 0) :
    nb_R nb_P 1 20 [(19, l0), v1] [] M = nb_R nb_P 1 21 [(19, l0), v1] [(9, nb_nx M), (19, l0)] (nb_al M 6 3) :=
  nb_step (c := (true && (decide (M.2.2.1 = 0) && (decide ((0 : Int) ≤ 3) && decide ((3 : Int) ≤ 100000))))) rfl (by simp [h1])
theorem q_c_init_21 (l0 s0 s1 : Int) (v1 : nb_V) (M : nb_M) (h1 : s1 ≠ 0) :
    nb_R nb_P 1 21 [(19, l0), v1] [(9, s0), (19, s1)] M = nb_R nb_P 1 22 [(19, l0), v1] [] (nb_wr M s1 10 s0) :=
  nb_step (c := (true && (!decide ((s1 : Int) = 0) && (!false || (decide ((s0 : Int) = 0) || decide ((s0 : Int) = 1)))))) rfl (by simp [h1])
theorem q_c_init_22 (l0 : Int) (v1 : nb_V) (M : nb_M) (h1 : M.2.2.1 = 0) :
    nb_R nb_P 1 22 [(19, l0), v1] [] M = nb_R nb_P 1 23 [(19, l0), v1] [(14, nb_nx M), (19, l0)] (nb_al M 11 4) :=
  nb_step (c := (true && decide (M.2.2.1 = 0))) rfl (by simp [h1])
theorem q_c_init_23 (l0 s0 s1 : Int) (v1 : nb_V) (M : nb_M) (h1 : s0 ≠ 0) :
    nb_R nb_P 1 23 [(19, l0), v1] [(14, s0), (19, s1)] M = (nb_R nb_P 247 0 [(14, s0)] [] M).bind fun r => nb_R nb_P 1 24 [(19, l0), v1] (r.1 ++ [(14, s0), (19, s1)]) r.2 :=
  nb_stepC (c := true) (L2 := [(19, l0), v1]) (S2 := [(14, s0), (14, s0), (19, s1)]) (M2 := M) (t := 24) (cl := 247) (vi := true) rfl rfl (nb_inv_eq (n := 1) rfl rfl rfl rfl rfl rfl (fun _ => h1) rfl)
theorem q_c_init_24 (l0 s0 s1 : Int) (v1 : nb_V) (M : nb_M) (h1 : s1 ≠ 0) :
    nb_R nb_P 1 24 [(19, l0), v1] [(14, s0), (19, s1)] M = nb_R nb_P 1 25 [(19, l0), v1] [] (nb_wr M s1 12 s0) :=
  nb_step (c := (true && (!decide ((s1 : Int) = 0) && (!false || (decide ((s0 : Int) = 0) || decide ((s0 : Int) = 1)))))) rfl (by simp [h1])
theorem q_c_init_25 (l0 : Int) (v1 : nb_V) (M : nb_M) (h1 : M.2.2.1 = 0) :
    nb_R nb_P 1 25 [(19, l0), v1] [] M = nb_R nb_P 1 26 [(19, l0), v1] [(17, nb_nx M), (19, l0)] (nb_al M 14 1) :=
  nb_step (c := (true && decide (M.2.2.1 = 0))) rfl (by simp [h1])
theorem q_c_init_26 (l0 s0 s1 : Int) (v1 : nb_V) (M : nb_M) (h1 : s0 ≠ 0) :
    nb_R nb_P 1 26 [(19, l0), v1] [(17, s0), (19, s1)] M = (nb_R nb_P 279 0 [(17, s0)] [] M).bind fun r => nb_R nb_P 1 27 [(19, l0), v1] (r.1 ++ [(17, s0), (19, s1)]) r.2 :=
  nb_stepC (c := true) (L2 := [(19, l0), v1]) (S2 := [(17, s0), (17, s0), (19, s1)]) (M2 := M) (t := 27) (cl := 279) (vi := true) rfl rfl (nb_inv_eq (n := 1) rfl rfl rfl rfl rfl rfl (fun _ => h1) rfl)
theorem q_c_init_27 (l0 s0 s1 : Int) (v1 : nb_V) (M : nb_M) (h1 : s1 ≠ 0) :
    nb_R nb_P 1 27 [(19, l0), v1] [(17, s0), (19, s1)] M = nb_R nb_P 1 28 [(19, l0), v1] [] (nb_wr M s1 13 s0) :=
  nb_step (c := (true && (!decide ((s1 : Int) = 0) && (!false || (decide ((s0 : Int) = 0) || decide ((s0 : Int) = 1)))))) rfl (by simp [h1])
theorem q_c_init_28 (l0 : Int) (v1 : nb_V) (M : nb_M) (h1 : M.2.2.1 = 0) :
    nb_R nb_P 1 28 [(19, l0), v1] [] M = nb_R nb_P 1 29 [(19, l0), v1] [(10, nb_nx M), (19, l0)] (nb_alm M 128 7) :=
  nb_step (c := (true && (decide (M.2.2.1 = 0) && (decide ((0 : Int) ≤ 128) && (decide ((128 : Int) ≤ 1000) && (decide ((0 : Int) ≤ 7) && decide ((7 : Int) ≤ 1000))))))) rfl (by simp [h1])
theorem q_c_init_29 (l0 s0 s1 : Int) (v1 : nb_V) (M : nb_M) (h1 : s1 ≠ 0) :
    nb_R nb_P 1 29 [(19, l0), v1] [(10, s0), (19, s1)] M = nb_R nb_P 1 30 [(19, l0), v1] [] (nb_wr M s1 14 s0) :=
  nb_step (c := (true && (!decide ((s1 : Int) = 0) && (!false || (decide ((s0 : Int) = 0) || decide ((s0 : Int) = 1)))))) rfl (by simp [h1])
theorem q_c_init_30 (l0 : Int) (v1 : nb_V) (M : nb_M) :
    nb_R nb_P 1 30 [(19, l0), v1] [] M = nb_R nb_P 1 31 [(19, l0), (0, 0)] [] M :=
  nb_step (c := true) rfl rfl
theorem q_c_init_31 (l0 l1 : Int) (M : nb_M) :
    nb_R nb_P 1 31 [(19, l0), (0, l1)] [] M = if l1 < 12 then nb_R nb_P 1 32 [(19, l0), (0, l1)] [] M else nb_R nb_P 1 36 [(19, l0), (0, l1)] [] M :=
  nb_step (c := true) rfl rfl
theorem q_c_init_32 (l0 l1 : Int) (M : nb_M) (h1 : l0 ≠ 0) (h2 : M.2.2.1 = 0) :
    nb_R nb_P 1 32 [(19, l0), (0, l1)] [] M = nb_R nb_P 1 33 [(19, l0), (0, l1)] [(15, nb_nx M), (0, l1), (9, nb_rd M l0 7)] (nb_al M 12 9) :=
  nb_step (c := ((true && !decide ((l0 : Int) = 0)) && decide (M.2.2.1 = 0))) rfl (by simp [h1, h2])
theorem q_c_init_33 (l0 l1 s0 s1 s2 : Int) (M : nb_M) (h1 : l0 ≠ 0) (h2 : s0 ≠ 0) :
    nb_R nb_P 1 33 [(19, l0), (0, l1)] [(15, s0), (0, s1), (9, s2)] M = (nb_R nb_P 253 0 [(15, s0), (12, nb_rd M l0 2), (98, 0)] [] M).bind fun r => nb_R nb_P 1 34 [(19, l0), (0, l1)] (r.1 ++ [(15, s0), (0, s1), (9, s2)]) r.2 :=
  nb_stepC (c := (true && !decide ((l0 : Int) = 0))) (L2 := [(19, l0), (0, l1)]) (S2 := [(12, nb_rd M l0 2), (15, s0), (15, s0), (0, s1), (9, s2)]) (M2 := M) (t := 34) (cl := 253) (vi := true) rfl (by simp [h1, h2]) (nb_inv_eq (n := 2) rfl rfl rfl rfl rfl rfl (fun _ => h2) rfl)
theorem q_c_init_34 (l0 l1 s0 s1 s2 : Int) (M : nb_M) (h1 : s0 ≠ 0) (h2 : s2 ≠ 0) (h3 : s2 ≠ 1) (h4 : (0 : Int) ≤ s1) (h5 : s1 < nb_ln M s2) :
    nb_R nb_P 1 34 [(19, l0), (0, l1)] [(15, s0), (0, s1), (9, s2)] M = nb_R nb_P 1 35 [(19, l0), (0, l1)] [] (nb_wr M s2 s1 s0) :=
  nb_step (c := ((true && !decide ((s0 : Int) = 0)) && (!decide ((s2 : Int) = 0) && (!decide ((s2 : Int) = 1) && (decide ((0 : Int) ≤ s1) && decide (s1 < nb_ln M s2)))))) rfl (by simp [h1, h2, h3, h4, h5])
theorem q_c_init_35 (l0 l1 : Int) (M : nb_M) :
    nb_R nb_P 1 35 [(19, l0), (0, l1)] [] M = nb_R nb_P 1 31 [(19, l0), (0, nb_add l1 1)] [] M :=
  nb_step (c := true) rfl rfl
theorem q_c_init_36 (l0 : Int) (v1 : nb_V) (M : nb_M) :
    nb_R nb_P 1 36 [(19, l0), v1] [] M = nb_R nb_P 1 37 [(19, l0), (0, 0)] [] M :=
  nb_step (c := true) rfl rfl
theorem q_c_init_37 (l0 l1 : Int) (M : nb_M) :
    nb_R nb_P 1 37 [(19, l0), (0, l1)] [] M = if l1 < 3 then nb_R nb_P 1 38 [(19, l0), (0, l1)] [] M else nb_R nb_P 1 42 [(19, l0), (0, l1)] [] M :=
  nb_step (c := true) rfl rfl
theorem q_c_init_38 (l0 l1 : Int) (M : nb_M) (h1 : l0 ≠ 0) (h2 : M.2.2.1 = 0) :
    nb_R nb_P 1 38 [(19, l0), (0, l1)] [] M = nb_R nb_P 1 39 [(19, l0), (0, l1)] [(15, nb_nx M), (0, l1), (9, nb_rd M l0 10)] (nb_al M 12 9) :=
  nb_step (c := ((true && !decide ((l0 : Int) = 0)) && decide (M.2.2.1 = 0))) rfl (by simp [h1, h2])
theorem q_c_init_39 (l0 l1 s0 s1 s2 : Int) (M : nb_M) (h1 : l0 ≠ 0) (h2 : s0 ≠ 0) :
    nb_R nb_P 1 39 [(19, l0), (0, l1)] [(15, s0), (0, s1), (9, s2)] M = (nb_R nb_P 253 0 [(15, s0), (12, nb_rd M l0 2), (98, 0)] [] M).bind fun r => nb_R nb_P 1 40 [(19, l0), (0, l1)] (r.1 ++ [(15, s0), (0, s1), (9, s2)]) r.2 :=
  nb_stepC (c := (true && !decide ((l0 : Int) = 0))) (L2 := [(19, l0), (0, l1)]) (S2 := [(12, nb_rd M l0 2), (15, s0), (15, s0), (0, s1), (9, s2)]) (M2 := M) (t := 40) (cl := 253) (vi := true) rfl (by simp [h1, h2]) (nb_inv_eq (n := 2) rfl rfl rfl rfl rfl rfl (fun _ => h2) rfl)
theorem q_c_init_40 (l0 l1 s0 s1 s2 : Int) (M : nb_M) (h1 : s0 ≠ 0) (h2 : s2 ≠ 0) (h3 : s2 ≠ 1) (h4 : (0 : Int) ≤ s1) (h5 : s1 < nb_ln M s2) :
    nb_R nb_P 1 40 [(19, l0), (0, l1)] [(15, s0), (0, s1), (9, s2)] M = nb_R nb_P 1 41 [(19, l0), (0, l1)] [] (nb_wr M s2 s1 s0) :=
  nb_step (c := ((true && !decide ((s0 : Int) = 0)) && (!decide ((s2 : Int) = 0) && (!decide ((s2 : Int) = 1) && (decide ((0 : Int) ≤ s1) && decide (s1 < nb_ln M s2)))))) rfl (by simp [h1, h2, h3, h4, h5])
theorem q_c_init_41 (l0 l1 : Int) (M : nb_M) :
    nb_R nb_P 1 41 [(19, l0), (0, l1)] [] M = nb_R nb_P 1 37 [(19, l0), (0, nb_add l1 1)] [] M :=
  nb_step (c := true) rfl rfl
theorem q_c_init_42 (v0 v1 : nb_V) (M : nb_M) :
    nb_R nb_P 1 42 [v0, v1] [] M = some ([], M) :=
  nb_step (c := true) rfl rfl
theorem q_c_feed_0 (l0 l1 l2 l3 l4 l5 : Int) (M : nb_M) (h1 : l0 ≠ 0) :
    nb_R nb_P 2 0 [(19, l0), (0, l1), (0, l2), (0, l3), (0, l4), (0, l5)] [] M = if 1000 < nb_add (nb_rd M l0 1) 20 then nb_R nb_P 2 1 [(19, l0), (0, l1), (0, l2), (0, l3), (0, l4), (0, l5)] [] M else nb_R nb_P 2 2 [(19, l0), (0, l1), (0, l2), (0, l3), (0, l4), (0, l5)] [] M :=
  nb_step (c := (true && !decide ((l0 : Int) = 0))) rfl (by simp [h1])
theorem q_c_feed_1 (v0 v1 v2 v3 v4 v5 : nb_V) (M : nb_M) :
    nb_R nb_P 2 1 [v0, v1, v2, v3, v4, v5] [] M = some ([(0, (-1))], M) :=
  nb_step (c := true) rfl rfl
theorem q_c_feed_2 (l0 l1 l2 l3 l4 l5 : Int) (M : nb_M) (h1 : l0 ≠ 0) :
    nb_R nb_P 2 2 [(19, l0), (0, l1), (0, l2), (0, l3), (0, l4), (0, l5)] [] M = (nb_R nb_P 3 0 [(19, l0), (0, l1), (98, 0)] [] M).bind fun r => nb_R nb_P 2 3 [(19, l0), (0, l1), (0, l2), (0, l3), (0, l4), (0, l5)] (r.1 ++ []) r.2 :=
  nb_stepC (c := true) (L2 := [(19, l0), (0, l1), (0, l2), (0, l3), (0, l4), (0, l5)]) (S2 := [(0, l1), (19, l0)]) (M2 := M) (t := 3) (cl := 3) (vi := true) rfl rfl (nb_inv_eq (n := 2) rfl rfl rfl rfl rfl rfl (fun _ => h1) rfl)
theorem q_c_feed_3 (l0 l2 l3 l4 l5 : Int) (v1 : nb_V) (M : nb_M) (h1 : l0 ≠ 0) :
    nb_R nb_P 2 3 [(19, l0), v1, (0, l2), (0, l3), (0, l4), (0, l5)] [] M = (nb_R nb_P 3 0 [(19, l0), (0, l2), (98, 0)] [] M).bind fun r => nb_R nb_P 2 4 [(19, l0), v1, (0, l2), (0, l3), (0, l4), (0, l5)] (r.1 ++ []) r.2 :=
  nb_stepC (c := true) (L2 := [(19, l0), v1, (0, l2), (0, l3), (0, l4), (0, l5)]) (S2 := [(0, l2), (19, l0)]) (M2 := M) (t := 4) (cl := 3) (vi := true) rfl rfl (nb_inv_eq (n := 2) rfl rfl rfl rfl rfl rfl (fun _ => h1) rfl)
theorem q_c_feed_4 (l0 l3 l4 l5 : Int) (v1 v2 : nb_V) (M : nb_M) (h1 : l0 ≠ 0) :
    nb_R nb_P 2 4 [(19, l0), v1, v2, (0, l3), (0, l4), (0, l5)] [] M = (nb_R nb_P 3 0 [(19, l0), (0, l3), (98, 0)] [] M).bind fun r => nb_R nb_P 2 5 [(19, l0), v1, v2, (0, l3), (0, l4), (0, l5)] (r.1 ++ []) r.2 :=
  nb_stepC (c := true) (L2 := [(19, l0), v1, v2, (0, l3), (0, l4), (0, l5)]) (S2 := [(0, l3), (19, l0)]) (M2 := M) (t := 5) (cl := 3) (vi := true) rfl rfl (nb_inv_eq (n := 2) rfl rfl rfl rfl rfl rfl (fun _ => h1) rfl)
theorem q_c_feed_5 (l0 l4 l5 : Int) (v1 v2 v3 : nb_V) (M : nb_M) (h1 : l0 ≠ 0) :
    nb_R nb_P 2 5 [(19, l0), v1, v2, v3, (0, l4), (0, l5)] [] M = (nb_R nb_P 3 0 [(19, l0), (0, l4), (98, 0)] [] M).bind fun r => nb_R nb_P 2 6 [(19, l0), v1, v2, v3, (0, l4), (0, l5)] (r.1 ++ []) r.2 :=
  nb_stepC (c := true) (L2 := [(19, l0), v1, v2, v3, (0, l4), (0, l5)]) (S2 := [(0, l4), (19, l0)]) (M2 := M) (t := 6) (cl := 3) (vi := true) rfl rfl (nb_inv_eq (n := 2) rfl rfl rfl rfl rfl rfl (fun _ => h1) rfl)
theorem q_c_feed_6 (l0 l5 : Int) (v1 v2 v3 v4 : nb_V) (M : nb_M) (h1 : l0 ≠ 0) :
    nb_R nb_P 2 6 [(19, l0), v1, v2, v3, v4, (0, l5)] [] M = (nb_R nb_P 3 0 [(19, l0), (0, l5), (98, 0)] [] M).bind fun r => nb_R nb_P 2 7 [(19, l0), v1, v2, v3, v4, (0, l5)] (r.1 ++ []) r.2 :=
  nb_stepC (c := true) (L2 := [(19, l0), v1, v2, v3, v4, (0, l5)]) (S2 := [(0, l5), (19, l0)]) (M2 := M) (t := 7) (cl := 3) (vi := true) rfl rfl (nb_inv_eq (n := 2) rfl rfl rfl rfl rfl rfl (fun _ => h1) rfl)
theorem q_c_feed_7 (l0 : Int) (v1 v2 v3 v4 v5 : nb_V) (M : nb_M) (h1 : l0 ≠ 0) :
    nb_R nb_P 2 7 [(19, l0), v1, v2, v3, v4, v5] [] M = some ([(0, nb_rd M l0 1)], M) :=
  nb_step (c := (true && !decide ((l0 : Int) = 0))) rfl (by simp [h1])
theorem q_c_putBytes_0 (l0 l1 : Int) (v2 : nb_V) (M : nb_M) :
    nb_R nb_P 3 0 [(19, l0), (0, l1), v2] [] M = nb_R nb_P 3 1 [(19, l0), (0, l1), (0, 24)] [] M :=
  nb_step (c := true) rfl rfl
theorem q_c_putBytes_1 (l0 l1 l2 : Int) (M : nb_M) :
    nb_R nb_P 3 1 [(19, l0), (0, l1), (0, l2)] [] M = if l2 < 0 then nb_R nb_P 3 6 [(19, l0), (0, l1), (0, l2)] [] M else nb_R nb_P 3 2 [(19, l0), (0, l1), (0, l2)] [] M :=
  nb_step (c := true) rfl rfl
theorem q_c_putBytes_2 (l0 l1 l2 : Int) (M : nb_M) (h1 : l0 ≠ 0) :
    nb_R nb_P 3 2 [(19, l0), (0, l1), (0, l2)] [] M = if nb_rd M l0 1 < 1000 then nb_R nb_P 3 3 [(19, l0), (0, l1), (0, l2)] [] M else nb_R nb_P 3 6 [(19, l0), (0, l1), (0, l2)] [] M :=
  nb_step (c := (true && !decide ((l0 : Int) = 0))) rfl (by simp [h1])
theorem q_c_putBytes_3 (l0 l1 l2 : Int) (M : nb_M) (h1 : l0 ≠ 0) (h2 : (nb_rd M l0 0) ≠ 0) (h3 : (nb_rd M l0 0) ≠ 1) (h4 : (0 : Int) ≤ nb_rd M l0 1) (h5 : nb_rd M l0 1 < nb_ln M (nb_rd M l0 0)) :
    nb_R nb_P 3 3 [(19, l0), (0, l1), (0, l2)] [] M = nb_R nb_P 3 4 [(19, l0), (0, l1), (0, l2)] [] (nb_wr M (nb_rd M l0 0) (nb_rd M l0 1) (nb_i2b (nb_i2b (nb_shr l1 l2)))) :=
  nb_step (c := (((true && !decide ((l0 : Int) = 0)) && !decide ((l0 : Int) = 0)) && (!decide ((nb_rd M l0 0 : Int) = 0) && (!decide ((nb_rd M l0 0 : Int) = 1) && (decide ((0 : Int) ≤ nb_rd M l0 1) && decide (nb_rd M l0 1 < nb_ln M (nb_rd M l0 0))))))) rfl (by simp [h1, h2, h3, h4, h5])
theorem q_c_putBytes_4 (l0 l1 l2 : Int) (M : nb_M) (h1 : l0 ≠ 0) :
    nb_R nb_P 3 4 [(19, l0), (0, l1), (0, l2)] [] M = nb_R nb_P 3 5 [(19, l0), (0, l1), (0, l2)] [] (nb_wr M l0 1 (nb_add (nb_rd M l0 1) 1)) :=
  nb_step (c := ((true && !decide ((l0 : Int) = 0)) && (!decide ((l0 : Int) = 0) && (!false || (decide ((nb_add (nb_rd M l0 1) 1 : Int) = 0) || decide ((nb_add (nb_rd M l0 1) 1 : Int) = 1)))))) rfl (by simp [h1])
theorem q_c_putBytes_5 (l0 l1 l2 : Int) (M : nb_M) :
    nb_R nb_P 3 5 [(19, l0), (0, l1), (0, l2)] [] M = nb_R nb_P 3 1 [(19, l0), (0, l1), (0, nb_add l2 (-8))] [] M :=
  nb_step (c := true) rfl rfl
theorem q_c_putBytes_6 (v0 v1 v2 : nb_V) (M : nb_M) :
    nb_R nb_P 3 6 [v0, v1, v2] [] M = some ([], M) :=
  nb_step (c := true) rfl rfl
theorem q_c_house_0 (l0 l1 : Int) (v2 v3 : nb_V) (M : nb_M) :
    nb_R nb_P 4 0 [(19, l0), (0, l1), v2, v3] [] M = if l1 < 0 then nb_R nb_P 4 3 [(19, l0), (0, l1), v2, v3] [(19, l0)] M else nb_R nb_P 4 1 [(19, l0), (0, l1), v2, v3] [(19, l0)] M :=
  nb_step (c := true) rfl rfl
theorem q_c_house_1 (l0 l1 s0 : Int) (v2 v3 : nb_V) (M : nb_M) (h1 : l0 ≠ 0) :
    nb_R nb_P 4 1 [(19, l0), (0, l1), v2, v3] [(19, s0)] M = if nb_rd M l0 1 < l1 then nb_R nb_P 4 3 [(19, l0), (0, l1), v2, v3] [(19, s0)] M else nb_R nb_P 4 2 [(19, l0), (0, l1), v2, v3] [(19, s0)] M :=
  nb_step (c := (true && !decide ((l0 : Int) = 0))) rfl (by simp [h1])
theorem q_c_house_2 (l0 l1 s0 : Int) (v2 v3 : nb_V) (M : nb_M) :
    nb_R nb_P 4 2 [(19, l0), (0, l1), v2, v3] [(19, s0)] M = nb_R nb_P 4 4 [(19, l0), (0, l1), v2, v3] [(0, 1), (19, s0)] M :=
  nb_step (c := true) rfl rfl
theorem q_c_house_3 (l0 l1 s0 : Int) (v2 v3 : nb_V) (M : nb_M) :
    nb_R nb_P 4 3 [(19, l0), (0, l1), v2, v3] [(19, s0)] M = nb_R nb_P 4 4 [(19, l0), (0, l1), v2, v3] [(0, 0), (19, s0)] M :=
  nb_step (c := true) rfl rfl
theorem q_c_house_4 (l0 l1 s0 s1 : Int) (v2 v3 : nb_V) (M : nb_M) (h1 : s1 ≠ 0) :
    nb_R nb_P 4 4 [(19, l0), (0, l1), v2, v3] [(0, s0), (19, s1)] M = (nb_R nb_P 7 0 [(19, s1), (0, s0), (0, 2)] [] M).bind fun r => nb_R nb_P 4 5 [(19, l0), (0, l1), v2, v3] (r.1 ++ []) r.2 :=
  nb_stepC (c := true) (L2 := [(19, l0), (0, l1), v2, v3]) (S2 := [(0, 2), (0, s0), (19, s1)]) (M2 := M) (t := 5) (cl := 7) (vi := true) rfl rfl (nb_inv_eq (n := 3) rfl rfl rfl rfl rfl rfl (fun _ => h1) rfl)
theorem q_c_house_5 (l0 l1 s0 : Int) (v2 v3 : nb_V) (M : nb_M) :
    nb_R nb_P 4 5 [(19, l0), (0, l1), v2, v3] [(0, s0)] M = if s0 = 0 then nb_R nb_P 4 6 [(19, l0), (0, l1), v2, v3] [] M else nb_R nb_P 4 7 [(19, l0), (0, l1), v2, v3] [] M :=
  nb_step (c := true) rfl rfl
theorem q_c_house_6 (v0 v1 v2 v3 : nb_V) (M : nb_M) :
    nb_R nb_P 4 6 [v0, v1, v2, v3] [] M = some ([(0, (-1))], M) :=
  nb_step (c := true) rfl rfl
theorem q_c_house_7 (l0 l1 : Int) (v2 v3 : nb_V) (M : nb_M) (h1 : l0 ≠ 0) :
    nb_R nb_P 4 7 [(19, l0), (0, l1), v2, v3] [] M = nb_R nb_P 4 8 [(19, l0), (0, l1), v2, v3] [] (nb_wr M l0 1 0) :=
  nb_step (c := (true && (!decide ((l0 : Int) = 0) && (!false || (decide ((0 : Int) = 0) || decide ((0 : Int) = 1)))))) rfl (by simp [h1])
theorem q_c_house_8 (l0 l1 : Int) (v2 v3 : nb_V) (M : nb_M) (h1 : l0 ≠ 0) (h2 : (nb_rd M l0 4) ≠ 0) :
    nb_R nb_P 4 8 [(19, l0), (0, l1), v2, v3] [] M = (nb_R nb_P 224 0 [(13, nb_rd M l0 4), (4, nb_rd M l0 0), (0, l1), (12, nb_rd M l0 3), (98, 0)] [] M).bind fun r => nb_R nb_P 4 9 [(19, l0), (0, l1), v2, v3] (r.1 ++ []) r.2 :=
  nb_stepC (c := (((true && !decide ((l0 : Int) = 0)) && !decide ((l0 : Int) = 0)) && !decide ((l0 : Int) = 0))) (L2 := [(19, l0), (0, l1), v2, v3]) (S2 := [(12, nb_rd M l0 3), (0, l1), (4, nb_rd M l0 0), (13, nb_rd M l0 4)]) (M2 := M) (t := 9) (cl := 224) (vi := true) rfl (by simp [h1, h2]) (nb_inv_eq (n := 4) rfl rfl rfl rfl rfl rfl (fun _ => h2) rfl)
theorem q_c_house_9 (l0 s0 : Int) (v1 v2 v3 : nb_V) (M : nb_M) (h1 : l0 ≠ 0) (h2 : (nb_rd M l0 4) ≠ 0) :
    nb_R nb_P 4 9 [(19, l0), v1, v2, v3] [(0, s0)] M = nb_R nb_P 4 10 [(19, l0), nb_clr v1, (0, s0), v3] [] (nb_wr M l0 16 (nb_rd M (nb_rd M l0 4) 9)) :=
  nb_step (c := (((true && !decide ((l0 : Int) = 0)) && !decide ((nb_rd M l0 4 : Int) = 0)) && (!decide ((l0 : Int) = 0) && (!false || (decide ((nb_rd M (nb_rd M l0 4) 9 : Int) = 0) || decide ((nb_rd M (nb_rd M l0 4) 9 : Int) = 1)))))) rfl (by simp [h1, h2])
theorem q_c_house_10 (l0 l2 : Int) (v1 v3 : nb_V) (M : nb_M) (h1 : l0 ≠ 0) (h2 : (nb_rd M l0 4) ≠ 0) :
    nb_R nb_P 4 10 [(19, l0), v1, (0, l2), v3] [] M = nb_R nb_P 4 11 [(19, l0), v1, (0, l2), v3] [] (nb_wr M l0 17 (nb_rd M (nb_rd M l0 4) 10)) :=
  nb_step (c := (((true && !decide ((l0 : Int) = 0)) && !decide ((nb_rd M l0 4 : Int) = 0)) && (!decide ((l0 : Int) = 0) && (!false || (decide ((nb_rd M (nb_rd M l0 4) 10 : Int) = 0) || decide ((nb_rd M (nb_rd M l0 4) 10 : Int) = 1)))))) rfl (by simp [h1, h2])
theorem q_c_house_11 (l0 l2 : Int) (v1 v3 : nb_V) (M : nb_M) (h1 : l0 ≠ 0) :
    nb_R nb_P 4 11 [(19, l0), v1, (0, l2), v3] [] M = (nb_R nb_P 7 0 [(19, l0), (0, l2), (0, 4)] [] M).bind fun r => nb_R nb_P 4 12 [(19, l0), v1, (0, l2), v3] (r.1 ++ []) r.2 :=
  nb_stepC (c := true) (L2 := [(19, l0), v1, (0, l2), v3]) (S2 := [(0, 4), (0, l2), (19, l0)]) (M2 := M) (t := 12) (cl := 7) (vi := true) rfl rfl (nb_inv_eq (n := 3) rfl rfl rfl rfl rfl rfl (fun _ => h1) rfl)
theorem q_c_house_12 (l0 s0 : Int) (v1 v2 v3 : nb_V) (M : nb_M) :
    nb_R nb_P 4 12 [(19, l0), v1, v2, v3] [(0, s0)] M = if s0 = 0 then nb_R nb_P 4 13 [(19, l0), v1, v2, v3] [] M else nb_R nb_P 4 14 [(19, l0), v1, v2, v3] [] M :=
  nb_step (c := true) rfl rfl
theorem q_c_house_13 (v0 v1 v2 v3 : nb_V) (M : nb_M) :
    nb_R nb_P 4 13 [v0, v1, v2, v3] [] M = some ([(0, (-1))], M) :=
  nb_step (c := true) rfl rfl
theorem q_c_house_14 (l0 : Int) (v1 v2 v3 : nb_V) (M : nb_M) (h1 : l0 ≠ 0) :
    nb_R nb_P 4 14 [(19, l0), v1, v2, v3] [] M = nb_R nb_P 4 15 [(19, l0), v1, nb_clr v2, (12, nb_rd M l0 2)] [] (nb_wr M l0 2 (nb_rd M l0 3)) :=
  nb_step (c := (((true && !decide ((l0 : Int) = 0)) && !decide ((l0 : Int) = 0)) && (!decide ((l0 : Int) = 0) && (!false || (decide ((nb_rd M l0 3 : Int) = 0) || decide ((nb_rd M l0 3 : Int) = 1)))))) rfl (by simp [h1])
theorem q_c_house_15 (l0 l3 : Int) (v1 v2 : nb_V) (M : nb_M) (h1 : l0 ≠ 0) :
    nb_R nb_P 4 15 [(19, l0), v1, v2, (12, l3)] [] M = nb_R nb_P 4 16 [(19, l0), v1, v2, (12, l3)] [] (nb_wr M l0 3 l3) :=
  nb_step (c := (true && (!decide ((l0 : Int) = 0) && (!false || (decide ((l3 : Int) = 0) || decide ((l3 : Int) = 1)))))) rfl (by simp [h1])
theorem q_c_house_16 (l0 : Int) (v1 v2 v3 : nb_V) (M : nb_M) (h1 : l0 ≠ 0) (h2 : (nb_rd M l0 5) ≠ 0) :
    nb_R nb_P 4 16 [(19, l0), v1, v2, v3] [] M = (nb_R nb_P 254 0 [(15, nb_rd M l0 5), (12, nb_rd M l0 2), (98, 0)] [] M).bind fun r => nb_R nb_P 4 17 [(19, l0), v1, v2, v3] (r.1 ++ []) r.2 :=
  nb_stepC (c := ((true && !decide ((l0 : Int) = 0)) && !decide ((l0 : Int) = 0))) (L2 := [(19, l0), v1, v2, v3]) (S2 := [(12, nb_rd M l0 2), (15, nb_rd M l0 5)]) (M2 := M) (t := 17) (cl := 254) (vi := true) rfl (by simp [h1, h2]) (nb_inv_eq (n := 2) rfl rfl rfl rfl rfl rfl (fun _ => h2) rfl)
theorem q_c_house_17 (l0 : Int) (v1 v2 v3 : nb_V) (M : nb_M) (h1 : l0 ≠ 0) :
    nb_R nb_P 4 17 [(19, l0), v1, v2, v3] [] M = nb_R nb_P 4 18 [(19, l0), v1, v2, v3] [] (nb_wr M l0 9 0) :=
  nb_step (c := (true && (!decide ((l0 : Int) = 0) && (!false || (decide ((0 : Int) = 0) || decide ((0 : Int) = 1)))))) rfl (by simp [h1])
theorem q_c_house_18 (l0 : Int) (v1 v2 v3 : nb_V) (M : nb_M) (h1 : l0 ≠ 0) :
    nb_R nb_P 4 18 [(19, l0), v1, v2, v3] [] M = nb_R nb_P 4 19 [(19, l0), v1, v2, v3] [] (nb_wr M l0 11 0) :=
  nb_step (c := (true && (!decide ((l0 : Int) = 0) && (!false || (decide ((0 : Int) = 0) || decide ((0 : Int) = 1)))))) rfl (by simp [h1])
theorem q_c_house_19 (l0 : Int) (v1 v2 v3 : nb_V) (M : nb_M) (h1 : l0 ≠ 0) (h2 : (nb_rd M l0 2) ≠ 0) :
    nb_R nb_P 4 19 [(19, l0), v1, v2, v3] [] M = some ([(0, nb_rd M (nb_rd M l0 2) 13)], M) :=
  nb_step (c := ((true && !decide ((l0 : Int) = 0)) && !decide ((nb_rd M l0 2 : Int) = 0))) rfl (by simp [h1, h2])
theorem q_c_fault_0 (l0 : Int) (M : nb_M) (h1 : l0 ≠ 0) :
    nb_R nb_P 5 0 [(19, l0)] [] M = some ([(0, nb_rd M l0 16)], M) :=
  nb_step (c := (true && !decide ((l0 : Int) = 0))) rfl (by simp [h1])
theorem q_c_where_0 (l0 : Int) (M : nb_M) (h1 : l0 ≠ 0) :
    nb_R nb_P 6 0 [(19, l0)] [] M = if nb_rd M l0 15 = 4 then nb_R nb_P 6 1 [(19, l0)] [] M else nb_R nb_P 6 2 [(19, l0)] [] M :=
  nb_step (c := (true && !decide ((l0 : Int) = 0))) rfl (by simp [h1])
theorem q_c_where_1 (l0 : Int) (M : nb_M) (h1 : l0 ≠ 0) :
    nb_R nb_P 6 1 [(19, l0)] [] M = nb_R nb_P 6 3 [(19, l0)] [(0, nb_rd M l0 17)] M :=
  nb_step (c := (true && !decide ((l0 : Int) = 0))) rfl (by simp [h1])
theorem q_c_where_2 (v0 : nb_V) (M : nb_M) :
    nb_R nb_P 6 2 [v0] [] M = nb_R nb_P 6 3 [v0] [(0, (-1))] M :=
  nb_step (c := true) rfl rfl
theorem q_c_where_3 (s0 : Int) (v0 : nb_V) (M : nb_M) :
    nb_R nb_P 6 3 [v0] [(0, s0)] M = some ([(0, s0)], M) :=
  nb_step (c := true) rfl rfl
theorem q_c_granted_0 (l0 l1 l2 : Int) (M : nb_M) :
    nb_R nb_P 7 0 [(19, l0), (0, l1), (0, l2)] [] M = if l1 = 0 then nb_R nb_P 7 2 [(19, l0), (0, l1), (0, l2)] [(19, l0)] M else nb_R nb_P 7 1 [(19, l0), (0, l1), (0, l2)] [(19, l0)] M :=
  nb_step (c := true) rfl rfl
theorem q_c_granted_1 (l1 s0 : Int) (v0 v2 : nb_V) (M : nb_M) :
    nb_R nb_P 7 1 [v0, (0, l1), v2] [(19, s0)] M = nb_R nb_P 7 3 [v0, (0, l1), v2] [(0, 0), (19, s0)] M :=
  nb_step (c := true) rfl rfl
theorem q_c_granted_2 (l1 l2 s0 : Int) (v0 : nb_V) (M : nb_M) :
    nb_R nb_P 7 2 [v0, (0, l1), (0, l2)] [(19, s0)] M = nb_R nb_P 7 3 [v0, (0, l1), (0, l2)] [(0, l2), (19, s0)] M :=
  nb_step (c := true) rfl rfl
theorem q_c_granted_3 (l1 s0 s1 : Int) (v0 v2 : nb_V) (M : nb_M) (h1 : s1 ≠ 0) :
    nb_R nb_P 7 3 [v0, (0, l1), v2] [(0, s0), (19, s1)] M = nb_R nb_P 7 4 [v0, (0, l1), v2] [] (nb_wr M s1 15 s0) :=
  nb_step (c := (true && (!decide ((s1 : Int) = 0) && (!false || (decide ((s0 : Int) = 0) || decide ((s0 : Int) = 1)))))) rfl (by simp [h1])
theorem q_c_granted_4 (l1 : Int) (v0 v2 : nb_V) (M : nb_M) :
    nb_R nb_P 7 4 [v0, (0, l1), v2] [] M = some ([(0, nb_i2z l1)], M) :=
  nb_step (c := true) rfl rfl
theorem q_c_isOpen_0 (l0 : Int) (M : nb_M) (h1 : l0 ≠ 0) (h2 : (nb_rd M l0 2) ≠ 0) :
    nb_R nb_P 8 0 [(19, l0)] [] M = if 0 < nb_rd M (nb_rd M l0 2) 13 then nb_R nb_P 8 1 [(19, l0)] [] M else nb_R nb_P 8 2 [(19, l0)] [] M :=
  nb_step (c := ((true && !decide ((l0 : Int) = 0)) && !decide ((nb_rd M l0 2 : Int) = 0))) rfl (by simp [h1, h2])
theorem q_c_isOpen_1 (v0 : nb_V) (M : nb_M) :
    nb_R nb_P 8 1 [v0] [] M = nb_R nb_P 8 3 [v0] [(0, 1)] M :=
  nb_step (c := true) rfl rfl
theorem q_c_isOpen_2 (v0 : nb_V) (M : nb_M) :
    nb_R nb_P 8 2 [v0] [] M = nb_R nb_P 8 3 [v0] [(0, 0)] M :=
  nb_step (c := true) rfl rfl
theorem q_c_isOpen_3 (s0 : Int) (v0 : nb_V) (M : nb_M) :
    nb_R nb_P 8 3 [v0] [(0, s0)] M = some ([(0, nb_i2z s0)], M) :=
  nb_step (c := true) rfl rfl
theorem q_c_isPerson_0 (l0 l1 : Int) (M : nb_M) :
    nb_R nb_P 9 0 [(19, l0), (0, l1)] [] M = if l1 < 0 then nb_R nb_P 9 3 [(19, l0), (0, l1)] [] M else nb_R nb_P 9 1 [(19, l0), (0, l1)] [] M :=
  nb_step (c := true) rfl rfl
theorem q_c_isPerson_1 (l0 l1 : Int) (M : nb_M) (h1 : l0 ≠ 0) (h2 : (nb_rd M l0 2) ≠ 0) :
    nb_R nb_P 9 1 [(19, l0), (0, l1)] [] M = if l1 < nb_rd M (nb_rd M l0 2) 13 then nb_R nb_P 9 2 [(19, l0), (0, l1)] [] M else nb_R nb_P 9 3 [(19, l0), (0, l1)] [] M :=
  nb_step (c := ((true && !decide ((l0 : Int) = 0)) && !decide ((nb_rd M l0 2 : Int) = 0))) rfl (by simp [h1, h2])
theorem q_c_isPerson_2 (v0 v1 : nb_V) (M : nb_M) :
    nb_R nb_P 9 2 [v0, v1] [] M = nb_R nb_P 9 4 [v0, v1] [(0, 1)] M :=
  nb_step (c := true) rfl rfl
theorem q_c_isPerson_3 (v0 v1 : nb_V) (M : nb_M) :
    nb_R nb_P 9 3 [v0, v1] [] M = nb_R nb_P 9 4 [v0, v1] [(0, 0)] M :=
  nb_step (c := true) rfl rfl
theorem q_c_isPerson_4 (s0 : Int) (v0 v1 : nb_V) (M : nb_M) :
    nb_R nb_P 9 4 [v0, v1] [(0, s0)] M = some ([(0, nb_i2z s0)], M) :=
  nb_step (c := true) rfl rfl
theorem q_c_areTwo_0 (l0 l1 l2 : Int) (M : nb_M) (h1 : l0 ≠ 0) :
    nb_R nb_P 10 0 [(19, l0), (0, l1), (0, l2)] [] M = (nb_R nb_P 9 0 [(19, l0), (0, l1)] [] M).bind fun r => nb_R nb_P 10 1 [(19, l0), (0, l1), (0, l2)] (r.1 ++ []) r.2 :=
  nb_stepC (c := true) (L2 := [(19, l0), (0, l1), (0, l2)]) (S2 := [(0, l1), (19, l0)]) (M2 := M) (t := 1) (cl := 9) (vi := true) rfl rfl (nb_inv_eq (n := 2) rfl rfl rfl rfl rfl rfl (fun _ => h1) rfl)
theorem q_c_areTwo_1 (l0 l1 l2 s0 : Int) (M : nb_M) :
    nb_R nb_P 10 1 [(19, l0), (0, l1), (0, l2)] [(0, s0)] M = if s0 = 0 then nb_R nb_P 10 6 [(19, l0), (0, l1), (0, l2)] [] M else nb_R nb_P 10 2 [(19, l0), (0, l1), (0, l2)] [] M :=
  nb_step (c := true) rfl rfl
theorem q_c_areTwo_2 (l0 l1 l2 : Int) (M : nb_M) (h1 : l0 ≠ 0) :
    nb_R nb_P 10 2 [(19, l0), (0, l1), (0, l2)] [] M = (nb_R nb_P 9 0 [(19, l0), (0, l2)] [] M).bind fun r => nb_R nb_P 10 3 [(19, l0), (0, l1), (0, l2)] (r.1 ++ []) r.2 :=
  nb_stepC (c := true) (L2 := [(19, l0), (0, l1), (0, l2)]) (S2 := [(0, l2), (19, l0)]) (M2 := M) (t := 3) (cl := 9) (vi := true) rfl rfl (nb_inv_eq (n := 2) rfl rfl rfl rfl rfl rfl (fun _ => h1) rfl)
theorem q_c_areTwo_3 (l1 l2 s0 : Int) (v0 : nb_V) (M : nb_M) :
    nb_R nb_P 10 3 [v0, (0, l1), (0, l2)] [(0, s0)] M = if s0 = 0 then nb_R nb_P 10 6 [v0, (0, l1), (0, l2)] [] M else nb_R nb_P 10 4 [v0, (0, l1), (0, l2)] [] M :=
  nb_step (c := true) rfl rfl
theorem q_c_areTwo_4 (l1 l2 : Int) (v0 : nb_V) (M : nb_M) :
    nb_R nb_P 10 4 [v0, (0, l1), (0, l2)] [] M = if l1 = l2 then nb_R nb_P 10 6 [v0, (0, l1), (0, l2)] [] M else nb_R nb_P 10 5 [v0, (0, l1), (0, l2)] [] M :=
  nb_step (c := true) rfl rfl
theorem q_c_areTwo_5 (v0 v1 v2 : nb_V) (M : nb_M) :
    nb_R nb_P 10 5 [v0, v1, v2] [] M = nb_R nb_P 10 7 [v0, v1, v2] [(0, 1)] M :=
  nb_step (c := true) rfl rfl
theorem q_c_areTwo_6 (v0 v1 v2 : nb_V) (M : nb_M) :
    nb_R nb_P 10 6 [v0, v1, v2] [] M = nb_R nb_P 10 7 [v0, v1, v2] [(0, 0)] M :=
  nb_step (c := true) rfl rfl
theorem q_c_areTwo_7 (s0 : Int) (v0 v1 v2 : nb_V) (M : nb_M) :
    nb_R nb_P 10 7 [v0, v1, v2] [(0, s0)] M = some ([(0, nb_i2z s0)], M) :=
  nb_step (c := true) rfl rfl
theorem q_c_isStaff_0 (l0 l1 : Int) (M : nb_M) :
    nb_R nb_P 11 0 [(19, l0), (0, l1)] [] M = if l1 < 0 then nb_R nb_P 11 3 [(19, l0), (0, l1)] [] M else nb_R nb_P 11 1 [(19, l0), (0, l1)] [] M :=
  nb_step (c := true) rfl rfl
theorem q_c_isStaff_1 (l0 l1 : Int) (M : nb_M) (h1 : l0 ≠ 0) (h2 : (nb_rd M l0 2) ≠ 0) :
    nb_R nb_P 11 1 [(19, l0), (0, l1)] [] M = if l1 < nb_rd M (nb_rd M l0 2) 12 then nb_R nb_P 11 2 [(19, l0), (0, l1)] [] M else nb_R nb_P 11 3 [(19, l0), (0, l1)] [] M :=
  nb_step (c := ((true && !decide ((l0 : Int) = 0)) && !decide ((nb_rd M l0 2 : Int) = 0))) rfl (by simp [h1, h2])
theorem q_c_isStaff_2 (v0 v1 : nb_V) (M : nb_M) :
    nb_R nb_P 11 2 [v0, v1] [] M = nb_R nb_P 11 4 [v0, v1] [(0, 1)] M :=
  nb_step (c := true) rfl rfl
theorem q_c_isStaff_3 (v0 v1 : nb_V) (M : nb_M) :
    nb_R nb_P 11 3 [v0, v1] [] M = nb_R nb_P 11 4 [v0, v1] [(0, 0)] M :=
  nb_step (c := true) rfl rfl
theorem q_c_isStaff_4 (s0 : Int) (v0 v1 : nb_V) (M : nb_M) :
    nb_R nb_P 11 4 [v0, v1] [(0, s0)] M = some ([(0, nb_i2z s0)], M) :=
  nb_step (c := true) rfl rfl
theorem q_c_isPlace_0 (l0 l1 : Int) (M : nb_M) :
    nb_R nb_P 12 0 [(19, l0), (0, l1)] [] M = if l1 < 0 then nb_R nb_P 12 3 [(19, l0), (0, l1)] [] M else nb_R nb_P 12 1 [(19, l0), (0, l1)] [] M :=
  nb_step (c := true) rfl rfl
theorem q_c_isPlace_1 (l0 l1 : Int) (M : nb_M) (h1 : l0 ≠ 0) (h2 : (nb_rd M l0 2) ≠ 0) :
    nb_R nb_P 12 1 [(19, l0), (0, l1)] [] M = if l1 < nb_rd M (nb_rd M l0 2) 9 then nb_R nb_P 12 2 [(19, l0), (0, l1)] [] M else nb_R nb_P 12 3 [(19, l0), (0, l1)] [] M :=
  nb_step (c := ((true && !decide ((l0 : Int) = 0)) && !decide ((nb_rd M l0 2 : Int) = 0))) rfl (by simp [h1, h2])
theorem q_c_isPlace_2 (v0 v1 : nb_V) (M : nb_M) :
    nb_R nb_P 12 2 [v0, v1] [] M = nb_R nb_P 12 4 [v0, v1] [(0, 1)] M :=
  nb_step (c := true) rfl rfl
theorem q_c_isPlace_3 (v0 v1 : nb_V) (M : nb_M) :
    nb_R nb_P 12 3 [v0, v1] [] M = nb_R nb_P 12 4 [v0, v1] [(0, 0)] M :=
  nb_step (c := true) rfl rfl
theorem q_c_isPlace_4 (s0 : Int) (v0 v1 : nb_V) (M : nb_M) :
    nb_R nb_P 12 4 [v0, v1] [(0, s0)] M = some ([(0, nb_i2z s0)], M) :=
  nb_step (c := true) rfl rfl
theorem q_c_isSum_0 (l0 l1 : Int) (M : nb_M) (h1 : l0 ≠ 0) :
    nb_R nb_P 13 0 [(19, l0), (0, l1)] [] M = (nb_R nb_P 8 0 [(19, l0)] [] M).bind fun r => nb_R nb_P 13 1 [(19, l0), (0, l1)] (r.1 ++ []) r.2 :=
  nb_stepC (c := true) (L2 := [(19, l0), (0, l1)]) (S2 := [(19, l0)]) (M2 := M) (t := 1) (cl := 8) (vi := true) rfl rfl (nb_inv_eq (n := 1) rfl rfl rfl rfl rfl rfl (fun _ => h1) rfl)
theorem q_c_isSum_1 (l1 s0 : Int) (v0 : nb_V) (M : nb_M) :
    nb_R nb_P 13 1 [v0, (0, l1)] [(0, s0)] M = if s0 = 0 then nb_R nb_P 13 5 [v0, (0, l1)] [] M else nb_R nb_P 13 2 [v0, (0, l1)] [] M :=
  nb_step (c := true) rfl rfl
theorem q_c_isSum_2 (l1 : Int) (v0 : nb_V) (M : nb_M) :
    nb_R nb_P 13 2 [v0, (0, l1)] [] M = if l1 < 0 then nb_R nb_P 13 5 [v0, (0, l1)] [] M else nb_R nb_P 13 3 [v0, (0, l1)] [] M :=
  nb_step (c := true) rfl rfl
theorem q_c_isSum_3 (l1 : Int) (v0 : nb_V) (M : nb_M) :
    nb_R nb_P 13 3 [v0, (0, l1)] [] M = if l1 < 6 then nb_R nb_P 13 4 [v0, (0, l1)] [] M else nb_R nb_P 13 5 [v0, (0, l1)] [] M :=
  nb_step (c := true) rfl rfl
theorem q_c_isSum_4 (v0 v1 : nb_V) (M : nb_M) :
    nb_R nb_P 13 4 [v0, v1] [] M = nb_R nb_P 13 6 [v0, v1] [(0, 1)] M :=
  nb_step (c := true) rfl rfl
theorem q_c_isSum_5 (v0 v1 : nb_V) (M : nb_M) :
    nb_R nb_P 13 5 [v0, v1] [] M = nb_R nb_P 13 6 [v0, v1] [(0, 0)] M :=
  nb_step (c := true) rfl rfl
theorem q_c_isSum_6 (s0 : Int) (v0 v1 : nb_V) (M : nb_M) :
    nb_R nb_P 13 6 [v0, v1] [(0, s0)] M = some ([(0, nb_i2z s0)], M) :=
  nb_step (c := true) rfl rfl
theorem q_c_isWaiting_0 (l0 l1 : Int) (M : nb_M) (h1 : l0 ≠ 0) (h2 : (nb_rd M l0 5) ≠ 0) (h3 : (nb_rd M (nb_rd M l0 5) 0) ≠ 0) (h4 : (0 : Int) ≤ l1) (h5 : l1 < nb_ln M (nb_rd M (nb_rd M l0 5) 0)) (h6 : (nb_rd M (nb_rd M (nb_rd M l0 5) 0) l1) ≠ 0) :
    nb_R nb_P 14 0 [(19, l0), (0, l1)] [] M = if nb_rd M (nb_rd M (nb_rd M (nb_rd M l0 5) 0) l1) 8 = 1 then nb_R nb_P 14 1 [(19, l0), (0, l1)] [] M else nb_R nb_P 14 2 [(19, l0), (0, l1)] [] M :=
  nb_step (c := ((((true && !decide ((l0 : Int) = 0)) && !decide ((nb_rd M l0 5 : Int) = 0)) && (!decide ((nb_rd M (nb_rd M l0 5) 0 : Int) = 0) && (decide ((0 : Int) ≤ l1) && decide (l1 < nb_ln M (nb_rd M (nb_rd M l0 5) 0))))) && !decide ((nb_rd M (nb_rd M (nb_rd M l0 5) 0) l1 : Int) = 0))) rfl (by simp [h1, h2, h3, h4, h5, h6])
theorem q_c_isWaiting_1 (v0 v1 : nb_V) (M : nb_M) :
    nb_R nb_P 14 1 [v0, v1] [] M = nb_R nb_P 14 3 [v0, v1] [(0, 1)] M :=
  nb_step (c := true) rfl rfl
theorem q_c_isWaiting_2 (v0 v1 : nb_V) (M : nb_M) :
    nb_R nb_P 14 2 [v0, v1] [] M = nb_R nb_P 14 3 [v0, v1] [(0, 0)] M :=
  nb_step (c := true) rfl rfl
theorem q_c_isWaiting_3 (s0 : Int) (v0 v1 : nb_V) (M : nb_M) :
    nb_R nb_P 14 3 [v0, v1] [(0, s0)] M = some ([(0, nb_i2z s0)], M) :=
  nb_step (c := true) rfl rfl
theorem q_c_isAway_0 (l0 l1 : Int) (M : nb_M) (h1 : l0 ≠ 0) (h2 : (nb_rd M l0 5) ≠ 0) (h3 : (nb_rd M (nb_rd M l0 5) 0) ≠ 0) (h4 : (0 : Int) ≤ l1) (h5 : l1 < nb_ln M (nb_rd M (nb_rd M l0 5) 0)) (h6 : (nb_rd M (nb_rd M (nb_rd M l0 5) 0) l1) ≠ 0) :
    nb_R nb_P 15 0 [(19, l0), (0, l1)] [] M = if nb_rd M (nb_rd M (nb_rd M (nb_rd M l0 5) 0) l1) 8 = 0 then nb_R nb_P 15 1 [(19, l0), (0, l1)] [] M else nb_R nb_P 15 2 [(19, l0), (0, l1)] [] M :=
  nb_step (c := ((((true && !decide ((l0 : Int) = 0)) && !decide ((nb_rd M l0 5 : Int) = 0)) && (!decide ((nb_rd M (nb_rd M l0 5) 0 : Int) = 0) && (decide ((0 : Int) ≤ l1) && decide (l1 < nb_ln M (nb_rd M (nb_rd M l0 5) 0))))) && !decide ((nb_rd M (nb_rd M (nb_rd M l0 5) 0) l1 : Int) = 0))) rfl (by simp [h1, h2, h3, h4, h5, h6])
theorem q_c_isAway_1 (v0 v1 : nb_V) (M : nb_M) :
    nb_R nb_P 15 1 [v0, v1] [] M = nb_R nb_P 15 3 [v0, v1] [(0, 1)] M :=
  nb_step (c := true) rfl rfl
theorem q_c_isAway_2 (v0 v1 : nb_V) (M : nb_M) :
    nb_R nb_P 15 2 [v0, v1] [] M = nb_R nb_P 15 3 [v0, v1] [(0, 0)] M :=
  nb_step (c := true) rfl rfl
theorem q_c_isAway_3 (s0 : Int) (v0 v1 : nb_V) (M : nb_M) :
    nb_R nb_P 15 3 [v0, v1] [(0, s0)] M = some ([(0, nb_i2z s0)], M) :=
  nb_step (c := true) rfl rfl
theorem q_c_person_0 (l0 l1 l2 : Int) (v3 : nb_V) (M : nb_M) (h1 : l0 ≠ 0) :
    nb_R nb_P 16 0 [(19, l0), (0, l1), (0, l2), v3] [] M = (nb_R nb_P 9 0 [(19, l0), (0, l1)] [] M).bind fun r => nb_R nb_P 16 1 [(19, l0), (0, l1), (0, l2), v3] (r.1 ++ [(19, l0)]) r.2 :=
  nb_stepC (c := true) (L2 := [(19, l0), (0, l1), (0, l2), v3]) (S2 := [(0, l1), (19, l0), (19, l0)]) (M2 := M) (t := 1) (cl := 9) (vi := true) rfl rfl (nb_inv_eq (n := 2) rfl rfl rfl rfl rfl rfl (fun _ => h1) rfl)
theorem q_c_person_1 (l0 l1 l2 s0 s1 : Int) (v3 : nb_V) (M : nb_M) :
    nb_R nb_P 16 1 [(19, l0), (0, l1), (0, l2), v3] [(0, s0), (19, s1)] M = if s0 = 0 then nb_R nb_P 16 5 [(19, l0), (0, l1), (0, l2), v3] [(19, s1)] M else nb_R nb_P 16 2 [(19, l0), (0, l1), (0, l2), v3] [(19, s1)] M :=
  nb_step (c := true) rfl rfl
theorem q_c_person_2 (l0 l1 l2 s0 : Int) (v3 : nb_V) (M : nb_M) :
    nb_R nb_P 16 2 [(19, l0), (0, l1), (0, l2), v3] [(19, s0)] M = if l2 < 0 then nb_R nb_P 16 5 [(19, l0), (0, l1), (0, l2), v3] [(19, s0)] M else nb_R nb_P 16 3 [(19, l0), (0, l1), (0, l2), v3] [(19, s0)] M :=
  nb_step (c := true) rfl rfl
theorem q_c_person_3 (l0 l1 l2 s0 : Int) (v3 : nb_V) (M : nb_M) :
    nb_R nb_P 16 3 [(19, l0), (0, l1), (0, l2), v3] [(19, s0)] M = if 5 < l2 then nb_R nb_P 16 5 [(19, l0), (0, l1), (0, l2), v3] [(19, s0)] M else nb_R nb_P 16 4 [(19, l0), (0, l1), (0, l2), v3] [(19, s0)] M :=
  nb_step (c := true) rfl rfl
theorem q_c_person_4 (l0 l1 l2 s0 : Int) (v3 : nb_V) (M : nb_M) :
    nb_R nb_P 16 4 [(19, l0), (0, l1), (0, l2), v3] [(19, s0)] M = nb_R nb_P 16 6 [(19, l0), (0, l1), (0, l2), v3] [(0, 1), (19, s0)] M :=
  nb_step (c := true) rfl rfl
theorem q_c_person_5 (l0 l1 l2 s0 : Int) (v3 : nb_V) (M : nb_M) :
    nb_R nb_P 16 5 [(19, l0), (0, l1), (0, l2), v3] [(19, s0)] M = nb_R nb_P 16 6 [(19, l0), (0, l1), (0, l2), v3] [(0, 0), (19, s0)] M :=
  nb_step (c := true) rfl rfl
theorem q_c_person_6 (l0 l1 l2 s0 s1 : Int) (v3 : nb_V) (M : nb_M) (h1 : s1 ≠ 0) :
    nb_R nb_P 16 6 [(19, l0), (0, l1), (0, l2), v3] [(0, s0), (19, s1)] M = (nb_R nb_P 7 0 [(19, s1), (0, s0), (0, 1)] [] M).bind fun r => nb_R nb_P 16 7 [(19, l0), (0, l1), (0, l2), v3] (r.1 ++ []) r.2 :=
  nb_stepC (c := true) (L2 := [(19, l0), (0, l1), (0, l2), v3]) (S2 := [(0, 1), (0, s0), (19, s1)]) (M2 := M) (t := 7) (cl := 7) (vi := true) rfl rfl (nb_inv_eq (n := 3) rfl rfl rfl rfl rfl rfl (fun _ => h1) rfl)
theorem q_c_person_7 (l0 l1 l2 s0 : Int) (v3 : nb_V) (M : nb_M) :
    nb_R nb_P 16 7 [(19, l0), (0, l1), (0, l2), v3] [(0, s0)] M = if s0 = 0 then nb_R nb_P 16 8 [(19, l0), (0, l1), (0, l2), v3] [] M else nb_R nb_P 16 9 [(19, l0), (0, l1), (0, l2), v3] [] M :=
  nb_step (c := true) rfl rfl
theorem q_c_person_8 (v0 v1 v2 v3 : nb_V) (M : nb_M) :
    nb_R nb_P 16 8 [v0, v1, v2, v3] [] M = some ([(0, (-1))], M) :=
  nb_step (c := true) rfl rfl
set_option maxRecDepth 10000 in
theorem q_c_person_9 (l0 l1 l2 : Int) (v3 : nb_V) (M : nb_M) (h1 : l0 ≠ 0) (h2 : (nb_rd M l0 5) ≠ 0) (h3 : (nb_rd M (nb_rd M l0 5) 0) ≠ 0) (h4 : (0 : Int) ≤ l1) (h5 : l1 < nb_ln M (nb_rd M (nb_rd M l0 5) 0)) :
    nb_R nb_P 16 9 [(19, l0), (0, l1), (0, l2), v3] [] M = if l2 = 0 then nb_R nb_P 16 10 [(19, l0), (0, l1), (0, l2), (11, nb_rd M (nb_rd M (nb_rd M l0 5) 0) l1)] [] M else if l2 = 1 then nb_R nb_P 16 15 [(19, l0), (0, l1), (0, l2), (11, nb_rd M (nb_rd M (nb_rd M l0 5) 0) l1)] [] M else if l2 = 2 then nb_R nb_P 16 16 [(19, l0), (0, l1), (0, l2), (11, nb_rd M (nb_rd M (nb_rd M l0 5) 0) l1)] [] M else if l2 = 3 then nb_R nb_P 16 17 [(19, l0), (0, l1), (0, l2), (11, nb_rd M (nb_rd M (nb_rd M l0 5) 0) l1)] [] M else if l2 = 4 then nb_R nb_P 16 18 [(19, l0), (0, l1), (0, l2), (11, nb_rd M (nb_rd M (nb_rd M l0 5) 0) l1)] [] M else nb_R nb_P 16 19 [(19, l0), (0, l1), (0, l2), (11, nb_rd M (nb_rd M (nb_rd M l0 5) 0) l1)] [] M :=
  nb_step (c := (((true && !decide ((l0 : Int) = 0)) && !decide ((nb_rd M l0 5 : Int) = 0)) && (!decide ((nb_rd M (nb_rd M l0 5) 0 : Int) = 0) && (decide ((0 : Int) ≤ l1) && decide (l1 < nb_ln M (nb_rd M (nb_rd M l0 5) 0)))))) rfl (by simp [h1, h2, h3, h4, h5])
theorem q_c_person_10 (l0 l3 : Int) (v1 v2 : nb_V) (M : nb_M) (h1 : l3 ≠ 0) :
    nb_R nb_P 16 10 [(19, l0), v1, v2, (11, l3)] [] M = if nb_rd M l3 8 = 2 then nb_R nb_P 16 11 [(19, l0), v1, v2, (11, l3)] [] M else nb_R nb_P 16 13 [(19, l0), v1, v2, (11, l3)] [] M :=
  nb_step (c := (true && !decide ((l3 : Int) = 0))) rfl (by simp [h1])
theorem q_c_person_11 (l0 l3 : Int) (v1 v2 : nb_V) (M : nb_M) (h1 : l3 ≠ 0) (h2 : l0 ≠ 0) (h3 : (nb_rd M l0 5) ≠ 0) :
    nb_R nb_P 16 11 [(19, l0), v1, v2, (11, l3)] [] M = if nb_rd M (nb_rd M l0 5) 7 < nb_rd M l3 10 then nb_R nb_P 16 13 [(19, l0), v1, v2, (11, l3)] [] M else nb_R nb_P 16 12 [(19, l0), v1, v2, (11, l3)] [] M :=
  nb_step (c := (((true && !decide ((l3 : Int) = 0)) && !decide ((l0 : Int) = 0)) && !decide ((nb_rd M l0 5 : Int) = 0))) rfl (by simp [h1, h2, h3])
theorem q_c_person_12 (v0 v1 v2 v3 : nb_V) (M : nb_M) :
    nb_R nb_P 16 12 [v0, v1, v2, v3] [] M = nb_R nb_P 16 14 [v0, v1, v2, v3] [(0, 3)] M :=
  nb_step (c := true) rfl rfl
theorem q_c_person_13 (l3 : Int) (v0 v1 v2 : nb_V) (M : nb_M) (h1 : l3 ≠ 0) :
    nb_R nb_P 16 13 [v0, v1, v2, (11, l3)] [] M = nb_R nb_P 16 14 [v0, v1, v2, (11, l3)] [(0, nb_rd M l3 8)] M :=
  nb_step (c := (true && !decide ((l3 : Int) = 0))) rfl (by simp [h1])
theorem q_c_person_14 (s0 : Int) (v0 v1 v2 v3 : nb_V) (M : nb_M) :
    nb_R nb_P 16 14 [v0, v1, v2, v3] [(0, s0)] M = some ([(0, s0)], M) :=
  nb_step (c := true) rfl rfl
theorem q_c_person_15 (l3 : Int) (v0 v1 v2 : nb_V) (M : nb_M) (h1 : l3 ≠ 0) :
    nb_R nb_P 16 15 [v0, v1, v2, (11, l3)] [] M = some ([(0, nb_rd M l3 3)], M) :=
  nb_step (c := (true && !decide ((l3 : Int) = 0))) rfl (by simp [h1])
theorem q_c_person_16 (l3 : Int) (v0 v1 v2 : nb_V) (M : nb_M) (h1 : l3 ≠ 0) :
    nb_R nb_P 16 16 [v0, v1, v2, (11, l3)] [] M = some ([(0, nb_rd M l3 5)], M) :=
  nb_step (c := (true && !decide ((l3 : Int) = 0))) rfl (by simp [h1])
theorem q_c_person_17 (l3 : Int) (v0 v1 v2 : nb_V) (M : nb_M) (h1 : l3 ≠ 0) :
    nb_R nb_P 16 17 [v0, v1, v2, (11, l3)] [] M = some ([(0, nb_rd M l3 7)], M) :=
  nb_step (c := (true && !decide ((l3 : Int) = 0))) rfl (by simp [h1])
theorem q_c_person_18 (l3 : Int) (v0 v1 v2 : nb_V) (M : nb_M) (h1 : l3 ≠ 0) :
    nb_R nb_P 16 18 [v0, v1, v2, (11, l3)] [] M = some ([(0, nb_rd M l3 9)], M) :=
  nb_step (c := (true && !decide ((l3 : Int) = 0))) rfl (by simp [h1])
theorem q_c_person_19 (l3 : Int) (v0 v1 v2 : nb_V) (M : nb_M) (h1 : l3 ≠ 0) :
    nb_R nb_P 16 19 [v0, v1, v2, (11, l3)] [] M = some ([(0, nb_rd M l3 10)], M) :=
  nb_step (c := (true && !decide ((l3 : Int) = 0))) rfl (by simp [h1])
theorem q_c_staff_0 (l0 l1 l2 : Int) (v3 : nb_V) (M : nb_M) (h1 : l0 ≠ 0) :
    nb_R nb_P 17 0 [(19, l0), (0, l1), (0, l2), v3] [] M = (nb_R nb_P 11 0 [(19, l0), (0, l1)] [] M).bind fun r => nb_R nb_P 17 1 [(19, l0), (0, l1), (0, l2), v3] (r.1 ++ [(19, l0)]) r.2 :=
  nb_stepC (c := true) (L2 := [(19, l0), (0, l1), (0, l2), v3]) (S2 := [(0, l1), (19, l0), (19, l0)]) (M2 := M) (t := 1) (cl := 11) (vi := true) rfl rfl (nb_inv_eq (n := 2) rfl rfl rfl rfl rfl rfl (fun _ => h1) rfl)
theorem q_c_staff_1 (l0 l1 l2 s0 s1 : Int) (v3 : nb_V) (M : nb_M) :
    nb_R nb_P 17 1 [(19, l0), (0, l1), (0, l2), v3] [(0, s0), (19, s1)] M = if s0 = 0 then nb_R nb_P 17 5 [(19, l0), (0, l1), (0, l2), v3] [(19, s1)] M else nb_R nb_P 17 2 [(19, l0), (0, l1), (0, l2), v3] [(19, s1)] M :=
  nb_step (c := true) rfl rfl
theorem q_c_staff_2 (l0 l1 l2 s0 : Int) (v3 : nb_V) (M : nb_M) :
    nb_R nb_P 17 2 [(19, l0), (0, l1), (0, l2), v3] [(19, s0)] M = if l2 < 0 then nb_R nb_P 17 5 [(19, l0), (0, l1), (0, l2), v3] [(19, s0)] M else nb_R nb_P 17 3 [(19, l0), (0, l1), (0, l2), v3] [(19, s0)] M :=
  nb_step (c := true) rfl rfl
theorem q_c_staff_3 (l0 l1 l2 s0 : Int) (v3 : nb_V) (M : nb_M) :
    nb_R nb_P 17 3 [(19, l0), (0, l1), (0, l2), v3] [(19, s0)] M = if 2 < l2 then nb_R nb_P 17 5 [(19, l0), (0, l1), (0, l2), v3] [(19, s0)] M else nb_R nb_P 17 4 [(19, l0), (0, l1), (0, l2), v3] [(19, s0)] M :=
  nb_step (c := true) rfl rfl
theorem q_c_staff_4 (l0 l1 l2 s0 : Int) (v3 : nb_V) (M : nb_M) :
    nb_R nb_P 17 4 [(19, l0), (0, l1), (0, l2), v3] [(19, s0)] M = nb_R nb_P 17 6 [(19, l0), (0, l1), (0, l2), v3] [(0, 1), (19, s0)] M :=
  nb_step (c := true) rfl rfl
theorem q_c_staff_5 (l0 l1 l2 s0 : Int) (v3 : nb_V) (M : nb_M) :
    nb_R nb_P 17 5 [(19, l0), (0, l1), (0, l2), v3] [(19, s0)] M = nb_R nb_P 17 6 [(19, l0), (0, l1), (0, l2), v3] [(0, 0), (19, s0)] M :=
  nb_step (c := true) rfl rfl
theorem q_c_staff_6 (l0 l1 l2 s0 s1 : Int) (v3 : nb_V) (M : nb_M) (h1 : s1 ≠ 0) :
    nb_R nb_P 17 6 [(19, l0), (0, l1), (0, l2), v3] [(0, s0), (19, s1)] M = (nb_R nb_P 7 0 [(19, s1), (0, s0), (0, 1)] [] M).bind fun r => nb_R nb_P 17 7 [(19, l0), (0, l1), (0, l2), v3] (r.1 ++ []) r.2 :=
  nb_stepC (c := true) (L2 := [(19, l0), (0, l1), (0, l2), v3]) (S2 := [(0, 1), (0, s0), (19, s1)]) (M2 := M) (t := 7) (cl := 7) (vi := true) rfl rfl (nb_inv_eq (n := 3) rfl rfl rfl rfl rfl rfl (fun _ => h1) rfl)
theorem q_c_staff_7 (l0 l1 l2 s0 : Int) (v3 : nb_V) (M : nb_M) :
    nb_R nb_P 17 7 [(19, l0), (0, l1), (0, l2), v3] [(0, s0)] M = if s0 = 0 then nb_R nb_P 17 8 [(19, l0), (0, l1), (0, l2), v3] [] M else nb_R nb_P 17 9 [(19, l0), (0, l1), (0, l2), v3] [] M :=
  nb_step (c := true) rfl rfl
theorem q_c_staff_8 (v0 v1 v2 v3 : nb_V) (M : nb_M) :
    nb_R nb_P 17 8 [v0, v1, v2, v3] [] M = some ([(0, (-1))], M) :=
  nb_step (c := true) rfl rfl
set_option maxRecDepth 10000 in
theorem q_c_staff_9 (l0 l1 l2 : Int) (v3 : nb_V) (M : nb_M) (h1 : l0 ≠ 0) (h2 : (nb_rd M l0 5) ≠ 0) (h3 : (nb_rd M (nb_rd M l0 5) 1) ≠ 0) (h4 : (0 : Int) ≤ l1) (h5 : l1 < nb_ln M (nb_rd M (nb_rd M l0 5) 1)) :
    nb_R nb_P 17 9 [(19, l0), (0, l1), (0, l2), v3] [] M = if l2 = 0 then nb_R nb_P 17 10 [(19, l0), (0, l1), (0, l2), (16, nb_rd M (nb_rd M (nb_rd M l0 5) 1) l1)] [] M else if l2 = 1 then nb_R nb_P 17 11 [(19, l0), (0, l1), (0, l2), (16, nb_rd M (nb_rd M (nb_rd M l0 5) 1) l1)] [] M else nb_R nb_P 17 13 [(19, l0), (0, l1), (0, l2), (16, nb_rd M (nb_rd M (nb_rd M l0 5) 1) l1)] [] M :=
  nb_step (c := (((true && !decide ((l0 : Int) = 0)) && !decide ((nb_rd M l0 5 : Int) = 0)) && (!decide ((nb_rd M (nb_rd M l0 5) 1 : Int) = 0) && (decide ((0 : Int) ≤ l1) && decide (l1 < nb_ln M (nb_rd M (nb_rd M l0 5) 1)))))) rfl (by simp [h1, h2, h3, h4, h5])
theorem q_c_staff_10 (l3 : Int) (v0 v1 v2 : nb_V) (M : nb_M) (h1 : l3 ≠ 0) :
    nb_R nb_P 17 10 [v0, v1, v2, (16, l3)] [] M = some ([(0, nb_rd M l3 2)], M) :=
  nb_step (c := (true && !decide ((l3 : Int) = 0))) rfl (by simp [h1])
theorem q_c_staff_11 (l0 l3 : Int) (v1 v2 : nb_V) (M : nb_M) (h1 : l0 ≠ 0) (h2 : (nb_rd M l0 5) ≠ 0) (h3 : l3 ≠ 0) :
    nb_R nb_P 17 11 [(19, l0), v1, v2, (16, l3)] [] M = (nb_R nb_P 276 0 [(16, l3), (0, nb_rd M (nb_rd M l0 5) 7), (98, 0), (98, 0)] [] M).bind fun r => nb_R nb_P 17 12 [(19, l0), v1, v2, (16, l3)] (r.1 ++ []) r.2 :=
  nb_stepC (c := ((true && !decide ((l0 : Int) = 0)) && !decide ((nb_rd M l0 5 : Int) = 0))) (L2 := [(19, l0), v1, v2, (16, l3)]) (S2 := [(0, nb_rd M (nb_rd M l0 5) 7), (16, l3)]) (M2 := M) (t := 12) (cl := 276) (vi := true) rfl (by simp [h1, h2, h3]) (nb_inv_eq (n := 2) rfl rfl rfl rfl rfl rfl (fun _ => h3) rfl)
theorem q_c_staff_12 (s0 : Int) (v0 v1 v2 v3 : nb_V) (M : nb_M) :
    nb_R nb_P 17 12 [v0, v1, v2, v3] [(0, s0)] M = some ([(0, s0)], M) :=
  nb_step (c := true) rfl rfl
theorem q_c_staff_13 (l0 l3 : Int) (v1 v2 : nb_V) (M : nb_M) (h1 : l0 ≠ 0) (h2 : (nb_rd M l0 5) ≠ 0) (h3 : l3 ≠ 0) :
    nb_R nb_P 17 13 [(19, l0), v1, v2, (16, l3)] [] M = (nb_R nb_P 277 0 [(16, l3), (0, nb_rd M (nb_rd M l0 5) 7), (98, 0), (98, 0)] [] M).bind fun r => nb_R nb_P 17 14 [(19, l0), v1, v2, (16, l3)] (r.1 ++ []) r.2 :=
  nb_stepC (c := ((true && !decide ((l0 : Int) = 0)) && !decide ((nb_rd M l0 5 : Int) = 0))) (L2 := [(19, l0), v1, v2, (16, l3)]) (S2 := [(0, nb_rd M (nb_rd M l0 5) 7), (16, l3)]) (M2 := M) (t := 14) (cl := 277) (vi := true) rfl (by simp [h1, h2, h3]) (nb_inv_eq (n := 2) rfl rfl rfl rfl rfl rfl (fun _ => h3) rfl)
theorem q_c_staff_14 (s0 : Int) (v0 v1 v2 v3 : nb_V) (M : nb_M) :
    nb_R nb_P 17 14 [v0, v1, v2, v3] [(0, s0)] M = some ([(0, s0)], M) :=
  nb_step (c := true) rfl rfl
theorem q_c_elbows_0 (l0 l1 : Int) (v2 v3 : nb_V) (M : nb_M) (h1 : l0 ≠ 0) :
    nb_R nb_P 18 0 [(19, l0), (0, l1), v2, v3] [] M = (nb_R nb_P 12 0 [(19, l0), (0, l1)] [] M).bind fun r => nb_R nb_P 18 1 [(19, l0), (0, l1), v2, v3] (r.1 ++ [(19, l0)]) r.2 :=
  nb_stepC (c := true) (L2 := [(19, l0), (0, l1), v2, v3]) (S2 := [(0, l1), (19, l0), (19, l0)]) (M2 := M) (t := 1) (cl := 12) (vi := true) rfl rfl (nb_inv_eq (n := 2) rfl rfl rfl rfl rfl rfl (fun _ => h1) rfl)
theorem q_c_elbows_1 (l0 l1 s0 s1 : Int) (v2 v3 : nb_V) (M : nb_M) (h1 : s1 ≠ 0) :
    nb_R nb_P 18 1 [(19, l0), (0, l1), v2, v3] [(0, s0), (19, s1)] M = (nb_R nb_P 7 0 [(19, s1), (0, s0), (0, 1)] [] M).bind fun r => nb_R nb_P 18 2 [(19, l0), (0, l1), v2, v3] (r.1 ++ []) r.2 :=
  nb_stepC (c := true) (L2 := [(19, l0), (0, l1), v2, v3]) (S2 := [(0, 1), (0, s0), (19, s1)]) (M2 := M) (t := 2) (cl := 7) (vi := true) rfl rfl (nb_inv_eq (n := 3) rfl rfl rfl rfl rfl rfl (fun _ => h1) rfl)
theorem q_c_elbows_2 (l0 l1 s0 : Int) (v2 v3 : nb_V) (M : nb_M) :
    nb_R nb_P 18 2 [(19, l0), (0, l1), v2, v3] [(0, s0)] M = if s0 = 0 then nb_R nb_P 18 3 [(19, l0), (0, l1), v2, v3] [] M else nb_R nb_P 18 4 [(19, l0), (0, l1), v2, v3] [] M :=
  nb_step (c := true) rfl rfl
theorem q_c_elbows_3 (v0 v1 v2 v3 : nb_V) (M : nb_M) :
    nb_R nb_P 18 3 [v0, v1, v2, v3] [] M = some ([(0, (-1))], M) :=
  nb_step (c := true) rfl rfl
theorem q_c_elbows_4 (l0 l1 : Int) (v2 v3 : nb_V) (M : nb_M) :
    nb_R nb_P 18 4 [(19, l0), (0, l1), v2, v3] [] M = nb_R nb_P 18 5 [(19, l0), (0, l1), (0, 0), (0, 0)] [] M :=
  nb_step (c := true) rfl rfl
theorem q_c_elbows_5 (l0 l1 l2 l3 : Int) (M : nb_M) (h1 : l0 ≠ 0) (h2 : (nb_rd M l0 2) ≠ 0) :
    nb_R nb_P 18 5 [(19, l0), (0, l1), (0, l2), (0, l3)] [] M = if l3 < nb_rd M (nb_rd M l0 2) 13 then nb_R nb_P 18 6 [(19, l0), (0, l1), (0, l2), (0, l3)] [] M else nb_R nb_P 18 11 [(19, l0), (0, l1), (0, l2), (0, l3)] [] M :=
  nb_step (c := ((true && !decide ((l0 : Int) = 0)) && !decide ((nb_rd M l0 2 : Int) = 0))) rfl (by simp [h1, h2])
theorem q_c_elbows_6 (l0 l1 l2 l3 : Int) (M : nb_M) (h1 : l0 ≠ 0) :
    nb_R nb_P 18 6 [(19, l0), (0, l1), (0, l2), (0, l3)] [] M = (nb_R nb_P 14 0 [(19, l0), (0, l3)] [] M).bind fun r => nb_R nb_P 18 7 [(19, l0), (0, l1), (0, l2), (0, l3)] (r.1 ++ []) r.2 :=
  nb_stepC (c := true) (L2 := [(19, l0), (0, l1), (0, l2), (0, l3)]) (S2 := [(0, l3), (19, l0)]) (M2 := M) (t := 7) (cl := 14) (vi := true) rfl rfl (nb_inv_eq (n := 2) rfl rfl rfl rfl rfl rfl (fun _ => h1) rfl)
theorem q_c_elbows_7 (l0 l1 l2 l3 s0 : Int) (M : nb_M) :
    nb_R nb_P 18 7 [(19, l0), (0, l1), (0, l2), (0, l3)] [(0, s0)] M = if s0 = 0 then nb_R nb_P 18 10 [(19, l0), (0, l1), (0, l2), (0, l3)] [] M else nb_R nb_P 18 8 [(19, l0), (0, l1), (0, l2), (0, l3)] [] M :=
  nb_step (c := true) rfl rfl
theorem q_c_elbows_8 (l0 l1 l2 l3 : Int) (M : nb_M) (h1 : l0 ≠ 0) (h2 : (nb_rd M l0 5) ≠ 0) (h3 : (nb_rd M (nb_rd M l0 5) 0) ≠ 0) (h4 : (0 : Int) ≤ l3) (h5 : l3 < nb_ln M (nb_rd M (nb_rd M l0 5) 0)) (h6 : (nb_rd M (nb_rd M (nb_rd M l0 5) 0) l3) ≠ 0) :
    nb_R nb_P 18 8 [(19, l0), (0, l1), (0, l2), (0, l3)] [] M = if nb_rd M (nb_rd M (nb_rd M (nb_rd M l0 5) 0) l3) 3 = l1 then nb_R nb_P 18 9 [(19, l0), (0, l1), (0, l2), (0, l3)] [] M else nb_R nb_P 18 10 [(19, l0), (0, l1), (0, l2), (0, l3)] [] M :=
  nb_step (c := ((((true && !decide ((l0 : Int) = 0)) && !decide ((nb_rd M l0 5 : Int) = 0)) && (!decide ((nb_rd M (nb_rd M l0 5) 0 : Int) = 0) && (decide ((0 : Int) ≤ l3) && decide (l3 < nb_ln M (nb_rd M (nb_rd M l0 5) 0))))) && !decide ((nb_rd M (nb_rd M (nb_rd M l0 5) 0) l3 : Int) = 0))) rfl (by simp [h1, h2, h3, h4, h5, h6])
theorem q_c_elbows_9 (l0 l1 l2 l3 : Int) (M : nb_M) :
    nb_R nb_P 18 9 [(19, l0), (0, l1), (0, l2), (0, l3)] [] M = nb_R nb_P 18 10 [(19, l0), (0, l1), (0, nb_add l2 1), (0, l3)] [] M :=
  nb_step (c := true) rfl rfl
theorem q_c_elbows_10 (l0 l1 l2 l3 : Int) (M : nb_M) :
    nb_R nb_P 18 10 [(19, l0), (0, l1), (0, l2), (0, l3)] [] M = nb_R nb_P 18 5 [(19, l0), (0, l1), (0, l2), (0, nb_add l3 1)] [] M :=
  nb_step (c := true) rfl rfl
theorem q_c_elbows_11 (l2 : Int) (v0 v1 v3 : nb_V) (M : nb_M) :
    nb_R nb_P 18 11 [v0, v1, (0, l2), v3] [] M = some ([(0, l2)], M) :=
  nb_step (c := true) rfl rfl
theorem q_c_waiting_0 (l0 : Int) (M : nb_M) (h1 : l0 ≠ 0) :
    nb_R nb_P 19 0 [(19, l0)] [] M = (nb_R nb_P 8 0 [(19, l0)] [] M).bind fun r => nb_R nb_P 19 1 [(19, l0)] (r.1 ++ [(19, l0)]) r.2 :=
  nb_stepC (c := true) (L2 := [(19, l0)]) (S2 := [(19, l0), (19, l0)]) (M2 := M) (t := 1) (cl := 8) (vi := true) rfl rfl (nb_inv_eq (n := 1) rfl rfl rfl rfl rfl rfl (fun _ => h1) rfl)
theorem q_c_waiting_1 (l0 s0 s1 : Int) (M : nb_M) (h1 : s1 ≠ 0) :
    nb_R nb_P 19 1 [(19, l0)] [(0, s0), (19, s1)] M = (nb_R nb_P 7 0 [(19, s1), (0, s0), (0, 1)] [] M).bind fun r => nb_R nb_P 19 2 [(19, l0)] (r.1 ++ []) r.2 :=
  nb_stepC (c := true) (L2 := [(19, l0)]) (S2 := [(0, 1), (0, s0), (19, s1)]) (M2 := M) (t := 2) (cl := 7) (vi := true) rfl rfl (nb_inv_eq (n := 3) rfl rfl rfl rfl rfl rfl (fun _ => h1) rfl)
theorem q_c_waiting_2 (l0 s0 : Int) (M : nb_M) :
    nb_R nb_P 19 2 [(19, l0)] [(0, s0)] M = if s0 = 0 then nb_R nb_P 19 5 [(19, l0)] [] M else nb_R nb_P 19 3 [(19, l0)] [] M :=
  nb_step (c := true) rfl rfl
theorem q_c_waiting_3 (l0 : Int) (M : nb_M) (h1 : l0 ≠ 0) (h2 : (nb_rd M l0 5) ≠ 0) :
    nb_R nb_P 19 3 [(19, l0)] [] M = (nb_R nb_P 265 0 [(15, nb_rd M l0 5), (0, 1), (98, 0), (98, 0)] [] M).bind fun r => nb_R nb_P 19 4 [(19, l0)] (r.1 ++ []) r.2 :=
  nb_stepC (c := (true && !decide ((l0 : Int) = 0))) (L2 := [(19, l0)]) (S2 := [(0, 1), (15, nb_rd M l0 5)]) (M2 := M) (t := 4) (cl := 265) (vi := true) rfl (by simp [h1, h2]) (nb_inv_eq (n := 2) rfl rfl rfl rfl rfl rfl (fun _ => h2) rfl)
theorem q_c_waiting_4 (s0 : Int) (v0 : nb_V) (M : nb_M) :
    nb_R nb_P 19 4 [v0] [(0, s0)] M = nb_R nb_P 19 6 [v0] [(0, s0)] M :=
  nb_step (c := true) rfl rfl
theorem q_c_waiting_5 (v0 : nb_V) (M : nb_M) :
    nb_R nb_P 19 5 [v0] [] M = nb_R nb_P 19 6 [v0] [(0, (-1))] M :=
  nb_step (c := true) rfl rfl
theorem q_c_waiting_6 (s0 : Int) (v0 : nb_V) (M : nb_M) :
    nb_R nb_P 19 6 [v0] [(0, s0)] M = some ([(0, s0)], M) :=
  nb_step (c := true) rfl rfl
theorem q_c_next_0 (l0 l1 : Int) (M : nb_M) (h1 : l0 ≠ 0) :
    nb_R nb_P 20 0 [(19, l0), (0, l1)] [] M = (nb_R nb_P 11 0 [(19, l0), (0, l1)] [] M).bind fun r => nb_R nb_P 20 1 [(19, l0), (0, l1)] (r.1 ++ [(19, l0)]) r.2 :=
  nb_stepC (c := true) (L2 := [(19, l0), (0, l1)]) (S2 := [(0, l1), (19, l0), (19, l0)]) (M2 := M) (t := 1) (cl := 11) (vi := true) rfl rfl (nb_inv_eq (n := 2) rfl rfl rfl rfl rfl rfl (fun _ => h1) rfl)
theorem q_c_next_1 (l0 l1 s0 s1 : Int) (M : nb_M) (h1 : s1 ≠ 0) :
    nb_R nb_P 20 1 [(19, l0), (0, l1)] [(0, s0), (19, s1)] M = (nb_R nb_P 7 0 [(19, s1), (0, s0), (0, 1)] [] M).bind fun r => nb_R nb_P 20 2 [(19, l0), (0, l1)] (r.1 ++ []) r.2 :=
  nb_stepC (c := true) (L2 := [(19, l0), (0, l1)]) (S2 := [(0, 1), (0, s0), (19, s1)]) (M2 := M) (t := 2) (cl := 7) (vi := true) rfl rfl (nb_inv_eq (n := 3) rfl rfl rfl rfl rfl rfl (fun _ => h1) rfl)
theorem q_c_next_2 (l0 l1 s0 : Int) (M : nb_M) :
    nb_R nb_P 20 2 [(19, l0), (0, l1)] [(0, s0)] M = if s0 = 0 then nb_R nb_P 20 5 [(19, l0), (0, l1)] [] M else nb_R nb_P 20 3 [(19, l0), (0, l1)] [] M :=
  nb_step (c := true) rfl rfl
theorem q_c_next_3 (l0 l1 : Int) (M : nb_M) (h1 : l0 ≠ 0) (h2 : (nb_rd M l0 5) ≠ 0) :
    nb_R nb_P 20 3 [(19, l0), (0, l1)] [] M = (nb_R nb_P 262 0 [(15, nb_rd M l0 5), (0, l1), (98, 0), (98, 0), (98, 0), (98, 0), (98, 0), (98, 0)] [] M).bind fun r => nb_R nb_P 20 4 [(19, l0), (0, l1)] (r.1 ++ []) r.2 :=
  nb_stepC (c := (true && !decide ((l0 : Int) = 0))) (L2 := [(19, l0), (0, l1)]) (S2 := [(0, l1), (15, nb_rd M l0 5)]) (M2 := M) (t := 4) (cl := 262) (vi := true) rfl (by simp [h1, h2]) (nb_inv_eq (n := 2) rfl rfl rfl rfl rfl rfl (fun _ => h2) rfl)
theorem q_c_next_4 (s0 : Int) (v0 v1 : nb_V) (M : nb_M) :
    nb_R nb_P 20 4 [v0, v1] [(0, s0)] M = nb_R nb_P 20 6 [v0, v1] [(0, s0)] M :=
  nb_step (c := true) rfl rfl
theorem q_c_next_5 (v0 v1 : nb_V) (M : nb_M) :
    nb_R nb_P 20 5 [v0, v1] [] M = nb_R nb_P 20 6 [v0, v1] [(0, (-1))] M :=
  nb_step (c := true) rfl rfl
theorem q_c_next_6 (s0 : Int) (v0 v1 : nb_V) (M : nb_M) :
    nb_R nb_P 20 6 [v0, v1] [(0, s0)] M = some ([(0, s0)], M) :=
  nb_step (c := true) rfl rfl
theorem q_c_time_0 (l0 l1 l2 : Int) (M : nb_M) (h1 : l0 ≠ 0) :
    nb_R nb_P 21 0 [(19, l0), (0, l1), (0, l2)] [] M = (nb_R nb_P 11 0 [(19, l0), (0, l1)] [] M).bind fun r => nb_R nb_P 21 1 [(19, l0), (0, l1), (0, l2)] (r.1 ++ [(19, l0)]) r.2 :=
  nb_stepC (c := true) (L2 := [(19, l0), (0, l1), (0, l2)]) (S2 := [(0, l1), (19, l0), (19, l0)]) (M2 := M) (t := 1) (cl := 11) (vi := true) rfl rfl (nb_inv_eq (n := 2) rfl rfl rfl rfl rfl rfl (fun _ => h1) rfl)
theorem q_c_time_1 (l0 l1 l2 s0 s1 : Int) (M : nb_M) :
    nb_R nb_P 21 1 [(19, l0), (0, l1), (0, l2)] [(0, s0), (19, s1)] M = if s0 = 0 then nb_R nb_P 21 5 [(19, l0), (0, l1), (0, l2)] [(19, s1)] M else nb_R nb_P 21 2 [(19, l0), (0, l1), (0, l2)] [(19, s1)] M :=
  nb_step (c := true) rfl rfl
theorem q_c_time_2 (l0 l1 l2 s0 : Int) (M : nb_M) (h1 : l0 ≠ 0) :
    nb_R nb_P 21 2 [(19, l0), (0, l1), (0, l2)] [(19, s0)] M = (nb_R nb_P 9 0 [(19, l0), (0, l2)] [] M).bind fun r => nb_R nb_P 21 3 [(19, l0), (0, l1), (0, l2)] (r.1 ++ [(19, s0)]) r.2 :=
  nb_stepC (c := true) (L2 := [(19, l0), (0, l1), (0, l2)]) (S2 := [(0, l2), (19, l0), (19, s0)]) (M2 := M) (t := 3) (cl := 9) (vi := true) rfl rfl (nb_inv_eq (n := 2) rfl rfl rfl rfl rfl rfl (fun _ => h1) rfl)
theorem q_c_time_3 (l0 l1 l2 s0 s1 : Int) (M : nb_M) :
    nb_R nb_P 21 3 [(19, l0), (0, l1), (0, l2)] [(0, s0), (19, s1)] M = if s0 = 0 then nb_R nb_P 21 5 [(19, l0), (0, l1), (0, l2)] [(19, s1)] M else nb_R nb_P 21 4 [(19, l0), (0, l1), (0, l2)] [(19, s1)] M :=
  nb_step (c := true) rfl rfl
theorem q_c_time_4 (l0 l1 l2 s0 : Int) (M : nb_M) :
    nb_R nb_P 21 4 [(19, l0), (0, l1), (0, l2)] [(19, s0)] M = nb_R nb_P 21 6 [(19, l0), (0, l1), (0, l2)] [(0, 1), (19, s0)] M :=
  nb_step (c := true) rfl rfl
theorem q_c_time_5 (l0 l1 l2 s0 : Int) (M : nb_M) :
    nb_R nb_P 21 5 [(19, l0), (0, l1), (0, l2)] [(19, s0)] M = nb_R nb_P 21 6 [(19, l0), (0, l1), (0, l2)] [(0, 0), (19, s0)] M :=
  nb_step (c := true) rfl rfl
theorem q_c_time_6 (l0 l1 l2 s0 s1 : Int) (M : nb_M) (h1 : s1 ≠ 0) :
    nb_R nb_P 21 6 [(19, l0), (0, l1), (0, l2)] [(0, s0), (19, s1)] M = (nb_R nb_P 7 0 [(19, s1), (0, s0), (0, 1)] [] M).bind fun r => nb_R nb_P 21 7 [(19, l0), (0, l1), (0, l2)] (r.1 ++ []) r.2 :=
  nb_stepC (c := true) (L2 := [(19, l0), (0, l1), (0, l2)]) (S2 := [(0, 1), (0, s0), (19, s1)]) (M2 := M) (t := 7) (cl := 7) (vi := true) rfl rfl (nb_inv_eq (n := 3) rfl rfl rfl rfl rfl rfl (fun _ => h1) rfl)
theorem q_c_time_7 (l0 l1 l2 s0 : Int) (M : nb_M) :
    nb_R nb_P 21 7 [(19, l0), (0, l1), (0, l2)] [(0, s0)] M = if s0 = 0 then nb_R nb_P 21 8 [(19, l0), (0, l1), (0, l2)] [] M else nb_R nb_P 21 9 [(19, l0), (0, l1), (0, l2)] [] M :=
  nb_step (c := true) rfl rfl
theorem q_c_time_8 (v0 v1 v2 : nb_V) (M : nb_M) :
    nb_R nb_P 21 8 [v0, v1, v2] [] M = some ([(0, (-1))], M) :=
  nb_step (c := true) rfl rfl
theorem q_c_time_9 (l0 l1 l2 : Int) (M : nb_M) (h1 : l0 ≠ 0) (h2 : (nb_rd M l0 5) ≠ 0) (h3 : (nb_rd M (nb_rd M l0 5) 1) ≠ 0) (h4 : (0 : Int) ≤ l1) (h5 : l1 < nb_ln M (nb_rd M (nb_rd M l0 5) 1)) (h6 : (nb_rd M (nb_rd M (nb_rd M l0 5) 1) l1) ≠ 0) (h7 : (nb_rd M l0 2) ≠ 0) :
    nb_R nb_P 21 9 [(19, l0), (0, l1), (0, l2)] [] M = (nb_R nb_P 220 0 [(12, nb_rd M l0 2), (0, nb_rd M (nb_rd M (nb_rd M (nb_rd M l0 5) 1) l1) 7), (0, l2), (98, 0), (98, 0), (98, 0), (98, 0)] [] M).bind fun r => nb_R nb_P 21 10 [(19, l0), (0, l1), (0, l2)] (r.1 ++ []) r.2 :=
  nb_stepC (c := (((((true && !decide ((l0 : Int) = 0)) && !decide ((l0 : Int) = 0)) && !decide ((nb_rd M l0 5 : Int) = 0)) && (!decide ((nb_rd M (nb_rd M l0 5) 1 : Int) = 0) && (decide ((0 : Int) ≤ l1) && decide (l1 < nb_ln M (nb_rd M (nb_rd M l0 5) 1))))) && !decide ((nb_rd M (nb_rd M (nb_rd M l0 5) 1) l1 : Int) = 0))) (L2 := [(19, l0), (0, l1), (0, l2)]) (S2 := [(0, l2), (0, nb_rd M (nb_rd M (nb_rd M (nb_rd M l0 5) 1) l1) 7), (12, nb_rd M l0 2)]) (M2 := M) (t := 10) (cl := 220) (vi := true) rfl (by simp [h1, h2, h3, h4, h5, h6, h7]) (nb_inv_eq (n := 3) rfl rfl rfl rfl rfl rfl (fun _ => h7) rfl)
theorem q_c_time_10 (s0 : Int) (v0 v1 v2 : nb_V) (M : nb_M) :
    nb_R nb_P 21 10 [v0, v1, v2] [(0, s0)] M = some ([(0, s0)], M) :=
  nb_step (c := true) rfl rfl
theorem q_c_costs_0 (l0 l1 : Int) (M : nb_M) (h1 : l0 ≠ 0) :
    nb_R nb_P 22 0 [(19, l0), (0, l1)] [] M = (nb_R nb_P 9 0 [(19, l0), (0, l1)] [] M).bind fun r => nb_R nb_P 22 1 [(19, l0), (0, l1)] (r.1 ++ [(19, l0)]) r.2 :=
  nb_stepC (c := true) (L2 := [(19, l0), (0, l1)]) (S2 := [(0, l1), (19, l0), (19, l0)]) (M2 := M) (t := 1) (cl := 9) (vi := true) rfl rfl (nb_inv_eq (n := 2) rfl rfl rfl rfl rfl rfl (fun _ => h1) rfl)
theorem q_c_costs_1 (l0 l1 s0 s1 : Int) (M : nb_M) (h1 : s1 ≠ 0) :
    nb_R nb_P 22 1 [(19, l0), (0, l1)] [(0, s0), (19, s1)] M = (nb_R nb_P 7 0 [(19, s1), (0, s0), (0, 1)] [] M).bind fun r => nb_R nb_P 22 2 [(19, l0), (0, l1)] (r.1 ++ []) r.2 :=
  nb_stepC (c := true) (L2 := [(19, l0), (0, l1)]) (S2 := [(0, 1), (0, s0), (19, s1)]) (M2 := M) (t := 2) (cl := 7) (vi := true) rfl rfl (nb_inv_eq (n := 3) rfl rfl rfl rfl rfl rfl (fun _ => h1) rfl)
theorem q_c_costs_2 (l0 l1 s0 : Int) (M : nb_M) :
    nb_R nb_P 22 2 [(19, l0), (0, l1)] [(0, s0)] M = if s0 = 0 then nb_R nb_P 22 5 [(19, l0), (0, l1)] [] M else nb_R nb_P 22 3 [(19, l0), (0, l1)] [] M :=
  nb_step (c := true) rfl rfl
theorem q_c_costs_3 (l0 l1 : Int) (M : nb_M) (h1 : l0 ≠ 0) (h2 : (nb_rd M l0 2) ≠ 0) :
    nb_R nb_P 22 3 [(19, l0), (0, l1)] [] M = (nb_R nb_P 221 0 [(12, nb_rd M l0 2), (0, l1), (98, 0), (98, 0)] [] M).bind fun r => nb_R nb_P 22 4 [(19, l0), (0, l1)] (r.1 ++ []) r.2 :=
  nb_stepC (c := (true && !decide ((l0 : Int) = 0))) (L2 := [(19, l0), (0, l1)]) (S2 := [(0, l1), (12, nb_rd M l0 2)]) (M2 := M) (t := 4) (cl := 221) (vi := true) rfl (by simp [h1, h2]) (nb_inv_eq (n := 2) rfl rfl rfl rfl rfl rfl (fun _ => h2) rfl)
theorem q_c_costs_4 (s0 : Int) (v0 v1 : nb_V) (M : nb_M) :
    nb_R nb_P 22 4 [v0, v1] [(0, s0)] M = nb_R nb_P 22 6 [v0, v1] [(0, s0)] M :=
  nb_step (c := true) rfl rfl
theorem q_c_costs_5 (v0 v1 : nb_V) (M : nb_M) :
    nb_R nb_P 22 5 [v0, v1] [] M = nb_R nb_P 22 6 [v0, v1] [(0, (-1))] M :=
  nb_step (c := true) rfl rfl
theorem q_c_costs_6 (s0 : Int) (v0 v1 : nb_V) (M : nb_M) :
    nb_R nb_P 22 6 [v0, v1] [(0, s0)] M = some ([(0, s0)], M) :=
  nb_step (c := true) rfl rfl
theorem q_c_asNow_0 (l0 : Int) (M : nb_M) (h1 : l0 ≠ 0) (h2 : (nb_rd M l0 6) ≠ 0) :
    nb_R nb_P 23 0 [(19, l0)] [] M = (nb_R nb_P 255 0 [(15, nb_rd M l0 6), (15, nb_rd M l0 5), (98, 0)] [] M).bind fun r => nb_R nb_P 23 1 [(19, l0)] (r.1 ++ []) r.2 :=
  nb_stepC (c := ((true && !decide ((l0 : Int) = 0)) && !decide ((l0 : Int) = 0))) (L2 := [(19, l0)]) (S2 := [(15, nb_rd M l0 5), (15, nb_rd M l0 6)]) (M2 := M) (t := 1) (cl := 255) (vi := true) rfl (by simp [h1, h2]) (nb_inv_eq (n := 2) rfl rfl rfl rfl rfl rfl (fun _ => h2) rfl)
theorem q_c_asNow_1 (l0 : Int) (M : nb_M) (h1 : l0 ≠ 0) :
    nb_R nb_P 23 1 [(19, l0)] [] M = some ([(15, nb_rd M l0 6)], M) :=
  nb_step (c := (true && !decide ((l0 : Int) = 0))) rfl (by simp [h1])
theorem q_c_evening_0 (l0 : Int) (M : nb_M) (h1 : l0 ≠ 0) (h2 : (nb_rd M l0 6) ≠ 0) :
    nb_R nb_P 24 0 [(19, l0)] [] M = (nb_R nb_P 255 0 [(15, nb_rd M l0 6), (15, nb_rd M l0 5), (98, 0)] [] M).bind fun r => nb_R nb_P 24 1 [(19, l0)] (r.1 ++ []) r.2 :=
  nb_stepC (c := ((true && !decide ((l0 : Int) = 0)) && !decide ((l0 : Int) = 0))) (L2 := [(19, l0)]) (S2 := [(15, nb_rd M l0 5), (15, nb_rd M l0 6)]) (M2 := M) (t := 1) (cl := 255) (vi := true) rfl (by simp [h1, h2]) (nb_inv_eq (n := 2) rfl rfl rfl rfl rfl rfl (fun _ => h2) rfl)
theorem q_c_evening_1 (l0 : Int) (M : nb_M) (h1 : l0 ≠ 0) (h2 : (nb_rd M l0 6) ≠ 0) :
    nb_R nb_P 24 1 [(19, l0)] [] M = (nb_R nb_P 257 0 [(15, nb_rd M l0 6), (0, nb_rd M (nb_rd M l0 6) 8), (98, 0), (98, 0)] [] M).bind fun r => nb_R nb_P 24 2 [(19, l0)] (r.1 ++ []) r.2 :=
  nb_stepC (c := (((true && !decide ((l0 : Int) = 0)) && !decide ((l0 : Int) = 0)) && !decide ((nb_rd M l0 6 : Int) = 0))) (L2 := [(19, l0)]) (S2 := [(0, nb_rd M (nb_rd M l0 6) 8), (15, nb_rd M l0 6)]) (M2 := M) (t := 2) (cl := 257) (vi := true) rfl (by simp [h1, h2]) (nb_inv_eq (n := 2) rfl rfl rfl rfl rfl rfl (fun _ => h2) rfl)
theorem q_c_evening_2 (l0 : Int) (M : nb_M) (h1 : l0 ≠ 0) :
    nb_R nb_P 24 2 [(19, l0)] [] M = some ([(15, nb_rd M l0 6)], M) :=
  nb_step (c := (true && !decide ((l0 : Int) = 0))) rfl (by simp [h1])
theorem q_c_fate_0 (l0 l1 : Int) (M : nb_M) (h1 : l0 ≠ 0) :
    nb_R nb_P 25 0 [(19, l0), (0, l1)] [] M = (nb_R nb_P 9 0 [(19, l0), (0, l1)] [] M).bind fun r => nb_R nb_P 25 1 [(19, l0), (0, l1)] (r.1 ++ [(19, l0)]) r.2 :=
  nb_stepC (c := true) (L2 := [(19, l0), (0, l1)]) (S2 := [(0, l1), (19, l0), (19, l0)]) (M2 := M) (t := 1) (cl := 9) (vi := true) rfl rfl (nb_inv_eq (n := 2) rfl rfl rfl rfl rfl rfl (fun _ => h1) rfl)
theorem q_c_fate_1 (l0 l1 s0 s1 : Int) (M : nb_M) (h1 : s1 ≠ 0) :
    nb_R nb_P 25 1 [(19, l0), (0, l1)] [(0, s0), (19, s1)] M = (nb_R nb_P 7 0 [(19, s1), (0, s0), (0, 1)] [] M).bind fun r => nb_R nb_P 25 2 [(19, l0), (0, l1)] (r.1 ++ []) r.2 :=
  nb_stepC (c := true) (L2 := [(19, l0), (0, l1)]) (S2 := [(0, 1), (0, s0), (19, s1)]) (M2 := M) (t := 2) (cl := 7) (vi := true) rfl rfl (nb_inv_eq (n := 3) rfl rfl rfl rfl rfl rfl (fun _ => h1) rfl)
theorem q_c_fate_2 (l0 l1 s0 : Int) (M : nb_M) :
    nb_R nb_P 25 2 [(19, l0), (0, l1)] [(0, s0)] M = if s0 = 0 then nb_R nb_P 25 3 [(19, l0), (0, l1)] [] M else nb_R nb_P 25 4 [(19, l0), (0, l1)] [] M :=
  nb_step (c := true) rfl rfl
theorem q_c_fate_3 (v0 v1 : nb_V) (M : nb_M) :
    nb_R nb_P 25 3 [v0, v1] [] M = some ([(0, (-1))], M) :=
  nb_step (c := true) rfl rfl
theorem q_c_fate_4 (l0 l1 : Int) (M : nb_M) (h1 : l0 ≠ 0) :
    nb_R nb_P 25 4 [(19, l0), (0, l1)] [] M = (nb_R nb_P 24 0 [(19, l0)] [] M).bind fun r => nb_R nb_P 25 5 [(19, l0), (0, l1)] (r.1 ++ []) r.2 :=
  nb_stepC (c := true) (L2 := [(19, l0), (0, l1)]) (S2 := [(19, l0)]) (M2 := M) (t := 5) (cl := 24) (vi := true) rfl rfl (nb_inv_eq (n := 1) rfl rfl rfl rfl rfl rfl (fun _ => h1) rfl)
set_option maxRecDepth 10000 in
theorem q_c_fate_5 (l1 s0 : Int) (v0 : nb_V) (M : nb_M) (h1 : s0 ≠ 0) (h2 : (nb_rd M s0 0) ≠ 0) (h3 : (0 : Int) ≤ l1) (h4 : l1 < nb_ln M (nb_rd M s0 0)) (h5 : (nb_rd M (nb_rd M s0 0) l1) ≠ 0) :
    nb_R nb_P 25 5 [v0, (0, l1)] [(15, s0)] M = if nb_rd M (nb_rd M (nb_rd M s0 0) l1) 8 = 2 then nb_R nb_P 25 6 [v0, (0, l1)] [] M else if nb_rd M (nb_rd M (nb_rd M s0 0) l1) 8 = 3 then nb_R nb_P 25 7 [v0, (0, l1)] [] M else if nb_rd M (nb_rd M (nb_rd M s0 0) l1) 8 = 4 then nb_R nb_P 25 8 [v0, (0, l1)] [] M else if nb_rd M (nb_rd M (nb_rd M s0 0) l1) 8 = 5 then nb_R nb_P 25 9 [v0, (0, l1)] [] M else nb_R nb_P 25 10 [v0, (0, l1)] [] M :=
  nb_step (c := (((true && !decide ((s0 : Int) = 0)) && (!decide ((nb_rd M s0 0 : Int) = 0) && (decide ((0 : Int) ≤ l1) && decide (l1 < nb_ln M (nb_rd M s0 0))))) && !decide ((nb_rd M (nb_rd M s0 0) l1 : Int) = 0))) rfl (by simp [h1, h2, h3, h4, h5])
theorem q_c_fate_6 (v0 v1 : nb_V) (M : nb_M) :
    nb_R nb_P 25 6 [v0, v1] [] M = some ([(0, 0)], M) :=
  nb_step (c := true) rfl rfl
theorem q_c_fate_7 (v0 v1 : nb_V) (M : nb_M) :
    nb_R nb_P 25 7 [v0, v1] [] M = some ([(0, 1)], M) :=
  nb_step (c := true) rfl rfl
theorem q_c_fate_8 (v0 v1 : nb_V) (M : nb_M) :
    nb_R nb_P 25 8 [v0, v1] [] M = some ([(0, 2)], M) :=
  nb_step (c := true) rfl rfl
theorem q_c_fate_9 (v0 v1 : nb_V) (M : nb_M) :
    nb_R nb_P 25 9 [v0, v1] [] M = some ([(0, 4)], M) :=
  nb_step (c := true) rfl rfl
theorem q_c_fate_10 (v0 v1 : nb_V) (M : nb_M) :
    nb_R nb_P 25 10 [v0, v1] [] M = some ([(0, 3)], M) :=
  nb_step (c := true) rfl rfl
theorem q_c_waits_0 (l0 l1 : Int) (M : nb_M) (h1 : l0 ≠ 0) :
    nb_R nb_P 26 0 [(19, l0), (0, l1)] [] M = (nb_R nb_P 9 0 [(19, l0), (0, l1)] [] M).bind fun r => nb_R nb_P 26 1 [(19, l0), (0, l1)] (r.1 ++ [(19, l0)]) r.2 :=
  nb_stepC (c := true) (L2 := [(19, l0), (0, l1)]) (S2 := [(0, l1), (19, l0), (19, l0)]) (M2 := M) (t := 1) (cl := 9) (vi := true) rfl rfl (nb_inv_eq (n := 2) rfl rfl rfl rfl rfl rfl (fun _ => h1) rfl)
theorem q_c_waits_1 (l0 l1 s0 s1 : Int) (M : nb_M) (h1 : s1 ≠ 0) :
    nb_R nb_P 26 1 [(19, l0), (0, l1)] [(0, s0), (19, s1)] M = (nb_R nb_P 7 0 [(19, s1), (0, s0), (0, 1)] [] M).bind fun r => nb_R nb_P 26 2 [(19, l0), (0, l1)] (r.1 ++ []) r.2 :=
  nb_stepC (c := true) (L2 := [(19, l0), (0, l1)]) (S2 := [(0, 1), (0, s0), (19, s1)]) (M2 := M) (t := 2) (cl := 7) (vi := true) rfl rfl (nb_inv_eq (n := 3) rfl rfl rfl rfl rfl rfl (fun _ => h1) rfl)
theorem q_c_waits_2 (l0 l1 s0 : Int) (M : nb_M) :
    nb_R nb_P 26 2 [(19, l0), (0, l1)] [(0, s0)] M = if s0 = 0 then nb_R nb_P 26 3 [(19, l0), (0, l1)] [] M else nb_R nb_P 26 4 [(19, l0), (0, l1)] [] M :=
  nb_step (c := true) rfl rfl
theorem q_c_waits_3 (v0 v1 : nb_V) (M : nb_M) :
    nb_R nb_P 26 3 [v0, v1] [] M = some ([(0, (-1))], M) :=
  nb_step (c := true) rfl rfl
theorem q_c_waits_4 (l0 l1 : Int) (M : nb_M) (h1 : l0 ≠ 0) (h2 : (nb_rd M l0 5) ≠ 0) (h3 : (nb_rd M (nb_rd M l0 5) 0) ≠ 0) (h4 : (0 : Int) ≤ l1) (h5 : l1 < nb_ln M (nb_rd M (nb_rd M l0 5) 0)) (h6 : (nb_rd M (nb_rd M (nb_rd M l0 5) 0) l1) ≠ 0) :
    nb_R nb_P 26 4 [(19, l0), (0, l1)] [] M = if nb_rd M (nb_rd M (nb_rd M (nb_rd M l0 5) 0) l1) 8 = 5 then nb_R nb_P 26 5 [(19, l0), (0, l1)] [] M else nb_R nb_P 26 6 [(19, l0), (0, l1)] [] M :=
  nb_step (c := ((((true && !decide ((l0 : Int) = 0)) && !decide ((nb_rd M l0 5 : Int) = 0)) && (!decide ((nb_rd M (nb_rd M l0 5) 0 : Int) = 0) && (decide ((0 : Int) ≤ l1) && decide (l1 < nb_ln M (nb_rd M (nb_rd M l0 5) 0))))) && !decide ((nb_rd M (nb_rd M (nb_rd M l0 5) 0) l1 : Int) = 0))) rfl (by simp [h1, h2, h3, h4, h5, h6])
theorem q_c_waits_5 (v0 v1 : nb_V) (M : nb_M) :
    nb_R nb_P 26 5 [v0, v1] [] M = nb_R nb_P 26 8 [v0, v1] [(0, (-2))] M :=
  nb_step (c := true) rfl rfl
theorem q_c_waits_6 (l0 l1 : Int) (M : nb_M) (h1 : l0 ≠ 0) :
    nb_R nb_P 26 6 [(19, l0), (0, l1)] [] M = (nb_R nb_P 24 0 [(19, l0)] [] M).bind fun r => nb_R nb_P 26 7 [(19, l0), (0, l1)] (r.1 ++ []) r.2 :=
  nb_stepC (c := true) (L2 := [(19, l0), (0, l1)]) (S2 := [(19, l0)]) (M2 := M) (t := 7) (cl := 24) (vi := true) rfl rfl (nb_inv_eq (n := 1) rfl rfl rfl rfl rfl rfl (fun _ => h1) rfl)
theorem q_c_waits_7 (l1 s0 : Int) (v0 : nb_V) (M : nb_M) (h1 : s0 ≠ 0) :
    nb_R nb_P 26 7 [v0, (0, l1)] [(15, s0)] M = (nb_R nb_P 266 0 [(15, s0), (0, l1), (98, 0)] [] M).bind fun r => nb_R nb_P 26 8 [v0, (0, l1)] (r.1 ++ []) r.2 :=
  nb_stepC (c := true) (L2 := [v0, (0, l1)]) (S2 := [(0, l1), (15, s0)]) (M2 := M) (t := 8) (cl := 266) (vi := true) rfl rfl (nb_inv_eq (n := 2) rfl rfl rfl rfl rfl rfl (fun _ => h1) rfl)
theorem q_c_waits_8 (s0 : Int) (v0 v1 : nb_V) (M : nb_M) :
    nb_R nb_P 26 8 [v0, v1] [(0, s0)] M = some ([(0, s0)], M) :=
  nb_step (c := true) rfl rfl
theorem q_c_whom_0 (l0 l1 : Int) (M : nb_M) (h1 : l0 ≠ 0) :
    nb_R nb_P 27 0 [(19, l0), (0, l1)] [] M = (nb_R nb_P 9 0 [(19, l0), (0, l1)] [] M).bind fun r => nb_R nb_P 27 1 [(19, l0), (0, l1)] (r.1 ++ [(19, l0)]) r.2 :=
  nb_stepC (c := true) (L2 := [(19, l0), (0, l1)]) (S2 := [(0, l1), (19, l0), (19, l0)]) (M2 := M) (t := 1) (cl := 9) (vi := true) rfl rfl (nb_inv_eq (n := 2) rfl rfl rfl rfl rfl rfl (fun _ => h1) rfl)
theorem q_c_whom_1 (l0 l1 s0 s1 : Int) (M : nb_M) (h1 : s1 ≠ 0) :
    nb_R nb_P 27 1 [(19, l0), (0, l1)] [(0, s0), (19, s1)] M = (nb_R nb_P 7 0 [(19, s1), (0, s0), (0, 1)] [] M).bind fun r => nb_R nb_P 27 2 [(19, l0), (0, l1)] (r.1 ++ []) r.2 :=
  nb_stepC (c := true) (L2 := [(19, l0), (0, l1)]) (S2 := [(0, 1), (0, s0), (19, s1)]) (M2 := M) (t := 2) (cl := 7) (vi := true) rfl rfl (nb_inv_eq (n := 3) rfl rfl rfl rfl rfl rfl (fun _ => h1) rfl)
theorem q_c_whom_2 (l0 l1 s0 : Int) (M : nb_M) :
    nb_R nb_P 27 2 [(19, l0), (0, l1)] [(0, s0)] M = if s0 = 0 then nb_R nb_P 27 5 [(19, l0), (0, l1)] [] M else nb_R nb_P 27 3 [(19, l0), (0, l1)] [] M :=
  nb_step (c := true) rfl rfl
theorem q_c_whom_3 (l0 l1 : Int) (M : nb_M) (h1 : l0 ≠ 0) :
    nb_R nb_P 27 3 [(19, l0), (0, l1)] [] M = (nb_R nb_P 24 0 [(19, l0)] [] M).bind fun r => nb_R nb_P 27 4 [(19, l0), (0, l1)] (r.1 ++ []) r.2 :=
  nb_stepC (c := true) (L2 := [(19, l0), (0, l1)]) (S2 := [(19, l0)]) (M2 := M) (t := 4) (cl := 24) (vi := true) rfl rfl (nb_inv_eq (n := 1) rfl rfl rfl rfl rfl rfl (fun _ => h1) rfl)
theorem q_c_whom_4 (l1 s0 : Int) (v0 : nb_V) (M : nb_M) (h1 : s0 ≠ 0) (h2 : (nb_rd M s0 0) ≠ 0) (h3 : (0 : Int) ≤ l1) (h4 : l1 < nb_ln M (nb_rd M s0 0)) (h5 : (nb_rd M (nb_rd M s0 0) l1) ≠ 0) :
    nb_R nb_P 27 4 [v0, (0, l1)] [(15, s0)] M = nb_R nb_P 27 6 [v0, (0, l1)] [(0, nb_rd M (nb_rd M (nb_rd M s0 0) l1) 12)] M :=
  nb_step (c := (((true && !decide ((s0 : Int) = 0)) && (!decide ((nb_rd M s0 0 : Int) = 0) && (decide ((0 : Int) ≤ l1) && decide (l1 < nb_ln M (nb_rd M s0 0))))) && !decide ((nb_rd M (nb_rd M s0 0) l1 : Int) = 0))) rfl (by simp [h1, h2, h3, h4, h5])
theorem q_c_whom_5 (v0 v1 : nb_V) (M : nb_M) :
    nb_R nb_P 27 5 [v0, v1] [] M = nb_R nb_P 27 6 [v0, v1] [(0, (-1))] M :=
  nb_step (c := true) rfl rfl
theorem q_c_whom_6 (s0 : Int) (v0 v1 : nb_V) (M : nb_M) :
    nb_R nb_P 27 6 [v0, v1] [(0, s0)] M = some ([(0, s0)], M) :=
  nb_step (c := true) rfl rfl
theorem q_c_has_0 (l0 l1 : Int) (M : nb_M) (h1 : l0 ≠ 0) :
    nb_R nb_P 28 0 [(19, l0), (0, l1)] [] M = (nb_R nb_P 9 0 [(19, l0), (0, l1)] [] M).bind fun r => nb_R nb_P 28 1 [(19, l0), (0, l1)] (r.1 ++ [(19, l0)]) r.2 :=
  nb_stepC (c := true) (L2 := [(19, l0), (0, l1)]) (S2 := [(0, l1), (19, l0), (19, l0)]) (M2 := M) (t := 1) (cl := 9) (vi := true) rfl rfl (nb_inv_eq (n := 2) rfl rfl rfl rfl rfl rfl (fun _ => h1) rfl)
theorem q_c_has_1 (l0 l1 s0 s1 : Int) (M : nb_M) (h1 : s1 ≠ 0) :
    nb_R nb_P 28 1 [(19, l0), (0, l1)] [(0, s0), (19, s1)] M = (nb_R nb_P 7 0 [(19, s1), (0, s0), (0, 1)] [] M).bind fun r => nb_R nb_P 28 2 [(19, l0), (0, l1)] (r.1 ++ []) r.2 :=
  nb_stepC (c := true) (L2 := [(19, l0), (0, l1)]) (S2 := [(0, 1), (0, s0), (19, s1)]) (M2 := M) (t := 2) (cl := 7) (vi := true) rfl rfl (nb_inv_eq (n := 3) rfl rfl rfl rfl rfl rfl (fun _ => h1) rfl)
theorem q_c_has_2 (l0 l1 s0 : Int) (M : nb_M) :
    nb_R nb_P 28 2 [(19, l0), (0, l1)] [(0, s0)] M = if s0 = 0 then nb_R nb_P 28 5 [(19, l0), (0, l1)] [] M else nb_R nb_P 28 3 [(19, l0), (0, l1)] [] M :=
  nb_step (c := true) rfl rfl
theorem q_c_has_3 (l0 l1 : Int) (M : nb_M) (h1 : l0 ≠ 0) :
    nb_R nb_P 28 3 [(19, l0), (0, l1)] [] M = (nb_R nb_P 24 0 [(19, l0)] [] M).bind fun r => nb_R nb_P 28 4 [(19, l0), (0, l1)] (r.1 ++ []) r.2 :=
  nb_stepC (c := true) (L2 := [(19, l0), (0, l1)]) (S2 := [(19, l0)]) (M2 := M) (t := 4) (cl := 24) (vi := true) rfl rfl (nb_inv_eq (n := 1) rfl rfl rfl rfl rfl rfl (fun _ => h1) rfl)
theorem q_c_has_4 (l1 s0 : Int) (v0 : nb_V) (M : nb_M) (h1 : s0 ≠ 0) (h2 : (nb_rd M s0 0) ≠ 0) (h3 : (0 : Int) ≤ l1) (h4 : l1 < nb_ln M (nb_rd M s0 0)) (h5 : (nb_rd M (nb_rd M s0 0) l1) ≠ 0) :
    nb_R nb_P 28 4 [v0, (0, l1)] [(15, s0)] M = nb_R nb_P 28 6 [v0, (0, l1)] [(0, nb_rd M (nb_rd M (nb_rd M s0 0) l1) 10)] M :=
  nb_step (c := (((true && !decide ((s0 : Int) = 0)) && (!decide ((nb_rd M s0 0 : Int) = 0) && (decide ((0 : Int) ≤ l1) && decide (l1 < nb_ln M (nb_rd M s0 0))))) && !decide ((nb_rd M (nb_rd M s0 0) l1 : Int) = 0))) rfl (by simp [h1, h2, h3, h4, h5])
theorem q_c_has_5 (v0 v1 : nb_V) (M : nb_M) :
    nb_R nb_P 28 5 [v0, v1] [] M = nb_R nb_P 28 6 [v0, v1] [(0, (-1))] M :=
  nb_step (c := true) rfl rfl
theorem q_c_has_6 (s0 : Int) (v0 v1 : nb_V) (M : nb_M) :
    nb_R nb_P 28 6 [v0, v1] [(0, s0)] M = some ([(0, s0)], M) :=
  nb_step (c := true) rfl rfl
theorem q_c_passed_0 (l0 l1 : Int) (M : nb_M) (h1 : l0 ≠ 0) :
    nb_R nb_P 29 0 [(19, l0), (0, l1)] [] M = (nb_R nb_P 9 0 [(19, l0), (0, l1)] [] M).bind fun r => nb_R nb_P 29 1 [(19, l0), (0, l1)] (r.1 ++ [(19, l0)]) r.2 :=
  nb_stepC (c := true) (L2 := [(19, l0), (0, l1)]) (S2 := [(0, l1), (19, l0), (19, l0)]) (M2 := M) (t := 1) (cl := 9) (vi := true) rfl rfl (nb_inv_eq (n := 2) rfl rfl rfl rfl rfl rfl (fun _ => h1) rfl)
theorem q_c_passed_1 (l0 l1 s0 s1 : Int) (M : nb_M) (h1 : s1 ≠ 0) :
    nb_R nb_P 29 1 [(19, l0), (0, l1)] [(0, s0), (19, s1)] M = (nb_R nb_P 7 0 [(19, s1), (0, s0), (0, 1)] [] M).bind fun r => nb_R nb_P 29 2 [(19, l0), (0, l1)] (r.1 ++ []) r.2 :=
  nb_stepC (c := true) (L2 := [(19, l0), (0, l1)]) (S2 := [(0, 1), (0, s0), (19, s1)]) (M2 := M) (t := 2) (cl := 7) (vi := true) rfl rfl (nb_inv_eq (n := 3) rfl rfl rfl rfl rfl rfl (fun _ => h1) rfl)
theorem q_c_passed_2 (l0 l1 s0 : Int) (M : nb_M) :
    nb_R nb_P 29 2 [(19, l0), (0, l1)] [(0, s0)] M = if s0 = 0 then nb_R nb_P 29 5 [(19, l0), (0, l1)] [] M else nb_R nb_P 29 3 [(19, l0), (0, l1)] [] M :=
  nb_step (c := true) rfl rfl
theorem q_c_passed_3 (l0 l1 : Int) (M : nb_M) (h1 : l0 ≠ 0) :
    nb_R nb_P 29 3 [(19, l0), (0, l1)] [] M = (nb_R nb_P 24 0 [(19, l0)] [] M).bind fun r => nb_R nb_P 29 4 [(19, l0), (0, l1)] (r.1 ++ []) r.2 :=
  nb_stepC (c := true) (L2 := [(19, l0), (0, l1)]) (S2 := [(19, l0)]) (M2 := M) (t := 4) (cl := 24) (vi := true) rfl rfl (nb_inv_eq (n := 1) rfl rfl rfl rfl rfl rfl (fun _ => h1) rfl)
theorem q_c_passed_4 (l1 s0 : Int) (v0 : nb_V) (M : nb_M) (h1 : s0 ≠ 0) (h2 : (nb_rd M s0 0) ≠ 0) (h3 : (0 : Int) ≤ l1) (h4 : l1 < nb_ln M (nb_rd M s0 0)) (h5 : (nb_rd M (nb_rd M s0 0) l1) ≠ 0) :
    nb_R nb_P 29 4 [v0, (0, l1)] [(15, s0)] M = nb_R nb_P 29 6 [v0, (0, l1)] [(0, nb_rd M (nb_rd M (nb_rd M s0 0) l1) 13)] M :=
  nb_step (c := (((true && !decide ((s0 : Int) = 0)) && (!decide ((nb_rd M s0 0 : Int) = 0) && (decide ((0 : Int) ≤ l1) && decide (l1 < nb_ln M (nb_rd M s0 0))))) && !decide ((nb_rd M (nb_rd M s0 0) l1 : Int) = 0))) rfl (by simp [h1, h2, h3, h4, h5])
theorem q_c_passed_5 (v0 v1 : nb_V) (M : nb_M) :
    nb_R nb_P 29 5 [v0, v1] [] M = nb_R nb_P 29 6 [v0, v1] [(0, (-1))] M :=
  nb_step (c := true) rfl rfl
theorem q_c_passed_6 (s0 : Int) (v0 v1 : nb_V) (M : nb_M) :
    nb_R nb_P 29 6 [v0, v1] [(0, s0)] M = some ([(0, s0)], M) :=
  nb_step (c := true) rfl rfl
theorem q_c_pushed_0 (l0 l1 : Int) (M : nb_M) (h1 : l0 ≠ 0) :
    nb_R nb_P 30 0 [(19, l0), (0, l1)] [] M = (nb_R nb_P 9 0 [(19, l0), (0, l1)] [] M).bind fun r => nb_R nb_P 30 1 [(19, l0), (0, l1)] (r.1 ++ [(19, l0)]) r.2 :=
  nb_stepC (c := true) (L2 := [(19, l0), (0, l1)]) (S2 := [(0, l1), (19, l0), (19, l0)]) (M2 := M) (t := 1) (cl := 9) (vi := true) rfl rfl (nb_inv_eq (n := 2) rfl rfl rfl rfl rfl rfl (fun _ => h1) rfl)
theorem q_c_pushed_1 (l0 l1 s0 s1 : Int) (M : nb_M) (h1 : s1 ≠ 0) :
    nb_R nb_P 30 1 [(19, l0), (0, l1)] [(0, s0), (19, s1)] M = (nb_R nb_P 7 0 [(19, s1), (0, s0), (0, 1)] [] M).bind fun r => nb_R nb_P 30 2 [(19, l0), (0, l1)] (r.1 ++ []) r.2 :=
  nb_stepC (c := true) (L2 := [(19, l0), (0, l1)]) (S2 := [(0, 1), (0, s0), (19, s1)]) (M2 := M) (t := 2) (cl := 7) (vi := true) rfl rfl (nb_inv_eq (n := 3) rfl rfl rfl rfl rfl rfl (fun _ => h1) rfl)
theorem q_c_pushed_2 (l0 l1 s0 : Int) (M : nb_M) :
    nb_R nb_P 30 2 [(19, l0), (0, l1)] [(0, s0)] M = if s0 = 0 then nb_R nb_P 30 5 [(19, l0), (0, l1)] [] M else nb_R nb_P 30 3 [(19, l0), (0, l1)] [] M :=
  nb_step (c := true) rfl rfl
theorem q_c_pushed_3 (l0 l1 : Int) (M : nb_M) (h1 : l0 ≠ 0) :
    nb_R nb_P 30 3 [(19, l0), (0, l1)] [] M = (nb_R nb_P 24 0 [(19, l0)] [] M).bind fun r => nb_R nb_P 30 4 [(19, l0), (0, l1)] (r.1 ++ []) r.2 :=
  nb_stepC (c := true) (L2 := [(19, l0), (0, l1)]) (S2 := [(19, l0)]) (M2 := M) (t := 4) (cl := 24) (vi := true) rfl rfl (nb_inv_eq (n := 1) rfl rfl rfl rfl rfl rfl (fun _ => h1) rfl)
theorem q_c_pushed_4 (l1 s0 : Int) (v0 : nb_V) (M : nb_M) (h1 : s0 ≠ 0) (h2 : (nb_rd M s0 0) ≠ 0) (h3 : (0 : Int) ≤ l1) (h4 : l1 < nb_ln M (nb_rd M s0 0)) (h5 : (nb_rd M (nb_rd M s0 0) l1) ≠ 0) :
    nb_R nb_P 30 4 [v0, (0, l1)] [(15, s0)] M = nb_R nb_P 30 6 [v0, (0, l1)] [(0, nb_rd M (nb_rd M (nb_rd M s0 0) l1) 14)] M :=
  nb_step (c := (((true && !decide ((s0 : Int) = 0)) && (!decide ((nb_rd M s0 0 : Int) = 0) && (decide ((0 : Int) ≤ l1) && decide (l1 < nb_ln M (nb_rd M s0 0))))) && !decide ((nb_rd M (nb_rd M s0 0) l1 : Int) = 0))) rfl (by simp [h1, h2, h3, h4, h5])
theorem q_c_pushed_5 (v0 v1 : nb_V) (M : nb_M) :
    nb_R nb_P 30 5 [v0, v1] [] M = nb_R nb_P 30 6 [v0, v1] [(0, (-1))] M :=
  nb_step (c := true) rfl rfl
theorem q_c_pushed_6 (s0 : Int) (v0 v1 : nb_V) (M : nb_M) :
    nb_R nb_P 30 6 [v0, v1] [(0, s0)] M = some ([(0, s0)], M) :=
  nb_step (c := true) rfl rfl
theorem q_c_sum_0 (l0 l1 : Int) (M : nb_M) (h1 : l0 ≠ 0) :
    nb_R nb_P 31 0 [(19, l0), (0, l1)] [] M = (nb_R nb_P 13 0 [(19, l0), (0, l1)] [] M).bind fun r => nb_R nb_P 31 1 [(19, l0), (0, l1)] (r.1 ++ [(19, l0)]) r.2 :=
  nb_stepC (c := true) (L2 := [(19, l0), (0, l1)]) (S2 := [(0, l1), (19, l0), (19, l0)]) (M2 := M) (t := 1) (cl := 13) (vi := true) rfl rfl (nb_inv_eq (n := 2) rfl rfl rfl rfl rfl rfl (fun _ => h1) rfl)
theorem q_c_sum_1 (l0 l1 s0 s1 : Int) (M : nb_M) (h1 : s1 ≠ 0) :
    nb_R nb_P 31 1 [(19, l0), (0, l1)] [(0, s0), (19, s1)] M = (nb_R nb_P 7 0 [(19, s1), (0, s0), (0, 1)] [] M).bind fun r => nb_R nb_P 31 2 [(19, l0), (0, l1)] (r.1 ++ []) r.2 :=
  nb_stepC (c := true) (L2 := [(19, l0), (0, l1)]) (S2 := [(0, 1), (0, s0), (19, s1)]) (M2 := M) (t := 2) (cl := 7) (vi := true) rfl rfl (nb_inv_eq (n := 3) rfl rfl rfl rfl rfl rfl (fun _ => h1) rfl)
theorem q_c_sum_2 (l0 l1 s0 : Int) (M : nb_M) :
    nb_R nb_P 31 2 [(19, l0), (0, l1)] [(0, s0)] M = if s0 = 0 then nb_R nb_P 31 6 [(19, l0), (0, l1)] [] M else nb_R nb_P 31 3 [(19, l0), (0, l1)] [] M :=
  nb_step (c := true) rfl rfl
theorem q_c_sum_3 (l0 l1 : Int) (M : nb_M) (h1 : l0 ≠ 0) :
    nb_R nb_P 31 3 [(19, l0), (0, l1)] [] M = (nb_R nb_P 24 0 [(19, l0)] [] M).bind fun r => nb_R nb_P 31 4 [(19, l0), (0, l1)] (r.1 ++ []) r.2 :=
  nb_stepC (c := true) (L2 := [(19, l0), (0, l1)]) (S2 := [(19, l0)]) (M2 := M) (t := 4) (cl := 24) (vi := true) rfl rfl (nb_inv_eq (n := 1) rfl rfl rfl rfl rfl rfl (fun _ => h1) rfl)
theorem q_c_sum_4 (l1 s0 : Int) (v0 : nb_V) (M : nb_M) (h1 : s0 ≠ 0) :
    nb_R nb_P 31 4 [v0, (0, l1)] [(15, s0)] M = (nb_R nb_P 268 0 [(15, s0), (0, l1)] [] M).bind fun r => nb_R nb_P 31 5 [v0, (0, l1)] (r.1 ++ []) r.2 :=
  nb_stepC (c := true) (L2 := [v0, (0, l1)]) (S2 := [(0, l1), (15, s0)]) (M2 := M) (t := 5) (cl := 268) (vi := true) rfl rfl (nb_inv_eq (n := 2) rfl rfl rfl rfl rfl rfl (fun _ => h1) rfl)
theorem q_c_sum_5 (s0 : Int) (v0 v1 : nb_V) (M : nb_M) :
    nb_R nb_P 31 5 [v0, v1] [(0, s0)] M = nb_R nb_P 31 7 [v0, v1] [(0, s0)] M :=
  nb_step (c := true) rfl rfl
theorem q_c_sum_6 (v0 v1 : nb_V) (M : nb_M) :
    nb_R nb_P 31 6 [v0, v1] [] M = nb_R nb_P 31 7 [v0, v1] [(0, (-1))] M :=
  nb_step (c := true) rfl rfl
theorem q_c_sum_7 (s0 : Int) (v0 v1 : nb_V) (M : nb_M) :
    nb_R nb_P 31 7 [v0, v1] [(0, s0)] M = some ([(0, s0)], M) :=
  nb_step (c := true) rfl rfl
theorem q_c_served_0 (l0 l1 : Int) (v2 : nb_V) (M : nb_M) (h1 : l0 ≠ 0) :
    nb_R nb_P 32 0 [(19, l0), (0, l1), v2] [] M = (nb_R nb_P 24 0 [(19, l0)] [] M).bind fun r => nb_R nb_P 32 1 [(19, l0), (0, l1), v2] (r.1 ++ []) r.2 :=
  nb_stepC (c := true) (L2 := [(19, l0), (0, l1), v2]) (S2 := [(19, l0)]) (M2 := M) (t := 1) (cl := 24) (vi := true) rfl rfl (nb_inv_eq (n := 1) rfl rfl rfl rfl rfl rfl (fun _ => h1) rfl)
theorem q_c_served_1 (l0 l1 s0 : Int) (v2 : nb_V) (M : nb_M) :
    nb_R nb_P 32 1 [(19, l0), (0, l1), v2] [(15, s0)] M = if l1 < 0 then nb_R nb_P 32 5 [(19, l0), (0, l1), (15, s0)] [(19, l0)] M else nb_R nb_P 32 2 [(19, l0), (0, l1), (15, s0)] [(19, l0)] M :=
  nb_step (c := true) rfl rfl
theorem q_c_served_2 (l1 l2 s0 : Int) (v0 : nb_V) (M : nb_M) (h1 : l2 ≠ 0) :
    nb_R nb_P 32 2 [v0, (0, l1), (15, l2)] [(19, s0)] M = if l1 < nb_rd M l2 6 then nb_R nb_P 32 3 [v0, (0, l1), (15, l2)] [(19, s0)] M else nb_R nb_P 32 5 [v0, (0, l1), (15, l2)] [(19, s0)] M :=
  nb_step (c := (true && !decide ((l2 : Int) = 0))) rfl (by simp [h1])
theorem q_c_served_3 (l1 l2 s0 : Int) (v0 : nb_V) (M : nb_M) :
    nb_R nb_P 32 3 [v0, (0, l1), (15, l2)] [(19, s0)] M = if l1 < 10 then nb_R nb_P 32 4 [v0, (0, l1), (15, l2)] [(19, s0)] M else nb_R nb_P 32 5 [v0, (0, l1), (15, l2)] [(19, s0)] M :=
  nb_step (c := true) rfl rfl
theorem q_c_served_4 (l1 l2 s0 : Int) (v0 : nb_V) (M : nb_M) :
    nb_R nb_P 32 4 [v0, (0, l1), (15, l2)] [(19, s0)] M = nb_R nb_P 32 6 [v0, (0, l1), (15, l2)] [(0, 1), (19, s0)] M :=
  nb_step (c := true) rfl rfl
theorem q_c_served_5 (l1 l2 s0 : Int) (v0 : nb_V) (M : nb_M) :
    nb_R nb_P 32 5 [v0, (0, l1), (15, l2)] [(19, s0)] M = nb_R nb_P 32 6 [v0, (0, l1), (15, l2)] [(0, 0), (19, s0)] M :=
  nb_step (c := true) rfl rfl
theorem q_c_served_6 (l1 l2 s0 s1 : Int) (v0 : nb_V) (M : nb_M) (h1 : s1 ≠ 0) :
    nb_R nb_P 32 6 [v0, (0, l1), (15, l2)] [(0, s0), (19, s1)] M = (nb_R nb_P 7 0 [(19, s1), (0, s0), (0, 1)] [] M).bind fun r => nb_R nb_P 32 7 [v0, (0, l1), (15, l2)] (r.1 ++ []) r.2 :=
  nb_stepC (c := true) (L2 := [v0, (0, l1), (15, l2)]) (S2 := [(0, 1), (0, s0), (19, s1)]) (M2 := M) (t := 7) (cl := 7) (vi := true) rfl rfl (nb_inv_eq (n := 3) rfl rfl rfl rfl rfl rfl (fun _ => h1) rfl)
theorem q_c_served_7 (l1 l2 s0 : Int) (v0 : nb_V) (M : nb_M) :
    nb_R nb_P 32 7 [v0, (0, l1), (15, l2)] [(0, s0)] M = if s0 = 0 then nb_R nb_P 32 8 [v0, (0, l1), (15, l2)] [] M else nb_R nb_P 32 9 [v0, (0, l1), (15, l2)] [] M :=
  nb_step (c := true) rfl rfl
theorem q_c_served_8 (v0 v1 v2 : nb_V) (M : nb_M) :
    nb_R nb_P 32 8 [v0, v1, v2] [] M = some ([(0, (-1))], M) :=
  nb_step (c := true) rfl rfl
theorem q_c_served_9 (l1 l2 : Int) (v0 : nb_V) (M : nb_M) (h1 : l2 ≠ 0) (h2 : (nb_rd M l2 2) ≠ 0) (h3 : (0 : Int) ≤ l1) (h4 : l1 < nb_ln M (nb_rd M l2 2)) :
    nb_R nb_P 32 9 [v0, (0, l1), (15, l2)] [] M = some ([(0, nb_rd M (nb_rd M l2 2) l1)], M) :=
  nb_step (c := ((true && !decide ((l2 : Int) = 0)) && (!decide ((nb_rd M l2 2 : Int) = 0) && (decide ((0 : Int) ≤ l1) && decide (l1 < nb_ln M (nb_rd M l2 2)))))) rfl (by simp [h1, h2, h3, h4])
theorem q_c_by_0 (l0 l1 l2 l3 : Int) (M : nb_M) (h1 : l0 ≠ 0) :
    nb_R nb_P 33 0 [(19, l0), (0, l1), (0, l2), (0, l3)] [] M = (nb_R nb_P 13 0 [(19, l0), (0, l3)] [] M).bind fun r => nb_R nb_P 33 1 [(19, l0), (0, l1), (0, l2), (0, l3)] (r.1 ++ [(19, l0)]) r.2 :=
  nb_stepC (c := true) (L2 := [(19, l0), (0, l1), (0, l2), (0, l3)]) (S2 := [(0, l3), (19, l0), (19, l0)]) (M2 := M) (t := 1) (cl := 13) (vi := true) rfl rfl (nb_inv_eq (n := 2) rfl rfl rfl rfl rfl rfl (fun _ => h1) rfl)
theorem q_c_by_1 (l0 l1 l2 l3 s0 s1 : Int) (M : nb_M) :
    nb_R nb_P 33 1 [(19, l0), (0, l1), (0, l2), (0, l3)] [(0, s0), (19, s1)] M = if s0 = 0 then nb_R nb_P 33 5 [(19, l0), (0, l1), (0, l2), (0, l3)] [(19, s1)] M else nb_R nb_P 33 2 [(19, l0), (0, l1), (0, l2), (0, l3)] [(19, s1)] M :=
  nb_step (c := true) rfl rfl
theorem q_c_by_2 (l0 l1 l2 l3 s0 : Int) (M : nb_M) :
    nb_R nb_P 33 2 [(19, l0), (0, l1), (0, l2), (0, l3)] [(19, s0)] M = if l1 < 0 then nb_R nb_P 33 5 [(19, l0), (0, l1), (0, l2), (0, l3)] [(19, s0)] M else nb_R nb_P 33 3 [(19, l0), (0, l1), (0, l2), (0, l3)] [(19, s0)] M :=
  nb_step (c := true) rfl rfl
theorem q_c_by_3 (l0 l1 l2 l3 s0 : Int) (M : nb_M) :
    nb_R nb_P 33 3 [(19, l0), (0, l1), (0, l2), (0, l3)] [(19, s0)] M = if l1 < 5 then nb_R nb_P 33 4 [(19, l0), (0, l1), (0, l2), (0, l3)] [(19, s0)] M else nb_R nb_P 33 5 [(19, l0), (0, l1), (0, l2), (0, l3)] [(19, s0)] M :=
  nb_step (c := true) rfl rfl
theorem q_c_by_4 (l0 l1 l2 l3 s0 : Int) (M : nb_M) :
    nb_R nb_P 33 4 [(19, l0), (0, l1), (0, l2), (0, l3)] [(19, s0)] M = nb_R nb_P 33 6 [(19, l0), (0, l1), (0, l2), (0, l3)] [(0, 1), (19, s0)] M :=
  nb_step (c := true) rfl rfl
theorem q_c_by_5 (l0 l1 l2 l3 s0 : Int) (M : nb_M) :
    nb_R nb_P 33 5 [(19, l0), (0, l1), (0, l2), (0, l3)] [(19, s0)] M = nb_R nb_P 33 6 [(19, l0), (0, l1), (0, l2), (0, l3)] [(0, 0), (19, s0)] M :=
  nb_step (c := true) rfl rfl
theorem q_c_by_6 (l0 l1 l2 l3 s0 s1 : Int) (M : nb_M) (h1 : s1 ≠ 0) :
    nb_R nb_P 33 6 [(19, l0), (0, l1), (0, l2), (0, l3)] [(0, s0), (19, s1)] M = (nb_R nb_P 7 0 [(19, s1), (0, s0), (0, 1)] [] M).bind fun r => nb_R nb_P 33 7 [(19, l0), (0, l1), (0, l2), (0, l3)] (r.1 ++ []) r.2 :=
  nb_stepC (c := true) (L2 := [(19, l0), (0, l1), (0, l2), (0, l3)]) (S2 := [(0, 1), (0, s0), (19, s1)]) (M2 := M) (t := 7) (cl := 7) (vi := true) rfl rfl (nb_inv_eq (n := 3) rfl rfl rfl rfl rfl rfl (fun _ => h1) rfl)
theorem q_c_by_7 (l0 l1 l2 l3 s0 : Int) (M : nb_M) :
    nb_R nb_P 33 7 [(19, l0), (0, l1), (0, l2), (0, l3)] [(0, s0)] M = if s0 = 0 then nb_R nb_P 33 8 [(19, l0), (0, l1), (0, l2), (0, l3)] [] M else nb_R nb_P 33 9 [(19, l0), (0, l1), (0, l2), (0, l3)] [] M :=
  nb_step (c := true) rfl rfl
theorem q_c_by_8 (v0 v1 v2 v3 : nb_V) (M : nb_M) :
    nb_R nb_P 33 8 [v0, v1, v2, v3] [] M = some ([(0, (-1))], M) :=
  nb_step (c := true) rfl rfl
theorem q_c_by_9 (l0 l1 l2 l3 : Int) (M : nb_M) (h1 : l0 ≠ 0) :
    nb_R nb_P 33 9 [(19, l0), (0, l1), (0, l2), (0, l3)] [] M = (nb_R nb_P 34 0 [(19, l0), (0, l1), (0, l2), (0, l3), (98, 0), (98, 0)] [] M).bind fun r => nb_R nb_P 33 10 [(19, l0), (0, l1), (0, l2), (0, l3)] (r.1 ++ []) r.2 :=
  nb_stepC (c := true) (L2 := [(19, l0), (0, l1), (0, l2), (0, l3)]) (S2 := [(0, l3), (0, l2), (0, l1), (19, l0)]) (M2 := M) (t := 10) (cl := 34) (vi := true) rfl rfl (nb_inv_eq (n := 4) rfl rfl rfl rfl rfl rfl (fun _ => h1) rfl)
theorem q_c_by_10 (s0 : Int) (v0 v1 v2 v3 : nb_V) (M : nb_M) :
    nb_R nb_P 33 10 [v0, v1, v2, v3] [(0, s0)] M = some ([(0, s0)], M) :=
  nb_step (c := true) rfl rfl
theorem q_c_totalBy_0 (l0 l1 l2 l3 : Int) (v4 v5 : nb_V) (M : nb_M) (h1 : l0 ≠ 0) :
    nb_R nb_P 34 0 [(19, l0), (0, l1), (0, l2), (0, l3), v4, v5] [] M = (nb_R nb_P 23 0 [(19, l0)] [] M).bind fun r => nb_R nb_P 34 1 [(19, l0), (0, l1), (0, l2), (0, l3), v4, v5] (r.1 ++ []) r.2 :=
  nb_stepC (c := true) (L2 := [(19, l0), (0, l1), (0, l2), (0, l3), v4, v5]) (S2 := [(19, l0)]) (M2 := M) (t := 1) (cl := 23) (vi := true) rfl rfl (nb_inv_eq (n := 1) rfl rfl rfl rfl rfl rfl (fun _ => h1) rfl)
theorem q_c_totalBy_1 (l0 l1 l2 l3 s0 : Int) (v4 v5 : nb_V) (M : nb_M) :
    nb_R nb_P 34 1 [(19, l0), (0, l1), (0, l2), (0, l3), v4, v5] [(15, s0)] M = nb_R nb_P 34 2 [(19, l0), (0, l1), (0, l2), (0, l3), (15, s0), (0, 0)] [] M :=
  nb_step (c := true) rfl rfl
theorem q_c_totalBy_2 (l0 l1 l2 l3 l4 l5 : Int) (M : nb_M) (h1 : l0 ≠ 0) (h2 : (nb_rd M l0 2) ≠ 0) :
    nb_R nb_P 34 2 [(19, l0), (0, l1), (0, l2), (0, l3), (15, l4), (0, l5)] [] M = if l5 < nb_rd M (nb_rd M l0 2) 12 then nb_R nb_P 34 3 [(19, l0), (0, l1), (0, l2), (0, l3), (15, l4), (0, l5)] [] M else nb_R nb_P 34 7 [(19, l0), (0, l1), (0, l2), (0, l3), (15, l4), (0, l5)] [] M :=
  nb_step (c := ((true && !decide ((l0 : Int) = 0)) && !decide ((nb_rd M l0 2 : Int) = 0))) rfl (by simp [h1, h2])
theorem q_c_totalBy_3 (l0 l1 l2 l3 l4 l5 : Int) (M : nb_M) (h1 : l4 ≠ 0) (h2 : (nb_rd M l4 1) ≠ 0) (h3 : (0 : Int) ≤ l5) (h4 : l5 < nb_ln M (nb_rd M l4 1)) (h5 : (nb_rd M (nb_rd M l4 1) l5) ≠ 0) :
    nb_R nb_P 34 3 [(19, l0), (0, l1), (0, l2), (0, l3), (15, l4), (0, l5)] [] M = nb_R nb_P 34 4 [(19, l0), (0, l1), (0, l2), (0, l3), (15, l4), (0, l5)] [] (nb_wr M (nb_rd M (nb_rd M l4 1) l5) 1 l1) :=
  nb_step (c := (((true && !decide ((l4 : Int) = 0)) && (!decide ((nb_rd M l4 1 : Int) = 0) && (decide ((0 : Int) ≤ l5) && decide (l5 < nb_ln M (nb_rd M l4 1))))) && (!decide ((nb_rd M (nb_rd M l4 1) l5 : Int) = 0) && (!false || (decide ((l1 : Int) = 0) || decide ((l1 : Int) = 1)))))) rfl (by simp [h1, h2, h3, h4, h5])
theorem q_c_totalBy_4 (l0 l1 l2 l3 l4 l5 : Int) (M : nb_M) :
    nb_R nb_P 34 4 [(19, l0), (0, l1), (0, l2), (0, l3), (15, l4), (0, l5)] [] M = if l2 = 0 then nb_R nb_P 34 6 [(19, l0), (0, l1), (0, l2), (0, l3), (15, l4), (0, l5)] [] M else nb_R nb_P 34 5 [(19, l0), (0, l1), (0, l2), (0, l3), (15, l4), (0, l5)] [] M :=
  nb_step (c := true) rfl rfl
theorem q_c_totalBy_5 (l0 l1 l2 l3 l4 l5 : Int) (M : nb_M) (h1 : l4 ≠ 0) (h2 : (nb_rd M l4 1) ≠ 0) (h3 : (0 : Int) ≤ l5) (h4 : l5 < nb_ln M (nb_rd M l4 1)) (h5 : l0 ≠ 0) (h6 : (nb_rd M l0 2) ≠ 0) (h7 : (nb_rd M (nb_rd M l4 1) l5) ≠ 0) :
    nb_R nb_P 34 5 [(19, l0), (0, l1), (0, l2), (0, l3), (15, l4), (0, l5)] [] M = (nb_R nb_P 274 0 [(16, nb_rd M (nb_rd M l4 1) l5), (0, 0), (0, nb_sub (nb_rd M (nb_rd M l0 2) 9) 1)] [] M).bind fun r => nb_R nb_P 34 6 [(19, l0), (0, l1), (0, l2), (0, l3), (15, l4), (0, l5)] (r.1 ++ []) r.2 :=
  nb_stepC (c := ((((true && !decide ((l4 : Int) = 0)) && (!decide ((nb_rd M l4 1 : Int) = 0) && (decide ((0 : Int) ≤ l5) && decide (l5 < nb_ln M (nb_rd M l4 1))))) && !decide ((l0 : Int) = 0)) && !decide ((nb_rd M l0 2 : Int) = 0))) (L2 := [(19, l0), (0, l1), (0, l2), (0, l3), (15, l4), (0, l5)]) (S2 := [(0, nb_sub (nb_rd M (nb_rd M l0 2) 9) 1), (0, 0), (16, nb_rd M (nb_rd M l4 1) l5)]) (M2 := M) (t := 6) (cl := 274) (vi := true) rfl (by simp [h1, h2, h3, h4, h5, h6, h7]) (nb_inv_eq (n := 3) rfl rfl rfl rfl rfl rfl (fun _ => h7) rfl)
theorem q_c_totalBy_6 (l0 l1 l2 l3 l4 l5 : Int) (M : nb_M) :
    nb_R nb_P 34 6 [(19, l0), (0, l1), (0, l2), (0, l3), (15, l4), (0, l5)] [] M = nb_R nb_P 34 2 [(19, l0), (0, l1), (0, l2), (0, l3), (15, l4), (0, nb_add l5 1)] [] M :=
  nb_step (c := true) rfl rfl
theorem q_c_totalBy_7 (l3 l4 : Int) (v0 v1 v2 v5 : nb_V) (M : nb_M) (h1 : l4 ≠ 0) :
    nb_R nb_P 34 7 [v0, v1, v2, (0, l3), (15, l4), v5] [] M = (nb_R nb_P 257 0 [(15, l4), (0, nb_rd M l4 8), (98, 0), (98, 0)] [] M).bind fun r => nb_R nb_P 34 8 [v0, v1, v2, (0, l3), (15, l4), v5] (r.1 ++ []) r.2 :=
  nb_stepC (c := (true && !decide ((l4 : Int) = 0))) (L2 := [v0, v1, v2, (0, l3), (15, l4), v5]) (S2 := [(0, nb_rd M l4 8), (15, l4)]) (M2 := M) (t := 8) (cl := 257) (vi := true) rfl (by simp [h1]) (nb_inv_eq (n := 2) rfl rfl rfl rfl rfl rfl (fun _ => h1) rfl)
theorem q_c_totalBy_8 (l3 l4 : Int) (v0 v1 v2 v5 : nb_V) (M : nb_M) (h1 : l4 ≠ 0) :
    nb_R nb_P 34 8 [v0, v1, v2, (0, l3), (15, l4), v5] [] M = (nb_R nb_P 268 0 [(15, l4), (0, l3)] [] M).bind fun r => nb_R nb_P 34 9 [v0, v1, v2, (0, l3), (15, l4), v5] (r.1 ++ []) r.2 :=
  nb_stepC (c := true) (L2 := [v0, v1, v2, (0, l3), (15, l4), v5]) (S2 := [(0, l3), (15, l4)]) (M2 := M) (t := 9) (cl := 268) (vi := true) rfl rfl (nb_inv_eq (n := 2) rfl rfl rfl rfl rfl rfl (fun _ => h1) rfl)
theorem q_c_totalBy_9 (s0 : Int) (v0 v1 v2 v3 v4 v5 : nb_V) (M : nb_M) :
    nb_R nb_P 34 9 [v0, v1, v2, v3, v4, v5] [(0, s0)] M = some ([(0, s0)], M) :=
  nb_step (c := true) rfl rfl
theorem q_c_bestRule_0 (l0 l1 : Int) (v2 v3 v4 v5 : nb_V) (M : nb_M) (h1 : l0 ≠ 0) :
    nb_R nb_P 35 0 [(19, l0), (0, l1), v2, v3, v4, v5] [] M = (nb_R nb_P 8 0 [(19, l0)] [] M).bind fun r => nb_R nb_P 35 1 [(19, l0), (0, l1), v2, v3, v4, v5] (r.1 ++ [(19, l0)]) r.2 :=
  nb_stepC (c := true) (L2 := [(19, l0), (0, l1), v2, v3, v4, v5]) (S2 := [(19, l0), (19, l0)]) (M2 := M) (t := 1) (cl := 8) (vi := true) rfl rfl (nb_inv_eq (n := 1) rfl rfl rfl rfl rfl rfl (fun _ => h1) rfl)
theorem q_c_bestRule_1 (l0 l1 s0 s1 : Int) (v2 v3 v4 v5 : nb_V) (M : nb_M) (h1 : s1 ≠ 0) :
    nb_R nb_P 35 1 [(19, l0), (0, l1), v2, v3, v4, v5] [(0, s0), (19, s1)] M = (nb_R nb_P 7 0 [(19, s1), (0, s0), (0, 1)] [] M).bind fun r => nb_R nb_P 35 2 [(19, l0), (0, l1), v2, v3, v4, v5] (r.1 ++ []) r.2 :=
  nb_stepC (c := true) (L2 := [(19, l0), (0, l1), v2, v3, v4, v5]) (S2 := [(0, 1), (0, s0), (19, s1)]) (M2 := M) (t := 2) (cl := 7) (vi := true) rfl rfl (nb_inv_eq (n := 3) rfl rfl rfl rfl rfl rfl (fun _ => h1) rfl)
theorem q_c_bestRule_2 (l0 l1 s0 : Int) (v2 v3 v4 v5 : nb_V) (M : nb_M) :
    nb_R nb_P 35 2 [(19, l0), (0, l1), v2, v3, v4, v5] [(0, s0)] M = if s0 = 0 then nb_R nb_P 35 3 [(19, l0), (0, l1), v2, v3, v4, v5] [] M else nb_R nb_P 35 4 [(19, l0), (0, l1), v2, v3, v4, v5] [] M :=
  nb_step (c := true) rfl rfl
theorem q_c_bestRule_3 (v0 v1 v2 v3 v4 v5 : nb_V) (M : nb_M) :
    nb_R nb_P 35 3 [v0, v1, v2, v3, v4, v5] [] M = some ([(0, (-1))], M) :=
  nb_step (c := true) rfl rfl
theorem q_c_bestRule_4 (l0 l1 : Int) (v2 v3 v4 v5 : nb_V) (M : nb_M) :
    nb_R nb_P 35 4 [(19, l0), (0, l1), v2, v3, v4, v5] [] M = nb_R nb_P 35 5 [(19, l0), (0, l1), (0, 0), (0, 1000000), (0, 0), v5] [] M :=
  nb_step (c := true) rfl rfl
theorem q_c_bestRule_5 (l0 l1 l2 l3 l4 : Int) (v5 : nb_V) (M : nb_M) :
    nb_R nb_P 35 5 [(19, l0), (0, l1), (0, l2), (0, l3), (0, l4), v5] [] M = if l4 < 5 then nb_R nb_P 35 6 [(19, l0), (0, l1), (0, l2), (0, l3), (0, l4), v5] [] M else nb_R nb_P 35 14 [(19, l0), (0, l1), (0, l2), (0, l3), (0, l4), v5] [] M :=
  nb_step (c := true) rfl rfl
theorem q_c_bestRule_6 (l0 l1 l2 l3 l4 : Int) (v5 : nb_V) (M : nb_M) :
    nb_R nb_P 35 6 [(19, l0), (0, l1), (0, l2), (0, l3), (0, l4), v5] [] M = if l1 = 0 then nb_R nb_P 35 9 [(19, l0), (0, l1), (0, l2), (0, l3), (0, l4), v5] [] M else nb_R nb_P 35 7 [(19, l0), (0, l1), (0, l2), (0, l3), (0, l4), v5] [] M :=
  nb_step (c := true) rfl rfl
theorem q_c_bestRule_7 (l0 l1 l2 l3 l4 : Int) (v5 : nb_V) (M : nb_M) (h1 : l0 ≠ 0) :
    nb_R nb_P 35 7 [(19, l0), (0, l1), (0, l2), (0, l3), (0, l4), v5] [] M = (nb_R nb_P 34 0 [(19, l0), (0, l4), (0, 0), (0, 4), (98, 0), (98, 0)] [] M).bind fun r => nb_R nb_P 35 8 [(19, l0), (0, l1), (0, l2), (0, l3), (0, l4), v5] (r.1 ++ []) r.2 :=
  nb_stepC (c := true) (L2 := [(19, l0), (0, l1), (0, l2), (0, l3), (0, l4), v5]) (S2 := [(0, 4), (0, 0), (0, l4), (19, l0)]) (M2 := M) (t := 8) (cl := 34) (vi := true) rfl rfl (nb_inv_eq (n := 4) rfl rfl rfl rfl rfl rfl (fun _ => h1) rfl)
theorem q_c_bestRule_8 (l0 l1 l2 l3 l4 s0 : Int) (v5 : nb_V) (M : nb_M) :
    nb_R nb_P 35 8 [(19, l0), (0, l1), (0, l2), (0, l3), (0, l4), v5] [(0, s0)] M = nb_R nb_P 35 11 [(19, l0), (0, l1), (0, l2), (0, l3), (0, l4), v5] [(0, s0)] M :=
  nb_step (c := true) rfl rfl
theorem q_c_bestRule_9 (l0 l1 l2 l3 l4 : Int) (v5 : nb_V) (M : nb_M) (h1 : l0 ≠ 0) :
    nb_R nb_P 35 9 [(19, l0), (0, l1), (0, l2), (0, l3), (0, l4), v5] [] M = (nb_R nb_P 34 0 [(19, l0), (0, l4), (0, 0), (0, 0), (98, 0), (98, 0)] [] M).bind fun r => nb_R nb_P 35 10 [(19, l0), (0, l1), (0, l2), (0, l3), (0, l4), v5] (r.1 ++ []) r.2 :=
  nb_stepC (c := true) (L2 := [(19, l0), (0, l1), (0, l2), (0, l3), (0, l4), v5]) (S2 := [(0, 0), (0, 0), (0, l4), (19, l0)]) (M2 := M) (t := 10) (cl := 34) (vi := true) rfl rfl (nb_inv_eq (n := 4) rfl rfl rfl rfl rfl rfl (fun _ => h1) rfl)
theorem q_c_bestRule_10 (l0 l1 l2 l3 l4 s0 : Int) (v5 : nb_V) (M : nb_M) :
    nb_R nb_P 35 10 [(19, l0), (0, l1), (0, l2), (0, l3), (0, l4), v5] [(0, s0)] M = nb_R nb_P 35 11 [(19, l0), (0, l1), (0, l2), (0, l3), (0, l4), v5] [(0, nb_neg s0)] M :=
  nb_step (c := true) rfl rfl
theorem q_c_bestRule_11 (l0 l1 l2 l3 l4 s0 : Int) (v5 : nb_V) (M : nb_M) :
    nb_R nb_P 35 11 [(19, l0), (0, l1), (0, l2), (0, l3), (0, l4), v5] [(0, s0)] M = if s0 < l3 then nb_R nb_P 35 12 [(19, l0), (0, l1), (0, l2), (0, l3), (0, l4), (0, s0)] [] M else nb_R nb_P 35 13 [(19, l0), (0, l1), (0, l2), (0, l3), (0, l4), (0, s0)] [] M :=
  nb_step (c := true) rfl rfl
theorem q_c_bestRule_12 (l0 l1 l4 l5 : Int) (v2 v3 : nb_V) (M : nb_M) :
    nb_R nb_P 35 12 [(19, l0), (0, l1), v2, v3, (0, l4), (0, l5)] [] M = nb_R nb_P 35 13 [(19, l0), (0, l1), (0, l4), (0, l5), (0, l4), (0, l5)] [] M :=
  nb_step (c := true) rfl rfl
theorem q_c_bestRule_13 (l0 l1 l2 l3 l4 : Int) (v5 : nb_V) (M : nb_M) :
    nb_R nb_P 35 13 [(19, l0), (0, l1), (0, l2), (0, l3), (0, l4), v5] [] M = nb_R nb_P 35 5 [(19, l0), (0, l1), (0, l2), (0, l3), (0, nb_add l4 1), v5] [] M :=
  nb_step (c := true) rfl rfl
theorem q_c_bestRule_14 (l2 : Int) (v0 v1 v3 v4 v5 : nb_V) (M : nb_M) :
    nb_R nb_P 35 14 [v0, v1, (0, l2), v3, v4, v5] [] M = some ([(0, l2)], M) :=
  nb_step (c := true) rfl rfl
theorem q_c_hand_0 (l0 : Int) (v1 v2 : nb_V) (M : nb_M) (h1 : l0 ≠ 0) :
    nb_R nb_P 36 0 [(19, l0), v1, v2] [] M = (nb_R nb_P 8 0 [(19, l0)] [] M).bind fun r => nb_R nb_P 36 1 [(19, l0), v1, v2] (r.1 ++ [(19, l0)]) r.2 :=
  nb_stepC (c := true) (L2 := [(19, l0), v1, v2]) (S2 := [(19, l0), (19, l0)]) (M2 := M) (t := 1) (cl := 8) (vi := true) rfl rfl (nb_inv_eq (n := 1) rfl rfl rfl rfl rfl rfl (fun _ => h1) rfl)
theorem q_c_hand_1 (l0 s0 s1 : Int) (v1 v2 : nb_V) (M : nb_M) (h1 : s1 ≠ 0) :
    nb_R nb_P 36 1 [(19, l0), v1, v2] [(0, s0), (19, s1)] M = (nb_R nb_P 7 0 [(19, s1), (0, s0), (0, 1)] [] M).bind fun r => nb_R nb_P 36 2 [(19, l0), v1, v2] (r.1 ++ []) r.2 :=
  nb_stepC (c := true) (L2 := [(19, l0), v1, v2]) (S2 := [(0, 1), (0, s0), (19, s1)]) (M2 := M) (t := 2) (cl := 7) (vi := true) rfl rfl (nb_inv_eq (n := 3) rfl rfl rfl rfl rfl rfl (fun _ => h1) rfl)
theorem q_c_hand_2 (l0 s0 : Int) (v1 v2 : nb_V) (M : nb_M) :
    nb_R nb_P 36 2 [(19, l0), v1, v2] [(0, s0)] M = if s0 = 0 then nb_R nb_P 36 3 [(19, l0), v1, v2] [] M else nb_R nb_P 36 4 [(19, l0), v1, v2] [] M :=
  nb_step (c := true) rfl rfl
theorem q_c_hand_3 (v0 v1 v2 : nb_V) (M : nb_M) :
    nb_R nb_P 36 3 [v0, v1, v2] [] M = some ([(0, (-100))], M) :=
  nb_step (c := true) rfl rfl
theorem q_c_hand_4 (l0 : Int) (v1 v2 : nb_V) (M : nb_M) (h1 : l0 ≠ 0) :
    nb_R nb_P 36 4 [(19, l0), v1, v2] [] M = (nb_R nb_P 24 0 [(19, l0)] [] M).bind fun r => nb_R nb_P 36 5 [(19, l0), v1, v2] (r.1 ++ []) r.2 :=
  nb_stepC (c := true) (L2 := [(19, l0), v1, v2]) (S2 := [(19, l0)]) (M2 := M) (t := 5) (cl := 24) (vi := true) rfl rfl (nb_inv_eq (n := 1) rfl rfl rfl rfl rfl rfl (fun _ => h1) rfl)
theorem q_c_hand_5 (l0 s0 : Int) (v1 v2 : nb_V) (M : nb_M) (h1 : s0 ≠ 0) :
    nb_R nb_P 36 5 [(19, l0), v1, v2] [(15, s0)] M = (nb_R nb_P 268 0 [(15, s0), (0, 0)] [] M).bind fun r => nb_R nb_P 36 6 [(19, l0), v1, v2] (r.1 ++ []) r.2 :=
  nb_stepC (c := true) (L2 := [(19, l0), v1, v2]) (S2 := [(0, 0), (15, s0)]) (M2 := M) (t := 6) (cl := 268) (vi := true) rfl rfl (nb_inv_eq (n := 2) rfl rfl rfl rfl rfl rfl (fun _ => h1) rfl)
theorem q_c_hand_6 (l0 s0 : Int) (v1 v2 : nb_V) (M : nb_M) (h1 : l0 ≠ 0) :
    nb_R nb_P 36 6 [(19, l0), v1, v2] [(0, s0)] M = (nb_R nb_P 23 0 [(19, l0)] [] M).bind fun r => nb_R nb_P 36 7 [(19, l0), (0, s0), v2] (r.1 ++ []) r.2 :=
  nb_stepC (c := true) (L2 := [(19, l0), (0, s0), v2]) (S2 := [(19, l0)]) (M2 := M) (t := 7) (cl := 23) (vi := true) rfl rfl (nb_inv_eq (n := 1) rfl rfl rfl rfl rfl rfl (fun _ => h1) rfl)
theorem q_c_hand_7 (l1 s0 : Int) (v0 v2 : nb_V) (M : nb_M) (h1 : s0 ≠ 0) :
    nb_R nb_P 36 7 [v0, (0, l1), v2] [(15, s0)] M = (nb_R nb_P 256 0 [(15, s0), (98, 0)] [] M).bind fun r => nb_R nb_P 36 8 [v0, (0, l1), (15, s0)] (r.1 ++ []) r.2 :=
  nb_stepC (c := true) (L2 := [v0, (0, l1), (15, s0)]) (S2 := [(15, s0)]) (M2 := M) (t := 8) (cl := 256) (vi := true) rfl rfl (nb_inv_eq (n := 1) rfl rfl rfl rfl rfl rfl (fun _ => h1) rfl)
theorem q_c_hand_8 (l1 l2 : Int) (v0 : nb_V) (M : nb_M) (h1 : l2 ≠ 0) :
    nb_R nb_P 36 8 [v0, (0, l1), (15, l2)] [] M = (nb_R nb_P 257 0 [(15, l2), (0, nb_rd M l2 8), (98, 0), (98, 0)] [] M).bind fun r => nb_R nb_P 36 9 [v0, (0, l1), (15, l2)] (r.1 ++ []) r.2 :=
  nb_stepC (c := (true && !decide ((l2 : Int) = 0))) (L2 := [v0, (0, l1), (15, l2)]) (S2 := [(0, nb_rd M l2 8), (15, l2)]) (M2 := M) (t := 9) (cl := 257) (vi := true) rfl (by simp [h1]) (nb_inv_eq (n := 2) rfl rfl rfl rfl rfl rfl (fun _ => h1) rfl)
theorem q_c_hand_9 (l1 l2 : Int) (v0 : nb_V) (M : nb_M) (h1 : l2 ≠ 0) :
    nb_R nb_P 36 9 [v0, (0, l1), (15, l2)] [] M = (nb_R nb_P 268 0 [(15, l2), (0, 0)] [] M).bind fun r => nb_R nb_P 36 10 [v0, (0, l1), (15, l2)] (r.1 ++ []) r.2 :=
  nb_stepC (c := true) (L2 := [v0, (0, l1), (15, l2)]) (S2 := [(0, 0), (15, l2)]) (M2 := M) (t := 10) (cl := 268) (vi := true) rfl rfl (nb_inv_eq (n := 2) rfl rfl rfl rfl rfl rfl (fun _ => h1) rfl)
theorem q_c_hand_10 (l1 s0 : Int) (v0 v2 : nb_V) (M : nb_M) :
    nb_R nb_P 36 10 [v0, (0, l1), v2] [(0, s0)] M = some ([(0, nb_sub s0 l1)], M) :=
  nb_step (c := true) rfl rfl
theorem q_c_beforehand_0 (l0 l1 : Int) (v2 v3 : nb_V) (M : nb_M) (h1 : l0 ≠ 0) :
    nb_R nb_P 37 0 [(19, l0), (0, l1), v2, v3] [] M = (nb_R nb_P 38 0 [(19, l0), (0, l1)] [] M).bind fun r => nb_R nb_P 37 1 [(19, l0), (0, l1), v2, v3] (r.1 ++ []) r.2 :=
  nb_stepC (c := true) (L2 := [(19, l0), (0, l1), v2, v3]) (S2 := [(0, l1), (19, l0)]) (M2 := M) (t := 1) (cl := 38) (vi := true) rfl rfl (nb_inv_eq (n := 2) rfl rfl rfl rfl rfl rfl (fun _ => h1) rfl)
theorem q_c_beforehand_1 (l0 l1 s0 : Int) (v2 v3 : nb_V) (M : nb_M) :
    nb_R nb_P 37 1 [(19, l0), (0, l1), v2, v3] [(0, s0)] M = if s0 = 0 then nb_R nb_P 37 7 [(19, l0), (0, l1), v2, v3] [] M else nb_R nb_P 37 2 [(19, l0), (0, l1), v2, v3] [] M :=
  nb_step (c := true) rfl rfl
theorem q_c_beforehand_2 (l0 l1 : Int) (v2 v3 : nb_V) (M : nb_M) (h1 : l0 ≠ 0) (h2 : (nb_rd M l0 5) ≠ 0) (h3 : (nb_rd M (nb_rd M l0 5) 0) ≠ 0) (h4 : (0 : Int) ≤ l1) (h5 : l1 < nb_ln M (nb_rd M (nb_rd M l0 5) 0)) (h6 : (nb_rd M (nb_rd M (nb_rd M l0 5) 0) l1) ≠ 0) :
    nb_R nb_P 37 2 [(19, l0), (0, l1), v2, v3] [] M = if nb_rd M (nb_rd M (nb_rd M (nb_rd M l0 5) 0) l1) 6 = (-2) then nb_R nb_P 37 3 [(19, l0), (0, l1), v2, v3] [(19, l0)] M else nb_R nb_P 37 4 [(19, l0), (0, l1), v2, v3] [(19, l0)] M :=
  nb_step (c := ((((true && !decide ((l0 : Int) = 0)) && !decide ((nb_rd M l0 5 : Int) = 0)) && (!decide ((nb_rd M (nb_rd M l0 5) 0 : Int) = 0) && (decide ((0 : Int) ≤ l1) && decide (l1 < nb_ln M (nb_rd M (nb_rd M l0 5) 0))))) && !decide ((nb_rd M (nb_rd M (nb_rd M l0 5) 0) l1 : Int) = 0))) rfl (by simp [h1, h2, h3, h4, h5, h6])
theorem q_c_beforehand_3 (l0 l1 s0 : Int) (v2 v3 : nb_V) (M : nb_M) :
    nb_R nb_P 37 3 [(19, l0), (0, l1), v2, v3] [(19, s0)] M = nb_R nb_P 37 5 [(19, l0), (0, l1), v2, v3] [(0, 1), (19, s0)] M :=
  nb_step (c := true) rfl rfl
theorem q_c_beforehand_4 (l0 l1 s0 : Int) (v2 v3 : nb_V) (M : nb_M) :
    nb_R nb_P 37 4 [(19, l0), (0, l1), v2, v3] [(19, s0)] M = nb_R nb_P 37 5 [(19, l0), (0, l1), v2, v3] [(0, 0), (19, s0)] M :=
  nb_step (c := true) rfl rfl
theorem q_c_beforehand_5 (l0 l1 s0 s1 : Int) (v2 v3 : nb_V) (M : nb_M) (h1 : s1 ≠ 0) :
    nb_R nb_P 37 5 [(19, l0), (0, l1), v2, v3] [(0, s0), (19, s1)] M = (nb_R nb_P 7 0 [(19, s1), (0, s0), (0, 5)] [] M).bind fun r => nb_R nb_P 37 6 [(19, l0), (0, l1), v2, v3] (r.1 ++ []) r.2 :=
  nb_stepC (c := true) (L2 := [(19, l0), (0, l1), v2, v3]) (S2 := [(0, 5), (0, s0), (19, s1)]) (M2 := M) (t := 6) (cl := 7) (vi := true) rfl rfl (nb_inv_eq (n := 3) rfl rfl rfl rfl rfl rfl (fun _ => h1) rfl)
theorem q_c_beforehand_6 (l0 l1 s0 : Int) (v2 v3 : nb_V) (M : nb_M) :
    nb_R nb_P 37 6 [(19, l0), (0, l1), v2, v3] [(0, s0)] M = if s0 = 0 then nb_R nb_P 37 7 [(19, l0), (0, l1), v2, v3] [] M else nb_R nb_P 37 8 [(19, l0), (0, l1), v2, v3] [] M :=
  nb_step (c := true) rfl rfl
theorem q_c_beforehand_7 (v0 v1 v2 v3 : nb_V) (M : nb_M) :
    nb_R nb_P 37 7 [v0, v1, v2, v3] [] M = some ([(0, (-1000))], M) :=
  nb_step (c := true) rfl rfl
theorem q_c_beforehand_8 (l0 l1 : Int) (v2 v3 : nb_V) (M : nb_M) (h1 : l0 ≠ 0) :
    nb_R nb_P 37 8 [(19, l0), (0, l1), v2, v3] [] M = (nb_R nb_P 24 0 [(19, l0)] [] M).bind fun r => nb_R nb_P 37 9 [(19, l0), (0, l1), v2, v3] (r.1 ++ []) r.2 :=
  nb_stepC (c := true) (L2 := [(19, l0), (0, l1), v2, v3]) (S2 := [(19, l0)]) (M2 := M) (t := 9) (cl := 24) (vi := true) rfl rfl (nb_inv_eq (n := 1) rfl rfl rfl rfl rfl rfl (fun _ => h1) rfl)
theorem q_c_beforehand_9 (l0 l1 s0 : Int) (v2 v3 : nb_V) (M : nb_M) (h1 : s0 ≠ 0) :
    nb_R nb_P 37 9 [(19, l0), (0, l1), v2, v3] [(15, s0)] M = (nb_R nb_P 268 0 [(15, s0), (0, 3)] [] M).bind fun r => nb_R nb_P 37 10 [(19, l0), (0, l1), v2, v3] (r.1 ++ []) r.2 :=
  nb_stepC (c := true) (L2 := [(19, l0), (0, l1), v2, v3]) (S2 := [(0, 3), (15, s0)]) (M2 := M) (t := 10) (cl := 268) (vi := true) rfl rfl (nb_inv_eq (n := 2) rfl rfl rfl rfl rfl rfl (fun _ => h1) rfl)
theorem q_c_beforehand_10 (l0 l1 s0 : Int) (v2 v3 : nb_V) (M : nb_M) (h1 : l0 ≠ 0) :
    nb_R nb_P 37 10 [(19, l0), (0, l1), v2, v3] [(0, s0)] M = (nb_R nb_P 23 0 [(19, l0)] [] M).bind fun r => nb_R nb_P 37 11 [(19, l0), (0, l1), (0, s0), v3] (r.1 ++ []) r.2 :=
  nb_stepC (c := true) (L2 := [(19, l0), (0, l1), (0, s0), v3]) (S2 := [(19, l0)]) (M2 := M) (t := 11) (cl := 23) (vi := true) rfl rfl (nb_inv_eq (n := 1) rfl rfl rfl rfl rfl rfl (fun _ => h1) rfl)
theorem q_c_beforehand_11 (l1 l2 s0 : Int) (v0 v3 : nb_V) (M : nb_M) (h1 : s0 ≠ 0) (h2 : (nb_rd M s0 0) ≠ 0) (h3 : (0 : Int) ≤ l1) (h4 : l1 < nb_ln M (nb_rd M s0 0)) (h5 : (nb_rd M (nb_rd M s0 0) l1) ≠ 0) :
    nb_R nb_P 37 11 [v0, (0, l1), (0, l2), v3] [(15, s0)] M = nb_R nb_P 37 12 [v0, (0, l1), (0, l2), (15, s0)] [] (nb_wr M (nb_rd M (nb_rd M s0 0) l1) 6 (nb_rd M (nb_rd M (nb_rd M s0 0) l1) 2)) :=
  nb_step (c := ((((((true && !decide ((s0 : Int) = 0)) && (!decide ((nb_rd M s0 0 : Int) = 0) && (decide ((0 : Int) ≤ l1) && decide (l1 < nb_ln M (nb_rd M s0 0))))) && !decide ((s0 : Int) = 0)) && (!decide ((nb_rd M s0 0 : Int) = 0) && (decide ((0 : Int) ≤ l1) && decide (l1 < nb_ln M (nb_rd M s0 0))))) && !decide ((nb_rd M (nb_rd M s0 0) l1 : Int) = 0)) && (!decide ((nb_rd M (nb_rd M s0 0) l1 : Int) = 0) && (!false || (decide ((nb_rd M (nb_rd M (nb_rd M s0 0) l1) 2 : Int) = 0) || decide ((nb_rd M (nb_rd M (nb_rd M s0 0) l1) 2 : Int) = 1)))))) rfl (by simp [h1, h2, h3, h4, h5])
theorem q_c_beforehand_12 (l2 l3 : Int) (v0 v1 : nb_V) (M : nb_M) (h1 : l3 ≠ 0) :
    nb_R nb_P 37 12 [v0, v1, (0, l2), (15, l3)] [] M = (nb_R nb_P 257 0 [(15, l3), (0, nb_rd M l3 8), (98, 0), (98, 0)] [] M).bind fun r => nb_R nb_P 37 13 [v0, v1, (0, l2), (15, l3)] (r.1 ++ []) r.2 :=
  nb_stepC (c := (true && !decide ((l3 : Int) = 0))) (L2 := [v0, v1, (0, l2), (15, l3)]) (S2 := [(0, nb_rd M l3 8), (15, l3)]) (M2 := M) (t := 13) (cl := 257) (vi := true) rfl (by simp [h1]) (nb_inv_eq (n := 2) rfl rfl rfl rfl rfl rfl (fun _ => h1) rfl)
theorem q_c_beforehand_13 (l2 l3 : Int) (v0 v1 : nb_V) (M : nb_M) (h1 : l3 ≠ 0) :
    nb_R nb_P 37 13 [v0, v1, (0, l2), (15, l3)] [] M = (nb_R nb_P 268 0 [(15, l3), (0, 3)] [] M).bind fun r => nb_R nb_P 37 14 [v0, v1, (0, l2), (15, l3)] (r.1 ++ [(0, l2)]) r.2 :=
  nb_stepC (c := true) (L2 := [v0, v1, (0, l2), (15, l3)]) (S2 := [(0, 3), (15, l3), (0, l2)]) (M2 := M) (t := 14) (cl := 268) (vi := true) rfl rfl (nb_inv_eq (n := 2) rfl rfl rfl rfl rfl rfl (fun _ => h1) rfl)
theorem q_c_beforehand_14 (s0 s1 : Int) (v0 v1 v2 v3 : nb_V) (M : nb_M) :
    nb_R nb_P 37 14 [v0, v1, v2, v3] [(0, s0), (0, s1)] M = some ([(0, nb_sub s1 s0)], M) :=
  nb_step (c := true) rfl rfl
theorem q_c_mayStillChange_0 (l0 l1 : Int) (M : nb_M) (h1 : l0 ≠ 0) :
    nb_R nb_P 38 0 [(19, l0), (0, l1)] [] M = (nb_R nb_P 9 0 [(19, l0), (0, l1)] [] M).bind fun r => nb_R nb_P 38 1 [(19, l0), (0, l1)] (r.1 ++ [(19, l0)]) r.2 :=
  nb_stepC (c := true) (L2 := [(19, l0), (0, l1)]) (S2 := [(0, l1), (19, l0), (19, l0)]) (M2 := M) (t := 1) (cl := 9) (vi := true) rfl rfl (nb_inv_eq (n := 2) rfl rfl rfl rfl rfl rfl (fun _ => h1) rfl)
theorem q_c_mayStillChange_1 (l0 l1 s0 s1 : Int) (M : nb_M) (h1 : s1 ≠ 0) :
    nb_R nb_P 38 1 [(19, l0), (0, l1)] [(0, s0), (19, s1)] M = (nb_R nb_P 7 0 [(19, s1), (0, s0), (0, 1)] [] M).bind fun r => nb_R nb_P 38 2 [(19, l0), (0, l1)] (r.1 ++ []) r.2 :=
  nb_stepC (c := true) (L2 := [(19, l0), (0, l1)]) (S2 := [(0, 1), (0, s0), (19, s1)]) (M2 := M) (t := 2) (cl := 7) (vi := true) rfl rfl (nb_inv_eq (n := 3) rfl rfl rfl rfl rfl rfl (fun _ => h1) rfl)
theorem q_c_mayStillChange_2 (l0 l1 s0 : Int) (M : nb_M) :
    nb_R nb_P 38 2 [(19, l0), (0, l1)] [(0, s0)] M = if s0 = 0 then nb_R nb_P 38 7 [(19, l0), (0, l1)] [] M else nb_R nb_P 38 3 [(19, l0), (0, l1)] [] M :=
  nb_step (c := true) rfl rfl
theorem q_c_mayStillChange_3 (l0 l1 : Int) (M : nb_M) (h1 : l0 ≠ 0) :
    nb_R nb_P 38 3 [(19, l0), (0, l1)] [] M = (nb_R nb_P 15 0 [(19, l0), (0, l1)] [] M).bind fun r => nb_R nb_P 38 4 [(19, l0), (0, l1)] (r.1 ++ [(19, l0)]) r.2 :=
  nb_stepC (c := true) (L2 := [(19, l0), (0, l1)]) (S2 := [(0, l1), (19, l0), (19, l0)]) (M2 := M) (t := 4) (cl := 15) (vi := true) rfl rfl (nb_inv_eq (n := 2) rfl rfl rfl rfl rfl rfl (fun _ => h1) rfl)
theorem q_c_mayStillChange_4 (s0 s1 : Int) (v0 v1 : nb_V) (M : nb_M) (h1 : s1 ≠ 0) :
    nb_R nb_P 38 4 [v0, v1] [(0, s0), (19, s1)] M = (nb_R nb_P 7 0 [(19, s1), (0, s0), (0, 5)] [] M).bind fun r => nb_R nb_P 38 5 [v0, v1] (r.1 ++ []) r.2 :=
  nb_stepC (c := true) (L2 := [v0, v1]) (S2 := [(0, 5), (0, s0), (19, s1)]) (M2 := M) (t := 5) (cl := 7) (vi := true) rfl rfl (nb_inv_eq (n := 3) rfl rfl rfl rfl rfl rfl (fun _ => h1) rfl)
theorem q_c_mayStillChange_5 (s0 : Int) (v0 v1 : nb_V) (M : nb_M) :
    nb_R nb_P 38 5 [v0, v1] [(0, s0)] M = if s0 = 0 then nb_R nb_P 38 7 [v0, v1] [] M else nb_R nb_P 38 6 [v0, v1] [] M :=
  nb_step (c := true) rfl rfl
theorem q_c_mayStillChange_6 (v0 v1 : nb_V) (M : nb_M) :
    nb_R nb_P 38 6 [v0, v1] [] M = nb_R nb_P 38 8 [v0, v1] [(0, 1)] M :=
  nb_step (c := true) rfl rfl
theorem q_c_mayStillChange_7 (v0 v1 : nb_V) (M : nb_M) :
    nb_R nb_P 38 7 [v0, v1] [] M = nb_R nb_P 38 8 [v0, v1] [(0, 0)] M :=
  nb_step (c := true) rfl rfl
theorem q_c_mayStillChange_8 (s0 : Int) (v0 v1 : nb_V) (M : nb_M) :
    nb_R nb_P 38 8 [v0, v1] [(0, s0)] M = some ([(0, nb_i2z s0)], M) :=
  nb_step (c := true) rfl rfl
theorem q_c_bestPlace_0 (l0 l1 : Int) (v2 v3 v4 v5 : nb_V) (M : nb_M) (h1 : l0 ≠ 0) :
    nb_R nb_P 39 0 [(19, l0), (0, l1), v2, v3, v4, v5] [] M = (nb_R nb_P 38 0 [(19, l0), (0, l1)] [] M).bind fun r => nb_R nb_P 39 1 [(19, l0), (0, l1), v2, v3, v4, v5] (r.1 ++ []) r.2 :=
  nb_stepC (c := true) (L2 := [(19, l0), (0, l1), v2, v3, v4, v5]) (S2 := [(0, l1), (19, l0)]) (M2 := M) (t := 1) (cl := 38) (vi := true) rfl rfl (nb_inv_eq (n := 2) rfl rfl rfl rfl rfl rfl (fun _ => h1) rfl)
theorem q_c_bestPlace_1 (l0 l1 s0 : Int) (v2 v3 v4 v5 : nb_V) (M : nb_M) :
    nb_R nb_P 39 1 [(19, l0), (0, l1), v2, v3, v4, v5] [(0, s0)] M = if s0 = 0 then nb_R nb_P 39 2 [(19, l0), (0, l1), v2, v3, v4, v5] [] M else nb_R nb_P 39 3 [(19, l0), (0, l1), v2, v3, v4, v5] [] M :=
  nb_step (c := true) rfl rfl
theorem q_c_bestPlace_2 (v0 v1 v2 v3 v4 v5 : nb_V) (M : nb_M) :
    nb_R nb_P 39 2 [v0, v1, v2, v3, v4, v5] [] M = some ([(0, (-1))], M) :=
  nb_step (c := true) rfl rfl
theorem q_c_bestPlace_3 (l0 l1 : Int) (v2 v3 v4 v5 : nb_V) (M : nb_M) :
    nb_R nb_P 39 3 [(19, l0), (0, l1), v2, v3, v4, v5] [] M = nb_R nb_P 39 4 [(19, l0), (0, l1), (0, (-2)), (0, 1000000), (0, 0), v5] [] M :=
  nb_step (c := true) rfl rfl
theorem q_c_bestPlace_4 (l0 l1 l2 l3 l4 : Int) (v5 : nb_V) (M : nb_M) (h1 : l0 ≠ 0) (h2 : (nb_rd M l0 2) ≠ 0) :
    nb_R nb_P 39 4 [(19, l0), (0, l1), (0, l2), (0, l3), (0, l4), v5] [] M = if l4 < nb_rd M (nb_rd M l0 2) 9 then nb_R nb_P 39 5 [(19, l0), (0, l1), (0, l2), (0, l3), (0, l4), v5] [] M else nb_R nb_P 39 13 [(19, l0), (0, l1), (0, l2), (0, l3), (0, l4), v5] [] M :=
  nb_step (c := ((true && !decide ((l0 : Int) = 0)) && !decide ((nb_rd M l0 2 : Int) = 0))) rfl (by simp [h1, h2])
theorem q_c_bestPlace_5 (l0 l1 l2 l3 l4 : Int) (v5 : nb_V) (M : nb_M) (h1 : l0 ≠ 0) :
    nb_R nb_P 39 5 [(19, l0), (0, l1), (0, l2), (0, l3), (0, l4), v5] [] M = (nb_R nb_P 23 0 [(19, l0)] [] M).bind fun r => nb_R nb_P 39 6 [(19, l0), (0, l1), (0, l2), (0, l3), (0, l4), v5] (r.1 ++ []) r.2 :=
  nb_stepC (c := true) (L2 := [(19, l0), (0, l1), (0, l2), (0, l3), (0, l4), v5]) (S2 := [(19, l0)]) (M2 := M) (t := 6) (cl := 23) (vi := true) rfl rfl (nb_inv_eq (n := 1) rfl rfl rfl rfl rfl rfl (fun _ => h1) rfl)
theorem q_c_bestPlace_6 (l0 l1 l2 l3 l4 s0 : Int) (v5 : nb_V) (M : nb_M) (h1 : s0 ≠ 0) (h2 : (nb_rd M s0 0) ≠ 0) (h3 : (0 : Int) ≤ l1) (h4 : l1 < nb_ln M (nb_rd M s0 0)) (h5 : (nb_rd M (nb_rd M s0 0) l1) ≠ 0) :
    nb_R nb_P 39 6 [(19, l0), (0, l1), (0, l2), (0, l3), (0, l4), v5] [(15, s0)] M = nb_R nb_P 39 7 [(19, l0), (0, l1), (0, l2), (0, l3), (0, l4), (15, s0)] [] (nb_wr M (nb_rd M (nb_rd M s0 0) l1) 3 l4) :=
  nb_step (c := (((true && !decide ((s0 : Int) = 0)) && (!decide ((nb_rd M s0 0 : Int) = 0) && (decide ((0 : Int) ≤ l1) && decide (l1 < nb_ln M (nb_rd M s0 0))))) && (!decide ((nb_rd M (nb_rd M s0 0) l1 : Int) = 0) && (!false || (decide ((l4 : Int) = 0) || decide ((l4 : Int) = 1)))))) rfl (by simp [h1, h2, h3, h4, h5])
theorem q_c_bestPlace_7 (l0 l1 l2 l3 l4 l5 : Int) (M : nb_M) (h1 : l5 ≠ 0) :
    nb_R nb_P 39 7 [(19, l0), (0, l1), (0, l2), (0, l3), (0, l4), (15, l5)] [] M = (nb_R nb_P 257 0 [(15, l5), (0, nb_rd M l5 8), (98, 0), (98, 0)] [] M).bind fun r => nb_R nb_P 39 8 [(19, l0), (0, l1), (0, l2), (0, l3), (0, l4), (15, l5)] (r.1 ++ []) r.2 :=
  nb_stepC (c := (true && !decide ((l5 : Int) = 0))) (L2 := [(19, l0), (0, l1), (0, l2), (0, l3), (0, l4), (15, l5)]) (S2 := [(0, nb_rd M l5 8), (15, l5)]) (M2 := M) (t := 8) (cl := 257) (vi := true) rfl (by simp [h1]) (nb_inv_eq (n := 2) rfl rfl rfl rfl rfl rfl (fun _ => h1) rfl)
theorem q_c_bestPlace_8 (l0 l1 l2 l3 l4 l5 : Int) (M : nb_M) (h1 : l5 ≠ 0) :
    nb_R nb_P 39 8 [(19, l0), (0, l1), (0, l2), (0, l3), (0, l4), (15, l5)] [] M = (nb_R nb_P 267 0 [(15, l5), (0, l1)] [] M).bind fun r => nb_R nb_P 39 9 [(19, l0), (0, l1), (0, l2), (0, l3), (0, l4), (15, l5)] (r.1 ++ []) r.2 :=
  nb_stepC (c := true) (L2 := [(19, l0), (0, l1), (0, l2), (0, l3), (0, l4), (15, l5)]) (S2 := [(0, l1), (15, l5)]) (M2 := M) (t := 9) (cl := 267) (vi := true) rfl rfl (nb_inv_eq (n := 2) rfl rfl rfl rfl rfl rfl (fun _ => h1) rfl)
theorem q_c_bestPlace_9 (l0 l1 l2 l3 l4 l5 s0 : Int) (M : nb_M) :
    nb_R nb_P 39 9 [(19, l0), (0, l1), (0, l2), (0, l3), (0, l4), (15, l5)] [(0, s0)] M = if s0 < l3 then nb_R nb_P 39 10 [(19, l0), (0, l1), (0, l2), (0, l3), (0, l4), (15, l5)] [] M else nb_R nb_P 39 12 [(19, l0), (0, l1), (0, l2), (0, l3), (0, l4), (15, l5)] [] M :=
  nb_step (c := true) rfl rfl
theorem q_c_bestPlace_10 (l0 l1 l4 l5 : Int) (v2 v3 : nb_V) (M : nb_M) (h1 : l5 ≠ 0) :
    nb_R nb_P 39 10 [(19, l0), (0, l1), v2, v3, (0, l4), (15, l5)] [] M = (nb_R nb_P 267 0 [(15, l5), (0, l1)] [] M).bind fun r => nb_R nb_P 39 11 [(19, l0), (0, l1), v2, v3, (0, l4), (15, l5)] (r.1 ++ []) r.2 :=
  nb_stepC (c := true) (L2 := [(19, l0), (0, l1), v2, v3, (0, l4), (15, l5)]) (S2 := [(0, l1), (15, l5)]) (M2 := M) (t := 11) (cl := 267) (vi := true) rfl rfl (nb_inv_eq (n := 2) rfl rfl rfl rfl rfl rfl (fun _ => h1) rfl)
theorem q_c_bestPlace_11 (l0 l1 l4 s0 : Int) (v2 v3 v5 : nb_V) (M : nb_M) :
    nb_R nb_P 39 11 [(19, l0), (0, l1), v2, v3, (0, l4), v5] [(0, s0)] M = nb_R nb_P 39 12 [(19, l0), (0, l1), (0, l4), (0, s0), (0, l4), v5] [] M :=
  nb_step (c := true) rfl rfl
theorem q_c_bestPlace_12 (l0 l1 l2 l3 l4 : Int) (v5 : nb_V) (M : nb_M) :
    nb_R nb_P 39 12 [(19, l0), (0, l1), (0, l2), (0, l3), (0, l4), v5] [] M = nb_R nb_P 39 4 [(19, l0), (0, l1), (0, l2), (0, l3), (0, nb_add l4 1), v5] [] M :=
  nb_step (c := true) rfl rfl
theorem q_c_bestPlace_13 (l2 : Int) (v0 v1 v3 v4 v5 : nb_V) (M : nb_M) :
    nb_R nb_P 39 13 [v0, v1, (0, l2), v3, v4, v5] [] M = some ([(0, l2)], M) :=
  nb_step (c := true) rfl rfl
theorem q_c_bestManner_0 (l0 l1 : Int) (v2 v3 v4 v5 : nb_V) (M : nb_M) (h1 : l0 ≠ 0) :
    nb_R nb_P 40 0 [(19, l0), (0, l1), v2, v3, v4, v5] [] M = (nb_R nb_P 38 0 [(19, l0), (0, l1)] [] M).bind fun r => nb_R nb_P 40 1 [(19, l0), (0, l1), v2, v3, v4, v5] (r.1 ++ []) r.2 :=
  nb_stepC (c := true) (L2 := [(19, l0), (0, l1), v2, v3, v4, v5]) (S2 := [(0, l1), (19, l0)]) (M2 := M) (t := 1) (cl := 38) (vi := true) rfl rfl (nb_inv_eq (n := 2) rfl rfl rfl rfl rfl rfl (fun _ => h1) rfl)
theorem q_c_bestManner_1 (l0 l1 s0 : Int) (v2 v3 v4 v5 : nb_V) (M : nb_M) :
    nb_R nb_P 40 1 [(19, l0), (0, l1), v2, v3, v4, v5] [(0, s0)] M = if s0 = 0 then nb_R nb_P 40 2 [(19, l0), (0, l1), v2, v3, v4, v5] [] M else nb_R nb_P 40 3 [(19, l0), (0, l1), v2, v3, v4, v5] [] M :=
  nb_step (c := true) rfl rfl
theorem q_c_bestManner_2 (v0 v1 v2 v3 v4 v5 : nb_V) (M : nb_M) :
    nb_R nb_P 40 2 [v0, v1, v2, v3, v4, v5] [] M = some ([(0, (-1))], M) :=
  nb_step (c := true) rfl rfl
theorem q_c_bestManner_3 (l0 l1 : Int) (v2 v3 v4 v5 : nb_V) (M : nb_M) :
    nb_R nb_P 40 3 [(19, l0), (0, l1), v2, v3, v4, v5] [] M = nb_R nb_P 40 4 [(19, l0), (0, l1), (0, (-2)), (0, 1000000), (0, 0), v5] [] M :=
  nb_step (c := true) rfl rfl
theorem q_c_bestManner_4 (l0 l1 l2 l3 l4 : Int) (v5 : nb_V) (M : nb_M) :
    nb_R nb_P 40 4 [(19, l0), (0, l1), (0, l2), (0, l3), (0, l4), v5] [] M = if l4 < 4 then nb_R nb_P 40 5 [(19, l0), (0, l1), (0, l2), (0, l3), (0, l4), v5] [] M else nb_R nb_P 40 13 [(19, l0), (0, l1), (0, l2), (0, l3), (0, l4), v5] [] M :=
  nb_step (c := true) rfl rfl
theorem q_c_bestManner_5 (l0 l1 l2 l3 l4 : Int) (v5 : nb_V) (M : nb_M) (h1 : l0 ≠ 0) :
    nb_R nb_P 40 5 [(19, l0), (0, l1), (0, l2), (0, l3), (0, l4), v5] [] M = (nb_R nb_P 23 0 [(19, l0)] [] M).bind fun r => nb_R nb_P 40 6 [(19, l0), (0, l1), (0, l2), (0, l3), (0, l4), v5] (r.1 ++ []) r.2 :=
  nb_stepC (c := true) (L2 := [(19, l0), (0, l1), (0, l2), (0, l3), (0, l4), v5]) (S2 := [(19, l0)]) (M2 := M) (t := 6) (cl := 23) (vi := true) rfl rfl (nb_inv_eq (n := 1) rfl rfl rfl rfl rfl rfl (fun _ => h1) rfl)
theorem q_c_bestManner_6 (l0 l1 l2 l3 l4 s0 : Int) (v5 : nb_V) (M : nb_M) (h1 : s0 ≠ 0) (h2 : (nb_rd M s0 0) ≠ 0) (h3 : (0 : Int) ≤ l1) (h4 : l1 < nb_ln M (nb_rd M s0 0)) (h5 : (nb_rd M (nb_rd M s0 0) l1) ≠ 0) :
    nb_R nb_P 40 6 [(19, l0), (0, l1), (0, l2), (0, l3), (0, l4), v5] [(15, s0)] M = (nb_R nb_P 216 0 [(11, nb_rd M (nb_rd M s0 0) l1), (0, l4), (0, 30)] [] M).bind fun r => nb_R nb_P 40 7 [(19, l0), (0, l1), (0, l2), (0, l3), (0, l4), (15, s0)] (r.1 ++ []) r.2 :=
  nb_stepC (c := ((true && !decide ((s0 : Int) = 0)) && (!decide ((nb_rd M s0 0 : Int) = 0) && (decide ((0 : Int) ≤ l1) && decide (l1 < nb_ln M (nb_rd M s0 0)))))) (L2 := [(19, l0), (0, l1), (0, l2), (0, l3), (0, l4), (15, s0)]) (S2 := [(0, 30), (0, l4), (11, nb_rd M (nb_rd M s0 0) l1)]) (M2 := M) (t := 7) (cl := 216) (vi := true) rfl (by simp [h1, h2, h3, h4, h5]) (nb_inv_eq (n := 3) rfl rfl rfl rfl rfl rfl (fun _ => h5) rfl)
theorem q_c_bestManner_7 (l0 l1 l2 l3 l4 l5 : Int) (M : nb_M) (h1 : l5 ≠ 0) :
    nb_R nb_P 40 7 [(19, l0), (0, l1), (0, l2), (0, l3), (0, l4), (15, l5)] [] M = (nb_R nb_P 257 0 [(15, l5), (0, nb_rd M l5 8), (98, 0), (98, 0)] [] M).bind fun r => nb_R nb_P 40 8 [(19, l0), (0, l1), (0, l2), (0, l3), (0, l4), (15, l5)] (r.1 ++ []) r.2 :=
  nb_stepC (c := (true && !decide ((l5 : Int) = 0))) (L2 := [(19, l0), (0, l1), (0, l2), (0, l3), (0, l4), (15, l5)]) (S2 := [(0, nb_rd M l5 8), (15, l5)]) (M2 := M) (t := 8) (cl := 257) (vi := true) rfl (by simp [h1]) (nb_inv_eq (n := 2) rfl rfl rfl rfl rfl rfl (fun _ => h1) rfl)
theorem q_c_bestManner_8 (l0 l1 l2 l3 l4 l5 : Int) (M : nb_M) (h1 : l5 ≠ 0) :
    nb_R nb_P 40 8 [(19, l0), (0, l1), (0, l2), (0, l3), (0, l4), (15, l5)] [] M = (nb_R nb_P 267 0 [(15, l5), (0, l1)] [] M).bind fun r => nb_R nb_P 40 9 [(19, l0), (0, l1), (0, l2), (0, l3), (0, l4), (15, l5)] (r.1 ++ []) r.2 :=
  nb_stepC (c := true) (L2 := [(19, l0), (0, l1), (0, l2), (0, l3), (0, l4), (15, l5)]) (S2 := [(0, l1), (15, l5)]) (M2 := M) (t := 9) (cl := 267) (vi := true) rfl rfl (nb_inv_eq (n := 2) rfl rfl rfl rfl rfl rfl (fun _ => h1) rfl)
theorem q_c_bestManner_9 (l0 l1 l2 l3 l4 l5 s0 : Int) (M : nb_M) :
    nb_R nb_P 40 9 [(19, l0), (0, l1), (0, l2), (0, l3), (0, l4), (15, l5)] [(0, s0)] M = if s0 < l3 then nb_R nb_P 40 10 [(19, l0), (0, l1), (0, l2), (0, l3), (0, l4), (15, l5)] [] M else nb_R nb_P 40 12 [(19, l0), (0, l1), (0, l2), (0, l3), (0, l4), (15, l5)] [] M :=
  nb_step (c := true) rfl rfl
theorem q_c_bestManner_10 (l0 l1 l4 l5 : Int) (v2 v3 : nb_V) (M : nb_M) (h1 : l5 ≠ 0) :
    nb_R nb_P 40 10 [(19, l0), (0, l1), v2, v3, (0, l4), (15, l5)] [] M = (nb_R nb_P 267 0 [(15, l5), (0, l1)] [] M).bind fun r => nb_R nb_P 40 11 [(19, l0), (0, l1), v2, v3, (0, l4), (15, l5)] (r.1 ++ []) r.2 :=
  nb_stepC (c := true) (L2 := [(19, l0), (0, l1), v2, v3, (0, l4), (15, l5)]) (S2 := [(0, l1), (15, l5)]) (M2 := M) (t := 11) (cl := 267) (vi := true) rfl rfl (nb_inv_eq (n := 2) rfl rfl rfl rfl rfl rfl (fun _ => h1) rfl)
theorem q_c_bestManner_11 (l0 l1 l4 s0 : Int) (v2 v3 v5 : nb_V) (M : nb_M) :
    nb_R nb_P 40 11 [(19, l0), (0, l1), v2, v3, (0, l4), v5] [(0, s0)] M = nb_R nb_P 40 12 [(19, l0), (0, l1), (0, l4), (0, s0), (0, l4), v5] [] M :=
  nb_step (c := true) rfl rfl
theorem q_c_bestManner_12 (l0 l1 l2 l3 l4 : Int) (v5 : nb_V) (M : nb_M) :
    nb_R nb_P 40 12 [(19, l0), (0, l1), (0, l2), (0, l3), (0, l4), v5] [] M = nb_R nb_P 40 4 [(19, l0), (0, l1), (0, l2), (0, l3), (0, nb_add l4 1), v5] [] M :=
  nb_step (c := true) rfl rfl
theorem q_c_bestManner_13 (l2 : Int) (v0 v1 v3 v4 v5 : nb_V) (M : nb_M) :
    nb_R nb_P 40 13 [v0, v1, (0, l2), v3, v4, v5] [] M = some ([(0, l2)], M) :=
  nb_step (c := true) rfl rfl
theorem q_c_cut_0 (l0 : Int) (M : nb_M) (h1 : l0 ≠ 0) :
    nb_R nb_P 41 0 [(19, l0)] [] M = (nb_R nb_P 43 0 [(19, l0)] [] M).bind fun r => nb_R nb_P 41 1 [(19, l0)] (r.1 ++ []) r.2 :=
  nb_stepC (c := true) (L2 := [(19, l0)]) (S2 := [(19, l0)]) (M2 := M) (t := 1) (cl := 43) (vi := true) rfl rfl (nb_inv_eq (n := 1) rfl rfl rfl rfl rfl rfl (fun _ => h1) rfl)
theorem q_c_cut_1 (l0 s0 : Int) (M : nb_M) :
    nb_R nb_P 41 1 [(19, l0)] [(0, s0)] M = if s0 = 0 then nb_R nb_P 41 4 [(19, l0)] [] M else nb_R nb_P 41 2 [(19, l0)] [] M :=
  nb_step (c := true) rfl rfl
theorem q_c_cut_2 (l0 : Int) (M : nb_M) (h1 : l0 ≠ 0) :
    nb_R nb_P 41 2 [(19, l0)] [] M = (nb_R nb_P 44 0 [(19, l0), (98, 0), (98, 0), (98, 0), (98, 0)] [] M).bind fun r => nb_R nb_P 41 3 [(19, l0)] (r.1 ++ []) r.2 :=
  nb_stepC (c := true) (L2 := [(19, l0)]) (S2 := [(19, l0)]) (M2 := M) (t := 3) (cl := 44) (vi := true) rfl rfl (nb_inv_eq (n := 1) rfl rfl rfl rfl rfl rfl (fun _ => h1) rfl)
theorem q_c_cut_3 (s0 : Int) (v0 : nb_V) (M : nb_M) :
    nb_R nb_P 41 3 [v0] [(0, s0)] M = nb_R nb_P 41 5 [v0] [(0, s0)] M :=
  nb_step (c := true) rfl rfl
theorem q_c_cut_4 (v0 : nb_V) (M : nb_M) :
    nb_R nb_P 41 4 [v0] [] M = nb_R nb_P 41 5 [v0] [(0, (-1))] M :=
  nb_step (c := true) rfl rfl
theorem q_c_cut_5 (s0 : Int) (v0 : nb_V) (M : nb_M) :
    nb_R nb_P 41 5 [v0] [(0, s0)] M = some ([(0, s0)], M) :=
  nb_step (c := true) rfl rfl
theorem q_c_cutWaits_0 (l0 : Int) (M : nb_M) (h1 : l0 ≠ 0) :
    nb_R nb_P 42 0 [(19, l0)] [] M = (nb_R nb_P 43 0 [(19, l0)] [] M).bind fun r => nb_R nb_P 42 1 [(19, l0)] (r.1 ++ []) r.2 :=
  nb_stepC (c := true) (L2 := [(19, l0)]) (S2 := [(19, l0)]) (M2 := M) (t := 1) (cl := 43) (vi := true) rfl rfl (nb_inv_eq (n := 1) rfl rfl rfl rfl rfl rfl (fun _ => h1) rfl)
theorem q_c_cutWaits_1 (l0 s0 : Int) (M : nb_M) :
    nb_R nb_P 42 1 [(19, l0)] [(0, s0)] M = if s0 = 0 then nb_R nb_P 42 5 [(19, l0)] [] M else nb_R nb_P 42 2 [(19, l0)] [] M :=
  nb_step (c := true) rfl rfl
theorem q_c_cutWaits_2 (l0 : Int) (M : nb_M) (h1 : l0 ≠ 0) :
    nb_R nb_P 42 2 [(19, l0)] [] M = (nb_R nb_P 44 0 [(19, l0), (98, 0), (98, 0), (98, 0), (98, 0)] [] M).bind fun r => nb_R nb_P 42 3 [(19, l0)] (r.1 ++ [(19, l0)]) r.2 :=
  nb_stepC (c := true) (L2 := [(19, l0)]) (S2 := [(19, l0), (19, l0)]) (M2 := M) (t := 3) (cl := 44) (vi := true) rfl rfl (nb_inv_eq (n := 1) rfl rfl rfl rfl rfl rfl (fun _ => h1) rfl)
theorem q_c_cutWaits_3 (s0 s1 : Int) (v0 : nb_V) (M : nb_M) (h1 : s1 ≠ 0) :
    nb_R nb_P 42 3 [v0] [(0, s0), (19, s1)] M = (nb_R nb_P 45 0 [(19, s1), (0, s0), (98, 0)] [] M).bind fun r => nb_R nb_P 42 4 [v0] (r.1 ++ []) r.2 :=
  nb_stepC (c := true) (L2 := [v0]) (S2 := [(0, s0), (19, s1)]) (M2 := M) (t := 4) (cl := 45) (vi := true) rfl rfl (nb_inv_eq (n := 2) rfl rfl rfl rfl rfl rfl (fun _ => h1) rfl)
theorem q_c_cutWaits_4 (s0 : Int) (v0 : nb_V) (M : nb_M) :
    nb_R nb_P 42 4 [v0] [(0, s0)] M = nb_R nb_P 42 6 [v0] [(0, s0)] M :=
  nb_step (c := true) rfl rfl
theorem q_c_cutWaits_5 (v0 : nb_V) (M : nb_M) :
    nb_R nb_P 42 5 [v0] [] M = nb_R nb_P 42 6 [v0] [(0, (-1))] M :=
  nb_step (c := true) rfl rfl
theorem q_c_cutWaits_6 (s0 : Int) (v0 : nb_V) (M : nb_M) :
    nb_R nb_P 42 6 [v0] [(0, s0)] M = some ([(0, s0)], M) :=
  nb_step (c := true) rfl rfl
theorem q_c_mayCut_0 (l0 : Int) (M : nb_M) (h1 : l0 ≠ 0) :
    nb_R nb_P 43 0 [(19, l0)] [] M = (nb_R nb_P 8 0 [(19, l0)] [] M).bind fun r => nb_R nb_P 43 1 [(19, l0)] (r.1 ++ [(19, l0)]) r.2 :=
  nb_stepC (c := true) (L2 := [(19, l0)]) (S2 := [(19, l0), (19, l0)]) (M2 := M) (t := 1) (cl := 8) (vi := true) rfl rfl (nb_inv_eq (n := 1) rfl rfl rfl rfl rfl rfl (fun _ => h1) rfl)
theorem q_c_mayCut_1 (l0 s0 s1 : Int) (M : nb_M) (h1 : s1 ≠ 0) :
    nb_R nb_P 43 1 [(19, l0)] [(0, s0), (19, s1)] M = (nb_R nb_P 7 0 [(19, s1), (0, s0), (0, 1)] [] M).bind fun r => nb_R nb_P 43 2 [(19, l0)] (r.1 ++ []) r.2 :=
  nb_stepC (c := true) (L2 := [(19, l0)]) (S2 := [(0, 1), (0, s0), (19, s1)]) (M2 := M) (t := 2) (cl := 7) (vi := true) rfl rfl (nb_inv_eq (n := 3) rfl rfl rfl rfl rfl rfl (fun _ => h1) rfl)
theorem q_c_mayCut_2 (l0 s0 : Int) (M : nb_M) :
    nb_R nb_P 43 2 [(19, l0)] [(0, s0)] M = if s0 = 0 then nb_R nb_P 43 10 [(19, l0)] [] M else nb_R nb_P 43 3 [(19, l0)] [] M :=
  nb_step (c := true) rfl rfl
theorem q_c_mayCut_3 (l0 : Int) (M : nb_M) (h1 : l0 ≠ 0) (h2 : (nb_rd M l0 2) ≠ 0) :
    nb_R nb_P 43 3 [(19, l0)] [] M = if nb_rd M (nb_rd M l0 2) 12 < 2 then nb_R nb_P 43 6 [(19, l0)] [(19, l0)] M else nb_R nb_P 43 4 [(19, l0)] [(19, l0)] M :=
  nb_step (c := ((true && !decide ((l0 : Int) = 0)) && !decide ((nb_rd M l0 2 : Int) = 0))) rfl (by simp [h1, h2])
theorem q_c_mayCut_4 (l0 s0 : Int) (M : nb_M) (h1 : l0 ≠ 0) (h2 : (nb_rd M l0 2) ≠ 0) :
    nb_R nb_P 43 4 [(19, l0)] [(19, s0)] M = if nb_rd M (nb_rd M l0 2) 9 < 2 then nb_R nb_P 43 6 [(19, l0)] [(19, s0)] M else nb_R nb_P 43 5 [(19, l0)] [(19, s0)] M :=
  nb_step (c := ((true && !decide ((l0 : Int) = 0)) && !decide ((nb_rd M l0 2 : Int) = 0))) rfl (by simp [h1, h2])
theorem q_c_mayCut_5 (s0 : Int) (v0 : nb_V) (M : nb_M) :
    nb_R nb_P 43 5 [v0] [(19, s0)] M = nb_R nb_P 43 7 [v0] [(0, 1), (19, s0)] M :=
  nb_step (c := true) rfl rfl
theorem q_c_mayCut_6 (s0 : Int) (v0 : nb_V) (M : nb_M) :
    nb_R nb_P 43 6 [v0] [(19, s0)] M = nb_R nb_P 43 7 [v0] [(0, 0), (19, s0)] M :=
  nb_step (c := true) rfl rfl
theorem q_c_mayCut_7 (s0 s1 : Int) (v0 : nb_V) (M : nb_M) (h1 : s1 ≠ 0) :
    nb_R nb_P 43 7 [v0] [(0, s0), (19, s1)] M = (nb_R nb_P 7 0 [(19, s1), (0, s0), (0, 5)] [] M).bind fun r => nb_R nb_P 43 8 [v0] (r.1 ++ []) r.2 :=
  nb_stepC (c := true) (L2 := [v0]) (S2 := [(0, 5), (0, s0), (19, s1)]) (M2 := M) (t := 8) (cl := 7) (vi := true) rfl rfl (nb_inv_eq (n := 3) rfl rfl rfl rfl rfl rfl (fun _ => h1) rfl)
theorem q_c_mayCut_8 (s0 : Int) (v0 : nb_V) (M : nb_M) :
    nb_R nb_P 43 8 [v0] [(0, s0)] M = if s0 = 0 then nb_R nb_P 43 10 [v0] [] M else nb_R nb_P 43 9 [v0] [] M :=
  nb_step (c := true) rfl rfl
theorem q_c_mayCut_9 (v0 : nb_V) (M : nb_M) :
    nb_R nb_P 43 9 [v0] [] M = nb_R nb_P 43 11 [v0] [(0, 1)] M :=
  nb_step (c := true) rfl rfl
theorem q_c_mayCut_10 (v0 : nb_V) (M : nb_M) :
    nb_R nb_P 43 10 [v0] [] M = nb_R nb_P 43 11 [v0] [(0, 0)] M :=
  nb_step (c := true) rfl rfl
theorem q_c_mayCut_11 (s0 : Int) (v0 : nb_V) (M : nb_M) :
    nb_R nb_P 43 11 [v0] [(0, s0)] M = some ([(0, nb_i2z s0)], M) :=
  nb_step (c := true) rfl rfl
theorem q_c_bestCut_0 (l0 : Int) (v1 v2 v3 v4 : nb_V) (M : nb_M) :
    nb_R nb_P 44 0 [(19, l0), v1, v2, v3, v4] [] M = nb_R nb_P 44 1 [(19, l0), (0, 0), (0, 1000000), (0, 0), v4] [] M :=
  nb_step (c := true) rfl rfl
theorem q_c_bestCut_1 (l0 l1 l2 l3 : Int) (v4 : nb_V) (M : nb_M) (h1 : l0 ≠ 0) (h2 : (nb_rd M l0 2) ≠ 0) :
    nb_R nb_P 44 1 [(19, l0), (0, l1), (0, l2), (0, l3), v4] [] M = if nb_sub (nb_rd M (nb_rd M l0 2) 9) 2 < l3 then nb_R nb_P 44 6 [(19, l0), (0, l1), (0, l2), (0, l3), v4] [] M else nb_R nb_P 44 2 [(19, l0), (0, l1), (0, l2), (0, l3), v4] [] M :=
  nb_step (c := ((true && !decide ((l0 : Int) = 0)) && !decide ((nb_rd M l0 2 : Int) = 0))) rfl (by simp [h1, h2])
theorem q_c_bestCut_2 (l0 l1 l2 l3 : Int) (v4 : nb_V) (M : nb_M) (h1 : l0 ≠ 0) :
    nb_R nb_P 44 2 [(19, l0), (0, l1), (0, l2), (0, l3), v4] [] M = (nb_R nb_P 45 0 [(19, l0), (0, l3), (98, 0)] [] M).bind fun r => nb_R nb_P 44 3 [(19, l0), (0, l1), (0, l2), (0, l3), v4] (r.1 ++ []) r.2 :=
  nb_stepC (c := true) (L2 := [(19, l0), (0, l1), (0, l2), (0, l3), v4]) (S2 := [(0, l3), (19, l0)]) (M2 := M) (t := 3) (cl := 45) (vi := true) rfl rfl (nb_inv_eq (n := 2) rfl rfl rfl rfl rfl rfl (fun _ => h1) rfl)
theorem q_c_bestCut_3 (l0 l1 l2 l3 s0 : Int) (v4 : nb_V) (M : nb_M) :
    nb_R nb_P 44 3 [(19, l0), (0, l1), (0, l2), (0, l3), v4] [(0, s0)] M = if s0 < l2 then nb_R nb_P 44 4 [(19, l0), (0, l1), (0, l2), (0, l3), (0, s0)] [] M else nb_R nb_P 44 5 [(19, l0), (0, l1), (0, l2), (0, l3), (0, s0)] [] M :=
  nb_step (c := true) rfl rfl
theorem q_c_bestCut_4 (l0 l3 l4 : Int) (v1 v2 : nb_V) (M : nb_M) :
    nb_R nb_P 44 4 [(19, l0), v1, v2, (0, l3), (0, l4)] [] M = nb_R nb_P 44 5 [(19, l0), (0, l3), (0, l4), (0, l3), (0, l4)] [] M :=
  nb_step (c := true) rfl rfl
theorem q_c_bestCut_5 (l0 l1 l2 l3 : Int) (v4 : nb_V) (M : nb_M) :
    nb_R nb_P 44 5 [(19, l0), (0, l1), (0, l2), (0, l3), v4] [] M = nb_R nb_P 44 1 [(19, l0), (0, l1), (0, l2), (0, nb_add l3 1), v4] [] M :=
  nb_step (c := true) rfl rfl
theorem q_c_bestCut_6 (l1 : Int) (v0 v2 v3 v4 : nb_V) (M : nb_M) :
    nb_R nb_P 44 6 [v0, (0, l1), v2, v3, v4] [] M = some ([(0, l1)], M) :=
  nb_step (c := true) rfl rfl
theorem q_c_waitsByCut_0 (l0 l1 : Int) (v2 : nb_V) (M : nb_M) (h1 : l0 ≠ 0) :
    nb_R nb_P 45 0 [(19, l0), (0, l1), v2] [] M = (nb_R nb_P 23 0 [(19, l0)] [] M).bind fun r => nb_R nb_P 45 1 [(19, l0), (0, l1), v2] (r.1 ++ []) r.2 :=
  nb_stepC (c := true) (L2 := [(19, l0), (0, l1), v2]) (S2 := [(19, l0)]) (M2 := M) (t := 1) (cl := 23) (vi := true) rfl rfl (nb_inv_eq (n := 1) rfl rfl rfl rfl rfl rfl (fun _ => h1) rfl)
theorem q_c_waitsByCut_1 (l0 l1 s0 : Int) (v2 : nb_V) (M : nb_M) (h1 : s0 ≠ 0) (h2 : (nb_rd M s0 1) ≠ 0) (h3 : (0 : Int) ≤ 0) (h4 : 0 < nb_ln M (nb_rd M s0 1)) (h5 : (nb_rd M (nb_rd M s0 1) 0) ≠ 0) :
    nb_R nb_P 45 1 [(19, l0), (0, l1), v2] [(15, s0)] M = (nb_R nb_P 274 0 [(16, nb_rd M (nb_rd M s0 1) 0), (0, 0), (0, l1)] [] M).bind fun r => nb_R nb_P 45 2 [(19, l0), (0, l1), (15, s0)] (r.1 ++ []) r.2 :=
  nb_stepC (c := ((true && !decide ((s0 : Int) = 0)) && (!decide ((nb_rd M s0 1 : Int) = 0) && (decide ((0 : Int) ≤ 0) && decide (0 < nb_ln M (nb_rd M s0 1)))))) (L2 := [(19, l0), (0, l1), (15, s0)]) (S2 := [(0, l1), (0, 0), (16, nb_rd M (nb_rd M s0 1) 0)]) (M2 := M) (t := 2) (cl := 274) (vi := true) rfl (by simp [h1, h2, h3, h4, h5]) (nb_inv_eq (n := 3) rfl rfl rfl rfl rfl rfl (fun _ => h5) rfl)
theorem q_c_waitsByCut_2 (l0 l1 l2 : Int) (M : nb_M) (h1 : l2 ≠ 0) (h2 : (nb_rd M l2 1) ≠ 0) (h3 : (0 : Int) ≤ 1) (h4 : 1 < nb_ln M (nb_rd M l2 1)) (h5 : l0 ≠ 0) (h6 : (nb_rd M l0 2) ≠ 0) (h7 : (nb_rd M (nb_rd M l2 1) 1) ≠ 0) :
    nb_R nb_P 45 2 [(19, l0), (0, l1), (15, l2)] [] M = (nb_R nb_P 274 0 [(16, nb_rd M (nb_rd M l2 1) 1), (0, nb_add l1 1), (0, nb_sub (nb_rd M (nb_rd M l0 2) 9) 1)] [] M).bind fun r => nb_R nb_P 45 3 [(19, l0), (0, l1), (15, l2)] (r.1 ++ []) r.2 :=
  nb_stepC (c := ((((true && !decide ((l2 : Int) = 0)) && (!decide ((nb_rd M l2 1 : Int) = 0) && (decide ((0 : Int) ≤ 1) && decide (1 < nb_ln M (nb_rd M l2 1))))) && !decide ((l0 : Int) = 0)) && !decide ((nb_rd M l0 2 : Int) = 0))) (L2 := [(19, l0), (0, l1), (15, l2)]) (S2 := [(0, nb_sub (nb_rd M (nb_rd M l0 2) 9) 1), (0, nb_add l1 1), (16, nb_rd M (nb_rd M l2 1) 1)]) (M2 := M) (t := 3) (cl := 274) (vi := true) rfl (by simp [h1, h2, h3, h4, h5, h6, h7]) (nb_inv_eq (n := 3) rfl rfl rfl rfl rfl rfl (fun _ => h7) rfl)
theorem q_c_waitsByCut_3 (l2 : Int) (v0 v1 : nb_V) (M : nb_M) (h1 : l2 ≠ 0) :
    nb_R nb_P 45 3 [v0, v1, (15, l2)] [] M = (nb_R nb_P 257 0 [(15, l2), (0, nb_rd M l2 8), (98, 0), (98, 0)] [] M).bind fun r => nb_R nb_P 45 4 [v0, v1, (15, l2)] (r.1 ++ []) r.2 :=
  nb_stepC (c := (true && !decide ((l2 : Int) = 0))) (L2 := [v0, v1, (15, l2)]) (S2 := [(0, nb_rd M l2 8), (15, l2)]) (M2 := M) (t := 4) (cl := 257) (vi := true) rfl (by simp [h1]) (nb_inv_eq (n := 2) rfl rfl rfl rfl rfl rfl (fun _ => h1) rfl)
theorem q_c_waitsByCut_4 (l2 : Int) (v0 v1 : nb_V) (M : nb_M) (h1 : l2 ≠ 0) :
    nb_R nb_P 45 4 [v0, v1, (15, l2)] [] M = (nb_R nb_P 268 0 [(15, l2), (0, 3)] [] M).bind fun r => nb_R nb_P 45 5 [v0, v1, (15, l2)] (r.1 ++ []) r.2 :=
  nb_stepC (c := true) (L2 := [v0, v1, (15, l2)]) (S2 := [(0, 3), (15, l2)]) (M2 := M) (t := 5) (cl := 268) (vi := true) rfl rfl (nb_inv_eq (n := 2) rfl rfl rfl rfl rfl rfl (fun _ => h1) rfl)
theorem q_c_waitsByCut_5 (s0 : Int) (v0 v1 v2 : nb_V) (M : nb_M) :
    nb_R nb_P 45 5 [v0, v1, v2] [(0, s0)] M = some ([(0, s0)], M) :=
  nb_step (c := true) rfl rfl
theorem q_c_leastLook_0 (l0 l1 : Int) (v2 v3 v4 v5 : nb_V) (M : nb_M) (h1 : l0 ≠ 0) :
    nb_R nb_P 46 0 [(19, l0), (0, l1), v2, v3, v4, v5] [] M = (nb_R nb_P 38 0 [(19, l0), (0, l1)] [] M).bind fun r => nb_R nb_P 46 1 [(19, l0), (0, l1), v2, v3, v4, v5] (r.1 ++ []) r.2 :=
  nb_stepC (c := true) (L2 := [(19, l0), (0, l1), v2, v3, v4, v5]) (S2 := [(0, l1), (19, l0)]) (M2 := M) (t := 1) (cl := 38) (vi := true) rfl rfl (nb_inv_eq (n := 2) rfl rfl rfl rfl rfl rfl (fun _ => h1) rfl)
theorem q_c_leastLook_1 (l0 l1 s0 : Int) (v2 v3 v4 v5 : nb_V) (M : nb_M) :
    nb_R nb_P 46 1 [(19, l0), (0, l1), v2, v3, v4, v5] [(0, s0)] M = if s0 = 0 then nb_R nb_P 46 2 [(19, l0), (0, l1), v2, v3, v4, v5] [] M else nb_R nb_P 46 3 [(19, l0), (0, l1), v2, v3, v4, v5] [] M :=
  nb_step (c := true) rfl rfl
theorem q_c_leastLook_2 (v0 v1 v2 v3 v4 v5 : nb_V) (M : nb_M) :
    nb_R nb_P 46 2 [v0, v1, v2, v3, v4, v5] [] M = some ([(0, (-1))], M) :=
  nb_step (c := true) rfl rfl
theorem q_c_leastLook_3 (l0 l1 : Int) (v2 v3 v4 v5 : nb_V) (M : nb_M) :
    nb_R nb_P 46 3 [(19, l0), (0, l1), v2, v3, v4, v5] [] M = nb_R nb_P 46 4 [(19, l0), (0, l1), (0, (-2)), (0, 1000000), (0, 0), v5] [] M :=
  nb_step (c := true) rfl rfl
theorem q_c_leastLook_4 (l0 l1 l2 l3 l4 : Int) (v5 : nb_V) (M : nb_M) :
    nb_R nb_P 46 4 [(19, l0), (0, l1), (0, l2), (0, l3), (0, l4), v5] [] M = if 99 < l4 then nb_R nb_P 46 13 [(19, l0), (0, l1), (0, l2), (0, l3), (0, l4), v5] [] M else nb_R nb_P 46 5 [(19, l0), (0, l1), (0, l2), (0, l3), (0, l4), v5] [] M :=
  nb_step (c := true) rfl rfl
theorem q_c_leastLook_5 (l0 l1 l2 l3 l4 : Int) (v5 : nb_V) (M : nb_M) (h1 : l0 ≠ 0) :
    nb_R nb_P 46 5 [(19, l0), (0, l1), (0, l2), (0, l3), (0, l4), v5] [] M = (nb_R nb_P 23 0 [(19, l0)] [] M).bind fun r => nb_R nb_P 46 6 [(19, l0), (0, l1), (0, l2), (0, l3), (0, l4), v5] (r.1 ++ []) r.2 :=
  nb_stepC (c := true) (L2 := [(19, l0), (0, l1), (0, l2), (0, l3), (0, l4), v5]) (S2 := [(19, l0)]) (M2 := M) (t := 6) (cl := 23) (vi := true) rfl rfl (nb_inv_eq (n := 1) rfl rfl rfl rfl rfl rfl (fun _ => h1) rfl)
theorem q_c_leastLook_6 (l0 l1 l2 l3 l4 s0 : Int) (v5 : nb_V) (M : nb_M) (h1 : s0 ≠ 0) (h2 : (nb_rd M s0 0) ≠ 0) (h3 : (0 : Int) ≤ l1) (h4 : l1 < nb_ln M (nb_rd M s0 0)) (h5 : (nb_rd M (nb_rd M s0 0) l1) ≠ 0) :
    nb_R nb_P 46 6 [(19, l0), (0, l1), (0, l2), (0, l3), (0, l4), v5] [(15, s0)] M = nb_R nb_P 46 7 [(19, l0), (0, l1), (0, l2), (0, l3), (0, l4), (15, s0)] [] (nb_wr M (nb_rd M (nb_rd M s0 0) l1) 5 l4) :=
  nb_step (c := (((true && !decide ((s0 : Int) = 0)) && (!decide ((nb_rd M s0 0 : Int) = 0) && (decide ((0 : Int) ≤ l1) && decide (l1 < nb_ln M (nb_rd M s0 0))))) && (!decide ((nb_rd M (nb_rd M s0 0) l1 : Int) = 0) && (!false || (decide ((l4 : Int) = 0) || decide ((l4 : Int) = 1)))))) rfl (by simp [h1, h2, h3, h4, h5])
theorem q_c_leastLook_7 (l0 l1 l2 l3 l4 l5 : Int) (M : nb_M) (h1 : l5 ≠ 0) :
    nb_R nb_P 46 7 [(19, l0), (0, l1), (0, l2), (0, l3), (0, l4), (15, l5)] [] M = (nb_R nb_P 257 0 [(15, l5), (0, nb_rd M l5 8), (98, 0), (98, 0)] [] M).bind fun r => nb_R nb_P 46 8 [(19, l0), (0, l1), (0, l2), (0, l3), (0, l4), (15, l5)] (r.1 ++ []) r.2 :=
  nb_stepC (c := (true && !decide ((l5 : Int) = 0))) (L2 := [(19, l0), (0, l1), (0, l2), (0, l3), (0, l4), (15, l5)]) (S2 := [(0, nb_rd M l5 8), (15, l5)]) (M2 := M) (t := 8) (cl := 257) (vi := true) rfl (by simp [h1]) (nb_inv_eq (n := 2) rfl rfl rfl rfl rfl rfl (fun _ => h1) rfl)
theorem q_c_leastLook_8 (l0 l1 l2 l3 l4 l5 : Int) (M : nb_M) (h1 : l5 ≠ 0) :
    nb_R nb_P 46 8 [(19, l0), (0, l1), (0, l2), (0, l3), (0, l4), (15, l5)] [] M = (nb_R nb_P 267 0 [(15, l5), (0, l1)] [] M).bind fun r => nb_R nb_P 46 9 [(19, l0), (0, l1), (0, l2), (0, l3), (0, l4), (15, l5)] (r.1 ++ []) r.2 :=
  nb_stepC (c := true) (L2 := [(19, l0), (0, l1), (0, l2), (0, l3), (0, l4), (15, l5)]) (S2 := [(0, l1), (15, l5)]) (M2 := M) (t := 9) (cl := 267) (vi := true) rfl rfl (nb_inv_eq (n := 2) rfl rfl rfl rfl rfl rfl (fun _ => h1) rfl)
theorem q_c_leastLook_9 (l0 l1 l2 l3 l4 l5 s0 : Int) (M : nb_M) :
    nb_R nb_P 46 9 [(19, l0), (0, l1), (0, l2), (0, l3), (0, l4), (15, l5)] [(0, s0)] M = if s0 < l3 then nb_R nb_P 46 10 [(19, l0), (0, l1), (0, l2), (0, l3), (0, l4), (15, l5)] [] M else nb_R nb_P 46 12 [(19, l0), (0, l1), (0, l2), (0, l3), (0, l4), (15, l5)] [] M :=
  nb_step (c := true) rfl rfl
theorem q_c_leastLook_10 (l0 l1 l4 l5 : Int) (v2 v3 : nb_V) (M : nb_M) (h1 : l5 ≠ 0) :
    nb_R nb_P 46 10 [(19, l0), (0, l1), v2, v3, (0, l4), (15, l5)] [] M = (nb_R nb_P 267 0 [(15, l5), (0, l1)] [] M).bind fun r => nb_R nb_P 46 11 [(19, l0), (0, l1), v2, v3, (0, l4), (15, l5)] (r.1 ++ []) r.2 :=
  nb_stepC (c := true) (L2 := [(19, l0), (0, l1), v2, v3, (0, l4), (15, l5)]) (S2 := [(0, l1), (15, l5)]) (M2 := M) (t := 11) (cl := 267) (vi := true) rfl rfl (nb_inv_eq (n := 2) rfl rfl rfl rfl rfl rfl (fun _ => h1) rfl)
theorem q_c_leastLook_11 (l0 l1 l4 s0 : Int) (v2 v3 v5 : nb_V) (M : nb_M) :
    nb_R nb_P 46 11 [(19, l0), (0, l1), v2, v3, (0, l4), v5] [(0, s0)] M = nb_R nb_P 46 12 [(19, l0), (0, l1), (0, l4), (0, s0), (0, l4), v5] [] M :=
  nb_step (c := true) rfl rfl
theorem q_c_leastLook_12 (l0 l1 l2 l3 l4 : Int) (v5 : nb_V) (M : nb_M) :
    nb_R nb_P 46 12 [(19, l0), (0, l1), (0, l2), (0, l3), (0, l4), v5] [] M = nb_R nb_P 46 4 [(19, l0), (0, l1), (0, l2), (0, l3), (0, nb_add l4 1), v5] [] M :=
  nb_step (c := true) rfl rfl
theorem q_c_leastLook_13 (l2 : Int) (v0 v1 v3 v4 v5 : nb_V) (M : nb_M) :
    nb_R nb_P 46 13 [v0, v1, (0, l2), v3, v4, v5] [] M = some ([(0, l2)], M) :=
  nb_step (c := true) rfl rfl
theorem q_c_letCosts_0 (l0 l1 l2 : Int) (v3 v4 : nb_V) (M : nb_M) (h1 : l0 ≠ 0) :
    nb_R nb_P 47 0 [(19, l0), (0, l1), (0, l2), v3, v4] [] M = (nb_R nb_P 48 0 [(19, l0), (0, l1), (0, l2)] [] M).bind fun r => nb_R nb_P 47 1 [(19, l0), (0, l1), (0, l2), v3, v4] (r.1 ++ []) r.2 :=
  nb_stepC (c := true) (L2 := [(19, l0), (0, l1), (0, l2), v3, v4]) (S2 := [(0, l2), (0, l1), (19, l0)]) (M2 := M) (t := 1) (cl := 48) (vi := true) rfl rfl (nb_inv_eq (n := 3) rfl rfl rfl rfl rfl rfl (fun _ => h1) rfl)
theorem q_c_letCosts_1 (l0 l1 l2 s0 : Int) (v3 v4 : nb_V) (M : nb_M) :
    nb_R nb_P 47 1 [(19, l0), (0, l1), (0, l2), v3, v4] [(0, s0)] M = if s0 = 0 then nb_R nb_P 47 2 [(19, l0), (0, l1), (0, l2), v3, v4] [] M else nb_R nb_P 47 3 [(19, l0), (0, l1), (0, l2), v3, v4] [] M :=
  nb_step (c := true) rfl rfl
theorem q_c_letCosts_2 (v0 v1 v2 v3 v4 : nb_V) (M : nb_M) :
    nb_R nb_P 47 2 [v0, v1, v2, v3, v4] [] M = some ([(0, (-1000))], M) :=
  nb_step (c := true) rfl rfl
theorem q_c_letCosts_3 (l0 l1 l2 : Int) (v3 v4 : nb_V) (M : nb_M) (h1 : l0 ≠ 0) :
    nb_R nb_P 47 3 [(19, l0), (0, l1), (0, l2), v3, v4] [] M = (nb_R nb_P 24 0 [(19, l0)] [] M).bind fun r => nb_R nb_P 47 4 [(19, l0), (0, l1), (0, l2), v3, v4] (r.1 ++ []) r.2 :=
  nb_stepC (c := true) (L2 := [(19, l0), (0, l1), (0, l2), v3, v4]) (S2 := [(19, l0)]) (M2 := M) (t := 4) (cl := 24) (vi := true) rfl rfl (nb_inv_eq (n := 1) rfl rfl rfl rfl rfl rfl (fun _ => h1) rfl)
theorem q_c_letCosts_4 (l0 l1 l2 s0 : Int) (v3 v4 : nb_V) (M : nb_M) (h1 : s0 ≠ 0) :
    nb_R nb_P 47 4 [(19, l0), (0, l1), (0, l2), v3, v4] [(15, s0)] M = (nb_R nb_P 266 0 [(15, s0), (0, l1), (98, 0)] [] M).bind fun r => nb_R nb_P 47 5 [(19, l0), (0, l1), (0, l2), v3, v4] (r.1 ++ []) r.2 :=
  nb_stepC (c := true) (L2 := [(19, l0), (0, l1), (0, l2), v3, v4]) (S2 := [(0, l1), (15, s0)]) (M2 := M) (t := 5) (cl := 266) (vi := true) rfl rfl (nb_inv_eq (n := 2) rfl rfl rfl rfl rfl rfl (fun _ => h1) rfl)
theorem q_c_letCosts_5 (l0 l1 l2 s0 : Int) (v3 v4 : nb_V) (M : nb_M) (h1 : l0 ≠ 0) :
    nb_R nb_P 47 5 [(19, l0), (0, l1), (0, l2), v3, v4] [(0, s0)] M = (nb_R nb_P 23 0 [(19, l0)] [] M).bind fun r => nb_R nb_P 47 6 [(19, l0), (0, l1), (0, l2), (0, s0), v4] (r.1 ++ []) r.2 :=
  nb_stepC (c := true) (L2 := [(19, l0), (0, l1), (0, l2), (0, s0), v4]) (S2 := [(19, l0)]) (M2 := M) (t := 6) (cl := 23) (vi := true) rfl rfl (nb_inv_eq (n := 1) rfl rfl rfl rfl rfl rfl (fun _ => h1) rfl)
theorem q_c_letCosts_6 (l1 l2 l3 s0 : Int) (v0 v4 : nb_V) (M : nb_M) :
    nb_R nb_P 47 6 [v0, (0, l1), (0, l2), (0, l3), v4] [(15, s0)] M = (nb_R nb_P 49 0 [(15, s0), (0, l1), (0, l2)] [] M).bind fun r => nb_R nb_P 47 7 [v0, (0, l1), (0, l2), (0, l3), (15, s0)] (r.1 ++ []) r.2 :=
  nb_stepC (c := true) (L2 := [v0, (0, l1), (0, l2), (0, l3), (15, s0)]) (S2 := [(0, l2), (0, l1), (15, s0)]) (M2 := M) (t := 7) (cl := 49) (vi := false) rfl rfl (nb_inv_eq (n := 3) rfl rfl rfl rfl rfl rfl (fun h => by cases h) rfl)
theorem q_c_letCosts_7 (l1 l3 l4 : Int) (v0 v2 : nb_V) (M : nb_M) (h1 : l4 ≠ 0) :
    nb_R nb_P 47 7 [v0, (0, l1), v2, (0, l3), (15, l4)] [] M = (nb_R nb_P 257 0 [(15, l4), (0, nb_rd M l4 8), (98, 0), (98, 0)] [] M).bind fun r => nb_R nb_P 47 8 [v0, (0, l1), v2, (0, l3), (15, l4)] (r.1 ++ []) r.2 :=
  nb_stepC (c := (true && !decide ((l4 : Int) = 0))) (L2 := [v0, (0, l1), v2, (0, l3), (15, l4)]) (S2 := [(0, nb_rd M l4 8), (15, l4)]) (M2 := M) (t := 8) (cl := 257) (vi := true) rfl (by simp [h1]) (nb_inv_eq (n := 2) rfl rfl rfl rfl rfl rfl (fun _ => h1) rfl)
theorem q_c_letCosts_8 (l1 l3 l4 : Int) (v0 v2 : nb_V) (M : nb_M) (h1 : l4 ≠ 0) :
    nb_R nb_P 47 8 [v0, (0, l1), v2, (0, l3), (15, l4)] [] M = (nb_R nb_P 266 0 [(15, l4), (0, l1), (98, 0)] [] M).bind fun r => nb_R nb_P 47 9 [v0, (0, l1), v2, (0, l3), (15, l4)] (r.1 ++ []) r.2 :=
  nb_stepC (c := true) (L2 := [v0, (0, l1), v2, (0, l3), (15, l4)]) (S2 := [(0, l1), (15, l4)]) (M2 := M) (t := 9) (cl := 266) (vi := true) rfl rfl (nb_inv_eq (n := 2) rfl rfl rfl rfl rfl rfl (fun _ => h1) rfl)
theorem q_c_letCosts_9 (l3 s0 : Int) (v0 v1 v2 v4 : nb_V) (M : nb_M) :
    nb_R nb_P 47 9 [v0, v1, v2, (0, l3), v4] [(0, s0)] M = some ([(0, nb_sub s0 l3)], M) :=
  nb_step (c := true) rfl rfl
theorem q_c_mayLet_0 (l0 l1 l2 : Int) (M : nb_M) (h1 : l0 ≠ 0) :
    nb_R nb_P 48 0 [(19, l0), (0, l1), (0, l2)] [] M = (nb_R nb_P 10 0 [(19, l0), (0, l1), (0, l2)] [] M).bind fun r => nb_R nb_P 48 1 [(19, l0), (0, l1), (0, l2)] (r.1 ++ [(19, l0)]) r.2 :=
  nb_stepC (c := true) (L2 := [(19, l0), (0, l1), (0, l2)]) (S2 := [(0, l2), (0, l1), (19, l0), (19, l0)]) (M2 := M) (t := 1) (cl := 10) (vi := true) rfl rfl (nb_inv_eq (n := 3) rfl rfl rfl rfl rfl rfl (fun _ => h1) rfl)
theorem q_c_mayLet_1 (l0 l1 l2 s0 s1 : Int) (M : nb_M) (h1 : s1 ≠ 0) :
    nb_R nb_P 48 1 [(19, l0), (0, l1), (0, l2)] [(0, s0), (19, s1)] M = (nb_R nb_P 7 0 [(19, s1), (0, s0), (0, 1)] [] M).bind fun r => nb_R nb_P 48 2 [(19, l0), (0, l1), (0, l2)] (r.1 ++ []) r.2 :=
  nb_stepC (c := true) (L2 := [(19, l0), (0, l1), (0, l2)]) (S2 := [(0, 1), (0, s0), (19, s1)]) (M2 := M) (t := 2) (cl := 7) (vi := true) rfl rfl (nb_inv_eq (n := 3) rfl rfl rfl rfl rfl rfl (fun _ => h1) rfl)
theorem q_c_mayLet_2 (l0 l1 l2 s0 : Int) (M : nb_M) :
    nb_R nb_P 48 2 [(19, l0), (0, l1), (0, l2)] [(0, s0)] M = if s0 = 0 then nb_R nb_P 48 17 [(19, l0), (0, l1), (0, l2)] [] M else nb_R nb_P 48 3 [(19, l0), (0, l1), (0, l2)] [] M :=
  nb_step (c := true) rfl rfl
theorem q_c_mayLet_3 (l0 l1 l2 : Int) (M : nb_M) (h1 : l0 ≠ 0) :
    nb_R nb_P 48 3 [(19, l0), (0, l1), (0, l2)] [] M = (nb_R nb_P 14 0 [(19, l0), (0, l1)] [] M).bind fun r => nb_R nb_P 48 4 [(19, l0), (0, l1), (0, l2)] (r.1 ++ [(19, l0)]) r.2 :=
  nb_stepC (c := true) (L2 := [(19, l0), (0, l1), (0, l2)]) (S2 := [(0, l1), (19, l0), (19, l0)]) (M2 := M) (t := 4) (cl := 14) (vi := true) rfl rfl (nb_inv_eq (n := 2) rfl rfl rfl rfl rfl rfl (fun _ => h1) rfl)
theorem q_c_mayLet_4 (l0 l1 l2 s0 s1 : Int) (M : nb_M) :
    nb_R nb_P 48 4 [(19, l0), (0, l1), (0, l2)] [(0, s0), (19, s1)] M = if s0 = 0 then nb_R nb_P 48 8 [(19, l0), (0, l1), (0, l2)] [(19, s1)] M else nb_R nb_P 48 5 [(19, l0), (0, l1), (0, l2)] [(19, s1)] M :=
  nb_step (c := true) rfl rfl
theorem q_c_mayLet_5 (l0 l1 l2 s0 : Int) (M : nb_M) (h1 : l0 ≠ 0) :
    nb_R nb_P 48 5 [(19, l0), (0, l1), (0, l2)] [(19, s0)] M = (nb_R nb_P 14 0 [(19, l0), (0, l2)] [] M).bind fun r => nb_R nb_P 48 6 [(19, l0), (0, l1), (0, l2)] (r.1 ++ [(19, s0)]) r.2 :=
  nb_stepC (c := true) (L2 := [(19, l0), (0, l1), (0, l2)]) (S2 := [(0, l2), (19, l0), (19, s0)]) (M2 := M) (t := 6) (cl := 14) (vi := true) rfl rfl (nb_inv_eq (n := 2) rfl rfl rfl rfl rfl rfl (fun _ => h1) rfl)
theorem q_c_mayLet_6 (l0 l1 l2 s0 s1 : Int) (M : nb_M) :
    nb_R nb_P 48 6 [(19, l0), (0, l1), (0, l2)] [(0, s0), (19, s1)] M = if s0 = 0 then nb_R nb_P 48 8 [(19, l0), (0, l1), (0, l2)] [(19, s1)] M else nb_R nb_P 48 7 [(19, l0), (0, l1), (0, l2)] [(19, s1)] M :=
  nb_step (c := true) rfl rfl
theorem q_c_mayLet_7 (l0 l1 l2 s0 : Int) (M : nb_M) :
    nb_R nb_P 48 7 [(19, l0), (0, l1), (0, l2)] [(19, s0)] M = nb_R nb_P 48 9 [(19, l0), (0, l1), (0, l2)] [(0, 1), (19, s0)] M :=
  nb_step (c := true) rfl rfl
theorem q_c_mayLet_8 (l0 l1 l2 s0 : Int) (M : nb_M) :
    nb_R nb_P 48 8 [(19, l0), (0, l1), (0, l2)] [(19, s0)] M = nb_R nb_P 48 9 [(19, l0), (0, l1), (0, l2)] [(0, 0), (19, s0)] M :=
  nb_step (c := true) rfl rfl
theorem q_c_mayLet_9 (l0 l1 l2 s0 s1 : Int) (M : nb_M) (h1 : s1 ≠ 0) :
    nb_R nb_P 48 9 [(19, l0), (0, l1), (0, l2)] [(0, s0), (19, s1)] M = (nb_R nb_P 7 0 [(19, s1), (0, s0), (0, 5)] [] M).bind fun r => nb_R nb_P 48 10 [(19, l0), (0, l1), (0, l2)] (r.1 ++ []) r.2 :=
  nb_stepC (c := true) (L2 := [(19, l0), (0, l1), (0, l2)]) (S2 := [(0, 5), (0, s0), (19, s1)]) (M2 := M) (t := 10) (cl := 7) (vi := true) rfl rfl (nb_inv_eq (n := 3) rfl rfl rfl rfl rfl rfl (fun _ => h1) rfl)
theorem q_c_mayLet_10 (l0 l1 l2 s0 : Int) (M : nb_M) :
    nb_R nb_P 48 10 [(19, l0), (0, l1), (0, l2)] [(0, s0)] M = if s0 = 0 then nb_R nb_P 48 17 [(19, l0), (0, l1), (0, l2)] [] M else nb_R nb_P 48 11 [(19, l0), (0, l1), (0, l2)] [] M :=
  nb_step (c := true) rfl rfl
theorem q_c_mayLet_11 (l0 l1 l2 : Int) (M : nb_M) (h1 : l0 ≠ 0) (h2 : (nb_rd M l0 5) ≠ 0) (h3 : (nb_rd M (nb_rd M l0 5) 0) ≠ 0) (h4 : (0 : Int) ≤ l1) (h5 : l1 < nb_ln M (nb_rd M (nb_rd M l0 5) 0)) (h6 : (nb_rd M (nb_rd M (nb_rd M l0 5) 0) l1) ≠ 0) (h7 : (0 : Int) ≤ l2) (h8 : l2 < nb_ln M (nb_rd M (nb_rd M l0 5) 0)) (h9 : (nb_rd M (nb_rd M (nb_rd M l0 5) 0) l2) ≠ 0) :
    nb_R nb_P 48 11 [(19, l0), (0, l1), (0, l2)] [] M = if nb_rd M (nb_rd M (nb_rd M (nb_rd M l0 5) 0) l2) 7 < nb_rd M (nb_rd M (nb_rd M (nb_rd M l0 5) 0) l1) 7 then nb_R nb_P 48 13 [(19, l0), (0, l1), (0, l2)] [(19, l0)] M else nb_R nb_P 48 12 [(19, l0), (0, l1), (0, l2)] [(19, l0)] M :=
  nb_step (c := ((((((((true && !decide ((l0 : Int) = 0)) && !decide ((nb_rd M l0 5 : Int) = 0)) && (!decide ((nb_rd M (nb_rd M l0 5) 0 : Int) = 0) && (decide ((0 : Int) ≤ l1) && decide (l1 < nb_ln M (nb_rd M (nb_rd M l0 5) 0))))) && !decide ((nb_rd M (nb_rd M (nb_rd M l0 5) 0) l1 : Int) = 0)) && !decide ((l0 : Int) = 0)) && !decide ((nb_rd M l0 5 : Int) = 0)) && (!decide ((nb_rd M (nb_rd M l0 5) 0 : Int) = 0) && (decide ((0 : Int) ≤ l2) && decide (l2 < nb_ln M (nb_rd M (nb_rd M l0 5) 0))))) && !decide ((nb_rd M (nb_rd M (nb_rd M l0 5) 0) l2 : Int) = 0))) rfl (by simp [h1, h2, h3, h4, h5, h6, h7, h8, h9])
theorem q_c_mayLet_12 (s0 : Int) (v0 v1 v2 : nb_V) (M : nb_M) :
    nb_R nb_P 48 12 [v0, v1, v2] [(19, s0)] M = nb_R nb_P 48 14 [v0, v1, v2] [(0, 1), (19, s0)] M :=
  nb_step (c := true) rfl rfl
theorem q_c_mayLet_13 (s0 : Int) (v0 v1 v2 : nb_V) (M : nb_M) :
    nb_R nb_P 48 13 [v0, v1, v2] [(19, s0)] M = nb_R nb_P 48 14 [v0, v1, v2] [(0, 0), (19, s0)] M :=
  nb_step (c := true) rfl rfl
theorem q_c_mayLet_14 (s0 s1 : Int) (v0 v1 v2 : nb_V) (M : nb_M) (h1 : s1 ≠ 0) :
    nb_R nb_P 48 14 [v0, v1, v2] [(0, s0), (19, s1)] M = (nb_R nb_P 7 0 [(19, s1), (0, s0), (0, 5)] [] M).bind fun r => nb_R nb_P 48 15 [v0, v1, v2] (r.1 ++ []) r.2 :=
  nb_stepC (c := true) (L2 := [v0, v1, v2]) (S2 := [(0, 5), (0, s0), (19, s1)]) (M2 := M) (t := 15) (cl := 7) (vi := true) rfl rfl (nb_inv_eq (n := 3) rfl rfl rfl rfl rfl rfl (fun _ => h1) rfl)
theorem q_c_mayLet_15 (s0 : Int) (v0 v1 v2 : nb_V) (M : nb_M) :
    nb_R nb_P 48 15 [v0, v1, v2] [(0, s0)] M = if s0 = 0 then nb_R nb_P 48 17 [v0, v1, v2] [] M else nb_R nb_P 48 16 [v0, v1, v2] [] M :=
  nb_step (c := true) rfl rfl
theorem q_c_mayLet_16 (v0 v1 v2 : nb_V) (M : nb_M) :
    nb_R nb_P 48 16 [v0, v1, v2] [] M = nb_R nb_P 48 18 [v0, v1, v2] [(0, 1)] M :=
  nb_step (c := true) rfl rfl
theorem q_c_mayLet_17 (v0 v1 v2 : nb_V) (M : nb_M) :
    nb_R nb_P 48 17 [v0, v1, v2] [] M = nb_R nb_P 48 18 [v0, v1, v2] [(0, 0)] M :=
  nb_step (c := true) rfl rfl
theorem q_c_mayLet_18 (s0 : Int) (v0 v1 v2 : nb_V) (M : nb_M) :
    nb_R nb_P 48 18 [v0, v1, v2] [(0, s0)] M = some ([(0, nb_i2z s0)], M) :=
  nb_step (c := true) rfl rfl
theorem q_c_letFirst_0 (l0 l1 l2 : Int) (M : nb_M) (h1 : l0 ≠ 0) (h2 : (nb_rd M l0 0) ≠ 0) (h3 : (0 : Int) ≤ l1) (h4 : l1 < nb_ln M (nb_rd M l0 0)) (h5 : (0 : Int) ≤ l2) (h6 : l2 < nb_ln M (nb_rd M l0 0)) (h7 : (nb_rd M (nb_rd M l0 0) l2) ≠ 0) (h8 : (nb_rd M (nb_rd M l0 0) l1) ≠ 0) :
    nb_R nb_P 49 0 [(15, l0), (0, l1), (0, l2)] [] M = nb_R nb_P 49 1 [(15, l0), (0, l1), (0, l2)] [] (nb_wr M (nb_rd M (nb_rd M l0 0) l1) 7 (nb_add (nb_rd M (nb_rd M (nb_rd M l0 0) l2) 7) 1)) :=
  nb_step (c := ((((((true && !decide ((l0 : Int) = 0)) && (!decide ((nb_rd M l0 0 : Int) = 0) && (decide ((0 : Int) ≤ l1) && decide (l1 < nb_ln M (nb_rd M l0 0))))) && !decide ((l0 : Int) = 0)) && (!decide ((nb_rd M l0 0 : Int) = 0) && (decide ((0 : Int) ≤ l2) && decide (l2 < nb_ln M (nb_rd M l0 0))))) && !decide ((nb_rd M (nb_rd M l0 0) l2 : Int) = 0)) && (!decide ((nb_rd M (nb_rd M l0 0) l1 : Int) = 0) && (!false || (decide ((nb_add (nb_rd M (nb_rd M (nb_rd M l0 0) l2) 7) 1 : Int) = 0) || decide ((nb_add (nb_rd M (nb_rd M (nb_rd M l0 0) l2) 7) 1 : Int) = 1)))))) rfl (by simp [h1, h2, h3, h4, h5, h6, h7, h8])
theorem q_c_letFirst_1 (v0 v1 v2 : nb_V) (M : nb_M) :
    nb_R nb_P 49 1 [v0, v1, v2] [] M = some ([], M) :=
  nb_step (c := true) rfl rfl
theorem q_c_bell_0 (l0 l1 l2 : Int) (v3 : nb_V) (M : nb_M) (h1 : l0 ≠ 0) :
    nb_R nb_P 50 0 [(19, l0), (0, l1), (0, l2), v3] [] M = (nb_R nb_P 13 0 [(19, l0), (0, l2)] [] M).bind fun r => nb_R nb_P 50 1 [(19, l0), (0, l1), (0, l2), v3] (r.1 ++ [(19, l0)]) r.2 :=
  nb_stepC (c := true) (L2 := [(19, l0), (0, l1), (0, l2), v3]) (S2 := [(0, l2), (19, l0), (19, l0)]) (M2 := M) (t := 1) (cl := 13) (vi := true) rfl rfl (nb_inv_eq (n := 2) rfl rfl rfl rfl rfl rfl (fun _ => h1) rfl)
theorem q_c_bell_1 (l0 l1 l2 s0 s1 : Int) (v3 : nb_V) (M : nb_M) (h1 : s1 ≠ 0) :
    nb_R nb_P 50 1 [(19, l0), (0, l1), (0, l2), v3] [(0, s0), (19, s1)] M = (nb_R nb_P 7 0 [(19, s1), (0, s0), (0, 1)] [] M).bind fun r => nb_R nb_P 50 2 [(19, l0), (0, l1), (0, l2), v3] (r.1 ++ []) r.2 :=
  nb_stepC (c := true) (L2 := [(19, l0), (0, l1), (0, l2), v3]) (S2 := [(0, 1), (0, s0), (19, s1)]) (M2 := M) (t := 2) (cl := 7) (vi := true) rfl rfl (nb_inv_eq (n := 3) rfl rfl rfl rfl rfl rfl (fun _ => h1) rfl)
theorem q_c_bell_2 (l0 l1 l2 s0 : Int) (v3 : nb_V) (M : nb_M) :
    nb_R nb_P 50 2 [(19, l0), (0, l1), (0, l2), v3] [(0, s0)] M = if s0 = 0 then nb_R nb_P 50 9 [(19, l0), (0, l1), (0, l2), v3] [] M else nb_R nb_P 50 3 [(19, l0), (0, l1), (0, l2), v3] [] M :=
  nb_step (c := true) rfl rfl
theorem q_c_bell_3 (l0 l1 l2 : Int) (v3 : nb_V) (M : nb_M) (h1 : l0 ≠ 0) (h2 : (nb_rd M l0 5) ≠ 0) :
    nb_R nb_P 50 3 [(19, l0), (0, l1), (0, l2), v3] [] M = if l1 < nb_rd M (nb_rd M l0 5) 7 then nb_R nb_P 50 6 [(19, l0), (0, l1), (0, l2), v3] [(19, l0)] M else nb_R nb_P 50 4 [(19, l0), (0, l1), (0, l2), v3] [(19, l0)] M :=
  nb_step (c := ((true && !decide ((l0 : Int) = 0)) && !decide ((nb_rd M l0 5 : Int) = 0))) rfl (by simp [h1, h2])
theorem q_c_bell_4 (l0 l1 l2 s0 : Int) (v3 : nb_V) (M : nb_M) :
    nb_R nb_P 50 4 [(19, l0), (0, l1), (0, l2), v3] [(19, s0)] M = if 900 < l1 then nb_R nb_P 50 6 [(19, l0), (0, l1), (0, l2), v3] [(19, s0)] M else nb_R nb_P 50 5 [(19, l0), (0, l1), (0, l2), v3] [(19, s0)] M :=
  nb_step (c := true) rfl rfl
theorem q_c_bell_5 (l0 l1 l2 s0 : Int) (v3 : nb_V) (M : nb_M) :
    nb_R nb_P 50 5 [(19, l0), (0, l1), (0, l2), v3] [(19, s0)] M = nb_R nb_P 50 7 [(19, l0), (0, l1), (0, l2), v3] [(0, 1), (19, s0)] M :=
  nb_step (c := true) rfl rfl
theorem q_c_bell_6 (l0 l1 l2 s0 : Int) (v3 : nb_V) (M : nb_M) :
    nb_R nb_P 50 6 [(19, l0), (0, l1), (0, l2), v3] [(19, s0)] M = nb_R nb_P 50 7 [(19, l0), (0, l1), (0, l2), v3] [(0, 0), (19, s0)] M :=
  nb_step (c := true) rfl rfl
theorem q_c_bell_7 (l0 l1 l2 s0 s1 : Int) (v3 : nb_V) (M : nb_M) (h1 : s1 ≠ 0) :
    nb_R nb_P 50 7 [(19, l0), (0, l1), (0, l2), v3] [(0, s0), (19, s1)] M = (nb_R nb_P 7 0 [(19, s1), (0, s0), (0, 2)] [] M).bind fun r => nb_R nb_P 50 8 [(19, l0), (0, l1), (0, l2), v3] (r.1 ++ []) r.2 :=
  nb_stepC (c := true) (L2 := [(19, l0), (0, l1), (0, l2), v3]) (S2 := [(0, 2), (0, s0), (19, s1)]) (M2 := M) (t := 8) (cl := 7) (vi := true) rfl rfl (nb_inv_eq (n := 3) rfl rfl rfl rfl rfl rfl (fun _ => h1) rfl)
theorem q_c_bell_8 (l0 l1 l2 s0 : Int) (v3 : nb_V) (M : nb_M) :
    nb_R nb_P 50 8 [(19, l0), (0, l1), (0, l2), v3] [(0, s0)] M = if s0 = 0 then nb_R nb_P 50 9 [(19, l0), (0, l1), (0, l2), v3] [] M else nb_R nb_P 50 10 [(19, l0), (0, l1), (0, l2), v3] [] M :=
  nb_step (c := true) rfl rfl
theorem q_c_bell_9 (v0 v1 v2 v3 : nb_V) (M : nb_M) :
    nb_R nb_P 50 9 [v0, v1, v2, v3] [] M = some ([(0, (-1))], M) :=
  nb_step (c := true) rfl rfl
theorem q_c_bell_10 (l0 l1 l2 : Int) (v3 : nb_V) (M : nb_M) (h1 : l0 ≠ 0) :
    nb_R nb_P 50 10 [(19, l0), (0, l1), (0, l2), v3] [] M = (nb_R nb_P 23 0 [(19, l0)] [] M).bind fun r => nb_R nb_P 50 11 [(19, l0), (0, l1), (0, l2), v3] (r.1 ++ []) r.2 :=
  nb_stepC (c := true) (L2 := [(19, l0), (0, l1), (0, l2), v3]) (S2 := [(19, l0)]) (M2 := M) (t := 11) (cl := 23) (vi := true) rfl rfl (nb_inv_eq (n := 1) rfl rfl rfl rfl rfl rfl (fun _ => h1) rfl)
theorem q_c_bell_11 (l1 l2 s0 : Int) (v0 v3 : nb_V) (M : nb_M) (h1 : s0 ≠ 0) :
    nb_R nb_P 50 11 [v0, (0, l1), (0, l2), v3] [(15, s0)] M = nb_R nb_P 50 12 [v0, (0, l1), (0, l2), (15, s0)] [] (nb_wr M s0 8 l1) :=
  nb_step (c := (true && (!decide ((s0 : Int) = 0) && (!false || (decide ((l1 : Int) = 0) || decide ((l1 : Int) = 1)))))) rfl (by simp [h1])
theorem q_c_bell_12 (l2 l3 : Int) (v0 v1 : nb_V) (M : nb_M) (h1 : l3 ≠ 0) :
    nb_R nb_P 50 12 [v0, v1, (0, l2), (15, l3)] [] M = (nb_R nb_P 257 0 [(15, l3), (0, nb_rd M l3 8), (98, 0), (98, 0)] [] M).bind fun r => nb_R nb_P 50 13 [v0, v1, (0, l2), (15, l3)] (r.1 ++ []) r.2 :=
  nb_stepC (c := (true && !decide ((l3 : Int) = 0))) (L2 := [v0, v1, (0, l2), (15, l3)]) (S2 := [(0, nb_rd M l3 8), (15, l3)]) (M2 := M) (t := 13) (cl := 257) (vi := true) rfl (by simp [h1]) (nb_inv_eq (n := 2) rfl rfl rfl rfl rfl rfl (fun _ => h1) rfl)
theorem q_c_bell_13 (l2 l3 : Int) (v0 v1 : nb_V) (M : nb_M) (h1 : l3 ≠ 0) :
    nb_R nb_P 50 13 [v0, v1, (0, l2), (15, l3)] [] M = (nb_R nb_P 268 0 [(15, l3), (0, l2)] [] M).bind fun r => nb_R nb_P 50 14 [v0, v1, (0, l2), (15, l3)] (r.1 ++ []) r.2 :=
  nb_stepC (c := true) (L2 := [v0, v1, (0, l2), (15, l3)]) (S2 := [(0, l2), (15, l3)]) (M2 := M) (t := 14) (cl := 268) (vi := true) rfl rfl (nb_inv_eq (n := 2) rfl rfl rfl rfl rfl rfl (fun _ => h1) rfl)
theorem q_c_bell_14 (s0 : Int) (v0 v1 v2 v3 : nb_V) (M : nb_M) :
    nb_R nb_P 50 14 [v0, v1, v2, v3] [(0, s0)] M = some ([(0, s0)], M) :=
  nb_step (c := true) rfl rfl
theorem q_c_waitingAt_0 (l0 l1 : Int) (v2 : nb_V) (M : nb_M) (h1 : l0 ≠ 0) :
    nb_R nb_P 51 0 [(19, l0), (0, l1), v2] [] M = (nb_R nb_P 8 0 [(19, l0)] [] M).bind fun r => nb_R nb_P 51 1 [(19, l0), (0, l1), v2] (r.1 ++ [(19, l0)]) r.2 :=
  nb_stepC (c := true) (L2 := [(19, l0), (0, l1), v2]) (S2 := [(19, l0), (19, l0)]) (M2 := M) (t := 1) (cl := 8) (vi := true) rfl rfl (nb_inv_eq (n := 1) rfl rfl rfl rfl rfl rfl (fun _ => h1) rfl)
theorem q_c_waitingAt_1 (l0 l1 s0 s1 : Int) (v2 : nb_V) (M : nb_M) (h1 : s1 ≠ 0) :
    nb_R nb_P 51 1 [(19, l0), (0, l1), v2] [(0, s0), (19, s1)] M = (nb_R nb_P 7 0 [(19, s1), (0, s0), (0, 1)] [] M).bind fun r => nb_R nb_P 51 2 [(19, l0), (0, l1), v2] (r.1 ++ []) r.2 :=
  nb_stepC (c := true) (L2 := [(19, l0), (0, l1), v2]) (S2 := [(0, 1), (0, s0), (19, s1)]) (M2 := M) (t := 2) (cl := 7) (vi := true) rfl rfl (nb_inv_eq (n := 3) rfl rfl rfl rfl rfl rfl (fun _ => h1) rfl)
theorem q_c_waitingAt_2 (l0 l1 s0 : Int) (v2 : nb_V) (M : nb_M) :
    nb_R nb_P 51 2 [(19, l0), (0, l1), v2] [(0, s0)] M = if s0 = 0 then nb_R nb_P 51 9 [(19, l0), (0, l1), v2] [] M else nb_R nb_P 51 3 [(19, l0), (0, l1), v2] [] M :=
  nb_step (c := true) rfl rfl
theorem q_c_waitingAt_3 (l0 l1 : Int) (v2 : nb_V) (M : nb_M) (h1 : l0 ≠ 0) (h2 : (nb_rd M l0 5) ≠ 0) :
    nb_R nb_P 51 3 [(19, l0), (0, l1), v2] [] M = if l1 < nb_rd M (nb_rd M l0 5) 7 then nb_R nb_P 51 6 [(19, l0), (0, l1), v2] [(19, l0)] M else nb_R nb_P 51 4 [(19, l0), (0, l1), v2] [(19, l0)] M :=
  nb_step (c := ((true && !decide ((l0 : Int) = 0)) && !decide ((nb_rd M l0 5 : Int) = 0))) rfl (by simp [h1, h2])
theorem q_c_waitingAt_4 (l0 l1 s0 : Int) (v2 : nb_V) (M : nb_M) (h1 : l0 ≠ 0) (h2 : (nb_rd M l0 2) ≠ 0) :
    nb_R nb_P 51 4 [(19, l0), (0, l1), v2] [(19, s0)] M = if nb_rd M (nb_rd M l0 2) 10 < l1 then nb_R nb_P 51 6 [(19, l0), (0, l1), v2] [(19, s0)] M else nb_R nb_P 51 5 [(19, l0), (0, l1), v2] [(19, s0)] M :=
  nb_step (c := ((true && !decide ((l0 : Int) = 0)) && !decide ((nb_rd M l0 2 : Int) = 0))) rfl (by simp [h1, h2])
theorem q_c_waitingAt_5 (l0 l1 s0 : Int) (v2 : nb_V) (M : nb_M) :
    nb_R nb_P 51 5 [(19, l0), (0, l1), v2] [(19, s0)] M = nb_R nb_P 51 7 [(19, l0), (0, l1), v2] [(0, 1), (19, s0)] M :=
  nb_step (c := true) rfl rfl
theorem q_c_waitingAt_6 (l0 l1 s0 : Int) (v2 : nb_V) (M : nb_M) :
    nb_R nb_P 51 6 [(19, l0), (0, l1), v2] [(19, s0)] M = nb_R nb_P 51 7 [(19, l0), (0, l1), v2] [(0, 0), (19, s0)] M :=
  nb_step (c := true) rfl rfl
theorem q_c_waitingAt_7 (l0 l1 s0 s1 : Int) (v2 : nb_V) (M : nb_M) (h1 : s1 ≠ 0) :
    nb_R nb_P 51 7 [(19, l0), (0, l1), v2] [(0, s0), (19, s1)] M = (nb_R nb_P 7 0 [(19, s1), (0, s0), (0, 2)] [] M).bind fun r => nb_R nb_P 51 8 [(19, l0), (0, l1), v2] (r.1 ++ []) r.2 :=
  nb_stepC (c := true) (L2 := [(19, l0), (0, l1), v2]) (S2 := [(0, 2), (0, s0), (19, s1)]) (M2 := M) (t := 8) (cl := 7) (vi := true) rfl rfl (nb_inv_eq (n := 3) rfl rfl rfl rfl rfl rfl (fun _ => h1) rfl)
theorem q_c_waitingAt_8 (l0 l1 s0 : Int) (v2 : nb_V) (M : nb_M) :
    nb_R nb_P 51 8 [(19, l0), (0, l1), v2] [(0, s0)] M = if s0 = 0 then nb_R nb_P 51 9 [(19, l0), (0, l1), v2] [] M else nb_R nb_P 51 10 [(19, l0), (0, l1), v2] [] M :=
  nb_step (c := true) rfl rfl
theorem q_c_waitingAt_9 (v0 v1 v2 : nb_V) (M : nb_M) :
    nb_R nb_P 51 9 [v0, v1, v2] [] M = some ([(0, (-1))], M) :=
  nb_step (c := true) rfl rfl
theorem q_c_waitingAt_10 (l0 l1 : Int) (v2 : nb_V) (M : nb_M) (h1 : l0 ≠ 0) :
    nb_R nb_P 51 10 [(19, l0), (0, l1), v2] [] M = (nb_R nb_P 23 0 [(19, l0)] [] M).bind fun r => nb_R nb_P 51 11 [(19, l0), (0, l1), v2] (r.1 ++ []) r.2 :=
  nb_stepC (c := true) (L2 := [(19, l0), (0, l1), v2]) (S2 := [(19, l0)]) (M2 := M) (t := 11) (cl := 23) (vi := true) rfl rfl (nb_inv_eq (n := 1) rfl rfl rfl rfl rfl rfl (fun _ => h1) rfl)
theorem q_c_waitingAt_11 (l1 s0 : Int) (v0 v2 : nb_V) (M : nb_M) (h1 : s0 ≠ 0) :
    nb_R nb_P 51 11 [v0, (0, l1), v2] [(15, s0)] M = (nb_R nb_P 257 0 [(15, s0), (0, l1), (98, 0), (98, 0)] [] M).bind fun r => nb_R nb_P 51 12 [v0, (0, l1), (15, s0)] (r.1 ++ []) r.2 :=
  nb_stepC (c := true) (L2 := [v0, (0, l1), (15, s0)]) (S2 := [(0, l1), (15, s0)]) (M2 := M) (t := 12) (cl := 257) (vi := true) rfl rfl (nb_inv_eq (n := 2) rfl rfl rfl rfl rfl rfl (fun _ => h1) rfl)
theorem q_c_waitingAt_12 (l2 : Int) (v0 v1 : nb_V) (M : nb_M) (h1 : l2 ≠ 0) :
    nb_R nb_P 51 12 [v0, v1, (15, l2)] [] M = (nb_R nb_P 265 0 [(15, l2), (0, 1), (98, 0), (98, 0)] [] M).bind fun r => nb_R nb_P 51 13 [v0, v1, (15, l2)] (r.1 ++ []) r.2 :=
  nb_stepC (c := true) (L2 := [v0, v1, (15, l2)]) (S2 := [(0, 1), (15, l2)]) (M2 := M) (t := 13) (cl := 265) (vi := true) rfl rfl (nb_inv_eq (n := 2) rfl rfl rfl rfl rfl rfl (fun _ => h1) rfl)
theorem q_c_waitingAt_13 (s0 : Int) (v0 v1 v2 : nb_V) (M : nb_M) :
    nb_R nb_P 51 13 [v0, v1, v2] [(0, s0)] M = some ([(0, s0)], M) :=
  nb_step (c := true) rfl rfl
theorem q_c_honesty_0 (l0 l1 l2 : Int) (M : nb_M) (h1 : l0 ≠ 0) :
    nb_R nb_P 52 0 [(19, l0), (0, l1), (0, l2)] [] M = (nb_R nb_P 53 0 [(19, l0), (0, l1)] [] M).bind fun r => nb_R nb_P 52 1 [(19, l0), (0, l1), (0, l2)] (r.1 ++ []) r.2 :=
  nb_stepC (c := true) (L2 := [(19, l0), (0, l1), (0, l2)]) (S2 := [(0, l1), (19, l0)]) (M2 := M) (t := 1) (cl := 53) (vi := true) rfl rfl (nb_inv_eq (n := 2) rfl rfl rfl rfl rfl rfl (fun _ => h1) rfl)
theorem q_c_honesty_1 (l0 l1 l2 s0 : Int) (M : nb_M) :
    nb_R nb_P 52 1 [(19, l0), (0, l1), (0, l2)] [(0, s0)] M = if s0 = 0 then nb_R nb_P 52 2 [(19, l0), (0, l1), (0, l2)] [] M else nb_R nb_P 52 3 [(19, l0), (0, l1), (0, l2)] [] M :=
  nb_step (c := true) rfl rfl
theorem q_c_honesty_2 (v0 v1 v2 : nb_V) (M : nb_M) :
    nb_R nb_P 52 2 [v0, v1, v2] [] M = some ([(0, (-1))], M) :=
  nb_step (c := true) rfl rfl
theorem q_c_honesty_3 (l0 l1 l2 : Int) (M : nb_M) (h1 : l0 ≠ 0) :
    nb_R nb_P 52 3 [(19, l0), (0, l1), (0, l2)] [] M = (nb_R nb_P 54 0 [(19, l0), (0, l1), (98, 0)] [] M).bind fun r => nb_R nb_P 52 4 [(19, l0), (0, l1), (0, l2)] (r.1 ++ []) r.2 :=
  nb_stepC (c := true) (L2 := [(19, l0), (0, l1), (0, l2)]) (S2 := [(0, l1), (19, l0)]) (M2 := M) (t := 4) (cl := 54) (vi := true) rfl rfl (nb_inv_eq (n := 2) rfl rfl rfl rfl rfl rfl (fun _ => h1) rfl)
theorem q_c_honesty_4 (l1 l2 s0 : Int) (v0 : nb_V) (M : nb_M) :
    nb_R nb_P 52 4 [v0, (0, l1), (0, l2)] [(15, s0)] M = if l2 = 0 then nb_R nb_P 52 6 [v0, (0, l1), (0, l2)] [(15, s0)] M else nb_R nb_P 52 5 [v0, (0, l1), (0, l2)] [(15, s0)] M :=
  nb_step (c := true) rfl rfl
theorem q_c_honesty_5 (l1 s0 : Int) (v0 v2 : nb_V) (M : nb_M) :
    nb_R nb_P 52 5 [v0, (0, l1), v2] [(15, s0)] M = nb_R nb_P 52 7 [v0, (0, l1), v2] [(0, nb_xor l1 ((-1))), (15, s0)] M :=
  nb_step (c := true) rfl rfl
theorem q_c_honesty_6 (l1 s0 : Int) (v0 v2 : nb_V) (M : nb_M) :
    nb_R nb_P 52 6 [v0, (0, l1), v2] [(15, s0)] M = nb_R nb_P 52 7 [v0, (0, l1), v2] [(0, l1), (15, s0)] M :=
  nb_step (c := true) rfl rfl
theorem q_c_honesty_7 (s0 s1 : Int) (v0 v1 v2 : nb_V) (M : nb_M) (h1 : s1 ≠ 0) :
    nb_R nb_P 52 7 [v0, v1, v2] [(0, s0), (15, s1)] M = (nb_R nb_P 270 0 [(15, s1), (0, s0), (98, 0), (98, 0)] [] M).bind fun r => nb_R nb_P 52 8 [v0, v1, v2] (r.1 ++ []) r.2 :=
  nb_stepC (c := true) (L2 := [v0, v1, v2]) (S2 := [(0, s0), (15, s1)]) (M2 := M) (t := 8) (cl := 270) (vi := true) rfl rfl (nb_inv_eq (n := 2) rfl rfl rfl rfl rfl rfl (fun _ => h1) rfl)
theorem q_c_honesty_8 (s0 : Int) (v0 v1 v2 : nb_V) (M : nb_M) :
    nb_R nb_P 52 8 [v0, v1, v2] [(0, s0)] M = some ([(0, s0)], M) :=
  nb_step (c := true) rfl rfl
theorem q_c_isSet_0 (l0 l1 : Int) (M : nb_M) (h1 : l0 ≠ 0) :
    nb_R nb_P 53 0 [(19, l0), (0, l1)] [] M = (nb_R nb_P 8 0 [(19, l0)] [] M).bind fun r => nb_R nb_P 53 1 [(19, l0), (0, l1)] (r.1 ++ [(19, l0)]) r.2 :=
  nb_stepC (c := true) (L2 := [(19, l0), (0, l1)]) (S2 := [(19, l0), (19, l0)]) (M2 := M) (t := 1) (cl := 8) (vi := true) rfl rfl (nb_inv_eq (n := 1) rfl rfl rfl rfl rfl rfl (fun _ => h1) rfl)
theorem q_c_isSet_1 (l0 l1 s0 s1 : Int) (M : nb_M) (h1 : s1 ≠ 0) :
    nb_R nb_P 53 1 [(19, l0), (0, l1)] [(0, s0), (19, s1)] M = (nb_R nb_P 7 0 [(19, s1), (0, s0), (0, 1)] [] M).bind fun r => nb_R nb_P 53 2 [(19, l0), (0, l1)] (r.1 ++ []) r.2 :=
  nb_stepC (c := true) (L2 := [(19, l0), (0, l1)]) (S2 := [(0, 1), (0, s0), (19, s1)]) (M2 := M) (t := 2) (cl := 7) (vi := true) rfl rfl (nb_inv_eq (n := 3) rfl rfl rfl rfl rfl rfl (fun _ => h1) rfl)
theorem q_c_isSet_2 (l0 l1 s0 : Int) (M : nb_M) :
    nb_R nb_P 53 2 [(19, l0), (0, l1)] [(0, s0)] M = if s0 = 0 then nb_R nb_P 53 10 [(19, l0), (0, l1)] [] M else nb_R nb_P 53 3 [(19, l0), (0, l1)] [] M :=
  nb_step (c := true) rfl rfl
theorem q_c_isSet_3 (l0 l1 : Int) (M : nb_M) :
    nb_R nb_P 53 3 [(19, l0), (0, l1)] [] M = if l1 < 0 then nb_R nb_P 53 6 [(19, l0), (0, l1)] [(19, l0)] M else nb_R nb_P 53 4 [(19, l0), (0, l1)] [(19, l0)] M :=
  nb_step (c := true) rfl rfl
theorem q_c_isSet_4 (l0 l1 s0 : Int) (M : nb_M) (h1 : l0 ≠ 0) (h2 : (nb_rd M l0 2) ≠ 0) :
    nb_R nb_P 53 4 [(19, l0), (0, l1)] [(19, s0)] M = if l1 < nb_shl 1 (nb_rd M (nb_rd M l0 2) 13) then nb_R nb_P 53 5 [(19, l0), (0, l1)] [(19, s0)] M else nb_R nb_P 53 6 [(19, l0), (0, l1)] [(19, s0)] M :=
  nb_step (c := ((true && !decide ((l0 : Int) = 0)) && !decide ((nb_rd M l0 2 : Int) = 0))) rfl (by simp [h1, h2])
theorem q_c_isSet_5 (s0 : Int) (v0 v1 : nb_V) (M : nb_M) :
    nb_R nb_P 53 5 [v0, v1] [(19, s0)] M = nb_R nb_P 53 7 [v0, v1] [(0, 1), (19, s0)] M :=
  nb_step (c := true) rfl rfl
theorem q_c_isSet_6 (s0 : Int) (v0 v1 : nb_V) (M : nb_M) :
    nb_R nb_P 53 6 [v0, v1] [(19, s0)] M = nb_R nb_P 53 7 [v0, v1] [(0, 0), (19, s0)] M :=
  nb_step (c := true) rfl rfl
theorem q_c_isSet_7 (s0 s1 : Int) (v0 v1 : nb_V) (M : nb_M) (h1 : s1 ≠ 0) :
    nb_R nb_P 53 7 [v0, v1] [(0, s0), (19, s1)] M = (nb_R nb_P 7 0 [(19, s1), (0, s0), (0, 2)] [] M).bind fun r => nb_R nb_P 53 8 [v0, v1] (r.1 ++ []) r.2 :=
  nb_stepC (c := true) (L2 := [v0, v1]) (S2 := [(0, 2), (0, s0), (19, s1)]) (M2 := M) (t := 8) (cl := 7) (vi := true) rfl rfl (nb_inv_eq (n := 3) rfl rfl rfl rfl rfl rfl (fun _ => h1) rfl)
theorem q_c_isSet_8 (s0 : Int) (v0 v1 : nb_V) (M : nb_M) :
    nb_R nb_P 53 8 [v0, v1] [(0, s0)] M = if s0 = 0 then nb_R nb_P 53 10 [v0, v1] [] M else nb_R nb_P 53 9 [v0, v1] [] M :=
  nb_step (c := true) rfl rfl
theorem q_c_isSet_9 (v0 v1 : nb_V) (M : nb_M) :
    nb_R nb_P 53 9 [v0, v1] [] M = nb_R nb_P 53 11 [v0, v1] [(0, 1)] M :=
  nb_step (c := true) rfl rfl
theorem q_c_isSet_10 (v0 v1 : nb_V) (M : nb_M) :
    nb_R nb_P 53 10 [v0, v1] [] M = nb_R nb_P 53 11 [v0, v1] [(0, 0)] M :=
  nb_step (c := true) rfl rfl
theorem q_c_isSet_11 (s0 : Int) (v0 v1 : nb_V) (M : nb_M) :
    nb_R nb_P 53 11 [v0, v1] [(0, s0)] M = some ([(0, nb_i2z s0)], M) :=
  nb_step (c := true) rfl rfl
theorem q_c_eveningOfLiars_0 (l0 l1 : Int) (v2 : nb_V) (M : nb_M) (h1 : l0 ≠ 0) (h2 : (nb_rd M l0 6) ≠ 0) :
    nb_R nb_P 54 0 [(19, l0), (0, l1), v2] [] M = (nb_R nb_P 254 0 [(15, nb_rd M l0 6), (12, nb_rd M l0 2), (98, 0)] [] M).bind fun r => nb_R nb_P 54 1 [(19, l0), (0, l1), v2] (r.1 ++ []) r.2 :=
  nb_stepC (c := ((true && !decide ((l0 : Int) = 0)) && !decide ((l0 : Int) = 0))) (L2 := [(19, l0), (0, l1), v2]) (S2 := [(12, nb_rd M l0 2), (15, nb_rd M l0 6)]) (M2 := M) (t := 1) (cl := 254) (vi := true) rfl (by simp [h1, h2]) (nb_inv_eq (n := 2) rfl rfl rfl rfl rfl rfl (fun _ => h2) rfl)
theorem q_c_eveningOfLiars_1 (l0 l1 : Int) (v2 : nb_V) (M : nb_M) :
    nb_R nb_P 54 1 [(19, l0), (0, l1), v2] [] M = nb_R nb_P 54 2 [(19, l0), (0, l1), (0, 0)] [] M :=
  nb_step (c := true) rfl rfl
theorem q_c_eveningOfLiars_2 (l0 l1 l2 : Int) (M : nb_M) (h1 : l0 ≠ 0) (h2 : (nb_rd M l0 2) ≠ 0) :
    nb_R nb_P 54 2 [(19, l0), (0, l1), (0, l2)] [] M = if l2 < nb_rd M (nb_rd M l0 2) 13 then nb_R nb_P 54 3 [(19, l0), (0, l1), (0, l2)] [] M else nb_R nb_P 54 8 [(19, l0), (0, l1), (0, l2)] [] M :=
  nb_step (c := ((true && !decide ((l0 : Int) = 0)) && !decide ((nb_rd M l0 2 : Int) = 0))) rfl (by simp [h1, h2])
theorem q_c_eveningOfLiars_3 (l0 l1 l2 : Int) (M : nb_M) (h1 : l0 ≠ 0) (h2 : (nb_rd M l0 6) ≠ 0) (h3 : (nb_rd M (nb_rd M l0 6) 0) ≠ 0) (h4 : (0 : Int) ≤ l2) (h5 : l2 < nb_ln M (nb_rd M (nb_rd M l0 6) 0)) :
    nb_R nb_P 54 3 [(19, l0), (0, l1), (0, l2)] [] M = if nb_and (nb_shr l1 l2) 1 = 1 then nb_R nb_P 54 4 [(19, l0), (0, l1), (0, l2)] [(11, nb_rd M (nb_rd M (nb_rd M l0 6) 0) l2)] M else nb_R nb_P 54 5 [(19, l0), (0, l1), (0, l2)] [(11, nb_rd M (nb_rd M (nb_rd M l0 6) 0) l2)] M :=
  nb_step (c := (((true && !decide ((l0 : Int) = 0)) && !decide ((nb_rd M l0 6 : Int) = 0)) && (!decide ((nb_rd M (nb_rd M l0 6) 0 : Int) = 0) && (decide ((0 : Int) ≤ l2) && decide (l2 < nb_ln M (nb_rd M (nb_rd M l0 6) 0)))))) rfl (by simp [h1, h2, h3, h4, h5])
theorem q_c_eveningOfLiars_4 (l0 l1 l2 s0 : Int) (M : nb_M) :
    nb_R nb_P 54 4 [(19, l0), (0, l1), (0, l2)] [(11, s0)] M = nb_R nb_P 54 6 [(19, l0), (0, l1), (0, l2)] [(0, 1), (11, s0)] M :=
  nb_step (c := true) rfl rfl
theorem q_c_eveningOfLiars_5 (l0 l1 l2 s0 : Int) (M : nb_M) :
    nb_R nb_P 54 5 [(19, l0), (0, l1), (0, l2)] [(11, s0)] M = nb_R nb_P 54 6 [(19, l0), (0, l1), (0, l2)] [(0, 0), (11, s0)] M :=
  nb_step (c := true) rfl rfl
theorem q_c_eveningOfLiars_6 (l0 l1 l2 s0 s1 : Int) (M : nb_M) (h1 : s1 ≠ 0) :
    nb_R nb_P 54 6 [(19, l0), (0, l1), (0, l2)] [(0, s0), (11, s1)] M = (nb_R nb_P 216 0 [(11, s1), (0, s0), (0, 30)] [] M).bind fun r => nb_R nb_P 54 7 [(19, l0), (0, l1), (0, l2)] (r.1 ++ []) r.2 :=
  nb_stepC (c := true) (L2 := [(19, l0), (0, l1), (0, l2)]) (S2 := [(0, 30), (0, s0), (11, s1)]) (M2 := M) (t := 7) (cl := 216) (vi := true) rfl rfl (nb_inv_eq (n := 3) rfl rfl rfl rfl rfl rfl (fun _ => h1) rfl)
theorem q_c_eveningOfLiars_7 (l0 l1 l2 : Int) (M : nb_M) :
    nb_R nb_P 54 7 [(19, l0), (0, l1), (0, l2)] [] M = nb_R nb_P 54 2 [(19, l0), (0, l1), (0, nb_add l2 1)] [] M :=
  nb_step (c := true) rfl rfl
theorem q_c_eveningOfLiars_8 (l0 : Int) (v1 v2 : nb_V) (M : nb_M) (h1 : l0 ≠ 0) (h2 : (nb_rd M l0 6) ≠ 0) :
    nb_R nb_P 54 8 [(19, l0), v1, v2] [] M = (nb_R nb_P 257 0 [(15, nb_rd M l0 6), (0, nb_rd M (nb_rd M l0 6) 8), (98, 0), (98, 0)] [] M).bind fun r => nb_R nb_P 54 9 [(19, l0), v1, v2] (r.1 ++ []) r.2 :=
  nb_stepC (c := (((true && !decide ((l0 : Int) = 0)) && !decide ((l0 : Int) = 0)) && !decide ((nb_rd M l0 6 : Int) = 0))) (L2 := [(19, l0), v1, v2]) (S2 := [(0, nb_rd M (nb_rd M l0 6) 8), (15, nb_rd M l0 6)]) (M2 := M) (t := 9) (cl := 257) (vi := true) rfl (by simp [h1, h2]) (nb_inv_eq (n := 2) rfl rfl rfl rfl rfl rfl (fun _ => h2) rfl)
theorem q_c_eveningOfLiars_9 (l0 : Int) (v1 v2 : nb_V) (M : nb_M) (h1 : l0 ≠ 0) :
    nb_R nb_P 54 9 [(19, l0), v1, v2] [] M = some ([(15, nb_rd M l0 6)], M) :=
  nb_step (c := (true && !decide ((l0 : Int) = 0))) rfl (by simp [h1])
theorem q_c_rest_0 (l0 l1 : Int) (v2 v3 : nb_V) (M : nb_M) (h1 : l0 ≠ 0) :
    nb_R nb_P 55 0 [(19, l0), (0, l1), v2, v3] [] M = (nb_R nb_P 53 0 [(19, l0), (0, l1)] [] M).bind fun r => nb_R nb_P 55 1 [(19, l0), (0, l1), v2, v3] (r.1 ++ []) r.2 :=
  nb_stepC (c := true) (L2 := [(19, l0), (0, l1), v2, v3]) (S2 := [(0, l1), (19, l0)]) (M2 := M) (t := 1) (cl := 53) (vi := true) rfl rfl (nb_inv_eq (n := 2) rfl rfl rfl rfl rfl rfl (fun _ => h1) rfl)
theorem q_c_rest_1 (l0 l1 s0 : Int) (v2 v3 : nb_V) (M : nb_M) :
    nb_R nb_P 55 1 [(19, l0), (0, l1), v2, v3] [(0, s0)] M = if s0 = 0 then nb_R nb_P 55 2 [(19, l0), (0, l1), v2, v3] [] M else nb_R nb_P 55 3 [(19, l0), (0, l1), v2, v3] [] M :=
  nb_step (c := true) rfl rfl
theorem q_c_rest_2 (v0 v1 v2 v3 : nb_V) (M : nb_M) :
    nb_R nb_P 55 2 [v0, v1, v2, v3] [] M = some ([(0, (-1))], M) :=
  nb_step (c := true) rfl rfl
theorem q_c_rest_3 (l0 l1 : Int) (v2 v3 : nb_V) (M : nb_M) :
    nb_R nb_P 55 3 [(19, l0), (0, l1), v2, v3] [] M = nb_R nb_P 55 4 [(19, l0), (0, l1), (0, 0), v3] [] M :=
  nb_step (c := true) rfl rfl
theorem q_c_rest_4 (l0 l1 l2 : Int) (v3 : nb_V) (M : nb_M) (h1 : l0 ≠ 0) (h2 : (nb_rd M l0 2) ≠ 0) :
    nb_R nb_P 55 4 [(19, l0), (0, l1), (0, l2), v3] [] M = if l2 < nb_rd M (nb_rd M l0 2) 13 then nb_R nb_P 55 5 [(19, l0), (0, l1), (0, l2), v3] [] M else nb_R nb_P 55 12 [(19, l0), (0, l1), (0, l2), v3] [] M :=
  nb_step (c := ((true && !decide ((l0 : Int) = 0)) && !decide ((nb_rd M l0 2 : Int) = 0))) rfl (by simp [h1, h2])
theorem q_c_rest_5 (l0 l1 l2 : Int) (v3 : nb_V) (M : nb_M) (h1 : l0 ≠ 0) :
    nb_R nb_P 55 5 [(19, l0), (0, l1), (0, l2), v3] [] M = (nb_R nb_P 54 0 [(19, l0), (0, l1), (98, 0)] [] M).bind fun r => nb_R nb_P 55 6 [(19, l0), (0, l1), (0, l2), v3] (r.1 ++ []) r.2 :=
  nb_stepC (c := true) (L2 := [(19, l0), (0, l1), (0, l2), v3]) (S2 := [(0, l1), (19, l0)]) (M2 := M) (t := 6) (cl := 54) (vi := true) rfl rfl (nb_inv_eq (n := 2) rfl rfl rfl rfl rfl rfl (fun _ => h1) rfl)
theorem q_c_rest_6 (l0 l1 l2 s0 : Int) (v3 : nb_V) (M : nb_M) (h1 : s0 ≠ 0) :
    nb_R nb_P 55 6 [(19, l0), (0, l1), (0, l2), v3] [(15, s0)] M = (nb_R nb_P 266 0 [(15, s0), (0, l2), (98, 0)] [] M).bind fun r => nb_R nb_P 55 7 [(19, l0), (0, l1), (0, l2), v3] (r.1 ++ []) r.2 :=
  nb_stepC (c := true) (L2 := [(19, l0), (0, l1), (0, l2), v3]) (S2 := [(0, l2), (15, s0)]) (M2 := M) (t := 7) (cl := 266) (vi := true) rfl rfl (nb_inv_eq (n := 2) rfl rfl rfl rfl rfl rfl (fun _ => h1) rfl)
theorem q_c_rest_7 (l0 l1 l2 s0 : Int) (v3 : nb_V) (M : nb_M) (h1 : l0 ≠ 0) :
    nb_R nb_P 55 7 [(19, l0), (0, l1), (0, l2), v3] [(0, s0)] M = (nb_R nb_P 54 0 [(19, l0), (0, nb_xor l1 (nb_shl 1 l2)), (98, 0)] [] M).bind fun r => nb_R nb_P 55 8 [(19, l0), (0, l1), (0, l2), (0, s0)] (r.1 ++ []) r.2 :=
  nb_stepC (c := true) (L2 := [(19, l0), (0, l1), (0, l2), (0, s0)]) (S2 := [(0, nb_xor l1 (nb_shl 1 l2)), (19, l0)]) (M2 := M) (t := 8) (cl := 54) (vi := true) rfl rfl (nb_inv_eq (n := 2) rfl rfl rfl rfl rfl rfl (fun _ => h1) rfl)
theorem q_c_rest_8 (l0 l1 l2 l3 s0 : Int) (M : nb_M) (h1 : s0 ≠ 0) :
    nb_R nb_P 55 8 [(19, l0), (0, l1), (0, l2), (0, l3)] [(15, s0)] M = (nb_R nb_P 266 0 [(15, s0), (0, l2), (98, 0)] [] M).bind fun r => nb_R nb_P 55 9 [(19, l0), (0, l1), (0, l2), (0, l3)] (r.1 ++ []) r.2 :=
  nb_stepC (c := true) (L2 := [(19, l0), (0, l1), (0, l2), (0, l3)]) (S2 := [(0, l2), (15, s0)]) (M2 := M) (t := 9) (cl := 266) (vi := true) rfl rfl (nb_inv_eq (n := 2) rfl rfl rfl rfl rfl rfl (fun _ => h1) rfl)
theorem q_c_rest_9 (l0 l1 l2 l3 s0 : Int) (M : nb_M) :
    nb_R nb_P 55 9 [(19, l0), (0, l1), (0, l2), (0, l3)] [(0, s0)] M = if s0 < l3 then nb_R nb_P 55 10 [(19, l0), (0, l1), (0, l2), (0, l3)] [] M else nb_R nb_P 55 11 [(19, l0), (0, l1), (0, l2), (0, l3)] [] M :=
  nb_step (c := true) rfl rfl
theorem q_c_rest_10 (v0 v1 v2 v3 : nb_V) (M : nb_M) :
    nb_R nb_P 55 10 [v0, v1, v2, v3] [] M = some ([(0, 0)], M) :=
  nb_step (c := true) rfl rfl
theorem q_c_rest_11 (l0 l1 l2 : Int) (v3 : nb_V) (M : nb_M) :
    nb_R nb_P 55 11 [(19, l0), (0, l1), (0, l2), v3] [] M = nb_R nb_P 55 4 [(19, l0), (0, l1), (0, nb_add l2 1), v3] [] M :=
  nb_step (c := true) rfl rfl
theorem q_c_rest_12 (v0 v1 v2 v3 : nb_V) (M : nb_M) :
    nb_R nb_P 55 12 [v0, v1, v2, v3] [] M = some ([(0, 1)], M) :=
  nb_step (c := true) rfl rfl
theorem q_c_rests_0 (l0 : Int) (v1 v2 v3 : nb_V) (M : nb_M) (h1 : l0 ≠ 0) :
    nb_R nb_P 56 0 [(19, l0), v1, v2, v3] [] M = (nb_R nb_P 8 0 [(19, l0)] [] M).bind fun r => nb_R nb_P 56 1 [(19, l0), v1, v2, v3] (r.1 ++ [(19, l0)]) r.2 :=
  nb_stepC (c := true) (L2 := [(19, l0), v1, v2, v3]) (S2 := [(19, l0), (19, l0)]) (M2 := M) (t := 1) (cl := 8) (vi := true) rfl rfl (nb_inv_eq (n := 1) rfl rfl rfl rfl rfl rfl (fun _ => h1) rfl)
theorem q_c_rests_1 (l0 s0 s1 : Int) (v1 v2 v3 : nb_V) (M : nb_M) (h1 : s1 ≠ 0) :
    nb_R nb_P 56 1 [(19, l0), v1, v2, v3] [(0, s0), (19, s1)] M = (nb_R nb_P 7 0 [(19, s1), (0, s0), (0, 1)] [] M).bind fun r => nb_R nb_P 56 2 [(19, l0), v1, v2, v3] (r.1 ++ []) r.2 :=
  nb_stepC (c := true) (L2 := [(19, l0), v1, v2, v3]) (S2 := [(0, 1), (0, s0), (19, s1)]) (M2 := M) (t := 2) (cl := 7) (vi := true) rfl rfl (nb_inv_eq (n := 3) rfl rfl rfl rfl rfl rfl (fun _ => h1) rfl)
theorem q_c_rests_2 (l0 s0 : Int) (v1 v2 v3 : nb_V) (M : nb_M) :
    nb_R nb_P 56 2 [(19, l0), v1, v2, v3] [(0, s0)] M = if s0 = 0 then nb_R nb_P 56 8 [(19, l0), v1, v2, v3] [] M else nb_R nb_P 56 3 [(19, l0), v1, v2, v3] [] M :=
  nb_step (c := true) rfl rfl
theorem q_c_rests_3 (l0 : Int) (v1 v2 v3 : nb_V) (M : nb_M) (h1 : l0 ≠ 0) (h2 : (nb_rd M l0 2) ≠ 0) :
    nb_R nb_P 56 3 [(19, l0), v1, v2, v3] [] M = if 7 < nb_rd M (nb_rd M l0 2) 13 then nb_R nb_P 56 5 [(19, l0), v1, v2, v3] [(19, l0)] M else nb_R nb_P 56 4 [(19, l0), v1, v2, v3] [(19, l0)] M :=
  nb_step (c := ((true && !decide ((l0 : Int) = 0)) && !decide ((nb_rd M l0 2 : Int) = 0))) rfl (by simp [h1, h2])
theorem q_c_rests_4 (l0 s0 : Int) (v1 v2 v3 : nb_V) (M : nb_M) :
    nb_R nb_P 56 4 [(19, l0), v1, v2, v3] [(19, s0)] M = nb_R nb_P 56 6 [(19, l0), v1, v2, v3] [(0, 1), (19, s0)] M :=
  nb_step (c := true) rfl rfl
theorem q_c_rests_5 (l0 s0 : Int) (v1 v2 v3 : nb_V) (M : nb_M) :
    nb_R nb_P 56 5 [(19, l0), v1, v2, v3] [(19, s0)] M = nb_R nb_P 56 6 [(19, l0), v1, v2, v3] [(0, 0), (19, s0)] M :=
  nb_step (c := true) rfl rfl
theorem q_c_rests_6 (l0 s0 s1 : Int) (v1 v2 v3 : nb_V) (M : nb_M) (h1 : s1 ≠ 0) :
    nb_R nb_P 56 6 [(19, l0), v1, v2, v3] [(0, s0), (19, s1)] M = (nb_R nb_P 7 0 [(19, s1), (0, s0), (0, 3)] [] M).bind fun r => nb_R nb_P 56 7 [(19, l0), v1, v2, v3] (r.1 ++ []) r.2 :=
  nb_stepC (c := true) (L2 := [(19, l0), v1, v2, v3]) (S2 := [(0, 3), (0, s0), (19, s1)]) (M2 := M) (t := 7) (cl := 7) (vi := true) rfl rfl (nb_inv_eq (n := 3) rfl rfl rfl rfl rfl rfl (fun _ => h1) rfl)
theorem q_c_rests_7 (l0 s0 : Int) (v1 v2 v3 : nb_V) (M : nb_M) :
    nb_R nb_P 56 7 [(19, l0), v1, v2, v3] [(0, s0)] M = if s0 = 0 then nb_R nb_P 56 8 [(19, l0), v1, v2, v3] [] M else nb_R nb_P 56 9 [(19, l0), v1, v2, v3] [] M :=
  nb_step (c := true) rfl rfl
theorem q_c_rests_8 (v0 v1 v2 v3 : nb_V) (M : nb_M) :
    nb_R nb_P 56 8 [v0, v1, v2, v3] [] M = some ([(0, (-1))], M) :=
  nb_step (c := true) rfl rfl
theorem q_c_rests_9 (l0 : Int) (v1 v2 v3 : nb_V) (M : nb_M) :
    nb_R nb_P 56 9 [(19, l0), v1, v2, v3] [] M = nb_R nb_P 56 10 [(19, l0), (0, 0), v2, v3] [] M :=
  nb_step (c := true) rfl rfl
theorem q_c_rests_10 (l0 l1 : Int) (v2 v3 : nb_V) (M : nb_M) (h1 : l0 ≠ 0) (h2 : (nb_rd M l0 2) ≠ 0) :
    nb_R nb_P 56 10 [(19, l0), (0, l1), v2, v3] [] M = if l1 < nb_shl 1 (nb_rd M (nb_rd M l0 2) 13) then nb_R nb_P 56 11 [(19, l0), (0, l1), v2, v3] [] M else nb_R nb_P 56 18 [(19, l0), (0, l1), v2, v3] [] M :=
  nb_step (c := ((true && !decide ((l0 : Int) = 0)) && !decide ((nb_rd M l0 2 : Int) = 0))) rfl (by simp [h1, h2])
theorem q_c_rests_11 (l0 l1 : Int) (v2 v3 : nb_V) (M : nb_M) (h1 : l0 ≠ 0) :
    nb_R nb_P 56 11 [(19, l0), (0, l1), v2, v3] [] M = (nb_R nb_P 54 0 [(19, l0), (0, l1), (98, 0)] [] M).bind fun r => nb_R nb_P 56 12 [(19, l0), (0, l1), v2, v3] (r.1 ++ []) r.2 :=
  nb_stepC (c := true) (L2 := [(19, l0), (0, l1), v2, v3]) (S2 := [(0, l1), (19, l0)]) (M2 := M) (t := 12) (cl := 54) (vi := true) rfl rfl (nb_inv_eq (n := 2) rfl rfl rfl rfl rfl rfl (fun _ => h1) rfl)
theorem q_c_rests_12 (l0 l1 s0 : Int) (v2 v3 : nb_V) (M : nb_M) :
    nb_R nb_P 56 12 [(19, l0), (0, l1), v2, v3] [(15, s0)] M = nb_R nb_P 56 13 [(19, l0), (0, l1), (15, s0), (0, 0)] [] M :=
  nb_step (c := true) rfl rfl
theorem q_c_rests_13 (l0 l1 l2 l3 : Int) (M : nb_M) (h1 : l0 ≠ 0) (h2 : (nb_rd M l0 2) ≠ 0) :
    nb_R nb_P 56 13 [(19, l0), (0, l1), (15, l2), (0, l3)] [] M = if l3 < nb_rd M (nb_rd M l0 2) 13 then nb_R nb_P 56 14 [(19, l0), (0, l1), (15, l2), (0, l3)] [] M else nb_R nb_P 56 17 [(19, l0), (0, l1), (15, l2), (0, l3)] [] M :=
  nb_step (c := ((true && !decide ((l0 : Int) = 0)) && !decide ((nb_rd M l0 2 : Int) = 0))) rfl (by simp [h1, h2])
theorem q_c_rests_14 (l0 l1 l2 l3 : Int) (M : nb_M) (h1 : l0 ≠ 0) (h2 : (nb_rd M l0 14) ≠ 0) (h3 : (0 : Int) ≤ l1) (h4 : l1 < nb_ln M (nb_rd M l0 14)) (h5 : l2 ≠ 0) :
    nb_R nb_P 56 14 [(19, l0), (0, l1), (15, l2), (0, l3)] [] M = (nb_R nb_P 266 0 [(15, l2), (0, l3), (98, 0)] [] M).bind fun r => nb_R nb_P 56 15 [(19, l0), (0, l1), (15, l2), (0, l3)] (r.1 ++ [(0, l3), (3, nb_rd M (nb_rd M l0 14) l1)]) r.2 :=
  nb_stepC (c := ((true && !decide ((l0 : Int) = 0)) && (!decide ((nb_rd M l0 14 : Int) = 0) && (decide ((0 : Int) ≤ l1) && decide (l1 < nb_ln M (nb_rd M l0 14)))))) (L2 := [(19, l0), (0, l1), (15, l2), (0, l3)]) (S2 := [(0, l3), (15, l2), (0, l3), (3, nb_rd M (nb_rd M l0 14) l1)]) (M2 := M) (t := 15) (cl := 266) (vi := true) rfl (by simp [h1, h2, h3, h4, h5]) (nb_inv_eq (n := 2) rfl rfl rfl rfl rfl rfl (fun _ => h5) rfl)
theorem q_c_rests_15 (l0 l1 l2 l3 s0 s1 s2 : Int) (M : nb_M) (h1 : s2 ≠ 0) (h2 : s2 ≠ 1) (h3 : (0 : Int) ≤ s1) (h4 : s1 < nb_ln M s2) :
    nb_R nb_P 56 15 [(19, l0), (0, l1), (15, l2), (0, l3)] [(0, s0), (0, s1), (3, s2)] M = nb_R nb_P 56 16 [(19, l0), (0, l1), (15, l2), (0, l3)] [] (nb_wr M s2 s1 s0) :=
  nb_step (c := (true && (!decide ((s2 : Int) = 0) && (!decide ((s2 : Int) = 1) && (decide ((0 : Int) ≤ s1) && decide (s1 < nb_ln M s2)))))) rfl (by simp [h1, h2, h3, h4])
theorem q_c_rests_16 (l0 l1 l2 l3 : Int) (M : nb_M) :
    nb_R nb_P 56 16 [(19, l0), (0, l1), (15, l2), (0, l3)] [] M = nb_R nb_P 56 13 [(19, l0), (0, l1), (15, l2), (0, nb_add l3 1)] [] M :=
  nb_step (c := true) rfl rfl
theorem q_c_rests_17 (l0 l1 : Int) (v2 v3 : nb_V) (M : nb_M) :
    nb_R nb_P 56 17 [(19, l0), (0, l1), v2, v3] [] M = nb_R nb_P 56 10 [(19, l0), (0, nb_add l1 1), v2, v3] [] M :=
  nb_step (c := true) rfl rfl
theorem q_c_rests_18 (l0 : Int) (v1 v2 v3 : nb_V) (M : nb_M) :
    nb_R nb_P 56 18 [(19, l0), v1, v2, v3] [] M = nb_R nb_P 56 19 [(19, l0), (0, 0), (0, 0), v3] [] M :=
  nb_step (c := true) rfl rfl
theorem q_c_rests_19 (l0 l1 l2 : Int) (v3 : nb_V) (M : nb_M) (h1 : l0 ≠ 0) (h2 : (nb_rd M l0 2) ≠ 0) :
    nb_R nb_P 56 19 [(19, l0), (0, l1), (0, l2), v3] [] M = if l2 < nb_shl 1 (nb_rd M (nb_rd M l0 2) 13) then nb_R nb_P 56 20 [(19, l0), (0, l1), (0, l2), v3] [] M else nb_R nb_P 56 24 [(19, l0), (0, l1), (0, l2), v3] [] M :=
  nb_step (c := ((true && !decide ((l0 : Int) = 0)) && !decide ((nb_rd M l0 2 : Int) = 0))) rfl (by simp [h1, h2])
theorem q_c_rests_20 (l0 l1 l2 : Int) (v3 : nb_V) (M : nb_M) (h1 : l0 ≠ 0) :
    nb_R nb_P 56 20 [(19, l0), (0, l1), (0, l2), v3] [] M = (nb_R nb_P 57 0 [(19, l0), (0, l2), (98, 0)] [] M).bind fun r => nb_R nb_P 56 21 [(19, l0), (0, l1), (0, l2), v3] (r.1 ++ []) r.2 :=
  nb_stepC (c := true) (L2 := [(19, l0), (0, l1), (0, l2), v3]) (S2 := [(0, l2), (19, l0)]) (M2 := M) (t := 21) (cl := 57) (vi := true) rfl rfl (nb_inv_eq (n := 2) rfl rfl rfl rfl rfl rfl (fun _ => h1) rfl)
theorem q_c_rests_21 (l0 l1 l2 s0 : Int) (v3 : nb_V) (M : nb_M) :
    nb_R nb_P 56 21 [(19, l0), (0, l1), (0, l2), v3] [(0, s0)] M = if s0 = 0 then nb_R nb_P 56 23 [(19, l0), (0, l1), (0, l2), v3] [] M else nb_R nb_P 56 22 [(19, l0), (0, l1), (0, l2), v3] [] M :=
  nb_step (c := true) rfl rfl
theorem q_c_rests_22 (l0 l1 l2 : Int) (v3 : nb_V) (M : nb_M) :
    nb_R nb_P 56 22 [(19, l0), (0, l1), (0, l2), v3] [] M = nb_R nb_P 56 23 [(19, l0), (0, nb_add l1 1), (0, l2), v3] [] M :=
  nb_step (c := true) rfl rfl
theorem q_c_rests_23 (l0 l1 l2 : Int) (v3 : nb_V) (M : nb_M) :
    nb_R nb_P 56 23 [(19, l0), (0, l1), (0, l2), v3] [] M = nb_R nb_P 56 19 [(19, l0), (0, l1), (0, nb_add l2 1), v3] [] M :=
  nb_step (c := true) rfl rfl
theorem q_c_rests_24 (l1 : Int) (v0 v2 v3 : nb_V) (M : nb_M) :
    nb_R nb_P 56 24 [v0, (0, l1), v2, v3] [] M = some ([(0, l1)], M) :=
  nb_step (c := true) rfl rfl
theorem q_c_nobodyGains_0 (l0 l1 : Int) (v2 : nb_V) (M : nb_M) :
    nb_R nb_P 57 0 [(19, l0), (0, l1), v2] [] M = nb_R nb_P 57 1 [(19, l0), (0, l1), (0, 0)] [] M :=
  nb_step (c := true) rfl rfl
theorem q_c_nobodyGains_1 (l0 l1 l2 : Int) (M : nb_M) (h1 : l0 ≠ 0) (h2 : (nb_rd M l0 2) ≠ 0) :
    nb_R nb_P 57 1 [(19, l0), (0, l1), (0, l2)] [] M = if l2 < nb_rd M (nb_rd M l0 2) 13 then nb_R nb_P 57 2 [(19, l0), (0, l1), (0, l2)] [] M else nb_R nb_P 57 5 [(19, l0), (0, l1), (0, l2)] [] M :=
  nb_step (c := ((true && !decide ((l0 : Int) = 0)) && !decide ((nb_rd M l0 2 : Int) = 0))) rfl (by simp [h1, h2])
theorem q_c_nobodyGains_2 (l0 l1 l2 : Int) (M : nb_M) (h1 : l0 ≠ 0) (h2 : (nb_rd M l0 14) ≠ 0) (h3 : (0 : Int) ≤ nb_xor l1 (nb_shl 1 l2)) (h4 : nb_xor l1 (nb_shl 1 l2) < nb_ln M (nb_rd M l0 14)) (h5 : (nb_rd M (nb_rd M l0 14) (nb_xor l1 (nb_shl 1 l2))) ≠ 0) (h6 : (0 : Int) ≤ l2) (h7 : l2 < nb_ln M (nb_rd M (nb_rd M l0 14) (nb_xor l1 (nb_shl 1 l2)))) (h8 : (0 : Int) ≤ l1) (h9 : l1 < nb_ln M (nb_rd M l0 14)) (h10 : (nb_rd M (nb_rd M l0 14) l1) ≠ 0) (h11 : l2 < nb_ln M (nb_rd M (nb_rd M l0 14) l1)) :
    nb_R nb_P 57 2 [(19, l0), (0, l1), (0, l2)] [] M = if nb_rd M (nb_rd M (nb_rd M l0 14) (nb_xor l1 (nb_shl 1 l2))) l2 < nb_rd M (nb_rd M (nb_rd M l0 14) l1) l2 then nb_R nb_P 57 3 [(19, l0), (0, l1), (0, l2)] [] M else nb_R nb_P 57 4 [(19, l0), (0, l1), (0, l2)] [] M :=
  nb_step (c := ((((((true && !decide ((l0 : Int) = 0)) && (!decide ((nb_rd M l0 14 : Int) = 0) && (decide ((0 : Int) ≤ nb_xor l1 (nb_shl 1 l2)) && decide (nb_xor l1 (nb_shl 1 l2) < nb_ln M (nb_rd M l0 14))))) && (!decide ((nb_rd M (nb_rd M l0 14) (nb_xor l1 (nb_shl 1 l2)) : Int) = 0) && (decide ((0 : Int) ≤ l2) && decide (l2 < nb_ln M (nb_rd M (nb_rd M l0 14) (nb_xor l1 (nb_shl 1 l2))))))) && !decide ((l0 : Int) = 0)) && (!decide ((nb_rd M l0 14 : Int) = 0) && (decide ((0 : Int) ≤ l1) && decide (l1 < nb_ln M (nb_rd M l0 14))))) && (!decide ((nb_rd M (nb_rd M l0 14) l1 : Int) = 0) && (decide ((0 : Int) ≤ l2) && decide (l2 < nb_ln M (nb_rd M (nb_rd M l0 14) l1)))))) rfl (by simp [h1, h2, h3, h4, h5, h6, h7, h8, h9, h10, h11])
theorem q_c_nobodyGains_3 (v0 v1 v2 : nb_V) (M : nb_M) :
    nb_R nb_P 57 3 [v0, v1, v2] [] M = some ([(0, 0)], M) :=
  nb_step (c := true) rfl rfl
theorem q_c_nobodyGains_4 (l0 l1 l2 : Int) (M : nb_M) :
    nb_R nb_P 57 4 [(19, l0), (0, l1), (0, l2)] [] M = nb_R nb_P 57 1 [(19, l0), (0, l1), (0, nb_add l2 1)] [] M :=
  nb_step (c := true) rfl rfl
theorem q_c_nobodyGains_5 (v0 v1 v2 : nb_V) (M : nb_M) :
    nb_R nb_P 57 5 [v0, v1, v2] [] M = some ([(0, 1)], M) :=
  nb_step (c := true) rfl rfl
theorem q_c_row_0 (l0 l1 l2 : Int) (v3 : nb_V) (M : nb_M) (h1 : l0 ≠ 0) (h2 : (nb_rd M l0 5) ≠ 0) :
    nb_R nb_P 58 0 [(19, l0), (0, l1), (0, l2), v3] [] M = (nb_R nb_P 265 0 [(15, nb_rd M l0 5), (0, 1), (98, 0), (98, 0)] [] M).bind fun r => nb_R nb_P 58 1 [(19, l0), (0, l1), (0, l2), v3] (r.1 ++ []) r.2 :=
  nb_stepC (c := (true && !decide ((l0 : Int) = 0))) (L2 := [(19, l0), (0, l1), (0, l2), v3]) (S2 := [(0, 1), (15, nb_rd M l0 5)]) (M2 := M) (t := 1) (cl := 265) (vi := true) rfl (by simp [h1, h2]) (nb_inv_eq (n := 2) rfl rfl rfl rfl rfl rfl (fun _ => h2) rfl)
theorem q_c_row_1 (l0 l1 l2 s0 : Int) (v3 : nb_V) (M : nb_M) (h1 : l0 ≠ 0) :
    nb_R nb_P 58 1 [(19, l0), (0, l1), (0, l2), v3] [(0, s0)] M = (nb_R nb_P 11 0 [(19, l0), (0, l1)] [] M).bind fun r => nb_R nb_P 58 2 [(19, l0), (0, l1), (0, l2), (0, s0)] (r.1 ++ [(19, l0)]) r.2 :=
  nb_stepC (c := true) (L2 := [(19, l0), (0, l1), (0, l2), (0, s0)]) (S2 := [(0, l1), (19, l0), (19, l0)]) (M2 := M) (t := 2) (cl := 11) (vi := true) rfl rfl (nb_inv_eq (n := 2) rfl rfl rfl rfl rfl rfl (fun _ => h1) rfl)
theorem q_c_row_2 (l0 l1 l2 l3 s0 s1 : Int) (M : nb_M) :
    nb_R nb_P 58 2 [(19, l0), (0, l1), (0, l2), (0, l3)] [(0, s0), (19, s1)] M = if s0 = 0 then nb_R nb_P 58 6 [(19, l0), (0, l1), (0, l2), (0, l3)] [(19, s1)] M else nb_R nb_P 58 3 [(19, l0), (0, l1), (0, l2), (0, l3)] [(19, s1)] M :=
  nb_step (c := true) rfl rfl
theorem q_c_row_3 (l0 l1 l2 l3 s0 : Int) (M : nb_M) :
    nb_R nb_P 58 3 [(19, l0), (0, l1), (0, l2), (0, l3)] [(19, s0)] M = if l2 < 0 then nb_R nb_P 58 6 [(19, l0), (0, l1), (0, l2), (0, l3)] [(19, s0)] M else nb_R nb_P 58 4 [(19, l0), (0, l1), (0, l2), (0, l3)] [(19, s0)] M :=
  nb_step (c := true) rfl rfl
theorem q_c_row_4 (l0 l1 l2 l3 s0 : Int) (M : nb_M) :
    nb_R nb_P 58 4 [(19, l0), (0, l1), (0, l2), (0, l3)] [(19, s0)] M = if l2 < l3 then nb_R nb_P 58 5 [(19, l0), (0, l1), (0, l2), (0, l3)] [(19, s0)] M else nb_R nb_P 58 6 [(19, l0), (0, l1), (0, l2), (0, l3)] [(19, s0)] M :=
  nb_step (c := true) rfl rfl
theorem q_c_row_5 (l0 l1 l2 l3 s0 : Int) (M : nb_M) :
    nb_R nb_P 58 5 [(19, l0), (0, l1), (0, l2), (0, l3)] [(19, s0)] M = nb_R nb_P 58 7 [(19, l0), (0, l1), (0, l2), (0, l3)] [(0, 1), (19, s0)] M :=
  nb_step (c := true) rfl rfl
theorem q_c_row_6 (l0 l1 l2 l3 s0 : Int) (M : nb_M) :
    nb_R nb_P 58 6 [(19, l0), (0, l1), (0, l2), (0, l3)] [(19, s0)] M = nb_R nb_P 58 7 [(19, l0), (0, l1), (0, l2), (0, l3)] [(0, 0), (19, s0)] M :=
  nb_step (c := true) rfl rfl
theorem q_c_row_7 (l0 l1 l2 l3 s0 s1 : Int) (M : nb_M) (h1 : s1 ≠ 0) :
    nb_R nb_P 58 7 [(19, l0), (0, l1), (0, l2), (0, l3)] [(0, s0), (19, s1)] M = (nb_R nb_P 7 0 [(19, s1), (0, s0), (0, 1)] [] M).bind fun r => nb_R nb_P 58 8 [(19, l0), (0, l1), (0, l2), (0, l3)] (r.1 ++ []) r.2 :=
  nb_stepC (c := true) (L2 := [(19, l0), (0, l1), (0, l2), (0, l3)]) (S2 := [(0, 1), (0, s0), (19, s1)]) (M2 := M) (t := 8) (cl := 7) (vi := true) rfl rfl (nb_inv_eq (n := 3) rfl rfl rfl rfl rfl rfl (fun _ => h1) rfl)
theorem q_c_row_8 (l0 l1 l2 l3 s0 : Int) (M : nb_M) :
    nb_R nb_P 58 8 [(19, l0), (0, l1), (0, l2), (0, l3)] [(0, s0)] M = if s0 = 0 then nb_R nb_P 58 14 [(19, l0), (0, l1), (0, l2), (0, l3)] [] M else nb_R nb_P 58 9 [(19, l0), (0, l1), (0, l2), (0, l3)] [] M :=
  nb_step (c := true) rfl rfl
theorem q_c_row_9 (l0 l1 l2 l3 : Int) (M : nb_M) :
    nb_R nb_P 58 9 [(19, l0), (0, l1), (0, l2), (0, l3)] [] M = if 7 < l3 then nb_R nb_P 58 11 [(19, l0), (0, l1), (0, l2), (0, l3)] [(19, l0)] M else nb_R nb_P 58 10 [(19, l0), (0, l1), (0, l2), (0, l3)] [(19, l0)] M :=
  nb_step (c := true) rfl rfl
theorem q_c_row_10 (l0 l1 l2 s0 : Int) (v3 : nb_V) (M : nb_M) :
    nb_R nb_P 58 10 [(19, l0), (0, l1), (0, l2), v3] [(19, s0)] M = nb_R nb_P 58 12 [(19, l0), (0, l1), (0, l2), v3] [(0, 1), (19, s0)] M :=
  nb_step (c := true) rfl rfl
theorem q_c_row_11 (l0 l1 l2 s0 : Int) (v3 : nb_V) (M : nb_M) :
    nb_R nb_P 58 11 [(19, l0), (0, l1), (0, l2), v3] [(19, s0)] M = nb_R nb_P 58 12 [(19, l0), (0, l1), (0, l2), v3] [(0, 0), (19, s0)] M :=
  nb_step (c := true) rfl rfl
theorem q_c_row_12 (l0 l1 l2 s0 s1 : Int) (v3 : nb_V) (M : nb_M) (h1 : s1 ≠ 0) :
    nb_R nb_P 58 12 [(19, l0), (0, l1), (0, l2), v3] [(0, s0), (19, s1)] M = (nb_R nb_P 7 0 [(19, s1), (0, s0), (0, 3)] [] M).bind fun r => nb_R nb_P 58 13 [(19, l0), (0, l1), (0, l2), v3] (r.1 ++ []) r.2 :=
  nb_stepC (c := true) (L2 := [(19, l0), (0, l1), (0, l2), v3]) (S2 := [(0, 3), (0, s0), (19, s1)]) (M2 := M) (t := 13) (cl := 7) (vi := true) rfl rfl (nb_inv_eq (n := 3) rfl rfl rfl rfl rfl rfl (fun _ => h1) rfl)
theorem q_c_row_13 (l0 l1 l2 s0 : Int) (v3 : nb_V) (M : nb_M) :
    nb_R nb_P 58 13 [(19, l0), (0, l1), (0, l2), v3] [(0, s0)] M = if s0 = 0 then nb_R nb_P 58 14 [(19, l0), (0, l1), (0, l2), v3] [] M else nb_R nb_P 58 15 [(19, l0), (0, l1), (0, l2), v3] [] M :=
  nb_step (c := true) rfl rfl
theorem q_c_row_14 (v0 v1 v2 v3 : nb_V) (M : nb_M) :
    nb_R nb_P 58 14 [v0, v1, v2, v3] [] M = some ([(0, (-1))], M) :=
  nb_step (c := true) rfl rfl
theorem q_c_row_15 (l0 l1 l2 : Int) (v3 : nb_V) (M : nb_M) (h1 : l0 ≠ 0) (h2 : (nb_rd M l0 12) ≠ 0) :
    nb_R nb_P 58 15 [(19, l0), (0, l1), (0, l2), v3] [] M = (nb_R nb_P 248 0 [(14, nb_rd M l0 12), (15, nb_rd M l0 5), (0, l1), (98, 0), (98, 0)] [] M).bind fun r => nb_R nb_P 58 16 [(19, l0), (0, l1), (0, l2), v3] (r.1 ++ []) r.2 :=
  nb_stepC (c := ((true && !decide ((l0 : Int) = 0)) && !decide ((l0 : Int) = 0))) (L2 := [(19, l0), (0, l1), (0, l2), v3]) (S2 := [(0, l1), (15, nb_rd M l0 5), (14, nb_rd M l0 12)]) (M2 := M) (t := 16) (cl := 248) (vi := true) rfl (by simp [h1, h2]) (nb_inv_eq (n := 3) rfl rfl rfl rfl rfl rfl (fun _ => h2) rfl)
theorem q_c_row_16 (l0 l2 : Int) (v1 v3 : nb_V) (M : nb_M) (h1 : l0 ≠ 0) (h2 : (nb_rd M l0 12) ≠ 0) :
    nb_R nb_P 58 16 [(19, l0), v1, (0, l2), v3] [] M = (nb_R nb_P 252 0 [(14, nb_rd M l0 12), (0, l2), (98, 0), (98, 0), (98, 0)] [] M).bind fun r => nb_R nb_P 58 17 [(19, l0), v1, (0, l2), v3] (r.1 ++ []) r.2 :=
  nb_stepC (c := (true && !decide ((l0 : Int) = 0))) (L2 := [(19, l0), v1, (0, l2), v3]) (S2 := [(0, l2), (14, nb_rd M l0 12)]) (M2 := M) (t := 17) (cl := 252) (vi := true) rfl (by simp [h1, h2]) (nb_inv_eq (n := 2) rfl rfl rfl rfl rfl rfl (fun _ => h2) rfl)
theorem q_c_row_17 (s0 : Int) (v0 v1 v2 v3 : nb_V) (M : nb_M) :
    nb_R nb_P 58 17 [v0, v1, v2, v3] [(0, s0)] M = some ([(0, s0)], M) :=
  nb_step (c := true) rfl rfl
theorem q_c_rowSum_0 (l0 l1 : Int) (M : nb_M) (h1 : l0 ≠ 0) :
    nb_R nb_P 59 0 [(19, l0), (0, l1)] [] M = (nb_R nb_P 11 0 [(19, l0), (0, l1)] [] M).bind fun r => nb_R nb_P 59 1 [(19, l0), (0, l1)] (r.1 ++ [(19, l0)]) r.2 :=
  nb_stepC (c := true) (L2 := [(19, l0), (0, l1)]) (S2 := [(0, l1), (19, l0), (19, l0)]) (M2 := M) (t := 1) (cl := 11) (vi := true) rfl rfl (nb_inv_eq (n := 2) rfl rfl rfl rfl rfl rfl (fun _ => h1) rfl)
theorem q_c_rowSum_1 (l0 l1 s0 s1 : Int) (M : nb_M) (h1 : s1 ≠ 0) :
    nb_R nb_P 59 1 [(19, l0), (0, l1)] [(0, s0), (19, s1)] M = (nb_R nb_P 7 0 [(19, s1), (0, s0), (0, 1)] [] M).bind fun r => nb_R nb_P 59 2 [(19, l0), (0, l1)] (r.1 ++ []) r.2 :=
  nb_stepC (c := true) (L2 := [(19, l0), (0, l1)]) (S2 := [(0, 1), (0, s0), (19, s1)]) (M2 := M) (t := 2) (cl := 7) (vi := true) rfl rfl (nb_inv_eq (n := 3) rfl rfl rfl rfl rfl rfl (fun _ => h1) rfl)
theorem q_c_rowSum_2 (l0 l1 s0 : Int) (M : nb_M) :
    nb_R nb_P 59 2 [(19, l0), (0, l1)] [(0, s0)] M = if s0 = 0 then nb_R nb_P 59 9 [(19, l0), (0, l1)] [] M else nb_R nb_P 59 3 [(19, l0), (0, l1)] [] M :=
  nb_step (c := true) rfl rfl
theorem q_c_rowSum_3 (l0 l1 : Int) (M : nb_M) (h1 : l0 ≠ 0) (h2 : (nb_rd M l0 5) ≠ 0) :
    nb_R nb_P 59 3 [(19, l0), (0, l1)] [] M = (nb_R nb_P 265 0 [(15, nb_rd M l0 5), (0, 1), (98, 0), (98, 0)] [] M).bind fun r => nb_R nb_P 59 4 [(19, l0), (0, l1)] (r.1 ++ [(19, l0)]) r.2 :=
  nb_stepC (c := (true && !decide ((l0 : Int) = 0))) (L2 := [(19, l0), (0, l1)]) (S2 := [(0, 1), (15, nb_rd M l0 5), (19, l0)]) (M2 := M) (t := 4) (cl := 265) (vi := true) rfl (by simp [h1, h2]) (nb_inv_eq (n := 2) rfl rfl rfl rfl rfl rfl (fun _ => h2) rfl)
theorem q_c_rowSum_4 (l0 l1 s0 s1 : Int) (M : nb_M) :
    nb_R nb_P 59 4 [(19, l0), (0, l1)] [(0, s0), (19, s1)] M = if 7 < s0 then nb_R nb_P 59 6 [(19, l0), (0, l1)] [(19, s1)] M else nb_R nb_P 59 5 [(19, l0), (0, l1)] [(19, s1)] M :=
  nb_step (c := true) rfl rfl
theorem q_c_rowSum_5 (l0 l1 s0 : Int) (M : nb_M) :
    nb_R nb_P 59 5 [(19, l0), (0, l1)] [(19, s0)] M = nb_R nb_P 59 7 [(19, l0), (0, l1)] [(0, 1), (19, s0)] M :=
  nb_step (c := true) rfl rfl
theorem q_c_rowSum_6 (l0 l1 s0 : Int) (M : nb_M) :
    nb_R nb_P 59 6 [(19, l0), (0, l1)] [(19, s0)] M = nb_R nb_P 59 7 [(19, l0), (0, l1)] [(0, 0), (19, s0)] M :=
  nb_step (c := true) rfl rfl
theorem q_c_rowSum_7 (l0 l1 s0 s1 : Int) (M : nb_M) (h1 : s1 ≠ 0) :
    nb_R nb_P 59 7 [(19, l0), (0, l1)] [(0, s0), (19, s1)] M = (nb_R nb_P 7 0 [(19, s1), (0, s0), (0, 3)] [] M).bind fun r => nb_R nb_P 59 8 [(19, l0), (0, l1)] (r.1 ++ []) r.2 :=
  nb_stepC (c := true) (L2 := [(19, l0), (0, l1)]) (S2 := [(0, 3), (0, s0), (19, s1)]) (M2 := M) (t := 8) (cl := 7) (vi := true) rfl rfl (nb_inv_eq (n := 3) rfl rfl rfl rfl rfl rfl (fun _ => h1) rfl)
theorem q_c_rowSum_8 (l0 l1 s0 : Int) (M : nb_M) :
    nb_R nb_P 59 8 [(19, l0), (0, l1)] [(0, s0)] M = if s0 = 0 then nb_R nb_P 59 9 [(19, l0), (0, l1)] [] M else nb_R nb_P 59 10 [(19, l0), (0, l1)] [] M :=
  nb_step (c := true) rfl rfl
theorem q_c_rowSum_9 (v0 v1 : nb_V) (M : nb_M) :
    nb_R nb_P 59 9 [v0, v1] [] M = some ([(0, (-1))], M) :=
  nb_step (c := true) rfl rfl
theorem q_c_rowSum_10 (l0 l1 : Int) (M : nb_M) (h1 : l0 ≠ 0) (h2 : (nb_rd M l0 12) ≠ 0) :
    nb_R nb_P 59 10 [(19, l0), (0, l1)] [] M = (nb_R nb_P 248 0 [(14, nb_rd M l0 12), (15, nb_rd M l0 5), (0, l1), (98, 0), (98, 0)] [] M).bind fun r => nb_R nb_P 59 11 [(19, l0), (0, l1)] (r.1 ++ []) r.2 :=
  nb_stepC (c := ((true && !decide ((l0 : Int) = 0)) && !decide ((l0 : Int) = 0))) (L2 := [(19, l0), (0, l1)]) (S2 := [(0, l1), (15, nb_rd M l0 5), (14, nb_rd M l0 12)]) (M2 := M) (t := 11) (cl := 248) (vi := true) rfl (by simp [h1, h2]) (nb_inv_eq (n := 3) rfl rfl rfl rfl rfl rfl (fun _ => h2) rfl)
theorem q_c_rowSum_11 (l0 : Int) (v1 : nb_V) (M : nb_M) (h1 : l0 ≠ 0) (h2 : (nb_rd M l0 12) ≠ 0) :
    nb_R nb_P 59 11 [(19, l0), v1] [] M = (nb_R nb_P 251 0 [(14, nb_rd M l0 12)] [] M).bind fun r => nb_R nb_P 59 12 [(19, l0), v1] (r.1 ++ []) r.2 :=
  nb_stepC (c := (true && !decide ((l0 : Int) = 0))) (L2 := [(19, l0), v1]) (S2 := [(14, nb_rd M l0 12)]) (M2 := M) (t := 12) (cl := 251) (vi := true) rfl (by simp [h1, h2]) (nb_inv_eq (n := 1) rfl rfl rfl rfl rfl rfl (fun _ => h2) rfl)
theorem q_c_rowSum_12 (s0 : Int) (v0 v1 : nb_V) (M : nb_M) :
    nb_R nb_P 59 12 [v0, v1] [(0, s0)] M = some ([(0, s0)], M) :=
  nb_step (c := true) rfl rfl
theorem q_c_liars_0 (l0 : Int) (M : nb_M) (h1 : l0 ≠ 0) :
    nb_R nb_P 60 0 [(19, l0)] [] M = (nb_R nb_P 8 0 [(19, l0)] [] M).bind fun r => nb_R nb_P 60 1 [(19, l0)] (r.1 ++ [(19, l0)]) r.2 :=
  nb_stepC (c := true) (L2 := [(19, l0)]) (S2 := [(19, l0), (19, l0)]) (M2 := M) (t := 1) (cl := 8) (vi := true) rfl rfl (nb_inv_eq (n := 1) rfl rfl rfl rfl rfl rfl (fun _ => h1) rfl)
theorem q_c_liars_1 (l0 s0 s1 : Int) (M : nb_M) (h1 : s1 ≠ 0) :
    nb_R nb_P 60 1 [(19, l0)] [(0, s0), (19, s1)] M = (nb_R nb_P 7 0 [(19, s1), (0, s0), (0, 1)] [] M).bind fun r => nb_R nb_P 60 2 [(19, l0)] (r.1 ++ []) r.2 :=
  nb_stepC (c := true) (L2 := [(19, l0)]) (S2 := [(0, 1), (0, s0), (19, s1)]) (M2 := M) (t := 2) (cl := 7) (vi := true) rfl rfl (nb_inv_eq (n := 3) rfl rfl rfl rfl rfl rfl (fun _ => h1) rfl)
theorem q_c_liars_2 (l0 s0 : Int) (M : nb_M) :
    nb_R nb_P 60 2 [(19, l0)] [(0, s0)] M = if s0 = 0 then nb_R nb_P 60 5 [(19, l0)] [] M else nb_R nb_P 60 3 [(19, l0)] [] M :=
  nb_step (c := true) rfl rfl
theorem q_c_liars_3 (l0 : Int) (M : nb_M) (h1 : l0 ≠ 0) (h2 : (nb_rd M l0 13) ≠ 0) :
    nb_R nb_P 60 3 [(19, l0)] [] M = (nb_R nb_P 280 0 [(17, nb_rd M l0 13), (12, nb_rd M l0 2), (98, 0), (98, 0), (98, 0), (98, 0)] [] M).bind fun r => nb_R nb_P 60 4 [(19, l0)] (r.1 ++ []) r.2 :=
  nb_stepC (c := ((true && !decide ((l0 : Int) = 0)) && !decide ((l0 : Int) = 0))) (L2 := [(19, l0)]) (S2 := [(12, nb_rd M l0 2), (17, nb_rd M l0 13)]) (M2 := M) (t := 4) (cl := 280) (vi := true) rfl (by simp [h1, h2]) (nb_inv_eq (n := 2) rfl rfl rfl rfl rfl rfl (fun _ => h2) rfl)
theorem q_c_liars_4 (s0 : Int) (v0 : nb_V) (M : nb_M) :
    nb_R nb_P 60 4 [v0] [(0, s0)] M = nb_R nb_P 60 6 [v0] [(0, s0)] M :=
  nb_step (c := true) rfl rfl
theorem q_c_liars_5 (v0 : nb_V) (M : nb_M) :
    nb_R nb_P 60 5 [v0] [] M = nb_R nb_P 60 6 [v0] [(0, (-1))] M :=
  nb_step (c := true) rfl rfl
theorem q_c_liars_6 (s0 : Int) (v0 : nb_V) (M : nb_M) :
    nb_R nb_P 60 6 [v0] [(0, s0)] M = some ([(0, s0)], M) :=
  nb_step (c := true) rfl rfl
theorem q_c_surely_0 (l0 l1 l2 : Int) (M : nb_M) (h1 : l0 ≠ 0) :
    nb_R nb_P 61 0 [(19, l0), (0, l1), (0, l2)] [] M = (nb_R nb_P 10 0 [(19, l0), (0, l1), (0, l2)] [] M).bind fun r => nb_R nb_P 61 1 [(19, l0), (0, l1), (0, l2)] (r.1 ++ [(19, l0)]) r.2 :=
  nb_stepC (c := true) (L2 := [(19, l0), (0, l1), (0, l2)]) (S2 := [(0, l2), (0, l1), (19, l0), (19, l0)]) (M2 := M) (t := 1) (cl := 10) (vi := true) rfl rfl (nb_inv_eq (n := 3) rfl rfl rfl rfl rfl rfl (fun _ => h1) rfl)
theorem q_c_surely_1 (l0 l1 l2 s0 s1 : Int) (M : nb_M) (h1 : s1 ≠ 0) :
    nb_R nb_P 61 1 [(19, l0), (0, l1), (0, l2)] [(0, s0), (19, s1)] M = (nb_R nb_P 7 0 [(19, s1), (0, s0), (0, 1)] [] M).bind fun r => nb_R nb_P 61 2 [(19, l0), (0, l1), (0, l2)] (r.1 ++ []) r.2 :=
  nb_stepC (c := true) (L2 := [(19, l0), (0, l1), (0, l2)]) (S2 := [(0, 1), (0, s0), (19, s1)]) (M2 := M) (t := 2) (cl := 7) (vi := true) rfl rfl (nb_inv_eq (n := 3) rfl rfl rfl rfl rfl rfl (fun _ => h1) rfl)
theorem q_c_surely_2 (l0 l1 l2 s0 : Int) (M : nb_M) :
    nb_R nb_P 61 2 [(19, l0), (0, l1), (0, l2)] [(0, s0)] M = if s0 = 0 then nb_R nb_P 61 3 [(19, l0), (0, l1), (0, l2)] [] M else nb_R nb_P 61 4 [(19, l0), (0, l1), (0, l2)] [] M :=
  nb_step (c := true) rfl rfl
theorem q_c_surely_3 (v0 v1 v2 : nb_V) (M : nb_M) :
    nb_R nb_P 61 3 [v0, v1, v2] [] M = some ([(0, (-1))], M) :=
  nb_step (c := true) rfl rfl
theorem q_c_surely_4 (l0 l1 l2 : Int) (M : nb_M) (h1 : l0 ≠ 0) (h2 : (nb_rd M l0 13) ≠ 0) :
    nb_R nb_P 61 4 [(19, l0), (0, l1), (0, l2)] [] M = (nb_R nb_P 281 0 [(17, nb_rd M l0 13), (12, nb_rd M l0 2), (0, l1), (0, l2)] [] M).bind fun r => nb_R nb_P 61 5 [(19, l0), (0, l1), (0, l2)] (r.1 ++ []) r.2 :=
  nb_stepC (c := ((true && !decide ((l0 : Int) = 0)) && !decide ((l0 : Int) = 0))) (L2 := [(19, l0), (0, l1), (0, l2)]) (S2 := [(0, l2), (0, l1), (12, nb_rd M l0 2), (17, nb_rd M l0 13)]) (M2 := M) (t := 5) (cl := 281) (vi := true) rfl (by simp [h1, h2]) (nb_inv_eq (n := 4) rfl rfl rfl rfl rfl rfl (fun _ => h2) rfl)
theorem q_c_surely_5 (s0 : Int) (v0 v1 v2 : nb_V) (M : nb_M) :
    nb_R nb_P 61 5 [v0, v1, v2] [(0, s0)] M = if s0 = 0 then nb_R nb_P 61 7 [v0, v1, v2] [] M else nb_R nb_P 61 6 [v0, v1, v2] [] M :=
  nb_step (c := true) rfl rfl
theorem q_c_surely_6 (v0 v1 v2 : nb_V) (M : nb_M) :
    nb_R nb_P 61 6 [v0, v1, v2] [] M = nb_R nb_P 61 8 [v0, v1, v2] [(0, 1)] M :=
  nb_step (c := true) rfl rfl
theorem q_c_surely_7 (v0 v1 v2 : nb_V) (M : nb_M) :
    nb_R nb_P 61 7 [v0, v1, v2] [] M = nb_R nb_P 61 8 [v0, v1, v2] [(0, 0)] M :=
  nb_step (c := true) rfl rfl
theorem q_c_surely_8 (s0 : Int) (v0 v1 v2 : nb_V) (M : nb_M) :
    nb_R nb_P 61 8 [v0, v1, v2] [(0, s0)] M = some ([(0, s0)], M) :=
  nb_step (c := true) rfl rfl
theorem q_c_so_0 (l0 : Int) (v1 v2 : nb_V) (M : nb_M) (h1 : l0 ≠ 0) :
    nb_R nb_P 62 0 [(19, l0), v1, v2] [] M = (nb_R nb_P 8 0 [(19, l0)] [] M).bind fun r => nb_R nb_P 62 1 [(19, l0), v1, v2] (r.1 ++ [(19, l0)]) r.2 :=
  nb_stepC (c := true) (L2 := [(19, l0), v1, v2]) (S2 := [(19, l0), (19, l0)]) (M2 := M) (t := 1) (cl := 8) (vi := true) rfl rfl (nb_inv_eq (n := 1) rfl rfl rfl rfl rfl rfl (fun _ => h1) rfl)
theorem q_c_so_1 (l0 s0 s1 : Int) (v1 v2 : nb_V) (M : nb_M) (h1 : s1 ≠ 0) :
    nb_R nb_P 62 1 [(19, l0), v1, v2] [(0, s0), (19, s1)] M = (nb_R nb_P 7 0 [(19, s1), (0, s0), (0, 1)] [] M).bind fun r => nb_R nb_P 62 2 [(19, l0), v1, v2] (r.1 ++ []) r.2 :=
  nb_stepC (c := true) (L2 := [(19, l0), v1, v2]) (S2 := [(0, 1), (0, s0), (19, s1)]) (M2 := M) (t := 2) (cl := 7) (vi := true) rfl rfl (nb_inv_eq (n := 3) rfl rfl rfl rfl rfl rfl (fun _ => h1) rfl)
theorem q_c_so_2 (l0 s0 : Int) (v1 v2 : nb_V) (M : nb_M) :
    nb_R nb_P 62 2 [(19, l0), v1, v2] [(0, s0)] M = if s0 = 0 then nb_R nb_P 62 3 [(19, l0), v1, v2] [] M else nb_R nb_P 62 4 [(19, l0), v1, v2] [] M :=
  nb_step (c := true) rfl rfl
theorem q_c_so_3 (v0 v1 v2 : nb_V) (M : nb_M) :
    nb_R nb_P 62 3 [v0, v1, v2] [] M = some ([(0, (-1))], M) :=
  nb_step (c := true) rfl rfl
theorem q_c_so_4 (l0 : Int) (v1 v2 : nb_V) (M : nb_M) :
    nb_R nb_P 62 4 [(19, l0), v1, v2] [] M = nb_R nb_P 62 5 [(19, l0), (0, 0), (0, 0)] [] M :=
  nb_step (c := true) rfl rfl
theorem q_c_so_5 (l0 l1 l2 : Int) (M : nb_M) (h1 : l0 ≠ 0) (h2 : (nb_rd M l0 2) ≠ 0) :
    nb_R nb_P 62 5 [(19, l0), (0, l1), (0, l2)] [] M = if l2 < nb_rd M (nb_rd M l0 2) 15 then nb_R nb_P 62 6 [(19, l0), (0, l1), (0, l2)] [] M else nb_R nb_P 62 10 [(19, l0), (0, l1), (0, l2)] [] M :=
  nb_step (c := ((true && !decide ((l0 : Int) = 0)) && !decide ((nb_rd M l0 2 : Int) = 0))) rfl (by simp [h1, h2])
theorem q_c_so_6 (l0 l1 l2 : Int) (M : nb_M) (h1 : l0 ≠ 0) (h2 : (nb_rd M l0 2) ≠ 0) (h3 : (nb_rd M (nb_rd M l0 2) 7) ≠ 0) (h4 : (0 : Int) ≤ l2) (h5 : l2 < nb_ln M (nb_rd M (nb_rd M l0 2) 7)) (h6 : (nb_rd M (nb_rd M l0 2) 8) ≠ 0) (h7 : l2 < nb_ln M (nb_rd M (nb_rd M l0 2) 8)) :
    nb_R nb_P 62 6 [(19, l0), (0, l1), (0, l2)] [] M = (nb_R nb_P 222 0 [(12, nb_rd M l0 2), (0, nb_rd M (nb_rd M (nb_rd M l0 2) 7) l2), (0, nb_rd M (nb_rd M (nb_rd M l0 2) 8) l2), (98, 0), (98, 0)] [] M).bind fun r => nb_R nb_P 62 7 [(19, l0), (0, l1), (0, l2)] (r.1 ++ []) r.2 :=
  nb_stepC (c := (((((((true && !decide ((l0 : Int) = 0)) && !decide ((l0 : Int) = 0)) && !decide ((nb_rd M l0 2 : Int) = 0)) && (!decide ((nb_rd M (nb_rd M l0 2) 7 : Int) = 0) && (decide ((0 : Int) ≤ l2) && decide (l2 < nb_ln M (nb_rd M (nb_rd M l0 2) 7))))) && !decide ((l0 : Int) = 0)) && !decide ((nb_rd M l0 2 : Int) = 0)) && (!decide ((nb_rd M (nb_rd M l0 2) 8 : Int) = 0) && (decide ((0 : Int) ≤ l2) && decide (l2 < nb_ln M (nb_rd M (nb_rd M l0 2) 8)))))) (L2 := [(19, l0), (0, l1), (0, l2)]) (S2 := [(0, nb_rd M (nb_rd M (nb_rd M l0 2) 8) l2), (0, nb_rd M (nb_rd M (nb_rd M l0 2) 7) l2), (12, nb_rd M l0 2)]) (M2 := M) (t := 7) (cl := 222) (vi := true) rfl (by simp [h1, h2, h3, h4, h5, h6, h7]) (nb_inv_eq (n := 3) rfl rfl rfl rfl rfl rfl (fun _ => h2) rfl)
theorem q_c_so_7 (l0 l1 l2 s0 : Int) (M : nb_M) :
    nb_R nb_P 62 7 [(19, l0), (0, l1), (0, l2)] [(0, s0)] M = if s0 = 0 then nb_R nb_P 62 9 [(19, l0), (0, l1), (0, l2)] [] M else nb_R nb_P 62 8 [(19, l0), (0, l1), (0, l2)] [] M :=
  nb_step (c := true) rfl rfl
theorem q_c_so_8 (l0 l1 l2 : Int) (M : nb_M) :
    nb_R nb_P 62 8 [(19, l0), (0, l1), (0, l2)] [] M = nb_R nb_P 62 9 [(19, l0), (0, nb_add l1 1), (0, l2)] [] M :=
  nb_step (c := true) rfl rfl
theorem q_c_so_9 (l0 l1 l2 : Int) (M : nb_M) :
    nb_R nb_P 62 9 [(19, l0), (0, l1), (0, l2)] [] M = nb_R nb_P 62 5 [(19, l0), (0, l1), (0, nb_add l2 1)] [] M :=
  nb_step (c := true) rfl rfl
theorem q_c_so_10 (l1 : Int) (v0 v2 : nb_V) (M : nb_M) :
    nb_R nb_P 62 10 [v0, (0, l1), v2] [] M = some ([(0, l1)], M) :=
  nb_step (c := true) rfl rfl
theorem q_c_keep_0 (l0 : Int) (M : nb_M) (h1 : l0 ≠ 0) :
    nb_R nb_P 63 0 [(19, l0)] [] M = if nb_rd M l0 9 = 12 then nb_R nb_P 63 1 [(19, l0)] [] M else nb_R nb_P 63 3 [(19, l0)] [] M :=
  nb_step (c := (true && !decide ((l0 : Int) = 0))) rfl (by simp [h1])
theorem q_c_keep_1 (l0 : Int) (M : nb_M) (h1 : l0 ≠ 0) :
    nb_R nb_P 63 1 [(19, l0)] [] M = nb_R nb_P 63 2 [(19, l0)] [] (nb_wr M l0 8 (nb_rem (nb_add (nb_rd M l0 8) 1) 12)) :=
  nb_step (c := (((true && !decide ((l0 : Int) = 0)) && !decide ((12 : Int) = 0)) && (!decide ((l0 : Int) = 0) && (!false || (decide ((nb_rem (nb_add (nb_rd M l0 8) 1) 12 : Int) = 0) || decide ((nb_rem (nb_add (nb_rd M l0 8) 1) 12 : Int) = 1)))))) rfl (by simp [h1])
theorem q_c_keep_2 (l0 : Int) (M : nb_M) (h1 : l0 ≠ 0) :
    nb_R nb_P 63 2 [(19, l0)] [] M = nb_R nb_P 63 3 [(19, l0)] [] (nb_wr M l0 9 (nb_sub (nb_rd M l0 9) 1)) :=
  nb_step (c := ((true && !decide ((l0 : Int) = 0)) && (!decide ((l0 : Int) = 0) && (!false || (decide ((nb_sub (nb_rd M l0 9) 1 : Int) = 0) || decide ((nb_sub (nb_rd M l0 9) 1 : Int) = 1)))))) rfl (by simp [h1])
theorem q_c_keep_3 (l0 : Int) (M : nb_M) (h1 : l0 ≠ 0) (h2 : (nb_rd M l0 7) ≠ 0) (h3 : (0 : Int) ≤ nb_rem (nb_add (nb_rd M l0 8) (nb_rd M l0 9)) 12) (h4 : nb_rem (nb_add (nb_rd M l0 8) (nb_rd M l0 9)) 12 < nb_ln M (nb_rd M l0 7)) (h5 : (nb_rd M (nb_rd M l0 7) (nb_rem (nb_add (nb_rd M l0 8) (nb_rd M l0 9)) 12)) ≠ 0) :
    nb_R nb_P 63 3 [(19, l0)] [] M = (nb_R nb_P 255 0 [(15, nb_rd M (nb_rd M l0 7) (nb_rem (nb_add (nb_rd M l0 8) (nb_rd M l0 9)) 12)), (15, nb_rd M l0 5), (98, 0)] [] M).bind fun r => nb_R nb_P 63 4 [(19, l0)] (r.1 ++ []) r.2 :=
  nb_stepC (c := ((((((true && !decide ((l0 : Int) = 0)) && !decide ((l0 : Int) = 0)) && !decide ((l0 : Int) = 0)) && !decide ((12 : Int) = 0)) && (!decide ((nb_rd M l0 7 : Int) = 0) && (decide ((0 : Int) ≤ nb_rem (nb_add (nb_rd M l0 8) (nb_rd M l0 9)) 12) && decide (nb_rem (nb_add (nb_rd M l0 8) (nb_rd M l0 9)) 12 < nb_ln M (nb_rd M l0 7))))) && !decide ((l0 : Int) = 0))) (L2 := [(19, l0)]) (S2 := [(15, nb_rd M l0 5), (15, nb_rd M (nb_rd M l0 7) (nb_rem (nb_add (nb_rd M l0 8) (nb_rd M l0 9)) 12))]) (M2 := M) (t := 4) (cl := 255) (vi := true) rfl (by simp [h1, h2, h3, h4, h5]) (nb_inv_eq (n := 2) rfl rfl rfl rfl rfl rfl (fun _ => h5) rfl)
theorem q_c_keep_4 (l0 : Int) (M : nb_M) (h1 : l0 ≠ 0) :
    nb_R nb_P 63 4 [(19, l0)] [] M = nb_R nb_P 63 5 [(19, l0)] [] (nb_wr M l0 9 (nb_add (nb_rd M l0 9) 1)) :=
  nb_step (c := ((true && !decide ((l0 : Int) = 0)) && (!decide ((l0 : Int) = 0) && (!false || (decide ((nb_add (nb_rd M l0 9) 1 : Int) = 0) || decide ((nb_add (nb_rd M l0 9) 1 : Int) = 1)))))) rfl (by simp [h1])
theorem q_c_keep_5 (v0 : nb_V) (M : nb_M) :
    nb_R nb_P 63 5 [v0] [] M = some ([], M) :=
  nb_step (c := true) rfl rfl
theorem q_c_pass_0 (l0 l1 : Int) (M : nb_M) (h1 : l0 ≠ 0) :
    nb_R nb_P 64 0 [(19, l0), (0, l1)] [] M = (nb_R nb_P 8 0 [(19, l0)] [] M).bind fun r => nb_R nb_P 64 1 [(19, l0), (0, l1)] (r.1 ++ [(19, l0)]) r.2 :=
  nb_stepC (c := true) (L2 := [(19, l0), (0, l1)]) (S2 := [(19, l0), (19, l0)]) (M2 := M) (t := 1) (cl := 8) (vi := true) rfl rfl (nb_inv_eq (n := 1) rfl rfl rfl rfl rfl rfl (fun _ => h1) rfl)
theorem q_c_pass_1 (l0 l1 s0 s1 : Int) (M : nb_M) (h1 : s1 ≠ 0) :
    nb_R nb_P 64 1 [(19, l0), (0, l1)] [(0, s0), (19, s1)] M = (nb_R nb_P 7 0 [(19, s1), (0, s0), (0, 1)] [] M).bind fun r => nb_R nb_P 64 2 [(19, l0), (0, l1)] (r.1 ++ []) r.2 :=
  nb_stepC (c := true) (L2 := [(19, l0), (0, l1)]) (S2 := [(0, 1), (0, s0), (19, s1)]) (M2 := M) (t := 2) (cl := 7) (vi := true) rfl rfl (nb_inv_eq (n := 3) rfl rfl rfl rfl rfl rfl (fun _ => h1) rfl)
theorem q_c_pass_2 (l0 l1 s0 : Int) (M : nb_M) :
    nb_R nb_P 64 2 [(19, l0), (0, l1)] [(0, s0)] M = if s0 = 0 then nb_R nb_P 64 14 [(19, l0), (0, l1)] [] M else nb_R nb_P 64 3 [(19, l0), (0, l1)] [] M :=
  nb_step (c := true) rfl rfl
theorem q_c_pass_3 (l0 l1 : Int) (M : nb_M) :
    nb_R nb_P 64 3 [(19, l0), (0, l1)] [] M = if l1 < 1 then nb_R nb_P 64 6 [(19, l0), (0, l1)] [(19, l0)] M else nb_R nb_P 64 4 [(19, l0), (0, l1)] [(19, l0)] M :=
  nb_step (c := true) rfl rfl
theorem q_c_pass_4 (l0 l1 s0 : Int) (M : nb_M) :
    nb_R nb_P 64 4 [(19, l0), (0, l1)] [(19, s0)] M = if 200 < l1 then nb_R nb_P 64 6 [(19, l0), (0, l1)] [(19, s0)] M else nb_R nb_P 64 5 [(19, l0), (0, l1)] [(19, s0)] M :=
  nb_step (c := true) rfl rfl
theorem q_c_pass_5 (l0 l1 s0 : Int) (M : nb_M) :
    nb_R nb_P 64 5 [(19, l0), (0, l1)] [(19, s0)] M = nb_R nb_P 64 7 [(19, l0), (0, l1)] [(0, 1), (19, s0)] M :=
  nb_step (c := true) rfl rfl
theorem q_c_pass_6 (l0 l1 s0 : Int) (M : nb_M) :
    nb_R nb_P 64 6 [(19, l0), (0, l1)] [(19, s0)] M = nb_R nb_P 64 7 [(19, l0), (0, l1)] [(0, 0), (19, s0)] M :=
  nb_step (c := true) rfl rfl
theorem q_c_pass_7 (l0 l1 s0 s1 : Int) (M : nb_M) (h1 : s1 ≠ 0) :
    nb_R nb_P 64 7 [(19, l0), (0, l1)] [(0, s0), (19, s1)] M = (nb_R nb_P 7 0 [(19, s1), (0, s0), (0, 2)] [] M).bind fun r => nb_R nb_P 64 8 [(19, l0), (0, l1)] (r.1 ++ []) r.2 :=
  nb_stepC (c := true) (L2 := [(19, l0), (0, l1)]) (S2 := [(0, 2), (0, s0), (19, s1)]) (M2 := M) (t := 8) (cl := 7) (vi := true) rfl rfl (nb_inv_eq (n := 3) rfl rfl rfl rfl rfl rfl (fun _ => h1) rfl)
theorem q_c_pass_8 (l0 l1 s0 : Int) (M : nb_M) :
    nb_R nb_P 64 8 [(19, l0), (0, l1)] [(0, s0)] M = if s0 = 0 then nb_R nb_P 64 14 [(19, l0), (0, l1)] [] M else nb_R nb_P 64 9 [(19, l0), (0, l1)] [] M :=
  nb_step (c := true) rfl rfl
theorem q_c_pass_9 (l0 l1 : Int) (M : nb_M) (h1 : l0 ≠ 0) (h2 : (nb_rd M l0 5) ≠ 0) (h3 : (nb_rd M l0 2) ≠ 0) :
    nb_R nb_P 64 9 [(19, l0), (0, l1)] [] M = if nb_rd M (nb_rd M l0 2) 10 < nb_sub (nb_add (nb_rd M (nb_rd M l0 5) 7) l1) 1 then nb_R nb_P 64 11 [(19, l0), (0, l1)] [(19, l0)] M else nb_R nb_P 64 10 [(19, l0), (0, l1)] [(19, l0)] M :=
  nb_step (c := ((((true && !decide ((l0 : Int) = 0)) && !decide ((nb_rd M l0 5 : Int) = 0)) && !decide ((l0 : Int) = 0)) && !decide ((nb_rd M l0 2 : Int) = 0))) rfl (by simp [h1, h2, h3])
theorem q_c_pass_10 (l0 l1 s0 : Int) (M : nb_M) :
    nb_R nb_P 64 10 [(19, l0), (0, l1)] [(19, s0)] M = nb_R nb_P 64 12 [(19, l0), (0, l1)] [(0, 1), (19, s0)] M :=
  nb_step (c := true) rfl rfl
theorem q_c_pass_11 (l0 l1 s0 : Int) (M : nb_M) :
    nb_R nb_P 64 11 [(19, l0), (0, l1)] [(19, s0)] M = nb_R nb_P 64 12 [(19, l0), (0, l1)] [(0, 0), (19, s0)] M :=
  nb_step (c := true) rfl rfl
theorem q_c_pass_12 (l0 l1 s0 s1 : Int) (M : nb_M) (h1 : s1 ≠ 0) :
    nb_R nb_P 64 12 [(19, l0), (0, l1)] [(0, s0), (19, s1)] M = (nb_R nb_P 7 0 [(19, s1), (0, s0), (0, 3)] [] M).bind fun r => nb_R nb_P 64 13 [(19, l0), (0, l1)] (r.1 ++ []) r.2 :=
  nb_stepC (c := true) (L2 := [(19, l0), (0, l1)]) (S2 := [(0, 3), (0, s0), (19, s1)]) (M2 := M) (t := 13) (cl := 7) (vi := true) rfl rfl (nb_inv_eq (n := 3) rfl rfl rfl rfl rfl rfl (fun _ => h1) rfl)
theorem q_c_pass_13 (l0 l1 s0 : Int) (M : nb_M) :
    nb_R nb_P 64 13 [(19, l0), (0, l1)] [(0, s0)] M = if s0 = 0 then nb_R nb_P 64 14 [(19, l0), (0, l1)] [] M else nb_R nb_P 64 15 [(19, l0), (0, l1)] [] M :=
  nb_step (c := true) rfl rfl
theorem q_c_pass_14 (v0 v1 : nb_V) (M : nb_M) :
    nb_R nb_P 64 14 [v0, v1] [] M = some ([(0, (-1))], M) :=
  nb_step (c := true) rfl rfl
theorem q_c_pass_15 (l0 l1 : Int) (M : nb_M) (h1 : l0 ≠ 0) :
    nb_R nb_P 64 15 [(19, l0), (0, l1)] [] M = (nb_R nb_P 63 0 [(19, l0)] [] M).bind fun r => nb_R nb_P 64 16 [(19, l0), (0, l1)] (r.1 ++ []) r.2 :=
  nb_stepC (c := true) (L2 := [(19, l0), (0, l1)]) (S2 := [(19, l0)]) (M2 := M) (t := 16) (cl := 63) (vi := true) rfl rfl (nb_inv_eq (n := 1) rfl rfl rfl rfl rfl rfl (fun _ => h1) rfl)
theorem q_c_pass_16 (l0 l1 : Int) (M : nb_M) (h1 : l0 ≠ 0) (h2 : (nb_rd M l0 5) ≠ 0) :
    nb_R nb_P 64 16 [(19, l0), (0, l1)] [] M = (nb_R nb_P 257 0 [(15, nb_rd M l0 5), (0, nb_sub (nb_add (nb_rd M (nb_rd M l0 5) 7) l1) 1), (98, 0), (98, 0)] [] M).bind fun r => nb_R nb_P 64 17 [(19, l0), (0, l1)] (r.1 ++ []) r.2 :=
  nb_stepC (c := (((true && !decide ((l0 : Int) = 0)) && !decide ((l0 : Int) = 0)) && !decide ((nb_rd M l0 5 : Int) = 0))) (L2 := [(19, l0), (0, l1)]) (S2 := [(0, nb_sub (nb_add (nb_rd M (nb_rd M l0 5) 7) l1) 1), (15, nb_rd M l0 5)]) (M2 := M) (t := 17) (cl := 257) (vi := true) rfl (by simp [h1, h2]) (nb_inv_eq (n := 2) rfl rfl rfl rfl rfl rfl (fun _ => h2) rfl)
theorem q_c_pass_17 (l0 : Int) (v1 : nb_V) (M : nb_M) (h1 : l0 ≠ 0) (h2 : (nb_rd M l0 5) ≠ 0) :
    nb_R nb_P 64 17 [(19, l0), v1] [] M = some ([(0, nb_rd M (nb_rd M l0 5) 7)], M) :=
  nb_step (c := ((true && !decide ((l0 : Int) = 0)) && !decide ((nb_rd M l0 5 : Int) = 0))) rfl (by simp [h1, h2])
theorem q_c_moves_0 (l0 l1 l2 : Int) (M : nb_M) (h1 : l0 ≠ 0) :
    nb_R nb_P 65 0 [(19, l0), (0, l1), (0, l2)] [] M = (nb_R nb_P 9 0 [(19, l0), (0, l1)] [] M).bind fun r => nb_R nb_P 65 1 [(19, l0), (0, l1), (0, l2)] (r.1 ++ [(19, l0)]) r.2 :=
  nb_stepC (c := true) (L2 := [(19, l0), (0, l1), (0, l2)]) (S2 := [(0, l1), (19, l0), (19, l0)]) (M2 := M) (t := 1) (cl := 9) (vi := true) rfl rfl (nb_inv_eq (n := 2) rfl rfl rfl rfl rfl rfl (fun _ => h1) rfl)
theorem q_c_moves_1 (l0 l1 l2 s0 s1 : Int) (M : nb_M) :
    nb_R nb_P 65 1 [(19, l0), (0, l1), (0, l2)] [(0, s0), (19, s1)] M = if s0 = 0 then nb_R nb_P 65 5 [(19, l0), (0, l1), (0, l2)] [(19, s1)] M else nb_R nb_P 65 2 [(19, l0), (0, l1), (0, l2)] [(19, s1)] M :=
  nb_step (c := true) rfl rfl
theorem q_c_moves_2 (l0 l1 l2 s0 : Int) (M : nb_M) (h1 : l0 ≠ 0) :
    nb_R nb_P 65 2 [(19, l0), (0, l1), (0, l2)] [(19, s0)] M = (nb_R nb_P 12 0 [(19, l0), (0, l2)] [] M).bind fun r => nb_R nb_P 65 3 [(19, l0), (0, l1), (0, l2)] (r.1 ++ [(19, s0)]) r.2 :=
  nb_stepC (c := true) (L2 := [(19, l0), (0, l1), (0, l2)]) (S2 := [(0, l2), (19, l0), (19, s0)]) (M2 := M) (t := 3) (cl := 12) (vi := true) rfl rfl (nb_inv_eq (n := 2) rfl rfl rfl rfl rfl rfl (fun _ => h1) rfl)
theorem q_c_moves_3 (l0 l1 l2 s0 s1 : Int) (M : nb_M) :
    nb_R nb_P 65 3 [(19, l0), (0, l1), (0, l2)] [(0, s0), (19, s1)] M = if s0 = 0 then nb_R nb_P 65 5 [(19, l0), (0, l1), (0, l2)] [(19, s1)] M else nb_R nb_P 65 4 [(19, l0), (0, l1), (0, l2)] [(19, s1)] M :=
  nb_step (c := true) rfl rfl
theorem q_c_moves_4 (l0 l1 l2 s0 : Int) (M : nb_M) :
    nb_R nb_P 65 4 [(19, l0), (0, l1), (0, l2)] [(19, s0)] M = nb_R nb_P 65 6 [(19, l0), (0, l1), (0, l2)] [(0, 1), (19, s0)] M :=
  nb_step (c := true) rfl rfl
theorem q_c_moves_5 (l0 l1 l2 s0 : Int) (M : nb_M) :
    nb_R nb_P 65 5 [(19, l0), (0, l1), (0, l2)] [(19, s0)] M = nb_R nb_P 65 6 [(19, l0), (0, l1), (0, l2)] [(0, 0), (19, s0)] M :=
  nb_step (c := true) rfl rfl
theorem q_c_moves_6 (l0 l1 l2 s0 s1 : Int) (M : nb_M) (h1 : s1 ≠ 0) :
    nb_R nb_P 65 6 [(19, l0), (0, l1), (0, l2)] [(0, s0), (19, s1)] M = (nb_R nb_P 7 0 [(19, s1), (0, s0), (0, 1)] [] M).bind fun r => nb_R nb_P 65 7 [(19, l0), (0, l1), (0, l2)] (r.1 ++ []) r.2 :=
  nb_stepC (c := true) (L2 := [(19, l0), (0, l1), (0, l2)]) (S2 := [(0, 1), (0, s0), (19, s1)]) (M2 := M) (t := 7) (cl := 7) (vi := true) rfl rfl (nb_inv_eq (n := 3) rfl rfl rfl rfl rfl rfl (fun _ => h1) rfl)
theorem q_c_moves_7 (l0 l1 l2 s0 : Int) (M : nb_M) :
    nb_R nb_P 65 7 [(19, l0), (0, l1), (0, l2)] [(0, s0)] M = if s0 = 0 then nb_R nb_P 65 15 [(19, l0), (0, l1), (0, l2)] [] M else nb_R nb_P 65 8 [(19, l0), (0, l1), (0, l2)] [] M :=
  nb_step (c := true) rfl rfl
theorem q_c_moves_8 (l0 l1 l2 : Int) (M : nb_M) (h1 : l0 ≠ 0) :
    nb_R nb_P 65 8 [(19, l0), (0, l1), (0, l2)] [] M = (nb_R nb_P 14 0 [(19, l0), (0, l1)] [] M).bind fun r => nb_R nb_P 65 9 [(19, l0), (0, l1), (0, l2)] (r.1 ++ [(19, l0)]) r.2 :=
  nb_stepC (c := true) (L2 := [(19, l0), (0, l1), (0, l2)]) (S2 := [(0, l1), (19, l0), (19, l0)]) (M2 := M) (t := 9) (cl := 14) (vi := true) rfl rfl (nb_inv_eq (n := 2) rfl rfl rfl rfl rfl rfl (fun _ => h1) rfl)
theorem q_c_moves_9 (l0 l1 l2 s0 s1 : Int) (M : nb_M) :
    nb_R nb_P 65 9 [(19, l0), (0, l1), (0, l2)] [(0, s0), (19, s1)] M = if s0 = 0 then nb_R nb_P 65 12 [(19, l0), (0, l1), (0, l2)] [(19, s1)] M else nb_R nb_P 65 10 [(19, l0), (0, l1), (0, l2)] [(19, s1)] M :=
  nb_step (c := true) rfl rfl
theorem q_c_moves_10 (l0 l1 l2 s0 : Int) (M : nb_M) (h1 : l0 ≠ 0) (h2 : (nb_rd M l0 5) ≠ 0) (h3 : (nb_rd M (nb_rd M l0 5) 0) ≠ 0) (h4 : (0 : Int) ≤ l1) (h5 : l1 < nb_ln M (nb_rd M (nb_rd M l0 5) 0)) (h6 : (nb_rd M (nb_rd M (nb_rd M l0 5) 0) l1) ≠ 0) :
    nb_R nb_P 65 10 [(19, l0), (0, l1), (0, l2)] [(19, s0)] M = if nb_rd M (nb_rd M (nb_rd M (nb_rd M l0 5) 0) l1) 3 = l2 then nb_R nb_P 65 12 [(19, l0), (0, l1), (0, l2)] [(19, s0)] M else nb_R nb_P 65 11 [(19, l0), (0, l1), (0, l2)] [(19, s0)] M :=
  nb_step (c := ((((true && !decide ((l0 : Int) = 0)) && !decide ((nb_rd M l0 5 : Int) = 0)) && (!decide ((nb_rd M (nb_rd M l0 5) 0 : Int) = 0) && (decide ((0 : Int) ≤ l1) && decide (l1 < nb_ln M (nb_rd M (nb_rd M l0 5) 0))))) && !decide ((nb_rd M (nb_rd M (nb_rd M l0 5) 0) l1 : Int) = 0))) rfl (by simp [h1, h2, h3, h4, h5, h6])
theorem q_c_moves_11 (l0 l1 l2 s0 : Int) (M : nb_M) :
    nb_R nb_P 65 11 [(19, l0), (0, l1), (0, l2)] [(19, s0)] M = nb_R nb_P 65 13 [(19, l0), (0, l1), (0, l2)] [(0, 1), (19, s0)] M :=
  nb_step (c := true) rfl rfl
theorem q_c_moves_12 (l0 l1 l2 s0 : Int) (M : nb_M) :
    nb_R nb_P 65 12 [(19, l0), (0, l1), (0, l2)] [(19, s0)] M = nb_R nb_P 65 13 [(19, l0), (0, l1), (0, l2)] [(0, 0), (19, s0)] M :=
  nb_step (c := true) rfl rfl
theorem q_c_moves_13 (l0 l1 l2 s0 s1 : Int) (M : nb_M) (h1 : s1 ≠ 0) :
    nb_R nb_P 65 13 [(19, l0), (0, l1), (0, l2)] [(0, s0), (19, s1)] M = (nb_R nb_P 7 0 [(19, s1), (0, s0), (0, 5)] [] M).bind fun r => nb_R nb_P 65 14 [(19, l0), (0, l1), (0, l2)] (r.1 ++ []) r.2 :=
  nb_stepC (c := true) (L2 := [(19, l0), (0, l1), (0, l2)]) (S2 := [(0, 5), (0, s0), (19, s1)]) (M2 := M) (t := 14) (cl := 7) (vi := true) rfl rfl (nb_inv_eq (n := 3) rfl rfl rfl rfl rfl rfl (fun _ => h1) rfl)
theorem q_c_moves_14 (l0 l1 l2 s0 : Int) (M : nb_M) :
    nb_R nb_P 65 14 [(19, l0), (0, l1), (0, l2)] [(0, s0)] M = if s0 = 0 then nb_R nb_P 65 15 [(19, l0), (0, l1), (0, l2)] [] M else nb_R nb_P 65 16 [(19, l0), (0, l1), (0, l2)] [] M :=
  nb_step (c := true) rfl rfl
theorem q_c_moves_15 (v0 v1 v2 : nb_V) (M : nb_M) :
    nb_R nb_P 65 15 [v0, v1, v2] [] M = some ([(0, 0)], M) :=
  nb_step (c := true) rfl rfl
theorem q_c_moves_16 (l0 l1 l2 : Int) (M : nb_M) (h1 : l0 ≠ 0) :
    nb_R nb_P 65 16 [(19, l0), (0, l1), (0, l2)] [] M = (nb_R nb_P 63 0 [(19, l0)] [] M).bind fun r => nb_R nb_P 65 17 [(19, l0), (0, l1), (0, l2)] (r.1 ++ []) r.2 :=
  nb_stepC (c := true) (L2 := [(19, l0), (0, l1), (0, l2)]) (S2 := [(19, l0)]) (M2 := M) (t := 17) (cl := 63) (vi := true) rfl rfl (nb_inv_eq (n := 1) rfl rfl rfl rfl rfl rfl (fun _ => h1) rfl)
theorem q_c_moves_17 (l0 l1 l2 : Int) (M : nb_M) (h1 : l0 ≠ 0) (h2 : (nb_rd M l0 5) ≠ 0) (h3 : (nb_rd M (nb_rd M l0 5) 0) ≠ 0) (h4 : (0 : Int) ≤ l1) (h5 : l1 < nb_ln M (nb_rd M (nb_rd M l0 5) 0)) (h6 : (nb_rd M (nb_rd M (nb_rd M l0 5) 0) l1) ≠ 0) :
    nb_R nb_P 65 17 [(19, l0), (0, l1), (0, l2)] [] M = nb_R nb_P 65 18 [(19, l0), (0, l1), (0, l2)] [] (nb_wr M (nb_rd M (nb_rd M (nb_rd M l0 5) 0) l1) 3 l2) :=
  nb_step (c := ((((true && !decide ((l0 : Int) = 0)) && !decide ((nb_rd M l0 5 : Int) = 0)) && (!decide ((nb_rd M (nb_rd M l0 5) 0 : Int) = 0) && (decide ((0 : Int) ≤ l1) && decide (l1 < nb_ln M (nb_rd M (nb_rd M l0 5) 0))))) && (!decide ((nb_rd M (nb_rd M (nb_rd M l0 5) 0) l1 : Int) = 0) && (!false || (decide ((l2 : Int) = 0) || decide ((l2 : Int) = 1)))))) rfl (by simp [h1, h2, h3, h4, h5, h6])
theorem q_c_moves_18 (v0 v1 v2 : nb_V) (M : nb_M) :
    nb_R nb_P 65 18 [v0, v1, v2] [] M = some ([(0, 1)], M) :=
  nb_step (c := true) rfl rfl
theorem q_c_lets_0 (l0 l1 l2 : Int) (M : nb_M) (h1 : l0 ≠ 0) :
    nb_R nb_P 66 0 [(19, l0), (0, l1), (0, l2)] [] M = (nb_R nb_P 48 0 [(19, l0), (0, l1), (0, l2)] [] M).bind fun r => nb_R nb_P 66 1 [(19, l0), (0, l1), (0, l2)] (r.1 ++ []) r.2 :=
  nb_stepC (c := true) (L2 := [(19, l0), (0, l1), (0, l2)]) (S2 := [(0, l2), (0, l1), (19, l0)]) (M2 := M) (t := 1) (cl := 48) (vi := true) rfl rfl (nb_inv_eq (n := 3) rfl rfl rfl rfl rfl rfl (fun _ => h1) rfl)
theorem q_c_lets_1 (l0 l1 l2 s0 : Int) (M : nb_M) :
    nb_R nb_P 66 1 [(19, l0), (0, l1), (0, l2)] [(0, s0)] M = if s0 = 0 then nb_R nb_P 66 2 [(19, l0), (0, l1), (0, l2)] [] M else nb_R nb_P 66 3 [(19, l0), (0, l1), (0, l2)] [] M :=
  nb_step (c := true) rfl rfl
theorem q_c_lets_2 (v0 v1 v2 : nb_V) (M : nb_M) :
    nb_R nb_P 66 2 [v0, v1, v2] [] M = some ([(0, 0)], M) :=
  nb_step (c := true) rfl rfl
theorem q_c_lets_3 (l0 l1 l2 : Int) (M : nb_M) (h1 : l0 ≠ 0) :
    nb_R nb_P 66 3 [(19, l0), (0, l1), (0, l2)] [] M = (nb_R nb_P 63 0 [(19, l0)] [] M).bind fun r => nb_R nb_P 66 4 [(19, l0), (0, l1), (0, l2)] (r.1 ++ []) r.2 :=
  nb_stepC (c := true) (L2 := [(19, l0), (0, l1), (0, l2)]) (S2 := [(19, l0)]) (M2 := M) (t := 4) (cl := 63) (vi := true) rfl rfl (nb_inv_eq (n := 1) rfl rfl rfl rfl rfl rfl (fun _ => h1) rfl)
theorem q_c_lets_4 (l0 l1 l2 : Int) (M : nb_M) (h1 : l0 ≠ 0) :
    nb_R nb_P 66 4 [(19, l0), (0, l1), (0, l2)] [] M = (nb_R nb_P 49 0 [(15, nb_rd M l0 5), (0, l1), (0, l2)] [] M).bind fun r => nb_R nb_P 66 5 [(19, l0), (0, l1), (0, l2)] (r.1 ++ []) r.2 :=
  nb_stepC (c := (true && !decide ((l0 : Int) = 0))) (L2 := [(19, l0), (0, l1), (0, l2)]) (S2 := [(0, l2), (0, l1), (15, nb_rd M l0 5)]) (M2 := M) (t := 5) (cl := 49) (vi := false) rfl (by simp [h1]) (nb_inv_eq (n := 3) rfl rfl rfl rfl rfl rfl (fun h => by cases h) rfl)
theorem q_c_lets_5 (v0 v1 v2 : nb_V) (M : nb_M) :
    nb_R nb_P 66 5 [v0, v1, v2] [] M = some ([(0, 1)], M) :=
  nb_step (c := true) rfl rfl
theorem q_c_calls_0 (l0 l1 : Int) (v2 : nb_V) (M : nb_M) (h1 : l0 ≠ 0) :
    nb_R nb_P 67 0 [(19, l0), (0, l1), v2] [] M = (nb_R nb_P 69 0 [(19, l0), (0, l1)] [] M).bind fun r => nb_R nb_P 67 1 [(19, l0), (0, l1), v2] (r.1 ++ []) r.2 :=
  nb_stepC (c := true) (L2 := [(19, l0), (0, l1), v2]) (S2 := [(0, l1), (19, l0)]) (M2 := M) (t := 1) (cl := 69) (vi := true) rfl rfl (nb_inv_eq (n := 2) rfl rfl rfl rfl rfl rfl (fun _ => h1) rfl)
theorem q_c_calls_1 (l0 l1 s0 : Int) (v2 : nb_V) (M : nb_M) :
    nb_R nb_P 67 1 [(19, l0), (0, l1), v2] [(0, s0)] M = if s0 = 0 then nb_R nb_P 67 2 [(19, l0), (0, l1), v2] [] M else nb_R nb_P 67 3 [(19, l0), (0, l1), v2] [] M :=
  nb_step (c := true) rfl rfl
theorem q_c_calls_2 (v0 v1 v2 : nb_V) (M : nb_M) :
    nb_R nb_P 67 2 [v0, v1, v2] [] M = some ([(0, (-1))], M) :=
  nb_step (c := true) rfl rfl
theorem q_c_calls_3 (l0 l1 : Int) (v2 : nb_V) (M : nb_M) (h1 : l0 ≠ 0) :
    nb_R nb_P 67 3 [(19, l0), (0, l1), v2] [] M = (nb_R nb_P 63 0 [(19, l0)] [] M).bind fun r => nb_R nb_P 67 4 [(19, l0), (0, l1), v2] (r.1 ++ []) r.2 :=
  nb_stepC (c := true) (L2 := [(19, l0), (0, l1), v2]) (S2 := [(19, l0)]) (M2 := M) (t := 4) (cl := 63) (vi := true) rfl rfl (nb_inv_eq (n := 1) rfl rfl rfl rfl rfl rfl (fun _ => h1) rfl)
theorem q_c_calls_4 (l0 l1 : Int) (v2 : nb_V) (M : nb_M) (h1 : l0 ≠ 0) (h2 : (nb_rd M l0 5) ≠ 0) (h3 : (nb_rd M (nb_rd M l0 5) 0) ≠ 0) (h4 : (0 : Int) ≤ l1) (h5 : l1 < nb_ln M (nb_rd M (nb_rd M l0 5) 0)) (h6 : (nb_rd M (nb_rd M (nb_rd M l0 5) 0) l1) ≠ 0) :
    nb_R nb_P 67 4 [(19, l0), (0, l1), v2] [] M = ((some ([(0, if nb_add (nb_rd M (nb_rd M (nb_rd M (nb_rd M l0 5) 0) l1) 5) 5 < 99 then nb_add (nb_rd M (nb_rd M (nb_rd M (nb_rd M l0 5) 0) l1) 5) 5 else 99)], M) : nb_A)).bind fun r => nb_R nb_P 67 5 [(19, l0), (0, l1), (11, nb_rd M (nb_rd M (nb_rd M l0 5) 0) l1)] (r.1 ++ [(11, nb_rd M (nb_rd M (nb_rd M l0 5) 0) l1)]) r.2 :=
  nb_stepC (c := ((((true && !decide ((l0 : Int) = 0)) && !decide ((nb_rd M l0 5 : Int) = 0)) && (!decide ((nb_rd M (nb_rd M l0 5) 0 : Int) = 0) && (decide ((0 : Int) ≤ l1) && decide (l1 < nb_ln M (nb_rd M (nb_rd M l0 5) 0))))) && !decide ((nb_rd M (nb_rd M (nb_rd M l0 5) 0) l1 : Int) = 0))) (L2 := [(19, l0), (0, l1), (11, nb_rd M (nb_rd M (nb_rd M l0 5) 0) l1)]) (S2 := [(0, nb_add (nb_rd M (nb_rd M (nb_rd M (nb_rd M l0 5) 0) l1) 5) 5), (0, 99), (11, nb_rd M (nb_rd M (nb_rd M l0 5) 0) l1)]) (M2 := M) (t := 5) (cl := 906) (vi := false) rfl (by simp [h1, h2, h3, h4, h5, h6]) (nb_inv_eq (n := 2) rfl rfl rfl rfl rfl rfl (fun h => by cases h) rfl)
theorem q_c_calls_5 (l2 s0 s1 : Int) (v0 v1 : nb_V) (M : nb_M) (h1 : s1 ≠ 0) :
    nb_R nb_P 67 5 [v0, v1, (11, l2)] [(0, s0), (11, s1)] M = nb_R nb_P 67 6 [v0, v1, (11, l2)] [] (nb_wr M s1 5 s0) :=
  nb_step (c := (true && (!decide ((s1 : Int) = 0) && (!false || (decide ((s0 : Int) = 0) || decide ((s0 : Int) = 1)))))) rfl (by simp [h1])
theorem q_c_calls_6 (l2 : Int) (v0 v1 : nb_V) (M : nb_M) (h1 : l2 ≠ 0) :
    nb_R nb_P 67 6 [v0, v1, (11, l2)] [] M = some ([(0, nb_rd M l2 5)], M) :=
  nb_step (c := (true && !decide ((l2 : Int) = 0))) rfl (by simp [h1])
theorem q_c_leaves_0 (l0 l1 : Int) (M : nb_M) (h1 : l0 ≠ 0) :
    nb_R nb_P 68 0 [(19, l0), (0, l1)] [] M = (nb_R nb_P 69 0 [(19, l0), (0, l1)] [] M).bind fun r => nb_R nb_P 68 1 [(19, l0), (0, l1)] (r.1 ++ []) r.2 :=
  nb_stepC (c := true) (L2 := [(19, l0), (0, l1)]) (S2 := [(0, l1), (19, l0)]) (M2 := M) (t := 1) (cl := 69) (vi := true) rfl rfl (nb_inv_eq (n := 2) rfl rfl rfl rfl rfl rfl (fun _ => h1) rfl)
theorem q_c_leaves_1 (l0 l1 s0 : Int) (M : nb_M) :
    nb_R nb_P 68 1 [(19, l0), (0, l1)] [(0, s0)] M = if s0 = 0 then nb_R nb_P 68 2 [(19, l0), (0, l1)] [] M else nb_R nb_P 68 3 [(19, l0), (0, l1)] [] M :=
  nb_step (c := true) rfl rfl
theorem q_c_leaves_2 (v0 v1 : nb_V) (M : nb_M) :
    nb_R nb_P 68 2 [v0, v1] [] M = some ([(0, 0)], M) :=
  nb_step (c := true) rfl rfl
theorem q_c_leaves_3 (l0 l1 : Int) (M : nb_M) (h1 : l0 ≠ 0) :
    nb_R nb_P 68 3 [(19, l0), (0, l1)] [] M = (nb_R nb_P 63 0 [(19, l0)] [] M).bind fun r => nb_R nb_P 68 4 [(19, l0), (0, l1)] (r.1 ++ []) r.2 :=
  nb_stepC (c := true) (L2 := [(19, l0), (0, l1)]) (S2 := [(19, l0)]) (M2 := M) (t := 4) (cl := 63) (vi := true) rfl rfl (nb_inv_eq (n := 1) rfl rfl rfl rfl rfl rfl (fun _ => h1) rfl)
theorem q_c_leaves_4 (l0 l1 : Int) (M : nb_M) (h1 : l0 ≠ 0) (h2 : (nb_rd M l0 5) ≠ 0) (h3 : (nb_rd M (nb_rd M l0 5) 0) ≠ 0) (h4 : (0 : Int) ≤ l1) (h5 : l1 < nb_ln M (nb_rd M (nb_rd M l0 5) 0)) (h6 : (nb_rd M (nb_rd M (nb_rd M l0 5) 0) l1) ≠ 0) :
    nb_R nb_P 68 4 [(19, l0), (0, l1)] [] M = nb_R nb_P 68 5 [(19, l0), (0, l1)] [] (nb_wr M (nb_rd M (nb_rd M (nb_rd M l0 5) 0) l1) 8 5) :=
  nb_step (c := ((((true && !decide ((l0 : Int) = 0)) && !decide ((nb_rd M l0 5 : Int) = 0)) && (!decide ((nb_rd M (nb_rd M l0 5) 0 : Int) = 0) && (decide ((0 : Int) ≤ l1) && decide (l1 < nb_ln M (nb_rd M (nb_rd M l0 5) 0))))) && (!decide ((nb_rd M (nb_rd M (nb_rd M l0 5) 0) l1 : Int) = 0) && (!false || (decide ((5 : Int) = 0) || decide ((5 : Int) = 1)))))) rfl (by simp [h1, h2, h3, h4, h5, h6])
theorem q_c_leaves_5 (v0 v1 : nb_V) (M : nb_M) :
    nb_R nb_P 68 5 [v0, v1] [] M = some ([(0, 1)], M) :=
  nb_step (c := true) rfl rfl
theorem q_c_isPersonWaiting_0 (l0 l1 : Int) (M : nb_M) (h1 : l0 ≠ 0) :
    nb_R nb_P 69 0 [(19, l0), (0, l1)] [] M = (nb_R nb_P 9 0 [(19, l0), (0, l1)] [] M).bind fun r => nb_R nb_P 69 1 [(19, l0), (0, l1)] (r.1 ++ [(19, l0)]) r.2 :=
  nb_stepC (c := true) (L2 := [(19, l0), (0, l1)]) (S2 := [(0, l1), (19, l0), (19, l0)]) (M2 := M) (t := 1) (cl := 9) (vi := true) rfl rfl (nb_inv_eq (n := 2) rfl rfl rfl rfl rfl rfl (fun _ => h1) rfl)
theorem q_c_isPersonWaiting_1 (l0 l1 s0 s1 : Int) (M : nb_M) (h1 : s1 ≠ 0) :
    nb_R nb_P 69 1 [(19, l0), (0, l1)] [(0, s0), (19, s1)] M = (nb_R nb_P 7 0 [(19, s1), (0, s0), (0, 1)] [] M).bind fun r => nb_R nb_P 69 2 [(19, l0), (0, l1)] (r.1 ++ []) r.2 :=
  nb_stepC (c := true) (L2 := [(19, l0), (0, l1)]) (S2 := [(0, 1), (0, s0), (19, s1)]) (M2 := M) (t := 2) (cl := 7) (vi := true) rfl rfl (nb_inv_eq (n := 3) rfl rfl rfl rfl rfl rfl (fun _ => h1) rfl)
theorem q_c_isPersonWaiting_2 (l0 l1 s0 : Int) (M : nb_M) :
    nb_R nb_P 69 2 [(19, l0), (0, l1)] [(0, s0)] M = if s0 = 0 then nb_R nb_P 69 7 [(19, l0), (0, l1)] [] M else nb_R nb_P 69 3 [(19, l0), (0, l1)] [] M :=
  nb_step (c := true) rfl rfl
theorem q_c_isPersonWaiting_3 (l0 l1 : Int) (M : nb_M) (h1 : l0 ≠ 0) :
    nb_R nb_P 69 3 [(19, l0), (0, l1)] [] M = (nb_R nb_P 14 0 [(19, l0), (0, l1)] [] M).bind fun r => nb_R nb_P 69 4 [(19, l0), (0, l1)] (r.1 ++ [(19, l0)]) r.2 :=
  nb_stepC (c := true) (L2 := [(19, l0), (0, l1)]) (S2 := [(0, l1), (19, l0), (19, l0)]) (M2 := M) (t := 4) (cl := 14) (vi := true) rfl rfl (nb_inv_eq (n := 2) rfl rfl rfl rfl rfl rfl (fun _ => h1) rfl)
theorem q_c_isPersonWaiting_4 (s0 s1 : Int) (v0 v1 : nb_V) (M : nb_M) (h1 : s1 ≠ 0) :
    nb_R nb_P 69 4 [v0, v1] [(0, s0), (19, s1)] M = (nb_R nb_P 7 0 [(19, s1), (0, s0), (0, 5)] [] M).bind fun r => nb_R nb_P 69 5 [v0, v1] (r.1 ++ []) r.2 :=
  nb_stepC (c := true) (L2 := [v0, v1]) (S2 := [(0, 5), (0, s0), (19, s1)]) (M2 := M) (t := 5) (cl := 7) (vi := true) rfl rfl (nb_inv_eq (n := 3) rfl rfl rfl rfl rfl rfl (fun _ => h1) rfl)
theorem q_c_isPersonWaiting_5 (s0 : Int) (v0 v1 : nb_V) (M : nb_M) :
    nb_R nb_P 69 5 [v0, v1] [(0, s0)] M = if s0 = 0 then nb_R nb_P 69 7 [v0, v1] [] M else nb_R nb_P 69 6 [v0, v1] [] M :=
  nb_step (c := true) rfl rfl
theorem q_c_isPersonWaiting_6 (v0 v1 : nb_V) (M : nb_M) :
    nb_R nb_P 69 6 [v0, v1] [] M = nb_R nb_P 69 8 [v0, v1] [(0, 1)] M :=
  nb_step (c := true) rfl rfl
theorem q_c_isPersonWaiting_7 (v0 v1 : nb_V) (M : nb_M) :
    nb_R nb_P 69 7 [v0, v1] [] M = nb_R nb_P 69 8 [v0, v1] [(0, 0)] M :=
  nb_step (c := true) rfl rfl
theorem q_c_isPersonWaiting_8 (s0 : Int) (v0 v1 : nb_V) (M : nb_M) :
    nb_R nb_P 69 8 [v0, v1] [(0, s0)] M = some ([(0, nb_i2z s0)], M) :=
  nb_step (c := true) rfl rfl
theorem q_c_undo_0 (l0 : Int) (M : nb_M) (h1 : l0 ≠ 0) :
    nb_R nb_P 70 0 [(19, l0)] [] M = if 0 < nb_rd M l0 9 then nb_R nb_P 70 1 [(19, l0)] [(19, l0)] M else nb_R nb_P 70 2 [(19, l0)] [(19, l0)] M :=
  nb_step (c := (true && !decide ((l0 : Int) = 0))) rfl (by simp [h1])
theorem q_c_undo_1 (l0 s0 : Int) (M : nb_M) :
    nb_R nb_P 70 1 [(19, l0)] [(19, s0)] M = nb_R nb_P 70 3 [(19, l0)] [(0, 1), (19, s0)] M :=
  nb_step (c := true) rfl rfl
theorem q_c_undo_2 (l0 s0 : Int) (M : nb_M) :
    nb_R nb_P 70 2 [(19, l0)] [(19, s0)] M = nb_R nb_P 70 3 [(19, l0)] [(0, 0), (19, s0)] M :=
  nb_step (c := true) rfl rfl
theorem q_c_undo_3 (l0 s0 s1 : Int) (M : nb_M) (h1 : s1 ≠ 0) :
    nb_R nb_P 70 3 [(19, l0)] [(0, s0), (19, s1)] M = (nb_R nb_P 7 0 [(19, s1), (0, s0), (0, 6)] [] M).bind fun r => nb_R nb_P 70 4 [(19, l0)] (r.1 ++ []) r.2 :=
  nb_stepC (c := true) (L2 := [(19, l0)]) (S2 := [(0, 6), (0, s0), (19, s1)]) (M2 := M) (t := 4) (cl := 7) (vi := true) rfl rfl (nb_inv_eq (n := 3) rfl rfl rfl rfl rfl rfl (fun _ => h1) rfl)
theorem q_c_undo_4 (l0 s0 : Int) (M : nb_M) :
    nb_R nb_P 70 4 [(19, l0)] [(0, s0)] M = if s0 = 0 then nb_R nb_P 70 5 [(19, l0)] [] M else nb_R nb_P 70 6 [(19, l0)] [] M :=
  nb_step (c := true) rfl rfl
theorem q_c_undo_5 (v0 : nb_V) (M : nb_M) :
    nb_R nb_P 70 5 [v0] [] M = some ([(0, 0)], M) :=
  nb_step (c := true) rfl rfl
theorem q_c_undo_6 (l0 : Int) (M : nb_M) (h1 : l0 ≠ 0) :
    nb_R nb_P 70 6 [(19, l0)] [] M = nb_R nb_P 70 7 [(19, l0)] [] (nb_wr M l0 9 (nb_sub (nb_rd M l0 9) 1)) :=
  nb_step (c := ((true && !decide ((l0 : Int) = 0)) && (!decide ((l0 : Int) = 0) && (!false || (decide ((nb_sub (nb_rd M l0 9) 1 : Int) = 0) || decide ((nb_sub (nb_rd M l0 9) 1 : Int) = 1)))))) rfl (by simp [h1])
theorem q_c_undo_7 (l0 : Int) (M : nb_M) (h1 : l0 ≠ 0) (h2 : (nb_rd M l0 7) ≠ 0) (h3 : (0 : Int) ≤ nb_rem (nb_add (nb_rd M l0 8) (nb_rd M l0 9)) 12) (h4 : nb_rem (nb_add (nb_rd M l0 8) (nb_rd M l0 9)) 12 < nb_ln M (nb_rd M l0 7)) (h5 : (nb_rd M l0 5) ≠ 0) :
    nb_R nb_P 70 7 [(19, l0)] [] M = (nb_R nb_P 255 0 [(15, nb_rd M l0 5), (15, nb_rd M (nb_rd M l0 7) (nb_rem (nb_add (nb_rd M l0 8) (nb_rd M l0 9)) 12)), (98, 0)] [] M).bind fun r => nb_R nb_P 70 8 [(19, l0)] (r.1 ++ []) r.2 :=
  nb_stepC (c := ((((((true && !decide ((l0 : Int) = 0)) && !decide ((l0 : Int) = 0)) && !decide ((l0 : Int) = 0)) && !decide ((l0 : Int) = 0)) && !decide ((12 : Int) = 0)) && (!decide ((nb_rd M l0 7 : Int) = 0) && (decide ((0 : Int) ≤ nb_rem (nb_add (nb_rd M l0 8) (nb_rd M l0 9)) 12) && decide (nb_rem (nb_add (nb_rd M l0 8) (nb_rd M l0 9)) 12 < nb_ln M (nb_rd M l0 7)))))) (L2 := [(19, l0)]) (S2 := [(15, nb_rd M (nb_rd M l0 7) (nb_rem (nb_add (nb_rd M l0 8) (nb_rd M l0 9)) 12)), (15, nb_rd M l0 5)]) (M2 := M) (t := 8) (cl := 255) (vi := true) rfl (by simp [h1, h2, h3, h4, h5]) (nb_inv_eq (n := 2) rfl rfl rfl rfl rfl rfl (fun _ => h5) rfl)
theorem q_c_undo_8 (v0 : nb_V) (M : nb_M) :
    nb_R nb_P 70 8 [v0] [] M = some ([(0, 1)], M) :=
  nb_step (c := true) rfl rfl
theorem q_c_image_0 (l0 : Int) (M : nb_M) (h1 : l0 ≠ 0) :
    nb_R nb_P 71 0 [(19, l0)] [] M = (nb_R nb_P 8 0 [(19, l0)] [] M).bind fun r => nb_R nb_P 71 1 [(19, l0)] (r.1 ++ [(19, l0)]) r.2 :=
  nb_stepC (c := true) (L2 := [(19, l0)]) (S2 := [(19, l0), (19, l0)]) (M2 := M) (t := 1) (cl := 8) (vi := true) rfl rfl (nb_inv_eq (n := 1) rfl rfl rfl rfl rfl rfl (fun _ => h1) rfl)
theorem q_c_image_1 (l0 s0 s1 : Int) (M : nb_M) (h1 : s1 ≠ 0) :
    nb_R nb_P 71 1 [(19, l0)] [(0, s0), (19, s1)] M = (nb_R nb_P 7 0 [(19, s1), (0, s0), (0, 1)] [] M).bind fun r => nb_R nb_P 71 2 [(19, l0)] (r.1 ++ []) r.2 :=
  nb_stepC (c := true) (L2 := [(19, l0)]) (S2 := [(0, 1), (0, s0), (19, s1)]) (M2 := M) (t := 2) (cl := 7) (vi := true) rfl rfl (nb_inv_eq (n := 3) rfl rfl rfl rfl rfl rfl (fun _ => h1) rfl)
theorem q_c_image_2 (l0 s0 : Int) (M : nb_M) :
    nb_R nb_P 71 2 [(19, l0)] [(0, s0)] M = if s0 = 0 then nb_R nb_P 71 8 [(19, l0)] [] M else nb_R nb_P 71 3 [(19, l0)] [] M :=
  nb_step (c := true) rfl rfl
theorem q_c_image_3 (l0 : Int) (M : nb_M) (h1 : l0 ≠ 0) :
    nb_R nb_P 71 3 [(19, l0)] [] M = if nb_rd M l0 11 < 3 then nb_R nb_P 71 4 [(19, l0)] [(19, l0)] M else nb_R nb_P 71 5 [(19, l0)] [(19, l0)] M :=
  nb_step (c := (true && !decide ((l0 : Int) = 0))) rfl (by simp [h1])
theorem q_c_image_4 (l0 s0 : Int) (M : nb_M) :
    nb_R nb_P 71 4 [(19, l0)] [(19, s0)] M = nb_R nb_P 71 6 [(19, l0)] [(0, 1), (19, s0)] M :=
  nb_step (c := true) rfl rfl
theorem q_c_image_5 (l0 s0 : Int) (M : nb_M) :
    nb_R nb_P 71 5 [(19, l0)] [(19, s0)] M = nb_R nb_P 71 6 [(19, l0)] [(0, 0), (19, s0)] M :=
  nb_step (c := true) rfl rfl
theorem q_c_image_6 (l0 s0 s1 : Int) (M : nb_M) (h1 : s1 ≠ 0) :
    nb_R nb_P 71 6 [(19, l0)] [(0, s0), (19, s1)] M = (nb_R nb_P 7 0 [(19, s1), (0, s0), (0, 3)] [] M).bind fun r => nb_R nb_P 71 7 [(19, l0)] (r.1 ++ []) r.2 :=
  nb_stepC (c := true) (L2 := [(19, l0)]) (S2 := [(0, 3), (0, s0), (19, s1)]) (M2 := M) (t := 7) (cl := 7) (vi := true) rfl rfl (nb_inv_eq (n := 3) rfl rfl rfl rfl rfl rfl (fun _ => h1) rfl)
theorem q_c_image_7 (l0 s0 : Int) (M : nb_M) :
    nb_R nb_P 71 7 [(19, l0)] [(0, s0)] M = if s0 = 0 then nb_R nb_P 71 8 [(19, l0)] [] M else nb_R nb_P 71 9 [(19, l0)] [] M :=
  nb_step (c := true) rfl rfl
theorem q_c_image_8 (v0 : nb_V) (M : nb_M) :
    nb_R nb_P 71 8 [v0] [] M = some ([(0, (-1))], M) :=
  nb_step (c := true) rfl rfl
theorem q_c_image_9 (l0 : Int) (M : nb_M) (h1 : l0 ≠ 0) (h2 : (nb_rd M l0 10) ≠ 0) (h3 : (0 : Int) ≤ nb_rd M l0 11) (h4 : nb_rd M l0 11 < nb_ln M (nb_rd M l0 10)) (h5 : (nb_rd M (nb_rd M l0 10) (nb_rd M l0 11)) ≠ 0) :
    nb_R nb_P 71 9 [(19, l0)] [] M = (nb_R nb_P 255 0 [(15, nb_rd M (nb_rd M l0 10) (nb_rd M l0 11)), (15, nb_rd M l0 5), (98, 0)] [] M).bind fun r => nb_R nb_P 71 10 [(19, l0)] (r.1 ++ []) r.2 :=
  nb_stepC (c := ((((true && !decide ((l0 : Int) = 0)) && !decide ((l0 : Int) = 0)) && (!decide ((nb_rd M l0 10 : Int) = 0) && (decide ((0 : Int) ≤ nb_rd M l0 11) && decide (nb_rd M l0 11 < nb_ln M (nb_rd M l0 10))))) && !decide ((l0 : Int) = 0))) (L2 := [(19, l0)]) (S2 := [(15, nb_rd M l0 5), (15, nb_rd M (nb_rd M l0 10) (nb_rd M l0 11))]) (M2 := M) (t := 10) (cl := 255) (vi := true) rfl (by simp [h1, h2, h3, h4, h5]) (nb_inv_eq (n := 2) rfl rfl rfl rfl rfl rfl (fun _ => h5) rfl)
theorem q_c_image_10 (l0 : Int) (M : nb_M) (h1 : l0 ≠ 0) :
    nb_R nb_P 71 10 [(19, l0)] [] M = nb_R nb_P 71 11 [(19, l0)] [] (nb_wr M l0 11 (nb_add (nb_rd M l0 11) 1)) :=
  nb_step (c := ((true && !decide ((l0 : Int) = 0)) && (!decide ((l0 : Int) = 0) && (!false || (decide ((nb_add (nb_rd M l0 11) 1 : Int) = 0) || decide ((nb_add (nb_rd M l0 11) 1 : Int) = 1)))))) rfl (by simp [h1])
theorem q_c_image_11 (l0 : Int) (M : nb_M) (h1 : l0 ≠ 0) :
    nb_R nb_P 71 11 [(19, l0)] [] M = some ([(0, nb_sub (nb_rd M l0 11) 1)], M) :=
  nb_step (c := (true && !decide ((l0 : Int) = 0))) rfl (by simp [h1])
theorem q_c_back_0 (l0 l1 : Int) (M : nb_M) :
    nb_R nb_P 72 0 [(19, l0), (0, l1)] [] M = if l1 < 0 then nb_R nb_P 72 3 [(19, l0), (0, l1)] [(19, l0)] M else nb_R nb_P 72 1 [(19, l0), (0, l1)] [(19, l0)] M :=
  nb_step (c := true) rfl rfl
theorem q_c_back_1 (l0 l1 s0 : Int) (M : nb_M) (h1 : l0 ≠ 0) :
    nb_R nb_P 72 1 [(19, l0), (0, l1)] [(19, s0)] M = if l1 < nb_rd M l0 11 then nb_R nb_P 72 2 [(19, l0), (0, l1)] [(19, s0)] M else nb_R nb_P 72 3 [(19, l0), (0, l1)] [(19, s0)] M :=
  nb_step (c := (true && !decide ((l0 : Int) = 0))) rfl (by simp [h1])
theorem q_c_back_2 (l0 l1 s0 : Int) (M : nb_M) :
    nb_R nb_P 72 2 [(19, l0), (0, l1)] [(19, s0)] M = nb_R nb_P 72 4 [(19, l0), (0, l1)] [(0, 1), (19, s0)] M :=
  nb_step (c := true) rfl rfl
theorem q_c_back_3 (l0 l1 s0 : Int) (M : nb_M) :
    nb_R nb_P 72 3 [(19, l0), (0, l1)] [(19, s0)] M = nb_R nb_P 72 4 [(19, l0), (0, l1)] [(0, 0), (19, s0)] M :=
  nb_step (c := true) rfl rfl
theorem q_c_back_4 (l0 l1 s0 s1 : Int) (M : nb_M) (h1 : s1 ≠ 0) :
    nb_R nb_P 72 4 [(19, l0), (0, l1)] [(0, s0), (19, s1)] M = (nb_R nb_P 7 0 [(19, s1), (0, s0), (0, 1)] [] M).bind fun r => nb_R nb_P 72 5 [(19, l0), (0, l1)] (r.1 ++ []) r.2 :=
  nb_stepC (c := true) (L2 := [(19, l0), (0, l1)]) (S2 := [(0, 1), (0, s0), (19, s1)]) (M2 := M) (t := 5) (cl := 7) (vi := true) rfl rfl (nb_inv_eq (n := 3) rfl rfl rfl rfl rfl rfl (fun _ => h1) rfl)
theorem q_c_back_5 (l0 l1 s0 : Int) (M : nb_M) :
    nb_R nb_P 72 5 [(19, l0), (0, l1)] [(0, s0)] M = if s0 = 0 then nb_R nb_P 72 6 [(19, l0), (0, l1)] [] M else nb_R nb_P 72 7 [(19, l0), (0, l1)] [] M :=
  nb_step (c := true) rfl rfl
theorem q_c_back_6 (v0 v1 : nb_V) (M : nb_M) :
    nb_R nb_P 72 6 [v0, v1] [] M = some ([(0, 0)], M) :=
  nb_step (c := true) rfl rfl
theorem q_c_back_7 (l0 l1 : Int) (M : nb_M) (h1 : l0 ≠ 0) (h2 : (nb_rd M l0 10) ≠ 0) (h3 : (0 : Int) ≤ l1) (h4 : l1 < nb_ln M (nb_rd M l0 10)) (h5 : (nb_rd M l0 5) ≠ 0) :
    nb_R nb_P 72 7 [(19, l0), (0, l1)] [] M = (nb_R nb_P 255 0 [(15, nb_rd M l0 5), (15, nb_rd M (nb_rd M l0 10) l1), (98, 0)] [] M).bind fun r => nb_R nb_P 72 8 [(19, l0), (0, l1)] (r.1 ++ []) r.2 :=
  nb_stepC (c := (((true && !decide ((l0 : Int) = 0)) && !decide ((l0 : Int) = 0)) && (!decide ((nb_rd M l0 10 : Int) = 0) && (decide ((0 : Int) ≤ l1) && decide (l1 < nb_ln M (nb_rd M l0 10)))))) (L2 := [(19, l0), (0, l1)]) (S2 := [(15, nb_rd M (nb_rd M l0 10) l1), (15, nb_rd M l0 5)]) (M2 := M) (t := 8) (cl := 255) (vi := true) rfl (by simp [h1, h2, h3, h4, h5]) (nb_inv_eq (n := 2) rfl rfl rfl rfl rfl rfl (fun _ => h5) rfl)
theorem q_c_back_8 (l0 : Int) (v1 : nb_V) (M : nb_M) (h1 : l0 ≠ 0) :
    nb_R nb_P 72 8 [(19, l0), v1] [] M = nb_R nb_P 72 9 [(19, l0), v1] [] (nb_wr M l0 9 0) :=
  nb_step (c := (true && (!decide ((l0 : Int) = 0) && (!false || (decide ((0 : Int) = 0) || decide ((0 : Int) = 1)))))) rfl (by simp [h1])
theorem q_c_back_9 (v0 v1 : nb_V) (M : nb_M) :
    nb_R nb_P 72 9 [v0, v1] [] M = some ([(0, 1)], M) :=
  nb_step (c := true) rfl rfl
theorem q_c_told_0 (l0 l1 l2 : Int) (v3 : nb_V) (M : nb_M) (h1 : l0 ≠ 0) :
    nb_R nb_P 73 0 [(19, l0), (0, l1), (0, l2), v3] [] M = (nb_R nb_P 9 0 [(19, l0), (0, l1)] [] M).bind fun r => nb_R nb_P 73 1 [(19, l0), (0, l1), (0, l2), v3] (r.1 ++ [(19, l0)]) r.2 :=
  nb_stepC (c := true) (L2 := [(19, l0), (0, l1), (0, l2), v3]) (S2 := [(0, l1), (19, l0), (19, l0)]) (M2 := M) (t := 1) (cl := 9) (vi := true) rfl rfl (nb_inv_eq (n := 2) rfl rfl rfl rfl rfl rfl (fun _ => h1) rfl)
theorem q_c_told_1 (l0 l1 l2 s0 s1 : Int) (v3 : nb_V) (M : nb_M) :
    nb_R nb_P 73 1 [(19, l0), (0, l1), (0, l2), v3] [(0, s0), (19, s1)] M = if s0 = 0 then nb_R nb_P 73 5 [(19, l0), (0, l1), (0, l2), v3] [(19, s1)] M else nb_R nb_P 73 2 [(19, l0), (0, l1), (0, l2), v3] [(19, s1)] M :=
  nb_step (c := true) rfl rfl
theorem q_c_told_2 (l0 l1 l2 s0 : Int) (v3 : nb_V) (M : nb_M) :
    nb_R nb_P 73 2 [(19, l0), (0, l1), (0, l2), v3] [(19, s0)] M = if l2 < 0 then nb_R nb_P 73 5 [(19, l0), (0, l1), (0, l2), v3] [(19, s0)] M else nb_R nb_P 73 3 [(19, l0), (0, l1), (0, l2), v3] [(19, s0)] M :=
  nb_step (c := true) rfl rfl
theorem q_c_told_3 (l0 l1 l2 s0 : Int) (v3 : nb_V) (M : nb_M) :
    nb_R nb_P 73 3 [(19, l0), (0, l1), (0, l2), v3] [(19, s0)] M = if 6 < l2 then nb_R nb_P 73 5 [(19, l0), (0, l1), (0, l2), v3] [(19, s0)] M else nb_R nb_P 73 4 [(19, l0), (0, l1), (0, l2), v3] [(19, s0)] M :=
  nb_step (c := true) rfl rfl
theorem q_c_told_4 (l0 l1 l2 s0 : Int) (v3 : nb_V) (M : nb_M) :
    nb_R nb_P 73 4 [(19, l0), (0, l1), (0, l2), v3] [(19, s0)] M = nb_R nb_P 73 6 [(19, l0), (0, l1), (0, l2), v3] [(0, 1), (19, s0)] M :=
  nb_step (c := true) rfl rfl
theorem q_c_told_5 (l0 l1 l2 s0 : Int) (v3 : nb_V) (M : nb_M) :
    nb_R nb_P 73 5 [(19, l0), (0, l1), (0, l2), v3] [(19, s0)] M = nb_R nb_P 73 6 [(19, l0), (0, l1), (0, l2), v3] [(0, 0), (19, s0)] M :=
  nb_step (c := true) rfl rfl
theorem q_c_told_6 (l0 l1 l2 s0 s1 : Int) (v3 : nb_V) (M : nb_M) (h1 : s1 ≠ 0) :
    nb_R nb_P 73 6 [(19, l0), (0, l1), (0, l2), v3] [(0, s0), (19, s1)] M = (nb_R nb_P 7 0 [(19, s1), (0, s0), (0, 1)] [] M).bind fun r => nb_R nb_P 73 7 [(19, l0), (0, l1), (0, l2), v3] (r.1 ++ []) r.2 :=
  nb_stepC (c := true) (L2 := [(19, l0), (0, l1), (0, l2), v3]) (S2 := [(0, 1), (0, s0), (19, s1)]) (M2 := M) (t := 7) (cl := 7) (vi := true) rfl rfl (nb_inv_eq (n := 3) rfl rfl rfl rfl rfl rfl (fun _ => h1) rfl)
theorem q_c_told_7 (l0 l1 l2 s0 : Int) (v3 : nb_V) (M : nb_M) :
    nb_R nb_P 73 7 [(19, l0), (0, l1), (0, l2), v3] [(0, s0)] M = if s0 = 0 then nb_R nb_P 73 8 [(19, l0), (0, l1), (0, l2), v3] [] M else nb_R nb_P 73 9 [(19, l0), (0, l1), (0, l2), v3] [] M :=
  nb_step (c := true) rfl rfl
theorem q_c_told_8 (v0 v1 v2 v3 : nb_V) (M : nb_M) :
    nb_R nb_P 73 8 [v0, v1, v2, v3] [] M = some ([(0, (-1))], M) :=
  nb_step (c := true) rfl rfl
set_option maxRecDepth 10000 in
theorem q_c_told_9 (l0 l1 l2 : Int) (v3 : nb_V) (M : nb_M) (h1 : l0 ≠ 0) (h2 : (nb_rd M l0 2) ≠ 0) (h3 : (nb_rd M (nb_rd M l0 2) 4) ≠ 0) (h4 : (0 : Int) ≤ l1) (h5 : l1 < nb_ln M (nb_rd M (nb_rd M l0 2) 4)) :
    nb_R nb_P 73 9 [(19, l0), (0, l1), (0, l2), v3] [] M = if l2 = 0 then nb_R nb_P 73 10 [(19, l0), (0, l1), (0, l2), (11, nb_rd M (nb_rd M (nb_rd M l0 2) 4) l1)] [] M else if l2 = 1 then nb_R nb_P 73 11 [(19, l0), (0, l1), (0, l2), (11, nb_rd M (nb_rd M (nb_rd M l0 2) 4) l1)] [] M else if l2 = 2 then nb_R nb_P 73 12 [(19, l0), (0, l1), (0, l2), (11, nb_rd M (nb_rd M (nb_rd M l0 2) 4) l1)] [] M else if l2 = 3 then nb_R nb_P 73 13 [(19, l0), (0, l1), (0, l2), (11, nb_rd M (nb_rd M (nb_rd M l0 2) 4) l1)] [] M else if l2 = 4 then nb_R nb_P 73 14 [(19, l0), (0, l1), (0, l2), (11, nb_rd M (nb_rd M (nb_rd M l0 2) 4) l1)] [] M else if l2 = 5 then nb_R nb_P 73 15 [(19, l0), (0, l1), (0, l2), (11, nb_rd M (nb_rd M (nb_rd M l0 2) 4) l1)] [] M else nb_R nb_P 73 16 [(19, l0), (0, l1), (0, l2), (11, nb_rd M (nb_rd M (nb_rd M l0 2) 4) l1)] [] M :=
  nb_step (c := (((true && !decide ((l0 : Int) = 0)) && !decide ((nb_rd M l0 2 : Int) = 0)) && (!decide ((nb_rd M (nb_rd M l0 2) 4 : Int) = 0) && (decide ((0 : Int) ≤ l1) && decide (l1 < nb_ln M (nb_rd M (nb_rd M l0 2) 4)))))) rfl (by simp [h1, h2, h3, h4, h5])
theorem q_c_told_10 (l3 : Int) (v0 v1 v2 : nb_V) (M : nb_M) (h1 : l3 ≠ 0) :
    nb_R nb_P 73 10 [v0, v1, v2, (11, l3)] [] M = some ([(0, nb_rd M l3 0)], M) :=
  nb_step (c := (true && !decide ((l3 : Int) = 0))) rfl (by simp [h1])
theorem q_c_told_11 (l3 : Int) (v0 v1 v2 : nb_V) (M : nb_M) (h1 : l3 ≠ 0) :
    nb_R nb_P 73 11 [v0, v1, v2, (11, l3)] [] M = some ([(0, nb_rd M l3 1)], M) :=
  nb_step (c := (true && !decide ((l3 : Int) = 0))) rfl (by simp [h1])
theorem q_c_told_12 (l3 : Int) (v0 v1 v2 : nb_V) (M : nb_M) (h1 : l3 ≠ 0) :
    nb_R nb_P 73 12 [v0, v1, v2, (11, l3)] [] M = some ([(0, nb_rd M l3 2)], M) :=
  nb_step (c := (true && !decide ((l3 : Int) = 0))) rfl (by simp [h1])
theorem q_c_told_13 (l3 : Int) (v0 v1 v2 : nb_V) (M : nb_M) (h1 : l3 ≠ 0) :
    nb_R nb_P 73 13 [v0, v1, v2, (11, l3)] [] M = some ([(0, nb_rd M l3 3)], M) :=
  nb_step (c := (true && !decide ((l3 : Int) = 0))) rfl (by simp [h1])
theorem q_c_told_14 (l3 : Int) (v0 v1 v2 : nb_V) (M : nb_M) (h1 : l3 ≠ 0) :
    nb_R nb_P 73 14 [v0, v1, v2, (11, l3)] [] M = some ([(0, nb_rd M l3 4)], M) :=
  nb_step (c := (true && !decide ((l3 : Int) = 0))) rfl (by simp [h1])
theorem q_c_told_15 (l3 : Int) (v0 v1 v2 : nb_V) (M : nb_M) (h1 : l3 ≠ 0) :
    nb_R nb_P 73 15 [v0, v1, v2, (11, l3)] [] M = some ([(0, nb_rd M l3 5)], M) :=
  nb_step (c := (true && !decide ((l3 : Int) = 0))) rfl (by simp [h1])
theorem q_c_told_16 (l3 : Int) (v0 v1 v2 : nb_V) (M : nb_M) (h1 : l3 ≠ 0) :
    nb_R nb_P 73 16 [v0, v1, v2, (11, l3)] [] M = some ([(0, nb_rd M l3 6)], M) :=
  nb_step (c := (true && !decide ((l3 : Int) = 0))) rfl (by simp [h1])
theorem q_c_wants_0 (l0 l1 l2 : Int) (M : nb_M) (h1 : l0 ≠ 0) :
    nb_R nb_P 74 0 [(19, l0), (0, l1), (0, l2)] [] M = (nb_R nb_P 9 0 [(19, l0), (0, l1)] [] M).bind fun r => nb_R nb_P 74 1 [(19, l0), (0, l1), (0, l2)] (r.1 ++ [(19, l0)]) r.2 :=
  nb_stepC (c := true) (L2 := [(19, l0), (0, l1), (0, l2)]) (S2 := [(0, l1), (19, l0), (19, l0)]) (M2 := M) (t := 1) (cl := 9) (vi := true) rfl rfl (nb_inv_eq (n := 2) rfl rfl rfl rfl rfl rfl (fun _ => h1) rfl)
theorem q_c_wants_1 (l0 l1 l2 s0 s1 : Int) (M : nb_M) :
    nb_R nb_P 74 1 [(19, l0), (0, l1), (0, l2)] [(0, s0), (19, s1)] M = if s0 = 0 then nb_R nb_P 74 5 [(19, l0), (0, l1), (0, l2)] [(19, s1)] M else nb_R nb_P 74 2 [(19, l0), (0, l1), (0, l2)] [(19, s1)] M :=
  nb_step (c := true) rfl rfl
theorem q_c_wants_2 (l0 l1 l2 s0 : Int) (M : nb_M) :
    nb_R nb_P 74 2 [(19, l0), (0, l1), (0, l2)] [(19, s0)] M = if l2 < 0 then nb_R nb_P 74 5 [(19, l0), (0, l1), (0, l2)] [(19, s0)] M else nb_R nb_P 74 3 [(19, l0), (0, l1), (0, l2)] [(19, s0)] M :=
  nb_step (c := true) rfl rfl
theorem q_c_wants_3 (l0 l1 l2 s0 : Int) (M : nb_M) (h1 : l0 ≠ 0) (h2 : (nb_rd M l0 2) ≠ 0) :
    nb_R nb_P 74 3 [(19, l0), (0, l1), (0, l2)] [(19, s0)] M = if l2 < nb_rd M (nb_rd M l0 2) 11 then nb_R nb_P 74 4 [(19, l0), (0, l1), (0, l2)] [(19, s0)] M else nb_R nb_P 74 5 [(19, l0), (0, l1), (0, l2)] [(19, s0)] M :=
  nb_step (c := ((true && !decide ((l0 : Int) = 0)) && !decide ((nb_rd M l0 2 : Int) = 0))) rfl (by simp [h1, h2])
theorem q_c_wants_4 (l0 l1 l2 s0 : Int) (M : nb_M) :
    nb_R nb_P 74 4 [(19, l0), (0, l1), (0, l2)] [(19, s0)] M = nb_R nb_P 74 6 [(19, l0), (0, l1), (0, l2)] [(0, 1), (19, s0)] M :=
  nb_step (c := true) rfl rfl
theorem q_c_wants_5 (l0 l1 l2 s0 : Int) (M : nb_M) :
    nb_R nb_P 74 5 [(19, l0), (0, l1), (0, l2)] [(19, s0)] M = nb_R nb_P 74 6 [(19, l0), (0, l1), (0, l2)] [(0, 0), (19, s0)] M :=
  nb_step (c := true) rfl rfl
theorem q_c_wants_6 (l0 l1 l2 s0 s1 : Int) (M : nb_M) (h1 : s1 ≠ 0) :
    nb_R nb_P 74 6 [(19, l0), (0, l1), (0, l2)] [(0, s0), (19, s1)] M = (nb_R nb_P 7 0 [(19, s1), (0, s0), (0, 1)] [] M).bind fun r => nb_R nb_P 74 7 [(19, l0), (0, l1), (0, l2)] (r.1 ++ []) r.2 :=
  nb_stepC (c := true) (L2 := [(19, l0), (0, l1), (0, l2)]) (S2 := [(0, 1), (0, s0), (19, s1)]) (M2 := M) (t := 7) (cl := 7) (vi := true) rfl rfl (nb_inv_eq (n := 3) rfl rfl rfl rfl rfl rfl (fun _ => h1) rfl)
theorem q_c_wants_7 (l0 l1 l2 s0 : Int) (M : nb_M) :
    nb_R nb_P 74 7 [(19, l0), (0, l1), (0, l2)] [(0, s0)] M = if s0 = 0 then nb_R nb_P 74 8 [(19, l0), (0, l1), (0, l2)] [] M else nb_R nb_P 74 9 [(19, l0), (0, l1), (0, l2)] [] M :=
  nb_step (c := true) rfl rfl
theorem q_c_wants_8 (v0 v1 v2 : nb_V) (M : nb_M) :
    nb_R nb_P 74 8 [v0, v1, v2] [] M = some ([(0, (-1))], M) :=
  nb_step (c := true) rfl rfl
theorem q_c_wants_9 (l0 l1 l2 : Int) (M : nb_M) (h1 : l0 ≠ 0) (h2 : (nb_rd M l0 2) ≠ 0) (h3 : (nb_rd M (nb_rd M l0 2) 3) ≠ 0) (h4 : (0 : Int) ≤ l1) (h5 : l1 < nb_ln M (nb_rd M (nb_rd M l0 2) 3)) (h6 : (nb_rd M (nb_rd M (nb_rd M l0 2) 3) l1) ≠ 0) (h7 : (0 : Int) ≤ l2) (h8 : l2 < nb_ln M (nb_rd M (nb_rd M (nb_rd M l0 2) 3) l1)) :
    nb_R nb_P 74 9 [(19, l0), (0, l1), (0, l2)] [] M = some ([(0, nb_rd M (nb_rd M (nb_rd M (nb_rd M l0 2) 3) l1) l2)], M) :=
  nb_step (c := ((((true && !decide ((l0 : Int) = 0)) && !decide ((nb_rd M l0 2 : Int) = 0)) && (!decide ((nb_rd M (nb_rd M l0 2) 3 : Int) = 0) && (decide ((0 : Int) ≤ l1) && decide (l1 < nb_ln M (nb_rd M (nb_rd M l0 2) 3))))) && (!decide ((nb_rd M (nb_rd M (nb_rd M l0 2) 3) l1 : Int) = 0) && (decide ((0 : Int) ≤ l2) && decide (l2 < nb_ln M (nb_rd M (nb_rd M (nb_rd M l0 2) 3) l1)))))) rfl (by simp [h1, h2, h3, h4, h5, h6, h7, h8])
set_option maxRecDepth 10000 in
theorem q_c_size_0 (l0 l1 : Int) (M : nb_M) :
    nb_R nb_P 75 0 [(19, l0), (0, l1)] [] M = if l1 = 0 then nb_R nb_P 75 1 [(19, l0), (0, l1)] [] M else if l1 = 1 then nb_R nb_P 75 2 [(19, l0), (0, l1)] [] M else if l1 = 2 then nb_R nb_P 75 3 [(19, l0), (0, l1)] [] M else if l1 = 3 then nb_R nb_P 75 4 [(19, l0), (0, l1)] [] M else if l1 = 4 then nb_R nb_P 75 5 [(19, l0), (0, l1)] [] M else if l1 = 5 then nb_R nb_P 75 6 [(19, l0), (0, l1)] [] M else if l1 = 6 then nb_R nb_P 75 7 [(19, l0), (0, l1)] [] M else if l1 = 7 then nb_R nb_P 75 8 [(19, l0), (0, l1)] [] M else if l1 = 8 then nb_R nb_P 75 9 [(19, l0), (0, l1)] [] M else if l1 = 9 then nb_R nb_P 75 10 [(19, l0), (0, l1)] [] M else if l1 = 10 then nb_R nb_P 75 11 [(19, l0), (0, l1)] [] M else nb_R nb_P 75 12 [(19, l0), (0, l1)] [] M :=
  nb_step (c := true) rfl rfl
theorem q_c_size_1 (l0 : Int) (v1 : nb_V) (M : nb_M) (h1 : l0 ≠ 0) (h2 : (nb_rd M l0 2) ≠ 0) :
    nb_R nb_P 75 1 [(19, l0), v1] [] M = some ([(0, nb_rd M (nb_rd M l0 2) 9)], M) :=
  nb_step (c := ((true && !decide ((l0 : Int) = 0)) && !decide ((nb_rd M l0 2 : Int) = 0))) rfl (by simp [h1, h2])
theorem q_c_size_2 (l0 : Int) (v1 : nb_V) (M : nb_M) (h1 : l0 ≠ 0) (h2 : (nb_rd M l0 2) ≠ 0) :
    nb_R nb_P 75 2 [(19, l0), v1] [] M = some ([(0, nb_rd M (nb_rd M l0 2) 10)], M) :=
  nb_step (c := ((true && !decide ((l0 : Int) = 0)) && !decide ((nb_rd M l0 2 : Int) = 0))) rfl (by simp [h1, h2])
theorem q_c_size_3 (l0 : Int) (v1 : nb_V) (M : nb_M) (h1 : l0 ≠ 0) (h2 : (nb_rd M l0 2) ≠ 0) :
    nb_R nb_P 75 3 [(19, l0), v1] [] M = some ([(0, nb_rd M (nb_rd M l0 2) 11)], M) :=
  nb_step (c := ((true && !decide ((l0 : Int) = 0)) && !decide ((nb_rd M l0 2 : Int) = 0))) rfl (by simp [h1, h2])
theorem q_c_size_4 (l0 : Int) (v1 : nb_V) (M : nb_M) (h1 : l0 ≠ 0) (h2 : (nb_rd M l0 2) ≠ 0) :
    nb_R nb_P 75 4 [(19, l0), v1] [] M = some ([(0, nb_rd M (nb_rd M l0 2) 12)], M) :=
  nb_step (c := ((true && !decide ((l0 : Int) = 0)) && !decide ((nb_rd M l0 2 : Int) = 0))) rfl (by simp [h1, h2])
theorem q_c_size_5 (l0 : Int) (v1 : nb_V) (M : nb_M) (h1 : l0 ≠ 0) (h2 : (nb_rd M l0 2) ≠ 0) :
    nb_R nb_P 75 5 [(19, l0), v1] [] M = some ([(0, nb_rd M (nb_rd M l0 2) 13)], M) :=
  nb_step (c := ((true && !decide ((l0 : Int) = 0)) && !decide ((nb_rd M l0 2 : Int) = 0))) rfl (by simp [h1, h2])
theorem q_c_size_6 (l0 : Int) (v1 : nb_V) (M : nb_M) (h1 : l0 ≠ 0) (h2 : (nb_rd M l0 2) ≠ 0) :
    nb_R nb_P 75 6 [(19, l0), v1] [] M = some ([(0, nb_rd M (nb_rd M l0 2) 14)], M) :=
  nb_step (c := ((true && !decide ((l0 : Int) = 0)) && !decide ((nb_rd M l0 2 : Int) = 0))) rfl (by simp [h1, h2])
theorem q_c_size_7 (l0 : Int) (v1 : nb_V) (M : nb_M) (h1 : l0 ≠ 0) (h2 : (nb_rd M l0 2) ≠ 0) :
    nb_R nb_P 75 7 [(19, l0), v1] [] M = some ([(0, nb_rd M (nb_rd M l0 2) 15)], M) :=
  nb_step (c := ((true && !decide ((l0 : Int) = 0)) && !decide ((nb_rd M l0 2 : Int) = 0))) rfl (by simp [h1, h2])
theorem q_c_size_8 (l0 : Int) (v1 : nb_V) (M : nb_M) (h1 : l0 ≠ 0) (h2 : (nb_rd M l0 5) ≠ 0) :
    nb_R nb_P 75 8 [(19, l0), v1] [] M = some ([(0, nb_rd M (nb_rd M l0 5) 7)], M) :=
  nb_step (c := ((true && !decide ((l0 : Int) = 0)) && !decide ((nb_rd M l0 5 : Int) = 0))) rfl (by simp [h1, h2])
theorem q_c_size_9 (l0 : Int) (v1 : nb_V) (M : nb_M) (h1 : l0 ≠ 0) :
    nb_R nb_P 75 9 [(19, l0), v1] [] M = some ([(0, nb_rd M l0 9)], M) :=
  nb_step (c := (true && !decide ((l0 : Int) = 0))) rfl (by simp [h1])
theorem q_c_size_10 (l0 : Int) (v1 : nb_V) (M : nb_M) (h1 : l0 ≠ 0) :
    nb_R nb_P 75 10 [(19, l0), v1] [] M = some ([(0, nb_rd M l0 11)], M) :=
  nb_step (c := (true && !decide ((l0 : Int) = 0))) rfl (by simp [h1])
theorem q_c_size_11 (l0 : Int) (v1 : nb_V) (M : nb_M) (h1 : l0 ≠ 0) :
    nb_R nb_P 75 11 [(19, l0), v1] [] M = some ([(0, nb_rd M l0 1)], M) :=
  nb_step (c := (true && !decide ((l0 : Int) = 0))) rfl (by simp [h1])
theorem q_c_size_12 (v0 v1 : nb_V) (M : nb_M) :
    nb_R nb_P 75 12 [v0, v1] [] M = some ([(0, (-1))], M) :=
  nb_step (c := true) rfl rfl
theorem q_c_trouble_0 (l0 : Int) (M : nb_M) (h1 : l0 ≠ 0) :
    nb_R nb_P 76 0 [(19, l0)] [] M = some ([(0, nb_rd M l0 15)], M) :=
  nb_step (c := (true && !decide ((l0 : Int) = 0))) rfl (by simp [h1])
