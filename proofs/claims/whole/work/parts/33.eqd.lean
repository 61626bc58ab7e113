/-! block equations, printed by wip/gen/emit.py -/
theorem q_m_thrown_0 (l0 : Int) (M : nb_M) (h1 : l0 ≠ 0) :
    nb_R nb_P 78 0 [(20, l0)] [] M = some ([(0, nb_rd M l0 0)], M) :=
  nb_step (c := (true && !decide ((l0 : Int) = 0))) rfl (by simp [h1])
theorem q_m_no_0 (l0 l1 : Int) (M : nb_M) (h1 : l0 ≠ 0) :
    nb_R nb_P 80 0 [(20, l0), (0, l1)] [] M = nb_R nb_P 80 1 [(20, l0), (0, l1)] [] (nb_wr M l0 11 l1) :=
  nb_step (c := (true && (!decide ((l0 : Int) = 0) && (!false || (decide ((l1 : Int) = 0) || decide ((l1 : Int) = 1)))))) rfl (by simp [h1])
theorem q_m_no_1 (v0 v1 : nb_V) (M : nb_M) :
    nb_R nb_P 80 1 [v0, v1] [] M = some ([(0, (-1))], M) :=
  nb_step (c := true) rfl rfl
theorem q_m_isNot_0 (l0 l1 : Int) (M : nb_M) (h1 : l0 ≠ 0) :
    nb_R nb_P 82 0 [(20, l0), (0, l1)] [] M = nb_R nb_P 82 1 [(20, l0), (0, l1)] [] (nb_wr M l0 11 l1) :=
  nb_step (c := (true && (!decide ((l0 : Int) = 0) && (!false || (decide ((l1 : Int) = 0) || decide ((l1 : Int) = 1)))))) rfl (by simp [h1])
theorem q_m_isNot_1 (v0 v1 : nb_V) (M : nb_M) :
    nb_R nb_P 82 1 [v0, v1] [] M = some ([(0, 0)], M) :=
  nb_step (c := true) rfl rfl
theorem q_m_hasBit_0 (l0 l1 : Int) (M : nb_M) :
    nb_R nb_P 84 0 [(0, l0), (0, l1)] [] M = if nb_and (nb_shr l0 l1) 1 = 1 then nb_R nb_P 84 1 [(0, l0), (0, l1)] [] M else nb_R nb_P 84 2 [(0, l0), (0, l1)] [] M :=
  nb_step (c := true) rfl rfl
theorem q_m_hasBit_1 (v0 v1 : nb_V) (M : nb_M) :
    nb_R nb_P 84 1 [v0, v1] [] M = nb_R nb_P 84 3 [v0, v1] [(0, 1)] M :=
  nb_step (c := true) rfl rfl
theorem q_m_hasBit_2 (v0 v1 : nb_V) (M : nb_M) :
    nb_R nb_P 84 2 [v0, v1] [] M = nb_R nb_P 84 3 [v0, v1] [(0, 0)] M :=
  nb_step (c := true) rfl rfl
theorem q_m_hasBit_3 (s0 : Int) (v0 v1 : nb_V) (M : nb_M) :
    nb_R nb_P 84 3 [v0, v1] [(0, s0)] M = some ([(0, nb_i2z s0)], M) :=
  nb_step (c := true) rfl rfl
theorem q_m_copy_0 (l0 l1 l2 l3 l4 : Int) (v5 : nb_V) (M : nb_M) :
    nb_R nb_P 86 0 [(3, l0), (0, l1), (3, l2), (0, l3), (0, l4), v5] [] M = nb_R nb_P 86 1 [(3, l0), (0, l1), (3, l2), (0, l3), (0, l4), (0, 0)] [] M :=
  nb_step (c := true) rfl rfl
theorem q_m_copy_1 (l0 l1 l2 l3 l4 l5 : Int) (M : nb_M) :
    nb_R nb_P 86 1 [(3, l0), (0, l1), (3, l2), (0, l3), (0, l4), (0, l5)] [] M = if l5 < l4 then nb_R nb_P 86 2 [(3, l0), (0, l1), (3, l2), (0, l3), (0, l4), (0, l5)] [] M else nb_R nb_P 86 4 [(3, l0), (0, l1), (3, l2), (0, l3), (0, l4), (0, l5)] [] M :=
  nb_step (c := true) rfl rfl
theorem q_m_copy_2 (l0 l1 l2 l3 l4 l5 : Int) (M : nb_M) (h1 : l0 ≠ 0) (h2 : (0 : Int) ≤ nb_add l1 l5) (h3 : nb_add l1 l5 < nb_ln M l0) (h4 : l2 ≠ 0) (h5 : l2 ≠ 1) (h6 : (0 : Int) ≤ nb_add l3 l5) (h7 : nb_add l3 l5 < nb_ln M l2) :
    nb_R nb_P 86 2 [(3, l0), (0, l1), (3, l2), (0, l3), (0, l4), (0, l5)] [] M = nb_R nb_P 86 3 [(3, l0), (0, l1), (3, l2), (0, l3), (0, l4), (0, l5)] [] (nb_wr M l2 (nb_add l3 l5) (nb_rd M l0 (nb_add l1 l5))) :=
  nb_step (c := ((true && (!decide ((l0 : Int) = 0) && (decide ((0 : Int) ≤ nb_add l1 l5) && decide (nb_add l1 l5 < nb_ln M l0)))) && (!decide ((l2 : Int) = 0) && (!decide ((l2 : Int) = 1) && (decide ((0 : Int) ≤ nb_add l3 l5) && decide (nb_add l3 l5 < nb_ln M l2)))))) rfl (by simp [h1, h2, h3, h4, h5, h6, h7])
theorem q_m_copy_3 (l0 l1 l2 l3 l4 l5 : Int) (M : nb_M) :
    nb_R nb_P 86 3 [(3, l0), (0, l1), (3, l2), (0, l3), (0, l4), (0, l5)] [] M = nb_R nb_P 86 1 [(3, l0), (0, l1), (3, l2), (0, l3), (0, l4), (0, nb_add l5 1)] [] M :=
  nb_step (c := true) rfl rfl
theorem q_m_copy_4 (v0 v1 v2 v3 v4 v5 : nb_V) (M : nb_M) :
    nb_R nb_P 86 4 [v0, v1, v2, v3, v4, v5] [] M = some ([], M) :=
  nb_step (c := true) rfl rfl
theorem q_m_seen_0 (l0 l1 : Int) (M : nb_M) (h1 : l0 ≠ 0) :
    nb_R nb_P 88 0 [(20, l0), (0, l1)] [] M = if l1 < nb_rd M l0 3 then nb_R nb_P 88 1 [(20, l0), (0, l1)] [] M else nb_R nb_P 88 2 [(20, l0), (0, l1)] [] M :=
  nb_step (c := (true && !decide ((l0 : Int) = 0))) rfl (by simp [h1])
theorem q_m_seen_1 (l0 l1 : Int) (M : nb_M) (h1 : l0 ≠ 0) (h2 : (nb_rd M l0 1) ≠ 0) (h3 : (0 : Int) ≤ l1) (h4 : l1 < nb_ln M (nb_rd M l0 1)) :
    nb_R nb_P 88 1 [(20, l0), (0, l1)] [] M = nb_R nb_P 88 3 [(20, l0), (0, l1)] [(0, nb_rd M (nb_rd M l0 1) l1)] M :=
  nb_step (c := ((true && !decide ((l0 : Int) = 0)) && (!decide ((nb_rd M l0 1 : Int) = 0) && (decide ((0 : Int) ≤ l1) && decide (l1 < nb_ln M (nb_rd M l0 1)))))) rfl (by simp [h1, h2, h3, h4])
theorem q_m_seen_2 (v0 v1 : nb_V) (M : nb_M) :
    nb_R nb_P 88 2 [v0, v1] [] M = nb_R nb_P 88 3 [v0, v1] [(0, (-1))] M :=
  nb_step (c := true) rfl rfl
theorem q_m_seen_3 (s0 : Int) (v0 v1 : nb_V) (M : nb_M) :
    nb_R nb_P 88 3 [v0, v1] [(0, s0)] M = some ([(0, s0)], M) :=
  nb_step (c := true) rfl rfl
theorem q_m_isDigit_0 (l0 : Int) (M : nb_M) :
    nb_R nb_P 90 0 [(0, l0)] [] M = if l0 < 48 then nb_R nb_P 90 3 [(0, l0)] [] M else nb_R nb_P 90 1 [(0, l0)] [] M :=
  nb_step (c := true) rfl rfl
theorem q_m_isDigit_1 (l0 : Int) (M : nb_M) :
    nb_R nb_P 90 1 [(0, l0)] [] M = if 57 < l0 then nb_R nb_P 90 3 [(0, l0)] [] M else nb_R nb_P 90 2 [(0, l0)] [] M :=
  nb_step (c := true) rfl rfl
theorem q_m_isDigit_2 (v0 : nb_V) (M : nb_M) :
    nb_R nb_P 90 2 [v0] [] M = nb_R nb_P 90 4 [v0] [(0, 1)] M :=
  nb_step (c := true) rfl rfl
theorem q_m_isDigit_3 (v0 : nb_V) (M : nb_M) :
    nb_R nb_P 90 3 [v0] [] M = nb_R nb_P 90 4 [v0] [(0, 0)] M :=
  nb_step (c := true) rfl rfl
theorem q_m_isDigit_4 (s0 : Int) (v0 : nb_V) (M : nb_M) :
    nb_R nb_P 90 4 [v0] [(0, s0)] M = some ([(0, nb_i2z s0)], M) :=
  nb_step (c := true) rfl rfl
theorem q_m_wrong_0 (l0 l1 l2 : Int) (M : nb_M) (h1 : l0 ≠ 0) :
    nb_R nb_P 92 0 [(20, l0), (0, l1), (0, l2)] [] M = if nb_rd M l0 13 = 0 then nb_R nb_P 92 2 [(20, l0), (0, l1), (0, l2)] [] M else nb_R nb_P 92 1 [(20, l0), (0, l1), (0, l2)] [] M :=
  nb_step (c := (true && !decide ((l0 : Int) = 0))) rfl (by simp [h1])
theorem q_m_wrong_1 (v0 v1 v2 : nb_V) (M : nb_M) :
    nb_R nb_P 92 1 [v0, v1, v2] [] M = some ([], M) :=
  nb_step (c := true) rfl rfl
theorem q_m_wrong_2 (l0 l1 l2 : Int) (M : nb_M) (h1 : l0 ≠ 0) :
    nb_R nb_P 92 2 [(20, l0), (0, l1), (0, l2)] [] M = nb_R nb_P 92 3 [(20, l0), (0, l1), (0, l2)] [] (nb_wr M l0 13 1) :=
  nb_step (c := (true && (!decide ((l0 : Int) = 0) && (!true || (decide ((1 : Int) = 0) || decide ((1 : Int) = 1)))))) rfl (by simp [h1])
theorem q_m_wrong_3 (l0 l1 l2 : Int) (M : nb_M) (h1 : l0 ≠ 0) :
    nb_R nb_P 92 3 [(20, l0), (0, l1), (0, l2)] [] M = nb_R nb_P 92 4 [(20, l0), (0, l1), (0, l2)] [] (nb_wr M l0 9 l1) :=
  nb_step (c := (true && (!decide ((l0 : Int) = 0) && (!false || (decide ((l1 : Int) = 0) || decide ((l1 : Int) = 1)))))) rfl (by simp [h1])
theorem q_m_wrong_4 (l0 l2 : Int) (v1 : nb_V) (M : nb_M) (h1 : l0 ≠ 0) :
    nb_R nb_P 92 4 [(20, l0), v1, (0, l2)] [] M = nb_R nb_P 92 5 [(20, l0), v1, (0, l2)] [] (nb_wr M l0 10 l2) :=
  nb_step (c := (true && (!decide ((l0 : Int) = 0) && (!false || (decide ((l2 : Int) = 0) || decide ((l2 : Int) = 1)))))) rfl (by simp [h1])
theorem q_m_wrong_5 (v0 v1 v2 : nb_V) (M : nb_M) :
    nb_R nb_P 92 5 [v0, v1, v2] [] M = some ([], M) :=
  nb_step (c := true) rfl rfl
theorem q_m_takesWord_0 (l0 l1 : Int) (M : nb_M) (h1 : l0 ≠ 0) :
    nb_R nb_P 94 0 [(20, l0), (2, l1)] [] M = (nb_R nb_P 93 0 [(20, l0), (2, l1), (98, 0), (98, 0)] [] M).bind fun r => nb_R nb_P 94 1 [(20, l0), (2, l1)] (r.1 ++ []) r.2 :=
  nb_stepC (c := true) (L2 := [(20, l0), (2, l1)]) (S2 := [(2, l1), (20, l0)]) (M2 := M) (t := 1) (cl := 93) (vi := true) rfl rfl (nb_inv_eq (n := 2) rfl rfl rfl rfl rfl rfl (fun _ => h1) rfl)
theorem q_m_takesWord_1 (l0 s0 : Int) (v1 : nb_V) (M : nb_M) :
    nb_R nb_P 94 1 [(20, l0), v1] [(0, s0)] M = if s0 = 0 then nb_R nb_P 94 2 [(20, l0), v1] [] M else nb_R nb_P 94 3 [(20, l0), v1] [] M :=
  nb_step (c := true) rfl rfl
theorem q_m_takesWord_2 (v0 v1 : nb_V) (M : nb_M) :
    nb_R nb_P 94 2 [v0, v1] [] M = some ([(0, 0)], M) :=
  nb_step (c := true) rfl rfl
theorem q_m_takesWord_3 (l0 : Int) (v1 : nb_V) (M : nb_M) (h1 : l0 ≠ 0) :
    nb_R nb_P 94 3 [(20, l0), v1] [] M = (nb_R nb_P 91 0 [(20, l0), (98, 0), (98, 0), (98, 0)] [] M).bind fun r => nb_R nb_P 94 4 [(20, l0), v1] (r.1 ++ []) r.2 :=
  nb_stepC (c := true) (L2 := [(20, l0), v1]) (S2 := [(20, l0)]) (M2 := M) (t := 4) (cl := 91) (vi := true) rfl rfl (nb_inv_eq (n := 1) rfl rfl rfl rfl rfl rfl (fun _ => h1) rfl)
theorem q_m_takesWord_4 (v0 v1 : nb_V) (M : nb_M) :
    nb_R nb_P 94 4 [v0, v1] [] M = some ([(0, 1)], M) :=
  nb_step (c := true) rfl rfl
theorem q_m_mustName_0 (l0 : Int) (v1 : nb_V) (M : nb_M) (h1 : l0 ≠ 0) :
    nb_R nb_P 96 0 [(20, l0), v1] [] M = (nb_R nb_P 93 0 [(20, l0), (2, 1), (98, 0), (98, 0)] [] M).bind fun r => nb_R nb_P 96 1 [(20, l0), v1] (r.1 ++ []) r.2 :=
  nb_stepC (c := true) (L2 := [(20, l0), v1]) (S2 := [(2, 1), (20, l0)]) (M2 := M) (t := 1) (cl := 93) (vi := true) rfl rfl (nb_inv_eq (n := 2) rfl rfl rfl rfl rfl rfl (fun _ => h1) rfl)
theorem q_m_mustName_1 (l0 s0 : Int) (v1 : nb_V) (M : nb_M) :
    nb_R nb_P 96 1 [(20, l0), v1] [(0, s0)] M = if s0 = 0 then nb_R nb_P 96 2 [(20, l0), v1] [] M else nb_R nb_P 96 12 [(20, l0), v1] [] M :=
  nb_step (c := true) rfl rfl
theorem q_m_mustName_2 (l0 : Int) (v1 : nb_V) (M : nb_M) (h1 : l0 ≠ 0) :
    nb_R nb_P 96 2 [(20, l0), v1] [] M = (nb_R nb_P 93 0 [(20, l0), (2, 2), (98, 0), (98, 0)] [] M).bind fun r => nb_R nb_P 96 3 [(20, l0), v1] (r.1 ++ []) r.2 :=
  nb_stepC (c := true) (L2 := [(20, l0), v1]) (S2 := [(2, 2), (20, l0)]) (M2 := M) (t := 3) (cl := 93) (vi := true) rfl rfl (nb_inv_eq (n := 2) rfl rfl rfl rfl rfl rfl (fun _ => h1) rfl)
theorem q_m_mustName_3 (l0 s0 : Int) (v1 : nb_V) (M : nb_M) :
    nb_R nb_P 96 3 [(20, l0), v1] [(0, s0)] M = if s0 = 0 then nb_R nb_P 96 4 [(20, l0), v1] [] M else nb_R nb_P 96 12 [(20, l0), v1] [] M :=
  nb_step (c := true) rfl rfl
theorem q_m_mustName_4 (l0 : Int) (v1 : nb_V) (M : nb_M) (h1 : l0 ≠ 0) :
    nb_R nb_P 96 4 [(20, l0), v1] [] M = (nb_R nb_P 93 0 [(20, l0), (2, 3), (98, 0), (98, 0)] [] M).bind fun r => nb_R nb_P 96 5 [(20, l0), v1] (r.1 ++ []) r.2 :=
  nb_stepC (c := true) (L2 := [(20, l0), v1]) (S2 := [(2, 3), (20, l0)]) (M2 := M) (t := 5) (cl := 93) (vi := true) rfl rfl (nb_inv_eq (n := 2) rfl rfl rfl rfl rfl rfl (fun _ => h1) rfl)
theorem q_m_mustName_5 (l0 s0 : Int) (v1 : nb_V) (M : nb_M) :
    nb_R nb_P 96 5 [(20, l0), v1] [(0, s0)] M = if s0 = 0 then nb_R nb_P 96 6 [(20, l0), v1] [] M else nb_R nb_P 96 12 [(20, l0), v1] [] M :=
  nb_step (c := true) rfl rfl
theorem q_m_mustName_6 (l0 : Int) (v1 : nb_V) (M : nb_M) (h1 : l0 ≠ 0) :
    nb_R nb_P 96 6 [(20, l0), v1] [] M = (nb_R nb_P 93 0 [(20, l0), (2, 4), (98, 0), (98, 0)] [] M).bind fun r => nb_R nb_P 96 7 [(20, l0), v1] (r.1 ++ []) r.2 :=
  nb_stepC (c := true) (L2 := [(20, l0), v1]) (S2 := [(2, 4), (20, l0)]) (M2 := M) (t := 7) (cl := 93) (vi := true) rfl rfl (nb_inv_eq (n := 2) rfl rfl rfl rfl rfl rfl (fun _ => h1) rfl)
theorem q_m_mustName_7 (l0 s0 : Int) (v1 : nb_V) (M : nb_M) :
    nb_R nb_P 96 7 [(20, l0), v1] [(0, s0)] M = if s0 = 0 then nb_R nb_P 96 8 [(20, l0), v1] [] M else nb_R nb_P 96 12 [(20, l0), v1] [] M :=
  nb_step (c := true) rfl rfl
theorem q_m_mustName_8 (l0 : Int) (v1 : nb_V) (M : nb_M) (h1 : l0 ≠ 0) :
    nb_R nb_P 96 8 [(20, l0), v1] [] M = (nb_R nb_P 93 0 [(20, l0), (2, 5), (98, 0), (98, 0)] [] M).bind fun r => nb_R nb_P 96 9 [(20, l0), v1] (r.1 ++ []) r.2 :=
  nb_stepC (c := true) (L2 := [(20, l0), v1]) (S2 := [(2, 5), (20, l0)]) (M2 := M) (t := 9) (cl := 93) (vi := true) rfl rfl (nb_inv_eq (n := 2) rfl rfl rfl rfl rfl rfl (fun _ => h1) rfl)
theorem q_m_mustName_9 (l0 s0 : Int) (v1 : nb_V) (M : nb_M) :
    nb_R nb_P 96 9 [(20, l0), v1] [(0, s0)] M = if s0 = 0 then nb_R nb_P 96 10 [(20, l0), v1] [] M else nb_R nb_P 96 12 [(20, l0), v1] [] M :=
  nb_step (c := true) rfl rfl
theorem q_m_mustName_10 (l0 : Int) (v1 : nb_V) (M : nb_M) (h1 : l0 ≠ 0) :
    nb_R nb_P 96 10 [(20, l0), v1] [] M = (nb_R nb_P 93 0 [(20, l0), (2, 6), (98, 0), (98, 0)] [] M).bind fun r => nb_R nb_P 96 11 [(20, l0), v1] (r.1 ++ []) r.2 :=
  nb_stepC (c := true) (L2 := [(20, l0), v1]) (S2 := [(2, 6), (20, l0)]) (M2 := M) (t := 11) (cl := 93) (vi := true) rfl rfl (nb_inv_eq (n := 2) rfl rfl rfl rfl rfl rfl (fun _ => h1) rfl)
theorem q_m_mustName_11 (l0 s0 : Int) (v1 : nb_V) (M : nb_M) :
    nb_R nb_P 96 11 [(20, l0), v1] [(0, s0)] M = if s0 = 0 then nb_R nb_P 96 13 [(20, l0), v1] [] M else nb_R nb_P 96 12 [(20, l0), v1] [] M :=
  nb_step (c := true) rfl rfl
theorem q_m_mustName_12 (l0 : Int) (v1 : nb_V) (M : nb_M) :
    nb_R nb_P 96 12 [(20, l0), v1] [] M = nb_R nb_P 96 14 [(20, l0), v1] [(0, 1)] M :=
  nb_step (c := true) rfl rfl
theorem q_m_mustName_13 (l0 : Int) (v1 : nb_V) (M : nb_M) :
    nb_R nb_P 96 13 [(20, l0), v1] [] M = nb_R nb_P 96 14 [(20, l0), v1] [(0, 0)] M :=
  nb_step (c := true) rfl rfl
theorem q_m_mustName_14 (l0 s0 : Int) (v1 : nb_V) (M : nb_M) (h1 : l0 ≠ 0) :
    nb_R nb_P 96 14 [(20, l0), v1] [(0, s0)] M = if nb_rd M l0 6 = 2 then nb_R nb_P 96 15 [(20, l0), (0, s0)] [] M else nb_R nb_P 96 16 [(20, l0), (0, s0)] [] M :=
  nb_step (c := (true && !decide ((l0 : Int) = 0))) rfl (by simp [h1])
theorem q_m_mustName_15 (l0 l1 : Int) (M : nb_M) :
    nb_R nb_P 96 15 [(20, l0), (0, l1)] [] M = if l1 = 0 then nb_R nb_P 96 17 [(20, l0), (0, l1)] [] M else nb_R nb_P 96 16 [(20, l0), (0, l1)] [] M :=
  nb_step (c := true) rfl rfl
theorem q_m_mustName_16 (l0 : Int) (v1 : nb_V) (M : nb_M) (h1 : l0 ≠ 0) :
    nb_R nb_P 96 16 [(20, l0), v1] [] M = (nb_R nb_P 92 0 [(20, l0), (0, 1), (0, nb_rd M l0 4)] [] M).bind fun r => nb_R nb_P 96 17 [(20, l0), v1] (r.1 ++ []) r.2 :=
  nb_stepC (c := (true && !decide ((l0 : Int) = 0))) (L2 := [(20, l0), v1]) (S2 := [(0, nb_rd M l0 4), (0, 1), (20, l0)]) (M2 := M) (t := 17) (cl := 92) (vi := true) rfl (by simp [h1]) (nb_inv_eq (n := 3) rfl rfl rfl rfl rfl rfl (fun _ => h1) rfl)
theorem q_m_mustName_17 (v0 v1 : nb_V) (M : nb_M) :
    nb_R nb_P 96 17 [v0, v1] [] M = some ([], M) :=
  nb_step (c := true) rfl rfl
theorem q_m_newName_0 (l0 l1 : Int) (v2 : nb_V) (M : nb_M) (h1 : l0 ≠ 0) :
    nb_R nb_P 98 0 [(20, l0), (0, l1), v2] [] M = if nb_rd M l0 13 = 0 then nb_R nb_P 98 2 [(20, l0), (0, l1), v2] [] M else nb_R nb_P 98 1 [(20, l0), (0, l1), v2] [] M :=
  nb_step (c := (true && !decide ((l0 : Int) = 0))) rfl (by simp [h1])
theorem q_m_newName_1 (v0 v1 v2 : nb_V) (M : nb_M) :
    nb_R nb_P 98 1 [v0, v1, v2] [] M = some ([], M) :=
  nb_step (c := true) rfl rfl
theorem q_m_newName_2 (l0 l1 : Int) (v2 : nb_V) (M : nb_M) (h1 : l0 ≠ 0) :
    nb_R nb_P 98 2 [(20, l0), (0, l1), v2] [] M = (nb_R nb_P 96 0 [(20, l0), (98, 0)] [] M).bind fun r => nb_R nb_P 98 3 [(20, l0), (0, l1), v2] (r.1 ++ []) r.2 :=
  nb_stepC (c := true) (L2 := [(20, l0), (0, l1), v2]) (S2 := [(20, l0)]) (M2 := M) (t := 3) (cl := 96) (vi := true) rfl rfl (nb_inv_eq (n := 1) rfl rfl rfl rfl rfl rfl (fun _ => h1) rfl)
theorem q_m_newName_3 (l0 l1 : Int) (v2 : nb_V) (M : nb_M) (h1 : l0 ≠ 0) :
    nb_R nb_P 98 3 [(20, l0), (0, l1), v2] [] M = if nb_rd M l0 13 = 0 then nb_R nb_P 98 4 [(20, l0), (0, l1), v2] [] M else nb_R nb_P 98 7 [(20, l0), (0, l1), v2] [] M :=
  nb_step (c := (true && !decide ((l0 : Int) = 0))) rfl (by simp [h1])
theorem q_m_newName_4 (l0 l1 : Int) (v2 : nb_V) (M : nb_M) (h1 : l0 ≠ 0) :
    nb_R nb_P 98 4 [(20, l0), (0, l1), v2] [] M = (nb_R nb_P 97 0 [(20, l0), (98, 0), (98, 0), (98, 0)] [] M).bind fun r => nb_R nb_P 98 5 [(20, l0), (0, l1), v2] (r.1 ++ []) r.2 :=
  nb_stepC (c := true) (L2 := [(20, l0), (0, l1), v2]) (S2 := [(20, l0)]) (M2 := M) (t := 5) (cl := 97) (vi := true) rfl rfl (nb_inv_eq (n := 1) rfl rfl rfl rfl rfl rfl (fun _ => h1) rfl)
theorem q_m_newName_5 (l0 l1 s0 : Int) (v2 : nb_V) (M : nb_M) :
    nb_R nb_P 98 5 [(20, l0), (0, l1), v2] [(0, s0)] M = if s0 < 0 then nb_R nb_P 98 7 [(20, l0), (0, l1), v2] [] M else nb_R nb_P 98 6 [(20, l0), (0, l1), v2] [] M :=
  nb_step (c := true) rfl rfl
theorem q_m_newName_6 (l0 l1 : Int) (v2 : nb_V) (M : nb_M) (h1 : l0 ≠ 0) :
    nb_R nb_P 98 6 [(20, l0), (0, l1), v2] [] M = (nb_R nb_P 92 0 [(20, l0), (0, 3), (0, nb_rd M l0 4)] [] M).bind fun r => nb_R nb_P 98 7 [(20, l0), (0, l1), v2] (r.1 ++ []) r.2 :=
  nb_stepC (c := (true && !decide ((l0 : Int) = 0))) (L2 := [(20, l0), (0, l1), v2]) (S2 := [(0, nb_rd M l0 4), (0, 3), (20, l0)]) (M2 := M) (t := 7) (cl := 92) (vi := true) rfl (by simp [h1]) (nb_inv_eq (n := 3) rfl rfl rfl rfl rfl rfl (fun _ => h1) rfl)
theorem q_m_newName_7 (l0 l1 : Int) (v2 : nb_V) (M : nb_M) (h1 : l0 ≠ 0) :
    nb_R nb_P 98 7 [(20, l0), (0, l1), v2] [] M = if nb_rd M l0 13 = 0 then nb_R nb_P 98 9 [(20, l0), (0, l1), v2] [] M else nb_R nb_P 98 8 [(20, l0), (0, l1), v2] [] M :=
  nb_step (c := (true && !decide ((l0 : Int) = 0))) rfl (by simp [h1])
theorem q_m_newName_8 (v0 v1 v2 : nb_V) (M : nb_M) :
    nb_R nb_P 98 8 [v0, v1, v2] [] M = some ([], M) :=
  nb_step (c := true) rfl rfl
theorem q_m_newName_9 (l0 l1 : Int) (v2 : nb_V) (M : nb_M) :
    nb_R nb_P 98 9 [(20, l0), (0, l1), v2] [] M = nb_R nb_P 98 10 [(20, l0), (0, l1), (0, 0)] [] M :=
  nb_step (c := true) rfl rfl
theorem q_m_newName_10 (l0 l1 l2 : Int) (M : nb_M) (h1 : l0 ≠ 0) :
    nb_R nb_P 98 10 [(20, l0), (0, l1), (0, l2)] [] M = if l2 < nb_rd M l0 8 then nb_R nb_P 98 11 [(20, l0), (0, l1), (0, l2)] [] M else nb_R nb_P 98 13 [(20, l0), (0, l1), (0, l2)] [] M :=
  nb_step (c := (true && !decide ((l0 : Int) = 0))) rfl (by simp [h1])
theorem q_m_newName_11 (l0 l1 l2 : Int) (M : nb_M) (h1 : l0 ≠ 0) (h2 : (nb_rd M l0 12) ≠ 0) (h3 : (0 : Int) ≤ l2) (h4 : l2 < nb_ln M (nb_rd M l0 12)) (h5 : (nb_rd M l0 16) ≠ 0) (h6 : (nb_rd M l0 16) ≠ 1) (h7 : (0 : Int) ≤ nb_add (nb_add 203 (nb_mul 8 l1)) l2) (h8 : nb_add (nb_add 203 (nb_mul 8 l1)) l2 < nb_ln M (nb_rd M l0 16)) :
    nb_R nb_P 98 11 [(20, l0), (0, l1), (0, l2)] [] M = nb_R nb_P 98 12 [(20, l0), (0, l1), (0, l2)] [] (nb_wr M (nb_rd M l0 16) (nb_add (nb_add 203 (nb_mul 8 l1)) l2) (nb_rd M (nb_rd M l0 12) l2)) :=
  nb_step (c := ((((true && !decide ((l0 : Int) = 0)) && !decide ((l0 : Int) = 0)) && (!decide ((nb_rd M l0 12 : Int) = 0) && (decide ((0 : Int) ≤ l2) && decide (l2 < nb_ln M (nb_rd M l0 12))))) && (!decide ((nb_rd M l0 16 : Int) = 0) && (!decide ((nb_rd M l0 16 : Int) = 1) && (decide ((0 : Int) ≤ nb_add (nb_add 203 (nb_mul 8 l1)) l2) && decide (nb_add (nb_add 203 (nb_mul 8 l1)) l2 < nb_ln M (nb_rd M l0 16))))))) rfl (by simp [h1, h2, h3, h4, h5, h6, h7, h8])
theorem q_m_newName_12 (l0 l1 l2 : Int) (M : nb_M) :
    nb_R nb_P 98 12 [(20, l0), (0, l1), (0, l2)] [] M = nb_R nb_P 98 10 [(20, l0), (0, l1), (0, nb_add l2 1)] [] M :=
  nb_step (c := true) rfl rfl
theorem q_m_newName_13 (l0 l1 : Int) (v2 : nb_V) (M : nb_M) (h1 : l0 ≠ 0) (h2 : (nb_rd M l0 16) ≠ 0) (h3 : (nb_rd M l0 16) ≠ 1) (h4 : (0 : Int) ≤ nb_add 185 l1) (h5 : nb_add 185 l1 < nb_ln M (nb_rd M l0 16)) :
    nb_R nb_P 98 13 [(20, l0), (0, l1), v2] [] M = nb_R nb_P 98 14 [(20, l0), (0, l1), v2] [] (nb_wr M (nb_rd M l0 16) (nb_add 185 l1) (nb_rd M l0 8)) :=
  nb_step (c := (((true && !decide ((l0 : Int) = 0)) && !decide ((l0 : Int) = 0)) && (!decide ((nb_rd M l0 16 : Int) = 0) && (!decide ((nb_rd M l0 16 : Int) = 1) && (decide ((0 : Int) ≤ nb_add 185 l1) && decide (nb_add 185 l1 < nb_ln M (nb_rd M l0 16))))))) rfl (by simp [h1, h2, h3, h4, h5])
theorem q_m_newName_14 (l0 : Int) (v1 v2 : nb_V) (M : nb_M) (h1 : l0 ≠ 0) :
    nb_R nb_P 98 14 [(20, l0), v1, v2] [] M = (nb_R nb_P 91 0 [(20, l0), (98, 0), (98, 0), (98, 0)] [] M).bind fun r => nb_R nb_P 98 15 [(20, l0), v1, v2] (r.1 ++ []) r.2 :=
  nb_stepC (c := true) (L2 := [(20, l0), v1, v2]) (S2 := [(20, l0)]) (M2 := M) (t := 15) (cl := 91) (vi := true) rfl rfl (nb_inv_eq (n := 1) rfl rfl rfl rfl rfl rfl (fun _ => h1) rfl)
theorem q_m_newName_15 (v0 v1 v2 : nb_V) (M : nb_M) :
    nb_R nb_P 98 15 [v0, v1, v2] [] M = some ([], M) :=
  nb_step (c := true) rfl rfl
theorem q_m_personHere_0 (l0 : Int) (M : nb_M) (h1 : l0 ≠ 0) :
    nb_R nb_P 100 0 [(20, l0)] [] M = (nb_R nb_P 99 0 [(20, l0), (0, 8), (0, 17), (98, 0)] [] M).bind fun r => nb_R nb_P 100 1 [(20, l0)] (r.1 ++ []) r.2 :=
  nb_stepC (c := true) (L2 := [(20, l0)]) (S2 := [(0, 17), (0, 8), (20, l0)]) (M2 := M) (t := 1) (cl := 99) (vi := true) rfl rfl (nb_inv_eq (n := 3) rfl rfl rfl rfl rfl rfl (fun _ => h1) rfl)
theorem q_m_personHere_1 (s0 : Int) (v0 : nb_V) (M : nb_M) :
    nb_R nb_P 100 1 [v0] [(0, s0)] M = some ([(0, nb_sub (nb_sub s0 5) 3)], M) :=
  nb_step (c := true) rfl rfl
theorem q_m_number_0 (l0 l1 l2 : Int) (v3 : nb_V) (M : nb_M) (h1 : l0 ≠ 0) :
    nb_R nb_P 102 0 [(20, l0), (0, l1), (0, l2), v3] [] M = if nb_rd M l0 13 = 0 then nb_R nb_P 102 2 [(20, l0), (0, l1), (0, l2), v3] [] M else nb_R nb_P 102 1 [(20, l0), (0, l1), (0, l2), v3] [] M :=
  nb_step (c := (true && !decide ((l0 : Int) = 0))) rfl (by simp [h1])
theorem q_m_number_1 (l1 : Int) (v0 v2 v3 : nb_V) (M : nb_M) :
    nb_R nb_P 102 1 [v0, (0, l1), v2, v3] [] M = some ([(0, l1)], M) :=
  nb_step (c := true) rfl rfl
theorem q_m_number_2 (l0 l1 l2 : Int) (v3 : nb_V) (M : nb_M) (h1 : l0 ≠ 0) :
    nb_R nb_P 102 2 [(20, l0), (0, l1), (0, l2), v3] [] M = if nb_rd M l0 6 = 3 then nb_R nb_P 102 5 [(20, l0), (0, l1), (0, l2), v3] [] M else nb_R nb_P 102 3 [(20, l0), (0, l1), (0, l2), v3] [] M :=
  nb_step (c := (true && !decide ((l0 : Int) = 0))) rfl (by simp [h1])
theorem q_m_number_3 (l0 l1 : Int) (v2 v3 : nb_V) (M : nb_M) (h1 : l0 ≠ 0) :
    nb_R nb_P 102 3 [(20, l0), (0, l1), v2, v3] [] M = (nb_R nb_P 92 0 [(20, l0), (0, 1), (0, nb_rd M l0 4)] [] M).bind fun r => nb_R nb_P 102 4 [(20, l0), (0, l1), v2, v3] (r.1 ++ []) r.2 :=
  nb_stepC (c := (true && !decide ((l0 : Int) = 0))) (L2 := [(20, l0), (0, l1), v2, v3]) (S2 := [(0, nb_rd M l0 4), (0, 1), (20, l0)]) (M2 := M) (t := 4) (cl := 92) (vi := true) rfl (by simp [h1]) (nb_inv_eq (n := 3) rfl rfl rfl rfl rfl rfl (fun _ => h1) rfl)
theorem q_m_number_4 (l1 : Int) (v0 v2 v3 : nb_V) (M : nb_M) :
    nb_R nb_P 102 4 [v0, (0, l1), v2, v3] [] M = some ([(0, l1)], M) :=
  nb_step (c := true) rfl rfl
theorem q_m_number_5 (l0 l1 l2 : Int) (v3 : nb_V) (M : nb_M) (h1 : l0 ≠ 0) :
    nb_R nb_P 102 5 [(20, l0), (0, l1), (0, l2), v3] [] M = (nb_R nb_P 83 0 [(0, nb_rd M l0 7), (0, l1), (0, l2)] [] M).bind fun r => nb_R nb_P 102 6 [(20, l0), (0, l1), (0, l2), (0, nb_rd M l0 7)] (r.1 ++ []) r.2 :=
  nb_stepC (c := (true && !decide ((l0 : Int) = 0))) (L2 := [(20, l0), (0, l1), (0, l2), (0, nb_rd M l0 7)]) (S2 := [(0, l2), (0, l1), (0, nb_rd M l0 7)]) (M2 := M) (t := 6) (cl := 83) (vi := false) rfl (by simp [h1]) (nb_inv_eq (n := 3) rfl rfl rfl rfl rfl rfl (fun h => by cases h) rfl)
theorem q_m_number_6 (l0 l1 l3 s0 : Int) (v2 : nb_V) (M : nb_M) :
    nb_R nb_P 102 6 [(20, l0), (0, l1), v2, (0, l3)] [(0, s0)] M = if s0 = 0 then nb_R nb_P 102 7 [(20, l0), (0, l1), v2, (0, l3)] [] M else nb_R nb_P 102 9 [(20, l0), (0, l1), v2, (0, l3)] [] M :=
  nb_step (c := true) rfl rfl
theorem q_m_number_7 (l0 l1 : Int) (v2 v3 : nb_V) (M : nb_M) (h1 : l0 ≠ 0) :
    nb_R nb_P 102 7 [(20, l0), (0, l1), v2, v3] [] M = (nb_R nb_P 92 0 [(20, l0), (0, 4), (0, nb_rd M l0 4)] [] M).bind fun r => nb_R nb_P 102 8 [(20, l0), (0, l1), v2, v3] (r.1 ++ []) r.2 :=
  nb_stepC (c := (true && !decide ((l0 : Int) = 0))) (L2 := [(20, l0), (0, l1), v2, v3]) (S2 := [(0, nb_rd M l0 4), (0, 4), (20, l0)]) (M2 := M) (t := 8) (cl := 92) (vi := true) rfl (by simp [h1]) (nb_inv_eq (n := 3) rfl rfl rfl rfl rfl rfl (fun _ => h1) rfl)
theorem q_m_number_8 (l1 : Int) (v0 v2 v3 : nb_V) (M : nb_M) :
    nb_R nb_P 102 8 [v0, (0, l1), v2, v3] [] M = some ([(0, l1)], M) :=
  nb_step (c := true) rfl rfl
theorem q_m_number_9 (l0 l3 : Int) (v1 v2 : nb_V) (M : nb_M) (h1 : l0 ≠ 0) :
    nb_R nb_P 102 9 [(20, l0), v1, v2, (0, l3)] [] M = (nb_R nb_P 91 0 [(20, l0), (98, 0), (98, 0), (98, 0)] [] M).bind fun r => nb_R nb_P 102 10 [(20, l0), v1, v2, (0, l3)] (r.1 ++ []) r.2 :=
  nb_stepC (c := true) (L2 := [(20, l0), v1, v2, (0, l3)]) (S2 := [(20, l0)]) (M2 := M) (t := 10) (cl := 91) (vi := true) rfl rfl (nb_inv_eq (n := 1) rfl rfl rfl rfl rfl rfl (fun _ => h1) rfl)
theorem q_m_number_10 (l3 : Int) (v0 v1 v2 : nb_V) (M : nb_M) :
    nb_R nb_P 102 10 [v0, v1, v2, (0, l3)] [] M = some ([(0, l3)], M) :=
  nb_step (c := true) rfl rfl
theorem q_m_comma_0 (l0 : Int) (M : nb_M) (h1 : l0 ≠ 0) :
    nb_R nb_P 104 0 [(20, l0)] [] M = if nb_rd M l0 13 = 0 then nb_R nb_P 104 1 [(20, l0)] [] M else nb_R nb_P 104 2 [(20, l0)] [] M :=
  nb_step (c := (true && !decide ((l0 : Int) = 0))) rfl (by simp [h1])
theorem q_m_comma_1 (l0 : Int) (M : nb_M) (h1 : l0 ≠ 0) :
    nb_R nb_P 104 1 [(20, l0)] [] M = if nb_rd M l0 6 = 44 then nb_R nb_P 104 3 [(20, l0)] [] M else nb_R nb_P 104 2 [(20, l0)] [] M :=
  nb_step (c := (true && !decide ((l0 : Int) = 0))) rfl (by simp [h1])
theorem q_m_comma_2 (v0 : nb_V) (M : nb_M) :
    nb_R nb_P 104 2 [v0] [] M = some ([(0, 0)], M) :=
  nb_step (c := true) rfl rfl
theorem q_m_comma_3 (l0 : Int) (M : nb_M) (h1 : l0 ≠ 0) :
    nb_R nb_P 104 3 [(20, l0)] [] M = (nb_R nb_P 91 0 [(20, l0), (98, 0), (98, 0), (98, 0)] [] M).bind fun r => nb_R nb_P 104 4 [(20, l0)] (r.1 ++ []) r.2 :=
  nb_stepC (c := true) (L2 := [(20, l0)]) (S2 := [(20, l0)]) (M2 := M) (t := 4) (cl := 91) (vi := true) rfl rfl (nb_inv_eq (n := 1) rfl rfl rfl rfl rfl rfl (fun _ => h1) rfl)
theorem q_m_comma_4 (v0 : nb_V) (M : nb_M) :
    nb_R nb_P 104 4 [v0] [] M = some ([(0, 1)], M) :=
  nb_step (c := true) rfl rfl
theorem q_m_begins_0 (l0 l1 l2 : Int) (M : nb_M) (h1 : l0 ≠ 0) :
    nb_R nb_P 106 0 [(20, l0), (2, l1), (0, l2)] [] M = (nb_R nb_P 93 0 [(20, l0), (2, l1), (98, 0), (98, 0)] [] M).bind fun r => nb_R nb_P 106 1 [(20, l0), (2, l1), (0, l2)] (r.1 ++ []) r.2 :=
  nb_stepC (c := true) (L2 := [(20, l0), (2, l1), (0, l2)]) (S2 := [(2, l1), (20, l0)]) (M2 := M) (t := 1) (cl := 93) (vi := true) rfl rfl (nb_inv_eq (n := 2) rfl rfl rfl rfl rfl rfl (fun _ => h1) rfl)
theorem q_m_begins_1 (l0 l2 s0 : Int) (v1 : nb_V) (M : nb_M) :
    nb_R nb_P 106 1 [(20, l0), v1, (0, l2)] [(0, s0)] M = if s0 = 0 then nb_R nb_P 106 2 [(20, l0), v1, (0, l2)] [] M else nb_R nb_P 106 3 [(20, l0), v1, (0, l2)] [] M :=
  nb_step (c := true) rfl rfl
theorem q_m_begins_2 (v0 v1 v2 : nb_V) (M : nb_M) :
    nb_R nb_P 106 2 [v0, v1, v2] [] M = some ([(0, 0)], M) :=
  nb_step (c := true) rfl rfl
theorem q_m_begins_3 (l0 l2 : Int) (v1 : nb_V) (M : nb_M) :
    nb_R nb_P 106 3 [(20, l0), v1, (0, l2)] [] M = if l2 = 0 then nb_R nb_P 106 4 [(20, l0), v1, (0, l2)] [] M else nb_R nb_P 106 5 [(20, l0), v1, (0, l2)] [] M :=
  nb_step (c := true) rfl rfl
theorem q_m_begins_4 (l0 : Int) (v1 v2 : nb_V) (M : nb_M) (h1 : l0 ≠ 0) :
    nb_R nb_P 106 4 [(20, l0), v1, v2] [] M = (nb_R nb_P 92 0 [(20, l0), (0, 5), (0, nb_rd M l0 4)] [] M).bind fun r => nb_R nb_P 106 5 [(20, l0), v1, v2] (r.1 ++ []) r.2 :=
  nb_stepC (c := (true && !decide ((l0 : Int) = 0))) (L2 := [(20, l0), v1, v2]) (S2 := [(0, nb_rd M l0 4), (0, 5), (20, l0)]) (M2 := M) (t := 5) (cl := 92) (vi := true) rfl (by simp [h1]) (nb_inv_eq (n := 3) rfl rfl rfl rfl rfl rfl (fun _ => h1) rfl)
theorem q_m_begins_5 (l0 : Int) (v1 v2 : nb_V) (M : nb_M) (h1 : l0 ≠ 0) (h2 : (nb_rd M l0 16) ≠ 0) (h3 : (0 : Int) ≤ 0) (h4 : 0 < nb_ln M (nb_rd M l0 16)) :
    nb_R nb_P 106 5 [(20, l0), v1, v2] [] M = if nb_rd M (nb_rd M l0 16) 0 = 0 then nb_R nb_P 106 6 [(20, l0), v1, v2] [] M else nb_R nb_P 106 7 [(20, l0), v1, v2] [] M :=
  nb_step (c := ((true && !decide ((l0 : Int) = 0)) && (!decide ((nb_rd M l0 16 : Int) = 0) && (decide ((0 : Int) ≤ 0) && decide (0 < nb_ln M (nb_rd M l0 16)))))) rfl (by simp [h1, h2, h3, h4])
theorem q_m_begins_6 (l0 : Int) (v1 v2 : nb_V) (M : nb_M) (h1 : l0 ≠ 0) :
    nb_R nb_P 106 6 [(20, l0), v1, v2] [] M = (nb_R nb_P 92 0 [(20, l0), (0, 6), (0, nb_rd M l0 4)] [] M).bind fun r => nb_R nb_P 106 7 [(20, l0), v1, v2] (r.1 ++ []) r.2 :=
  nb_stepC (c := (true && !decide ((l0 : Int) = 0))) (L2 := [(20, l0), v1, v2]) (S2 := [(0, nb_rd M l0 4), (0, 6), (20, l0)]) (M2 := M) (t := 7) (cl := 92) (vi := true) rfl (by simp [h1]) (nb_inv_eq (n := 3) rfl rfl rfl rfl rfl rfl (fun _ => h1) rfl)
theorem q_m_begins_7 (l0 : Int) (v1 v2 : nb_V) (M : nb_M) (h1 : l0 ≠ 0) :
    nb_R nb_P 106 7 [(20, l0), v1, v2] [] M = if nb_rd M l0 13 = 0 then nb_R nb_P 106 8 [(20, l0), v1, v2] [] M else nb_R nb_P 106 9 [(20, l0), v1, v2] [] M :=
  nb_step (c := (true && !decide ((l0 : Int) = 0))) rfl (by simp [h1])
theorem q_m_begins_8 (l0 : Int) (v1 v2 : nb_V) (M : nb_M) (h1 : l0 ≠ 0) :
    nb_R nb_P 106 8 [(20, l0), v1, v2] [] M = (nb_R nb_P 91 0 [(20, l0), (98, 0), (98, 0), (98, 0)] [] M).bind fun r => nb_R nb_P 106 9 [(20, l0), v1, v2] (r.1 ++ []) r.2 :=
  nb_stepC (c := true) (L2 := [(20, l0), v1, v2]) (S2 := [(20, l0)]) (M2 := M) (t := 9) (cl := 91) (vi := true) rfl rfl (nb_inv_eq (n := 1) rfl rfl rfl rfl rfl rfl (fun _ => h1) rfl)
theorem q_m_begins_9 (v0 v1 v2 : nb_V) (M : nb_M) :
    nb_R nb_P 106 9 [v0, v1, v2] [] M = some ([(0, 1)], M) :=
  nb_step (c := true) rfl rfl
theorem q_m_houseLine_0 (l0 : Int) (M : nb_M) (h1 : l0 ≠ 0) (h2 : (nb_rd M l0 16) ≠ 0) (h3 : (0 : Int) ≤ 0) (h4 : 0 < nb_ln M (nb_rd M l0 16)) :
    nb_R nb_P 108 0 [(20, l0)] [] M = if nb_rd M (nb_rd M l0 16) 0 = 1 then nb_R nb_P 108 1 [(20, l0)] [] M else nb_R nb_P 108 2 [(20, l0)] [] M :=
  nb_step (c := ((true && !decide ((l0 : Int) = 0)) && (!decide ((nb_rd M l0 16 : Int) = 0) && (decide ((0 : Int) ≤ 0) && decide (0 < nb_ln M (nb_rd M l0 16)))))) rfl (by simp [h1, h2, h3, h4])
theorem q_m_houseLine_1 (l0 : Int) (M : nb_M) (h1 : l0 ≠ 0) :
    nb_R nb_P 108 1 [(20, l0)] [] M = (nb_R nb_P 92 0 [(20, l0), (0, 3), (0, nb_rd M l0 4)] [] M).bind fun r => nb_R nb_P 108 2 [(20, l0)] (r.1 ++ []) r.2 :=
  nb_stepC (c := (true && !decide ((l0 : Int) = 0))) (L2 := [(20, l0)]) (S2 := [(0, nb_rd M l0 4), (0, 3), (20, l0)]) (M2 := M) (t := 2) (cl := 92) (vi := true) rfl (by simp [h1]) (nb_inv_eq (n := 3) rfl rfl rfl rfl rfl rfl (fun _ => h1) rfl)
theorem q_m_houseLine_2 (l0 : Int) (M : nb_M) (h1 : l0 ≠ 0) :
    nb_R nb_P 108 2 [(20, l0)] [] M = if nb_rd M l0 13 = 0 then nb_R nb_P 108 4 [(20, l0)] [] M else nb_R nb_P 108 3 [(20, l0)] [] M :=
  nb_step (c := (true && !decide ((l0 : Int) = 0))) rfl (by simp [h1])
theorem q_m_houseLine_3 (v0 : nb_V) (M : nb_M) :
    nb_R nb_P 108 3 [v0] [] M = some ([], M) :=
  nb_step (c := true) rfl rfl
theorem q_m_houseLine_4 (l0 : Int) (M : nb_M) (h1 : l0 ≠ 0) :
    nb_R nb_P 108 4 [(20, l0)] [] M = (nb_R nb_P 91 0 [(20, l0), (98, 0), (98, 0), (98, 0)] [] M).bind fun r => nb_R nb_P 108 5 [(20, l0)] (r.1 ++ []) r.2 :=
  nb_stepC (c := true) (L2 := [(20, l0)]) (S2 := [(20, l0)]) (M2 := M) (t := 5) (cl := 91) (vi := true) rfl rfl (nb_inv_eq (n := 1) rfl rfl rfl rfl rfl rfl (fun _ => h1) rfl)
theorem q_m_houseLine_5 (l0 : Int) (M : nb_M) (h1 : l0 ≠ 0) :
    nb_R nb_P 108 5 [(20, l0)] [] M = (nb_R nb_P 103 0 [(20, l0), (2, 7), (0, 1), (0, 20)] [] M).bind fun r => nb_R nb_P 108 6 [(20, l0)] (r.1 ++ [(0, 1), (3, nb_rd M l0 16)]) r.2 :=
  nb_stepC (c := (true && !decide ((l0 : Int) = 0))) (L2 := [(20, l0)]) (S2 := [(0, 20), (0, 1), (2, 7), (20, l0), (0, 1), (3, nb_rd M l0 16)]) (M2 := M) (t := 6) (cl := 103) (vi := true) rfl (by simp [h1]) (nb_inv_eq (n := 4) rfl rfl rfl rfl rfl rfl (fun _ => h1) rfl)
theorem q_m_houseLine_6 (l0 s0 s1 s2 : Int) (M : nb_M) (h1 : s2 ≠ 0) (h2 : s2 ≠ 1) (h3 : (0 : Int) ≤ s1) (h4 : s1 < nb_ln M s2) :
    nb_R nb_P 108 6 [(20, l0)] [(0, s0), (0, s1), (3, s2)] M = nb_R nb_P 108 7 [(20, l0)] [] (nb_wr M s2 s1 s0) :=
  nb_step (c := (true && (!decide ((s2 : Int) = 0) && (!decide ((s2 : Int) = 1) && (decide ((0 : Int) ≤ s1) && decide (s1 < nb_ln M s2)))))) rfl (by simp [h1, h2, h3, h4])
theorem q_m_houseLine_7 (l0 : Int) (M : nb_M) (h1 : l0 ≠ 0) :
    nb_R nb_P 108 7 [(20, l0)] [] M = (nb_R nb_P 103 0 [(20, l0), (2, 8), (0, 1), (0, 600)] [] M).bind fun r => nb_R nb_P 108 8 [(20, l0)] (r.1 ++ [(0, 2), (3, nb_rd M l0 16)]) r.2 :=
  nb_stepC (c := (true && !decide ((l0 : Int) = 0))) (L2 := [(20, l0)]) (S2 := [(0, 600), (0, 1), (2, 8), (20, l0), (0, 2), (3, nb_rd M l0 16)]) (M2 := M) (t := 8) (cl := 103) (vi := true) rfl (by simp [h1]) (nb_inv_eq (n := 4) rfl rfl rfl rfl rfl rfl (fun _ => h1) rfl)
theorem q_m_houseLine_8 (l0 s0 s1 s2 : Int) (M : nb_M) (h1 : s2 ≠ 0) (h2 : s2 ≠ 1) (h3 : (0 : Int) ≤ s1) (h4 : s1 < nb_ln M s2) :
    nb_R nb_P 108 8 [(20, l0)] [(0, s0), (0, s1), (3, s2)] M = nb_R nb_P 108 9 [(20, l0)] [] (nb_wr M s2 s1 s0) :=
  nb_step (c := (true && (!decide ((s2 : Int) = 0) && (!decide ((s2 : Int) = 1) && (decide ((0 : Int) ≤ s1) && decide (s1 < nb_ln M s2)))))) rfl (by simp [h1, h2, h3, h4])
theorem q_m_houseLine_9 (l0 : Int) (M : nb_M) (h1 : l0 ≠ 0) :
    nb_R nb_P 108 9 [(20, l0)] [] M = if nb_rd M l0 13 = 0 then nb_R nb_P 108 10 [(20, l0)] [] M else nb_R nb_P 108 11 [(20, l0)] [] M :=
  nb_step (c := (true && !decide ((l0 : Int) = 0))) rfl (by simp [h1])
theorem q_m_houseLine_10 (l0 : Int) (M : nb_M) (h1 : l0 ≠ 0) (h2 : (nb_rd M l0 16) ≠ 0) (h3 : (nb_rd M l0 16) ≠ 1) (h4 : (0 : Int) ≤ 0) (h5 : 0 < nb_ln M (nb_rd M l0 16)) :
    nb_R nb_P 108 10 [(20, l0)] [] M = nb_R nb_P 108 11 [(20, l0)] [] (nb_wr M (nb_rd M l0 16) 0 1) :=
  nb_step (c := ((true && !decide ((l0 : Int) = 0)) && (!decide ((nb_rd M l0 16 : Int) = 0) && (!decide ((nb_rd M l0 16 : Int) = 1) && (decide ((0 : Int) ≤ 0) && decide (0 < nb_ln M (nb_rd M l0 16))))))) rfl (by simp [h1, h2, h3, h4, h5])
theorem q_m_houseLine_11 (v0 : nb_V) (M : nb_M) :
    nb_R nb_P 108 11 [v0] [] M = some ([], M) :=
  nb_step (c := true) rfl rfl
theorem q_m_staffLine_0 (l0 : Int) (v1 v2 : nb_V) (M : nb_M) (h1 : l0 ≠ 0) :
    nb_R nb_P 110 0 [(20, l0), v1, v2] [] M = if nb_rd M l0 13 = 0 then nb_R nb_P 110 2 [(20, l0), v1, v2] [] M else nb_R nb_P 110 1 [(20, l0), v1, v2] [] M :=
  nb_step (c := (true && !decide ((l0 : Int) = 0))) rfl (by simp [h1])
theorem q_m_staffLine_1 (v0 v1 v2 : nb_V) (M : nb_M) :
    nb_R nb_P 110 1 [v0, v1, v2] [] M = some ([], M) :=
  nb_step (c := true) rfl rfl
theorem q_m_staffLine_2 (l0 : Int) (v1 v2 : nb_V) (M : nb_M) (h1 : l0 ≠ 0) (h2 : (nb_rd M l0 16) ≠ 0) (h3 : (0 : Int) ≤ 4) (h4 : 4 < nb_ln M (nb_rd M l0 16)) :
    nb_R nb_P 110 2 [(20, l0), v1, v2] [] M = (nb_R nb_P 98 0 [(20, l0), (0, nb_add 5 (nb_rd M (nb_rd M l0 16) 4)), (98, 0)] [] M).bind fun r => nb_R nb_P 110 3 [(20, l0), (0, nb_add 23 (nb_mul 6 (nb_rd M (nb_rd M l0 16) 4))), v2] (r.1 ++ []) r.2 :=
  nb_stepC (c := ((((true && !decide ((l0 : Int) = 0)) && (!decide ((nb_rd M l0 16 : Int) = 0) && (decide ((0 : Int) ≤ 4) && decide (4 < nb_ln M (nb_rd M l0 16))))) && !decide ((l0 : Int) = 0)) && (!decide ((nb_rd M l0 16 : Int) = 0) && (decide ((0 : Int) ≤ 4) && decide (4 < nb_ln M (nb_rd M l0 16)))))) (L2 := [(20, l0), (0, nb_add 23 (nb_mul 6 (nb_rd M (nb_rd M l0 16) 4))), v2]) (S2 := [(0, nb_add 5 (nb_rd M (nb_rd M l0 16) 4)), (20, l0)]) (M2 := M) (t := 3) (cl := 98) (vi := true) rfl (by simp [h1, h2, h3, h4]) (nb_inv_eq (n := 2) rfl rfl rfl rfl rfl rfl (fun _ => h1) rfl)
theorem q_m_staffLine_3 (l0 l1 : Int) (v2 : nb_V) (M : nb_M) (h1 : l0 ≠ 0) :
    nb_R nb_P 110 3 [(20, l0), (0, l1), v2] [] M = (nb_R nb_P 93 0 [(20, l0), (2, 12), (98, 0), (98, 0)] [] M).bind fun r => nb_R nb_P 110 4 [(20, l0), (0, l1), v2] (r.1 ++ []) r.2 :=
  nb_stepC (c := true) (L2 := [(20, l0), (0, l1), v2]) (S2 := [(2, 12), (20, l0)]) (M2 := M) (t := 4) (cl := 93) (vi := true) rfl rfl (nb_inv_eq (n := 2) rfl rfl rfl rfl rfl rfl (fun _ => h1) rfl)
theorem q_m_staffLine_4 (l0 l1 s0 : Int) (v2 : nb_V) (M : nb_M) :
    nb_R nb_P 110 4 [(20, l0), (0, l1), v2] [(0, s0)] M = if s0 = 0 then nb_R nb_P 110 6 [(20, l0), (0, l1), v2] [] M else nb_R nb_P 110 5 [(20, l0), (0, l1), v2] [] M :=
  nb_step (c := true) rfl rfl
theorem q_m_staffLine_5 (l0 l1 : Int) (v2 : nb_V) (M : nb_M) :
    nb_R nb_P 110 5 [(20, l0), (0, l1), v2] [] M = nb_R nb_P 110 19 [(20, l0), (0, l1), v2] [(0, 0)] M :=
  nb_step (c := true) rfl rfl
theorem q_m_staffLine_6 (l0 l1 : Int) (v2 : nb_V) (M : nb_M) (h1 : l0 ≠ 0) :
    nb_R nb_P 110 6 [(20, l0), (0, l1), v2] [] M = (nb_R nb_P 93 0 [(20, l0), (2, 13), (98, 0), (98, 0)] [] M).bind fun r => nb_R nb_P 110 7 [(20, l0), (0, l1), v2] (r.1 ++ []) r.2 :=
  nb_stepC (c := true) (L2 := [(20, l0), (0, l1), v2]) (S2 := [(2, 13), (20, l0)]) (M2 := M) (t := 7) (cl := 93) (vi := true) rfl rfl (nb_inv_eq (n := 2) rfl rfl rfl rfl rfl rfl (fun _ => h1) rfl)
theorem q_m_staffLine_7 (l0 l1 s0 : Int) (v2 : nb_V) (M : nb_M) :
    nb_R nb_P 110 7 [(20, l0), (0, l1), v2] [(0, s0)] M = if s0 = 0 then nb_R nb_P 110 9 [(20, l0), (0, l1), v2] [] M else nb_R nb_P 110 8 [(20, l0), (0, l1), v2] [] M :=
  nb_step (c := true) rfl rfl
theorem q_m_staffLine_8 (l0 l1 : Int) (v2 : nb_V) (M : nb_M) :
    nb_R nb_P 110 8 [(20, l0), (0, l1), v2] [] M = nb_R nb_P 110 19 [(20, l0), (0, l1), v2] [(0, 1)] M :=
  nb_step (c := true) rfl rfl
theorem q_m_staffLine_9 (l0 l1 : Int) (v2 : nb_V) (M : nb_M) (h1 : l0 ≠ 0) :
    nb_R nb_P 110 9 [(20, l0), (0, l1), v2] [] M = (nb_R nb_P 93 0 [(20, l0), (2, 14), (98, 0), (98, 0)] [] M).bind fun r => nb_R nb_P 110 10 [(20, l0), (0, l1), v2] (r.1 ++ []) r.2 :=
  nb_stepC (c := true) (L2 := [(20, l0), (0, l1), v2]) (S2 := [(2, 14), (20, l0)]) (M2 := M) (t := 10) (cl := 93) (vi := true) rfl rfl (nb_inv_eq (n := 2) rfl rfl rfl rfl rfl rfl (fun _ => h1) rfl)
theorem q_m_staffLine_10 (l0 l1 s0 : Int) (v2 : nb_V) (M : nb_M) :
    nb_R nb_P 110 10 [(20, l0), (0, l1), v2] [(0, s0)] M = if s0 = 0 then nb_R nb_P 110 12 [(20, l0), (0, l1), v2] [] M else nb_R nb_P 110 11 [(20, l0), (0, l1), v2] [] M :=
  nb_step (c := true) rfl rfl
theorem q_m_staffLine_11 (l0 l1 : Int) (v2 : nb_V) (M : nb_M) :
    nb_R nb_P 110 11 [(20, l0), (0, l1), v2] [] M = nb_R nb_P 110 19 [(20, l0), (0, l1), v2] [(0, 2)] M :=
  nb_step (c := true) rfl rfl
theorem q_m_staffLine_12 (l0 l1 : Int) (v2 : nb_V) (M : nb_M) (h1 : l0 ≠ 0) :
    nb_R nb_P 110 12 [(20, l0), (0, l1), v2] [] M = (nb_R nb_P 93 0 [(20, l0), (2, 15), (98, 0), (98, 0)] [] M).bind fun r => nb_R nb_P 110 13 [(20, l0), (0, l1), v2] (r.1 ++ []) r.2 :=
  nb_stepC (c := true) (L2 := [(20, l0), (0, l1), v2]) (S2 := [(2, 15), (20, l0)]) (M2 := M) (t := 13) (cl := 93) (vi := true) rfl rfl (nb_inv_eq (n := 2) rfl rfl rfl rfl rfl rfl (fun _ => h1) rfl)
theorem q_m_staffLine_13 (l0 l1 s0 : Int) (v2 : nb_V) (M : nb_M) :
    nb_R nb_P 110 13 [(20, l0), (0, l1), v2] [(0, s0)] M = if s0 = 0 then nb_R nb_P 110 15 [(20, l0), (0, l1), v2] [] M else nb_R nb_P 110 14 [(20, l0), (0, l1), v2] [] M :=
  nb_step (c := true) rfl rfl
theorem q_m_staffLine_14 (l0 l1 : Int) (v2 : nb_V) (M : nb_M) :
    nb_R nb_P 110 14 [(20, l0), (0, l1), v2] [] M = nb_R nb_P 110 19 [(20, l0), (0, l1), v2] [(0, 3)] M :=
  nb_step (c := true) rfl rfl
theorem q_m_staffLine_15 (l0 l1 : Int) (v2 : nb_V) (M : nb_M) (h1 : l0 ≠ 0) :
    nb_R nb_P 110 15 [(20, l0), (0, l1), v2] [] M = (nb_R nb_P 93 0 [(20, l0), (2, 16), (98, 0), (98, 0)] [] M).bind fun r => nb_R nb_P 110 16 [(20, l0), (0, l1), v2] (r.1 ++ []) r.2 :=
  nb_stepC (c := true) (L2 := [(20, l0), (0, l1), v2]) (S2 := [(2, 16), (20, l0)]) (M2 := M) (t := 16) (cl := 93) (vi := true) rfl rfl (nb_inv_eq (n := 2) rfl rfl rfl rfl rfl rfl (fun _ => h1) rfl)
theorem q_m_staffLine_16 (l0 l1 s0 : Int) (v2 : nb_V) (M : nb_M) :
    nb_R nb_P 110 16 [(20, l0), (0, l1), v2] [(0, s0)] M = if s0 = 0 then nb_R nb_P 110 18 [(20, l0), (0, l1), v2] [] M else nb_R nb_P 110 17 [(20, l0), (0, l1), v2] [] M :=
  nb_step (c := true) rfl rfl
theorem q_m_staffLine_17 (l0 l1 : Int) (v2 : nb_V) (M : nb_M) :
    nb_R nb_P 110 17 [(20, l0), (0, l1), v2] [] M = nb_R nb_P 110 19 [(20, l0), (0, l1), v2] [(0, 4)] M :=
  nb_step (c := true) rfl rfl
theorem q_m_staffLine_18 (l0 l1 : Int) (v2 : nb_V) (M : nb_M) :
    nb_R nb_P 110 18 [(20, l0), (0, l1), v2] [] M = nb_R nb_P 110 19 [(20, l0), (0, l1), v2] [(0, (-1))] M :=
  nb_step (c := true) rfl rfl
theorem q_m_staffLine_19 (l0 l1 s0 : Int) (v2 : nb_V) (M : nb_M) :
    nb_R nb_P 110 19 [(20, l0), (0, l1), v2] [(0, s0)] M = if s0 < 0 then nb_R nb_P 110 20 [(20, l0), (0, l1), (0, s0)] [] M else nb_R nb_P 110 21 [(20, l0), (0, l1), (0, s0)] [] M :=
  nb_step (c := true) rfl rfl
theorem q_m_staffLine_20 (l0 l1 l2 : Int) (M : nb_M) (h1 : l0 ≠ 0) :
    nb_R nb_P 110 20 [(20, l0), (0, l1), (0, l2)] [] M = (nb_R nb_P 92 0 [(20, l0), (0, 1), (0, nb_rd M l0 4)] [] M).bind fun r => nb_R nb_P 110 21 [(20, l0), (0, l1), (0, l2)] (r.1 ++ []) r.2 :=
  nb_stepC (c := (true && !decide ((l0 : Int) = 0))) (L2 := [(20, l0), (0, l1), (0, l2)]) (S2 := [(0, nb_rd M l0 4), (0, 1), (20, l0)]) (M2 := M) (t := 21) (cl := 92) (vi := true) rfl (by simp [h1]) (nb_inv_eq (n := 3) rfl rfl rfl rfl rfl rfl (fun _ => h1) rfl)
theorem q_m_staffLine_21 (l0 l1 l2 : Int) (M : nb_M) (h1 : l0 ≠ 0) :
    nb_R nb_P 110 21 [(20, l0), (0, l1), (0, l2)] [] M = if nb_rd M l0 13 = 0 then nb_R nb_P 110 23 [(20, l0), (0, l1), (0, l2)] [] M else nb_R nb_P 110 22 [(20, l0), (0, l1), (0, l2)] [] M :=
  nb_step (c := (true && !decide ((l0 : Int) = 0))) rfl (by simp [h1])
theorem q_m_staffLine_22 (v0 v1 v2 : nb_V) (M : nb_M) :
    nb_R nb_P 110 22 [v0, v1, v2] [] M = some ([], M) :=
  nb_step (c := true) rfl rfl
theorem q_m_staffLine_23 (l0 l1 l2 : Int) (M : nb_M) (h1 : l0 ≠ 0) :
    nb_R nb_P 110 23 [(20, l0), (0, l1), (0, l2)] [] M = (nb_R nb_P 91 0 [(20, l0), (98, 0), (98, 0), (98, 0)] [] M).bind fun r => nb_R nb_P 110 24 [(20, l0), (0, l1), (0, l2)] (r.1 ++ []) r.2 :=
  nb_stepC (c := true) (L2 := [(20, l0), (0, l1), (0, l2)]) (S2 := [(20, l0)]) (M2 := M) (t := 24) (cl := 91) (vi := true) rfl rfl (nb_inv_eq (n := 1) rfl rfl rfl rfl rfl rfl (fun _ => h1) rfl)
theorem q_m_staffLine_24 (l0 l1 l2 : Int) (M : nb_M) (h1 : l0 ≠ 0) (h2 : (nb_rd M l0 16) ≠ 0) (h3 : (nb_rd M l0 16) ≠ 1) (h4 : (0 : Int) ≤ nb_add l1 0) (h5 : nb_add l1 0 < nb_ln M (nb_rd M l0 16)) :
    nb_R nb_P 110 24 [(20, l0), (0, l1), (0, l2)] [] M = nb_R nb_P 110 25 [(20, l0), (0, l1), (0, l2)] [] (nb_wr M (nb_rd M l0 16) (nb_add l1 0) l2) :=
  nb_step (c := ((true && !decide ((l0 : Int) = 0)) && (!decide ((nb_rd M l0 16 : Int) = 0) && (!decide ((nb_rd M l0 16 : Int) = 1) && (decide ((0 : Int) ≤ nb_add l1 0) && decide (nb_add l1 0 < nb_ln M (nb_rd M l0 16))))))) rfl (by simp [h1, h2, h3, h4, h5])
theorem q_m_staffLine_25 (l0 l1 : Int) (v2 : nb_V) (M : nb_M) (h1 : l0 ≠ 0) (h2 : (nb_rd M l0 16) ≠ 0) (h3 : (0 : Int) ≤ 1) (h4 : 1 < nb_ln M (nb_rd M l0 16)) :
    nb_R nb_P 110 25 [(20, l0), (0, l1), v2] [] M = (nb_R nb_P 103 0 [(20, l0), (2, 17), (0, 0), (0, nb_sub (nb_rd M (nb_rd M l0 16) 1) 1)] [] M).bind fun r => nb_R nb_P 110 26 [(20, l0), (0, l1), v2] (r.1 ++ [(0, nb_add l1 1), (3, nb_rd M l0 16)]) r.2 :=
  nb_stepC (c := (((true && !decide ((l0 : Int) = 0)) && !decide ((l0 : Int) = 0)) && (!decide ((nb_rd M l0 16 : Int) = 0) && (decide ((0 : Int) ≤ 1) && decide (1 < nb_ln M (nb_rd M l0 16)))))) (L2 := [(20, l0), (0, l1), v2]) (S2 := [(0, nb_sub (nb_rd M (nb_rd M l0 16) 1) 1), (0, 0), (2, 17), (20, l0), (0, nb_add l1 1), (3, nb_rd M l0 16)]) (M2 := M) (t := 26) (cl := 103) (vi := true) rfl (by simp [h1, h2, h3, h4]) (nb_inv_eq (n := 4) rfl rfl rfl rfl rfl rfl (fun _ => h1) rfl)
theorem q_m_staffLine_26 (l0 l1 s0 s1 s2 : Int) (v2 : nb_V) (M : nb_M) (h1 : s2 ≠ 0) (h2 : s2 ≠ 1) (h3 : (0 : Int) ≤ s1) (h4 : s1 < nb_ln M s2) :
    nb_R nb_P 110 26 [(20, l0), (0, l1), v2] [(0, s0), (0, s1), (3, s2)] M = nb_R nb_P 110 27 [(20, l0), (0, l1), v2] [] (nb_wr M s2 s1 s0) :=
  nb_step (c := (true && (!decide ((s2 : Int) = 0) && (!decide ((s2 : Int) = 1) && (decide ((0 : Int) ≤ s1) && decide (s1 < nb_ln M s2)))))) rfl (by simp [h1, h2, h3, h4])
theorem q_m_staffLine_27 (l0 l1 : Int) (v2 : nb_V) (M : nb_M) (h1 : l0 ≠ 0) (h2 : (nb_rd M l0 16) ≠ 0) (h3 : (0 : Int) ≤ 1) (h4 : 1 < nb_ln M (nb_rd M l0 16)) :
    nb_R nb_P 110 27 [(20, l0), (0, l1), v2] [] M = (nb_R nb_P 103 0 [(20, l0), (2, 18), (0, 0), (0, nb_sub (nb_rd M (nb_rd M l0 16) 1) 1)] [] M).bind fun r => nb_R nb_P 110 28 [(20, l0), (0, l1), v2] (r.1 ++ [(0, nb_add l1 2), (3, nb_rd M l0 16)]) r.2 :=
  nb_stepC (c := (((true && !decide ((l0 : Int) = 0)) && !decide ((l0 : Int) = 0)) && (!decide ((nb_rd M l0 16 : Int) = 0) && (decide ((0 : Int) ≤ 1) && decide (1 < nb_ln M (nb_rd M l0 16)))))) (L2 := [(20, l0), (0, l1), v2]) (S2 := [(0, nb_sub (nb_rd M (nb_rd M l0 16) 1) 1), (0, 0), (2, 18), (20, l0), (0, nb_add l1 2), (3, nb_rd M l0 16)]) (M2 := M) (t := 28) (cl := 103) (vi := true) rfl (by simp [h1, h2, h3, h4]) (nb_inv_eq (n := 4) rfl rfl rfl rfl rfl rfl (fun _ => h1) rfl)
theorem q_m_staffLine_28 (l0 l1 s0 s1 s2 : Int) (v2 : nb_V) (M : nb_M) (h1 : s2 ≠ 0) (h2 : s2 ≠ 1) (h3 : (0 : Int) ≤ s1) (h4 : s1 < nb_ln M s2) :
    nb_R nb_P 110 28 [(20, l0), (0, l1), v2] [(0, s0), (0, s1), (3, s2)] M = nb_R nb_P 110 29 [(20, l0), (0, l1), v2] [] (nb_wr M s2 s1 s0) :=
  nb_step (c := (true && (!decide ((s2 : Int) = 0) && (!decide ((s2 : Int) = 1) && (decide ((0 : Int) ≤ s1) && decide (s1 < nb_ln M s2)))))) rfl (by simp [h1, h2, h3, h4])
set_option maxRecDepth 10000 in
theorem q_m_staffLine_29 (l0 l1 : Int) (v2 : nb_V) (M : nb_M) (h1 : l0 ≠ 0) (h2 : (nb_rd M l0 16) ≠ 0) (h3 : (0 : Int) ≤ nb_add l1 2) (h4 : nb_add l1 2 < nb_ln M (nb_rd M l0 16)) (h5 : (0 : Int) ≤ 1) (h6 : 1 < nb_ln M (nb_rd M l0 16)) :
    nb_R nb_P 110 29 [(20, l0), (0, l1), v2] [] M = (nb_R nb_P 103 0 [(20, l0), (2, 19), (0, nb_rd M (nb_rd M l0 16) (nb_add l1 2)), (0, nb_sub (nb_rd M (nb_rd M l0 16) 1) 1)] [] M).bind fun r => nb_R nb_P 110 30 [(20, l0), (0, l1), v2] (r.1 ++ [(0, nb_add l1 3), (3, nb_rd M l0 16)]) r.2 :=
  nb_stepC (c := (((((true && !decide ((l0 : Int) = 0)) && !decide ((l0 : Int) = 0)) && (!decide ((nb_rd M l0 16 : Int) = 0) && (decide ((0 : Int) ≤ nb_add l1 2) && decide (nb_add l1 2 < nb_ln M (nb_rd M l0 16))))) && !decide ((l0 : Int) = 0)) && (!decide ((nb_rd M l0 16 : Int) = 0) && (decide ((0 : Int) ≤ 1) && decide (1 < nb_ln M (nb_rd M l0 16)))))) (L2 := [(20, l0), (0, l1), v2]) (S2 := [(0, nb_sub (nb_rd M (nb_rd M l0 16) 1) 1), (0, nb_rd M (nb_rd M l0 16) (nb_add l1 2)), (2, 19), (20, l0), (0, nb_add l1 3), (3, nb_rd M l0 16)]) (M2 := M) (t := 30) (cl := 103) (vi := true) rfl (by simp [h1, h2, h3, h4, h5, h6]) (nb_inv_eq (n := 4) rfl rfl rfl rfl rfl rfl (fun _ => h1) rfl)
theorem q_m_staffLine_30 (l0 l1 s0 s1 s2 : Int) (v2 : nb_V) (M : nb_M) (h1 : s2 ≠ 0) (h2 : s2 ≠ 1) (h3 : (0 : Int) ≤ s1) (h4 : s1 < nb_ln M s2) :
    nb_R nb_P 110 30 [(20, l0), (0, l1), v2] [(0, s0), (0, s1), (3, s2)] M = nb_R nb_P 110 31 [(20, l0), (0, l1), v2] [] (nb_wr M s2 s1 s0) :=
  nb_step (c := (true && (!decide ((s2 : Int) = 0) && (!decide ((s2 : Int) = 1) && (decide ((0 : Int) ≤ s1) && decide (s1 < nb_ln M s2)))))) rfl (by simp [h1, h2, h3, h4])
theorem q_m_staffLine_31 (l0 l1 : Int) (v2 : nb_V) (M : nb_M) (h1 : l0 ≠ 0) :
    nb_R nb_P 110 31 [(20, l0), (0, l1), v2] [] M = (nb_R nb_P 103 0 [(20, l0), (2, 20), (0, 0), (0, 9)] [] M).bind fun r => nb_R nb_P 110 32 [(20, l0), (0, l1), v2] (r.1 ++ [(0, nb_add l1 4), (3, nb_rd M l0 16)]) r.2 :=
  nb_stepC (c := (true && !decide ((l0 : Int) = 0))) (L2 := [(20, l0), (0, l1), v2]) (S2 := [(0, 9), (0, 0), (2, 20), (20, l0), (0, nb_add l1 4), (3, nb_rd M l0 16)]) (M2 := M) (t := 32) (cl := 103) (vi := true) rfl (by simp [h1]) (nb_inv_eq (n := 4) rfl rfl rfl rfl rfl rfl (fun _ => h1) rfl)
theorem q_m_staffLine_32 (l0 l1 s0 s1 s2 : Int) (v2 : nb_V) (M : nb_M) (h1 : s2 ≠ 0) (h2 : s2 ≠ 1) (h3 : (0 : Int) ≤ s1) (h4 : s1 < nb_ln M s2) :
    nb_R nb_P 110 32 [(20, l0), (0, l1), v2] [(0, s0), (0, s1), (3, s2)] M = nb_R nb_P 110 33 [(20, l0), (0, l1), v2] [] (nb_wr M s2 s1 s0) :=
  nb_step (c := (true && (!decide ((s2 : Int) = 0) && (!decide ((s2 : Int) = 1) && (decide ((0 : Int) ≤ s1) && decide (s1 < nb_ln M s2)))))) rfl (by simp [h1, h2, h3, h4])
theorem q_m_staffLine_33 (l0 l1 : Int) (v2 : nb_V) (M : nb_M) (h1 : l0 ≠ 0) :
    nb_R nb_P 110 33 [(20, l0), (0, l1), v2] [] M = (nb_R nb_P 103 0 [(20, l0), (2, 21), (0, 1), (0, 2)] [] M).bind fun r => nb_R nb_P 110 34 [(20, l0), (0, l1), v2] (r.1 ++ [(0, nb_add l1 5), (3, nb_rd M l0 16)]) r.2 :=
  nb_stepC (c := (true && !decide ((l0 : Int) = 0))) (L2 := [(20, l0), (0, l1), v2]) (S2 := [(0, 2), (0, 1), (2, 21), (20, l0), (0, nb_add l1 5), (3, nb_rd M l0 16)]) (M2 := M) (t := 34) (cl := 103) (vi := true) rfl (by simp [h1]) (nb_inv_eq (n := 4) rfl rfl rfl rfl rfl rfl (fun _ => h1) rfl)
theorem q_m_staffLine_34 (l0 s0 s1 s2 : Int) (v1 v2 : nb_V) (M : nb_M) (h1 : s2 ≠ 0) (h2 : s2 ≠ 1) (h3 : (0 : Int) ≤ s1) (h4 : s1 < nb_ln M s2) :
    nb_R nb_P 110 34 [(20, l0), v1, v2] [(0, s0), (0, s1), (3, s2)] M = nb_R nb_P 110 35 [(20, l0), v1, v2] [] (nb_wr M s2 s1 s0) :=
  nb_step (c := (true && (!decide ((s2 : Int) = 0) && (!decide ((s2 : Int) = 1) && (decide ((0 : Int) ≤ s1) && decide (s1 < nb_ln M s2)))))) rfl (by simp [h1, h2, h3, h4])
theorem q_m_staffLine_35 (l0 : Int) (v1 v2 : nb_V) (M : nb_M) (h1 : l0 ≠ 0) :
    nb_R nb_P 110 35 [(20, l0), v1, v2] [] M = if nb_rd M l0 13 = 0 then nb_R nb_P 110 36 [(20, l0), v1, v2] [] M else nb_R nb_P 110 37 [(20, l0), v1, v2] [] M :=
  nb_step (c := (true && !decide ((l0 : Int) = 0))) rfl (by simp [h1])
theorem q_m_staffLine_36 (l0 : Int) (v1 v2 : nb_V) (M : nb_M) (h1 : l0 ≠ 0) (h2 : (nb_rd M l0 16) ≠ 0) (h3 : (0 : Int) ≤ 4) (h4 : 4 < nb_ln M (nb_rd M l0 16)) (h5 : (nb_rd M l0 16) ≠ 1) :
    nb_R nb_P 110 36 [(20, l0), v1, v2] [] M = nb_R nb_P 110 37 [(20, l0), v1, v2] [] (nb_wr M (nb_rd M l0 16) 4 (nb_add (nb_rd M (nb_rd M l0 16) 4) 1)) :=
  nb_step (c := (((true && !decide ((l0 : Int) = 0)) && (!decide ((nb_rd M l0 16 : Int) = 0) && (decide ((0 : Int) ≤ 4) && decide (4 < nb_ln M (nb_rd M l0 16))))) && (!decide ((nb_rd M l0 16 : Int) = 0) && (!decide ((nb_rd M l0 16 : Int) = 1) && (decide ((0 : Int) ≤ 4) && decide (4 < nb_ln M (nb_rd M l0 16))))))) rfl (by simp [h1, h2, h3, h4, h5])
theorem q_m_staffLine_37 (v0 v1 v2 : nb_V) (M : nb_M) :
    nb_R nb_P 110 37 [v0, v1, v2] [] M = some ([], M) :=
  nb_step (c := true) rfl rfl
theorem q_m_shelfLine_0 (l0 : Int) (v1 v2 : nb_V) (M : nb_M) (h1 : l0 ≠ 0) :
    nb_R nb_P 112 0 [(20, l0), v1, v2] [] M = if nb_rd M l0 13 = 0 then nb_R nb_P 112 2 [(20, l0), v1, v2] [] M else nb_R nb_P 112 1 [(20, l0), v1, v2] [] M :=
  nb_step (c := (true && !decide ((l0 : Int) = 0))) rfl (by simp [h1])
theorem q_m_shelfLine_1 (v0 v1 v2 : nb_V) (M : nb_M) :
    nb_R nb_P 112 1 [v0, v1, v2] [] M = some ([], M) :=
  nb_step (c := true) rfl rfl
theorem q_m_shelfLine_2 (l0 : Int) (v1 v2 : nb_V) (M : nb_M) (h1 : l0 ≠ 0) :
    nb_R nb_P 112 2 [(20, l0), v1, v2] [] M = (nb_R nb_P 100 0 [(20, l0)] [] M).bind fun r => nb_R nb_P 112 3 [(20, l0), v1, v2] (r.1 ++ []) r.2 :=
  nb_stepC (c := true) (L2 := [(20, l0), v1, v2]) (S2 := [(20, l0)]) (M2 := M) (t := 3) (cl := 100) (vi := true) rfl rfl (nb_inv_eq (n := 1) rfl rfl rfl rfl rfl rfl (fun _ => h1) rfl)
theorem q_m_shelfLine_3 (l0 s0 : Int) (v1 v2 : nb_V) (M : nb_M) (h1 : l0 ≠ 0) :
    nb_R nb_P 112 3 [(20, l0), v1, v2] [(0, s0)] M = if nb_rd M l0 13 = 0 then nb_R nb_P 112 4 [(20, l0), (0, s0), v2] [] M else nb_R nb_P 112 6 [(20, l0), (0, s0), v2] [] M :=
  nb_step (c := (true && !decide ((l0 : Int) = 0))) rfl (by simp [h1])
theorem q_m_shelfLine_4 (l0 l1 : Int) (v2 : nb_V) (M : nb_M) (h1 : l0 ≠ 0) (h2 : (nb_rd M l0 16) ≠ 0) (h3 : (0 : Int) ≤ nb_add (nb_add 41 (nb_mul 7 l1)) 6) (h4 : nb_add (nb_add 41 (nb_mul 7 l1)) 6 < nb_ln M (nb_rd M l0 16)) :
    nb_R nb_P 112 4 [(20, l0), (0, l1), v2] [] M = if 0 < nb_rd M (nb_rd M l0 16) (nb_add (nb_add 41 (nb_mul 7 l1)) 6) then nb_R nb_P 112 5 [(20, l0), (0, l1), v2] [] M else nb_R nb_P 112 6 [(20, l0), (0, l1), v2] [] M :=
  nb_step (c := ((true && !decide ((l0 : Int) = 0)) && (!decide ((nb_rd M l0 16 : Int) = 0) && (decide ((0 : Int) ≤ nb_add (nb_add 41 (nb_mul 7 l1)) 6) && decide (nb_add (nb_add 41 (nb_mul 7 l1)) 6 < nb_ln M (nb_rd M l0 16)))))) rfl (by simp [h1, h2, h3, h4])
theorem q_m_shelfLine_5 (l0 l1 : Int) (v2 : nb_V) (M : nb_M) (h1 : l0 ≠ 0) :
    nb_R nb_P 112 5 [(20, l0), (0, l1), v2] [] M = (nb_R nb_P 92 0 [(20, l0), (0, 3), (0, nb_rd M l0 4)] [] M).bind fun r => nb_R nb_P 112 6 [(20, l0), (0, l1), v2] (r.1 ++ []) r.2 :=
  nb_stepC (c := (true && !decide ((l0 : Int) = 0))) (L2 := [(20, l0), (0, l1), v2]) (S2 := [(0, nb_rd M l0 4), (0, 3), (20, l0)]) (M2 := M) (t := 6) (cl := 92) (vi := true) rfl (by simp [h1]) (nb_inv_eq (n := 3) rfl rfl rfl rfl rfl rfl (fun _ => h1) rfl)
theorem q_m_shelfLine_6 (l0 l1 : Int) (v2 : nb_V) (M : nb_M) (h1 : l0 ≠ 0) :
    nb_R nb_P 112 6 [(20, l0), (0, l1), v2] [] M = if nb_rd M l0 13 = 0 then nb_R nb_P 112 8 [(20, l0), (0, l1), v2] [] M else nb_R nb_P 112 7 [(20, l0), (0, l1), v2] [] M :=
  nb_step (c := (true && !decide ((l0 : Int) = 0))) rfl (by simp [h1])
theorem q_m_shelfLine_7 (v0 v1 v2 : nb_V) (M : nb_M) :
    nb_R nb_P 112 7 [v0, v1, v2] [] M = some ([], M) :=
  nb_step (c := true) rfl rfl
theorem q_m_shelfLine_8 (l0 l1 : Int) (v2 : nb_V) (M : nb_M) (h1 : l0 ≠ 0) :
    nb_R nb_P 112 8 [(20, l0), (0, l1), v2] [] M = (nb_R nb_P 91 0 [(20, l0), (98, 0), (98, 0), (98, 0)] [] M).bind fun r => nb_R nb_P 112 9 [(20, l0), (0, l1), v2] (r.1 ++ []) r.2 :=
  nb_stepC (c := true) (L2 := [(20, l0), (0, l1), v2]) (S2 := [(20, l0)]) (M2 := M) (t := 9) (cl := 91) (vi := true) rfl rfl (nb_inv_eq (n := 1) rfl rfl rfl rfl rfl rfl (fun _ => h1) rfl)
theorem q_m_shelfLine_9 (l0 l1 : Int) (v2 : nb_V) (M : nb_M) (h1 : l0 ≠ 0) (h2 : (nb_rd M l0 16) ≠ 0) (h3 : (0 : Int) ≤ 2) (h4 : 2 < nb_ln M (nb_rd M l0 16)) :
    nb_R nb_P 112 9 [(20, l0), (0, l1), v2] [] M = (nb_R nb_P 103 0 [(20, l0), (2, 29), (0, 0), (0, nb_rd M (nb_rd M l0 16) 2)] [] M).bind fun r => nb_R nb_P 112 10 [(20, l0), (0, l1), v2] (r.1 ++ []) r.2 :=
  nb_stepC (c := ((true && !decide ((l0 : Int) = 0)) && (!decide ((nb_rd M l0 16 : Int) = 0) && (decide ((0 : Int) ≤ 2) && decide (2 < nb_ln M (nb_rd M l0 16)))))) (L2 := [(20, l0), (0, l1), v2]) (S2 := [(0, nb_rd M (nb_rd M l0 16) 2), (0, 0), (2, 29), (20, l0)]) (M2 := M) (t := 10) (cl := 103) (vi := true) rfl (by simp [h1, h2, h3, h4]) (nb_inv_eq (n := 4) rfl rfl rfl rfl rfl rfl (fun _ => h1) rfl)
theorem q_m_shelfLine_10 (l0 l1 s0 : Int) (v2 : nb_V) (M : nb_M) (h1 : l0 ≠ 0) :
    nb_R nb_P 112 10 [(20, l0), (0, l1), v2] [(0, s0)] M = if nb_rd M l0 13 = 0 then nb_R nb_P 112 12 [(20, l0), (0, l1), (0, s0)] [] M else nb_R nb_P 112 11 [(20, l0), (0, l1), (0, s0)] [] M :=
  nb_step (c := (true && !decide ((l0 : Int) = 0))) rfl (by simp [h1])
theorem q_m_shelfLine_11 (v0 v1 v2 : nb_V) (M : nb_M) :
    nb_R nb_P 112 11 [v0, v1, v2] [] M = some ([], M) :=
  nb_step (c := true) rfl rfl
theorem q_m_shelfLine_12 (l0 l1 l2 : Int) (M : nb_M) (h1 : l0 ≠ 0) (h2 : (nb_rd M l0 16) ≠ 0) (h3 : (nb_rd M l0 16) ≠ 1) (h4 : (0 : Int) ≤ nb_add (nb_add 41 (nb_mul 7 l1)) 6) (h5 : nb_add (nb_add 41 (nb_mul 7 l1)) 6 < nb_ln M (nb_rd M l0 16)) :
    nb_R nb_P 112 12 [(20, l0), (0, l1), (0, l2)] [] M = nb_R nb_P 112 13 [(20, l0), (0, l1), (0, l2)] [] (nb_wr M (nb_rd M l0 16) (nb_add (nb_add 41 (nb_mul 7 l1)) 6) (nb_add l2 1)) :=
  nb_step (c := ((true && !decide ((l0 : Int) = 0)) && (!decide ((nb_rd M l0 16 : Int) = 0) && (!decide ((nb_rd M l0 16 : Int) = 1) && (decide ((0 : Int) ≤ nb_add (nb_add 41 (nb_mul 7 l1)) 6) && decide (nb_add (nb_add 41 (nb_mul 7 l1)) 6 < nb_ln M (nb_rd M l0 16))))))) rfl (by simp [h1, h2, h3, h4, h5])
theorem q_m_shelfLine_13 (l0 : Int) (v1 v2 : nb_V) (M : nb_M) (h1 : l0 ≠ 0) (h2 : (nb_rd M l0 16) ≠ 0) (h3 : (0 : Int) ≤ 6) (h4 : 6 < nb_ln M (nb_rd M l0 16)) (h5 : (nb_rd M l0 16) ≠ 1) :
    nb_R nb_P 112 13 [(20, l0), v1, v2] [] M = nb_R nb_P 112 14 [(20, l0), v1, v2] [] (nb_wr M (nb_rd M l0 16) 6 (nb_add (nb_rd M (nb_rd M l0 16) 6) 1)) :=
  nb_step (c := (((true && !decide ((l0 : Int) = 0)) && (!decide ((nb_rd M l0 16 : Int) = 0) && (decide ((0 : Int) ≤ 6) && decide (6 < nb_ln M (nb_rd M l0 16))))) && (!decide ((nb_rd M l0 16 : Int) = 0) && (!decide ((nb_rd M l0 16 : Int) = 1) && (decide ((0 : Int) ≤ 6) && decide (6 < nb_ln M (nb_rd M l0 16))))))) rfl (by simp [h1, h2, h3, h4, h5])
theorem q_m_shelfLine_14 (v0 v1 v2 : nb_V) (M : nb_M) :
    nb_R nb_P 112 14 [v0, v1, v2] [] M = some ([], M) :=
  nb_step (c := true) rfl rfl
theorem q_m_fault_0 (l0 : Int) (M : nb_M) (h1 : l0 ≠ 0) :
    nb_R nb_P 114 0 [(20, l0)] [] M = nb_R nb_P 114 1 [(20, l0)] [] (nb_wr M l0 0 0) :=
  nb_step (c := (true && (!decide ((l0 : Int) = 0) && (!false || (decide ((0 : Int) = 0) || decide ((0 : Int) = 1)))))) rfl (by simp [h1])
theorem q_m_fault_1 (l0 : Int) (M : nb_M) (h1 : l0 ≠ 0) :
    nb_R nb_P 114 1 [(20, l0)] [] M = some ([(0, nb_rd M l0 9)], M) :=
  nb_step (c := (true && !decide ((l0 : Int) = 0))) rfl (by simp [h1])
theorem q_m_isPerson_0 (l0 l1 : Int) (M : nb_M) (h1 : l0 ≠ 0) :
    nb_R nb_P 116 0 [(20, l0), (0, l1)] [] M = if nb_rd M l0 14 = 0 then nb_R nb_P 116 4 [(20, l0), (0, l1)] [] M else nb_R nb_P 116 1 [(20, l0), (0, l1)] [] M :=
  nb_step (c := (true && !decide ((l0 : Int) = 0))) rfl (by simp [h1])
theorem q_m_isPerson_1 (l0 l1 : Int) (M : nb_M) (h1 : l0 ≠ 0) (h2 : (nb_rd M l0 15) ≠ 0) (h3 : (0 : Int) ≤ 5) (h4 : 5 < nb_ln M (nb_rd M l0 15)) :
    nb_R nb_P 116 1 [(20, l0), (0, l1)] [] M = (nb_R nb_P 83 0 [(0, l1), (0, 0), (0, nb_sub (nb_rd M (nb_rd M l0 15) 5) 1)] [] M).bind fun r => nb_R nb_P 116 2 [(20, l0), (0, l1)] (r.1 ++ []) r.2 :=
  nb_stepC (c := ((true && !decide ((l0 : Int) = 0)) && (!decide ((nb_rd M l0 15 : Int) = 0) && (decide ((0 : Int) ≤ 5) && decide (5 < nb_ln M (nb_rd M l0 15)))))) (L2 := [(20, l0), (0, l1)]) (S2 := [(0, nb_sub (nb_rd M (nb_rd M l0 15) 5) 1), (0, 0), (0, l1)]) (M2 := M) (t := 2) (cl := 83) (vi := false) rfl (by simp [h1, h2, h3, h4]) (nb_inv_eq (n := 3) rfl rfl rfl rfl rfl rfl (fun h => by cases h) rfl)
theorem q_m_isPerson_2 (s0 : Int) (v0 v1 : nb_V) (M : nb_M) :
    nb_R nb_P 116 2 [v0, v1] [(0, s0)] M = if s0 = 0 then nb_R nb_P 116 4 [v0, v1] [] M else nb_R nb_P 116 3 [v0, v1] [] M :=
  nb_step (c := true) rfl rfl
theorem q_m_isPerson_3 (v0 v1 : nb_V) (M : nb_M) :
    nb_R nb_P 116 3 [v0, v1] [] M = nb_R nb_P 116 5 [v0, v1] [(0, 1)] M :=
  nb_step (c := true) rfl rfl
theorem q_m_isPerson_4 (v0 v1 : nb_V) (M : nb_M) :
    nb_R nb_P 116 4 [v0, v1] [] M = nb_R nb_P 116 5 [v0, v1] [(0, 0)] M :=
  nb_step (c := true) rfl rfl
theorem q_m_isPerson_5 (s0 : Int) (v0 v1 : nb_V) (M : nb_M) :
    nb_R nb_P 116 5 [v0, v1] [(0, s0)] M = some ([(0, nb_i2z s0)], M) :=
  nb_step (c := true) rfl rfl
theorem q_m_isSpot_0 (l0 l1 : Int) (M : nb_M) (h1 : l0 ≠ 0) :
    nb_R nb_P 118 0 [(20, l0), (0, l1)] [] M = if nb_rd M l0 14 = 0 then nb_R nb_P 118 4 [(20, l0), (0, l1)] [] M else nb_R nb_P 118 1 [(20, l0), (0, l1)] [] M :=
  nb_step (c := (true && !decide ((l0 : Int) = 0))) rfl (by simp [h1])
theorem q_m_isSpot_1 (l0 l1 : Int) (M : nb_M) (h1 : l0 ≠ 0) (h2 : (nb_rd M l0 15) ≠ 0) (h3 : (0 : Int) ≤ 1) (h4 : 1 < nb_ln M (nb_rd M l0 15)) :
    nb_R nb_P 118 1 [(20, l0), (0, l1)] [] M = (nb_R nb_P 83 0 [(0, l1), (0, 0), (0, nb_sub (nb_rd M (nb_rd M l0 15) 1) 1)] [] M).bind fun r => nb_R nb_P 118 2 [(20, l0), (0, l1)] (r.1 ++ []) r.2 :=
  nb_stepC (c := ((true && !decide ((l0 : Int) = 0)) && (!decide ((nb_rd M l0 15 : Int) = 0) && (decide ((0 : Int) ≤ 1) && decide (1 < nb_ln M (nb_rd M l0 15)))))) (L2 := [(20, l0), (0, l1)]) (S2 := [(0, nb_sub (nb_rd M (nb_rd M l0 15) 1) 1), (0, 0), (0, l1)]) (M2 := M) (t := 2) (cl := 83) (vi := false) rfl (by simp [h1, h2, h3, h4]) (nb_inv_eq (n := 3) rfl rfl rfl rfl rfl rfl (fun h => by cases h) rfl)
theorem q_m_isSpot_2 (s0 : Int) (v0 v1 : nb_V) (M : nb_M) :
    nb_R nb_P 118 2 [v0, v1] [(0, s0)] M = if s0 = 0 then nb_R nb_P 118 4 [v0, v1] [] M else nb_R nb_P 118 3 [v0, v1] [] M :=
  nb_step (c := true) rfl rfl
theorem q_m_isSpot_3 (v0 v1 : nb_V) (M : nb_M) :
    nb_R nb_P 118 3 [v0, v1] [] M = nb_R nb_P 118 5 [v0, v1] [(0, 1)] M :=
  nb_step (c := true) rfl rfl
theorem q_m_isSpot_4 (v0 v1 : nb_V) (M : nb_M) :
    nb_R nb_P 118 4 [v0, v1] [] M = nb_R nb_P 118 5 [v0, v1] [(0, 0)] M :=
  nb_step (c := true) rfl rfl
theorem q_m_isSpot_5 (s0 : Int) (v0 v1 : nb_V) (M : nb_M) :
    nb_R nb_P 118 5 [v0, v1] [(0, s0)] M = some ([(0, nb_i2z s0)], M) :=
  nb_step (c := true) rfl rfl
theorem q_m_wantsOf_0 (l0 l1 l2 : Int) (M : nb_M) (h1 : l0 ≠ 0) (h2 : (nb_rd M l0 15) ≠ 0) (h3 : (0 : Int) ≤ nb_add (nb_add 111 (nb_mul 5 l1)) l2) (h4 : nb_add (nb_add 111 (nb_mul 5 l1)) l2 < nb_ln M (nb_rd M l0 15)) :
    nb_R nb_P 120 0 [(20, l0), (0, l1), (0, l2)] [] M = some ([(0, nb_rd M (nb_rd M l0 15) (nb_add (nb_add 111 (nb_mul 5 l1)) l2))], M) :=
  nb_step (c := ((true && !decide ((l0 : Int) = 0)) && (!decide ((nb_rd M l0 15 : Int) = 0) && (decide ((0 : Int) ≤ nb_add (nb_add 111 (nb_mul 5 l1)) l2) && decide (nb_add (nb_add 111 (nb_mul 5 l1)) l2 < nb_ln M (nb_rd M l0 15)))))) rfl (by simp [h1, h2, h3, h4])
theorem q_m_man_0 (l0 l1 l2 : Int) (M : nb_M) (h1 : l0 ≠ 0) (h2 : (nb_rd M l0 24) ≠ 0) (h3 : (0 : Int) ≤ nb_add (nb_mul 7 l1) l2) (h4 : nb_add (nb_mul 7 l1) l2 < nb_ln M (nb_rd M l0 24)) :
    nb_R nb_P 122 0 [(20, l0), (0, l1), (0, l2)] [] M = some ([(0, nb_rd M (nb_rd M l0 24) (nb_add (nb_mul 7 l1) l2))], M) :=
  nb_step (c := ((true && !decide ((l0 : Int) = 0)) && (!decide ((nb_rd M l0 24 : Int) = 0) && (decide ((0 : Int) ≤ nb_add (nb_mul 7 l1) l2) && decide (nb_add (nb_mul 7 l1) l2 < nb_ln M (nb_rd M l0 24)))))) rfl (by simp [h1, h2, h3, h4])
theorem q_m_layFirst_0 (l0 l1 : Int) (v2 v3 : nb_V) (M : nb_M) :
    nb_R nb_P 124 0 [(20, l0), (3, l1), v2, v3] [] M = nb_R nb_P 124 1 [(20, l0), (3, l1), (0, 0), v3] [] M :=
  nb_step (c := true) rfl rfl
theorem q_m_layFirst_1 (l0 l1 l2 : Int) (v3 : nb_V) (M : nb_M) :
    nb_R nb_P 124 1 [(20, l0), (3, l1), (0, l2), v3] [] M = if l2 < 108 then nb_R nb_P 124 2 [(20, l0), (3, l1), (0, l2), v3] [] M else nb_R nb_P 124 4 [(20, l0), (3, l1), (0, l2), v3] [] M :=
  nb_step (c := true) rfl rfl
theorem q_m_layFirst_2 (l0 l1 l2 : Int) (v3 : nb_V) (M : nb_M) (h1 : l1 ≠ 0) (h2 : l1 ≠ 1) (h3 : (0 : Int) ≤ l2) (h4 : l2 < nb_ln M l1) :
    nb_R nb_P 124 2 [(20, l0), (3, l1), (0, l2), v3] [] M = nb_R nb_P 124 3 [(20, l0), (3, l1), (0, l2), v3] [] (nb_wr M l1 l2 0) :=
  nb_step (c := (true && (!decide ((l1 : Int) = 0) && (!decide ((l1 : Int) = 1) && (decide ((0 : Int) ≤ l2) && decide (l2 < nb_ln M l1)))))) rfl (by simp [h1, h2, h3, h4])
theorem q_m_layFirst_3 (l0 l1 l2 : Int) (v3 : nb_V) (M : nb_M) :
    nb_R nb_P 124 3 [(20, l0), (3, l1), (0, l2), v3] [] M = nb_R nb_P 124 1 [(20, l0), (3, l1), (0, nb_add l2 1), v3] [] M :=
  nb_step (c := true) rfl rfl
theorem q_m_layFirst_4 (l0 l1 : Int) (v2 v3 : nb_V) (M : nb_M) :
    nb_R nb_P 124 4 [(20, l0), (3, l1), v2, v3] [] M = nb_R nb_P 124 5 [(20, l0), (3, l1), (0, 0), v3] [] M :=
  nb_step (c := true) rfl rfl
theorem q_m_layFirst_5 (l0 l1 l2 : Int) (v3 : nb_V) (M : nb_M) (h1 : l0 ≠ 0) (h2 : (nb_rd M l0 15) ≠ 0) (h3 : (0 : Int) ≤ 5) (h4 : 5 < nb_ln M (nb_rd M l0 15)) :
    nb_R nb_P 124 5 [(20, l0), (3, l1), (0, l2), v3] [] M = if l2 < nb_rd M (nb_rd M l0 15) 5 then nb_R nb_P 124 6 [(20, l0), (3, l1), (0, l2), v3] [] M else nb_R nb_P 124 17 [(20, l0), (3, l1), (0, l2), v3] [] M :=
  nb_step (c := ((true && !decide ((l0 : Int) = 0)) && (!decide ((nb_rd M l0 15 : Int) = 0) && (decide ((0 : Int) ≤ 5) && decide (5 < nb_ln M (nb_rd M l0 15)))))) rfl (by simp [h1, h2, h3, h4])
theorem q_m_layFirst_6 (l0 l1 l2 : Int) (v3 : nb_V) (M : nb_M) (h1 : l0 ≠ 0) :
    nb_R nb_P 124 6 [(20, l0), (3, l1), (0, l2), v3] [] M = (nb_R nb_P 122 0 [(20, l0), (0, l2), (0, 3)] [] M).bind fun r => nb_R nb_P 124 7 [(20, l0), (3, l1), (0, l2), (0, nb_add 12 (nb_mul 8 l2))] (r.1 ++ [(0, nb_add (nb_add 12 (nb_mul 8 l2)) 1), (3, l1)]) r.2 :=
  nb_stepC (c := true) (L2 := [(20, l0), (3, l1), (0, l2), (0, nb_add 12 (nb_mul 8 l2))]) (S2 := [(0, 3), (0, l2), (20, l0), (0, nb_add (nb_add 12 (nb_mul 8 l2)) 1), (3, l1)]) (M2 := M) (t := 7) (cl := 122) (vi := true) rfl rfl (nb_inv_eq (n := 3) rfl rfl rfl rfl rfl rfl (fun _ => h1) rfl)
theorem q_m_layFirst_7 (l0 l1 l2 l3 s0 s1 s2 : Int) (M : nb_M) (h1 : s2 ≠ 0) (h2 : s2 ≠ 1) (h3 : (0 : Int) ≤ s1) (h4 : s1 < nb_ln M s2) :
    nb_R nb_P 124 7 [(20, l0), (3, l1), (0, l2), (0, l3)] [(0, s0), (0, s1), (3, s2)] M = nb_R nb_P 124 8 [(20, l0), (3, l1), (0, l2), (0, l3)] [] (nb_wr M s2 s1 s0) :=
  nb_step (c := (true && (!decide ((s2 : Int) = 0) && (!decide ((s2 : Int) = 1) && (decide ((0 : Int) ≤ s1) && decide (s1 < nb_ln M s2)))))) rfl (by simp [h1, h2, h3, h4])
theorem q_m_layFirst_8 (l0 l1 l2 l3 : Int) (M : nb_M) (h1 : l0 ≠ 0) :
    nb_R nb_P 124 8 [(20, l0), (3, l1), (0, l2), (0, l3)] [] M = (nb_R nb_P 122 0 [(20, l0), (0, l2), (0, 5)] [] M).bind fun r => nb_R nb_P 124 9 [(20, l0), (3, l1), (0, l2), (0, l3)] (r.1 ++ [(0, nb_add l3 2), (3, l1)]) r.2 :=
  nb_stepC (c := true) (L2 := [(20, l0), (3, l1), (0, l2), (0, l3)]) (S2 := [(0, 5), (0, l2), (20, l0), (0, nb_add l3 2), (3, l1)]) (M2 := M) (t := 9) (cl := 122) (vi := true) rfl rfl (nb_inv_eq (n := 3) rfl rfl rfl rfl rfl rfl (fun _ => h1) rfl)
theorem q_m_layFirst_9 (l0 l1 l2 l3 s0 s1 s2 : Int) (M : nb_M) (h1 : s2 ≠ 0) (h2 : s2 ≠ 1) (h3 : (0 : Int) ≤ s1) (h4 : s1 < nb_ln M s2) :
    nb_R nb_P 124 9 [(20, l0), (3, l1), (0, l2), (0, l3)] [(0, s0), (0, s1), (3, s2)] M = nb_R nb_P 124 10 [(20, l0), (3, l1), (0, l2), (0, l3)] [] (nb_wr M s2 s1 s0) :=
  nb_step (c := (true && (!decide ((s2 : Int) = 0) && (!decide ((s2 : Int) = 1) && (decide ((0 : Int) ≤ s1) && decide (s1 < nb_ln M s2)))))) rfl (by simp [h1, h2, h3, h4])
theorem q_m_layFirst_10 (l0 l1 l2 l3 : Int) (M : nb_M) (h1 : l0 ≠ 0) :
    nb_R nb_P 124 10 [(20, l0), (3, l1), (0, l2), (0, l3)] [] M = (nb_R nb_P 123 0 [(20, l0), (0, l2), (98, 0)] [] M).bind fun r => nb_R nb_P 124 11 [(20, l0), (3, l1), (0, l2), (0, l3)] (r.1 ++ [(0, nb_add l3 3), (3, l1)]) r.2 :=
  nb_stepC (c := true) (L2 := [(20, l0), (3, l1), (0, l2), (0, l3)]) (S2 := [(0, l2), (20, l0), (0, nb_add l3 3), (3, l1)]) (M2 := M) (t := 11) (cl := 123) (vi := true) rfl rfl (nb_inv_eq (n := 2) rfl rfl rfl rfl rfl rfl (fun _ => h1) rfl)
theorem q_m_layFirst_11 (l0 l1 l2 l3 s0 s1 s2 : Int) (M : nb_M) (h1 : s2 ≠ 0) (h2 : s2 ≠ 1) (h3 : (0 : Int) ≤ s1) (h4 : s1 < nb_ln M s2) :
    nb_R nb_P 124 11 [(20, l0), (3, l1), (0, l2), (0, l3)] [(0, s0), (0, s1), (3, s2)] M = nb_R nb_P 124 12 [(20, l0), (3, l1), (0, l2), (0, l3)] [] (nb_wr M s2 s1 s0) :=
  nb_step (c := (true && (!decide ((s2 : Int) = 0) && (!decide ((s2 : Int) = 1) && (decide ((0 : Int) ≤ s1) && decide (s1 < nb_ln M s2)))))) rfl (by simp [h1, h2, h3, h4])
theorem q_m_layFirst_12 (l0 l1 l2 l3 : Int) (M : nb_M) (h1 : l1 ≠ 0) (h2 : l1 ≠ 1) (h3 : (0 : Int) ≤ nb_add l3 4) (h4 : nb_add l3 4 < nb_ln M l1) :
    nb_R nb_P 124 12 [(20, l0), (3, l1), (0, l2), (0, l3)] [] M = nb_R nb_P 124 13 [(20, l0), (3, l1), (0, l2), (0, l3)] [] (nb_wr M l1 (nb_add l3 4) ((-2))) :=
  nb_step (c := (true && (!decide ((l1 : Int) = 0) && (!decide ((l1 : Int) = 1) && (decide ((0 : Int) ≤ nb_add l3 4) && decide (nb_add l3 4 < nb_ln M l1)))))) rfl (by simp [h1, h2, h3, h4])
theorem q_m_layFirst_13 (l0 l1 l2 l3 : Int) (M : nb_M) (h1 : l1 ≠ 0) (h2 : l1 ≠ 1) (h3 : (0 : Int) ≤ nb_add l3 5) (h4 : nb_add l3 5 < nb_ln M l1) :
    nb_R nb_P 124 13 [(20, l0), (3, l1), (0, l2), (0, l3)] [] M = nb_R nb_P 124 14 [(20, l0), (3, l1), (0, l2), (0, l3)] [] (nb_wr M l1 (nb_add l3 5) ((-2))) :=
  nb_step (c := (true && (!decide ((l1 : Int) = 0) && (!decide ((l1 : Int) = 1) && (decide ((0 : Int) ≤ nb_add l3 5) && decide (nb_add l3 5 < nb_ln M l1)))))) rfl (by simp [h1, h2, h3, h4])
theorem q_m_layFirst_14 (l0 l1 l2 l3 : Int) (M : nb_M) (h1 : l1 ≠ 0) (h2 : l1 ≠ 1) (h3 : (0 : Int) ≤ nb_add l3 6) (h4 : nb_add l3 6 < nb_ln M l1) :
    nb_R nb_P 124 14 [(20, l0), (3, l1), (0, l2), (0, l3)] [] M = nb_R nb_P 124 15 [(20, l0), (3, l1), (0, l2), (0, l3)] [] (nb_wr M l1 (nb_add l3 6) ((-2))) :=
  nb_step (c := (true && (!decide ((l1 : Int) = 0) && (!decide ((l1 : Int) = 1) && (decide ((0 : Int) ≤ nb_add l3 6) && decide (nb_add l3 6 < nb_ln M l1)))))) rfl (by simp [h1, h2, h3, h4])
theorem q_m_layFirst_15 (l0 l1 l2 l3 : Int) (M : nb_M) (h1 : l1 ≠ 0) (h2 : l1 ≠ 1) (h3 : (0 : Int) ≤ nb_add l3 7) (h4 : nb_add l3 7 < nb_ln M l1) :
    nb_R nb_P 124 15 [(20, l0), (3, l1), (0, l2), (0, l3)] [] M = nb_R nb_P 124 16 [(20, l0), (3, l1), (0, l2), (0, l3)] [] (nb_wr M l1 (nb_add l3 7) ((-2))) :=
  nb_step (c := (true && (!decide ((l1 : Int) = 0) && (!decide ((l1 : Int) = 1) && (decide ((0 : Int) ≤ nb_add l3 7) && decide (nb_add l3 7 < nb_ln M l1)))))) rfl (by simp [h1, h2, h3, h4])
theorem q_m_layFirst_16 (l0 l1 l2 : Int) (v3 : nb_V) (M : nb_M) :
    nb_R nb_P 124 16 [(20, l0), (3, l1), (0, l2), v3] [] M = nb_R nb_P 124 5 [(20, l0), (3, l1), (0, nb_add l2 1), v3] [] M :=
  nb_step (c := true) rfl rfl
theorem q_m_layFirst_17 (l0 l1 : Int) (v2 v3 : nb_V) (M : nb_M) :
    nb_R nb_P 124 17 [(20, l0), (3, l1), v2, v3] [] M = nb_R nb_P 124 18 [(20, l0), (3, l1), (0, 0), v3] [] M :=
  nb_step (c := true) rfl rfl
theorem q_m_layFirst_18 (l0 l1 l2 : Int) (v3 : nb_V) (M : nb_M) (h1 : l0 ≠ 0) :
    nb_R nb_P 124 18 [(20, l0), (3, l1), (0, l2), v3] [] M = if l2 < nb_rd M l0 25 then nb_R nb_P 124 19 [(20, l0), (3, l1), (0, l2), v3] [] M else nb_R nb_P 124 21 [(20, l0), (3, l1), (0, l2), v3] [] M :=
  nb_step (c := (true && !decide ((l0 : Int) = 0))) rfl (by simp [h1])
theorem q_m_layFirst_19 (l0 l1 l2 : Int) (v3 : nb_V) (M : nb_M) (h1 : l0 ≠ 0) (h2 : (nb_rd M l0 23) ≠ 0) (h3 : (0 : Int) ≤ nb_add (nb_mul 6 l2) 1) (h4 : nb_add (nb_mul 6 l2) 1 < nb_ln M (nb_rd M l0 23)) (h5 : l1 ≠ 0) (h6 : l1 ≠ 1) (h7 : (0 : Int) ≤ nb_add 92 (nb_mul 4 l2)) (h8 : nb_add 92 (nb_mul 4 l2) < nb_ln M l1) :
    nb_R nb_P 124 19 [(20, l0), (3, l1), (0, l2), v3] [] M = nb_R nb_P 124 20 [(20, l0), (3, l1), (0, l2), v3] [] (nb_wr M l1 (nb_add 92 (nb_mul 4 l2)) (nb_rd M (nb_rd M l0 23) (nb_add (nb_mul 6 l2) 1))) :=
  nb_step (c := (((true && !decide ((l0 : Int) = 0)) && (!decide ((nb_rd M l0 23 : Int) = 0) && (decide ((0 : Int) ≤ nb_add (nb_mul 6 l2) 1) && decide (nb_add (nb_mul 6 l2) 1 < nb_ln M (nb_rd M l0 23))))) && (!decide ((l1 : Int) = 0) && (!decide ((l1 : Int) = 1) && (decide ((0 : Int) ≤ nb_add 92 (nb_mul 4 l2)) && decide (nb_add 92 (nb_mul 4 l2) < nb_ln M l1)))))) rfl (by simp [h1, h2, h3, h4, h5, h6, h7, h8])
theorem q_m_layFirst_20 (l0 l1 l2 : Int) (v3 : nb_V) (M : nb_M) :
    nb_R nb_P 124 20 [(20, l0), (3, l1), (0, l2), v3] [] M = nb_R nb_P 124 18 [(20, l0), (3, l1), (0, nb_add l2 1), v3] [] M :=
  nb_step (c := true) rfl rfl
theorem q_m_layFirst_21 (v0 v1 v2 v3 : nb_V) (M : nb_M) :
    nb_R nb_P 124 21 [v0, v1, v2, v3] [] M = some ([], M) :=
  nb_step (c := true) rfl rfl
theorem q_m_isWaiting_0 (l0 l1 : Int) (M : nb_M) :
    nb_R nb_P 126 0 [(3, l0), (0, l1)] [] M = (nb_R nb_P 125 0 [(3, l0), (0, l1), (0, 0)] [] M).bind fun r => nb_R nb_P 126 1 [(3, l0), (0, l1)] (r.1 ++ []) r.2 :=
  nb_stepC (c := true) (L2 := [(3, l0), (0, l1)]) (S2 := [(0, 0), (0, l1), (3, l0)]) (M2 := M) (t := 1) (cl := 125) (vi := false) rfl rfl (nb_inv_eq (n := 3) rfl rfl rfl rfl rfl rfl (fun h => by cases h) rfl)
theorem q_m_isWaiting_1 (s0 : Int) (v0 v1 : nb_V) (M : nb_M) :
    nb_R nb_P 126 1 [v0, v1] [(0, s0)] M = if s0 = 1 then nb_R nb_P 126 2 [v0, v1] [] M else nb_R nb_P 126 3 [v0, v1] [] M :=
  nb_step (c := true) rfl rfl
theorem q_m_isWaiting_2 (v0 v1 : nb_V) (M : nb_M) :
    nb_R nb_P 126 2 [v0, v1] [] M = nb_R nb_P 126 4 [v0, v1] [(0, 1)] M :=
  nb_step (c := true) rfl rfl
theorem q_m_isWaiting_3 (v0 v1 : nb_V) (M : nb_M) :
    nb_R nb_P 126 3 [v0, v1] [] M = nb_R nb_P 126 4 [v0, v1] [(0, 0)] M :=
  nb_step (c := true) rfl rfl
theorem q_m_isWaiting_4 (s0 : Int) (v0 v1 : nb_V) (M : nb_M) :
    nb_R nb_P 126 4 [v0, v1] [(0, s0)] M = some ([(0, nb_i2z s0)], M) :=
  nb_step (c := true) rfl rfl
theorem q_m_timeOf_0 (l0 l1 l2 l3 : Int) (v4 : nb_V) (M : nb_M) (h1 : l1 ≠ 0) (h2 : (0 : Int) ≤ nb_add (nb_add 92 (nb_mul 4 l2)) 3) (h3 : nb_add (nb_add 92 (nb_mul 4 l2)) 3 < nb_ln M l1) (h4 : l0 ≠ 0) :
    nb_R nb_P 128 0 [(20, l0), (3, l1), (0, l2), (0, l3), v4] [] M = (nb_R nb_P 129 0 [(20, l0), (0, nb_sub (nb_rd M l1 (nb_add (nb_add 92 (nb_mul 4 l2)) 3)) 1), (0, l3), (98, 0), (98, 0), (98, 0), (98, 0)] [] M).bind fun r => nb_R nb_P 128 1 [(20, l0), (3, l1), (0, l2), (0, l3), (0, nb_sub (nb_rd M l1 (nb_add (nb_add 92 (nb_mul 4 l2)) 3)) 1)] (r.1 ++ []) r.2 :=
  nb_stepC (c := (true && (!decide ((l1 : Int) = 0) && (decide ((0 : Int) ≤ nb_add (nb_add 92 (nb_mul 4 l2)) 3) && decide (nb_add (nb_add 92 (nb_mul 4 l2)) 3 < nb_ln M l1))))) (L2 := [(20, l0), (3, l1), (0, l2), (0, l3), (0, nb_sub (nb_rd M l1 (nb_add (nb_add 92 (nb_mul 4 l2)) 3)) 1)]) (S2 := [(0, l3), (0, nb_sub (nb_rd M l1 (nb_add (nb_add 92 (nb_mul 4 l2)) 3)) 1), (20, l0)]) (M2 := M) (t := 1) (cl := 129) (vi := true) rfl (by simp [h1, h2, h3, h4]) (nb_inv_eq (n := 3) rfl rfl rfl rfl rfl rfl (fun _ => h4) rfl)
theorem q_m_timeOf_1 (s0 : Int) (v0 v1 v2 v3 v4 : nb_V) (M : nb_M) :
    nb_R nb_P 128 1 [v0, v1, v2, v3, v4] [(0, s0)] M = some ([(0, s0)], M) :=
  nb_step (c := true) rfl rfl
theorem q_m_turn_0 (l0 l1 l2 l3 : Int) (v4 v5 : nb_V) (M : nb_M) (h1 : l1 ≠ 0) (h2 : (0 : Int) ≤ nb_add 92 (nb_mul 4 l2)) (h3 : nb_add 92 (nb_mul 4 l2) < nb_ln M l1) :
    nb_R nb_P 130 0 [(20, l0), (3, l1), (0, l2), (0, l3), v4, v5] [] M = (nb_R nb_P 125 0 [(3, l1), (0, l3), (0, 1)] [] M).bind fun r => nb_R nb_P 130 1 [(20, l0), (3, l1), (0, l2), (0, l3), (0, nb_rd M l1 (nb_add 92 (nb_mul 4 l2))), v5] (r.1 ++ []) r.2 :=
  nb_stepC (c := (true && (!decide ((l1 : Int) = 0) && (decide ((0 : Int) ≤ nb_add 92 (nb_mul 4 l2)) && decide (nb_add 92 (nb_mul 4 l2) < nb_ln M l1))))) (L2 := [(20, l0), (3, l1), (0, l2), (0, l3), (0, nb_rd M l1 (nb_add 92 (nb_mul 4 l2))), v5]) (S2 := [(0, 1), (0, l3), (3, l1)]) (M2 := M) (t := 1) (cl := 125) (vi := false) rfl (by simp [h1, h2, h3]) (nb_inv_eq (n := 3) rfl rfl rfl rfl rfl rfl (fun h => by cases h) rfl)
set_option maxRecDepth 10000 in
theorem q_m_turn_1 (l0 l1 l2 l3 l4 s0 : Int) (v5 : nb_V) (M : nb_M) (h1 : l0 ≠ 0) (h2 : (nb_rd M l0 23) ≠ 0) (h3 : (0 : Int) ≤ nb_add (nb_mul 6 l2) 0) (h4 : nb_add (nb_mul 6 l2) 0 < nb_ln M (nb_rd M l0 23)) :
    nb_R nb_P 130 1 [(20, l0), (3, l1), (0, l2), (0, l3), (0, l4), v5] [(0, s0)] M = if nb_rd M (nb_rd M l0 23) (nb_add (nb_mul 6 l2) 0) = 0 then nb_R nb_P 130 2 [(20, l0), (3, l1), (0, l2), (0, l3), (0, l4), (0, s0)] [] M else if nb_rd M (nb_rd M l0 23) (nb_add (nb_mul 6 l2) 0) = 1 then nb_R nb_P 130 6 [(20, l0), (3, l1), (0, l2), (0, l3), (0, l4), (0, s0)] [] M else if nb_rd M (nb_rd M l0 23) (nb_add (nb_mul 6 l2) 0) = 2 then nb_R nb_P 130 11 [(20, l0), (3, l1), (0, l2), (0, l3), (0, l4), (0, s0)] [] M else if nb_rd M (nb_rd M l0 23) (nb_add (nb_mul 6 l2) 0) = 3 then nb_R nb_P 130 13 [(20, l0), (3, l1), (0, l2), (0, l3), (0, l4), (0, s0)] [] M else nb_R nb_P 130 15 [(20, l0), (3, l1), (0, l2), (0, l3), (0, l4), (0, s0)] [] M :=
  nb_step (c := ((true && !decide ((l0 : Int) = 0)) && (!decide ((nb_rd M l0 23 : Int) = 0) && (decide ((0 : Int) ≤ nb_add (nb_mul 6 l2) 0) && decide (nb_add (nb_mul 6 l2) 0 < nb_ln M (nb_rd M l0 23)))))) rfl (by simp [h1, h2, h3, h4])
theorem q_m_turn_2 (l4 l5 : Int) (v0 v1 v2 v3 : nb_V) (M : nb_M) :
    nb_R nb_P 130 2 [v0, v1, v2, v3, (0, l4), (0, l5)] [] M = if l5 < l4 then nb_R nb_P 130 4 [v0, v1, v2, v3, (0, l4), (0, l5)] [] M else nb_R nb_P 130 3 [v0, v1, v2, v3, (0, l4), (0, l5)] [] M :=
  nb_step (c := true) rfl rfl
theorem q_m_turn_3 (l4 l5 : Int) (v0 v1 v2 v3 : nb_V) (M : nb_M) :
    nb_R nb_P 130 3 [v0, v1, v2, v3, (0, l4), (0, l5)] [] M = nb_R nb_P 130 5 [v0, v1, v2, v3, (0, l4), (0, l5)] [(0, nb_sub l5 l4)] M :=
  nb_step (c := true) rfl rfl
theorem q_m_turn_4 (l5 : Int) (v0 v1 v2 v3 v4 : nb_V) (M : nb_M) :
    nb_R nb_P 130 4 [v0, v1, v2, v3, v4, (0, l5)] [] M = nb_R nb_P 130 5 [v0, v1, v2, v3, v4, (0, l5)] [(0, nb_add 1000000 l5)] M :=
  nb_step (c := true) rfl rfl
theorem q_m_turn_5 (s0 : Int) (v0 v1 v2 v3 v4 v5 : nb_V) (M : nb_M) :
    nb_R nb_P 130 5 [v0, v1, v2, v3, v4, v5] [(0, s0)] M = some ([(0, s0)], M) :=
  nb_step (c := true) rfl rfl
theorem q_m_turn_6 (l4 l5 : Int) (v0 v1 v2 v3 : nb_V) (M : nb_M) :
    nb_R nb_P 130 6 [v0, v1, v2, v3, (0, l4), (0, l5)] [] M = (nb_R nb_P 127 0 [(0, l5), (0, l4)] [] M).bind fun r => nb_R nb_P 130 7 [v0, v1, v2, v3, (0, l4), (0, l5)] (r.1 ++ [(0, 2)]) r.2 :=
  nb_stepC (c := true) (L2 := [v0, v1, v2, v3, (0, l4), (0, l5)]) (S2 := [(0, l4), (0, l5), (0, 2)]) (M2 := M) (t := 7) (cl := 127) (vi := false) rfl rfl (nb_inv_eq (n := 2) rfl rfl rfl rfl rfl rfl (fun h => by cases h) rfl)
theorem q_m_turn_7 (l4 l5 s0 s1 : Int) (v0 v1 v2 v3 : nb_V) (M : nb_M) :
    nb_R nb_P 130 7 [v0, v1, v2, v3, (0, l4), (0, l5)] [(0, s0), (0, s1)] M = if l4 < l5 then nb_R nb_P 130 8 [v0, v1, v2, v3, (0, l4), (0, l5)] [(0, nb_mul s1 s0)] M else nb_R nb_P 130 9 [v0, v1, v2, v3, (0, l4), (0, l5)] [(0, nb_mul s1 s0)] M :=
  nb_step (c := true) rfl rfl
theorem q_m_turn_8 (s0 : Int) (v0 v1 v2 v3 v4 v5 : nb_V) (M : nb_M) :
    nb_R nb_P 130 8 [v0, v1, v2, v3, v4, v5] [(0, s0)] M = nb_R nb_P 130 10 [v0, v1, v2, v3, v4, v5] [(0, 1), (0, s0)] M :=
  nb_step (c := true) rfl rfl
theorem q_m_turn_9 (s0 : Int) (v0 v1 v2 v3 v4 v5 : nb_V) (M : nb_M) :
    nb_R nb_P 130 9 [v0, v1, v2, v3, v4, v5] [(0, s0)] M = nb_R nb_P 130 10 [v0, v1, v2, v3, v4, v5] [(0, 0), (0, s0)] M :=
  nb_step (c := true) rfl rfl
theorem q_m_turn_10 (s0 s1 : Int) (v0 v1 v2 v3 v4 v5 : nb_V) (M : nb_M) :
    nb_R nb_P 130 10 [v0, v1, v2, v3, v4, v5] [(0, s0), (0, s1)] M = some ([(0, nb_add s1 s0)], M) :=
  nb_step (c := true) rfl rfl
theorem q_m_turn_11 (l1 l3 : Int) (v0 v2 v4 v5 : nb_V) (M : nb_M) :
    nb_R nb_P 130 11 [v0, (3, l1), v2, (0, l3), v4, v5] [] M = (nb_R nb_P 125 0 [(3, l1), (0, l3), (0, 2)] [] M).bind fun r => nb_R nb_P 130 12 [v0, (3, l1), v2, (0, l3), v4, v5] (r.1 ++ []) r.2 :=
  nb_stepC (c := true) (L2 := [v0, (3, l1), v2, (0, l3), v4, v5]) (S2 := [(0, 2), (0, l3), (3, l1)]) (M2 := M) (t := 12) (cl := 125) (vi := false) rfl rfl (nb_inv_eq (n := 3) rfl rfl rfl rfl rfl rfl (fun h => by cases h) rfl)
theorem q_m_turn_12 (s0 : Int) (v0 v1 v2 v3 v4 v5 : nb_V) (M : nb_M) :
    nb_R nb_P 130 12 [v0, v1, v2, v3, v4, v5] [(0, s0)] M = some ([(0, nb_neg s0)], M) :=
  nb_step (c := true) rfl rfl
theorem q_m_turn_13 (l1 l3 : Int) (v0 v2 v4 v5 : nb_V) (M : nb_M) :
    nb_R nb_P 130 13 [v0, (3, l1), v2, (0, l3), v4, v5] [] M = (nb_R nb_P 125 0 [(3, l1), (0, l3), (0, 3)] [] M).bind fun r => nb_R nb_P 130 14 [v0, (3, l1), v2, (0, l3), v4, v5] (r.1 ++ []) r.2 :=
  nb_stepC (c := true) (L2 := [v0, (3, l1), v2, (0, l3), v4, v5]) (S2 := [(0, 3), (0, l3), (3, l1)]) (M2 := M) (t := 14) (cl := 125) (vi := false) rfl rfl (nb_inv_eq (n := 3) rfl rfl rfl rfl rfl rfl (fun h => by cases h) rfl)
theorem q_m_turn_14 (s0 : Int) (v0 v1 v2 v3 v4 v5 : nb_V) (M : nb_M) :
    nb_R nb_P 130 14 [v0, v1, v2, v3, v4, v5] [(0, s0)] M = some ([(0, s0)], M) :=
  nb_step (c := true) rfl rfl
theorem q_m_turn_15 (l0 l3 : Int) (v1 v2 v4 v5 : nb_V) (M : nb_M) (h1 : l0 ≠ 0) :
    nb_R nb_P 130 15 [(20, l0), v1, v2, (0, l3), v4, v5] [] M = (nb_R nb_P 122 0 [(20, l0), (0, l3), (0, 0)] [] M).bind fun r => nb_R nb_P 130 16 [(20, l0), v1, v2, (0, l3), v4, v5] (r.1 ++ []) r.2 :=
  nb_stepC (c := true) (L2 := [(20, l0), v1, v2, (0, l3), v4, v5]) (S2 := [(0, 0), (0, l3), (20, l0)]) (M2 := M) (t := 16) (cl := 122) (vi := true) rfl rfl (nb_inv_eq (n := 3) rfl rfl rfl rfl rfl rfl (fun _ => h1) rfl)
theorem q_m_turn_16 (s0 : Int) (v0 v1 v2 v3 v4 v5 : nb_V) (M : nb_M) :
    nb_R nb_P 130 16 [v0, v1, v2, v3, v4, v5] [(0, s0)] M = if s0 = 3 then nb_R nb_P 130 17 [v0, v1, v2, v3, v4, v5] [] M else nb_R nb_P 130 18 [v0, v1, v2, v3, v4, v5] [] M :=
  nb_step (c := true) rfl rfl
theorem q_m_turn_17 (v0 v1 v2 v3 v4 v5 : nb_V) (M : nb_M) :
    nb_R nb_P 130 17 [v0, v1, v2, v3, v4, v5] [] M = nb_R nb_P 130 19 [v0, v1, v2, v3, v4, v5] [(0, 0)] M :=
  nb_step (c := true) rfl rfl
theorem q_m_turn_18 (v0 v1 v2 v3 v4 v5 : nb_V) (M : nb_M) :
    nb_R nb_P 130 18 [v0, v1, v2, v3, v4, v5] [] M = nb_R nb_P 130 19 [v0, v1, v2, v3, v4, v5] [(0, 1)] M :=
  nb_step (c := true) rfl rfl
theorem q_m_turn_19 (s0 : Int) (v0 v1 v2 v3 v4 v5 : nb_V) (M : nb_M) :
    nb_R nb_P 130 19 [v0, v1, v2, v3, v4, v5] [(0, s0)] M = some ([(0, s0)], M) :=
  nb_step (c := true) rfl rfl
theorem q_m_second_0 (l0 l1 : Int) (v2 v3 v4 v5 : nb_V) (M : nb_M) (h1 : l1 ≠ 0) (h2 : (0 : Int) ≤ 0) (h3 : 0 < nb_ln M l1) :
    nb_R nb_P 132 0 [(20, l0), (3, l1), v2, v3, v4, v5] [] M = nb_R nb_P 132 1 [(20, l0), (3, l1), (0, nb_rd M l1 0), (0, 0), v4, v5] [] M :=
  nb_step (c := (true && (!decide ((l1 : Int) = 0) && (decide ((0 : Int) ≤ 0) && decide (0 < nb_ln M l1))))) rfl (by simp [h1, h2, h3])
theorem q_m_second_1 (l0 l1 l2 l3 : Int) (v4 v5 : nb_V) (M : nb_M) (h1 : l0 ≠ 0) (h2 : (nb_rd M l0 15) ≠ 0) (h3 : (0 : Int) ≤ 5) (h4 : 5 < nb_ln M (nb_rd M l0 15)) :
    nb_R nb_P 132 1 [(20, l0), (3, l1), (0, l2), (0, l3), v4, v5] [] M = if l3 < nb_rd M (nb_rd M l0 15) 5 then nb_R nb_P 132 2 [(20, l0), (3, l1), (0, l2), (0, l3), v4, v5] [] M else nb_R nb_P 132 21 [(20, l0), (3, l1), (0, l2), (0, l3), v4, v5] [] M :=
  nb_step (c := ((true && !decide ((l0 : Int) = 0)) && (!decide ((nb_rd M l0 15 : Int) = 0) && (decide ((0 : Int) ≤ 5) && decide (5 < nb_ln M (nb_rd M l0 15)))))) rfl (by simp [h1, h2, h3, h4])
theorem q_m_second_2 (l0 l1 l2 l3 : Int) (v4 v5 : nb_V) (M : nb_M) (h1 : l1 ≠ 0) (h2 : (0 : Int) ≤ nb_add (nb_add 12 (nb_mul 8 l3)) 0) (h3 : nb_add (nb_add 12 (nb_mul 8 l3)) 0 < nb_ln M l1) :
    nb_R nb_P 132 2 [(20, l0), (3, l1), (0, l2), (0, l3), v4, v5] [] M = if nb_rd M l1 (nb_add (nb_add 12 (nb_mul 8 l3)) 0) = 0 then nb_R nb_P 132 3 [(20, l0), (3, l1), (0, l2), (0, l3), (0, nb_add 12 (nb_mul 8 l3)), v5] [] M else nb_R nb_P 132 6 [(20, l0), (3, l1), (0, l2), (0, l3), (0, nb_add 12 (nb_mul 8 l3)), v5] [] M :=
  nb_step (c := (true && (!decide ((l1 : Int) = 0) && (decide ((0 : Int) ≤ nb_add (nb_add 12 (nb_mul 8 l3)) 0) && decide (nb_add (nb_add 12 (nb_mul 8 l3)) 0 < nb_ln M l1))))) rfl (by simp [h1, h2, h3])
theorem q_m_second_3 (l0 l1 l2 l3 l4 : Int) (v5 : nb_V) (M : nb_M) (h1 : l0 ≠ 0) :
    nb_R nb_P 132 3 [(20, l0), (3, l1), (0, l2), (0, l3), (0, l4), v5] [] M = (nb_R nb_P 122 0 [(20, l0), (0, l3), (0, 2)] [] M).bind fun r => nb_R nb_P 132 4 [(20, l0), (3, l1), (0, l2), (0, l3), (0, l4), v5] (r.1 ++ []) r.2 :=
  nb_stepC (c := true) (L2 := [(20, l0), (3, l1), (0, l2), (0, l3), (0, l4), v5]) (S2 := [(0, 2), (0, l3), (20, l0)]) (M2 := M) (t := 4) (cl := 122) (vi := true) rfl rfl (nb_inv_eq (n := 3) rfl rfl rfl rfl rfl rfl (fun _ => h1) rfl)
theorem q_m_second_4 (l0 l1 l2 l3 l4 s0 : Int) (v5 : nb_V) (M : nb_M) :
    nb_R nb_P 132 4 [(20, l0), (3, l1), (0, l2), (0, l3), (0, l4), v5] [(0, s0)] M = if s0 = l2 then nb_R nb_P 132 5 [(20, l0), (3, l1), (0, l2), (0, l3), (0, l4), v5] [] M else nb_R nb_P 132 6 [(20, l0), (3, l1), (0, l2), (0, l3), (0, l4), v5] [] M :=
  nb_step (c := true) rfl rfl
theorem q_m_second_5 (l0 l1 l2 l3 l4 : Int) (v5 : nb_V) (M : nb_M) (h1 : l1 ≠ 0) (h2 : l1 ≠ 1) (h3 : (0 : Int) ≤ nb_add l4 0) (h4 : nb_add l4 0 < nb_ln M l1) :
    nb_R nb_P 132 5 [(20, l0), (3, l1), (0, l2), (0, l3), (0, l4), v5] [] M = nb_R nb_P 132 6 [(20, l0), (3, l1), (0, l2), (0, l3), (0, l4), v5] [] (nb_wr M l1 (nb_add l4 0) 1) :=
  nb_step (c := (true && (!decide ((l1 : Int) = 0) && (!decide ((l1 : Int) = 1) && (decide ((0 : Int) ≤ nb_add l4 0) && decide (nb_add l4 0 < nb_ln M l1)))))) rfl (by simp [h1, h2, h3, h4])
theorem q_m_second_6 (l0 l1 l2 l3 l4 : Int) (v5 : nb_V) (M : nb_M) (h1 : l1 ≠ 0) (h2 : (0 : Int) ≤ nb_add l4 0) (h3 : nb_add l4 0 < nb_ln M l1) :
    nb_R nb_P 132 6 [(20, l0), (3, l1), (0, l2), (0, l3), (0, l4), v5] [] M = if nb_rd M l1 (nb_add l4 0) = 1 then nb_R nb_P 132 8 [(20, l0), (3, l1), (0, l2), (0, l3), (0, l4), v5] [] M else nb_R nb_P 132 7 [(20, l0), (3, l1), (0, l2), (0, l3), (0, l4), v5] [] M :=
  nb_step (c := (true && (!decide ((l1 : Int) = 0) && (decide ((0 : Int) ≤ nb_add l4 0) && decide (nb_add l4 0 < nb_ln M l1))))) rfl (by simp [h1, h2, h3])
theorem q_m_second_7 (l0 l1 l2 l3 : Int) (v4 v5 : nb_V) (M : nb_M) :
    nb_R nb_P 132 7 [(20, l0), (3, l1), (0, l2), (0, l3), v4, v5] [] M = nb_R nb_P 132 20 [(20, l0), (3, l1), (0, l2), (0, l3), v4, v5] [] M :=
  nb_step (c := true) rfl rfl
theorem q_m_second_8 (l0 l1 l2 l3 l4 : Int) (v5 : nb_V) (M : nb_M) (h1 : l0 ≠ 0) :
    nb_R nb_P 132 8 [(20, l0), (3, l1), (0, l2), (0, l3), (0, l4), v5] [] M = (nb_R nb_P 122 0 [(20, l0), (0, l3), (0, 6)] [] M).bind fun r => nb_R nb_P 132 9 [(20, l0), (3, l1), (0, l2), (0, l3), (0, l4), v5] (r.1 ++ []) r.2 :=
  nb_stepC (c := true) (L2 := [(20, l0), (3, l1), (0, l2), (0, l3), (0, l4), v5]) (S2 := [(0, 6), (0, l3), (20, l0)]) (M2 := M) (t := 9) (cl := 122) (vi := true) rfl rfl (nb_inv_eq (n := 3) rfl rfl rfl rfl rfl rfl (fun _ => h1) rfl)
theorem q_m_second_9 (l0 l1 l2 l3 l4 s0 : Int) (v5 : nb_V) (M : nb_M) :
    nb_R nb_P 132 9 [(20, l0), (3, l1), (0, l2), (0, l3), (0, l4), v5] [(0, s0)] M = if nb_sub s0 1 < 0 then nb_R nb_P 132 15 [(20, l0), (3, l1), (0, l2), (0, l3), (0, l4), (0, nb_sub s0 1)] [] M else nb_R nb_P 132 10 [(20, l0), (3, l1), (0, l2), (0, l3), (0, l4), (0, nb_sub s0 1)] [] M :=
  nb_step (c := true) rfl rfl
theorem q_m_second_10 (l0 l1 l2 l3 l4 l5 : Int) (M : nb_M) :
    nb_R nb_P 132 10 [(20, l0), (3, l1), (0, l2), (0, l3), (0, l4), (0, l5)] [] M = if l2 < l5 then nb_R nb_P 132 15 [(20, l0), (3, l1), (0, l2), (0, l3), (0, l4), (0, l5)] [] M else nb_R nb_P 132 11 [(20, l0), (3, l1), (0, l2), (0, l3), (0, l4), (0, l5)] [] M :=
  nb_step (c := true) rfl rfl
theorem q_m_second_11 (l0 l1 l2 l3 l4 : Int) (v5 : nb_V) (M : nb_M) (h1 : l1 ≠ 0) (h2 : l1 ≠ 1) (h3 : (0 : Int) ≤ nb_add l4 0) (h4 : nb_add l4 0 < nb_ln M l1) :
    nb_R nb_P 132 11 [(20, l0), (3, l1), (0, l2), (0, l3), (0, l4), v5] [] M = nb_R nb_P 132 12 [(20, l0), (3, l1), (0, l2), (0, l3), (0, l4), v5] [] (nb_wr M l1 (nb_add l4 0) 3) :=
  nb_step (c := (true && (!decide ((l1 : Int) = 0) && (!decide ((l1 : Int) = 1) && (decide ((0 : Int) ≤ nb_add l4 0) && decide (nb_add l4 0 < nb_ln M l1)))))) rfl (by simp [h1, h2, h3, h4])
theorem q_m_second_12 (l0 l1 l2 l3 l4 : Int) (v5 : nb_V) (M : nb_M) (h1 : l1 ≠ 0) (h2 : l1 ≠ 1) (h3 : (0 : Int) ≤ nb_add l4 5) (h4 : nb_add l4 5 < nb_ln M l1) :
    nb_R nb_P 132 12 [(20, l0), (3, l1), (0, l2), (0, l3), (0, l4), v5] [] M = nb_R nb_P 132 13 [(20, l0), (3, l1), (0, l2), (0, l3), (0, l4), v5] [] (nb_wr M l1 (nb_add l4 5) l2) :=
  nb_step (c := (true && (!decide ((l1 : Int) = 0) && (!decide ((l1 : Int) = 1) && (decide ((0 : Int) ≤ nb_add l4 5) && decide (nb_add l4 5 < nb_ln M l1)))))) rfl (by simp [h1, h2, h3, h4])
theorem q_m_second_13 (l0 l1 l2 l3 l4 : Int) (v5 : nb_V) (M : nb_M) (h1 : l1 ≠ 0) (h2 : l1 ≠ 1) (h3 : (0 : Int) ≤ nb_add l4 7) (h4 : nb_add l4 7 < nb_ln M l1) :
    nb_R nb_P 132 13 [(20, l0), (3, l1), (0, l2), (0, l3), (0, l4), v5] [] M = nb_R nb_P 132 14 [(20, l0), (3, l1), (0, l2), (0, l3), (0, l4), v5] [] (nb_wr M l1 (nb_add l4 7) l2) :=
  nb_step (c := (true && (!decide ((l1 : Int) = 0) && (!decide ((l1 : Int) = 1) && (decide ((0 : Int) ≤ nb_add l4 7) && decide (nb_add l4 7 < nb_ln M l1)))))) rfl (by simp [h1, h2, h3, h4])
theorem q_m_second_14 (l0 l1 l2 l3 : Int) (v4 v5 : nb_V) (M : nb_M) :
    nb_R nb_P 132 14 [(20, l0), (3, l1), (0, l2), (0, l3), v4, v5] [] M = nb_R nb_P 132 20 [(20, l0), (3, l1), (0, l2), (0, l3), v4, v5] [] M :=
  nb_step (c := true) rfl rfl
theorem q_m_second_15 (l0 l1 l2 l3 l4 : Int) (v5 : nb_V) (M : nb_M) (h1 : l0 ≠ 0) :
    nb_R nb_P 132 15 [(20, l0), (3, l1), (0, l2), (0, l3), (0, l4), v5] [] M = (nb_R nb_P 122 0 [(20, l0), (0, l3), (0, 2)] [] M).bind fun r => nb_R nb_P 132 16 [(20, l0), (3, l1), (0, l2), (0, l3), (0, l4), v5] (r.1 ++ [(0, l2)]) r.2 :=
  nb_stepC (c := true) (L2 := [(20, l0), (3, l1), (0, l2), (0, l3), (0, l4), v5]) (S2 := [(0, 2), (0, l3), (20, l0), (0, l2)]) (M2 := M) (t := 16) (cl := 122) (vi := true) rfl rfl (nb_inv_eq (n := 3) rfl rfl rfl rfl rfl rfl (fun _ => h1) rfl)
theorem q_m_second_16 (l0 l1 l2 l3 l4 s0 s1 : Int) (v5 : nb_V) (M : nb_M) (h1 : l0 ≠ 0) :
    nb_R nb_P 132 16 [(20, l0), (3, l1), (0, l2), (0, l3), (0, l4), v5] [(0, s0), (0, s1)] M = (nb_R nb_P 122 0 [(20, l0), (0, l3), (0, 4)] [] M).bind fun r => nb_R nb_P 132 17 [(20, l0), (3, l1), (0, l2), (0, l3), (0, l4), v5] (r.1 ++ [(0, nb_sub s1 s0)]) r.2 :=
  nb_stepC (c := true) (L2 := [(20, l0), (3, l1), (0, l2), (0, l3), (0, l4), v5]) (S2 := [(0, 4), (0, l3), (20, l0), (0, nb_sub s1 s0)]) (M2 := M) (t := 17) (cl := 122) (vi := true) rfl rfl (nb_inv_eq (n := 3) rfl rfl rfl rfl rfl rfl (fun _ => h1) rfl)
theorem q_m_second_17 (l0 l1 l2 l3 l4 s0 s1 : Int) (v5 : nb_V) (M : nb_M) :
    nb_R nb_P 132 17 [(20, l0), (3, l1), (0, l2), (0, l3), (0, l4), v5] [(0, s0), (0, s1)] M = if s1 < s0 then nb_R nb_P 132 20 [(20, l0), (3, l1), (0, l2), (0, l3), (0, l4), v5] [] M else nb_R nb_P 132 18 [(20, l0), (3, l1), (0, l2), (0, l3), (0, l4), v5] [] M :=
  nb_step (c := true) rfl rfl
theorem q_m_second_18 (l0 l1 l2 l3 l4 : Int) (v5 : nb_V) (M : nb_M) (h1 : l1 ≠ 0) (h2 : l1 ≠ 1) (h3 : (0 : Int) ≤ nb_add l4 0) (h4 : nb_add l4 0 < nb_ln M l1) :
    nb_R nb_P 132 18 [(20, l0), (3, l1), (0, l2), (0, l3), (0, l4), v5] [] M = nb_R nb_P 132 19 [(20, l0), (3, l1), (0, l2), (0, l3), (0, l4), v5] [] (nb_wr M l1 (nb_add l4 0) 4) :=
  nb_step (c := (true && (!decide ((l1 : Int) = 0) && (!decide ((l1 : Int) = 1) && (decide ((0 : Int) ≤ nb_add l4 0) && decide (nb_add l4 0 < nb_ln M l1)))))) rfl (by simp [h1, h2, h3, h4])
theorem q_m_second_19 (l0 l1 l2 l3 l4 : Int) (v5 : nb_V) (M : nb_M) (h1 : l1 ≠ 0) (h2 : l1 ≠ 1) (h3 : (0 : Int) ≤ nb_add l4 7) (h4 : nb_add l4 7 < nb_ln M l1) :
    nb_R nb_P 132 19 [(20, l0), (3, l1), (0, l2), (0, l3), (0, l4), v5] [] M = nb_R nb_P 132 20 [(20, l0), (3, l1), (0, l2), (0, l3), (0, l4), v5] [] (nb_wr M l1 (nb_add l4 7) l2) :=
  nb_step (c := (true && (!decide ((l1 : Int) = 0) && (!decide ((l1 : Int) = 1) && (decide ((0 : Int) ≤ nb_add l4 7) && decide (nb_add l4 7 < nb_ln M l1)))))) rfl (by simp [h1, h2, h3, h4])
theorem q_m_second_20 (l0 l1 l2 l3 : Int) (v4 v5 : nb_V) (M : nb_M) :
    nb_R nb_P 132 20 [(20, l0), (3, l1), (0, l2), (0, l3), v4, v5] [] M = nb_R nb_P 132 1 [(20, l0), (3, l1), (0, l2), (0, nb_add l3 1), v4, v5] [] M :=
  nb_step (c := true) rfl rfl
theorem q_m_second_21 (l0 l1 l2 : Int) (v3 v4 v5 : nb_V) (M : nb_M) :
    nb_R nb_P 132 21 [(20, l0), (3, l1), (0, l2), v3, v4, v5] [] M = nb_R nb_P 132 22 [(20, l0), (3, l1), (0, l2), (0, 0), v4, v5] [] M :=
  nb_step (c := true) rfl rfl
theorem q_m_second_22 (l0 l1 l2 l3 : Int) (v4 v5 : nb_V) (M : nb_M) (h1 : l0 ≠ 0) :
    nb_R nb_P 132 22 [(20, l0), (3, l1), (0, l2), (0, l3), v4, v5] [] M = if l3 < nb_rd M l0 25 then nb_R nb_P 132 23 [(20, l0), (3, l1), (0, l2), (0, l3), v4, v5] [] M else nb_R nb_P 132 29 [(20, l0), (3, l1), (0, l2), (0, l3), v4, v5] [] M :=
  nb_step (c := (true && !decide ((l0 : Int) = 0))) rfl (by simp [h1])
theorem q_m_second_23 (l0 l1 l2 l3 : Int) (v4 v5 : nb_V) (M : nb_M) :
    nb_R nb_P 132 23 [(20, l0), (3, l1), (0, l2), (0, l3), v4, v5] [] M = nb_R nb_P 132 24 [(20, l0), (3, l1), (0, l2), (0, l3), (0, 1), v5] [] M :=
  nb_step (c := true) rfl rfl
theorem q_m_second_24 (l0 l1 l2 l3 l4 : Int) (v5 : nb_V) (M : nb_M) (h1 : l0 ≠ 0) (h2 : (nb_rd M l0 23) ≠ 0) (h3 : (0 : Int) ≤ nb_add (nb_mul 6 l3) 5) (h4 : nb_add (nb_mul 6 l3) 5 < nb_ln M (nb_rd M l0 23)) :
    nb_R nb_P 132 24 [(20, l0), (3, l1), (0, l2), (0, l3), (0, l4), v5] [] M = if nb_rd M (nb_rd M l0 23) (nb_add (nb_mul 6 l3) 5) < l4 then nb_R nb_P 132 28 [(20, l0), (3, l1), (0, l2), (0, l3), (0, l4), v5] [] M else nb_R nb_P 132 25 [(20, l0), (3, l1), (0, l2), (0, l3), (0, l4), v5] [] M :=
  nb_step (c := ((true && !decide ((l0 : Int) = 0)) && (!decide ((nb_rd M l0 23 : Int) = 0) && (decide ((0 : Int) ≤ nb_add (nb_mul 6 l3) 5) && decide (nb_add (nb_mul 6 l3) 5 < nb_ln M (nb_rd M l0 23)))))) rfl (by simp [h1, h2, h3, h4])
theorem q_m_second_25 (l0 l1 l2 l3 l4 : Int) (v5 : nb_V) (M : nb_M) (h1 : l1 ≠ 0) (h2 : (0 : Int) ≤ nb_add (nb_add 92 (nb_mul 4 l3)) l4) (h3 : nb_add (nb_add 92 (nb_mul 4 l3)) l4 < nb_ln M l1) :
    nb_R nb_P 132 25 [(20, l0), (3, l1), (0, l2), (0, l3), (0, l4), v5] [] M = if l2 < nb_rd M l1 (nb_add (nb_add 92 (nb_mul 4 l3)) l4) then nb_R nb_P 132 27 [(20, l0), (3, l1), (0, l2), (0, l3), (0, l4), v5] [] M else nb_R nb_P 132 26 [(20, l0), (3, l1), (0, l2), (0, l3), (0, l4), v5] [] M :=
  nb_step (c := (true && (!decide ((l1 : Int) = 0) && (decide ((0 : Int) ≤ nb_add (nb_add 92 (nb_mul 4 l3)) l4) && decide (nb_add (nb_add 92 (nb_mul 4 l3)) l4 < nb_ln M l1))))) rfl (by simp [h1, h2, h3])
theorem q_m_second_26 (l0 l1 l2 l3 l4 : Int) (v5 : nb_V) (M : nb_M) (h1 : l0 ≠ 0) :
    nb_R nb_P 132 26 [(20, l0), (3, l1), (0, l2), (0, l3), (0, l4), v5] [] M = (nb_R nb_P 133 0 [(20, l0), (3, l1), (0, l3), (0, l4), (98, 0), (98, 0), (98, 0), (98, 0), (98, 0)] [] M).bind fun r => nb_R nb_P 132 27 [(20, l0), (3, l1), (0, l2), (0, l3), (0, l4), v5] (r.1 ++ []) r.2 :=
  nb_stepC (c := true) (L2 := [(20, l0), (3, l1), (0, l2), (0, l3), (0, l4), v5]) (S2 := [(0, l4), (0, l3), (3, l1), (20, l0)]) (M2 := M) (t := 27) (cl := 133) (vi := true) rfl rfl (nb_inv_eq (n := 4) rfl rfl rfl rfl rfl rfl (fun _ => h1) rfl)
theorem q_m_second_27 (l0 l1 l2 l3 l4 : Int) (v5 : nb_V) (M : nb_M) :
    nb_R nb_P 132 27 [(20, l0), (3, l1), (0, l2), (0, l3), (0, l4), v5] [] M = nb_R nb_P 132 24 [(20, l0), (3, l1), (0, l2), (0, l3), (0, nb_add l4 1), v5] [] M :=
  nb_step (c := true) rfl rfl
theorem q_m_second_28 (l0 l1 l2 l3 : Int) (v4 v5 : nb_V) (M : nb_M) :
    nb_R nb_P 132 28 [(20, l0), (3, l1), (0, l2), (0, l3), v4, v5] [] M = nb_R nb_P 132 22 [(20, l0), (3, l1), (0, l2), (0, nb_add l3 1), v4, v5] [] M :=
  nb_step (c := true) rfl rfl
theorem q_m_second_29 (l1 : Int) (v0 v2 v3 v4 v5 : nb_V) (M : nb_M) (h1 : l1 ≠ 0) (h2 : (0 : Int) ≤ 0) (h3 : 0 < nb_ln M l1) (h4 : l1 ≠ 1) :
    nb_R nb_P 132 29 [v0, (3, l1), v2, v3, v4, v5] [] M = nb_R nb_P 132 30 [v0, (3, l1), v2, v3, v4, v5] [] (nb_wr M l1 0 (nb_add (nb_rd M l1 0) 1)) :=
  nb_step (c := ((true && (!decide ((l1 : Int) = 0) && (decide ((0 : Int) ≤ 0) && decide (0 < nb_ln M l1)))) && (!decide ((l1 : Int) = 0) && (!decide ((l1 : Int) = 1) && (decide ((0 : Int) ≤ 0) && decide (0 < nb_ln M l1)))))) rfl (by simp [h1, h2, h3, h4])
theorem q_m_second_30 (v0 v1 v2 v3 v4 v5 : nb_V) (M : nb_M) :
    nb_R nb_P 132 30 [v0, v1, v2, v3, v4, v5] [] M = some ([], M) :=
  nb_step (c := true) rfl rfl
theorem q_m_evening_0 (l0 : Int) (M : nb_M) (h1 : l0 ≠ 0) :
    nb_R nb_P 134 0 [(20, l0)] [] M = (nb_R nb_P 86 0 [(3, nb_rd M l0 17), (0, 0), (3, nb_rd M l0 18), (0, 0), (0, 108), (98, 0)] [] M).bind fun r => nb_R nb_P 134 1 [(20, l0)] (r.1 ++ []) r.2 :=
  nb_stepC (c := ((true && !decide ((l0 : Int) = 0)) && !decide ((l0 : Int) = 0))) (L2 := [(20, l0)]) (S2 := [(0, 108), (0, 0), (3, nb_rd M l0 18), (0, 0), (3, nb_rd M l0 17)]) (M2 := M) (t := 1) (cl := 86) (vi := false) rfl (by simp [h1]) (nb_inv_eq (n := 5) rfl rfl rfl rfl rfl rfl (fun h => by cases h) rfl)
theorem q_m_evening_1 (l0 : Int) (M : nb_M) (h1 : l0 ≠ 0) (h2 : (nb_rd M l0 18) ≠ 0) (h3 : (0 : Int) ≤ 0) (h4 : 0 < nb_ln M (nb_rd M l0 18)) :
    nb_R nb_P 134 1 [(20, l0)] [] M = if nb_rd M l0 26 < nb_rd M (nb_rd M l0 18) 0 then nb_R nb_P 134 4 [(20, l0)] [] M else nb_R nb_P 134 2 [(20, l0)] [] M :=
  nb_step (c := (((true && !decide ((l0 : Int) = 0)) && (!decide ((nb_rd M l0 18 : Int) = 0) && (decide ((0 : Int) ≤ 0) && decide (0 < nb_ln M (nb_rd M l0 18))))) && !decide ((l0 : Int) = 0))) rfl (by simp [h1, h2, h3, h4])
theorem q_m_evening_2 (l0 : Int) (M : nb_M) (h1 : l0 ≠ 0) :
    nb_R nb_P 134 2 [(20, l0)] [] M = (nb_R nb_P 132 0 [(20, l0), (3, nb_rd M l0 18), (98, 0), (98, 0), (98, 0), (98, 0)] [] M).bind fun r => nb_R nb_P 134 3 [(20, l0)] (r.1 ++ []) r.2 :=
  nb_stepC (c := (true && !decide ((l0 : Int) = 0))) (L2 := [(20, l0)]) (S2 := [(3, nb_rd M l0 18), (20, l0)]) (M2 := M) (t := 3) (cl := 132) (vi := true) rfl (by simp [h1]) (nb_inv_eq (n := 2) rfl rfl rfl rfl rfl rfl (fun _ => h1) rfl)
theorem q_m_evening_3 (l0 : Int) (M : nb_M) :
    nb_R nb_P 134 3 [(20, l0)] [] M = nb_R nb_P 134 1 [(20, l0)] [] M :=
  nb_step (c := true) rfl rfl
theorem q_m_evening_4 (v0 : nb_V) (M : nb_M) :
    nb_R nb_P 134 4 [v0] [] M = some ([], M) :=
  nb_step (c := true) rfl rfl
theorem q_m_waitOf_0 (l0 l1 : Int) (v2 : nb_V) (M : nb_M) (h1 : l0 ≠ 0) :
    nb_R nb_P 136 0 [(20, l0), (0, l1), v2] [] M = (nb_R nb_P 135 0 [(20, l0), (0, l1)] [] M).bind fun r => nb_R nb_P 136 1 [(20, l0), (0, l1), v2] (r.1 ++ []) r.2 :=
  nb_stepC (c := true) (L2 := [(20, l0), (0, l1), v2]) (S2 := [(0, l1), (20, l0)]) (M2 := M) (t := 1) (cl := 135) (vi := true) rfl rfl (nb_inv_eq (n := 2) rfl rfl rfl rfl rfl rfl (fun _ => h1) rfl)
theorem q_m_waitOf_1 (l0 l1 s0 : Int) (v2 : nb_V) (M : nb_M) :
    nb_R nb_P 136 1 [(20, l0), (0, l1), v2] [(0, s0)] M = if s0 = 4 then nb_R nb_P 136 2 [(20, l0), (0, l1), v2] [] M else nb_R nb_P 136 3 [(20, l0), (0, l1), v2] [] M :=
  nb_step (c := true) rfl rfl
theorem q_m_waitOf_2 (v0 v1 v2 : nb_V) (M : nb_M) :
    nb_R nb_P 136 2 [v0, v1, v2] [] M = some ([(0, (-2))], M) :=
  nb_step (c := true) rfl rfl
theorem q_m_waitOf_3 (l0 l1 : Int) (v2 : nb_V) (M : nb_M) (h1 : l0 ≠ 0) :
    nb_R nb_P 136 3 [(20, l0), (0, l1), v2] [] M = (nb_R nb_P 125 0 [(3, nb_rd M l0 18), (0, l1), (0, 4)] [] M).bind fun r => nb_R nb_P 136 4 [(20, l0), (0, l1), v2] (r.1 ++ []) r.2 :=
  nb_stepC (c := (true && !decide ((l0 : Int) = 0))) (L2 := [(20, l0), (0, l1), v2]) (S2 := [(0, 4), (0, l1), (3, nb_rd M l0 18)]) (M2 := M) (t := 4) (cl := 125) (vi := false) rfl (by simp [h1]) (nb_inv_eq (n := 3) rfl rfl rfl rfl rfl rfl (fun h => by cases h) rfl)
theorem q_m_waitOf_4 (l0 l1 s0 : Int) (v2 : nb_V) (M : nb_M) :
    nb_R nb_P 136 4 [(20, l0), (0, l1), v2] [(0, s0)] M = if s0 = (-2) then nb_R nb_P 136 7 [(20, l0), (0, l1), v2] [] M else nb_R nb_P 136 5 [(20, l0), (0, l1), v2] [] M :=
  nb_step (c := true) rfl rfl
theorem q_m_waitOf_5 (l0 l1 : Int) (v2 : nb_V) (M : nb_M) (h1 : l0 ≠ 0) :
    nb_R nb_P 136 5 [(20, l0), (0, l1), v2] [] M = (nb_R nb_P 125 0 [(3, nb_rd M l0 18), (0, l1), (0, 4)] [] M).bind fun r => nb_R nb_P 136 6 [(20, l0), (0, l1), v2] (r.1 ++ []) r.2 :=
  nb_stepC (c := (true && !decide ((l0 : Int) = 0))) (L2 := [(20, l0), (0, l1), v2]) (S2 := [(0, 4), (0, l1), (3, nb_rd M l0 18)]) (M2 := M) (t := 6) (cl := 125) (vi := false) rfl (by simp [h1]) (nb_inv_eq (n := 3) rfl rfl rfl rfl rfl rfl (fun h => by cases h) rfl)
theorem q_m_waitOf_6 (l0 l1 s0 : Int) (v2 : nb_V) (M : nb_M) :
    nb_R nb_P 136 6 [(20, l0), (0, l1), v2] [(0, s0)] M = nb_R nb_P 136 12 [(20, l0), (0, l1), v2] [(0, s0)] M :=
  nb_step (c := true) rfl rfl
theorem q_m_waitOf_7 (l0 l1 : Int) (v2 : nb_V) (M : nb_M) (h1 : l0 ≠ 0) :
    nb_R nb_P 136 7 [(20, l0), (0, l1), v2] [] M = (nb_R nb_P 125 0 [(3, nb_rd M l0 18), (0, l1), (0, 7)] [] M).bind fun r => nb_R nb_P 136 8 [(20, l0), (0, l1), v2] (r.1 ++ []) r.2 :=
  nb_stepC (c := (true && !decide ((l0 : Int) = 0))) (L2 := [(20, l0), (0, l1), v2]) (S2 := [(0, 7), (0, l1), (3, nb_rd M l0 18)]) (M2 := M) (t := 8) (cl := 125) (vi := false) rfl (by simp [h1]) (nb_inv_eq (n := 3) rfl rfl rfl rfl rfl rfl (fun h => by cases h) rfl)
theorem q_m_waitOf_8 (l0 l1 s0 : Int) (v2 : nb_V) (M : nb_M) :
    nb_R nb_P 136 8 [(20, l0), (0, l1), v2] [(0, s0)] M = if s0 = (-2) then nb_R nb_P 136 11 [(20, l0), (0, l1), v2] [] M else nb_R nb_P 136 9 [(20, l0), (0, l1), v2] [] M :=
  nb_step (c := true) rfl rfl
theorem q_m_waitOf_9 (l0 l1 : Int) (v2 : nb_V) (M : nb_M) (h1 : l0 ≠ 0) :
    nb_R nb_P 136 9 [(20, l0), (0, l1), v2] [] M = (nb_R nb_P 125 0 [(3, nb_rd M l0 18), (0, l1), (0, 7)] [] M).bind fun r => nb_R nb_P 136 10 [(20, l0), (0, l1), v2] (r.1 ++ []) r.2 :=
  nb_stepC (c := (true && !decide ((l0 : Int) = 0))) (L2 := [(20, l0), (0, l1), v2]) (S2 := [(0, 7), (0, l1), (3, nb_rd M l0 18)]) (M2 := M) (t := 10) (cl := 125) (vi := false) rfl (by simp [h1]) (nb_inv_eq (n := 3) rfl rfl rfl rfl rfl rfl (fun h => by cases h) rfl)
theorem q_m_waitOf_10 (l0 l1 s0 : Int) (v2 : nb_V) (M : nb_M) :
    nb_R nb_P 136 10 [(20, l0), (0, l1), v2] [(0, s0)] M = nb_R nb_P 136 12 [(20, l0), (0, l1), v2] [(0, s0)] M :=
  nb_step (c := true) rfl rfl
theorem q_m_waitOf_11 (l0 l1 : Int) (v2 : nb_V) (M : nb_M) (h1 : l0 ≠ 0) :
    nb_R nb_P 136 11 [(20, l0), (0, l1), v2] [] M = nb_R nb_P 136 12 [(20, l0), (0, l1), v2] [(0, nb_rd M l0 26)] M :=
  nb_step (c := (true && !decide ((l0 : Int) = 0))) rfl (by simp [h1])
theorem q_m_waitOf_12 (l0 l1 s0 : Int) (v2 : nb_V) (M : nb_M) (h1 : l0 ≠ 0) :
    nb_R nb_P 136 12 [(20, l0), (0, l1), v2] [(0, s0)] M = (nb_R nb_P 122 0 [(20, l0), (0, l1), (0, 2)] [] M).bind fun r => nb_R nb_P 136 13 [(20, l0), (0, l1), (0, s0)] (r.1 ++ [(0, s0)]) r.2 :=
  nb_stepC (c := true) (L2 := [(20, l0), (0, l1), (0, s0)]) (S2 := [(0, 2), (0, l1), (20, l0), (0, s0)]) (M2 := M) (t := 13) (cl := 122) (vi := true) rfl rfl (nb_inv_eq (n := 3) rfl rfl rfl rfl rfl rfl (fun _ => h1) rfl)
theorem q_m_waitOf_13 (s0 s1 : Int) (v0 v1 v2 : nb_V) (M : nb_M) :
    nb_R nb_P 136 13 [v0, v1, v2] [(0, s0), (0, s1)] M = some ([(0, nb_sub s1 s0)], M) :=
  nb_step (c := true) rfl rfl
theorem q_m_passedOf_0 (l0 l1 : Int) (v2 v3 v4 v5 v6 : nb_V) (M : nb_M) :
    nb_R nb_P 138 0 [(20, l0), (0, l1), v2, v3, v4, v5, v6] [] M = nb_R nb_P 138 1 [(20, l0), (0, l1), (0, 0), (0, 0), v4, v5, v6] [] M :=
  nb_step (c := true) rfl rfl
theorem q_m_passedOf_1 (l0 l1 l2 l3 : Int) (v4 v5 v6 : nb_V) (M : nb_M) (h1 : l0 ≠ 0) (h2 : (nb_rd M l0 18) ≠ 0) (h3 : (0 : Int) ≤ 1) (h4 : 1 < nb_ln M (nb_rd M l0 18)) :
    nb_R nb_P 138 1 [(20, l0), (0, l1), (0, l2), (0, l3), v4, v5, v6] [] M = if l3 < nb_rd M (nb_rd M l0 18) 1 then nb_R nb_P 138 2 [(20, l0), (0, l1), (0, l2), (0, l3), v4, v5, v6] [] M else nb_R nb_P 138 18 [(20, l0), (0, l1), (0, l2), (0, l3), v4, v5, v6] [] M :=
  nb_step (c := ((true && !decide ((l0 : Int) = 0)) && (!decide ((nb_rd M l0 18 : Int) = 0) && (decide ((0 : Int) ≤ 1) && decide (1 < nb_ln M (nb_rd M l0 18)))))) rfl (by simp [h1, h2, h3, h4])
theorem q_m_passedOf_2 (l0 l1 l2 l3 : Int) (v4 v5 v6 : nb_V) (M : nb_M) (h1 : l0 ≠ 0) (h2 : (nb_rd M l0 18) ≠ 0) (h3 : (0 : Int) ≤ nb_add 2 l3) (h4 : nb_add 2 l3 < nb_ln M (nb_rd M l0 18)) :
    nb_R nb_P 138 2 [(20, l0), (0, l1), (0, l2), (0, l3), v4, v5, v6] [] M = if nb_rd M (nb_rd M l0 18) (nb_add 2 l3) = l1 then nb_R nb_P 138 3 [(20, l0), (0, l1), (0, l2), (0, l3), (0, nb_rd M (nb_rd M l0 18) (nb_add 2 l3)), v5, v6] [] M else nb_R nb_P 138 4 [(20, l0), (0, l1), (0, l2), (0, l3), (0, nb_rd M (nb_rd M l0 18) (nb_add 2 l3)), v5, v6] [] M :=
  nb_step (c := ((true && !decide ((l0 : Int) = 0)) && (!decide ((nb_rd M l0 18 : Int) = 0) && (decide ((0 : Int) ≤ nb_add 2 l3) && decide (nb_add 2 l3 < nb_ln M (nb_rd M l0 18)))))) rfl (by simp [h1, h2, h3, h4])
theorem q_m_passedOf_3 (l2 : Int) (v0 v1 v3 v4 v5 v6 : nb_V) (M : nb_M) :
    nb_R nb_P 138 3 [v0, v1, (0, l2), v3, v4, v5, v6] [] M = some ([(0, l2)], M) :=
  nb_step (c := true) rfl rfl
theorem q_m_passedOf_4 (l0 l1 l2 l3 l4 : Int) (v5 v6 : nb_V) (M : nb_M) (h1 : l0 ≠ 0) :
    nb_R nb_P 138 4 [(20, l0), (0, l1), (0, l2), (0, l3), (0, l4), v5, v6] [] M = (nb_R nb_P 125 0 [(3, nb_rd M l0 18), (0, l4), (0, 4)] [] M).bind fun r => nb_R nb_P 138 5 [(20, l0), (0, l1), (0, l2), (0, l3), (0, l4), v5, v6] (r.1 ++ []) r.2 :=
  nb_stepC (c := (true && !decide ((l0 : Int) = 0))) (L2 := [(20, l0), (0, l1), (0, l2), (0, l3), (0, l4), v5, v6]) (S2 := [(0, 4), (0, l4), (3, nb_rd M l0 18)]) (M2 := M) (t := 5) (cl := 125) (vi := false) rfl (by simp [h1]) (nb_inv_eq (n := 3) rfl rfl rfl rfl rfl rfl (fun h => by cases h) rfl)
theorem q_m_passedOf_5 (l0 l1 l2 l3 l4 s0 : Int) (v5 v6 : nb_V) (M : nb_M) (h1 : l0 ≠ 0) :
    nb_R nb_P 138 5 [(20, l0), (0, l1), (0, l2), (0, l3), (0, l4), v5, v6] [(0, s0)] M = (nb_R nb_P 125 0 [(3, nb_rd M l0 18), (0, l1), (0, 7)] [] M).bind fun r => nb_R nb_P 138 6 [(20, l0), (0, l1), (0, l2), (0, l3), (0, l4), (0, s0), v6] (r.1 ++ []) r.2 :=
  nb_stepC (c := (true && !decide ((l0 : Int) = 0))) (L2 := [(20, l0), (0, l1), (0, l2), (0, l3), (0, l4), (0, s0), v6]) (S2 := [(0, 7), (0, l1), (3, nb_rd M l0 18)]) (M2 := M) (t := 6) (cl := 125) (vi := false) rfl (by simp [h1]) (nb_inv_eq (n := 3) rfl rfl rfl rfl rfl rfl (fun h => by cases h) rfl)
theorem q_m_passedOf_6 (l0 l1 l2 l3 l4 l5 s0 : Int) (v6 : nb_V) (M : nb_M) :
    nb_R nb_P 138 6 [(20, l0), (0, l1), (0, l2), (0, l3), (0, l4), (0, l5), v6] [(0, s0)] M = if s0 = (-2) then nb_R nb_P 138 10 [(20, l0), (0, l1), (0, l2), (0, l3), (0, l4), (0, l5), v6] [] M else nb_R nb_P 138 7 [(20, l0), (0, l1), (0, l2), (0, l3), (0, l4), (0, l5), v6] [] M :=
  nb_step (c := true) rfl rfl
theorem q_m_passedOf_7 (l0 l1 l2 l3 l4 l5 : Int) (v6 : nb_V) (M : nb_M) (h1 : l0 ≠ 0) :
    nb_R nb_P 138 7 [(20, l0), (0, l1), (0, l2), (0, l3), (0, l4), (0, l5), v6] [] M = (nb_R nb_P 125 0 [(3, nb_rd M l0 18), (0, l1), (0, 7)] [] M).bind fun r => nb_R nb_P 138 8 [(20, l0), (0, l1), (0, l2), (0, l3), (0, l4), (0, l5), v6] (r.1 ++ [(0, l5)]) r.2 :=
  nb_stepC (c := (true && !decide ((l0 : Int) = 0))) (L2 := [(20, l0), (0, l1), (0, l2), (0, l3), (0, l4), (0, l5), v6]) (S2 := [(0, 7), (0, l1), (3, nb_rd M l0 18), (0, l5)]) (M2 := M) (t := 8) (cl := 125) (vi := false) rfl (by simp [h1]) (nb_inv_eq (n := 3) rfl rfl rfl rfl rfl rfl (fun h => by cases h) rfl)
theorem q_m_passedOf_8 (l0 l1 l2 l3 l4 l5 s0 s1 : Int) (v6 : nb_V) (M : nb_M) :
    nb_R nb_P 138 8 [(20, l0), (0, l1), (0, l2), (0, l3), (0, l4), (0, l5), v6] [(0, s0), (0, s1)] M = if s1 < s0 then nb_R nb_P 138 10 [(20, l0), (0, l1), (0, l2), (0, l3), (0, l4), (0, l5), v6] [] M else nb_R nb_P 138 9 [(20, l0), (0, l1), (0, l2), (0, l3), (0, l4), (0, l5), v6] [] M :=
  nb_step (c := true) rfl rfl
theorem q_m_passedOf_9 (l0 l1 l2 l3 l4 l5 : Int) (v6 : nb_V) (M : nb_M) :
    nb_R nb_P 138 9 [(20, l0), (0, l1), (0, l2), (0, l3), (0, l4), (0, l5), v6] [] M = nb_R nb_P 138 11 [(20, l0), (0, l1), (0, l2), (0, l3), (0, l4), (0, l5), v6] [(0, 1)] M :=
  nb_step (c := true) rfl rfl
theorem q_m_passedOf_10 (l0 l1 l2 l3 l4 l5 : Int) (v6 : nb_V) (M : nb_M) :
    nb_R nb_P 138 10 [(20, l0), (0, l1), (0, l2), (0, l3), (0, l4), (0, l5), v6] [] M = nb_R nb_P 138 11 [(20, l0), (0, l1), (0, l2), (0, l3), (0, l4), (0, l5), v6] [(0, 0)] M :=
  nb_step (c := true) rfl rfl
theorem q_m_passedOf_11 (l0 l1 l2 l3 l4 l5 s0 : Int) (v6 : nb_V) (M : nb_M) (h1 : l0 ≠ 0) :
    nb_R nb_P 138 11 [(20, l0), (0, l1), (0, l2), (0, l3), (0, l4), (0, l5), v6] [(0, s0)] M = (nb_R nb_P 137 0 [(20, l0), (0, l4), (0, l1)] [] M).bind fun r => nb_R nb_P 138 12 [(20, l0), (0, l1), (0, l2), (0, l3), (0, l4), (0, l5), (0, s0)] (r.1 ++ []) r.2 :=
  nb_stepC (c := true) (L2 := [(20, l0), (0, l1), (0, l2), (0, l3), (0, l4), (0, l5), (0, s0)]) (S2 := [(0, l1), (0, l4), (20, l0)]) (M2 := M) (t := 12) (cl := 137) (vi := true) rfl rfl (nb_inv_eq (n := 3) rfl rfl rfl rfl rfl rfl (fun _ => h1) rfl)
theorem q_m_passedOf_12 (l0 l1 l2 l3 l4 l5 l6 s0 : Int) (M : nb_M) :
    nb_R nb_P 138 12 [(20, l0), (0, l1), (0, l2), (0, l3), (0, l4), (0, l5), (0, l6)] [(0, s0)] M = if s0 = 0 then nb_R nb_P 138 17 [(20, l0), (0, l1), (0, l2), (0, l3), (0, l4), (0, l5), (0, l6)] [] M else nb_R nb_P 138 13 [(20, l0), (0, l1), (0, l2), (0, l3), (0, l4), (0, l5), (0, l6)] [] M :=
  nb_step (c := true) rfl rfl
theorem q_m_passedOf_13 (l0 l1 l2 l3 l4 l5 l6 : Int) (M : nb_M) (h1 : l0 ≠ 0) :
    nb_R nb_P 138 13 [(20, l0), (0, l1), (0, l2), (0, l3), (0, l4), (0, l5), (0, l6)] [] M = (nb_R nb_P 122 0 [(20, l0), (0, l1), (0, 2)] [] M).bind fun r => nb_R nb_P 138 14 [(20, l0), (0, l1), (0, l2), (0, l3), (0, l4), (0, l5), (0, l6)] (r.1 ++ [(0, l5)]) r.2 :=
  nb_stepC (c := true) (L2 := [(20, l0), (0, l1), (0, l2), (0, l3), (0, l4), (0, l5), (0, l6)]) (S2 := [(0, 2), (0, l1), (20, l0), (0, l5)]) (M2 := M) (t := 14) (cl := 122) (vi := true) rfl rfl (nb_inv_eq (n := 3) rfl rfl rfl rfl rfl rfl (fun _ => h1) rfl)
theorem q_m_passedOf_14 (l0 l1 l2 l3 l4 l6 s0 s1 : Int) (v5 : nb_V) (M : nb_M) :
    nb_R nb_P 138 14 [(20, l0), (0, l1), (0, l2), (0, l3), (0, l4), v5, (0, l6)] [(0, s0), (0, s1)] M = if s1 < s0 then nb_R nb_P 138 17 [(20, l0), (0, l1), (0, l2), (0, l3), (0, l4), v5, (0, l6)] [] M else nb_R nb_P 138 15 [(20, l0), (0, l1), (0, l2), (0, l3), (0, l4), v5, (0, l6)] [] M :=
  nb_step (c := true) rfl rfl
theorem q_m_passedOf_15 (l0 l1 l2 l3 l4 l6 : Int) (v5 : nb_V) (M : nb_M) :
    nb_R nb_P 138 15 [(20, l0), (0, l1), (0, l2), (0, l3), (0, l4), v5, (0, l6)] [] M = if l6 = 0 then nb_R nb_P 138 16 [(20, l0), (0, l1), (0, l2), (0, l3), (0, l4), v5, (0, l6)] [] M else nb_R nb_P 138 17 [(20, l0), (0, l1), (0, l2), (0, l3), (0, l4), v5, (0, l6)] [] M :=
  nb_step (c := true) rfl rfl
theorem q_m_passedOf_16 (l0 l1 l2 l3 l4 : Int) (v5 v6 : nb_V) (M : nb_M) :
    nb_R nb_P 138 16 [(20, l0), (0, l1), (0, l2), (0, l3), (0, l4), v5, v6] [] M = nb_R nb_P 138 17 [(20, l0), (0, l1), (0, nb_or l2 (nb_shl 1 l4)), (0, l3), (0, l4), v5, v6] [] M :=
  nb_step (c := true) rfl rfl
theorem q_m_passedOf_17 (l0 l1 l2 l3 : Int) (v4 v5 v6 : nb_V) (M : nb_M) :
    nb_R nb_P 138 17 [(20, l0), (0, l1), (0, l2), (0, l3), v4, v5, v6] [] M = nb_R nb_P 138 1 [(20, l0), (0, l1), (0, l2), (0, nb_add l3 1), v4, v5, v6] [] M :=
  nb_step (c := true) rfl rfl
theorem q_m_passedOf_18 (l2 : Int) (v0 v1 v3 v4 v5 v6 : nb_V) (M : nb_M) :
    nb_R nb_P 138 18 [v0, v1, (0, l2), v3, v4, v5, v6] [] M = some ([(0, l2)], M) :=
  nb_step (c := true) rfl rfl
theorem q_m_sumOf_0 (l0 l1 : Int) (v2 v3 v4 : nb_V) (M : nb_M) :
    nb_R nb_P 140 0 [(20, l0), (0, l1), v2, v3, v4] [] M = nb_R nb_P 140 1 [(20, l0), (0, l1), (0, 0), (0, 0), v4] [] M :=
  nb_step (c := true) rfl rfl
theorem q_m_sumOf_1 (l0 l1 l2 l3 : Int) (v4 : nb_V) (M : nb_M) (h1 : l0 ≠ 0) (h2 : (nb_rd M l0 15) ≠ 0) (h3 : (0 : Int) ≤ 5) (h4 : 5 < nb_ln M (nb_rd M l0 15)) :
    nb_R nb_P 140 1 [(20, l0), (0, l1), (0, l2), (0, l3), v4] [] M = if l3 < nb_rd M (nb_rd M l0 15) 5 then nb_R nb_P 140 2 [(20, l0), (0, l1), (0, l2), (0, l3), v4] [] M else nb_R nb_P 140 32 [(20, l0), (0, l1), (0, l2), (0, l3), v4] [] M :=
  nb_step (c := ((true && !decide ((l0 : Int) = 0)) && (!decide ((nb_rd M l0 15 : Int) = 0) && (decide ((0 : Int) ≤ 5) && decide (5 < nb_ln M (nb_rd M l0 15)))))) rfl (by simp [h1, h2, h3, h4])
theorem q_m_sumOf_2 (l0 l1 l2 l3 : Int) (v4 : nb_V) (M : nb_M) (h1 : l0 ≠ 0) :
    nb_R nb_P 140 2 [(20, l0), (0, l1), (0, l2), (0, l3), v4] [] M = (nb_R nb_P 135 0 [(20, l0), (0, l3)] [] M).bind fun r => nb_R nb_P 140 3 [(20, l0), (0, l1), (0, l2), (0, l3), v4] (r.1 ++ []) r.2 :=
  nb_stepC (c := true) (L2 := [(20, l0), (0, l1), (0, l2), (0, l3), v4]) (S2 := [(0, l3), (20, l0)]) (M2 := M) (t := 3) (cl := 135) (vi := true) rfl rfl (nb_inv_eq (n := 2) rfl rfl rfl rfl rfl rfl (fun _ => h1) rfl)
theorem q_m_sumOf_3 (l0 l1 l2 l3 s0 : Int) (v4 : nb_V) (M : nb_M) (h1 : l0 ≠ 0) :
    nb_R nb_P 140 3 [(20, l0), (0, l1), (0, l2), (0, l3), v4] [(0, s0)] M = (nb_R nb_P 125 0 [(3, nb_rd M l0 18), (0, l3), (0, 0)] [] M).bind fun r => nb_R nb_P 140 4 [(20, l0), (0, l1), (0, l2), (0, l3), (0, s0)] (r.1 ++ []) r.2 :=
  nb_stepC (c := (true && !decide ((l0 : Int) = 0))) (L2 := [(20, l0), (0, l1), (0, l2), (0, l3), (0, s0)]) (S2 := [(0, 0), (0, l3), (3, nb_rd M l0 18)]) (M2 := M) (t := 4) (cl := 125) (vi := false) rfl (by simp [h1]) (nb_inv_eq (n := 3) rfl rfl rfl rfl rfl rfl (fun h => by cases h) rfl)
theorem q_m_sumOf_4 (l0 l1 l2 l3 l4 s0 : Int) (M : nb_M) :
    nb_R nb_P 140 4 [(20, l0), (0, l1), (0, l2), (0, l3), (0, l4)] [(0, s0)] M = if s0 = 0 then nb_R nb_P 140 5 [(20, l0), (0, l1), (0, l2), (0, l3), (0, l4)] [] M else nb_R nb_P 140 6 [(20, l0), (0, l1), (0, l2), (0, l3), (0, l4)] [] M :=
  nb_step (c := true) rfl rfl
theorem q_m_sumOf_5 (l0 l1 l2 l3 : Int) (v4 : nb_V) (M : nb_M) :
    nb_R nb_P 140 5 [(20, l0), (0, l1), (0, l2), (0, l3), v4] [] M = nb_R nb_P 140 31 [(20, l0), (0, l1), (0, l2), (0, l3), v4] [] M :=
  nb_step (c := true) rfl rfl
set_option maxRecDepth 10000 in
theorem q_m_sumOf_6 (l0 l1 l2 l3 l4 : Int) (M : nb_M) :
    nb_R nb_P 140 6 [(20, l0), (0, l1), (0, l2), (0, l3), (0, l4)] [] M = if l1 = 0 then nb_R nb_P 140 7 [(20, l0), (0, l1), (0, l2), (0, l3), (0, l4)] [] M else if l1 = 1 then nb_R nb_P 140 11 [(20, l0), (0, l1), (0, l2), (0, l3), (0, l4)] [] M else if l1 = 2 then nb_R nb_P 140 15 [(20, l0), (0, l1), (0, l2), (0, l3), (0, l4)] [] M else if l1 = 3 then nb_R nb_P 140 19 [(20, l0), (0, l1), (0, l2), (0, l3), (0, l4)] [] M else if l1 = 4 then nb_R nb_P 140 23 [(20, l0), (0, l1), (0, l2), (0, l3), (0, l4)] [] M else nb_R nb_P 140 26 [(20, l0), (0, l1), (0, l2), (0, l3), (0, l4)] [] M :=
  nb_step (c := true) rfl rfl
theorem q_m_sumOf_7 (l0 l1 l2 l3 l4 : Int) (M : nb_M) :
    nb_R nb_P 140 7 [(20, l0), (0, l1), (0, l2), (0, l3), (0, l4)] [] M = if l4 < 2 then nb_R nb_P 140 8 [(20, l0), (0, l1), (0, l2), (0, l3), (0, l4)] [(0, l2)] M else nb_R nb_P 140 9 [(20, l0), (0, l1), (0, l2), (0, l3), (0, l4)] [(0, l2)] M :=
  nb_step (c := true) rfl rfl
theorem q_m_sumOf_8 (l0 l1 l3 s0 : Int) (v2 v4 : nb_V) (M : nb_M) :
    nb_R nb_P 140 8 [(20, l0), (0, l1), v2, (0, l3), v4] [(0, s0)] M = nb_R nb_P 140 10 [(20, l0), (0, l1), v2, (0, l3), v4] [(0, 1), (0, s0)] M :=
  nb_step (c := true) rfl rfl
theorem q_m_sumOf_9 (l0 l1 l3 s0 : Int) (v2 v4 : nb_V) (M : nb_M) :
    nb_R nb_P 140 9 [(20, l0), (0, l1), v2, (0, l3), v4] [(0, s0)] M = nb_R nb_P 140 10 [(20, l0), (0, l1), v2, (0, l3), v4] [(0, 0), (0, s0)] M :=
  nb_step (c := true) rfl rfl
theorem q_m_sumOf_10 (l0 l1 l3 s0 s1 : Int) (v2 v4 : nb_V) (M : nb_M) :
    nb_R nb_P 140 10 [(20, l0), (0, l1), v2, (0, l3), v4] [(0, s0), (0, s1)] M = nb_R nb_P 140 31 [(20, l0), (0, l1), (0, nb_add s1 s0), (0, l3), v4] [] M :=
  nb_step (c := true) rfl rfl
theorem q_m_sumOf_11 (l0 l1 l2 l3 l4 : Int) (M : nb_M) :
    nb_R nb_P 140 11 [(20, l0), (0, l1), (0, l2), (0, l3), (0, l4)] [] M = if l4 = 2 then nb_R nb_P 140 12 [(20, l0), (0, l1), (0, l2), (0, l3), (0, l4)] [(0, l2)] M else nb_R nb_P 140 13 [(20, l0), (0, l1), (0, l2), (0, l3), (0, l4)] [(0, l2)] M :=
  nb_step (c := true) rfl rfl
theorem q_m_sumOf_12 (l0 l1 l3 s0 : Int) (v2 v4 : nb_V) (M : nb_M) :
    nb_R nb_P 140 12 [(20, l0), (0, l1), v2, (0, l3), v4] [(0, s0)] M = nb_R nb_P 140 14 [(20, l0), (0, l1), v2, (0, l3), v4] [(0, 1), (0, s0)] M :=
  nb_step (c := true) rfl rfl
theorem q_m_sumOf_13 (l0 l1 l3 s0 : Int) (v2 v4 : nb_V) (M : nb_M) :
    nb_R nb_P 140 13 [(20, l0), (0, l1), v2, (0, l3), v4] [(0, s0)] M = nb_R nb_P 140 14 [(20, l0), (0, l1), v2, (0, l3), v4] [(0, 0), (0, s0)] M :=
  nb_step (c := true) rfl rfl
theorem q_m_sumOf_14 (l0 l1 l3 s0 s1 : Int) (v2 v4 : nb_V) (M : nb_M) :
    nb_R nb_P 140 14 [(20, l0), (0, l1), v2, (0, l3), v4] [(0, s0), (0, s1)] M = nb_R nb_P 140 31 [(20, l0), (0, l1), (0, nb_add s1 s0), (0, l3), v4] [] M :=
  nb_step (c := true) rfl rfl
theorem q_m_sumOf_15 (l0 l1 l2 l3 l4 : Int) (M : nb_M) :
    nb_R nb_P 140 15 [(20, l0), (0, l1), (0, l2), (0, l3), (0, l4)] [] M = if l4 = 3 then nb_R nb_P 140 16 [(20, l0), (0, l1), (0, l2), (0, l3), (0, l4)] [(0, l2)] M else nb_R nb_P 140 17 [(20, l0), (0, l1), (0, l2), (0, l3), (0, l4)] [(0, l2)] M :=
  nb_step (c := true) rfl rfl
theorem q_m_sumOf_16 (l0 l1 l3 s0 : Int) (v2 v4 : nb_V) (M : nb_M) :
    nb_R nb_P 140 16 [(20, l0), (0, l1), v2, (0, l3), v4] [(0, s0)] M = nb_R nb_P 140 18 [(20, l0), (0, l1), v2, (0, l3), v4] [(0, 1), (0, s0)] M :=
  nb_step (c := true) rfl rfl
theorem q_m_sumOf_17 (l0 l1 l3 s0 : Int) (v2 v4 : nb_V) (M : nb_M) :
    nb_R nb_P 140 17 [(20, l0), (0, l1), v2, (0, l3), v4] [(0, s0)] M = nb_R nb_P 140 18 [(20, l0), (0, l1), v2, (0, l3), v4] [(0, 0), (0, s0)] M :=
  nb_step (c := true) rfl rfl
theorem q_m_sumOf_18 (l0 l1 l3 s0 s1 : Int) (v2 v4 : nb_V) (M : nb_M) :
    nb_R nb_P 140 18 [(20, l0), (0, l1), v2, (0, l3), v4] [(0, s0), (0, s1)] M = nb_R nb_P 140 31 [(20, l0), (0, l1), (0, nb_add s1 s0), (0, l3), v4] [] M :=
  nb_step (c := true) rfl rfl
theorem q_m_sumOf_19 (l0 l1 l2 l3 l4 : Int) (M : nb_M) :
    nb_R nb_P 140 19 [(20, l0), (0, l1), (0, l2), (0, l3), (0, l4)] [] M = if l4 = 4 then nb_R nb_P 140 20 [(20, l0), (0, l1), (0, l2), (0, l3), (0, l4)] [(0, l2)] M else nb_R nb_P 140 21 [(20, l0), (0, l1), (0, l2), (0, l3), (0, l4)] [(0, l2)] M :=
  nb_step (c := true) rfl rfl
theorem q_m_sumOf_20 (l0 l1 l3 s0 : Int) (v2 v4 : nb_V) (M : nb_M) :
    nb_R nb_P 140 20 [(20, l0), (0, l1), v2, (0, l3), v4] [(0, s0)] M = nb_R nb_P 140 22 [(20, l0), (0, l1), v2, (0, l3), v4] [(0, 0), (0, s0)] M :=
  nb_step (c := true) rfl rfl
theorem q_m_sumOf_21 (l0 l1 l3 s0 : Int) (v2 v4 : nb_V) (M : nb_M) (h1 : l0 ≠ 0) :
    nb_R nb_P 140 21 [(20, l0), (0, l1), v2, (0, l3), v4] [(0, s0)] M = (nb_R nb_P 136 0 [(20, l0), (0, l3), (98, 0)] [] M).bind fun r => nb_R nb_P 140 22 [(20, l0), (0, l1), v2, (0, l3), v4] (r.1 ++ [(0, s0)]) r.2 :=
  nb_stepC (c := true) (L2 := [(20, l0), (0, l1), v2, (0, l3), v4]) (S2 := [(0, l3), (20, l0), (0, s0)]) (M2 := M) (t := 22) (cl := 136) (vi := true) rfl rfl (nb_inv_eq (n := 2) rfl rfl rfl rfl rfl rfl (fun _ => h1) rfl)
theorem q_m_sumOf_22 (l0 l1 l3 s0 s1 : Int) (v2 v4 : nb_V) (M : nb_M) :
    nb_R nb_P 140 22 [(20, l0), (0, l1), v2, (0, l3), v4] [(0, s0), (0, s1)] M = nb_R nb_P 140 31 [(20, l0), (0, l1), (0, nb_add s1 s0), (0, l3), v4] [] M :=
  nb_step (c := true) rfl rfl
theorem q_m_sumOf_23 (l0 l1 l2 l3 : Int) (v4 : nb_V) (M : nb_M) (h1 : l0 ≠ 0) :
    nb_R nb_P 140 23 [(20, l0), (0, l1), (0, l2), (0, l3), v4] [] M = (nb_R nb_P 138 0 [(20, l0), (0, l3), (98, 0), (98, 0), (98, 0), (98, 0), (98, 0)] [] M).bind fun r => nb_R nb_P 140 24 [(20, l0), (0, l1), (0, l2), (0, l3), v4] (r.1 ++ [(0, l2)]) r.2 :=
  nb_stepC (c := true) (L2 := [(20, l0), (0, l1), (0, l2), (0, l3), v4]) (S2 := [(0, l3), (20, l0), (0, l2)]) (M2 := M) (t := 24) (cl := 138) (vi := true) rfl rfl (nb_inv_eq (n := 2) rfl rfl rfl rfl rfl rfl (fun _ => h1) rfl)
theorem q_m_sumOf_24 (l0 l1 l3 s0 s1 : Int) (v2 v4 : nb_V) (M : nb_M) :
    nb_R nb_P 140 24 [(20, l0), (0, l1), v2, (0, l3), v4] [(0, s0), (0, s1)] M = (nb_R nb_P 85 0 [(0, s0), (98, 0), (98, 0)] [] M).bind fun r => nb_R nb_P 140 25 [(20, l0), (0, l1), v2, (0, l3), v4] (r.1 ++ [(0, s1)]) r.2 :=
  nb_stepC (c := true) (L2 := [(20, l0), (0, l1), v2, (0, l3), v4]) (S2 := [(0, s0), (0, s1)]) (M2 := M) (t := 25) (cl := 85) (vi := false) rfl rfl (nb_inv_eq (n := 1) rfl rfl rfl rfl rfl rfl (fun h => by cases h) rfl)
theorem q_m_sumOf_25 (l0 l1 l3 s0 s1 : Int) (v2 v4 : nb_V) (M : nb_M) :
    nb_R nb_P 140 25 [(20, l0), (0, l1), v2, (0, l3), v4] [(0, s0), (0, s1)] M = nb_R nb_P 140 31 [(20, l0), (0, l1), (0, nb_add s1 s0), (0, l3), v4] [] M :=
  nb_step (c := true) rfl rfl
theorem q_m_sumOf_26 (l0 l1 l2 l3 l4 : Int) (M : nb_M) :
    nb_R nb_P 140 26 [(20, l0), (0, l1), (0, l2), (0, l3), (0, l4)] [] M = if l4 < 2 then nb_R nb_P 140 27 [(20, l0), (0, l1), (0, l2), (0, l3), (0, l4)] [(0, l2)] M else nb_R nb_P 140 29 [(20, l0), (0, l1), (0, l2), (0, l3), (0, l4)] [(0, l2)] M :=
  nb_step (c := true) rfl rfl
theorem q_m_sumOf_27 (l0 l1 l3 s0 : Int) (v2 v4 : nb_V) (M : nb_M) (h1 : l0 ≠ 0) :
    nb_R nb_P 140 27 [(20, l0), (0, l1), v2, (0, l3), v4] [(0, s0)] M = (nb_R nb_P 141 0 [(20, l0), (0, l3), (98, 0), (98, 0)] [] M).bind fun r => nb_R nb_P 140 28 [(20, l0), (0, l1), v2, (0, l3), v4] (r.1 ++ [(0, s0)]) r.2 :=
  nb_stepC (c := true) (L2 := [(20, l0), (0, l1), v2, (0, l3), v4]) (S2 := [(0, l3), (20, l0), (0, s0)]) (M2 := M) (t := 28) (cl := 141) (vi := true) rfl rfl (nb_inv_eq (n := 2) rfl rfl rfl rfl rfl rfl (fun _ => h1) rfl)
theorem q_m_sumOf_28 (l0 l1 l3 s0 s1 : Int) (v2 v4 : nb_V) (M : nb_M) :
    nb_R nb_P 140 28 [(20, l0), (0, l1), v2, (0, l3), v4] [(0, s0), (0, s1)] M = nb_R nb_P 140 30 [(20, l0), (0, l1), v2, (0, l3), v4] [(0, s0), (0, s1)] M :=
  nb_step (c := true) rfl rfl
theorem q_m_sumOf_29 (l0 l1 l3 s0 : Int) (v2 v4 : nb_V) (M : nb_M) :
    nb_R nb_P 140 29 [(20, l0), (0, l1), v2, (0, l3), v4] [(0, s0)] M = nb_R nb_P 140 30 [(20, l0), (0, l1), v2, (0, l3), v4] [(0, 0), (0, s0)] M :=
  nb_step (c := true) rfl rfl
theorem q_m_sumOf_30 (l0 l1 l3 s0 s1 : Int) (v2 v4 : nb_V) (M : nb_M) :
    nb_R nb_P 140 30 [(20, l0), (0, l1), v2, (0, l3), v4] [(0, s0), (0, s1)] M = nb_R nb_P 140 31 [(20, l0), (0, l1), (0, nb_add s1 s0), (0, l3), v4] [] M :=
  nb_step (c := true) rfl rfl
theorem q_m_sumOf_31 (l0 l1 l2 l3 : Int) (v4 : nb_V) (M : nb_M) :
    nb_R nb_P 140 31 [(20, l0), (0, l1), (0, l2), (0, l3), v4] [] M = nb_R nb_P 140 1 [(20, l0), (0, l1), (0, l2), (0, nb_add l3 1), v4] [] M :=
  nb_step (c := true) rfl rfl
theorem q_m_sumOf_32 (l2 : Int) (v0 v1 v3 v4 : nb_V) (M : nb_M) :
    nb_R nb_P 140 32 [v0, v1, (0, l2), v3, v4] [] M = some ([(0, l2)], M) :=
  nb_step (c := true) rfl rfl
theorem q_m_person_0 (l0 l1 l2 : Int) (v3 : nb_V) (M : nb_M) (h1 : l0 ≠ 0) :
    nb_R nb_P 142 0 [(20, l0), (0, l1), (0, l2), v3] [] M = (nb_R nb_P 79 0 [(20, l0)] [] M).bind fun r => nb_R nb_P 142 1 [(20, l0), (0, l1), (0, l2), v3] (r.1 ++ []) r.2 :=
  nb_stepC (c := true) (L2 := [(20, l0), (0, l1), (0, l2), v3]) (S2 := [(20, l0)]) (M2 := M) (t := 1) (cl := 79) (vi := true) rfl rfl (nb_inv_eq (n := 1) rfl rfl rfl rfl rfl rfl (fun _ => h1) rfl)
theorem q_m_person_1 (l0 l1 l2 : Int) (v3 : nb_V) (M : nb_M) (h1 : l0 ≠ 0) :
    nb_R nb_P 142 1 [(20, l0), (0, l1), (0, l2), v3] [] M = (nb_R nb_P 116 0 [(20, l0), (0, l1)] [] M).bind fun r => nb_R nb_P 142 2 [(20, l0), (0, l1), (0, l2), v3] (r.1 ++ []) r.2 :=
  nb_stepC (c := true) (L2 := [(20, l0), (0, l1), (0, l2), v3]) (S2 := [(0, l1), (20, l0)]) (M2 := M) (t := 2) (cl := 116) (vi := true) rfl rfl (nb_inv_eq (n := 2) rfl rfl rfl rfl rfl rfl (fun _ => h1) rfl)
theorem q_m_person_2 (l0 l1 l2 s0 : Int) (v3 : nb_V) (M : nb_M) :
    nb_R nb_P 142 2 [(20, l0), (0, l1), (0, l2), v3] [(0, s0)] M = if s0 = 0 then nb_R nb_P 142 3 [(20, l0), (0, l1), (0, l2), v3] [] M else nb_R nb_P 142 5 [(20, l0), (0, l1), (0, l2), v3] [] M :=
  nb_step (c := true) rfl rfl
theorem q_m_person_3 (l0 : Int) (v1 v2 v3 : nb_V) (M : nb_M) (h1 : l0 ≠ 0) :
    nb_R nb_P 142 3 [(20, l0), v1, v2, v3] [] M = (nb_R nb_P 80 0 [(20, l0), (0, 1)] [] M).bind fun r => nb_R nb_P 142 4 [(20, l0), v1, v2, v3] (r.1 ++ []) r.2 :=
  nb_stepC (c := true) (L2 := [(20, l0), v1, v2, v3]) (S2 := [(0, 1), (20, l0)]) (M2 := M) (t := 4) (cl := 80) (vi := true) rfl rfl (nb_inv_eq (n := 2) rfl rfl rfl rfl rfl rfl (fun _ => h1) rfl)
theorem q_m_person_4 (s0 : Int) (v0 v1 v2 v3 : nb_V) (M : nb_M) :
    nb_R nb_P 142 4 [v0, v1, v2, v3] [(0, s0)] M = some ([(0, s0)], M) :=
  nb_step (c := true) rfl rfl
set_option maxRecDepth 10000 in
theorem q_m_person_5 (l0 l1 l2 : Int) (v3 : nb_V) (M : nb_M) :
    nb_R nb_P 142 5 [(20, l0), (0, l1), (0, l2), v3] [] M = if l2 = 0 then nb_R nb_P 142 6 [(20, l0), (0, l1), (0, l2), (0, nb_add 12 (nb_mul 8 l1))] [] M else if l2 = 1 then nb_R nb_P 142 11 [(20, l0), (0, l1), (0, l2), (0, nb_add 12 (nb_mul 8 l1))] [] M else if l2 = 2 then nb_R nb_P 142 12 [(20, l0), (0, l1), (0, l2), (0, nb_add 12 (nb_mul 8 l1))] [] M else if l2 = 3 then nb_R nb_P 142 13 [(20, l0), (0, l1), (0, l2), (0, nb_add 12 (nb_mul 8 l1))] [] M else if l2 = 4 then nb_R nb_P 142 14 [(20, l0), (0, l1), (0, l2), (0, nb_add 12 (nb_mul 8 l1))] [] M else if l2 = 5 then nb_R nb_P 142 15 [(20, l0), (0, l1), (0, l2), (0, nb_add 12 (nb_mul 8 l1))] [] M else nb_R nb_P 142 16 [(20, l0), (0, l1), (0, l2), (0, nb_add 12 (nb_mul 8 l1))] [] M :=
  nb_step (c := true) rfl rfl
theorem q_m_person_6 (l0 l3 : Int) (v1 v2 : nb_V) (M : nb_M) (h1 : l0 ≠ 0) (h2 : (nb_rd M l0 17) ≠ 0) (h3 : (0 : Int) ≤ nb_add l3 0) (h4 : nb_add l3 0 < nb_ln M (nb_rd M l0 17)) :
    nb_R nb_P 142 6 [(20, l0), v1, v2, (0, l3)] [] M = if nb_rd M (nb_rd M l0 17) (nb_add l3 0) = 2 then nb_R nb_P 142 7 [(20, l0), v1, v2, (0, l3)] [] M else nb_R nb_P 142 9 [(20, l0), v1, v2, (0, l3)] [] M :=
  nb_step (c := ((true && !decide ((l0 : Int) = 0)) && (!decide ((nb_rd M l0 17 : Int) = 0) && (decide ((0 : Int) ≤ nb_add l3 0) && decide (nb_add l3 0 < nb_ln M (nb_rd M l0 17)))))) rfl (by simp [h1, h2, h3, h4])
theorem q_m_person_7 (l0 l3 : Int) (v1 v2 : nb_V) (M : nb_M) (h1 : l0 ≠ 0) (h2 : (nb_rd M l0 17) ≠ 0) (h3 : (0 : Int) ≤ nb_add l3 5) (h4 : nb_add l3 5 < nb_ln M (nb_rd M l0 17)) (h5 : (0 : Int) ≤ 0) (h6 : 0 < nb_ln M (nb_rd M l0 17)) :
    nb_R nb_P 142 7 [(20, l0), v1, v2, (0, l3)] [] M = if nb_rd M (nb_rd M l0 17) 0 < nb_rd M (nb_rd M l0 17) (nb_add l3 5) then nb_R nb_P 142 9 [(20, l0), v1, v2, (0, l3)] [] M else nb_R nb_P 142 8 [(20, l0), v1, v2, (0, l3)] [] M :=
  nb_step (c := ((((true && !decide ((l0 : Int) = 0)) && (!decide ((nb_rd M l0 17 : Int) = 0) && (decide ((0 : Int) ≤ nb_add l3 5) && decide (nb_add l3 5 < nb_ln M (nb_rd M l0 17))))) && !decide ((l0 : Int) = 0)) && (!decide ((nb_rd M l0 17 : Int) = 0) && (decide ((0 : Int) ≤ 0) && decide (0 < nb_ln M (nb_rd M l0 17)))))) rfl (by simp [h1, h2, h3, h4, h5, h6])
theorem q_m_person_8 (v0 v1 v2 v3 : nb_V) (M : nb_M) :
    nb_R nb_P 142 8 [v0, v1, v2, v3] [] M = nb_R nb_P 142 10 [v0, v1, v2, v3] [(0, 3)] M :=
  nb_step (c := true) rfl rfl
theorem q_m_person_9 (l0 l3 : Int) (v1 v2 : nb_V) (M : nb_M) (h1 : l0 ≠ 0) (h2 : (nb_rd M l0 17) ≠ 0) (h3 : (0 : Int) ≤ nb_add l3 0) (h4 : nb_add l3 0 < nb_ln M (nb_rd M l0 17)) :
    nb_R nb_P 142 9 [(20, l0), v1, v2, (0, l3)] [] M = nb_R nb_P 142 10 [(20, l0), v1, v2, (0, l3)] [(0, nb_rd M (nb_rd M l0 17) (nb_add l3 0))] M :=
  nb_step (c := ((true && !decide ((l0 : Int) = 0)) && (!decide ((nb_rd M l0 17 : Int) = 0) && (decide ((0 : Int) ≤ nb_add l3 0) && decide (nb_add l3 0 < nb_ln M (nb_rd M l0 17)))))) rfl (by simp [h1, h2, h3, h4])
theorem q_m_person_10 (s0 : Int) (v0 v1 v2 v3 : nb_V) (M : nb_M) :
    nb_R nb_P 142 10 [v0, v1, v2, v3] [(0, s0)] M = some ([(0, s0)], M) :=
  nb_step (c := true) rfl rfl
theorem q_m_person_11 (l0 l3 : Int) (v1 v2 : nb_V) (M : nb_M) (h1 : l0 ≠ 0) (h2 : (nb_rd M l0 17) ≠ 0) (h3 : (0 : Int) ≤ nb_add l3 1) (h4 : nb_add l3 1 < nb_ln M (nb_rd M l0 17)) :
    nb_R nb_P 142 11 [(20, l0), v1, v2, (0, l3)] [] M = some ([(0, nb_rd M (nb_rd M l0 17) (nb_add l3 1))], M) :=
  nb_step (c := ((true && !decide ((l0 : Int) = 0)) && (!decide ((nb_rd M l0 17 : Int) = 0) && (decide ((0 : Int) ≤ nb_add l3 1) && decide (nb_add l3 1 < nb_ln M (nb_rd M l0 17)))))) rfl (by simp [h1, h2, h3, h4])
theorem q_m_person_12 (l0 l3 : Int) (v1 v2 : nb_V) (M : nb_M) (h1 : l0 ≠ 0) (h2 : (nb_rd M l0 17) ≠ 0) (h3 : (0 : Int) ≤ nb_add l3 2) (h4 : nb_add l3 2 < nb_ln M (nb_rd M l0 17)) :
    nb_R nb_P 142 12 [(20, l0), v1, v2, (0, l3)] [] M = some ([(0, nb_rd M (nb_rd M l0 17) (nb_add l3 2))], M) :=
  nb_step (c := ((true && !decide ((l0 : Int) = 0)) && (!decide ((nb_rd M l0 17 : Int) = 0) && (decide ((0 : Int) ≤ nb_add l3 2) && decide (nb_add l3 2 < nb_ln M (nb_rd M l0 17)))))) rfl (by simp [h1, h2, h3, h4])
theorem q_m_person_13 (l0 l3 : Int) (v1 v2 : nb_V) (M : nb_M) (h1 : l0 ≠ 0) (h2 : (nb_rd M l0 17) ≠ 0) (h3 : (0 : Int) ≤ nb_add l3 3) (h4 : nb_add l3 3 < nb_ln M (nb_rd M l0 17)) :
    nb_R nb_P 142 13 [(20, l0), v1, v2, (0, l3)] [] M = some ([(0, nb_rd M (nb_rd M l0 17) (nb_add l3 3))], M) :=
  nb_step (c := ((true && !decide ((l0 : Int) = 0)) && (!decide ((nb_rd M l0 17 : Int) = 0) && (decide ((0 : Int) ≤ nb_add l3 3) && decide (nb_add l3 3 < nb_ln M (nb_rd M l0 17)))))) rfl (by simp [h1, h2, h3, h4])
theorem q_m_person_14 (l0 l3 : Int) (v1 v2 : nb_V) (M : nb_M) (h1 : l0 ≠ 0) (h2 : (nb_rd M l0 17) ≠ 0) (h3 : (0 : Int) ≤ nb_add l3 4) (h4 : nb_add l3 4 < nb_ln M (nb_rd M l0 17)) :
    nb_R nb_P 142 14 [(20, l0), v1, v2, (0, l3)] [] M = some ([(0, nb_rd M (nb_rd M l0 17) (nb_add l3 4))], M) :=
  nb_step (c := ((true && !decide ((l0 : Int) = 0)) && (!decide ((nb_rd M l0 17 : Int) = 0) && (decide ((0 : Int) ≤ nb_add l3 4) && decide (nb_add l3 4 < nb_ln M (nb_rd M l0 17)))))) rfl (by simp [h1, h2, h3, h4])
theorem q_m_person_15 (l0 l3 : Int) (v1 v2 : nb_V) (M : nb_M) (h1 : l0 ≠ 0) (h2 : (nb_rd M l0 17) ≠ 0) (h3 : (0 : Int) ≤ nb_add l3 5) (h4 : nb_add l3 5 < nb_ln M (nb_rd M l0 17)) :
    nb_R nb_P 142 15 [(20, l0), v1, v2, (0, l3)] [] M = some ([(0, nb_rd M (nb_rd M l0 17) (nb_add l3 5))], M) :=
  nb_step (c := ((true && !decide ((l0 : Int) = 0)) && (!decide ((nb_rd M l0 17 : Int) = 0) && (decide ((0 : Int) ≤ nb_add l3 5) && decide (nb_add l3 5 < nb_ln M (nb_rd M l0 17)))))) rfl (by simp [h1, h2, h3, h4])
theorem q_m_person_16 (l0 : Int) (v1 v2 v3 : nb_V) (M : nb_M) (h1 : l0 ≠ 0) :
    nb_R nb_P 142 16 [(20, l0), v1, v2, v3] [] M = (nb_R nb_P 80 0 [(20, l0), (0, 1)] [] M).bind fun r => nb_R nb_P 142 17 [(20, l0), v1, v2, v3] (r.1 ++ []) r.2 :=
  nb_stepC (c := true) (L2 := [(20, l0), v1, v2, v3]) (S2 := [(0, 1), (20, l0)]) (M2 := M) (t := 17) (cl := 80) (vi := true) rfl rfl (nb_inv_eq (n := 2) rfl rfl rfl rfl rfl rfl (fun _ => h1) rfl)
theorem q_m_person_17 (s0 : Int) (v0 v1 v2 v3 : nb_V) (M : nb_M) :
    nb_R nb_P 142 17 [v0, v1, v2, v3] [(0, s0)] M = some ([(0, s0)], M) :=
  nb_step (c := true) rfl rfl
theorem q_m_elbows_0 (l0 l1 : Int) (v2 v3 : nb_V) (M : nb_M) (h1 : l0 ≠ 0) :
    nb_R nb_P 144 0 [(20, l0), (0, l1), v2, v3] [] M = (nb_R nb_P 79 0 [(20, l0)] [] M).bind fun r => nb_R nb_P 144 1 [(20, l0), (0, l1), v2, v3] (r.1 ++ []) r.2 :=
  nb_stepC (c := true) (L2 := [(20, l0), (0, l1), v2, v3]) (S2 := [(20, l0)]) (M2 := M) (t := 1) (cl := 79) (vi := true) rfl rfl (nb_inv_eq (n := 1) rfl rfl rfl rfl rfl rfl (fun _ => h1) rfl)
theorem q_m_elbows_1 (l0 l1 : Int) (v2 v3 : nb_V) (M : nb_M) (h1 : l0 ≠ 0) :
    nb_R nb_P 144 1 [(20, l0), (0, l1), v2, v3] [] M = (nb_R nb_P 118 0 [(20, l0), (0, l1)] [] M).bind fun r => nb_R nb_P 144 2 [(20, l0), (0, l1), v2, v3] (r.1 ++ []) r.2 :=
  nb_stepC (c := true) (L2 := [(20, l0), (0, l1), v2, v3]) (S2 := [(0, l1), (20, l0)]) (M2 := M) (t := 2) (cl := 118) (vi := true) rfl rfl (nb_inv_eq (n := 2) rfl rfl rfl rfl rfl rfl (fun _ => h1) rfl)
theorem q_m_elbows_2 (l0 l1 s0 : Int) (v2 v3 : nb_V) (M : nb_M) :
    nb_R nb_P 144 2 [(20, l0), (0, l1), v2, v3] [(0, s0)] M = if s0 = 0 then nb_R nb_P 144 3 [(20, l0), (0, l1), v2, v3] [] M else nb_R nb_P 144 5 [(20, l0), (0, l1), v2, v3] [] M :=
  nb_step (c := true) rfl rfl
theorem q_m_elbows_3 (l0 : Int) (v1 v2 v3 : nb_V) (M : nb_M) (h1 : l0 ≠ 0) :
    nb_R nb_P 144 3 [(20, l0), v1, v2, v3] [] M = (nb_R nb_P 80 0 [(20, l0), (0, 1)] [] M).bind fun r => nb_R nb_P 144 4 [(20, l0), v1, v2, v3] (r.1 ++ []) r.2 :=
  nb_stepC (c := true) (L2 := [(20, l0), v1, v2, v3]) (S2 := [(0, 1), (20, l0)]) (M2 := M) (t := 4) (cl := 80) (vi := true) rfl rfl (nb_inv_eq (n := 2) rfl rfl rfl rfl rfl rfl (fun _ => h1) rfl)
theorem q_m_elbows_4 (s0 : Int) (v0 v1 v2 v3 : nb_V) (M : nb_M) :
    nb_R nb_P 144 4 [v0, v1, v2, v3] [(0, s0)] M = some ([(0, s0)], M) :=
  nb_step (c := true) rfl rfl
theorem q_m_elbows_5 (l0 l1 : Int) (v2 v3 : nb_V) (M : nb_M) :
    nb_R nb_P 144 5 [(20, l0), (0, l1), v2, v3] [] M = nb_R nb_P 144 6 [(20, l0), (0, l1), (0, 0), (0, 0)] [] M :=
  nb_step (c := true) rfl rfl
theorem q_m_elbows_6 (l0 l1 l2 l3 : Int) (M : nb_M) (h1 : l0 ≠ 0) (h2 : (nb_rd M l0 15) ≠ 0) (h3 : (0 : Int) ≤ 5) (h4 : 5 < nb_ln M (nb_rd M l0 15)) :
    nb_R nb_P 144 6 [(20, l0), (0, l1), (0, l2), (0, l3)] [] M = if l3 < nb_rd M (nb_rd M l0 15) 5 then nb_R nb_P 144 7 [(20, l0), (0, l1), (0, l2), (0, l3)] [] M else nb_R nb_P 144 14 [(20, l0), (0, l1), (0, l2), (0, l3)] [] M :=
  nb_step (c := ((true && !decide ((l0 : Int) = 0)) && (!decide ((nb_rd M l0 15 : Int) = 0) && (decide ((0 : Int) ≤ 5) && decide (5 < nb_ln M (nb_rd M l0 15)))))) rfl (by simp [h1, h2, h3, h4])
theorem q_m_elbows_7 (l0 l1 l2 l3 : Int) (M : nb_M) (h1 : l0 ≠ 0) :
    nb_R nb_P 144 7 [(20, l0), (0, l1), (0, l2), (0, l3)] [] M = (nb_R nb_P 126 0 [(3, nb_rd M l0 17), (0, l3)] [] M).bind fun r => nb_R nb_P 144 8 [(20, l0), (0, l1), (0, l2), (0, l3)] (r.1 ++ [(0, l2)]) r.2 :=
  nb_stepC (c := (true && !decide ((l0 : Int) = 0))) (L2 := [(20, l0), (0, l1), (0, l2), (0, l3)]) (S2 := [(0, l3), (3, nb_rd M l0 17), (0, l2)]) (M2 := M) (t := 8) (cl := 126) (vi := false) rfl (by simp [h1]) (nb_inv_eq (n := 2) rfl rfl rfl rfl rfl rfl (fun h => by cases h) rfl)
theorem q_m_elbows_8 (l0 l1 l3 s0 s1 : Int) (v2 : nb_V) (M : nb_M) :
    nb_R nb_P 144 8 [(20, l0), (0, l1), v2, (0, l3)] [(0, s0), (0, s1)] M = if s0 = 0 then nb_R nb_P 144 12 [(20, l0), (0, l1), v2, (0, l3)] [(0, s1)] M else nb_R nb_P 144 9 [(20, l0), (0, l1), v2, (0, l3)] [(0, s1)] M :=
  nb_step (c := true) rfl rfl
theorem q_m_elbows_9 (l0 l1 l3 s0 : Int) (v2 : nb_V) (M : nb_M) (h1 : l0 ≠ 0) :
    nb_R nb_P 144 9 [(20, l0), (0, l1), v2, (0, l3)] [(0, s0)] M = (nb_R nb_P 125 0 [(3, nb_rd M l0 17), (0, l3), (0, 1)] [] M).bind fun r => nb_R nb_P 144 10 [(20, l0), (0, l1), v2, (0, l3)] (r.1 ++ [(0, s0)]) r.2 :=
  nb_stepC (c := (true && !decide ((l0 : Int) = 0))) (L2 := [(20, l0), (0, l1), v2, (0, l3)]) (S2 := [(0, 1), (0, l3), (3, nb_rd M l0 17), (0, s0)]) (M2 := M) (t := 10) (cl := 125) (vi := false) rfl (by simp [h1]) (nb_inv_eq (n := 3) rfl rfl rfl rfl rfl rfl (fun h => by cases h) rfl)
theorem q_m_elbows_10 (l0 l1 l3 s0 s1 : Int) (v2 : nb_V) (M : nb_M) :
    nb_R nb_P 144 10 [(20, l0), (0, l1), v2, (0, l3)] [(0, s0), (0, s1)] M = if s0 = l1 then nb_R nb_P 144 11 [(20, l0), (0, l1), v2, (0, l3)] [(0, s1)] M else nb_R nb_P 144 12 [(20, l0), (0, l1), v2, (0, l3)] [(0, s1)] M :=
  nb_step (c := true) rfl rfl
theorem q_m_elbows_11 (l0 l1 l3 s0 : Int) (v2 : nb_V) (M : nb_M) :
    nb_R nb_P 144 11 [(20, l0), (0, l1), v2, (0, l3)] [(0, s0)] M = nb_R nb_P 144 13 [(20, l0), (0, l1), v2, (0, l3)] [(0, 1), (0, s0)] M :=
  nb_step (c := true) rfl rfl
theorem q_m_elbows_12 (l0 l1 l3 s0 : Int) (v2 : nb_V) (M : nb_M) :
    nb_R nb_P 144 12 [(20, l0), (0, l1), v2, (0, l3)] [(0, s0)] M = nb_R nb_P 144 13 [(20, l0), (0, l1), v2, (0, l3)] [(0, 0), (0, s0)] M :=
  nb_step (c := true) rfl rfl
theorem q_m_elbows_13 (l0 l1 l3 s0 s1 : Int) (v2 : nb_V) (M : nb_M) :
    nb_R nb_P 144 13 [(20, l0), (0, l1), v2, (0, l3)] [(0, s0), (0, s1)] M = nb_R nb_P 144 6 [(20, l0), (0, l1), (0, nb_add s1 s0), (0, nb_add l3 1)] [] M :=
  nb_step (c := true) rfl rfl
theorem q_m_elbows_14 (l2 : Int) (v0 v1 v3 : nb_V) (M : nb_M) :
    nb_R nb_P 144 14 [v0, v1, (0, l2), v3] [] M = some ([(0, l2)], M) :=
  nb_step (c := true) rfl rfl
theorem q_m_waiting_0 (l0 : Int) (M : nb_M) (h1 : l0 ≠ 0) :
    nb_R nb_P 146 0 [(20, l0)] [] M = (nb_R nb_P 79 0 [(20, l0)] [] M).bind fun r => nb_R nb_P 146 1 [(20, l0)] (r.1 ++ []) r.2 :=
  nb_stepC (c := true) (L2 := [(20, l0)]) (S2 := [(20, l0)]) (M2 := M) (t := 1) (cl := 79) (vi := true) rfl rfl (nb_inv_eq (n := 1) rfl rfl rfl rfl rfl rfl (fun _ => h1) rfl)
theorem q_m_waiting_1 (l0 : Int) (M : nb_M) (h1 : l0 ≠ 0) :
    nb_R nb_P 146 1 [(20, l0)] [] M = if nb_rd M l0 14 = 0 then nb_R nb_P 146 4 [(20, l0)] [] M else nb_R nb_P 146 2 [(20, l0)] [] M :=
  nb_step (c := (true && !decide ((l0 : Int) = 0))) rfl (by simp [h1])
theorem q_m_waiting_2 (l0 : Int) (M : nb_M) (h1 : l0 ≠ 0) :
    nb_R nb_P 146 2 [(20, l0)] [] M = (nb_R nb_P 145 0 [(20, l0), (3, nb_rd M l0 17), (98, 0), (98, 0)] [] M).bind fun r => nb_R nb_P 146 3 [(20, l0)] (r.1 ++ []) r.2 :=
  nb_stepC (c := (true && !decide ((l0 : Int) = 0))) (L2 := [(20, l0)]) (S2 := [(3, nb_rd M l0 17), (20, l0)]) (M2 := M) (t := 3) (cl := 145) (vi := true) rfl (by simp [h1]) (nb_inv_eq (n := 2) rfl rfl rfl rfl rfl rfl (fun _ => h1) rfl)
theorem q_m_waiting_3 (s0 : Int) (v0 : nb_V) (M : nb_M) :
    nb_R nb_P 146 3 [v0] [(0, s0)] M = nb_R nb_P 146 5 [v0] [(0, s0)] M :=
  nb_step (c := true) rfl rfl
theorem q_m_waiting_4 (l0 : Int) (M : nb_M) (h1 : l0 ≠ 0) :
    nb_R nb_P 146 4 [(20, l0)] [] M = (nb_R nb_P 80 0 [(20, l0), (0, 1)] [] M).bind fun r => nb_R nb_P 146 5 [(20, l0)] (r.1 ++ []) r.2 :=
  nb_stepC (c := true) (L2 := [(20, l0)]) (S2 := [(0, 1), (20, l0)]) (M2 := M) (t := 5) (cl := 80) (vi := true) rfl rfl (nb_inv_eq (n := 2) rfl rfl rfl rfl rfl rfl (fun _ => h1) rfl)
theorem q_m_waiting_5 (s0 : Int) (v0 : nb_V) (M : nb_M) :
    nb_R nb_P 146 5 [v0] [(0, s0)] M = some ([(0, s0)], M) :=
  nb_step (c := true) rfl rfl
theorem q_m_time_0 (l0 l1 l2 : Int) (M : nb_M) (h1 : l0 ≠ 0) :
    nb_R nb_P 148 0 [(20, l0), (0, l1), (0, l2)] [] M = (nb_R nb_P 79 0 [(20, l0)] [] M).bind fun r => nb_R nb_P 148 1 [(20, l0), (0, l1), (0, l2)] (r.1 ++ []) r.2 :=
  nb_stepC (c := true) (L2 := [(20, l0), (0, l1), (0, l2)]) (S2 := [(20, l0)]) (M2 := M) (t := 1) (cl := 79) (vi := true) rfl rfl (nb_inv_eq (n := 1) rfl rfl rfl rfl rfl rfl (fun _ => h1) rfl)
theorem q_m_time_1 (l0 l1 l2 : Int) (M : nb_M) (h1 : l0 ≠ 0) :
    nb_R nb_P 148 1 [(20, l0), (0, l1), (0, l2)] [] M = (nb_R nb_P 117 0 [(20, l0), (0, l1)] [] M).bind fun r => nb_R nb_P 148 2 [(20, l0), (0, l1), (0, l2)] (r.1 ++ []) r.2 :=
  nb_stepC (c := true) (L2 := [(20, l0), (0, l1), (0, l2)]) (S2 := [(0, l1), (20, l0)]) (M2 := M) (t := 2) (cl := 117) (vi := true) rfl rfl (nb_inv_eq (n := 2) rfl rfl rfl rfl rfl rfl (fun _ => h1) rfl)
theorem q_m_time_2 (l0 l1 l2 s0 : Int) (M : nb_M) :
    nb_R nb_P 148 2 [(20, l0), (0, l1), (0, l2)] [(0, s0)] M = if s0 = 0 then nb_R nb_P 148 7 [(20, l0), (0, l1), (0, l2)] [] M else nb_R nb_P 148 3 [(20, l0), (0, l1), (0, l2)] [] M :=
  nb_step (c := true) rfl rfl
theorem q_m_time_3 (l0 l1 l2 : Int) (M : nb_M) (h1 : l0 ≠ 0) :
    nb_R nb_P 148 3 [(20, l0), (0, l1), (0, l2)] [] M = (nb_R nb_P 116 0 [(20, l0), (0, l2)] [] M).bind fun r => nb_R nb_P 148 4 [(20, l0), (0, l1), (0, l2)] (r.1 ++ []) r.2 :=
  nb_stepC (c := true) (L2 := [(20, l0), (0, l1), (0, l2)]) (S2 := [(0, l2), (20, l0)]) (M2 := M) (t := 4) (cl := 116) (vi := true) rfl rfl (nb_inv_eq (n := 2) rfl rfl rfl rfl rfl rfl (fun _ => h1) rfl)
theorem q_m_time_4 (l0 l1 l2 s0 : Int) (M : nb_M) :
    nb_R nb_P 148 4 [(20, l0), (0, l1), (0, l2)] [(0, s0)] M = if s0 = 0 then nb_R nb_P 148 7 [(20, l0), (0, l1), (0, l2)] [] M else nb_R nb_P 148 5 [(20, l0), (0, l1), (0, l2)] [] M :=
  nb_step (c := true) rfl rfl
theorem q_m_time_5 (l0 l1 l2 : Int) (M : nb_M) (h1 : l0 ≠ 0) :
    nb_R nb_P 148 5 [(20, l0), (0, l1), (0, l2)] [] M = (nb_R nb_P 128 0 [(20, l0), (3, nb_rd M l0 17), (0, l1), (0, l2), (98, 0)] [] M).bind fun r => nb_R nb_P 148 6 [(20, l0), (0, l1), (0, l2)] (r.1 ++ []) r.2 :=
  nb_stepC (c := (true && !decide ((l0 : Int) = 0))) (L2 := [(20, l0), (0, l1), (0, l2)]) (S2 := [(0, l2), (0, l1), (3, nb_rd M l0 17), (20, l0)]) (M2 := M) (t := 6) (cl := 128) (vi := true) rfl (by simp [h1]) (nb_inv_eq (n := 4) rfl rfl rfl rfl rfl rfl (fun _ => h1) rfl)
theorem q_m_time_6 (s0 : Int) (v0 v1 v2 : nb_V) (M : nb_M) :
    nb_R nb_P 148 6 [v0, v1, v2] [(0, s0)] M = nb_R nb_P 148 8 [v0, v1, v2] [(0, s0)] M :=
  nb_step (c := true) rfl rfl
theorem q_m_time_7 (l0 : Int) (v1 v2 : nb_V) (M : nb_M) (h1 : l0 ≠ 0) :
    nb_R nb_P 148 7 [(20, l0), v1, v2] [] M = (nb_R nb_P 80 0 [(20, l0), (0, 1)] [] M).bind fun r => nb_R nb_P 148 8 [(20, l0), v1, v2] (r.1 ++ []) r.2 :=
  nb_stepC (c := true) (L2 := [(20, l0), v1, v2]) (S2 := [(0, 1), (20, l0)]) (M2 := M) (t := 8) (cl := 80) (vi := true) rfl rfl (nb_inv_eq (n := 2) rfl rfl rfl rfl rfl rfl (fun _ => h1) rfl)
theorem q_m_time_8 (s0 : Int) (v0 v1 v2 : nb_V) (M : nb_M) :
    nb_R nb_P 148 8 [v0, v1, v2] [(0, s0)] M = some ([(0, s0)], M) :=
  nb_step (c := true) rfl rfl
theorem q_m_tellEvening_0 (l0 : Int) (M : nb_M) (h1 : l0 ≠ 0) :
    nb_R nb_P 150 0 [(20, l0)] [] M = (nb_R nb_P 121 0 [(20, l0)] [] M).bind fun r => nb_R nb_P 150 1 [(20, l0)] (r.1 ++ []) r.2 :=
  nb_stepC (c := true) (L2 := [(20, l0)]) (S2 := [(20, l0)]) (M2 := M) (t := 1) (cl := 121) (vi := true) rfl rfl (nb_inv_eq (n := 1) rfl rfl rfl rfl rfl rfl (fun _ => h1) rfl)
theorem q_m_tellEvening_1 (l0 : Int) (M : nb_M) (h1 : l0 ≠ 0) (h2 : (nb_rd M l0 15) ≠ 0) (h3 : (0 : Int) ≤ 2) (h4 : 2 < nb_ln M (nb_rd M l0 15)) :
    nb_R nb_P 150 1 [(20, l0)] [] M = nb_R nb_P 150 2 [(20, l0)] [] (nb_wr M l0 26 (nb_rd M (nb_rd M l0 15) 2)) :=
  nb_step (c := (((true && !decide ((l0 : Int) = 0)) && (!decide ((nb_rd M l0 15 : Int) = 0) && (decide ((0 : Int) ≤ 2) && decide (2 < nb_ln M (nb_rd M l0 15))))) && (!decide ((l0 : Int) = 0) && (!false || (decide ((nb_rd M (nb_rd M l0 15) 2 : Int) = 0) || decide ((nb_rd M (nb_rd M l0 15) 2 : Int) = 1)))))) rfl (by simp [h1, h2, h3, h4])
theorem q_m_tellEvening_2 (l0 : Int) (M : nb_M) (h1 : l0 ≠ 0) :
    nb_R nb_P 150 2 [(20, l0)] [] M = (nb_R nb_P 134 0 [(20, l0)] [] M).bind fun r => nb_R nb_P 150 3 [(20, l0)] (r.1 ++ []) r.2 :=
  nb_stepC (c := true) (L2 := [(20, l0)]) (S2 := [(20, l0)]) (M2 := M) (t := 3) (cl := 134) (vi := true) rfl rfl (nb_inv_eq (n := 1) rfl rfl rfl rfl rfl rfl (fun _ => h1) rfl)
theorem q_m_tellEvening_3 (v0 : nb_V) (M : nb_M) :
    nb_R nb_P 150 3 [v0] [] M = some ([], M) :=
  nb_step (c := true) rfl rfl
theorem q_m_waits_0 (l0 l1 : Int) (M : nb_M) (h1 : l0 ≠ 0) :
    nb_R nb_P 152 0 [(20, l0), (0, l1)] [] M = (nb_R nb_P 79 0 [(20, l0)] [] M).bind fun r => nb_R nb_P 152 1 [(20, l0), (0, l1)] (r.1 ++ []) r.2 :=
  nb_stepC (c := true) (L2 := [(20, l0), (0, l1)]) (S2 := [(20, l0)]) (M2 := M) (t := 1) (cl := 79) (vi := true) rfl rfl (nb_inv_eq (n := 1) rfl rfl rfl rfl rfl rfl (fun _ => h1) rfl)
theorem q_m_waits_1 (l0 l1 : Int) (M : nb_M) (h1 : l0 ≠ 0) :
    nb_R nb_P 152 1 [(20, l0), (0, l1)] [] M = (nb_R nb_P 116 0 [(20, l0), (0, l1)] [] M).bind fun r => nb_R nb_P 152 2 [(20, l0), (0, l1)] (r.1 ++ []) r.2 :=
  nb_stepC (c := true) (L2 := [(20, l0), (0, l1)]) (S2 := [(0, l1), (20, l0)]) (M2 := M) (t := 2) (cl := 116) (vi := true) rfl rfl (nb_inv_eq (n := 2) rfl rfl rfl rfl rfl rfl (fun _ => h1) rfl)
theorem q_m_waits_2 (l0 l1 s0 : Int) (M : nb_M) :
    nb_R nb_P 152 2 [(20, l0), (0, l1)] [(0, s0)] M = if s0 = 0 then nb_R nb_P 152 3 [(20, l0), (0, l1)] [] M else nb_R nb_P 152 5 [(20, l0), (0, l1)] [] M :=
  nb_step (c := true) rfl rfl
theorem q_m_waits_3 (l0 : Int) (v1 : nb_V) (M : nb_M) (h1 : l0 ≠ 0) :
    nb_R nb_P 152 3 [(20, l0), v1] [] M = (nb_R nb_P 80 0 [(20, l0), (0, 1)] [] M).bind fun r => nb_R nb_P 152 4 [(20, l0), v1] (r.1 ++ []) r.2 :=
  nb_stepC (c := true) (L2 := [(20, l0), v1]) (S2 := [(0, 1), (20, l0)]) (M2 := M) (t := 4) (cl := 80) (vi := true) rfl rfl (nb_inv_eq (n := 2) rfl rfl rfl rfl rfl rfl (fun _ => h1) rfl)
theorem q_m_waits_4 (s0 : Int) (v0 v1 : nb_V) (M : nb_M) :
    nb_R nb_P 152 4 [v0, v1] [(0, s0)] M = some ([(0, s0)], M) :=
  nb_step (c := true) rfl rfl
theorem q_m_waits_5 (l0 l1 : Int) (M : nb_M) (h1 : l0 ≠ 0) :
    nb_R nb_P 152 5 [(20, l0), (0, l1)] [] M = (nb_R nb_P 150 0 [(20, l0)] [] M).bind fun r => nb_R nb_P 152 6 [(20, l0), (0, l1)] (r.1 ++ []) r.2 :=
  nb_stepC (c := true) (L2 := [(20, l0), (0, l1)]) (S2 := [(20, l0)]) (M2 := M) (t := 6) (cl := 150) (vi := true) rfl rfl (nb_inv_eq (n := 1) rfl rfl rfl rfl rfl rfl (fun _ => h1) rfl)
theorem q_m_waits_6 (l0 l1 : Int) (M : nb_M) (h1 : l0 ≠ 0) :
    nb_R nb_P 152 6 [(20, l0), (0, l1)] [] M = (nb_R nb_P 136 0 [(20, l0), (0, l1), (98, 0)] [] M).bind fun r => nb_R nb_P 152 7 [(20, l0), (0, l1)] (r.1 ++ []) r.2 :=
  nb_stepC (c := true) (L2 := [(20, l0), (0, l1)]) (S2 := [(0, l1), (20, l0)]) (M2 := M) (t := 7) (cl := 136) (vi := true) rfl rfl (nb_inv_eq (n := 2) rfl rfl rfl rfl rfl rfl (fun _ => h1) rfl)
theorem q_m_waits_7 (s0 : Int) (v0 v1 : nb_V) (M : nb_M) :
    nb_R nb_P 152 7 [v0, v1] [(0, s0)] M = some ([(0, s0)], M) :=
  nb_step (c := true) rfl rfl
theorem q_m_has_0 (l0 l1 : Int) (M : nb_M) (h1 : l0 ≠ 0) :
    nb_R nb_P 154 0 [(20, l0), (0, l1)] [] M = (nb_R nb_P 79 0 [(20, l0)] [] M).bind fun r => nb_R nb_P 154 1 [(20, l0), (0, l1)] (r.1 ++ []) r.2 :=
  nb_stepC (c := true) (L2 := [(20, l0), (0, l1)]) (S2 := [(20, l0)]) (M2 := M) (t := 1) (cl := 79) (vi := true) rfl rfl (nb_inv_eq (n := 1) rfl rfl rfl rfl rfl rfl (fun _ => h1) rfl)
theorem q_m_has_1 (l0 l1 : Int) (M : nb_M) (h1 : l0 ≠ 0) :
    nb_R nb_P 154 1 [(20, l0), (0, l1)] [] M = (nb_R nb_P 116 0 [(20, l0), (0, l1)] [] M).bind fun r => nb_R nb_P 154 2 [(20, l0), (0, l1)] (r.1 ++ []) r.2 :=
  nb_stepC (c := true) (L2 := [(20, l0), (0, l1)]) (S2 := [(0, l1), (20, l0)]) (M2 := M) (t := 2) (cl := 116) (vi := true) rfl rfl (nb_inv_eq (n := 2) rfl rfl rfl rfl rfl rfl (fun _ => h1) rfl)
theorem q_m_has_2 (l0 l1 s0 : Int) (M : nb_M) :
    nb_R nb_P 154 2 [(20, l0), (0, l1)] [(0, s0)] M = if s0 = 0 then nb_R nb_P 154 3 [(20, l0), (0, l1)] [] M else nb_R nb_P 154 5 [(20, l0), (0, l1)] [] M :=
  nb_step (c := true) rfl rfl
theorem q_m_has_3 (l0 : Int) (v1 : nb_V) (M : nb_M) (h1 : l0 ≠ 0) :
    nb_R nb_P 154 3 [(20, l0), v1] [] M = (nb_R nb_P 80 0 [(20, l0), (0, 1)] [] M).bind fun r => nb_R nb_P 154 4 [(20, l0), v1] (r.1 ++ []) r.2 :=
  nb_stepC (c := true) (L2 := [(20, l0), v1]) (S2 := [(0, 1), (20, l0)]) (M2 := M) (t := 4) (cl := 80) (vi := true) rfl rfl (nb_inv_eq (n := 2) rfl rfl rfl rfl rfl rfl (fun _ => h1) rfl)
theorem q_m_has_4 (s0 : Int) (v0 v1 : nb_V) (M : nb_M) :
    nb_R nb_P 154 4 [v0, v1] [(0, s0)] M = some ([(0, s0)], M) :=
  nb_step (c := true) rfl rfl
theorem q_m_has_5 (l0 l1 : Int) (M : nb_M) (h1 : l0 ≠ 0) :
    nb_R nb_P 154 5 [(20, l0), (0, l1)] [] M = (nb_R nb_P 150 0 [(20, l0)] [] M).bind fun r => nb_R nb_P 154 6 [(20, l0), (0, l1)] (r.1 ++ []) r.2 :=
  nb_stepC (c := true) (L2 := [(20, l0), (0, l1)]) (S2 := [(20, l0)]) (M2 := M) (t := 6) (cl := 150) (vi := true) rfl rfl (nb_inv_eq (n := 1) rfl rfl rfl rfl rfl rfl (fun _ => h1) rfl)
theorem q_m_has_6 (l0 l1 : Int) (M : nb_M) (h1 : l0 ≠ 0) :
    nb_R nb_P 154 6 [(20, l0), (0, l1)] [] M = (nb_R nb_P 125 0 [(3, nb_rd M l0 18), (0, l1), (0, 5)] [] M).bind fun r => nb_R nb_P 154 7 [(20, l0), (0, l1)] (r.1 ++ []) r.2 :=
  nb_stepC (c := (true && !decide ((l0 : Int) = 0))) (L2 := [(20, l0), (0, l1)]) (S2 := [(0, 5), (0, l1), (3, nb_rd M l0 18)]) (M2 := M) (t := 7) (cl := 125) (vi := false) rfl (by simp [h1]) (nb_inv_eq (n := 3) rfl rfl rfl rfl rfl rfl (fun h => by cases h) rfl)
theorem q_m_has_7 (s0 : Int) (v0 v1 : nb_V) (M : nb_M) :
    nb_R nb_P 154 7 [v0, v1] [(0, s0)] M = some ([(0, s0)], M) :=
  nb_step (c := true) rfl rfl
theorem q_m_pushed_0 (l0 l1 : Int) (M : nb_M) (h1 : l0 ≠ 0) :
    nb_R nb_P 156 0 [(20, l0), (0, l1)] [] M = (nb_R nb_P 79 0 [(20, l0)] [] M).bind fun r => nb_R nb_P 156 1 [(20, l0), (0, l1)] (r.1 ++ []) r.2 :=
  nb_stepC (c := true) (L2 := [(20, l0), (0, l1)]) (S2 := [(20, l0)]) (M2 := M) (t := 1) (cl := 79) (vi := true) rfl rfl (nb_inv_eq (n := 1) rfl rfl rfl rfl rfl rfl (fun _ => h1) rfl)
theorem q_m_pushed_1 (l0 l1 : Int) (M : nb_M) (h1 : l0 ≠ 0) :
    nb_R nb_P 156 1 [(20, l0), (0, l1)] [] M = (nb_R nb_P 116 0 [(20, l0), (0, l1)] [] M).bind fun r => nb_R nb_P 156 2 [(20, l0), (0, l1)] (r.1 ++ []) r.2 :=
  nb_stepC (c := true) (L2 := [(20, l0), (0, l1)]) (S2 := [(0, l1), (20, l0)]) (M2 := M) (t := 2) (cl := 116) (vi := true) rfl rfl (nb_inv_eq (n := 2) rfl rfl rfl rfl rfl rfl (fun _ => h1) rfl)
theorem q_m_pushed_2 (l0 l1 s0 : Int) (M : nb_M) :
    nb_R nb_P 156 2 [(20, l0), (0, l1)] [(0, s0)] M = if s0 = 0 then nb_R nb_P 156 3 [(20, l0), (0, l1)] [] M else nb_R nb_P 156 5 [(20, l0), (0, l1)] [] M :=
  nb_step (c := true) rfl rfl
theorem q_m_pushed_3 (l0 : Int) (v1 : nb_V) (M : nb_M) (h1 : l0 ≠ 0) :
    nb_R nb_P 156 3 [(20, l0), v1] [] M = (nb_R nb_P 80 0 [(20, l0), (0, 1)] [] M).bind fun r => nb_R nb_P 156 4 [(20, l0), v1] (r.1 ++ []) r.2 :=
  nb_stepC (c := true) (L2 := [(20, l0), v1]) (S2 := [(0, 1), (20, l0)]) (M2 := M) (t := 4) (cl := 80) (vi := true) rfl rfl (nb_inv_eq (n := 2) rfl rfl rfl rfl rfl rfl (fun _ => h1) rfl)
theorem q_m_pushed_4 (s0 : Int) (v0 v1 : nb_V) (M : nb_M) :
    nb_R nb_P 156 4 [v0, v1] [(0, s0)] M = some ([(0, s0)], M) :=
  nb_step (c := true) rfl rfl
theorem q_m_pushed_5 (l0 l1 : Int) (M : nb_M) (h1 : l0 ≠ 0) :
    nb_R nb_P 156 5 [(20, l0), (0, l1)] [] M = (nb_R nb_P 150 0 [(20, l0)] [] M).bind fun r => nb_R nb_P 156 6 [(20, l0), (0, l1)] (r.1 ++ []) r.2 :=
  nb_stepC (c := true) (L2 := [(20, l0), (0, l1)]) (S2 := [(20, l0)]) (M2 := M) (t := 6) (cl := 150) (vi := true) rfl rfl (nb_inv_eq (n := 1) rfl rfl rfl rfl rfl rfl (fun _ => h1) rfl)
theorem q_m_pushed_6 (l0 l1 : Int) (M : nb_M) (h1 : l0 ≠ 0) :
    nb_R nb_P 156 6 [(20, l0), (0, l1)] [] M = (nb_R nb_P 139 0 [(20, l0), (0, l1), (98, 0), (98, 0)] [] M).bind fun r => nb_R nb_P 156 7 [(20, l0), (0, l1)] (r.1 ++ []) r.2 :=
  nb_stepC (c := true) (L2 := [(20, l0), (0, l1)]) (S2 := [(0, l1), (20, l0)]) (M2 := M) (t := 7) (cl := 139) (vi := true) rfl rfl (nb_inv_eq (n := 2) rfl rfl rfl rfl rfl rfl (fun _ => h1) rfl)
theorem q_m_pushed_7 (s0 : Int) (v0 v1 : nb_V) (M : nb_M) :
    nb_R nb_P 156 7 [v0, v1] [(0, s0)] M = some ([(0, s0)], M) :=
  nb_step (c := true) rfl rfl
theorem q_m_served_0 (l0 l1 : Int) (M : nb_M) (h1 : l0 ≠ 0) :
    nb_R nb_P 158 0 [(20, l0), (0, l1)] [] M = (nb_R nb_P 79 0 [(20, l0)] [] M).bind fun r => nb_R nb_P 158 1 [(20, l0), (0, l1)] (r.1 ++ []) r.2 :=
  nb_stepC (c := true) (L2 := [(20, l0), (0, l1)]) (S2 := [(20, l0)]) (M2 := M) (t := 1) (cl := 79) (vi := true) rfl rfl (nb_inv_eq (n := 1) rfl rfl rfl rfl rfl rfl (fun _ => h1) rfl)
theorem q_m_served_1 (l0 l1 : Int) (M : nb_M) (h1 : l0 ≠ 0) :
    nb_R nb_P 158 1 [(20, l0), (0, l1)] [] M = if nb_rd M l0 14 = 0 then nb_R nb_P 158 3 [(20, l0), (0, l1)] [] M else nb_R nb_P 158 2 [(20, l0), (0, l1)] [] M :=
  nb_step (c := (true && !decide ((l0 : Int) = 0))) rfl (by simp [h1])
theorem q_m_served_2 (l0 l1 : Int) (M : nb_M) :
    nb_R nb_P 158 2 [(20, l0), (0, l1)] [] M = if l1 < 0 then nb_R nb_P 158 3 [(20, l0), (0, l1)] [] M else nb_R nb_P 158 5 [(20, l0), (0, l1)] [] M :=
  nb_step (c := true) rfl rfl
theorem q_m_served_3 (l0 : Int) (v1 : nb_V) (M : nb_M) (h1 : l0 ≠ 0) :
    nb_R nb_P 158 3 [(20, l0), v1] [] M = (nb_R nb_P 80 0 [(20, l0), (0, 1)] [] M).bind fun r => nb_R nb_P 158 4 [(20, l0), v1] (r.1 ++ []) r.2 :=
  nb_stepC (c := true) (L2 := [(20, l0), v1]) (S2 := [(0, 1), (20, l0)]) (M2 := M) (t := 4) (cl := 80) (vi := true) rfl rfl (nb_inv_eq (n := 2) rfl rfl rfl rfl rfl rfl (fun _ => h1) rfl)
theorem q_m_served_4 (s0 : Int) (v0 v1 : nb_V) (M : nb_M) :
    nb_R nb_P 158 4 [v0, v1] [(0, s0)] M = some ([(0, s0)], M) :=
  nb_step (c := true) rfl rfl
theorem q_m_served_5 (l0 l1 : Int) (M : nb_M) (h1 : l0 ≠ 0) :
    nb_R nb_P 158 5 [(20, l0), (0, l1)] [] M = (nb_R nb_P 150 0 [(20, l0)] [] M).bind fun r => nb_R nb_P 158 6 [(20, l0), (0, l1)] (r.1 ++ []) r.2 :=
  nb_stepC (c := true) (L2 := [(20, l0), (0, l1)]) (S2 := [(20, l0)]) (M2 := M) (t := 6) (cl := 150) (vi := true) rfl rfl (nb_inv_eq (n := 1) rfl rfl rfl rfl rfl rfl (fun _ => h1) rfl)
theorem q_m_served_6 (l0 l1 : Int) (M : nb_M) (h1 : l0 ≠ 0) (h2 : (nb_rd M l0 18) ≠ 0) (h3 : (0 : Int) ≤ 1) (h4 : 1 < nb_ln M (nb_rd M l0 18)) :
    nb_R nb_P 158 6 [(20, l0), (0, l1)] [] M = if l1 < nb_rd M (nb_rd M l0 18) 1 then nb_R nb_P 158 7 [(20, l0), (0, l1)] [] M else nb_R nb_P 158 8 [(20, l0), (0, l1)] [] M :=
  nb_step (c := ((true && !decide ((l0 : Int) = 0)) && (!decide ((nb_rd M l0 18 : Int) = 0) && (decide ((0 : Int) ≤ 1) && decide (1 < nb_ln M (nb_rd M l0 18)))))) rfl (by simp [h1, h2, h3, h4])
theorem q_m_served_7 (l0 l1 : Int) (M : nb_M) (h1 : l0 ≠ 0) (h2 : (nb_rd M l0 18) ≠ 0) (h3 : (0 : Int) ≤ nb_add 2 l1) (h4 : nb_add 2 l1 < nb_ln M (nb_rd M l0 18)) :
    nb_R nb_P 158 7 [(20, l0), (0, l1)] [] M = nb_R nb_P 158 9 [(20, l0), (0, l1)] [(0, nb_rd M (nb_rd M l0 18) (nb_add 2 l1))] M :=
  nb_step (c := ((true && !decide ((l0 : Int) = 0)) && (!decide ((nb_rd M l0 18 : Int) = 0) && (decide ((0 : Int) ≤ nb_add 2 l1) && decide (nb_add 2 l1 < nb_ln M (nb_rd M l0 18)))))) rfl (by simp [h1, h2, h3, h4])
theorem q_m_served_8 (l0 : Int) (v1 : nb_V) (M : nb_M) (h1 : l0 ≠ 0) :
    nb_R nb_P 158 8 [(20, l0), v1] [] M = (nb_R nb_P 80 0 [(20, l0), (0, 1)] [] M).bind fun r => nb_R nb_P 158 9 [(20, l0), v1] (r.1 ++ []) r.2 :=
  nb_stepC (c := true) (L2 := [(20, l0), v1]) (S2 := [(0, 1), (20, l0)]) (M2 := M) (t := 9) (cl := 80) (vi := true) rfl rfl (nb_inv_eq (n := 2) rfl rfl rfl rfl rfl rfl (fun _ => h1) rfl)
theorem q_m_served_9 (s0 : Int) (v0 v1 : nb_V) (M : nb_M) :
    nb_R nb_P 158 9 [v0, v1] [(0, s0)] M = some ([(0, s0)], M) :=
  nb_step (c := true) rfl rfl
theorem q_m_bell_0 (l0 l1 l2 : Int) (M : nb_M) (h1 : l0 ≠ 0) :
    nb_R nb_P 160 0 [(20, l0), (0, l1), (0, l2)] [] M = (nb_R nb_P 79 0 [(20, l0)] [] M).bind fun r => nb_R nb_P 160 1 [(20, l0), (0, l1), (0, l2)] (r.1 ++ []) r.2 :=
  nb_stepC (c := true) (L2 := [(20, l0), (0, l1), (0, l2)]) (S2 := [(20, l0)]) (M2 := M) (t := 1) (cl := 79) (vi := true) rfl rfl (nb_inv_eq (n := 1) rfl rfl rfl rfl rfl rfl (fun _ => h1) rfl)
theorem q_m_bell_1 (l0 l1 l2 : Int) (M : nb_M) (h1 : l0 ≠ 0) :
    nb_R nb_P 160 1 [(20, l0), (0, l1), (0, l2)] [] M = if nb_rd M l0 14 = 0 then nb_R nb_P 160 4 [(20, l0), (0, l1), (0, l2)] [] M else nb_R nb_P 160 2 [(20, l0), (0, l1), (0, l2)] [] M :=
  nb_step (c := (true && !decide ((l0 : Int) = 0))) rfl (by simp [h1])
theorem q_m_bell_2 (l0 l1 l2 : Int) (M : nb_M) :
    nb_R nb_P 160 2 [(20, l0), (0, l1), (0, l2)] [] M = (nb_R nb_P 83 0 [(0, l2), (0, 0), (0, 5)] [] M).bind fun r => nb_R nb_P 160 3 [(20, l0), (0, l1), (0, l2)] (r.1 ++ []) r.2 :=
  nb_stepC (c := true) (L2 := [(20, l0), (0, l1), (0, l2)]) (S2 := [(0, 5), (0, 0), (0, l2)]) (M2 := M) (t := 3) (cl := 83) (vi := false) rfl rfl (nb_inv_eq (n := 3) rfl rfl rfl rfl rfl rfl (fun h => by cases h) rfl)
theorem q_m_bell_3 (l0 l1 l2 s0 : Int) (M : nb_M) :
    nb_R nb_P 160 3 [(20, l0), (0, l1), (0, l2)] [(0, s0)] M = if s0 = 0 then nb_R nb_P 160 4 [(20, l0), (0, l1), (0, l2)] [] M else nb_R nb_P 160 6 [(20, l0), (0, l1), (0, l2)] [] M :=
  nb_step (c := true) rfl rfl
theorem q_m_bell_4 (l0 : Int) (v1 v2 : nb_V) (M : nb_M) (h1 : l0 ≠ 0) :
    nb_R nb_P 160 4 [(20, l0), v1, v2] [] M = (nb_R nb_P 80 0 [(20, l0), (0, 1)] [] M).bind fun r => nb_R nb_P 160 5 [(20, l0), v1, v2] (r.1 ++ []) r.2 :=
  nb_stepC (c := true) (L2 := [(20, l0), v1, v2]) (S2 := [(0, 1), (20, l0)]) (M2 := M) (t := 5) (cl := 80) (vi := true) rfl rfl (nb_inv_eq (n := 2) rfl rfl rfl rfl rfl rfl (fun _ => h1) rfl)
theorem q_m_bell_5 (s0 : Int) (v0 v1 v2 : nb_V) (M : nb_M) :
    nb_R nb_P 160 5 [v0, v1, v2] [(0, s0)] M = some ([(0, s0)], M) :=
  nb_step (c := true) rfl rfl
theorem q_m_bell_6 (l0 l1 l2 : Int) (M : nb_M) (h1 : l0 ≠ 0) (h2 : (nb_rd M l0 17) ≠ 0) (h3 : (0 : Int) ≤ 0) (h4 : 0 < nb_ln M (nb_rd M l0 17)) :
    nb_R nb_P 160 6 [(20, l0), (0, l1), (0, l2)] [] M = (nb_R nb_P 83 0 [(0, l1), (0, nb_rd M (nb_rd M l0 17) 0), (0, 900)] [] M).bind fun r => nb_R nb_P 160 7 [(20, l0), (0, l1), (0, l2)] (r.1 ++ []) r.2 :=
  nb_stepC (c := ((true && !decide ((l0 : Int) = 0)) && (!decide ((nb_rd M l0 17 : Int) = 0) && (decide ((0 : Int) ≤ 0) && decide (0 < nb_ln M (nb_rd M l0 17)))))) (L2 := [(20, l0), (0, l1), (0, l2)]) (S2 := [(0, 900), (0, nb_rd M (nb_rd M l0 17) 0), (0, l1)]) (M2 := M) (t := 7) (cl := 83) (vi := false) rfl (by simp [h1, h2, h3, h4]) (nb_inv_eq (n := 3) rfl rfl rfl rfl rfl rfl (fun h => by cases h) rfl)
theorem q_m_bell_7 (l0 l1 l2 s0 : Int) (M : nb_M) :
    nb_R nb_P 160 7 [(20, l0), (0, l1), (0, l2)] [(0, s0)] M = if s0 = 0 then nb_R nb_P 160 8 [(20, l0), (0, l1), (0, l2)] [] M else nb_R nb_P 160 10 [(20, l0), (0, l1), (0, l2)] [] M :=
  nb_step (c := true) rfl rfl
theorem q_m_bell_8 (l0 : Int) (v1 v2 : nb_V) (M : nb_M) (h1 : l0 ≠ 0) :
    nb_R nb_P 160 8 [(20, l0), v1, v2] [] M = (nb_R nb_P 80 0 [(20, l0), (0, 2)] [] M).bind fun r => nb_R nb_P 160 9 [(20, l0), v1, v2] (r.1 ++ []) r.2 :=
  nb_stepC (c := true) (L2 := [(20, l0), v1, v2]) (S2 := [(0, 2), (20, l0)]) (M2 := M) (t := 9) (cl := 80) (vi := true) rfl rfl (nb_inv_eq (n := 2) rfl rfl rfl rfl rfl rfl (fun _ => h1) rfl)
theorem q_m_bell_9 (s0 : Int) (v0 v1 v2 : nb_V) (M : nb_M) :
    nb_R nb_P 160 9 [v0, v1, v2] [(0, s0)] M = some ([(0, s0)], M) :=
  nb_step (c := true) rfl rfl
theorem q_m_bell_10 (l0 l1 l2 : Int) (M : nb_M) (h1 : l0 ≠ 0) :
    nb_R nb_P 160 10 [(20, l0), (0, l1), (0, l2)] [] M = (nb_R nb_P 121 0 [(20, l0)] [] M).bind fun r => nb_R nb_P 160 11 [(20, l0), (0, l1), (0, l2)] (r.1 ++ []) r.2 :=
  nb_stepC (c := true) (L2 := [(20, l0), (0, l1), (0, l2)]) (S2 := [(20, l0)]) (M2 := M) (t := 11) (cl := 121) (vi := true) rfl rfl (nb_inv_eq (n := 1) rfl rfl rfl rfl rfl rfl (fun _ => h1) rfl)
theorem q_m_bell_11 (l0 l1 l2 : Int) (M : nb_M) (h1 : l0 ≠ 0) :
    nb_R nb_P 160 11 [(20, l0), (0, l1), (0, l2)] [] M = nb_R nb_P 160 12 [(20, l0), (0, l1), (0, l2)] [] (nb_wr M l0 26 l1) :=
  nb_step (c := (true && (!decide ((l0 : Int) = 0) && (!false || (decide ((l1 : Int) = 0) || decide ((l1 : Int) = 1)))))) rfl (by simp [h1])
theorem q_m_bell_12 (l0 l2 : Int) (v1 : nb_V) (M : nb_M) (h1 : l0 ≠ 0) :
    nb_R nb_P 160 12 [(20, l0), v1, (0, l2)] [] M = (nb_R nb_P 134 0 [(20, l0)] [] M).bind fun r => nb_R nb_P 160 13 [(20, l0), v1, (0, l2)] (r.1 ++ []) r.2 :=
  nb_stepC (c := true) (L2 := [(20, l0), v1, (0, l2)]) (S2 := [(20, l0)]) (M2 := M) (t := 13) (cl := 134) (vi := true) rfl rfl (nb_inv_eq (n := 1) rfl rfl rfl rfl rfl rfl (fun _ => h1) rfl)
theorem q_m_bell_13 (l0 l2 : Int) (v1 : nb_V) (M : nb_M) (h1 : l0 ≠ 0) :
    nb_R nb_P 160 13 [(20, l0), v1, (0, l2)] [] M = (nb_R nb_P 140 0 [(20, l0), (0, l2), (98, 0), (98, 0), (98, 0)] [] M).bind fun r => nb_R nb_P 160 14 [(20, l0), v1, (0, l2)] (r.1 ++ []) r.2 :=
  nb_stepC (c := true) (L2 := [(20, l0), v1, (0, l2)]) (S2 := [(0, l2), (20, l0)]) (M2 := M) (t := 14) (cl := 140) (vi := true) rfl rfl (nb_inv_eq (n := 2) rfl rfl rfl rfl rfl rfl (fun _ => h1) rfl)
theorem q_m_bell_14 (s0 : Int) (v0 v1 v2 : nb_V) (M : nb_M) :
    nb_R nb_P 160 14 [v0, v1, v2] [(0, s0)] M = some ([(0, s0)], M) :=
  nb_step (c := true) rfl rfl
theorem q_m_by_0 (l0 l1 l2 l3 : Int) (M : nb_M) (h1 : l0 ≠ 0) :
    nb_R nb_P 162 0 [(20, l0), (0, l1), (0, l2), (0, l3)] [] M = (nb_R nb_P 79 0 [(20, l0)] [] M).bind fun r => nb_R nb_P 162 1 [(20, l0), (0, l1), (0, l2), (0, l3)] (r.1 ++ []) r.2 :=
  nb_stepC (c := true) (L2 := [(20, l0), (0, l1), (0, l2), (0, l3)]) (S2 := [(20, l0)]) (M2 := M) (t := 1) (cl := 79) (vi := true) rfl rfl (nb_inv_eq (n := 1) rfl rfl rfl rfl rfl rfl (fun _ => h1) rfl)
theorem q_m_by_1 (l0 l1 l2 l3 : Int) (M : nb_M) (h1 : l0 ≠ 0) :
    nb_R nb_P 162 1 [(20, l0), (0, l1), (0, l2), (0, l3)] [] M = if nb_rd M l0 14 = 0 then nb_R nb_P 162 6 [(20, l0), (0, l1), (0, l2), (0, l3)] [] M else nb_R nb_P 162 2 [(20, l0), (0, l1), (0, l2), (0, l3)] [] M :=
  nb_step (c := (true && !decide ((l0 : Int) = 0))) rfl (by simp [h1])
theorem q_m_by_2 (l0 l1 l2 l3 : Int) (M : nb_M) :
    nb_R nb_P 162 2 [(20, l0), (0, l1), (0, l2), (0, l3)] [] M = (nb_R nb_P 83 0 [(0, l1), (0, 0), (0, 4)] [] M).bind fun r => nb_R nb_P 162 3 [(20, l0), (0, l1), (0, l2), (0, l3)] (r.1 ++ []) r.2 :=
  nb_stepC (c := true) (L2 := [(20, l0), (0, l1), (0, l2), (0, l3)]) (S2 := [(0, 4), (0, 0), (0, l1)]) (M2 := M) (t := 3) (cl := 83) (vi := false) rfl rfl (nb_inv_eq (n := 3) rfl rfl rfl rfl rfl rfl (fun h => by cases h) rfl)
theorem q_m_by_3 (l0 l1 l2 l3 s0 : Int) (M : nb_M) :
    nb_R nb_P 162 3 [(20, l0), (0, l1), (0, l2), (0, l3)] [(0, s0)] M = if s0 = 0 then nb_R nb_P 162 6 [(20, l0), (0, l1), (0, l2), (0, l3)] [] M else nb_R nb_P 162 4 [(20, l0), (0, l1), (0, l2), (0, l3)] [] M :=
  nb_step (c := true) rfl rfl
theorem q_m_by_4 (l0 l1 l2 l3 : Int) (M : nb_M) :
    nb_R nb_P 162 4 [(20, l0), (0, l1), (0, l2), (0, l3)] [] M = (nb_R nb_P 83 0 [(0, l3), (0, 0), (0, 5)] [] M).bind fun r => nb_R nb_P 162 5 [(20, l0), (0, l1), (0, l2), (0, l3)] (r.1 ++ []) r.2 :=
  nb_stepC (c := true) (L2 := [(20, l0), (0, l1), (0, l2), (0, l3)]) (S2 := [(0, 5), (0, 0), (0, l3)]) (M2 := M) (t := 5) (cl := 83) (vi := false) rfl rfl (nb_inv_eq (n := 3) rfl rfl rfl rfl rfl rfl (fun h => by cases h) rfl)
theorem q_m_by_5 (l0 l1 l2 l3 s0 : Int) (M : nb_M) :
    nb_R nb_P 162 5 [(20, l0), (0, l1), (0, l2), (0, l3)] [(0, s0)] M = if s0 = 0 then nb_R nb_P 162 6 [(20, l0), (0, l1), (0, l2), (0, l3)] [] M else nb_R nb_P 162 8 [(20, l0), (0, l1), (0, l2), (0, l3)] [] M :=
  nb_step (c := true) rfl rfl
theorem q_m_by_6 (l0 : Int) (v1 v2 v3 : nb_V) (M : nb_M) (h1 : l0 ≠ 0) :
    nb_R nb_P 162 6 [(20, l0), v1, v2, v3] [] M = (nb_R nb_P 80 0 [(20, l0), (0, 1)] [] M).bind fun r => nb_R nb_P 162 7 [(20, l0), v1, v2, v3] (r.1 ++ []) r.2 :=
  nb_stepC (c := true) (L2 := [(20, l0), v1, v2, v3]) (S2 := [(0, 1), (20, l0)]) (M2 := M) (t := 7) (cl := 80) (vi := true) rfl rfl (nb_inv_eq (n := 2) rfl rfl rfl rfl rfl rfl (fun _ => h1) rfl)
theorem q_m_by_7 (s0 : Int) (v0 v1 v2 v3 : nb_V) (M : nb_M) :
    nb_R nb_P 162 7 [v0, v1, v2, v3] [(0, s0)] M = some ([(0, s0)], M) :=
  nb_step (c := true) rfl rfl
theorem q_m_by_8 (l0 l1 l2 l3 : Int) (M : nb_M) (h1 : l0 ≠ 0) :
    nb_R nb_P 162 8 [(20, l0), (0, l1), (0, l2), (0, l3)] [] M = (nb_R nb_P 161 0 [(20, l0), (0, l1), (0, l2), (98, 0)] [] M).bind fun r => nb_R nb_P 162 9 [(20, l0), (0, l1), (0, l2), (0, l3)] (r.1 ++ []) r.2 :=
  nb_stepC (c := true) (L2 := [(20, l0), (0, l1), (0, l2), (0, l3)]) (S2 := [(0, l2), (0, l1), (20, l0)]) (M2 := M) (t := 9) (cl := 161) (vi := true) rfl rfl (nb_inv_eq (n := 3) rfl rfl rfl rfl rfl rfl (fun _ => h1) rfl)
theorem q_m_by_9 (l0 l3 : Int) (v1 v2 : nb_V) (M : nb_M) (h1 : l0 ≠ 0) :
    nb_R nb_P 162 9 [(20, l0), v1, v2, (0, l3)] [] M = (nb_R nb_P 140 0 [(20, l0), (0, l3), (98, 0), (98, 0), (98, 0)] [] M).bind fun r => nb_R nb_P 162 10 [(20, l0), v1, v2, (0, l3)] (r.1 ++ []) r.2 :=
  nb_stepC (c := true) (L2 := [(20, l0), v1, v2, (0, l3)]) (S2 := [(0, l3), (20, l0)]) (M2 := M) (t := 10) (cl := 140) (vi := true) rfl rfl (nb_inv_eq (n := 2) rfl rfl rfl rfl rfl rfl (fun _ => h1) rfl)
theorem q_m_by_10 (s0 : Int) (v0 v1 v2 v3 : nb_V) (M : nb_M) :
    nb_R nb_P 162 10 [v0, v1, v2, v3] [(0, s0)] M = some ([(0, s0)], M) :=
  nb_step (c := true) rfl rfl
theorem q_m_hand_0 (l0 : Int) (v1 v2 v3 v4 : nb_V) (M : nb_M) (h1 : l0 ≠ 0) :
    nb_R nb_P 164 0 [(20, l0), v1, v2, v3, v4] [] M = (nb_R nb_P 79 0 [(20, l0)] [] M).bind fun r => nb_R nb_P 164 1 [(20, l0), v1, v2, v3, v4] (r.1 ++ []) r.2 :=
  nb_stepC (c := true) (L2 := [(20, l0), v1, v2, v3, v4]) (S2 := [(20, l0)]) (M2 := M) (t := 1) (cl := 79) (vi := true) rfl rfl (nb_inv_eq (n := 1) rfl rfl rfl rfl rfl rfl (fun _ => h1) rfl)
theorem q_m_hand_1 (l0 : Int) (v1 v2 v3 v4 : nb_V) (M : nb_M) (h1 : l0 ≠ 0) :
    nb_R nb_P 164 1 [(20, l0), v1, v2, v3, v4] [] M = if nb_rd M l0 14 = 0 then nb_R nb_P 164 2 [(20, l0), v1, v2, v3, v4] [] M else nb_R nb_P 164 4 [(20, l0), v1, v2, v3, v4] [] M :=
  nb_step (c := (true && !decide ((l0 : Int) = 0))) rfl (by simp [h1])
theorem q_m_hand_2 (l0 : Int) (v1 v2 v3 v4 : nb_V) (M : nb_M) (h1 : l0 ≠ 0) :
    nb_R nb_P 164 2 [(20, l0), v1, v2, v3, v4] [] M = (nb_R nb_P 81 0 [(20, l0), (0, (-100))] [] M).bind fun r => nb_R nb_P 164 3 [(20, l0), v1, v2, v3, v4] (r.1 ++ []) r.2 :=
  nb_stepC (c := true) (L2 := [(20, l0), v1, v2, v3, v4]) (S2 := [(0, (-100)), (20, l0)]) (M2 := M) (t := 3) (cl := 81) (vi := true) rfl rfl (nb_inv_eq (n := 2) rfl rfl rfl rfl rfl rfl (fun _ => h1) rfl)
theorem q_m_hand_3 (s0 : Int) (v0 v1 v2 v3 v4 : nb_V) (M : nb_M) :
    nb_R nb_P 164 3 [v0, v1, v2, v3, v4] [(0, s0)] M = some ([(0, s0)], M) :=
  nb_step (c := true) rfl rfl
theorem q_m_hand_4 (l0 : Int) (v1 v2 v3 v4 : nb_V) (M : nb_M) (h1 : l0 ≠ 0) :
    nb_R nb_P 164 4 [(20, l0), v1, v2, v3, v4] [] M = (nb_R nb_P 150 0 [(20, l0)] [] M).bind fun r => nb_R nb_P 164 5 [(20, l0), v1, v2, v3, v4] (r.1 ++ []) r.2 :=
  nb_stepC (c := true) (L2 := [(20, l0), v1, v2, v3, v4]) (S2 := [(20, l0)]) (M2 := M) (t := 5) (cl := 150) (vi := true) rfl rfl (nb_inv_eq (n := 1) rfl rfl rfl rfl rfl rfl (fun _ => h1) rfl)
theorem q_m_hand_5 (l0 : Int) (v1 v2 v3 v4 : nb_V) (M : nb_M) (h1 : l0 ≠ 0) :
    nb_R nb_P 164 5 [(20, l0), v1, v2, v3, v4] [] M = (nb_R nb_P 140 0 [(20, l0), (0, 0), (98, 0), (98, 0), (98, 0)] [] M).bind fun r => nb_R nb_P 164 6 [(20, l0), v1, v2, v3, v4] (r.1 ++ []) r.2 :=
  nb_stepC (c := true) (L2 := [(20, l0), v1, v2, v3, v4]) (S2 := [(0, 0), (20, l0)]) (M2 := M) (t := 6) (cl := 140) (vi := true) rfl rfl (nb_inv_eq (n := 2) rfl rfl rfl rfl rfl rfl (fun _ => h1) rfl)
theorem q_m_hand_6 (l0 s0 : Int) (v1 v2 v3 v4 : nb_V) (M : nb_M) (h1 : l0 ≠ 0) (h2 : (nb_rd M l0 23) ≠ 0) (h3 : (nb_rd M l0 23) ≠ 1) (h4 : (0 : Int) ≤ nb_add (nb_mul 6 (nb_rd M l0 25)) 0) (h5 : nb_add (nb_mul 6 (nb_rd M l0 25)) 0 < nb_ln M (nb_rd M l0 23)) :
    nb_R nb_P 164 6 [(20, l0), v1, v2, v3, v4] [(0, s0)] M = nb_R nb_P 164 7 [(20, l0), (0, s0), (0, nb_mul 6 (nb_rd M l0 25)), v3, v4] [] (nb_wr M (nb_rd M l0 23) (nb_add (nb_mul 6 (nb_rd M l0 25)) 0) 3) :=
  nb_step (c := (((true && !decide ((l0 : Int) = 0)) && !decide ((l0 : Int) = 0)) && (!decide ((nb_rd M l0 23 : Int) = 0) && (!decide ((nb_rd M l0 23 : Int) = 1) && (decide ((0 : Int) ≤ nb_add (nb_mul 6 (nb_rd M l0 25)) 0) && decide (nb_add (nb_mul 6 (nb_rd M l0 25)) 0 < nb_ln M (nb_rd M l0 23))))))) rfl (by simp [h1, h2, h3, h4, h5])
theorem q_m_hand_7 (l0 l1 l2 : Int) (v3 v4 : nb_V) (M : nb_M) (h1 : l0 ≠ 0) (h2 : (nb_rd M l0 15) ≠ 0) (h3 : (0 : Int) ≤ 1) (h4 : 1 < nb_ln M (nb_rd M l0 15)) (h5 : (nb_rd M l0 23) ≠ 0) (h6 : (nb_rd M l0 23) ≠ 1) (h7 : (0 : Int) ≤ nb_add l2 1) (h8 : nb_add l2 1 < nb_ln M (nb_rd M l0 23)) :
    nb_R nb_P 164 7 [(20, l0), (0, l1), (0, l2), v3, v4] [] M = nb_R nb_P 164 8 [(20, l0), (0, l1), (0, l2), v3, v4] [] (nb_wr M (nb_rd M l0 23) (nb_add l2 1) (nb_div (nb_rd M (nb_rd M l0 15) 1) 2)) :=
  nb_step (c := (((((true && !decide ((l0 : Int) = 0)) && !decide ((l0 : Int) = 0)) && (!decide ((nb_rd M l0 15 : Int) = 0) && (decide ((0 : Int) ≤ 1) && decide (1 < nb_ln M (nb_rd M l0 15))))) && !decide ((2 : Int) = 0)) && (!decide ((nb_rd M l0 23 : Int) = 0) && (!decide ((nb_rd M l0 23 : Int) = 1) && (decide ((0 : Int) ≤ nb_add l2 1) && decide (nb_add l2 1 < nb_ln M (nb_rd M l0 23))))))) rfl (by simp [h1, h2, h3, h4, h5, h6, h7, h8])
theorem q_m_hand_8 (l0 l1 l2 : Int) (v3 v4 : nb_V) (M : nb_M) (h1 : l0 ≠ 0) (h2 : (nb_rd M l0 23) ≠ 0) (h3 : (nb_rd M l0 23) ≠ 1) (h4 : (0 : Int) ≤ nb_add l2 2) (h5 : nb_add l2 2 < nb_ln M (nb_rd M l0 23)) :
    nb_R nb_P 164 8 [(20, l0), (0, l1), (0, l2), v3, v4] [] M = nb_R nb_P 164 9 [(20, l0), (0, l1), (0, l2), v3, v4] [] (nb_wr M (nb_rd M l0 23) (nb_add l2 2) 0) :=
  nb_step (c := ((true && !decide ((l0 : Int) = 0)) && (!decide ((nb_rd M l0 23 : Int) = 0) && (!decide ((nb_rd M l0 23 : Int) = 1) && (decide ((0 : Int) ≤ nb_add l2 2) && decide (nb_add l2 2 < nb_ln M (nb_rd M l0 23))))))) rfl (by simp [h1, h2, h3, h4, h5])
theorem q_m_hand_9 (l0 l1 l2 : Int) (v3 v4 : nb_V) (M : nb_M) (h1 : l0 ≠ 0) (h2 : (nb_rd M l0 15) ≠ 0) (h3 : (0 : Int) ≤ 1) (h4 : 1 < nb_ln M (nb_rd M l0 15)) (h5 : (nb_rd M l0 23) ≠ 0) (h6 : (nb_rd M l0 23) ≠ 1) (h7 : (0 : Int) ≤ nb_add l2 3) (h8 : nb_add l2 3 < nb_ln M (nb_rd M l0 23)) :
    nb_R nb_P 164 9 [(20, l0), (0, l1), (0, l2), v3, v4] [] M = nb_R nb_P 164 10 [(20, l0), (0, l1), (0, l2), v3, v4] [] (nb_wr M (nb_rd M l0 23) (nb_add l2 3) (nb_sub (nb_rd M (nb_rd M l0 15) 1) 1)) :=
  nb_step (c := ((((true && !decide ((l0 : Int) = 0)) && !decide ((l0 : Int) = 0)) && (!decide ((nb_rd M l0 15 : Int) = 0) && (decide ((0 : Int) ≤ 1) && decide (1 < nb_ln M (nb_rd M l0 15))))) && (!decide ((nb_rd M l0 23 : Int) = 0) && (!decide ((nb_rd M l0 23 : Int) = 1) && (decide ((0 : Int) ≤ nb_add l2 3) && decide (nb_add l2 3 < nb_ln M (nb_rd M l0 23))))))) rfl (by simp [h1, h2, h3, h4, h5, h6, h7, h8])
theorem q_m_hand_10 (l0 l1 l2 : Int) (v3 v4 : nb_V) (M : nb_M) (h1 : l0 ≠ 0) (h2 : (nb_rd M l0 23) ≠ 0) (h3 : (nb_rd M l0 23) ≠ 1) (h4 : (0 : Int) ≤ nb_add l2 4) (h5 : nb_add l2 4 < nb_ln M (nb_rd M l0 23)) :
    nb_R nb_P 164 10 [(20, l0), (0, l1), (0, l2), v3, v4] [] M = nb_R nb_P 164 11 [(20, l0), (0, l1), (0, l2), v3, v4] [] (nb_wr M (nb_rd M l0 23) (nb_add l2 4) 1) :=
  nb_step (c := ((true && !decide ((l0 : Int) = 0)) && (!decide ((nb_rd M l0 23 : Int) = 0) && (!decide ((nb_rd M l0 23 : Int) = 1) && (decide ((0 : Int) ≤ nb_add l2 4) && decide (nb_add l2 4 < nb_ln M (nb_rd M l0 23))))))) rfl (by simp [h1, h2, h3, h4, h5])
theorem q_m_hand_11 (l0 l1 l2 : Int) (v3 v4 : nb_V) (M : nb_M) (h1 : l0 ≠ 0) (h2 : (nb_rd M l0 23) ≠ 0) (h3 : (nb_rd M l0 23) ≠ 1) (h4 : (0 : Int) ≤ nb_add l2 5) (h5 : nb_add l2 5 < nb_ln M (nb_rd M l0 23)) :
    nb_R nb_P 164 11 [(20, l0), (0, l1), (0, l2), v3, v4] [] M = nb_R nb_P 164 12 [(20, l0), (0, l1), (0, l2), v3, v4] [] (nb_wr M (nb_rd M l0 23) (nb_add l2 5) 1) :=
  nb_step (c := ((true && !decide ((l0 : Int) = 0)) && (!decide ((nb_rd M l0 23 : Int) = 0) && (!decide ((nb_rd M l0 23 : Int) = 1) && (decide ((0 : Int) ≤ nb_add l2 5) && decide (nb_add l2 5 < nb_ln M (nb_rd M l0 23))))))) rfl (by simp [h1, h2, h3, h4, h5])
theorem q_m_hand_12 (l0 l1 l2 : Int) (v3 v4 : nb_V) (M : nb_M) (h1 : l0 ≠ 0) (h2 : (nb_rd M l0 23) ≠ 0) (h3 : (0 : Int) ≤ nb_add l2 1) (h4 : nb_add l2 1 < nb_ln M (nb_rd M l0 23)) (h5 : (nb_rd M l0 17) ≠ 0) (h6 : (nb_rd M l0 17) ≠ 1) (h7 : (0 : Int) ≤ nb_add 92 (nb_mul 4 (nb_rd M l0 25))) (h8 : nb_add 92 (nb_mul 4 (nb_rd M l0 25)) < nb_ln M (nb_rd M l0 17)) :
    nb_R nb_P 164 12 [(20, l0), (0, l1), (0, l2), v3, v4] [] M = nb_R nb_P 164 13 [(20, l0), (0, l1), (0, l2), (0, nb_add 92 (nb_mul 4 (nb_rd M l0 25))), v4] [] (nb_wr M (nb_rd M l0 17) (nb_add 92 (nb_mul 4 (nb_rd M l0 25))) (nb_rd M (nb_rd M l0 23) (nb_add l2 1))) :=
  nb_step (c := (((((true && !decide ((l0 : Int) = 0)) && !decide ((l0 : Int) = 0)) && !decide ((l0 : Int) = 0)) && (!decide ((nb_rd M l0 23 : Int) = 0) && (decide ((0 : Int) ≤ nb_add l2 1) && decide (nb_add l2 1 < nb_ln M (nb_rd M l0 23))))) && (!decide ((nb_rd M l0 17 : Int) = 0) && (!decide ((nb_rd M l0 17 : Int) = 1) && (decide ((0 : Int) ≤ nb_add 92 (nb_mul 4 (nb_rd M l0 25))) && decide (nb_add 92 (nb_mul 4 (nb_rd M l0 25)) < nb_ln M (nb_rd M l0 17))))))) rfl (by simp [h1, h2, h3, h4, h5, h6, h7, h8])
theorem q_m_hand_13 (l0 l1 l3 : Int) (v2 v4 : nb_V) (M : nb_M) :
    nb_R nb_P 164 13 [(20, l0), (0, l1), v2, (0, l3), v4] [] M = nb_R nb_P 164 14 [(20, l0), (0, l1), v2, (0, l3), (0, 1)] [] M :=
  nb_step (c := true) rfl rfl
theorem q_m_hand_14 (l0 l1 l3 l4 : Int) (v2 : nb_V) (M : nb_M) :
    nb_R nb_P 164 14 [(20, l0), (0, l1), v2, (0, l3), (0, l4)] [] M = if l4 < 4 then nb_R nb_P 164 15 [(20, l0), (0, l1), v2, (0, l3), (0, l4)] [] M else nb_R nb_P 164 17 [(20, l0), (0, l1), v2, (0, l3), (0, l4)] [] M :=
  nb_step (c := true) rfl rfl
theorem q_m_hand_15 (l0 l1 l3 l4 : Int) (v2 : nb_V) (M : nb_M) (h1 : l0 ≠ 0) (h2 : (nb_rd M l0 17) ≠ 0) (h3 : (nb_rd M l0 17) ≠ 1) (h4 : (0 : Int) ≤ nb_add l3 l4) (h5 : nb_add l3 l4 < nb_ln M (nb_rd M l0 17)) :
    nb_R nb_P 164 15 [(20, l0), (0, l1), v2, (0, l3), (0, l4)] [] M = nb_R nb_P 164 16 [(20, l0), (0, l1), v2, (0, l3), (0, l4)] [] (nb_wr M (nb_rd M l0 17) (nb_add l3 l4) 0) :=
  nb_step (c := ((true && !decide ((l0 : Int) = 0)) && (!decide ((nb_rd M l0 17 : Int) = 0) && (!decide ((nb_rd M l0 17 : Int) = 1) && (decide ((0 : Int) ≤ nb_add l3 l4) && decide (nb_add l3 l4 < nb_ln M (nb_rd M l0 17))))))) rfl (by simp [h1, h2, h3, h4, h5])
theorem q_m_hand_16 (l0 l1 l3 l4 : Int) (v2 : nb_V) (M : nb_M) :
    nb_R nb_P 164 16 [(20, l0), (0, l1), v2, (0, l3), (0, l4)] [] M = nb_R nb_P 164 14 [(20, l0), (0, l1), v2, (0, l3), (0, nb_add l4 1)] [] M :=
  nb_step (c := true) rfl rfl
theorem q_m_hand_17 (l0 l1 l3 : Int) (v2 v4 : nb_V) (M : nb_M) (h1 : l0 ≠ 0) :
    nb_R nb_P 164 17 [(20, l0), (0, l1), v2, (0, l3), v4] [] M = nb_R nb_P 164 18 [(20, l0), (0, l1), v2, (0, l3), v4] [] (nb_wr M l0 25 (nb_add (nb_rd M l0 25) 1)) :=
  nb_step (c := ((true && !decide ((l0 : Int) = 0)) && (!decide ((l0 : Int) = 0) && (!false || (decide ((nb_add (nb_rd M l0 25) 1 : Int) = 0) || decide ((nb_add (nb_rd M l0 25) 1 : Int) = 1)))))) rfl (by simp [h1])
theorem q_m_hand_18 (l0 l1 l3 : Int) (v2 v4 : nb_V) (M : nb_M) (h1 : l0 ≠ 0) :
    nb_R nb_P 164 18 [(20, l0), (0, l1), v2, (0, l3), v4] [] M = (nb_R nb_P 134 0 [(20, l0)] [] M).bind fun r => nb_R nb_P 164 19 [(20, l0), (0, l1), v2, (0, l3), v4] (r.1 ++ []) r.2 :=
  nb_stepC (c := true) (L2 := [(20, l0), (0, l1), v2, (0, l3), v4]) (S2 := [(20, l0)]) (M2 := M) (t := 19) (cl := 134) (vi := true) rfl rfl (nb_inv_eq (n := 1) rfl rfl rfl rfl rfl rfl (fun _ => h1) rfl)
theorem q_m_hand_19 (l0 l1 l3 : Int) (v2 v4 : nb_V) (M : nb_M) :
    nb_R nb_P 164 19 [(20, l0), (0, l1), v2, (0, l3), v4] [] M = nb_R nb_P 164 20 [(20, l0), (0, l1), v2, (0, l3), (0, 0)] [] M :=
  nb_step (c := true) rfl rfl
theorem q_m_hand_20 (l0 l1 l3 l4 : Int) (v2 : nb_V) (M : nb_M) :
    nb_R nb_P 164 20 [(20, l0), (0, l1), v2, (0, l3), (0, l4)] [] M = if l4 < 4 then nb_R nb_P 164 21 [(20, l0), (0, l1), v2, (0, l3), (0, l4)] [] M else nb_R nb_P 164 23 [(20, l0), (0, l1), v2, (0, l3), (0, l4)] [] M :=
  nb_step (c := true) rfl rfl
theorem q_m_hand_21 (l0 l1 l3 l4 : Int) (v2 : nb_V) (M : nb_M) (h1 : l0 ≠ 0) (h2 : (nb_rd M l0 17) ≠ 0) (h3 : (nb_rd M l0 17) ≠ 1) (h4 : (0 : Int) ≤ nb_add l3 l4) (h5 : nb_add l3 l4 < nb_ln M (nb_rd M l0 17)) :
    nb_R nb_P 164 21 [(20, l0), (0, l1), v2, (0, l3), (0, l4)] [] M = nb_R nb_P 164 22 [(20, l0), (0, l1), v2, (0, l3), (0, l4)] [] (nb_wr M (nb_rd M l0 17) (nb_add l3 l4) 0) :=
  nb_step (c := ((true && !decide ((l0 : Int) = 0)) && (!decide ((nb_rd M l0 17 : Int) = 0) && (!decide ((nb_rd M l0 17 : Int) = 1) && (decide ((0 : Int) ≤ nb_add l3 l4) && decide (nb_add l3 l4 < nb_ln M (nb_rd M l0 17))))))) rfl (by simp [h1, h2, h3, h4, h5])
theorem q_m_hand_22 (l0 l1 l3 l4 : Int) (v2 : nb_V) (M : nb_M) :
    nb_R nb_P 164 22 [(20, l0), (0, l1), v2, (0, l3), (0, l4)] [] M = nb_R nb_P 164 20 [(20, l0), (0, l1), v2, (0, l3), (0, nb_add l4 1)] [] M :=
  nb_step (c := true) rfl rfl
theorem q_m_hand_23 (l0 l1 : Int) (v2 v3 v4 : nb_V) (M : nb_M) (h1 : l0 ≠ 0) :
    nb_R nb_P 164 23 [(20, l0), (0, l1), v2, v3, v4] [] M = (nb_R nb_P 140 0 [(20, l0), (0, 0), (98, 0), (98, 0), (98, 0)] [] M).bind fun r => nb_R nb_P 164 24 [(20, l0), (0, l1), v2, v3, v4] (r.1 ++ []) r.2 :=
  nb_stepC (c := true) (L2 := [(20, l0), (0, l1), v2, v3, v4]) (S2 := [(0, 0), (20, l0)]) (M2 := M) (t := 24) (cl := 140) (vi := true) rfl rfl (nb_inv_eq (n := 2) rfl rfl rfl rfl rfl rfl (fun _ => h1) rfl)
theorem q_m_hand_24 (l1 s0 : Int) (v0 v2 v3 v4 : nb_V) (M : nb_M) :
    nb_R nb_P 164 24 [v0, (0, l1), v2, v3, v4] [(0, s0)] M = some ([(0, nb_sub s0 l1)], M) :=
  nb_step (c := true) rfl rfl
theorem q_m_beforehand_0 (l0 l1 : Int) (v2 : nb_V) (M : nb_M) (h1 : l0 ≠ 0) :
    nb_R nb_P 166 0 [(20, l0), (0, l1), v2] [] M = (nb_R nb_P 79 0 [(20, l0)] [] M).bind fun r => nb_R nb_P 166 1 [(20, l0), (0, l1), v2] (r.1 ++ []) r.2 :=
  nb_stepC (c := true) (L2 := [(20, l0), (0, l1), v2]) (S2 := [(20, l0)]) (M2 := M) (t := 1) (cl := 79) (vi := true) rfl rfl (nb_inv_eq (n := 1) rfl rfl rfl rfl rfl rfl (fun _ => h1) rfl)
theorem q_m_beforehand_1 (l0 l1 : Int) (v2 : nb_V) (M : nb_M) (h1 : l0 ≠ 0) :
    nb_R nb_P 166 1 [(20, l0), (0, l1), v2] [] M = (nb_R nb_P 116 0 [(20, l0), (0, l1)] [] M).bind fun r => nb_R nb_P 166 2 [(20, l0), (0, l1), v2] (r.1 ++ []) r.2 :=
  nb_stepC (c := true) (L2 := [(20, l0), (0, l1), v2]) (S2 := [(0, l1), (20, l0)]) (M2 := M) (t := 2) (cl := 116) (vi := true) rfl rfl (nb_inv_eq (n := 2) rfl rfl rfl rfl rfl rfl (fun _ => h1) rfl)
theorem q_m_beforehand_2 (l0 l1 s0 : Int) (v2 : nb_V) (M : nb_M) :
    nb_R nb_P 166 2 [(20, l0), (0, l1), v2] [(0, s0)] M = if s0 = 0 then nb_R nb_P 166 3 [(20, l0), (0, l1), v2] [] M else nb_R nb_P 166 5 [(20, l0), (0, l1), v2] [] M :=
  nb_step (c := true) rfl rfl
theorem q_m_beforehand_3 (l0 : Int) (v1 v2 : nb_V) (M : nb_M) (h1 : l0 ≠ 0) :
    nb_R nb_P 166 3 [(20, l0), v1, v2] [] M = (nb_R nb_P 81 0 [(20, l0), (0, (-1000))] [] M).bind fun r => nb_R nb_P 166 4 [(20, l0), v1, v2] (r.1 ++ []) r.2 :=
  nb_stepC (c := true) (L2 := [(20, l0), v1, v2]) (S2 := [(0, (-1000)), (20, l0)]) (M2 := M) (t := 4) (cl := 81) (vi := true) rfl rfl (nb_inv_eq (n := 2) rfl rfl rfl rfl rfl rfl (fun _ => h1) rfl)
theorem q_m_beforehand_4 (s0 : Int) (v0 v1 v2 : nb_V) (M : nb_M) :
    nb_R nb_P 166 4 [v0, v1, v2] [(0, s0)] M = some ([(0, s0)], M) :=
  nb_step (c := true) rfl rfl
theorem q_m_beforehand_5 (l0 l1 : Int) (v2 : nb_V) (M : nb_M) (h1 : l0 ≠ 0) :
    nb_R nb_P 166 5 [(20, l0), (0, l1), v2] [] M = (nb_R nb_P 165 0 [(20, l0), (0, l1)] [] M).bind fun r => nb_R nb_P 166 6 [(20, l0), (0, l1), v2] (r.1 ++ []) r.2 :=
  nb_stepC (c := true) (L2 := [(20, l0), (0, l1), v2]) (S2 := [(0, l1), (20, l0)]) (M2 := M) (t := 6) (cl := 165) (vi := true) rfl rfl (nb_inv_eq (n := 2) rfl rfl rfl rfl rfl rfl (fun _ => h1) rfl)
theorem q_m_beforehand_6 (l0 l1 s0 : Int) (v2 : nb_V) (M : nb_M) :
    nb_R nb_P 166 6 [(20, l0), (0, l1), v2] [(0, s0)] M = if s0 = 0 then nb_R nb_P 166 7 [(20, l0), (0, l1), v2] [] M else nb_R nb_P 166 8 [(20, l0), (0, l1), v2] [] M :=
  nb_step (c := true) rfl rfl
theorem q_m_beforehand_7 (l0 l1 : Int) (v2 : nb_V) (M : nb_M) (h1 : l0 ≠ 0) (h2 : (nb_rd M l0 15) ≠ 0) (h3 : (0 : Int) ≤ nb_add (nb_add 41 (nb_mul 7 l1)) 6) (h4 : nb_add (nb_add 41 (nb_mul 7 l1)) 6 < nb_ln M (nb_rd M l0 15)) :
    nb_R nb_P 166 7 [(20, l0), (0, l1), v2] [] M = if 0 < nb_rd M (nb_rd M l0 15) (nb_add (nb_add 41 (nb_mul 7 l1)) 6) then nb_R nb_P 166 8 [(20, l0), (0, l1), v2] [] M else nb_R nb_P 166 10 [(20, l0), (0, l1), v2] [] M :=
  nb_step (c := ((true && !decide ((l0 : Int) = 0)) && (!decide ((nb_rd M l0 15 : Int) = 0) && (decide ((0 : Int) ≤ nb_add (nb_add 41 (nb_mul 7 l1)) 6) && decide (nb_add (nb_add 41 (nb_mul 7 l1)) 6 < nb_ln M (nb_rd M l0 15)))))) rfl (by simp [h1, h2, h3, h4])
theorem q_m_beforehand_8 (l0 : Int) (v1 v2 : nb_V) (M : nb_M) (h1 : l0 ≠ 0) :
    nb_R nb_P 166 8 [(20, l0), v1, v2] [] M = nb_R nb_P 166 9 [(20, l0), v1, v2] [] (nb_wr M l0 11 5) :=
  nb_step (c := (true && (!decide ((l0 : Int) = 0) && (!false || (decide ((5 : Int) = 0) || decide ((5 : Int) = 1)))))) rfl (by simp [h1])
theorem q_m_beforehand_9 (v0 v1 v2 : nb_V) (M : nb_M) :
    nb_R nb_P 166 9 [v0, v1, v2] [] M = some ([(0, (-1000))], M) :=
  nb_step (c := true) rfl rfl
theorem q_m_beforehand_10 (l0 l1 : Int) (v2 : nb_V) (M : nb_M) (h1 : l0 ≠ 0) :
    nb_R nb_P 166 10 [(20, l0), (0, l1), v2] [] M = (nb_R nb_P 150 0 [(20, l0)] [] M).bind fun r => nb_R nb_P 166 11 [(20, l0), (0, l1), v2] (r.1 ++ []) r.2 :=
  nb_stepC (c := true) (L2 := [(20, l0), (0, l1), v2]) (S2 := [(20, l0)]) (M2 := M) (t := 11) (cl := 150) (vi := true) rfl rfl (nb_inv_eq (n := 1) rfl rfl rfl rfl rfl rfl (fun _ => h1) rfl)
theorem q_m_beforehand_11 (l0 l1 : Int) (v2 : nb_V) (M : nb_M) (h1 : l0 ≠ 0) :
    nb_R nb_P 166 11 [(20, l0), (0, l1), v2] [] M = (nb_R nb_P 140 0 [(20, l0), (0, 3), (98, 0), (98, 0), (98, 0)] [] M).bind fun r => nb_R nb_P 166 12 [(20, l0), (0, l1), v2] (r.1 ++ []) r.2 :=
  nb_stepC (c := true) (L2 := [(20, l0), (0, l1), v2]) (S2 := [(0, 3), (20, l0)]) (M2 := M) (t := 12) (cl := 140) (vi := true) rfl rfl (nb_inv_eq (n := 2) rfl rfl rfl rfl rfl rfl (fun _ => h1) rfl)
theorem q_m_beforehand_12 (l0 l1 s0 : Int) (v2 : nb_V) (M : nb_M) (h1 : l0 ≠ 0) :
    nb_R nb_P 166 12 [(20, l0), (0, l1), v2] [(0, s0)] M = (nb_R nb_P 122 0 [(20, l0), (0, l1), (0, 2)] [] M).bind fun r => nb_R nb_P 166 13 [(20, l0), (0, l1), (0, s0)] (r.1 ++ [(0, nb_add (nb_mul 7 l1) 6), (3, nb_rd M l0 24)]) r.2 :=
  nb_stepC (c := (true && !decide ((l0 : Int) = 0))) (L2 := [(20, l0), (0, l1), (0, s0)]) (S2 := [(0, 2), (0, l1), (20, l0), (0, nb_add (nb_mul 7 l1) 6), (3, nb_rd M l0 24)]) (M2 := M) (t := 13) (cl := 122) (vi := true) rfl (by simp [h1]) (nb_inv_eq (n := 3) rfl rfl rfl rfl rfl rfl (fun _ => h1) rfl)
theorem q_m_beforehand_13 (l0 l2 s0 s1 s2 : Int) (v1 : nb_V) (M : nb_M) (h1 : s2 ≠ 0) (h2 : s2 ≠ 1) (h3 : (0 : Int) ≤ s1) (h4 : s1 < nb_ln M s2) :
    nb_R nb_P 166 13 [(20, l0), v1, (0, l2)] [(0, s0), (0, s1), (3, s2)] M = nb_R nb_P 166 14 [(20, l0), v1, (0, l2)] [] (nb_wr M s2 s1 (nb_add s0 1)) :=
  nb_step (c := (true && (!decide ((s2 : Int) = 0) && (!decide ((s2 : Int) = 1) && (decide ((0 : Int) ≤ s1) && decide (s1 < nb_ln M s2)))))) rfl (by simp [h1, h2, h3, h4])
theorem q_m_beforehand_14 (l0 l2 : Int) (v1 : nb_V) (M : nb_M) (h1 : l0 ≠ 0) :
    nb_R nb_P 166 14 [(20, l0), v1, (0, l2)] [] M = (nb_R nb_P 134 0 [(20, l0)] [] M).bind fun r => nb_R nb_P 166 15 [(20, l0), v1, (0, l2)] (r.1 ++ []) r.2 :=
  nb_stepC (c := true) (L2 := [(20, l0), v1, (0, l2)]) (S2 := [(20, l0)]) (M2 := M) (t := 15) (cl := 134) (vi := true) rfl rfl (nb_inv_eq (n := 1) rfl rfl rfl rfl rfl rfl (fun _ => h1) rfl)
theorem q_m_beforehand_15 (l0 l2 : Int) (v1 : nb_V) (M : nb_M) (h1 : l0 ≠ 0) :
    nb_R nb_P 166 15 [(20, l0), v1, (0, l2)] [] M = (nb_R nb_P 140 0 [(20, l0), (0, 3), (98, 0), (98, 0), (98, 0)] [] M).bind fun r => nb_R nb_P 166 16 [(20, l0), v1, (0, l2)] (r.1 ++ [(0, l2)]) r.2 :=
  nb_stepC (c := true) (L2 := [(20, l0), v1, (0, l2)]) (S2 := [(0, 3), (20, l0), (0, l2)]) (M2 := M) (t := 16) (cl := 140) (vi := true) rfl rfl (nb_inv_eq (n := 2) rfl rfl rfl rfl rfl rfl (fun _ => h1) rfl)
theorem q_m_beforehand_16 (s0 s1 : Int) (v0 v1 v2 : nb_V) (M : nb_M) :
    nb_R nb_P 166 16 [v0, v1, v2] [(0, s0), (0, s1)] M = some ([(0, nb_sub s1 s0)], M) :=
  nb_step (c := true) rfl rfl
theorem q_m_bestPlace_0 (l0 l1 : Int) (v2 v3 v4 v5 v6 v7 : nb_V) (M : nb_M) (h1 : l0 ≠ 0) :
    nb_R nb_P 168 0 [(20, l0), (0, l1), v2, v3, v4, v5, v6, v7] [] M = (nb_R nb_P 79 0 [(20, l0)] [] M).bind fun r => nb_R nb_P 168 1 [(20, l0), (0, l1), v2, v3, v4, v5, v6, v7] (r.1 ++ []) r.2 :=
  nb_stepC (c := true) (L2 := [(20, l0), (0, l1), v2, v3, v4, v5, v6, v7]) (S2 := [(20, l0)]) (M2 := M) (t := 1) (cl := 79) (vi := true) rfl rfl (nb_inv_eq (n := 1) rfl rfl rfl rfl rfl rfl (fun _ => h1) rfl)
theorem q_m_bestPlace_1 (l0 l1 : Int) (v2 v3 v4 v5 v6 v7 : nb_V) (M : nb_M) (h1 : l0 ≠ 0) :
    nb_R nb_P 168 1 [(20, l0), (0, l1), v2, v3, v4, v5, v6, v7] [] M = (nb_R nb_P 116 0 [(20, l0), (0, l1)] [] M).bind fun r => nb_R nb_P 168 2 [(20, l0), (0, l1), v2, v3, v4, v5, v6, v7] (r.1 ++ []) r.2 :=
  nb_stepC (c := true) (L2 := [(20, l0), (0, l1), v2, v3, v4, v5, v6, v7]) (S2 := [(0, l1), (20, l0)]) (M2 := M) (t := 2) (cl := 116) (vi := true) rfl rfl (nb_inv_eq (n := 2) rfl rfl rfl rfl rfl rfl (fun _ => h1) rfl)
theorem q_m_bestPlace_2 (l0 l1 s0 : Int) (v2 v3 v4 v5 v6 v7 : nb_V) (M : nb_M) :
    nb_R nb_P 168 2 [(20, l0), (0, l1), v2, v3, v4, v5, v6, v7] [(0, s0)] M = if s0 = 0 then nb_R nb_P 168 3 [(20, l0), (0, l1), v2, v3, v4, v5, v6, v7] [] M else nb_R nb_P 168 5 [(20, l0), (0, l1), v2, v3, v4, v5, v6, v7] [] M :=
  nb_step (c := true) rfl rfl
theorem q_m_bestPlace_3 (l0 : Int) (v1 v2 v3 v4 v5 v6 v7 : nb_V) (M : nb_M) (h1 : l0 ≠ 0) :
    nb_R nb_P 168 3 [(20, l0), v1, v2, v3, v4, v5, v6, v7] [] M = (nb_R nb_P 80 0 [(20, l0), (0, 1)] [] M).bind fun r => nb_R nb_P 168 4 [(20, l0), v1, v2, v3, v4, v5, v6, v7] (r.1 ++ []) r.2 :=
  nb_stepC (c := true) (L2 := [(20, l0), v1, v2, v3, v4, v5, v6, v7]) (S2 := [(0, 1), (20, l0)]) (M2 := M) (t := 4) (cl := 80) (vi := true) rfl rfl (nb_inv_eq (n := 2) rfl rfl rfl rfl rfl rfl (fun _ => h1) rfl)
theorem q_m_bestPlace_4 (s0 : Int) (v0 v1 v2 v3 v4 v5 v6 v7 : nb_V) (M : nb_M) :
    nb_R nb_P 168 4 [v0, v1, v2, v3, v4, v5, v6, v7] [(0, s0)] M = some ([(0, s0)], M) :=
  nb_step (c := true) rfl rfl
theorem q_m_bestPlace_5 (l0 l1 : Int) (v2 v3 v4 v5 v6 v7 : nb_V) (M : nb_M) (h1 : l0 ≠ 0) :
    nb_R nb_P 168 5 [(20, l0), (0, l1), v2, v3, v4, v5, v6, v7] [] M = (nb_R nb_P 165 0 [(20, l0), (0, l1)] [] M).bind fun r => nb_R nb_P 168 6 [(20, l0), (0, l1), v2, v3, v4, v5, v6, v7] (r.1 ++ []) r.2 :=
  nb_stepC (c := true) (L2 := [(20, l0), (0, l1), v2, v3, v4, v5, v6, v7]) (S2 := [(0, l1), (20, l0)]) (M2 := M) (t := 6) (cl := 165) (vi := true) rfl rfl (nb_inv_eq (n := 2) rfl rfl rfl rfl rfl rfl (fun _ => h1) rfl)
theorem q_m_bestPlace_6 (l0 l1 s0 : Int) (v2 v3 v4 v5 v6 v7 : nb_V) (M : nb_M) :
    nb_R nb_P 168 6 [(20, l0), (0, l1), v2, v3, v4, v5, v6, v7] [(0, s0)] M = if s0 = 0 then nb_R nb_P 168 9 [(20, l0), (0, l1), v2, v3, v4, v5, v6, v7] [] M else nb_R nb_P 168 7 [(20, l0), (0, l1), v2, v3, v4, v5, v6, v7] [] M :=
  nb_step (c := true) rfl rfl
theorem q_m_bestPlace_7 (l0 : Int) (v1 v2 v3 v4 v5 v6 v7 : nb_V) (M : nb_M) (h1 : l0 ≠ 0) :
    nb_R nb_P 168 7 [(20, l0), v1, v2, v3, v4, v5, v6, v7] [] M = (nb_R nb_P 80 0 [(20, l0), (0, 5)] [] M).bind fun r => nb_R nb_P 168 8 [(20, l0), v1, v2, v3, v4, v5, v6, v7] (r.1 ++ []) r.2 :=
  nb_stepC (c := true) (L2 := [(20, l0), v1, v2, v3, v4, v5, v6, v7]) (S2 := [(0, 5), (20, l0)]) (M2 := M) (t := 8) (cl := 80) (vi := true) rfl rfl (nb_inv_eq (n := 2) rfl rfl rfl rfl rfl rfl (fun _ => h1) rfl)
theorem q_m_bestPlace_8 (s0 : Int) (v0 v1 v2 v3 v4 v5 v6 v7 : nb_V) (M : nb_M) :
    nb_R nb_P 168 8 [v0, v1, v2, v3, v4, v5, v6, v7] [(0, s0)] M = some ([(0, s0)], M) :=
  nb_step (c := true) rfl rfl
theorem q_m_bestPlace_9 (l0 l1 : Int) (v2 v3 v4 v5 v6 v7 : nb_V) (M : nb_M) (h1 : l0 ≠ 0) :
    nb_R nb_P 168 9 [(20, l0), (0, l1), v2, v3, v4, v5, v6, v7] [] M = (nb_R nb_P 121 0 [(20, l0)] [] M).bind fun r => nb_R nb_P 168 10 [(20, l0), (0, l1), v2, v3, v4, v5, v6, v7] (r.1 ++ []) r.2 :=
  nb_stepC (c := true) (L2 := [(20, l0), (0, l1), v2, v3, v4, v5, v6, v7]) (S2 := [(20, l0)]) (M2 := M) (t := 10) (cl := 121) (vi := true) rfl rfl (nb_inv_eq (n := 1) rfl rfl rfl rfl rfl rfl (fun _ => h1) rfl)
theorem q_m_bestPlace_10 (l0 l1 : Int) (v2 v3 v4 v5 v6 v7 : nb_V) (M : nb_M) (h1 : l0 ≠ 0) (h2 : (nb_rd M l0 15) ≠ 0) (h3 : (0 : Int) ≤ 2) (h4 : 2 < nb_ln M (nb_rd M l0 15)) :
    nb_R nb_P 168 10 [(20, l0), (0, l1), v2, v3, v4, v5, v6, v7] [] M = nb_R nb_P 168 11 [(20, l0), (0, l1), v2, v3, v4, v5, v6, v7] [] (nb_wr M l0 26 (nb_rd M (nb_rd M l0 15) 2)) :=
  nb_step (c := (((true && !decide ((l0 : Int) = 0)) && (!decide ((nb_rd M l0 15 : Int) = 0) && (decide ((0 : Int) ≤ 2) && decide (2 < nb_ln M (nb_rd M l0 15))))) && (!decide ((l0 : Int) = 0) && (!false || (decide ((nb_rd M (nb_rd M l0 15) 2 : Int) = 0) || decide ((nb_rd M (nb_rd M l0 15) 2 : Int) = 1)))))) rfl (by simp [h1, h2, h3, h4])
set_option maxRecDepth 10000 in
theorem q_m_bestPlace_11 (l0 l1 : Int) (v2 v3 v4 v5 v6 v7 : nb_V) (M : nb_M) (h1 : l0 ≠ 0) (h2 : (nb_rd M l0 17) ≠ 0) (h3 : (0 : Int) ≤ nb_add (nb_add 12 (nb_mul 8 l1)) 1) (h4 : nb_add (nb_add 12 (nb_mul 8 l1)) 1 < nb_ln M (nb_rd M l0 17)) :
    nb_R nb_P 168 11 [(20, l0), (0, l1), v2, v3, v4, v5, v6, v7] [] M = nb_R nb_P 168 12 [(20, l0), (0, l1), (0, nb_add (nb_add 12 (nb_mul 8 l1)) 1), (0, nb_rd M (nb_rd M l0 17) (nb_add (nb_add 12 (nb_mul 8 l1)) 1)), (0, (-2)), (0, 1000000), (0, 0), v7] [] M :=
  nb_step (c := ((true && !decide ((l0 : Int) = 0)) && (!decide ((nb_rd M l0 17 : Int) = 0) && (decide ((0 : Int) ≤ nb_add (nb_add 12 (nb_mul 8 l1)) 1) && decide (nb_add (nb_add 12 (nb_mul 8 l1)) 1 < nb_ln M (nb_rd M l0 17)))))) rfl (by simp [h1, h2, h3, h4])
theorem q_m_bestPlace_12 (l0 l1 l2 l3 l4 l5 l6 : Int) (v7 : nb_V) (M : nb_M) (h1 : l0 ≠ 0) (h2 : (nb_rd M l0 15) ≠ 0) (h3 : (0 : Int) ≤ 1) (h4 : 1 < nb_ln M (nb_rd M l0 15)) :
    nb_R nb_P 168 12 [(20, l0), (0, l1), (0, l2), (0, l3), (0, l4), (0, l5), (0, l6), v7] [] M = if l6 < nb_rd M (nb_rd M l0 15) 1 then nb_R nb_P 168 13 [(20, l0), (0, l1), (0, l2), (0, l3), (0, l4), (0, l5), (0, l6), v7] [] M else nb_R nb_P 168 19 [(20, l0), (0, l1), (0, l2), (0, l3), (0, l4), (0, l5), (0, l6), v7] [] M :=
  nb_step (c := ((true && !decide ((l0 : Int) = 0)) && (!decide ((nb_rd M l0 15 : Int) = 0) && (decide ((0 : Int) ≤ 1) && decide (1 < nb_ln M (nb_rd M l0 15)))))) rfl (by simp [h1, h2, h3, h4])
theorem q_m_bestPlace_13 (l0 l1 l2 l3 l4 l5 l6 : Int) (v7 : nb_V) (M : nb_M) (h1 : l0 ≠ 0) (h2 : (nb_rd M l0 17) ≠ 0) (h3 : (nb_rd M l0 17) ≠ 1) (h4 : (0 : Int) ≤ l2) (h5 : l2 < nb_ln M (nb_rd M l0 17)) :
    nb_R nb_P 168 13 [(20, l0), (0, l1), (0, l2), (0, l3), (0, l4), (0, l5), (0, l6), v7] [] M = nb_R nb_P 168 14 [(20, l0), (0, l1), (0, l2), (0, l3), (0, l4), (0, l5), (0, l6), v7] [] (nb_wr M (nb_rd M l0 17) l2 l6) :=
  nb_step (c := ((true && !decide ((l0 : Int) = 0)) && (!decide ((nb_rd M l0 17 : Int) = 0) && (!decide ((nb_rd M l0 17 : Int) = 1) && (decide ((0 : Int) ≤ l2) && decide (l2 < nb_ln M (nb_rd M l0 17))))))) rfl (by simp [h1, h2, h3, h4, h5])
theorem q_m_bestPlace_14 (l0 l1 l2 l3 l4 l5 l6 : Int) (v7 : nb_V) (M : nb_M) (h1 : l0 ≠ 0) :
    nb_R nb_P 168 14 [(20, l0), (0, l1), (0, l2), (0, l3), (0, l4), (0, l5), (0, l6), v7] [] M = (nb_R nb_P 167 0 [(20, l0), (0, l1)] [] M).bind fun r => nb_R nb_P 168 15 [(20, l0), (0, l1), (0, l2), (0, l3), (0, l4), (0, l5), (0, l6), v7] (r.1 ++ []) r.2 :=
  nb_stepC (c := true) (L2 := [(20, l0), (0, l1), (0, l2), (0, l3), (0, l4), (0, l5), (0, l6), v7]) (S2 := [(0, l1), (20, l0)]) (M2 := M) (t := 15) (cl := 167) (vi := true) rfl rfl (nb_inv_eq (n := 2) rfl rfl rfl rfl rfl rfl (fun _ => h1) rfl)
theorem q_m_bestPlace_15 (l0 l1 l2 l3 l4 l5 l6 s0 : Int) (v7 : nb_V) (M : nb_M) :
    nb_R nb_P 168 15 [(20, l0), (0, l1), (0, l2), (0, l3), (0, l4), (0, l5), (0, l6), v7] [(0, s0)] M = if s0 < l5 then nb_R nb_P 168 17 [(20, l0), (0, l1), (0, l2), (0, l3), (0, l4), (0, l5), (0, l6), (0, s0)] [] M else nb_R nb_P 168 16 [(20, l0), (0, l1), (0, l2), (0, l3), (0, l4), (0, l5), (0, l6), (0, s0)] [] M :=
  nb_step (c := true) rfl rfl
theorem q_m_bestPlace_16 (l0 l1 l2 l3 l4 l5 l6 : Int) (v7 : nb_V) (M : nb_M) :
    nb_R nb_P 168 16 [(20, l0), (0, l1), (0, l2), (0, l3), (0, l4), (0, l5), (0, l6), v7] [] M = nb_R nb_P 168 18 [(20, l0), (0, l1), (0, l2), (0, l3), (0, l4), (0, l5), (0, l6), v7] [] M :=
  nb_step (c := true) rfl rfl
theorem q_m_bestPlace_17 (l0 l1 l2 l3 l6 l7 : Int) (v4 v5 : nb_V) (M : nb_M) :
    nb_R nb_P 168 17 [(20, l0), (0, l1), (0, l2), (0, l3), v4, v5, (0, l6), (0, l7)] [] M = nb_R nb_P 168 18 [(20, l0), (0, l1), (0, l2), (0, l3), (0, l6), (0, l7), (0, l6), (0, l7)] [] M :=
  nb_step (c := true) rfl rfl
theorem q_m_bestPlace_18 (l0 l1 l2 l3 l4 l5 l6 : Int) (v7 : nb_V) (M : nb_M) :
    nb_R nb_P 168 18 [(20, l0), (0, l1), (0, l2), (0, l3), (0, l4), (0, l5), (0, l6), v7] [] M = nb_R nb_P 168 12 [(20, l0), (0, l1), (0, l2), (0, l3), (0, l4), (0, l5), (0, nb_add l6 1), v7] [] M :=
  nb_step (c := true) rfl rfl
theorem q_m_bestPlace_19 (l0 l2 l3 l4 : Int) (v1 v5 v6 v7 : nb_V) (M : nb_M) (h1 : l0 ≠ 0) (h2 : (nb_rd M l0 17) ≠ 0) (h3 : (nb_rd M l0 17) ≠ 1) (h4 : (0 : Int) ≤ l2) (h5 : l2 < nb_ln M (nb_rd M l0 17)) :
    nb_R nb_P 168 19 [(20, l0), v1, (0, l2), (0, l3), (0, l4), v5, v6, v7] [] M = nb_R nb_P 168 20 [(20, l0), v1, (0, l2), (0, l3), (0, l4), v5, v6, v7] [] (nb_wr M (nb_rd M l0 17) l2 l3) :=
  nb_step (c := ((true && !decide ((l0 : Int) = 0)) && (!decide ((nb_rd M l0 17 : Int) = 0) && (!decide ((nb_rd M l0 17 : Int) = 1) && (decide ((0 : Int) ≤ l2) && decide (l2 < nb_ln M (nb_rd M l0 17))))))) rfl (by simp [h1, h2, h3, h4, h5])
theorem q_m_bestPlace_20 (l4 : Int) (v0 v1 v2 v3 v5 v6 v7 : nb_V) (M : nb_M) :
    nb_R nb_P 168 20 [v0, v1, v2, v3, (0, l4), v5, v6, v7] [] M = some ([(0, l4)], M) :=
  nb_step (c := true) rfl rfl
theorem q_m_bestManner_0 (l0 l1 : Int) (v2 v3 v4 v5 v6 v7 : nb_V) (M : nb_M) (h1 : l0 ≠ 0) :
    nb_R nb_P 170 0 [(20, l0), (0, l1), v2, v3, v4, v5, v6, v7] [] M = (nb_R nb_P 79 0 [(20, l0)] [] M).bind fun r => nb_R nb_P 170 1 [(20, l0), (0, l1), v2, v3, v4, v5, v6, v7] (r.1 ++ []) r.2 :=
  nb_stepC (c := true) (L2 := [(20, l0), (0, l1), v2, v3, v4, v5, v6, v7]) (S2 := [(20, l0)]) (M2 := M) (t := 1) (cl := 79) (vi := true) rfl rfl (nb_inv_eq (n := 1) rfl rfl rfl rfl rfl rfl (fun _ => h1) rfl)
theorem q_m_bestManner_1 (l0 l1 : Int) (v2 v3 v4 v5 v6 v7 : nb_V) (M : nb_M) (h1 : l0 ≠ 0) :
    nb_R nb_P 170 1 [(20, l0), (0, l1), v2, v3, v4, v5, v6, v7] [] M = (nb_R nb_P 116 0 [(20, l0), (0, l1)] [] M).bind fun r => nb_R nb_P 170 2 [(20, l0), (0, l1), v2, v3, v4, v5, v6, v7] (r.1 ++ []) r.2 :=
  nb_stepC (c := true) (L2 := [(20, l0), (0, l1), v2, v3, v4, v5, v6, v7]) (S2 := [(0, l1), (20, l0)]) (M2 := M) (t := 2) (cl := 116) (vi := true) rfl rfl (nb_inv_eq (n := 2) rfl rfl rfl rfl rfl rfl (fun _ => h1) rfl)
theorem q_m_bestManner_2 (l0 l1 s0 : Int) (v2 v3 v4 v5 v6 v7 : nb_V) (M : nb_M) :
    nb_R nb_P 170 2 [(20, l0), (0, l1), v2, v3, v4, v5, v6, v7] [(0, s0)] M = if s0 = 0 then nb_R nb_P 170 3 [(20, l0), (0, l1), v2, v3, v4, v5, v6, v7] [] M else nb_R nb_P 170 5 [(20, l0), (0, l1), v2, v3, v4, v5, v6, v7] [] M :=
  nb_step (c := true) rfl rfl
theorem q_m_bestManner_3 (l0 : Int) (v1 v2 v3 v4 v5 v6 v7 : nb_V) (M : nb_M) (h1 : l0 ≠ 0) :
    nb_R nb_P 170 3 [(20, l0), v1, v2, v3, v4, v5, v6, v7] [] M = (nb_R nb_P 80 0 [(20, l0), (0, 1)] [] M).bind fun r => nb_R nb_P 170 4 [(20, l0), v1, v2, v3, v4, v5, v6, v7] (r.1 ++ []) r.2 :=
  nb_stepC (c := true) (L2 := [(20, l0), v1, v2, v3, v4, v5, v6, v7]) (S2 := [(0, 1), (20, l0)]) (M2 := M) (t := 4) (cl := 80) (vi := true) rfl rfl (nb_inv_eq (n := 2) rfl rfl rfl rfl rfl rfl (fun _ => h1) rfl)
theorem q_m_bestManner_4 (s0 : Int) (v0 v1 v2 v3 v4 v5 v6 v7 : nb_V) (M : nb_M) :
    nb_R nb_P 170 4 [v0, v1, v2, v3, v4, v5, v6, v7] [(0, s0)] M = some ([(0, s0)], M) :=
  nb_step (c := true) rfl rfl
theorem q_m_bestManner_5 (l0 l1 : Int) (v2 v3 v4 v5 v6 v7 : nb_V) (M : nb_M) (h1 : l0 ≠ 0) :
    nb_R nb_P 170 5 [(20, l0), (0, l1), v2, v3, v4, v5, v6, v7] [] M = (nb_R nb_P 165 0 [(20, l0), (0, l1)] [] M).bind fun r => nb_R nb_P 170 6 [(20, l0), (0, l1), v2, v3, v4, v5, v6, v7] (r.1 ++ []) r.2 :=
  nb_stepC (c := true) (L2 := [(20, l0), (0, l1), v2, v3, v4, v5, v6, v7]) (S2 := [(0, l1), (20, l0)]) (M2 := M) (t := 6) (cl := 165) (vi := true) rfl rfl (nb_inv_eq (n := 2) rfl rfl rfl rfl rfl rfl (fun _ => h1) rfl)
theorem q_m_bestManner_6 (l0 l1 s0 : Int) (v2 v3 v4 v5 v6 v7 : nb_V) (M : nb_M) :
    nb_R nb_P 170 6 [(20, l0), (0, l1), v2, v3, v4, v5, v6, v7] [(0, s0)] M = if s0 = 0 then nb_R nb_P 170 9 [(20, l0), (0, l1), v2, v3, v4, v5, v6, v7] [] M else nb_R nb_P 170 7 [(20, l0), (0, l1), v2, v3, v4, v5, v6, v7] [] M :=
  nb_step (c := true) rfl rfl
theorem q_m_bestManner_7 (l0 : Int) (v1 v2 v3 v4 v5 v6 v7 : nb_V) (M : nb_M) (h1 : l0 ≠ 0) :
    nb_R nb_P 170 7 [(20, l0), v1, v2, v3, v4, v5, v6, v7] [] M = (nb_R nb_P 80 0 [(20, l0), (0, 5)] [] M).bind fun r => nb_R nb_P 170 8 [(20, l0), v1, v2, v3, v4, v5, v6, v7] (r.1 ++ []) r.2 :=
  nb_stepC (c := true) (L2 := [(20, l0), v1, v2, v3, v4, v5, v6, v7]) (S2 := [(0, 5), (20, l0)]) (M2 := M) (t := 8) (cl := 80) (vi := true) rfl rfl (nb_inv_eq (n := 2) rfl rfl rfl rfl rfl rfl (fun _ => h1) rfl)
theorem q_m_bestManner_8 (s0 : Int) (v0 v1 v2 v3 v4 v5 v6 v7 : nb_V) (M : nb_M) :
    nb_R nb_P 170 8 [v0, v1, v2, v3, v4, v5, v6, v7] [(0, s0)] M = some ([(0, s0)], M) :=
  nb_step (c := true) rfl rfl
theorem q_m_bestManner_9 (l0 l1 : Int) (v2 v3 v4 v5 v6 v7 : nb_V) (M : nb_M) (h1 : l0 ≠ 0) :
    nb_R nb_P 170 9 [(20, l0), (0, l1), v2, v3, v4, v5, v6, v7] [] M = (nb_R nb_P 121 0 [(20, l0)] [] M).bind fun r => nb_R nb_P 170 10 [(20, l0), (0, l1), v2, v3, v4, v5, v6, v7] (r.1 ++ []) r.2 :=
  nb_stepC (c := true) (L2 := [(20, l0), (0, l1), v2, v3, v4, v5, v6, v7]) (S2 := [(20, l0)]) (M2 := M) (t := 10) (cl := 121) (vi := true) rfl rfl (nb_inv_eq (n := 1) rfl rfl rfl rfl rfl rfl (fun _ => h1) rfl)
theorem q_m_bestManner_10 (l0 l1 : Int) (v2 v3 v4 v5 v6 v7 : nb_V) (M : nb_M) (h1 : l0 ≠ 0) (h2 : (nb_rd M l0 15) ≠ 0) (h3 : (0 : Int) ≤ 2) (h4 : 2 < nb_ln M (nb_rd M l0 15)) :
    nb_R nb_P 170 10 [(20, l0), (0, l1), v2, v3, v4, v5, v6, v7] [] M = nb_R nb_P 170 11 [(20, l0), (0, l1), v2, v3, v4, v5, v6, v7] [] (nb_wr M l0 26 (nb_rd M (nb_rd M l0 15) 2)) :=
  nb_step (c := (((true && !decide ((l0 : Int) = 0)) && (!decide ((nb_rd M l0 15 : Int) = 0) && (decide ((0 : Int) ≤ 2) && decide (2 < nb_ln M (nb_rd M l0 15))))) && (!decide ((l0 : Int) = 0) && (!false || (decide ((nb_rd M (nb_rd M l0 15) 2 : Int) = 0) || decide ((nb_rd M (nb_rd M l0 15) 2 : Int) = 1)))))) rfl (by simp [h1, h2, h3, h4])
set_option maxRecDepth 10000 in
theorem q_m_bestManner_11 (l0 l1 : Int) (v2 v3 v4 v5 v6 v7 : nb_V) (M : nb_M) (h1 : l0 ≠ 0) (h2 : (nb_rd M l0 17) ≠ 0) (h3 : (0 : Int) ≤ nb_add (nb_add 12 (nb_mul 8 l1)) 3) (h4 : nb_add (nb_add 12 (nb_mul 8 l1)) 3 < nb_ln M (nb_rd M l0 17)) :
    nb_R nb_P 170 11 [(20, l0), (0, l1), v2, v3, v4, v5, v6, v7] [] M = nb_R nb_P 170 12 [(20, l0), (0, l1), (0, nb_add (nb_add 12 (nb_mul 8 l1)) 3), (0, nb_rd M (nb_rd M l0 17) (nb_add (nb_add 12 (nb_mul 8 l1)) 3)), (0, (-2)), (0, 1000000), (0, 0), v7] [] M :=
  nb_step (c := ((true && !decide ((l0 : Int) = 0)) && (!decide ((nb_rd M l0 17 : Int) = 0) && (decide ((0 : Int) ≤ nb_add (nb_add 12 (nb_mul 8 l1)) 3) && decide (nb_add (nb_add 12 (nb_mul 8 l1)) 3 < nb_ln M (nb_rd M l0 17)))))) rfl (by simp [h1, h2, h3, h4])
theorem q_m_bestManner_12 (l0 l1 l2 l3 l4 l5 l6 : Int) (v7 : nb_V) (M : nb_M) :
    nb_R nb_P 170 12 [(20, l0), (0, l1), (0, l2), (0, l3), (0, l4), (0, l5), (0, l6), v7] [] M = if l6 < 4 then nb_R nb_P 170 13 [(20, l0), (0, l1), (0, l2), (0, l3), (0, l4), (0, l5), (0, l6), v7] [] M else nb_R nb_P 170 21 [(20, l0), (0, l1), (0, l2), (0, l3), (0, l4), (0, l5), (0, l6), v7] [] M :=
  nb_step (c := true) rfl rfl
theorem q_m_bestManner_13 (l0 l1 l2 l3 l4 l5 l6 : Int) (v7 : nb_V) (M : nb_M) (h1 : l0 ≠ 0) :
    nb_R nb_P 170 13 [(20, l0), (0, l1), (0, l2), (0, l3), (0, l4), (0, l5), (0, l6), v7] [] M = (nb_R nb_P 169 0 [(20, l0), (0, l1), (0, l6)] [] M).bind fun r => nb_R nb_P 170 14 [(20, l0), (0, l1), (0, l2), (0, l3), (0, l4), (0, l5), (0, l6), v7] (r.1 ++ []) r.2 :=
  nb_stepC (c := true) (L2 := [(20, l0), (0, l1), (0, l2), (0, l3), (0, l4), (0, l5), (0, l6), v7]) (S2 := [(0, l6), (0, l1), (20, l0)]) (M2 := M) (t := 14) (cl := 169) (vi := true) rfl rfl (nb_inv_eq (n := 3) rfl rfl rfl rfl rfl rfl (fun _ => h1) rfl)
theorem q_m_bestManner_14 (l0 l1 l2 l3 l4 l5 l6 : Int) (v7 : nb_V) (M : nb_M) (h1 : l0 ≠ 0) :
    nb_R nb_P 170 14 [(20, l0), (0, l1), (0, l2), (0, l3), (0, l4), (0, l5), (0, l6), v7] [] M = (nb_R nb_P 123 0 [(20, l0), (0, l1), (98, 0)] [] M).bind fun r => nb_R nb_P 170 15 [(20, l0), (0, l1), (0, l2), (0, l3), (0, l4), (0, l5), (0, l6), v7] (r.1 ++ [(0, l2), (3, nb_rd M l0 17)]) r.2 :=
  nb_stepC (c := (true && !decide ((l0 : Int) = 0))) (L2 := [(20, l0), (0, l1), (0, l2), (0, l3), (0, l4), (0, l5), (0, l6), v7]) (S2 := [(0, l1), (20, l0), (0, l2), (3, nb_rd M l0 17)]) (M2 := M) (t := 15) (cl := 123) (vi := true) rfl (by simp [h1]) (nb_inv_eq (n := 2) rfl rfl rfl rfl rfl rfl (fun _ => h1) rfl)
theorem q_m_bestManner_15 (l0 l1 l2 l3 l4 l5 l6 s0 s1 s2 : Int) (v7 : nb_V) (M : nb_M) (h1 : s2 ≠ 0) (h2 : s2 ≠ 1) (h3 : (0 : Int) ≤ s1) (h4 : s1 < nb_ln M s2) :
    nb_R nb_P 170 15 [(20, l0), (0, l1), (0, l2), (0, l3), (0, l4), (0, l5), (0, l6), v7] [(0, s0), (0, s1), (3, s2)] M = nb_R nb_P 170 16 [(20, l0), (0, l1), (0, l2), (0, l3), (0, l4), (0, l5), (0, l6), v7] [] (nb_wr M s2 s1 s0) :=
  nb_step (c := (true && (!decide ((s2 : Int) = 0) && (!decide ((s2 : Int) = 1) && (decide ((0 : Int) ≤ s1) && decide (s1 < nb_ln M s2)))))) rfl (by simp [h1, h2, h3, h4])
theorem q_m_bestManner_16 (l0 l1 l2 l3 l4 l5 l6 : Int) (v7 : nb_V) (M : nb_M) (h1 : l0 ≠ 0) :
    nb_R nb_P 170 16 [(20, l0), (0, l1), (0, l2), (0, l3), (0, l4), (0, l5), (0, l6), v7] [] M = (nb_R nb_P 167 0 [(20, l0), (0, l1)] [] M).bind fun r => nb_R nb_P 170 17 [(20, l0), (0, l1), (0, l2), (0, l3), (0, l4), (0, l5), (0, l6), v7] (r.1 ++ []) r.2 :=
  nb_stepC (c := true) (L2 := [(20, l0), (0, l1), (0, l2), (0, l3), (0, l4), (0, l5), (0, l6), v7]) (S2 := [(0, l1), (20, l0)]) (M2 := M) (t := 17) (cl := 167) (vi := true) rfl rfl (nb_inv_eq (n := 2) rfl rfl rfl rfl rfl rfl (fun _ => h1) rfl)
theorem q_m_bestManner_17 (l0 l1 l2 l3 l4 l5 l6 s0 : Int) (v7 : nb_V) (M : nb_M) :
    nb_R nb_P 170 17 [(20, l0), (0, l1), (0, l2), (0, l3), (0, l4), (0, l5), (0, l6), v7] [(0, s0)] M = if s0 < l5 then nb_R nb_P 170 19 [(20, l0), (0, l1), (0, l2), (0, l3), (0, l4), (0, l5), (0, l6), (0, s0)] [] M else nb_R nb_P 170 18 [(20, l0), (0, l1), (0, l2), (0, l3), (0, l4), (0, l5), (0, l6), (0, s0)] [] M :=
  nb_step (c := true) rfl rfl
theorem q_m_bestManner_18 (l0 l1 l2 l3 l4 l5 l6 : Int) (v7 : nb_V) (M : nb_M) :
    nb_R nb_P 170 18 [(20, l0), (0, l1), (0, l2), (0, l3), (0, l4), (0, l5), (0, l6), v7] [] M = nb_R nb_P 170 20 [(20, l0), (0, l1), (0, l2), (0, l3), (0, l4), (0, l5), (0, l6), v7] [] M :=
  nb_step (c := true) rfl rfl
theorem q_m_bestManner_19 (l0 l1 l2 l3 l6 l7 : Int) (v4 v5 : nb_V) (M : nb_M) :
    nb_R nb_P 170 19 [(20, l0), (0, l1), (0, l2), (0, l3), v4, v5, (0, l6), (0, l7)] [] M = nb_R nb_P 170 20 [(20, l0), (0, l1), (0, l2), (0, l3), (0, l6), (0, l7), (0, l6), (0, l7)] [] M :=
  nb_step (c := true) rfl rfl
theorem q_m_bestManner_20 (l0 l1 l2 l3 l4 l5 l6 : Int) (v7 : nb_V) (M : nb_M) :
    nb_R nb_P 170 20 [(20, l0), (0, l1), (0, l2), (0, l3), (0, l4), (0, l5), (0, l6), v7] [] M = nb_R nb_P 170 12 [(20, l0), (0, l1), (0, l2), (0, l3), (0, l4), (0, l5), (0, nb_add l6 1), v7] [] M :=
  nb_step (c := true) rfl rfl
theorem q_m_bestManner_21 (l0 l2 l3 l4 : Int) (v1 v5 v6 v7 : nb_V) (M : nb_M) (h1 : l0 ≠ 0) (h2 : (nb_rd M l0 17) ≠ 0) (h3 : (nb_rd M l0 17) ≠ 1) (h4 : (0 : Int) ≤ l2) (h5 : l2 < nb_ln M (nb_rd M l0 17)) :
    nb_R nb_P 170 21 [(20, l0), v1, (0, l2), (0, l3), (0, l4), v5, v6, v7] [] M = nb_R nb_P 170 22 [(20, l0), v1, (0, l2), (0, l3), (0, l4), v5, v6, v7] [] (nb_wr M (nb_rd M l0 17) l2 l3) :=
  nb_step (c := ((true && !decide ((l0 : Int) = 0)) && (!decide ((nb_rd M l0 17 : Int) = 0) && (!decide ((nb_rd M l0 17 : Int) = 1) && (decide ((0 : Int) ≤ l2) && decide (l2 < nb_ln M (nb_rd M l0 17))))))) rfl (by simp [h1, h2, h3, h4, h5])
theorem q_m_bestManner_22 (l4 : Int) (v0 v1 v2 v3 v5 v6 v7 : nb_V) (M : nb_M) :
    nb_R nb_P 170 22 [v0, v1, v2, v3, (0, l4), v5, v6, v7] [] M = some ([(0, l4)], M) :=
  nb_step (c := true) rfl rfl
theorem q_m_cutWhy_0 (l0 : Int) (v1 v2 : nb_V) (M : nb_M) (h1 : l0 ≠ 0) :
    nb_R nb_P 172 0 [(20, l0), v1, v2] [] M = if nb_rd M l0 14 = 0 then nb_R nb_P 172 1 [(20, l0), v1, v2] [] M else nb_R nb_P 172 2 [(20, l0), v1, v2] [] M :=
  nb_step (c := (true && !decide ((l0 : Int) = 0))) rfl (by simp [h1])
theorem q_m_cutWhy_1 (v0 v1 v2 : nb_V) (M : nb_M) :
    nb_R nb_P 172 1 [v0, v1, v2] [] M = some ([(0, 1)], M) :=
  nb_step (c := true) rfl rfl
theorem q_m_cutWhy_2 (l0 : Int) (v1 v2 : nb_V) (M : nb_M) (h1 : l0 ≠ 0) (h2 : (nb_rd M l0 15) ≠ 0) (h3 : (0 : Int) ≤ 4) (h4 : 4 < nb_ln M (nb_rd M l0 15)) :
    nb_R nb_P 172 2 [(20, l0), v1, v2] [] M = if nb_rd M (nb_rd M l0 15) 4 < 2 then nb_R nb_P 172 4 [(20, l0), v1, v2] [] M else nb_R nb_P 172 3 [(20, l0), v1, v2] [] M :=
  nb_step (c := ((true && !decide ((l0 : Int) = 0)) && (!decide ((nb_rd M l0 15 : Int) = 0) && (decide ((0 : Int) ≤ 4) && decide (4 < nb_ln M (nb_rd M l0 15)))))) rfl (by simp [h1, h2, h3, h4])
theorem q_m_cutWhy_3 (l0 : Int) (v1 v2 : nb_V) (M : nb_M) (h1 : l0 ≠ 0) (h2 : (nb_rd M l0 15) ≠ 0) (h3 : (0 : Int) ≤ 1) (h4 : 1 < nb_ln M (nb_rd M l0 15)) :
    nb_R nb_P 172 3 [(20, l0), v1, v2] [] M = if nb_rd M (nb_rd M l0 15) 1 < 2 then nb_R nb_P 172 4 [(20, l0), v1, v2] [] M else nb_R nb_P 172 5 [(20, l0), v1, v2] [] M :=
  nb_step (c := ((true && !decide ((l0 : Int) = 0)) && (!decide ((nb_rd M l0 15 : Int) = 0) && (decide ((0 : Int) ≤ 1) && decide (1 < nb_ln M (nb_rd M l0 15)))))) rfl (by simp [h1, h2, h3, h4])
theorem q_m_cutWhy_4 (v0 v1 v2 : nb_V) (M : nb_M) :
    nb_R nb_P 172 4 [v0, v1, v2] [] M = some ([(0, 5)], M) :=
  nb_step (c := true) rfl rfl
theorem q_m_cutWhy_5 (l0 : Int) (v1 v2 : nb_V) (M : nb_M) (h1 : l0 ≠ 0) :
    nb_R nb_P 172 5 [(20, l0), v1, v2] [] M = nb_R nb_P 172 6 [(20, l0), v1, v2] [] (nb_wr M l0 28 1000000) :=
  nb_step (c := (true && (!decide ((l0 : Int) = 0) && (!false || (decide ((1000000 : Int) = 0) || decide ((1000000 : Int) = 1)))))) rfl (by simp [h1])
theorem q_m_cutWhy_6 (l0 : Int) (v1 v2 : nb_V) (M : nb_M) :
    nb_R nb_P 172 6 [(20, l0), v1, v2] [] M = nb_R nb_P 172 7 [(20, l0), (0, 0), v2] [] M :=
  nb_step (c := true) rfl rfl
theorem q_m_cutWhy_7 (l0 l1 : Int) (v2 : nb_V) (M : nb_M) (h1 : l0 ≠ 0) (h2 : (nb_rd M l0 15) ≠ 0) (h3 : (0 : Int) ≤ 1) (h4 : 1 < nb_ln M (nb_rd M l0 15)) :
    nb_R nb_P 172 7 [(20, l0), (0, l1), v2] [] M = if l1 < nb_sub (nb_rd M (nb_rd M l0 15) 1) 1 then nb_R nb_P 172 8 [(20, l0), (0, l1), v2] [] M else nb_R nb_P 172 21 [(20, l0), (0, l1), v2] [] M :=
  nb_step (c := ((true && !decide ((l0 : Int) = 0)) && (!decide ((nb_rd M l0 15 : Int) = 0) && (decide ((0 : Int) ≤ 1) && decide (1 < nb_ln M (nb_rd M l0 15)))))) rfl (by simp [h1, h2, h3, h4])
theorem q_m_cutWhy_8 (l0 l1 : Int) (v2 : nb_V) (M : nb_M) (h1 : l0 ≠ 0) :
    nb_R nb_P 172 8 [(20, l0), (0, l1), v2] [] M = (nb_R nb_P 121 0 [(20, l0)] [] M).bind fun r => nb_R nb_P 172 9 [(20, l0), (0, l1), v2] (r.1 ++ []) r.2 :=
  nb_stepC (c := true) (L2 := [(20, l0), (0, l1), v2]) (S2 := [(20, l0)]) (M2 := M) (t := 9) (cl := 121) (vi := true) rfl rfl (nb_inv_eq (n := 1) rfl rfl rfl rfl rfl rfl (fun _ => h1) rfl)
theorem q_m_cutWhy_9 (l0 l1 : Int) (v2 : nb_V) (M : nb_M) (h1 : l0 ≠ 0) (h2 : (nb_rd M l0 15) ≠ 0) (h3 : (0 : Int) ≤ 2) (h4 : 2 < nb_ln M (nb_rd M l0 15)) :
    nb_R nb_P 172 9 [(20, l0), (0, l1), v2] [] M = nb_R nb_P 172 10 [(20, l0), (0, l1), v2] [] (nb_wr M l0 26 (nb_rd M (nb_rd M l0 15) 2)) :=
  nb_step (c := (((true && !decide ((l0 : Int) = 0)) && (!decide ((nb_rd M l0 15 : Int) = 0) && (decide ((0 : Int) ≤ 2) && decide (2 < nb_ln M (nb_rd M l0 15))))) && (!decide ((l0 : Int) = 0) && (!false || (decide ((nb_rd M (nb_rd M l0 15) 2 : Int) = 0) || decide ((nb_rd M (nb_rd M l0 15) 2 : Int) = 1)))))) rfl (by simp [h1, h2, h3, h4])
theorem q_m_cutWhy_10 (l0 l1 : Int) (v2 : nb_V) (M : nb_M) (h1 : l0 ≠ 0) (h2 : (nb_rd M l0 23) ≠ 0) (h3 : (nb_rd M l0 23) ≠ 1) (h4 : (0 : Int) ≤ 2) (h5 : 2 < nb_ln M (nb_rd M l0 23)) :
    nb_R nb_P 172 10 [(20, l0), (0, l1), v2] [] M = nb_R nb_P 172 11 [(20, l0), (0, l1), v2] [] (nb_wr M (nb_rd M l0 23) 2 0) :=
  nb_step (c := ((true && !decide ((l0 : Int) = 0)) && (!decide ((nb_rd M l0 23 : Int) = 0) && (!decide ((nb_rd M l0 23 : Int) = 1) && (decide ((0 : Int) ≤ 2) && decide (2 < nb_ln M (nb_rd M l0 23))))))) rfl (by simp [h1, h2, h3, h4, h5])
theorem q_m_cutWhy_11 (l0 l1 : Int) (v2 : nb_V) (M : nb_M) (h1 : l0 ≠ 0) (h2 : (nb_rd M l0 23) ≠ 0) (h3 : (nb_rd M l0 23) ≠ 1) (h4 : (0 : Int) ≤ 3) (h5 : 3 < nb_ln M (nb_rd M l0 23)) :
    nb_R nb_P 172 11 [(20, l0), (0, l1), v2] [] M = nb_R nb_P 172 12 [(20, l0), (0, l1), v2] [] (nb_wr M (nb_rd M l0 23) 3 l1) :=
  nb_step (c := ((true && !decide ((l0 : Int) = 0)) && (!decide ((nb_rd M l0 23 : Int) = 0) && (!decide ((nb_rd M l0 23 : Int) = 1) && (decide ((0 : Int) ≤ 3) && decide (3 < nb_ln M (nb_rd M l0 23))))))) rfl (by simp [h1, h2, h3, h4, h5])
theorem q_m_cutWhy_12 (l0 l1 : Int) (v2 : nb_V) (M : nb_M) (h1 : l0 ≠ 0) (h2 : (nb_rd M l0 23) ≠ 0) (h3 : (nb_rd M l0 23) ≠ 1) (h4 : (0 : Int) ≤ 8) (h5 : 8 < nb_ln M (nb_rd M l0 23)) :
    nb_R nb_P 172 12 [(20, l0), (0, l1), v2] [] M = nb_R nb_P 172 13 [(20, l0), (0, l1), v2] [] (nb_wr M (nb_rd M l0 23) 8 (nb_add l1 1)) :=
  nb_step (c := ((true && !decide ((l0 : Int) = 0)) && (!decide ((nb_rd M l0 23 : Int) = 0) && (!decide ((nb_rd M l0 23 : Int) = 1) && (decide ((0 : Int) ≤ 8) && decide (8 < nb_ln M (nb_rd M l0 23))))))) rfl (by simp [h1, h2, h3, h4, h5])
theorem q_m_cutWhy_13 (l0 l1 : Int) (v2 : nb_V) (M : nb_M) (h1 : l0 ≠ 0) (h2 : (nb_rd M l0 15) ≠ 0) (h3 : (0 : Int) ≤ 1) (h4 : 1 < nb_ln M (nb_rd M l0 15)) (h5 : (nb_rd M l0 23) ≠ 0) (h6 : (nb_rd M l0 23) ≠ 1) (h7 : (0 : Int) ≤ 9) (h8 : 9 < nb_ln M (nb_rd M l0 23)) :
    nb_R nb_P 172 13 [(20, l0), (0, l1), v2] [] M = nb_R nb_P 172 14 [(20, l0), (0, l1), v2] [] (nb_wr M (nb_rd M l0 23) 9 (nb_sub (nb_rd M (nb_rd M l0 15) 1) 1)) :=
  nb_step (c := ((((true && !decide ((l0 : Int) = 0)) && !decide ((l0 : Int) = 0)) && (!decide ((nb_rd M l0 15 : Int) = 0) && (decide ((0 : Int) ≤ 1) && decide (1 < nb_ln M (nb_rd M l0 15))))) && (!decide ((nb_rd M l0 23 : Int) = 0) && (!decide ((nb_rd M l0 23 : Int) = 1) && (decide ((0 : Int) ≤ 9) && decide (9 < nb_ln M (nb_rd M l0 23))))))) rfl (by simp [h1, h2, h3, h4, h5, h6, h7, h8])
theorem q_m_cutWhy_14 (l0 l1 : Int) (v2 : nb_V) (M : nb_M) (h1 : l0 ≠ 0) :
    nb_R nb_P 172 14 [(20, l0), (0, l1), v2] [] M = (nb_R nb_P 134 0 [(20, l0)] [] M).bind fun r => nb_R nb_P 172 15 [(20, l0), (0, l1), v2] (r.1 ++ []) r.2 :=
  nb_stepC (c := true) (L2 := [(20, l0), (0, l1), v2]) (S2 := [(20, l0)]) (M2 := M) (t := 15) (cl := 134) (vi := true) rfl rfl (nb_inv_eq (n := 1) rfl rfl rfl rfl rfl rfl (fun _ => h1) rfl)
theorem q_m_cutWhy_15 (l0 l1 : Int) (v2 : nb_V) (M : nb_M) (h1 : l0 ≠ 0) :
    nb_R nb_P 172 15 [(20, l0), (0, l1), v2] [] M = (nb_R nb_P 140 0 [(20, l0), (0, 3), (98, 0), (98, 0), (98, 0)] [] M).bind fun r => nb_R nb_P 172 16 [(20, l0), (0, l1), v2] (r.1 ++ []) r.2 :=
  nb_stepC (c := true) (L2 := [(20, l0), (0, l1), v2]) (S2 := [(0, 3), (20, l0)]) (M2 := M) (t := 16) (cl := 140) (vi := true) rfl rfl (nb_inv_eq (n := 2) rfl rfl rfl rfl rfl rfl (fun _ => h1) rfl)
theorem q_m_cutWhy_16 (l0 l1 s0 : Int) (v2 : nb_V) (M : nb_M) (h1 : l0 ≠ 0) :
    nb_R nb_P 172 16 [(20, l0), (0, l1), v2] [(0, s0)] M = if s0 < nb_rd M l0 28 then nb_R nb_P 172 18 [(20, l0), (0, l1), (0, s0)] [] M else nb_R nb_P 172 17 [(20, l0), (0, l1), (0, s0)] [] M :=
  nb_step (c := (true && !decide ((l0 : Int) = 0))) rfl (by simp [h1])
theorem q_m_cutWhy_17 (l0 l1 : Int) (v2 : nb_V) (M : nb_M) :
    nb_R nb_P 172 17 [(20, l0), (0, l1), v2] [] M = nb_R nb_P 172 20 [(20, l0), (0, l1), v2] [] M :=
  nb_step (c := true) rfl rfl
theorem q_m_cutWhy_18 (l0 l1 l2 : Int) (M : nb_M) (h1 : l0 ≠ 0) :
    nb_R nb_P 172 18 [(20, l0), (0, l1), (0, l2)] [] M = nb_R nb_P 172 19 [(20, l0), (0, l1), (0, l2)] [] (nb_wr M l0 28 l2) :=
  nb_step (c := (true && (!decide ((l0 : Int) = 0) && (!false || (decide ((l2 : Int) = 0) || decide ((l2 : Int) = 1)))))) rfl (by simp [h1])
theorem q_m_cutWhy_19 (l0 l1 : Int) (v2 : nb_V) (M : nb_M) (h1 : l0 ≠ 0) :
    nb_R nb_P 172 19 [(20, l0), (0, l1), v2] [] M = nb_R nb_P 172 20 [(20, l0), (0, l1), v2] [] (nb_wr M l0 27 l1) :=
  nb_step (c := (true && (!decide ((l0 : Int) = 0) && (!false || (decide ((l1 : Int) = 0) || decide ((l1 : Int) = 1)))))) rfl (by simp [h1])
theorem q_m_cutWhy_20 (l0 l1 : Int) (v2 : nb_V) (M : nb_M) :
    nb_R nb_P 172 20 [(20, l0), (0, l1), v2] [] M = nb_R nb_P 172 7 [(20, l0), (0, nb_add l1 1), v2] [] M :=
  nb_step (c := true) rfl rfl
theorem q_m_cutWhy_21 (v0 v1 v2 : nb_V) (M : nb_M) :
    nb_R nb_P 172 21 [v0, v1, v2] [] M = some ([(0, 0)], M) :=
  nb_step (c := true) rfl rfl
theorem q_m_cutWaits_0 (l0 : Int) (v1 : nb_V) (M : nb_M) (h1 : l0 ≠ 0) :
    nb_R nb_P 174 0 [(20, l0), v1] [] M = (nb_R nb_P 79 0 [(20, l0)] [] M).bind fun r => nb_R nb_P 174 1 [(20, l0), v1] (r.1 ++ []) r.2 :=
  nb_stepC (c := true) (L2 := [(20, l0), v1]) (S2 := [(20, l0)]) (M2 := M) (t := 1) (cl := 79) (vi := true) rfl rfl (nb_inv_eq (n := 1) rfl rfl rfl rfl rfl rfl (fun _ => h1) rfl)
theorem q_m_cutWaits_1 (l0 : Int) (v1 : nb_V) (M : nb_M) (h1 : l0 ≠ 0) :
    nb_R nb_P 174 1 [(20, l0), v1] [] M = (nb_R nb_P 172 0 [(20, l0), (98, 0), (98, 0)] [] M).bind fun r => nb_R nb_P 174 2 [(20, l0), v1] (r.1 ++ []) r.2 :=
  nb_stepC (c := true) (L2 := [(20, l0), v1]) (S2 := [(20, l0)]) (M2 := M) (t := 2) (cl := 172) (vi := true) rfl rfl (nb_inv_eq (n := 1) rfl rfl rfl rfl rfl rfl (fun _ => h1) rfl)
theorem q_m_cutWaits_2 (l0 s0 : Int) (v1 : nb_V) (M : nb_M) :
    nb_R nb_P 174 2 [(20, l0), v1] [(0, s0)] M = if s0 = 0 then nb_R nb_P 174 5 [(20, l0), (0, s0)] [] M else nb_R nb_P 174 3 [(20, l0), (0, s0)] [] M :=
  nb_step (c := true) rfl rfl
theorem q_m_cutWaits_3 (l0 l1 : Int) (M : nb_M) (h1 : l0 ≠ 0) :
    nb_R nb_P 174 3 [(20, l0), (0, l1)] [] M = (nb_R nb_P 80 0 [(20, l0), (0, l1)] [] M).bind fun r => nb_R nb_P 174 4 [(20, l0), (0, l1)] (r.1 ++ []) r.2 :=
  nb_stepC (c := true) (L2 := [(20, l0), (0, l1)]) (S2 := [(0, l1), (20, l0)]) (M2 := M) (t := 4) (cl := 80) (vi := true) rfl rfl (nb_inv_eq (n := 2) rfl rfl rfl rfl rfl rfl (fun _ => h1) rfl)
theorem q_m_cutWaits_4 (s0 : Int) (v0 v1 : nb_V) (M : nb_M) :
    nb_R nb_P 174 4 [v0, v1] [(0, s0)] M = nb_R nb_P 174 6 [v0, v1] [(0, s0)] M :=
  nb_step (c := true) rfl rfl
theorem q_m_cutWaits_5 (l0 : Int) (v1 : nb_V) (M : nb_M) (h1 : l0 ≠ 0) :
    nb_R nb_P 174 5 [(20, l0), v1] [] M = nb_R nb_P 174 6 [(20, l0), v1] [(0, nb_rd M l0 28)] M :=
  nb_step (c := (true && !decide ((l0 : Int) = 0))) rfl (by simp [h1])
theorem q_m_cutWaits_6 (s0 : Int) (v0 v1 : nb_V) (M : nb_M) :
    nb_R nb_P 174 6 [v0, v1] [(0, s0)] M = some ([(0, s0)], M) :=
  nb_step (c := true) rfl rfl
theorem q_m_letCosts_0 (l0 l1 l2 : Int) (v3 v4 v5 : nb_V) (M : nb_M) (h1 : l0 ≠ 0) :
    nb_R nb_P 176 0 [(20, l0), (0, l1), (0, l2), v3, v4, v5] [] M = (nb_R nb_P 79 0 [(20, l0)] [] M).bind fun r => nb_R nb_P 176 1 [(20, l0), (0, l1), (0, l2), v3, v4, v5] (r.1 ++ []) r.2 :=
  nb_stepC (c := true) (L2 := [(20, l0), (0, l1), (0, l2), v3, v4, v5]) (S2 := [(20, l0)]) (M2 := M) (t := 1) (cl := 79) (vi := true) rfl rfl (nb_inv_eq (n := 1) rfl rfl rfl rfl rfl rfl (fun _ => h1) rfl)
theorem q_m_letCosts_1 (l0 l1 l2 : Int) (v3 v4 v5 : nb_V) (M : nb_M) (h1 : l0 ≠ 0) :
    nb_R nb_P 176 1 [(20, l0), (0, l1), (0, l2), v3, v4, v5] [] M = (nb_R nb_P 116 0 [(20, l0), (0, l1)] [] M).bind fun r => nb_R nb_P 176 2 [(20, l0), (0, l1), (0, l2), v3, v4, v5] (r.1 ++ []) r.2 :=
  nb_stepC (c := true) (L2 := [(20, l0), (0, l1), (0, l2), v3, v4, v5]) (S2 := [(0, l1), (20, l0)]) (M2 := M) (t := 2) (cl := 116) (vi := true) rfl rfl (nb_inv_eq (n := 2) rfl rfl rfl rfl rfl rfl (fun _ => h1) rfl)
theorem q_m_letCosts_2 (l0 l1 l2 s0 : Int) (v3 v4 v5 : nb_V) (M : nb_M) :
    nb_R nb_P 176 2 [(20, l0), (0, l1), (0, l2), v3, v4, v5] [(0, s0)] M = if s0 = 0 then nb_R nb_P 176 6 [(20, l0), (0, l1), (0, l2), v3, v4, v5] [] M else nb_R nb_P 176 3 [(20, l0), (0, l1), (0, l2), v3, v4, v5] [] M :=
  nb_step (c := true) rfl rfl
theorem q_m_letCosts_3 (l0 l1 l2 : Int) (v3 v4 v5 : nb_V) (M : nb_M) (h1 : l0 ≠ 0) :
    nb_R nb_P 176 3 [(20, l0), (0, l1), (0, l2), v3, v4, v5] [] M = (nb_R nb_P 116 0 [(20, l0), (0, l2)] [] M).bind fun r => nb_R nb_P 176 4 [(20, l0), (0, l1), (0, l2), v3, v4, v5] (r.1 ++ []) r.2 :=
  nb_stepC (c := true) (L2 := [(20, l0), (0, l1), (0, l2), v3, v4, v5]) (S2 := [(0, l2), (20, l0)]) (M2 := M) (t := 4) (cl := 116) (vi := true) rfl rfl (nb_inv_eq (n := 2) rfl rfl rfl rfl rfl rfl (fun _ => h1) rfl)
theorem q_m_letCosts_4 (l0 l1 l2 s0 : Int) (v3 v4 v5 : nb_V) (M : nb_M) :
    nb_R nb_P 176 4 [(20, l0), (0, l1), (0, l2), v3, v4, v5] [(0, s0)] M = if s0 = 0 then nb_R nb_P 176 6 [(20, l0), (0, l1), (0, l2), v3, v4, v5] [] M else nb_R nb_P 176 5 [(20, l0), (0, l1), (0, l2), v3, v4, v5] [] M :=
  nb_step (c := true) rfl rfl
theorem q_m_letCosts_5 (l0 l1 l2 : Int) (v3 v4 v5 : nb_V) (M : nb_M) :
    nb_R nb_P 176 5 [(20, l0), (0, l1), (0, l2), v3, v4, v5] [] M = if l1 = l2 then nb_R nb_P 176 6 [(20, l0), (0, l1), (0, l2), v3, v4, v5] [] M else nb_R nb_P 176 8 [(20, l0), (0, l1), (0, l2), v3, v4, v5] [] M :=
  nb_step (c := true) rfl rfl
theorem q_m_letCosts_6 (l0 : Int) (v1 v2 v3 v4 v5 : nb_V) (M : nb_M) (h1 : l0 ≠ 0) :
    nb_R nb_P 176 6 [(20, l0), v1, v2, v3, v4, v5] [] M = (nb_R nb_P 81 0 [(20, l0), (0, (-1000))] [] M).bind fun r => nb_R nb_P 176 7 [(20, l0), v1, v2, v3, v4, v5] (r.1 ++ []) r.2 :=
  nb_stepC (c := true) (L2 := [(20, l0), v1, v2, v3, v4, v5]) (S2 := [(0, (-1000)), (20, l0)]) (M2 := M) (t := 7) (cl := 81) (vi := true) rfl rfl (nb_inv_eq (n := 2) rfl rfl rfl rfl rfl rfl (fun _ => h1) rfl)
theorem q_m_letCosts_7 (s0 : Int) (v0 v1 v2 v3 v4 v5 : nb_V) (M : nb_M) :
    nb_R nb_P 176 7 [v0, v1, v2, v3, v4, v5] [(0, s0)] M = some ([(0, s0)], M) :=
  nb_step (c := true) rfl rfl
theorem q_m_letCosts_8 (l0 l1 l2 : Int) (v3 v4 v5 : nb_V) (M : nb_M) (h1 : l0 ≠ 0) :
    nb_R nb_P 176 8 [(20, l0), (0, l1), (0, l2), v3, v4, v5] [] M = (nb_R nb_P 175 0 [(20, l0), (0, l1), (0, l2)] [] M).bind fun r => nb_R nb_P 176 9 [(20, l0), (0, l1), (0, l2), v3, v4, v5] (r.1 ++ []) r.2 :=
  nb_stepC (c := true) (L2 := [(20, l0), (0, l1), (0, l2), v3, v4, v5]) (S2 := [(0, l2), (0, l1), (20, l0)]) (M2 := M) (t := 9) (cl := 175) (vi := true) rfl rfl (nb_inv_eq (n := 3) rfl rfl rfl rfl rfl rfl (fun _ => h1) rfl)
theorem q_m_letCosts_9 (l0 l1 l2 s0 : Int) (v3 v4 v5 : nb_V) (M : nb_M) :
    nb_R nb_P 176 9 [(20, l0), (0, l1), (0, l2), v3, v4, v5] [(0, s0)] M = if s0 = 0 then nb_R nb_P 176 12 [(20, l0), (0, l1), (0, l2), v3, v4, v5] [] M else nb_R nb_P 176 10 [(20, l0), (0, l1), (0, l2), v3, v4, v5] [] M :=
  nb_step (c := true) rfl rfl
theorem q_m_letCosts_10 (l0 : Int) (v1 v2 v3 v4 v5 : nb_V) (M : nb_M) (h1 : l0 ≠ 0) :
    nb_R nb_P 176 10 [(20, l0), v1, v2, v3, v4, v5] [] M = nb_R nb_P 176 11 [(20, l0), v1, v2, v3, v4, v5] [] (nb_wr M l0 11 5) :=
  nb_step (c := (true && (!decide ((l0 : Int) = 0) && (!false || (decide ((5 : Int) = 0) || decide ((5 : Int) = 1)))))) rfl (by simp [h1])
theorem q_m_letCosts_11 (v0 v1 v2 v3 v4 v5 : nb_V) (M : nb_M) :
    nb_R nb_P 176 11 [v0, v1, v2, v3, v4, v5] [] M = some ([(0, (-1000))], M) :=
  nb_step (c := true) rfl rfl
theorem q_m_letCosts_12 (l0 l1 l2 : Int) (v3 v4 v5 : nb_V) (M : nb_M) (h1 : l0 ≠ 0) :
    nb_R nb_P 176 12 [(20, l0), (0, l1), (0, l2), v3, v4, v5] [] M = (nb_R nb_P 150 0 [(20, l0)] [] M).bind fun r => nb_R nb_P 176 13 [(20, l0), (0, l1), (0, l2), v3, v4, v5] (r.1 ++ []) r.2 :=
  nb_stepC (c := true) (L2 := [(20, l0), (0, l1), (0, l2), v3, v4, v5]) (S2 := [(20, l0)]) (M2 := M) (t := 13) (cl := 150) (vi := true) rfl rfl (nb_inv_eq (n := 1) rfl rfl rfl rfl rfl rfl (fun _ => h1) rfl)
theorem q_m_letCosts_13 (l0 l1 l2 : Int) (v3 v4 v5 : nb_V) (M : nb_M) (h1 : l0 ≠ 0) :
    nb_R nb_P 176 13 [(20, l0), (0, l1), (0, l2), v3, v4, v5] [] M = (nb_R nb_P 136 0 [(20, l0), (0, l1), (98, 0)] [] M).bind fun r => nb_R nb_P 176 14 [(20, l0), (0, l1), (0, l2), v3, v4, v5] (r.1 ++ []) r.2 :=
  nb_stepC (c := true) (L2 := [(20, l0), (0, l1), (0, l2), v3, v4, v5]) (S2 := [(0, l1), (20, l0)]) (M2 := M) (t := 14) (cl := 136) (vi := true) rfl rfl (nb_inv_eq (n := 2) rfl rfl rfl rfl rfl rfl (fun _ => h1) rfl)
set_option maxRecDepth 10000 in
theorem q_m_letCosts_14 (l0 l1 l2 s0 : Int) (v3 v4 v5 : nb_V) (M : nb_M) (h1 : l0 ≠ 0) (h2 : (nb_rd M l0 17) ≠ 0) (h3 : (0 : Int) ≤ nb_add (nb_add 12 (nb_mul 8 l1)) 3) (h4 : nb_add (nb_add 12 (nb_mul 8 l1)) 3 < nb_ln M (nb_rd M l0 17)) :
    nb_R nb_P 176 14 [(20, l0), (0, l1), (0, l2), v3, v4, v5] [(0, s0)] M = (nb_R nb_P 125 0 [(3, nb_rd M l0 17), (0, l2), (0, 3)] [] M).bind fun r => nb_R nb_P 176 15 [(20, l0), (0, l1), (0, l2), (0, s0), (0, nb_add (nb_add 12 (nb_mul 8 l1)) 3), (0, nb_rd M (nb_rd M l0 17) (nb_add (nb_add 12 (nb_mul 8 l1)) 3))] (r.1 ++ [(0, nb_add (nb_add 12 (nb_mul 8 l1)) 3), (3, nb_rd M l0 17)]) r.2 :=
  nb_stepC (c := ((((true && !decide ((l0 : Int) = 0)) && (!decide ((nb_rd M l0 17 : Int) = 0) && (decide ((0 : Int) ≤ nb_add (nb_add 12 (nb_mul 8 l1)) 3) && decide (nb_add (nb_add 12 (nb_mul 8 l1)) 3 < nb_ln M (nb_rd M l0 17))))) && !decide ((l0 : Int) = 0)) && !decide ((l0 : Int) = 0))) (L2 := [(20, l0), (0, l1), (0, l2), (0, s0), (0, nb_add (nb_add 12 (nb_mul 8 l1)) 3), (0, nb_rd M (nb_rd M l0 17) (nb_add (nb_add 12 (nb_mul 8 l1)) 3))]) (S2 := [(0, 3), (0, l2), (3, nb_rd M l0 17), (0, nb_add (nb_add 12 (nb_mul 8 l1)) 3), (3, nb_rd M l0 17)]) (M2 := M) (t := 15) (cl := 125) (vi := false) rfl (by simp [h1, h2, h3, h4]) (nb_inv_eq (n := 3) rfl rfl rfl rfl rfl rfl (fun h => by cases h) rfl)
theorem q_m_letCosts_15 (l0 l1 l3 l4 l5 s0 s1 s2 : Int) (v2 : nb_V) (M : nb_M) (h1 : s2 ≠ 0) (h2 : s2 ≠ 1) (h3 : (0 : Int) ≤ s1) (h4 : s1 < nb_ln M s2) :
    nb_R nb_P 176 15 [(20, l0), (0, l1), v2, (0, l3), (0, l4), (0, l5)] [(0, s0), (0, s1), (3, s2)] M = nb_R nb_P 176 16 [(20, l0), (0, l1), v2, (0, l3), (0, l4), (0, l5)] [] (nb_wr M s2 s1 (nb_add s0 1)) :=
  nb_step (c := (true && (!decide ((s2 : Int) = 0) && (!decide ((s2 : Int) = 1) && (decide ((0 : Int) ≤ s1) && decide (s1 < nb_ln M s2)))))) rfl (by simp [h1, h2, h3, h4])
theorem q_m_letCosts_16 (l0 l1 l3 l4 l5 : Int) (v2 : nb_V) (M : nb_M) (h1 : l0 ≠ 0) :
    nb_R nb_P 176 16 [(20, l0), (0, l1), v2, (0, l3), (0, l4), (0, l5)] [] M = (nb_R nb_P 134 0 [(20, l0)] [] M).bind fun r => nb_R nb_P 176 17 [(20, l0), (0, l1), v2, (0, l3), (0, l4), (0, l5)] (r.1 ++ []) r.2 :=
  nb_stepC (c := true) (L2 := [(20, l0), (0, l1), v2, (0, l3), (0, l4), (0, l5)]) (S2 := [(20, l0)]) (M2 := M) (t := 17) (cl := 134) (vi := true) rfl rfl (nb_inv_eq (n := 1) rfl rfl rfl rfl rfl rfl (fun _ => h1) rfl)
theorem q_m_letCosts_17 (l0 l1 l3 l4 l5 : Int) (v2 : nb_V) (M : nb_M) (h1 : l0 ≠ 0) (h2 : (nb_rd M l0 17) ≠ 0) (h3 : (nb_rd M l0 17) ≠ 1) (h4 : (0 : Int) ≤ l4) (h5 : l4 < nb_ln M (nb_rd M l0 17)) :
    nb_R nb_P 176 17 [(20, l0), (0, l1), v2, (0, l3), (0, l4), (0, l5)] [] M = nb_R nb_P 176 18 [(20, l0), (0, l1), v2, (0, l3), (0, l4), (0, l5)] [] (nb_wr M (nb_rd M l0 17) l4 l5) :=
  nb_step (c := ((true && !decide ((l0 : Int) = 0)) && (!decide ((nb_rd M l0 17 : Int) = 0) && (!decide ((nb_rd M l0 17 : Int) = 1) && (decide ((0 : Int) ≤ l4) && decide (l4 < nb_ln M (nb_rd M l0 17))))))) rfl (by simp [h1, h2, h3, h4, h5])
theorem q_m_letCosts_18 (l0 l1 l3 : Int) (v2 v4 v5 : nb_V) (M : nb_M) (h1 : l0 ≠ 0) :
    nb_R nb_P 176 18 [(20, l0), (0, l1), v2, (0, l3), v4, v5] [] M = (nb_R nb_P 136 0 [(20, l0), (0, l1), (98, 0)] [] M).bind fun r => nb_R nb_P 176 19 [(20, l0), (0, l1), v2, (0, l3), v4, v5] (r.1 ++ []) r.2 :=
  nb_stepC (c := true) (L2 := [(20, l0), (0, l1), v2, (0, l3), v4, v5]) (S2 := [(0, l1), (20, l0)]) (M2 := M) (t := 19) (cl := 136) (vi := true) rfl rfl (nb_inv_eq (n := 2) rfl rfl rfl rfl rfl rfl (fun _ => h1) rfl)
theorem q_m_letCosts_19 (l3 s0 : Int) (v0 v1 v2 v4 v5 : nb_V) (M : nb_M) :
    nb_R nb_P 176 19 [v0, v1, v2, (0, l3), v4, v5] [(0, s0)] M = some ([(0, nb_sub s0 l3)], M) :=
  nb_step (c := true) rfl rfl
theorem q_m_allPeople_0 (l0 : Int) (M : nb_M) (h1 : l0 ≠ 0) (h2 : (nb_rd M l0 15) ≠ 0) (h3 : (0 : Int) ≤ 5) (h4 : 5 < nb_ln M (nb_rd M l0 15)) :
    nb_R nb_P 178 0 [(20, l0)] [] M = some ([(0, nb_sub (nb_shl 1 (nb_rd M (nb_rd M l0 15) 5)) 1)], M) :=
  nb_step (c := ((true && !decide ((l0 : Int) = 0)) && (!decide ((nb_rd M l0 15 : Int) = 0) && (decide ((0 : Int) ≤ 5) && decide (5 < nb_ln M (nb_rd M l0 15)))))) rfl (by simp [h1, h2, h3, h4])
theorem q_m_honesty_0 (l0 l1 l2 : Int) (v3 v4 v5 : nb_V) (M : nb_M) (h1 : l0 ≠ 0) :
    nb_R nb_P 180 0 [(20, l0), (0, l1), (0, l2), v3, v4, v5] [] M = (nb_R nb_P 79 0 [(20, l0)] [] M).bind fun r => nb_R nb_P 180 1 [(20, l0), (0, l1), (0, l2), v3, v4, v5] (r.1 ++ []) r.2 :=
  nb_stepC (c := true) (L2 := [(20, l0), (0, l1), (0, l2), v3, v4, v5]) (S2 := [(20, l0)]) (M2 := M) (t := 1) (cl := 79) (vi := true) rfl rfl (nb_inv_eq (n := 1) rfl rfl rfl rfl rfl rfl (fun _ => h1) rfl)
theorem q_m_honesty_1 (l0 l1 l2 : Int) (v3 v4 v5 : nb_V) (M : nb_M) (h1 : l0 ≠ 0) :
    nb_R nb_P 180 1 [(20, l0), (0, l1), (0, l2), v3, v4, v5] [] M = (nb_R nb_P 179 0 [(20, l0), (0, l1)] [] M).bind fun r => nb_R nb_P 180 2 [(20, l0), (0, l1), (0, l2), v3, v4, v5] (r.1 ++ []) r.2 :=
  nb_stepC (c := true) (L2 := [(20, l0), (0, l1), (0, l2), v3, v4, v5]) (S2 := [(0, l1), (20, l0)]) (M2 := M) (t := 2) (cl := 179) (vi := true) rfl rfl (nb_inv_eq (n := 2) rfl rfl rfl rfl rfl rfl (fun _ => h1) rfl)
theorem q_m_honesty_2 (l0 l1 l2 s0 : Int) (v3 v4 v5 : nb_V) (M : nb_M) :
    nb_R nb_P 180 2 [(20, l0), (0, l1), (0, l2), v3, v4, v5] [(0, s0)] M = if s0 = 0 then nb_R nb_P 180 5 [(20, l0), (0, l1), (0, l2), (0, s0), v4, v5] [] M else nb_R nb_P 180 3 [(20, l0), (0, l1), (0, l2), (0, s0), v4, v5] [] M :=
  nb_step (c := true) rfl rfl
theorem q_m_honesty_3 (l0 l3 : Int) (v1 v2 v4 v5 : nb_V) (M : nb_M) (h1 : l0 ≠ 0) :
    nb_R nb_P 180 3 [(20, l0), v1, v2, (0, l3), v4, v5] [] M = (nb_R nb_P 80 0 [(20, l0), (0, l3)] [] M).bind fun r => nb_R nb_P 180 4 [(20, l0), v1, v2, (0, l3), v4, v5] (r.1 ++ []) r.2 :=
  nb_stepC (c := true) (L2 := [(20, l0), v1, v2, (0, l3), v4, v5]) (S2 := [(0, l3), (20, l0)]) (M2 := M) (t := 4) (cl := 80) (vi := true) rfl rfl (nb_inv_eq (n := 2) rfl rfl rfl rfl rfl rfl (fun _ => h1) rfl)
theorem q_m_honesty_4 (s0 : Int) (v0 v1 v2 v3 v4 v5 : nb_V) (M : nb_M) :
    nb_R nb_P 180 4 [v0, v1, v2, v3, v4, v5] [(0, s0)] M = some ([(0, s0)], M) :=
  nb_step (c := true) rfl rfl
theorem q_m_honesty_5 (l0 l1 l2 : Int) (v3 v4 v5 : nb_V) (M : nb_M) (h1 : l0 ≠ 0) :
    nb_R nb_P 180 5 [(20, l0), (0, l1), (0, l2), v3, v4, v5] [] M = (nb_R nb_P 177 0 [(20, l0), (0, l1), (98, 0)] [] M).bind fun r => nb_R nb_P 180 6 [(20, l0), (0, l1), (0, l2), v3, v4, v5] (r.1 ++ []) r.2 :=
  nb_stepC (c := true) (L2 := [(20, l0), (0, l1), (0, l2), v3, v4, v5]) (S2 := [(0, l1), (20, l0)]) (M2 := M) (t := 6) (cl := 177) (vi := true) rfl rfl (nb_inv_eq (n := 2) rfl rfl rfl rfl rfl rfl (fun _ => h1) rfl)
theorem q_m_honesty_6 (l0 l1 l2 : Int) (v3 v4 v5 : nb_V) (M : nb_M) :
    nb_R nb_P 180 6 [(20, l0), (0, l1), (0, l2), v3, v4, v5] [] M = nb_R nb_P 180 7 [(20, l0), (0, l1), (0, l2), nb_clr v3, (0, 0), (0, 0)] [] M :=
  nb_step (c := true) rfl rfl
theorem q_m_honesty_7 (l0 l1 l2 l4 l5 : Int) (v3 : nb_V) (M : nb_M) (h1 : l0 ≠ 0) (h2 : (nb_rd M l0 15) ≠ 0) (h3 : (0 : Int) ≤ 5) (h4 : 5 < nb_ln M (nb_rd M l0 15)) :
    nb_R nb_P 180 7 [(20, l0), (0, l1), (0, l2), v3, (0, l4), (0, l5)] [] M = if l5 < nb_rd M (nb_rd M l0 15) 5 then nb_R nb_P 180 8 [(20, l0), (0, l1), (0, l2), v3, (0, l4), (0, l5)] [] M else nb_R nb_P 180 14 [(20, l0), (0, l1), (0, l2), v3, (0, l4), (0, l5)] [] M :=
  nb_step (c := ((true && !decide ((l0 : Int) = 0)) && (!decide ((nb_rd M l0 15 : Int) = 0) && (decide ((0 : Int) ≤ 5) && decide (5 < nb_ln M (nb_rd M l0 15)))))) rfl (by simp [h1, h2, h3, h4])
theorem q_m_honesty_8 (l0 l1 l2 l4 l5 : Int) (v3 : nb_V) (M : nb_M) :
    nb_R nb_P 180 8 [(20, l0), (0, l1), (0, l2), v3, (0, l4), (0, l5)] [] M = (nb_R nb_P 84 0 [(0, l1), (0, l5)] [] M).bind fun r => nb_R nb_P 180 9 [(20, l0), (0, l1), (0, l2), v3, (0, l4), (0, l5)] (r.1 ++ [(0, l4)]) r.2 :=
  nb_stepC (c := true) (L2 := [(20, l0), (0, l1), (0, l2), v3, (0, l4), (0, l5)]) (S2 := [(0, l5), (0, l1), (0, l4)]) (M2 := M) (t := 9) (cl := 84) (vi := false) rfl rfl (nb_inv_eq (n := 2) rfl rfl rfl rfl rfl rfl (fun h => by cases h) rfl)
theorem q_m_honesty_9 (l0 l1 l2 l5 s0 s1 : Int) (v3 v4 : nb_V) (M : nb_M) :
    nb_R nb_P 180 9 [(20, l0), (0, l1), (0, l2), v3, v4, (0, l5)] [(0, s0), (0, s1)] M = if s0 = l2 then nb_R nb_P 180 12 [(20, l0), (0, l1), (0, l2), v3, v4, (0, l5)] [(0, s1)] M else nb_R nb_P 180 10 [(20, l0), (0, l1), (0, l2), v3, v4, (0, l5)] [(0, s1)] M :=
  nb_step (c := true) rfl rfl
theorem q_m_honesty_10 (l0 l1 l2 l5 s0 : Int) (v3 v4 : nb_V) (M : nb_M) (h1 : l0 ≠ 0) :
    nb_R nb_P 180 10 [(20, l0), (0, l1), (0, l2), v3, v4, (0, l5)] [(0, s0)] M = (nb_R nb_P 136 0 [(20, l0), (0, l5), (98, 0)] [] M).bind fun r => nb_R nb_P 180 11 [(20, l0), (0, l1), (0, l2), v3, v4, (0, l5)] (r.1 ++ [(0, s0)]) r.2 :=
  nb_stepC (c := true) (L2 := [(20, l0), (0, l1), (0, l2), v3, v4, (0, l5)]) (S2 := [(0, l5), (20, l0), (0, s0)]) (M2 := M) (t := 11) (cl := 136) (vi := true) rfl rfl (nb_inv_eq (n := 2) rfl rfl rfl rfl rfl rfl (fun _ => h1) rfl)
theorem q_m_honesty_11 (l0 l1 l2 l5 s0 s1 : Int) (v3 v4 : nb_V) (M : nb_M) :
    nb_R nb_P 180 11 [(20, l0), (0, l1), (0, l2), v3, v4, (0, l5)] [(0, s0), (0, s1)] M = nb_R nb_P 180 13 [(20, l0), (0, l1), (0, l2), v3, v4, (0, l5)] [(0, s0), (0, s1)] M :=
  nb_step (c := true) rfl rfl
theorem q_m_honesty_12 (l0 l1 l2 l5 s0 : Int) (v3 v4 : nb_V) (M : nb_M) :
    nb_R nb_P 180 12 [(20, l0), (0, l1), (0, l2), v3, v4, (0, l5)] [(0, s0)] M = nb_R nb_P 180 13 [(20, l0), (0, l1), (0, l2), v3, v4, (0, l5)] [(0, 0), (0, s0)] M :=
  nb_step (c := true) rfl rfl
theorem q_m_honesty_13 (l0 l1 l2 l5 s0 s1 : Int) (v3 v4 : nb_V) (M : nb_M) :
    nb_R nb_P 180 13 [(20, l0), (0, l1), (0, l2), v3, v4, (0, l5)] [(0, s0), (0, s1)] M = nb_R nb_P 180 7 [(20, l0), (0, l1), (0, l2), nb_clr v3, (0, nb_add s1 s0), (0, nb_add l5 1)] [] M :=
  nb_step (c := true) rfl rfl
theorem q_m_honesty_14 (l4 : Int) (v0 v1 v2 v3 v5 : nb_V) (M : nb_M) :
    nb_R nb_P 180 14 [v0, v1, v2, v3, (0, l4), v5] [] M = some ([(0, l4)], M) :=
  nb_step (c := true) rfl rfl
theorem q_m_rest_0 (l0 l1 : Int) (v2 : nb_V) (M : nb_M) (h1 : l0 ≠ 0) :
    nb_R nb_P 182 0 [(20, l0), (0, l1), v2] [] M = (nb_R nb_P 79 0 [(20, l0)] [] M).bind fun r => nb_R nb_P 182 1 [(20, l0), (0, l1), v2] (r.1 ++ []) r.2 :=
  nb_stepC (c := true) (L2 := [(20, l0), (0, l1), v2]) (S2 := [(20, l0)]) (M2 := M) (t := 1) (cl := 79) (vi := true) rfl rfl (nb_inv_eq (n := 1) rfl rfl rfl rfl rfl rfl (fun _ => h1) rfl)
theorem q_m_rest_1 (l0 l1 : Int) (v2 : nb_V) (M : nb_M) (h1 : l0 ≠ 0) :
    nb_R nb_P 182 1 [(20, l0), (0, l1), v2] [] M = (nb_R nb_P 179 0 [(20, l0), (0, l1)] [] M).bind fun r => nb_R nb_P 182 2 [(20, l0), (0, l1), v2] (r.1 ++ []) r.2 :=
  nb_stepC (c := true) (L2 := [(20, l0), (0, l1), v2]) (S2 := [(0, l1), (20, l0)]) (M2 := M) (t := 2) (cl := 179) (vi := true) rfl rfl (nb_inv_eq (n := 2) rfl rfl rfl rfl rfl rfl (fun _ => h1) rfl)
theorem q_m_rest_2 (l0 l1 s0 : Int) (v2 : nb_V) (M : nb_M) :
    nb_R nb_P 182 2 [(20, l0), (0, l1), v2] [(0, s0)] M = if s0 = 0 then nb_R nb_P 182 5 [(20, l0), (0, l1), (0, s0)] [] M else nb_R nb_P 182 3 [(20, l0), (0, l1), (0, s0)] [] M :=
  nb_step (c := true) rfl rfl
theorem q_m_rest_3 (l0 l2 : Int) (v1 : nb_V) (M : nb_M) (h1 : l0 ≠ 0) :
    nb_R nb_P 182 3 [(20, l0), v1, (0, l2)] [] M = (nb_R nb_P 80 0 [(20, l0), (0, l2)] [] M).bind fun r => nb_R nb_P 182 4 [(20, l0), v1, (0, l2)] (r.1 ++ []) r.2 :=
  nb_stepC (c := true) (L2 := [(20, l0), v1, (0, l2)]) (S2 := [(0, l2), (20, l0)]) (M2 := M) (t := 4) (cl := 80) (vi := true) rfl rfl (nb_inv_eq (n := 2) rfl rfl rfl rfl rfl rfl (fun _ => h1) rfl)
theorem q_m_rest_4 (s0 : Int) (v0 v1 v2 : nb_V) (M : nb_M) :
    nb_R nb_P 182 4 [v0, v1, v2] [(0, s0)] M = nb_R nb_P 182 9 [v0, v1, v2] [(0, s0)] M :=
  nb_step (c := true) rfl rfl
theorem q_m_rest_5 (l0 l1 : Int) (v2 : nb_V) (M : nb_M) (h1 : l0 ≠ 0) :
    nb_R nb_P 182 5 [(20, l0), (0, l1), v2] [] M = (nb_R nb_P 181 0 [(20, l0), (0, l1), (98, 0)] [] M).bind fun r => nb_R nb_P 182 6 [(20, l0), (0, l1), v2] (r.1 ++ []) r.2 :=
  nb_stepC (c := true) (L2 := [(20, l0), (0, l1), v2]) (S2 := [(0, l1), (20, l0)]) (M2 := M) (t := 6) (cl := 181) (vi := true) rfl rfl (nb_inv_eq (n := 2) rfl rfl rfl rfl rfl rfl (fun _ => h1) rfl)
theorem q_m_rest_6 (s0 : Int) (v0 v1 v2 : nb_V) (M : nb_M) :
    nb_R nb_P 182 6 [v0, v1, v2] [(0, s0)] M = if s0 = 0 then nb_R nb_P 182 8 [v0, v1, v2] [] M else nb_R nb_P 182 7 [v0, v1, v2] [] M :=
  nb_step (c := true) rfl rfl
theorem q_m_rest_7 (v0 v1 v2 : nb_V) (M : nb_M) :
    nb_R nb_P 182 7 [v0, v1, v2] [] M = nb_R nb_P 182 9 [v0, v1, v2] [(0, 1)] M :=
  nb_step (c := true) rfl rfl
theorem q_m_rest_8 (v0 v1 v2 : nb_V) (M : nb_M) :
    nb_R nb_P 182 8 [v0, v1, v2] [] M = nb_R nb_P 182 9 [v0, v1, v2] [(0, 0)] M :=
  nb_step (c := true) rfl rfl
theorem q_m_rest_9 (s0 : Int) (v0 v1 v2 : nb_V) (M : nb_M) :
    nb_R nb_P 182 9 [v0, v1, v2] [(0, s0)] M = some ([(0, s0)], M) :=
  nb_step (c := true) rfl rfl
theorem q_m_rowFrom0_0 (l0 l1 l2 l3 l4 l5 l6 : Int) (v7 v8 : nb_V) (M : nb_M) (h1 : l0 ≠ 0) :
    nb_R nb_P 184 0 [(20, l0), (0, l1), (0, l2), (0, l3), (0, l4), (0, l5), (0, l6), v7, v8] [] M = if l6 < nb_rd M l0 33 then nb_R nb_P 184 2 [(20, l0), (0, l1), (0, l2), (0, l3), (0, l4), (0, l5), (0, l6), v7, v8] [] M else nb_R nb_P 184 1 [(20, l0), (0, l1), (0, l2), (0, l3), (0, l4), (0, l5), (0, l6), v7, v8] [] M :=
  nb_step (c := (true && !decide ((l0 : Int) = 0))) rfl (by simp [h1])
theorem q_m_rowFrom0_1 (v0 v1 v2 v3 v4 v5 v6 v7 v8 : nb_V) (M : nb_M) :
    nb_R nb_P 184 1 [v0, v1, v2, v3, v4, v5, v6, v7, v8] [] M = some ([], M) :=
  nb_step (c := true) rfl rfl
theorem q_m_rowFrom0_2 (l0 l1 l2 l3 l4 l5 l6 : Int) (v7 v8 : nb_V) (M : nb_M) :
    nb_R nb_P 184 2 [(20, l0), (0, l1), (0, l2), (0, l3), (0, l4), (0, l5), (0, l6), v7, v8] [] M = if l1 = l2 then nb_R nb_P 184 3 [(20, l0), (0, l1), (0, l2), (0, l3), (0, l4), (0, l5), (0, l6), v7, v8] [] M else nb_R nb_P 184 6 [(20, l0), (0, l1), (0, l2), (0, l3), (0, l4), (0, l5), (0, l6), v7, v8] [] M :=
  nb_step (c := true) rfl rfl
theorem q_m_rowFrom0_3 (l0 l2 l6 : Int) (v1 v3 v4 v5 v7 v8 : nb_V) (M : nb_M) (h1 : l0 ≠ 0) :
    nb_R nb_P 184 3 [(20, l0), v1, (0, l2), v3, v4, v5, (0, l6), v7, v8] [] M = nb_R nb_P 184 4 [(20, l0), v1, (0, l2), v3, v4, v5, (0, l6), v7, v8] [] (nb_wr M l0 33 l6) :=
  nb_step (c := (true && (!decide ((l0 : Int) = 0) && (!false || (decide ((l6 : Int) = 0) || decide ((l6 : Int) = 1)))))) rfl (by simp [h1])
theorem q_m_rowFrom0_4 (l0 l2 : Int) (v1 v3 v4 v5 v6 v7 v8 : nb_V) (M : nb_M) (h1 : l0 ≠ 0) :
    nb_R nb_P 184 4 [(20, l0), v1, (0, l2), v3, v4, v5, v6, v7, v8] [] M = (nb_R nb_P 86 0 [(3, nb_rd M l0 31), (0, 0), (3, nb_rd M l0 32), (0, 0), (0, l2), (98, 0)] [] M).bind fun r => nb_R nb_P 184 5 [(20, l0), v1, (0, l2), v3, v4, v5, v6, v7, v8] (r.1 ++ []) r.2 :=
  nb_stepC (c := ((true && !decide ((l0 : Int) = 0)) && !decide ((l0 : Int) = 0))) (L2 := [(20, l0), v1, (0, l2), v3, v4, v5, v6, v7, v8]) (S2 := [(0, l2), (0, 0), (3, nb_rd M l0 32), (0, 0), (3, nb_rd M l0 31)]) (M2 := M) (t := 5) (cl := 86) (vi := false) rfl (by simp [h1]) (nb_inv_eq (n := 5) rfl rfl rfl rfl rfl rfl (fun h => by cases h) rfl)
theorem q_m_rowFrom0_5 (v0 v1 v2 v3 v4 v5 v6 v7 v8 : nb_V) (M : nb_M) :
    nb_R nb_P 184 5 [v0, v1, v2, v3, v4, v5, v6, v7, v8] [] M = some ([], M) :=
  nb_step (c := true) rfl rfl
theorem q_m_rowFrom0_6 (l0 l1 l2 l3 l4 l5 l6 : Int) (v7 v8 : nb_V) (M : nb_M) :
    nb_R nb_P 184 6 [(20, l0), (0, l1), (0, l2), (0, l3), (0, l4), (0, l5), (0, l6), v7, v8] [] M = nb_R nb_P 184 7 [(20, l0), (0, l1), (0, l2), (0, l3), (0, l4), (0, l5), (0, l6), (0, 0), v8] [] M :=
  nb_step (c := true) rfl rfl
theorem q_m_rowFrom0_7 (l0 l1 l2 l3 l4 l5 l6 l7 : Int) (v8 : nb_V) (M : nb_M) (h1 : l0 ≠ 0) (h2 : (nb_rd M l0 15) ≠ 0) (h3 : (0 : Int) ≤ 5) (h4 : 5 < nb_ln M (nb_rd M l0 15)) :
    nb_R nb_P 184 7 [(20, l0), (0, l1), (0, l2), (0, l3), (0, l4), (0, l5), (0, l6), (0, l7), v8] [] M = if l7 < nb_rd M (nb_rd M l0 15) 5 then nb_R nb_P 184 8 [(20, l0), (0, l1), (0, l2), (0, l3), (0, l4), (0, l5), (0, l6), (0, l7), v8] [] M else nb_R nb_P 184 17 [(20, l0), (0, l1), (0, l2), (0, l3), (0, l4), (0, l5), (0, l6), (0, l7), v8] [] M :=
  nb_step (c := ((true && !decide ((l0 : Int) = 0)) && (!decide ((nb_rd M l0 15 : Int) = 0) && (decide ((0 : Int) ≤ 5) && decide (5 < nb_ln M (nb_rd M l0 15)))))) rfl (by simp [h1, h2, h3, h4])
theorem q_m_rowFrom0_8 (l0 l1 l2 l3 l4 l5 l6 l7 : Int) (v8 : nb_V) (M : nb_M) :
    nb_R nb_P 184 8 [(20, l0), (0, l1), (0, l2), (0, l3), (0, l4), (0, l5), (0, l6), (0, l7), v8] [] M = (nb_R nb_P 84 0 [(0, l3), (0, l7)] [] M).bind fun r => nb_R nb_P 184 9 [(20, l0), (0, l1), (0, l2), (0, l3), (0, l4), (0, l5), (0, l6), (0, l7), v8] (r.1 ++ []) r.2 :=
  nb_stepC (c := true) (L2 := [(20, l0), (0, l1), (0, l2), (0, l3), (0, l4), (0, l5), (0, l6), (0, l7), v8]) (S2 := [(0, l7), (0, l3)]) (M2 := M) (t := 9) (cl := 84) (vi := false) rfl rfl (nb_inv_eq (n := 2) rfl rfl rfl rfl rfl rfl (fun h => by cases h) rfl)
theorem q_m_rowFrom0_9 (l0 l1 l2 l3 l4 l5 l6 l7 s0 : Int) (v8 : nb_V) (M : nb_M) :
    nb_R nb_P 184 9 [(20, l0), (0, l1), (0, l2), (0, l3), (0, l4), (0, l5), (0, l6), (0, l7), v8] [(0, s0)] M = if s0 = 0 then nb_R nb_P 184 10 [(20, l0), (0, l1), (0, l2), (0, l3), (0, l4), (0, l5), (0, l6), (0, l7), v8] [] M else nb_R nb_P 184 16 [(20, l0), (0, l1), (0, l2), (0, l3), (0, l4), (0, l5), (0, l6), (0, l7), v8] [] M :=
  nb_step (c := true) rfl rfl
theorem q_m_rowFrom0_10 (l0 l1 l2 l3 l4 l5 l6 l7 : Int) (v8 : nb_V) (M : nb_M) (h1 : l0 ≠ 0) :
    nb_R nb_P 184 10 [(20, l0), (0, l1), (0, l2), (0, l3), (0, l4), (0, l5), (0, l6), (0, l7), v8] [] M = (nb_R nb_P 126 0 [(3, nb_rd M l0 17), (0, l7)] [] M).bind fun r => nb_R nb_P 184 11 [(20, l0), (0, l1), (0, l2), (0, l3), (0, l4), (0, l5), (0, l6), (0, l7), v8] (r.1 ++ []) r.2 :=
  nb_stepC (c := (true && !decide ((l0 : Int) = 0))) (L2 := [(20, l0), (0, l1), (0, l2), (0, l3), (0, l4), (0, l5), (0, l6), (0, l7), v8]) (S2 := [(0, l7), (3, nb_rd M l0 17)]) (M2 := M) (t := 11) (cl := 126) (vi := false) rfl (by simp [h1]) (nb_inv_eq (n := 2) rfl rfl rfl rfl rfl rfl (fun h => by cases h) rfl)
theorem q_m_rowFrom0_11 (l0 l1 l2 l3 l4 l5 l6 l7 s0 : Int) (v8 : nb_V) (M : nb_M) :
    nb_R nb_P 184 11 [(20, l0), (0, l1), (0, l2), (0, l3), (0, l4), (0, l5), (0, l6), (0, l7), v8] [(0, s0)] M = if s0 = 0 then nb_R nb_P 184 12 [(20, l0), (0, l1), (0, l2), (0, l3), (0, l4), (0, l5), (0, l6), (0, l7), v8] [] M else nb_R nb_P 184 13 [(20, l0), (0, l1), (0, l2), (0, l3), (0, l4), (0, l5), (0, l6), (0, l7), v8] [] M :=
  nb_step (c := true) rfl rfl
theorem q_m_rowFrom0_12 (l0 l1 l2 l3 l4 l5 l6 l7 : Int) (v8 : nb_V) (M : nb_M) :
    nb_R nb_P 184 12 [(20, l0), (0, l1), (0, l2), (0, l3), (0, l4), (0, l5), (0, l6), (0, l7), v8] [] M = nb_R nb_P 184 16 [(20, l0), (0, l1), (0, l2), (0, l3), (0, l4), (0, l5), (0, l6), (0, l7), v8] [] M :=
  nb_step (c := true) rfl rfl
theorem q_m_rowFrom0_13 (l0 l1 l2 l3 l4 l5 l6 l7 : Int) (v8 : nb_V) (M : nb_M) (h1 : l0 ≠ 0) :
    nb_R nb_P 184 13 [(20, l0), (0, l1), (0, l2), (0, l3), (0, l4), (0, l5), (0, l6), (0, l7), v8] [] M = (nb_R nb_P 129 0 [(20, l0), (0, l4), (0, l7), (98, 0), (98, 0), (98, 0), (98, 0)] [] M).bind fun r => nb_R nb_P 184 14 [(20, l0), (0, l1), (0, l2), (0, l3), (0, l4), (0, l5), (0, l6), (0, l7), v8] (r.1 ++ [(0, l5)]) r.2 :=
  nb_stepC (c := true) (L2 := [(20, l0), (0, l1), (0, l2), (0, l3), (0, l4), (0, l5), (0, l6), (0, l7), v8]) (S2 := [(0, l7), (0, l4), (20, l0), (0, l5)]) (M2 := M) (t := 14) (cl := 129) (vi := true) rfl rfl (nb_inv_eq (n := 3) rfl rfl rfl rfl rfl rfl (fun _ => h1) rfl)
theorem q_m_rowFrom0_14 (l0 l1 l2 l3 l4 l5 l6 l7 s0 s1 : Int) (v8 : nb_V) (M : nb_M) (h1 : l0 ≠ 0) (h2 : (nb_rd M l0 31) ≠ 0) (h3 : (nb_rd M l0 31) ≠ 1) (h4 : (0 : Int) ≤ l1) (h5 : l1 < nb_ln M (nb_rd M l0 31)) :
    nb_R nb_P 184 14 [(20, l0), (0, l1), (0, l2), (0, l3), (0, l4), (0, l5), (0, l6), (0, l7), v8] [(0, s0), (0, s1)] M = nb_R nb_P 184 15 [(20, l0), (0, l1), (0, l2), (0, l3), (0, l4), (0, l5), (0, l6), (0, l7), (0, nb_add s1 s0)] [] (nb_wr M (nb_rd M l0 31) l1 l7) :=
  nb_step (c := ((true && !decide ((l0 : Int) = 0)) && (!decide ((nb_rd M l0 31 : Int) = 0) && (!decide ((nb_rd M l0 31 : Int) = 1) && (decide ((0 : Int) ≤ l1) && decide (l1 < nb_ln M (nb_rd M l0 31))))))) rfl (by simp [h1, h2, h3, h4, h5])
theorem q_m_rowFrom0_15 (l0 l1 l2 l3 l4 l5 l6 l7 l8 : Int) (M : nb_M) (h1 : l0 ≠ 0) :
    nb_R nb_P 184 15 [(20, l0), (0, l1), (0, l2), (0, l3), (0, l4), (0, l5), (0, l6), (0, l7), (0, l8)] [] M = (nb_R nb_P 185 0 [(20, l0), (0, nb_add l1 1), (0, l2), (0, nb_or l3 (nb_shl 1 l7)), (0, l7), (0, l8), (0, nb_add l6 l8), (98, 0), (98, 0)] [] M).bind fun r => nb_R nb_P 184 16 [(20, l0), (0, l1), (0, l2), (0, l3), (0, l4), (0, l5), (0, l6), (0, l7), (0, l8)] (r.1 ++ []) r.2 :=
  nb_stepC (c := true) (L2 := [(20, l0), (0, l1), (0, l2), (0, l3), (0, l4), (0, l5), (0, l6), (0, l7), (0, l8)]) (S2 := [(0, nb_add l6 l8), (0, l8), (0, l7), (0, nb_or l3 (nb_shl 1 l7)), (0, l2), (0, nb_add l1 1), (20, l0)]) (M2 := M) (t := 16) (cl := 185) (vi := true) rfl rfl (nb_inv_eq (n := 7) rfl rfl rfl rfl rfl rfl (fun _ => h1) rfl)
theorem q_m_rowFrom0_16 (l0 l1 l2 l3 l4 l5 l6 l7 : Int) (v8 : nb_V) (M : nb_M) :
    nb_R nb_P 184 16 [(20, l0), (0, l1), (0, l2), (0, l3), (0, l4), (0, l5), (0, l6), (0, l7), v8] [] M = nb_R nb_P 184 7 [(20, l0), (0, l1), (0, l2), (0, l3), (0, l4), (0, l5), (0, l6), (0, nb_add l7 1), v8] [] M :=
  nb_step (c := true) rfl rfl
theorem q_m_rowFrom0_17 (v0 v1 v2 v3 v4 v5 v6 v7 v8 : nb_V) (M : nb_M) :
    nb_R nb_P 184 17 [v0, v1, v2, v3, v4, v5, v6, v7, v8] [] M = some ([], M) :=
  nb_step (c := true) rfl rfl
theorem q_m_rowFrom2_0 (l0 l1 l2 l3 l4 l5 l6 : Int) (v7 v8 : nb_V) (M : nb_M) (h1 : l0 ≠ 0) :
    nb_R nb_P 186 0 [(20, l0), (0, l1), (0, l2), (0, l3), (0, l4), (0, l5), (0, l6), v7, v8] [] M = if l6 < nb_rd M l0 33 then nb_R nb_P 186 2 [(20, l0), (0, l1), (0, l2), (0, l3), (0, l4), (0, l5), (0, l6), v7, v8] [] M else nb_R nb_P 186 1 [(20, l0), (0, l1), (0, l2), (0, l3), (0, l4), (0, l5), (0, l6), v7, v8] [] M :=
  nb_step (c := (true && !decide ((l0 : Int) = 0))) rfl (by simp [h1])
theorem q_m_rowFrom2_1 (v0 v1 v2 v3 v4 v5 v6 v7 v8 : nb_V) (M : nb_M) :
    nb_R nb_P 186 1 [v0, v1, v2, v3, v4, v5, v6, v7, v8] [] M = some ([], M) :=
  nb_step (c := true) rfl rfl
theorem q_m_rowFrom2_2 (l0 l1 l2 l3 l4 l5 l6 : Int) (v7 v8 : nb_V) (M : nb_M) :
    nb_R nb_P 186 2 [(20, l0), (0, l1), (0, l2), (0, l3), (0, l4), (0, l5), (0, l6), v7, v8] [] M = if l1 = l2 then nb_R nb_P 186 3 [(20, l0), (0, l1), (0, l2), (0, l3), (0, l4), (0, l5), (0, l6), v7, v8] [] M else nb_R nb_P 186 6 [(20, l0), (0, l1), (0, l2), (0, l3), (0, l4), (0, l5), (0, l6), v7, v8] [] M :=
  nb_step (c := true) rfl rfl
theorem q_m_rowFrom2_3 (l0 l2 l6 : Int) (v1 v3 v4 v5 v7 v8 : nb_V) (M : nb_M) (h1 : l0 ≠ 0) :
    nb_R nb_P 186 3 [(20, l0), v1, (0, l2), v3, v4, v5, (0, l6), v7, v8] [] M = nb_R nb_P 186 4 [(20, l0), v1, (0, l2), v3, v4, v5, (0, l6), v7, v8] [] (nb_wr M l0 33 l6) :=
  nb_step (c := (true && (!decide ((l0 : Int) = 0) && (!false || (decide ((l6 : Int) = 0) || decide ((l6 : Int) = 1)))))) rfl (by simp [h1])
theorem q_m_rowFrom2_4 (l0 l2 : Int) (v1 v3 v4 v5 v6 v7 v8 : nb_V) (M : nb_M) (h1 : l0 ≠ 0) :
    nb_R nb_P 186 4 [(20, l0), v1, (0, l2), v3, v4, v5, v6, v7, v8] [] M = (nb_R nb_P 86 0 [(3, nb_rd M l0 31), (0, 0), (3, nb_rd M l0 32), (0, 0), (0, l2), (98, 0)] [] M).bind fun r => nb_R nb_P 186 5 [(20, l0), v1, (0, l2), v3, v4, v5, v6, v7, v8] (r.1 ++ []) r.2 :=
  nb_stepC (c := ((true && !decide ((l0 : Int) = 0)) && !decide ((l0 : Int) = 0))) (L2 := [(20, l0), v1, (0, l2), v3, v4, v5, v6, v7, v8]) (S2 := [(0, l2), (0, 0), (3, nb_rd M l0 32), (0, 0), (3, nb_rd M l0 31)]) (M2 := M) (t := 5) (cl := 86) (vi := false) rfl (by simp [h1]) (nb_inv_eq (n := 5) rfl rfl rfl rfl rfl rfl (fun h => by cases h) rfl)
theorem q_m_rowFrom2_5 (v0 v1 v2 v3 v4 v5 v6 v7 v8 : nb_V) (M : nb_M) :
    nb_R nb_P 186 5 [v0, v1, v2, v3, v4, v5, v6, v7, v8] [] M = some ([], M) :=
  nb_step (c := true) rfl rfl
theorem q_m_rowFrom2_6 (l0 l1 l2 l3 l4 l5 l6 : Int) (v7 v8 : nb_V) (M : nb_M) :
    nb_R nb_P 186 6 [(20, l0), (0, l1), (0, l2), (0, l3), (0, l4), (0, l5), (0, l6), v7, v8] [] M = nb_R nb_P 186 7 [(20, l0), (0, l1), (0, l2), (0, l3), (0, l4), (0, l5), (0, l6), (0, 0), v8] [] M :=
  nb_step (c := true) rfl rfl
theorem q_m_rowFrom2_7 (l0 l1 l2 l3 l4 l5 l6 l7 : Int) (v8 : nb_V) (M : nb_M) (h1 : l0 ≠ 0) (h2 : (nb_rd M l0 15) ≠ 0) (h3 : (0 : Int) ≤ 5) (h4 : 5 < nb_ln M (nb_rd M l0 15)) :
    nb_R nb_P 186 7 [(20, l0), (0, l1), (0, l2), (0, l3), (0, l4), (0, l5), (0, l6), (0, l7), v8] [] M = if l7 < nb_rd M (nb_rd M l0 15) 5 then nb_R nb_P 186 8 [(20, l0), (0, l1), (0, l2), (0, l3), (0, l4), (0, l5), (0, l6), (0, l7), v8] [] M else nb_R nb_P 186 17 [(20, l0), (0, l1), (0, l2), (0, l3), (0, l4), (0, l5), (0, l6), (0, l7), v8] [] M :=
  nb_step (c := ((true && !decide ((l0 : Int) = 0)) && (!decide ((nb_rd M l0 15 : Int) = 0) && (decide ((0 : Int) ≤ 5) && decide (5 < nb_ln M (nb_rd M l0 15)))))) rfl (by simp [h1, h2, h3, h4])
theorem q_m_rowFrom2_8 (l0 l1 l2 l3 l4 l5 l6 l7 : Int) (v8 : nb_V) (M : nb_M) :
    nb_R nb_P 186 8 [(20, l0), (0, l1), (0, l2), (0, l3), (0, l4), (0, l5), (0, l6), (0, l7), v8] [] M = (nb_R nb_P 84 0 [(0, l3), (0, l7)] [] M).bind fun r => nb_R nb_P 186 9 [(20, l0), (0, l1), (0, l2), (0, l3), (0, l4), (0, l5), (0, l6), (0, l7), v8] (r.1 ++ []) r.2 :=
  nb_stepC (c := true) (L2 := [(20, l0), (0, l1), (0, l2), (0, l3), (0, l4), (0, l5), (0, l6), (0, l7), v8]) (S2 := [(0, l7), (0, l3)]) (M2 := M) (t := 9) (cl := 84) (vi := false) rfl rfl (nb_inv_eq (n := 2) rfl rfl rfl rfl rfl rfl (fun h => by cases h) rfl)
theorem q_m_rowFrom2_9 (l0 l1 l2 l3 l4 l5 l6 l7 s0 : Int) (v8 : nb_V) (M : nb_M) :
    nb_R nb_P 186 9 [(20, l0), (0, l1), (0, l2), (0, l3), (0, l4), (0, l5), (0, l6), (0, l7), v8] [(0, s0)] M = if s0 = 0 then nb_R nb_P 186 10 [(20, l0), (0, l1), (0, l2), (0, l3), (0, l4), (0, l5), (0, l6), (0, l7), v8] [] M else nb_R nb_P 186 16 [(20, l0), (0, l1), (0, l2), (0, l3), (0, l4), (0, l5), (0, l6), (0, l7), v8] [] M :=
  nb_step (c := true) rfl rfl
theorem q_m_rowFrom2_10 (l0 l1 l2 l3 l4 l5 l6 l7 : Int) (v8 : nb_V) (M : nb_M) (h1 : l0 ≠ 0) :
    nb_R nb_P 186 10 [(20, l0), (0, l1), (0, l2), (0, l3), (0, l4), (0, l5), (0, l6), (0, l7), v8] [] M = (nb_R nb_P 126 0 [(3, nb_rd M l0 17), (0, l7)] [] M).bind fun r => nb_R nb_P 186 11 [(20, l0), (0, l1), (0, l2), (0, l3), (0, l4), (0, l5), (0, l6), (0, l7), v8] (r.1 ++ []) r.2 :=
  nb_stepC (c := (true && !decide ((l0 : Int) = 0))) (L2 := [(20, l0), (0, l1), (0, l2), (0, l3), (0, l4), (0, l5), (0, l6), (0, l7), v8]) (S2 := [(0, l7), (3, nb_rd M l0 17)]) (M2 := M) (t := 11) (cl := 126) (vi := false) rfl (by simp [h1]) (nb_inv_eq (n := 2) rfl rfl rfl rfl rfl rfl (fun h => by cases h) rfl)
theorem q_m_rowFrom2_11 (l0 l1 l2 l3 l4 l5 l6 l7 s0 : Int) (v8 : nb_V) (M : nb_M) :
    nb_R nb_P 186 11 [(20, l0), (0, l1), (0, l2), (0, l3), (0, l4), (0, l5), (0, l6), (0, l7), v8] [(0, s0)] M = if s0 = 0 then nb_R nb_P 186 12 [(20, l0), (0, l1), (0, l2), (0, l3), (0, l4), (0, l5), (0, l6), (0, l7), v8] [] M else nb_R nb_P 186 13 [(20, l0), (0, l1), (0, l2), (0, l3), (0, l4), (0, l5), (0, l6), (0, l7), v8] [] M :=
  nb_step (c := true) rfl rfl
theorem q_m_rowFrom2_12 (l0 l1 l2 l3 l4 l5 l6 l7 : Int) (v8 : nb_V) (M : nb_M) :
    nb_R nb_P 186 12 [(20, l0), (0, l1), (0, l2), (0, l3), (0, l4), (0, l5), (0, l6), (0, l7), v8] [] M = nb_R nb_P 186 16 [(20, l0), (0, l1), (0, l2), (0, l3), (0, l4), (0, l5), (0, l6), (0, l7), v8] [] M :=
  nb_step (c := true) rfl rfl
theorem q_m_rowFrom2_13 (l0 l1 l2 l3 l4 l5 l6 l7 : Int) (v8 : nb_V) (M : nb_M) (h1 : l0 ≠ 0) :
    nb_R nb_P 186 13 [(20, l0), (0, l1), (0, l2), (0, l3), (0, l4), (0, l5), (0, l6), (0, l7), v8] [] M = (nb_R nb_P 129 0 [(20, l0), (0, l4), (0, l7), (98, 0), (98, 0), (98, 0), (98, 0)] [] M).bind fun r => nb_R nb_P 186 14 [(20, l0), (0, l1), (0, l2), (0, l3), (0, l4), (0, l5), (0, l6), (0, l7), v8] (r.1 ++ [(0, l5)]) r.2 :=
  nb_stepC (c := true) (L2 := [(20, l0), (0, l1), (0, l2), (0, l3), (0, l4), (0, l5), (0, l6), (0, l7), v8]) (S2 := [(0, l7), (0, l4), (20, l0), (0, l5)]) (M2 := M) (t := 14) (cl := 129) (vi := true) rfl rfl (nb_inv_eq (n := 3) rfl rfl rfl rfl rfl rfl (fun _ => h1) rfl)
theorem q_m_rowFrom2_14 (l0 l1 l2 l3 l4 l5 l6 l7 s0 s1 : Int) (v8 : nb_V) (M : nb_M) (h1 : l0 ≠ 0) (h2 : (nb_rd M l0 31) ≠ 0) (h3 : (nb_rd M l0 31) ≠ 1) (h4 : (0 : Int) ≤ l1) (h5 : l1 < nb_ln M (nb_rd M l0 31)) :
    nb_R nb_P 186 14 [(20, l0), (0, l1), (0, l2), (0, l3), (0, l4), (0, l5), (0, l6), (0, l7), v8] [(0, s0), (0, s1)] M = nb_R nb_P 186 15 [(20, l0), (0, l1), (0, l2), (0, l3), (0, l4), (0, l5), (0, l6), (0, l7), (0, nb_add s1 s0)] [] (nb_wr M (nb_rd M l0 31) l1 l7) :=
  nb_step (c := ((true && !decide ((l0 : Int) = 0)) && (!decide ((nb_rd M l0 31 : Int) = 0) && (!decide ((nb_rd M l0 31 : Int) = 1) && (decide ((0 : Int) ≤ l1) && decide (l1 < nb_ln M (nb_rd M l0 31))))))) rfl (by simp [h1, h2, h3, h4, h5])
theorem q_m_rowFrom2_15 (l0 l1 l2 l3 l4 l5 l6 l7 l8 : Int) (M : nb_M) (h1 : l0 ≠ 0) :
    nb_R nb_P 186 15 [(20, l0), (0, l1), (0, l2), (0, l3), (0, l4), (0, l5), (0, l6), (0, l7), (0, l8)] [] M = (nb_R nb_P 187 0 [(20, l0), (0, nb_add l1 1), (0, l2), (0, nb_or l3 (nb_shl 1 l7)), (0, l7), (0, l8), (0, nb_add l6 l8), (98, 0), (98, 0)] [] M).bind fun r => nb_R nb_P 186 16 [(20, l0), (0, l1), (0, l2), (0, l3), (0, l4), (0, l5), (0, l6), (0, l7), (0, l8)] (r.1 ++ []) r.2 :=
  nb_stepC (c := true) (L2 := [(20, l0), (0, l1), (0, l2), (0, l3), (0, l4), (0, l5), (0, l6), (0, l7), (0, l8)]) (S2 := [(0, nb_add l6 l8), (0, l8), (0, l7), (0, nb_or l3 (nb_shl 1 l7)), (0, l2), (0, nb_add l1 1), (20, l0)]) (M2 := M) (t := 16) (cl := 187) (vi := true) rfl rfl (nb_inv_eq (n := 7) rfl rfl rfl rfl rfl rfl (fun _ => h1) rfl)
theorem q_m_rowFrom2_16 (l0 l1 l2 l3 l4 l5 l6 l7 : Int) (v8 : nb_V) (M : nb_M) :
    nb_R nb_P 186 16 [(20, l0), (0, l1), (0, l2), (0, l3), (0, l4), (0, l5), (0, l6), (0, l7), v8] [] M = nb_R nb_P 186 7 [(20, l0), (0, l1), (0, l2), (0, l3), (0, l4), (0, l5), (0, l6), (0, nb_add l7 1), v8] [] M :=
  nb_step (c := true) rfl rfl
theorem q_m_rowFrom2_17 (v0 v1 v2 v3 v4 v5 v6 v7 v8 : nb_V) (M : nb_M) :
    nb_R nb_P 186 17 [v0, v1, v2, v3, v4, v5, v6, v7, v8] [] M = some ([], M) :=
  nb_step (c := true) rfl rfl
theorem q_m_rowFrom4_0 (l0 l1 l2 l3 l4 l5 l6 : Int) (v7 v8 : nb_V) (M : nb_M) (h1 : l0 ≠ 0) :
    nb_R nb_P 188 0 [(20, l0), (0, l1), (0, l2), (0, l3), (0, l4), (0, l5), (0, l6), v7, v8] [] M = if l6 < nb_rd M l0 33 then nb_R nb_P 188 2 [(20, l0), (0, l1), (0, l2), (0, l3), (0, l4), (0, l5), (0, l6), v7, v8] [] M else nb_R nb_P 188 1 [(20, l0), (0, l1), (0, l2), (0, l3), (0, l4), (0, l5), (0, l6), v7, v8] [] M :=
  nb_step (c := (true && !decide ((l0 : Int) = 0))) rfl (by simp [h1])
theorem q_m_rowFrom4_1 (v0 v1 v2 v3 v4 v5 v6 v7 v8 : nb_V) (M : nb_M) :
    nb_R nb_P 188 1 [v0, v1, v2, v3, v4, v5, v6, v7, v8] [] M = some ([], M) :=
  nb_step (c := true) rfl rfl
theorem q_m_rowFrom4_2 (l0 l1 l2 l3 l4 l5 l6 : Int) (v7 v8 : nb_V) (M : nb_M) :
    nb_R nb_P 188 2 [(20, l0), (0, l1), (0, l2), (0, l3), (0, l4), (0, l5), (0, l6), v7, v8] [] M = if l1 = l2 then nb_R nb_P 188 3 [(20, l0), (0, l1), (0, l2), (0, l3), (0, l4), (0, l5), (0, l6), v7, v8] [] M else nb_R nb_P 188 6 [(20, l0), (0, l1), (0, l2), (0, l3), (0, l4), (0, l5), (0, l6), v7, v8] [] M :=
  nb_step (c := true) rfl rfl
theorem q_m_rowFrom4_3 (l0 l2 l6 : Int) (v1 v3 v4 v5 v7 v8 : nb_V) (M : nb_M) (h1 : l0 ≠ 0) :
    nb_R nb_P 188 3 [(20, l0), v1, (0, l2), v3, v4, v5, (0, l6), v7, v8] [] M = nb_R nb_P 188 4 [(20, l0), v1, (0, l2), v3, v4, v5, (0, l6), v7, v8] [] (nb_wr M l0 33 l6) :=
  nb_step (c := (true && (!decide ((l0 : Int) = 0) && (!false || (decide ((l6 : Int) = 0) || decide ((l6 : Int) = 1)))))) rfl (by simp [h1])
theorem q_m_rowFrom4_4 (l0 l2 : Int) (v1 v3 v4 v5 v6 v7 v8 : nb_V) (M : nb_M) (h1 : l0 ≠ 0) :
    nb_R nb_P 188 4 [(20, l0), v1, (0, l2), v3, v4, v5, v6, v7, v8] [] M = (nb_R nb_P 86 0 [(3, nb_rd M l0 31), (0, 0), (3, nb_rd M l0 32), (0, 0), (0, l2), (98, 0)] [] M).bind fun r => nb_R nb_P 188 5 [(20, l0), v1, (0, l2), v3, v4, v5, v6, v7, v8] (r.1 ++ []) r.2 :=
  nb_stepC (c := ((true && !decide ((l0 : Int) = 0)) && !decide ((l0 : Int) = 0))) (L2 := [(20, l0), v1, (0, l2), v3, v4, v5, v6, v7, v8]) (S2 := [(0, l2), (0, 0), (3, nb_rd M l0 32), (0, 0), (3, nb_rd M l0 31)]) (M2 := M) (t := 5) (cl := 86) (vi := false) rfl (by simp [h1]) (nb_inv_eq (n := 5) rfl rfl rfl rfl rfl rfl (fun h => by cases h) rfl)
theorem q_m_rowFrom4_5 (v0 v1 v2 v3 v4 v5 v6 v7 v8 : nb_V) (M : nb_M) :
    nb_R nb_P 188 5 [v0, v1, v2, v3, v4, v5, v6, v7, v8] [] M = some ([], M) :=
  nb_step (c := true) rfl rfl
theorem q_m_rowFrom4_6 (l0 l1 l2 l3 l4 l5 l6 : Int) (v7 v8 : nb_V) (M : nb_M) :
    nb_R nb_P 188 6 [(20, l0), (0, l1), (0, l2), (0, l3), (0, l4), (0, l5), (0, l6), v7, v8] [] M = nb_R nb_P 188 7 [(20, l0), (0, l1), (0, l2), (0, l3), (0, l4), (0, l5), (0, l6), (0, 0), v8] [] M :=
  nb_step (c := true) rfl rfl
theorem q_m_rowFrom4_7 (l0 l1 l2 l3 l4 l5 l6 l7 : Int) (v8 : nb_V) (M : nb_M) (h1 : l0 ≠ 0) (h2 : (nb_rd M l0 15) ≠ 0) (h3 : (0 : Int) ≤ 5) (h4 : 5 < nb_ln M (nb_rd M l0 15)) :
    nb_R nb_P 188 7 [(20, l0), (0, l1), (0, l2), (0, l3), (0, l4), (0, l5), (0, l6), (0, l7), v8] [] M = if l7 < nb_rd M (nb_rd M l0 15) 5 then nb_R nb_P 188 8 [(20, l0), (0, l1), (0, l2), (0, l3), (0, l4), (0, l5), (0, l6), (0, l7), v8] [] M else nb_R nb_P 188 17 [(20, l0), (0, l1), (0, l2), (0, l3), (0, l4), (0, l5), (0, l6), (0, l7), v8] [] M :=
  nb_step (c := ((true && !decide ((l0 : Int) = 0)) && (!decide ((nb_rd M l0 15 : Int) = 0) && (decide ((0 : Int) ≤ 5) && decide (5 < nb_ln M (nb_rd M l0 15)))))) rfl (by simp [h1, h2, h3, h4])
theorem q_m_rowFrom4_8 (l0 l1 l2 l3 l4 l5 l6 l7 : Int) (v8 : nb_V) (M : nb_M) :
    nb_R nb_P 188 8 [(20, l0), (0, l1), (0, l2), (0, l3), (0, l4), (0, l5), (0, l6), (0, l7), v8] [] M = (nb_R nb_P 84 0 [(0, l3), (0, l7)] [] M).bind fun r => nb_R nb_P 188 9 [(20, l0), (0, l1), (0, l2), (0, l3), (0, l4), (0, l5), (0, l6), (0, l7), v8] (r.1 ++ []) r.2 :=
  nb_stepC (c := true) (L2 := [(20, l0), (0, l1), (0, l2), (0, l3), (0, l4), (0, l5), (0, l6), (0, l7), v8]) (S2 := [(0, l7), (0, l3)]) (M2 := M) (t := 9) (cl := 84) (vi := false) rfl rfl (nb_inv_eq (n := 2) rfl rfl rfl rfl rfl rfl (fun h => by cases h) rfl)
theorem q_m_rowFrom4_9 (l0 l1 l2 l3 l4 l5 l6 l7 s0 : Int) (v8 : nb_V) (M : nb_M) :
    nb_R nb_P 188 9 [(20, l0), (0, l1), (0, l2), (0, l3), (0, l4), (0, l5), (0, l6), (0, l7), v8] [(0, s0)] M = if s0 = 0 then nb_R nb_P 188 10 [(20, l0), (0, l1), (0, l2), (0, l3), (0, l4), (0, l5), (0, l6), (0, l7), v8] [] M else nb_R nb_P 188 16 [(20, l0), (0, l1), (0, l2), (0, l3), (0, l4), (0, l5), (0, l6), (0, l7), v8] [] M :=
  nb_step (c := true) rfl rfl
theorem q_m_rowFrom4_10 (l0 l1 l2 l3 l4 l5 l6 l7 : Int) (v8 : nb_V) (M : nb_M) (h1 : l0 ≠ 0) :
    nb_R nb_P 188 10 [(20, l0), (0, l1), (0, l2), (0, l3), (0, l4), (0, l5), (0, l6), (0, l7), v8] [] M = (nb_R nb_P 126 0 [(3, nb_rd M l0 17), (0, l7)] [] M).bind fun r => nb_R nb_P 188 11 [(20, l0), (0, l1), (0, l2), (0, l3), (0, l4), (0, l5), (0, l6), (0, l7), v8] (r.1 ++ []) r.2 :=
  nb_stepC (c := (true && !decide ((l0 : Int) = 0))) (L2 := [(20, l0), (0, l1), (0, l2), (0, l3), (0, l4), (0, l5), (0, l6), (0, l7), v8]) (S2 := [(0, l7), (3, nb_rd M l0 17)]) (M2 := M) (t := 11) (cl := 126) (vi := false) rfl (by simp [h1]) (nb_inv_eq (n := 2) rfl rfl rfl rfl rfl rfl (fun h => by cases h) rfl)
theorem q_m_rowFrom4_11 (l0 l1 l2 l3 l4 l5 l6 l7 s0 : Int) (v8 : nb_V) (M : nb_M) :
    nb_R nb_P 188 11 [(20, l0), (0, l1), (0, l2), (0, l3), (0, l4), (0, l5), (0, l6), (0, l7), v8] [(0, s0)] M = if s0 = 0 then nb_R nb_P 188 12 [(20, l0), (0, l1), (0, l2), (0, l3), (0, l4), (0, l5), (0, l6), (0, l7), v8] [] M else nb_R nb_P 188 13 [(20, l0), (0, l1), (0, l2), (0, l3), (0, l4), (0, l5), (0, l6), (0, l7), v8] [] M :=
  nb_step (c := true) rfl rfl
theorem q_m_rowFrom4_12 (l0 l1 l2 l3 l4 l5 l6 l7 : Int) (v8 : nb_V) (M : nb_M) :
    nb_R nb_P 188 12 [(20, l0), (0, l1), (0, l2), (0, l3), (0, l4), (0, l5), (0, l6), (0, l7), v8] [] M = nb_R nb_P 188 16 [(20, l0), (0, l1), (0, l2), (0, l3), (0, l4), (0, l5), (0, l6), (0, l7), v8] [] M :=
  nb_step (c := true) rfl rfl
theorem q_m_rowFrom4_13 (l0 l1 l2 l3 l4 l5 l6 l7 : Int) (v8 : nb_V) (M : nb_M) (h1 : l0 ≠ 0) :
    nb_R nb_P 188 13 [(20, l0), (0, l1), (0, l2), (0, l3), (0, l4), (0, l5), (0, l6), (0, l7), v8] [] M = (nb_R nb_P 129 0 [(20, l0), (0, l4), (0, l7), (98, 0), (98, 0), (98, 0), (98, 0)] [] M).bind fun r => nb_R nb_P 188 14 [(20, l0), (0, l1), (0, l2), (0, l3), (0, l4), (0, l5), (0, l6), (0, l7), v8] (r.1 ++ [(0, l5)]) r.2 :=
  nb_stepC (c := true) (L2 := [(20, l0), (0, l1), (0, l2), (0, l3), (0, l4), (0, l5), (0, l6), (0, l7), v8]) (S2 := [(0, l7), (0, l4), (20, l0), (0, l5)]) (M2 := M) (t := 14) (cl := 129) (vi := true) rfl rfl (nb_inv_eq (n := 3) rfl rfl rfl rfl rfl rfl (fun _ => h1) rfl)
theorem q_m_rowFrom4_14 (l0 l1 l2 l3 l4 l5 l6 l7 s0 s1 : Int) (v8 : nb_V) (M : nb_M) (h1 : l0 ≠ 0) (h2 : (nb_rd M l0 31) ≠ 0) (h3 : (nb_rd M l0 31) ≠ 1) (h4 : (0 : Int) ≤ l1) (h5 : l1 < nb_ln M (nb_rd M l0 31)) :
    nb_R nb_P 188 14 [(20, l0), (0, l1), (0, l2), (0, l3), (0, l4), (0, l5), (0, l6), (0, l7), v8] [(0, s0), (0, s1)] M = nb_R nb_P 188 15 [(20, l0), (0, l1), (0, l2), (0, l3), (0, l4), (0, l5), (0, l6), (0, l7), (0, nb_add s1 s0)] [] (nb_wr M (nb_rd M l0 31) l1 l7) :=
  nb_step (c := ((true && !decide ((l0 : Int) = 0)) && (!decide ((nb_rd M l0 31 : Int) = 0) && (!decide ((nb_rd M l0 31 : Int) = 1) && (decide ((0 : Int) ≤ l1) && decide (l1 < nb_ln M (nb_rd M l0 31))))))) rfl (by simp [h1, h2, h3, h4, h5])
theorem q_m_rowFrom4_15 (l0 l1 l2 l3 l4 l5 l6 l7 l8 : Int) (M : nb_M) (h1 : l0 ≠ 0) :
    nb_R nb_P 188 15 [(20, l0), (0, l1), (0, l2), (0, l3), (0, l4), (0, l5), (0, l6), (0, l7), (0, l8)] [] M = (nb_R nb_P 189 0 [(20, l0), (0, nb_add l1 1), (0, l2), (0, nb_or l3 (nb_shl 1 l7)), (0, l7), (0, l8), (0, nb_add l6 l8), (98, 0), (98, 0)] [] M).bind fun r => nb_R nb_P 188 16 [(20, l0), (0, l1), (0, l2), (0, l3), (0, l4), (0, l5), (0, l6), (0, l7), (0, l8)] (r.1 ++ []) r.2 :=
  nb_stepC (c := true) (L2 := [(20, l0), (0, l1), (0, l2), (0, l3), (0, l4), (0, l5), (0, l6), (0, l7), (0, l8)]) (S2 := [(0, nb_add l6 l8), (0, l8), (0, l7), (0, nb_or l3 (nb_shl 1 l7)), (0, l2), (0, nb_add l1 1), (20, l0)]) (M2 := M) (t := 16) (cl := 189) (vi := true) rfl rfl (nb_inv_eq (n := 7) rfl rfl rfl rfl rfl rfl (fun _ => h1) rfl)
theorem q_m_rowFrom4_16 (l0 l1 l2 l3 l4 l5 l6 l7 : Int) (v8 : nb_V) (M : nb_M) :
    nb_R nb_P 188 16 [(20, l0), (0, l1), (0, l2), (0, l3), (0, l4), (0, l5), (0, l6), (0, l7), v8] [] M = nb_R nb_P 188 7 [(20, l0), (0, l1), (0, l2), (0, l3), (0, l4), (0, l5), (0, l6), (0, nb_add l7 1), v8] [] M :=
  nb_step (c := true) rfl rfl
theorem q_m_rowFrom4_17 (v0 v1 v2 v3 v4 v5 v6 v7 v8 : nb_V) (M : nb_M) :
    nb_R nb_P 188 17 [v0, v1, v2, v3, v4, v5, v6, v7, v8] [] M = some ([], M) :=
  nb_step (c := true) rfl rfl
theorem q_m_rowFrom6_0 (l0 l1 l2 l3 l4 l5 l6 : Int) (v7 v8 : nb_V) (M : nb_M) (h1 : l0 ≠ 0) :
    nb_R nb_P 190 0 [(20, l0), (0, l1), (0, l2), (0, l3), (0, l4), (0, l5), (0, l6), v7, v8] [] M = if l6 < nb_rd M l0 33 then nb_R nb_P 190 2 [(20, l0), (0, l1), (0, l2), (0, l3), (0, l4), (0, l5), (0, l6), v7, v8] [] M else nb_R nb_P 190 1 [(20, l0), (0, l1), (0, l2), (0, l3), (0, l4), (0, l5), (0, l6), v7, v8] [] M :=
  nb_step (c := (true && !decide ((l0 : Int) = 0))) rfl (by simp [h1])
theorem q_m_rowFrom6_1 (v0 v1 v2 v3 v4 v5 v6 v7 v8 : nb_V) (M : nb_M) :
    nb_R nb_P 190 1 [v0, v1, v2, v3, v4, v5, v6, v7, v8] [] M = some ([], M) :=
  nb_step (c := true) rfl rfl
theorem q_m_rowFrom6_2 (l0 l1 l2 l3 l4 l5 l6 : Int) (v7 v8 : nb_V) (M : nb_M) :
    nb_R nb_P 190 2 [(20, l0), (0, l1), (0, l2), (0, l3), (0, l4), (0, l5), (0, l6), v7, v8] [] M = if l1 = l2 then nb_R nb_P 190 3 [(20, l0), (0, l1), (0, l2), (0, l3), (0, l4), (0, l5), (0, l6), v7, v8] [] M else nb_R nb_P 190 6 [(20, l0), (0, l1), (0, l2), (0, l3), (0, l4), (0, l5), (0, l6), v7, v8] [] M :=
  nb_step (c := true) rfl rfl
theorem q_m_rowFrom6_3 (l0 l2 l6 : Int) (v1 v3 v4 v5 v7 v8 : nb_V) (M : nb_M) (h1 : l0 ≠ 0) :
    nb_R nb_P 190 3 [(20, l0), v1, (0, l2), v3, v4, v5, (0, l6), v7, v8] [] M = nb_R nb_P 190 4 [(20, l0), v1, (0, l2), v3, v4, v5, (0, l6), v7, v8] [] (nb_wr M l0 33 l6) :=
  nb_step (c := (true && (!decide ((l0 : Int) = 0) && (!false || (decide ((l6 : Int) = 0) || decide ((l6 : Int) = 1)))))) rfl (by simp [h1])
theorem q_m_rowFrom6_4 (l0 l2 : Int) (v1 v3 v4 v5 v6 v7 v8 : nb_V) (M : nb_M) (h1 : l0 ≠ 0) :
    nb_R nb_P 190 4 [(20, l0), v1, (0, l2), v3, v4, v5, v6, v7, v8] [] M = (nb_R nb_P 86 0 [(3, nb_rd M l0 31), (0, 0), (3, nb_rd M l0 32), (0, 0), (0, l2), (98, 0)] [] M).bind fun r => nb_R nb_P 190 5 [(20, l0), v1, (0, l2), v3, v4, v5, v6, v7, v8] (r.1 ++ []) r.2 :=
  nb_stepC (c := ((true && !decide ((l0 : Int) = 0)) && !decide ((l0 : Int) = 0))) (L2 := [(20, l0), v1, (0, l2), v3, v4, v5, v6, v7, v8]) (S2 := [(0, l2), (0, 0), (3, nb_rd M l0 32), (0, 0), (3, nb_rd M l0 31)]) (M2 := M) (t := 5) (cl := 86) (vi := false) rfl (by simp [h1]) (nb_inv_eq (n := 5) rfl rfl rfl rfl rfl rfl (fun h => by cases h) rfl)
theorem q_m_rowFrom6_5 (v0 v1 v2 v3 v4 v5 v6 v7 v8 : nb_V) (M : nb_M) :
    nb_R nb_P 190 5 [v0, v1, v2, v3, v4, v5, v6, v7, v8] [] M = some ([], M) :=
  nb_step (c := true) rfl rfl
theorem q_m_rowFrom6_6 (l0 l1 l2 l3 l4 l5 l6 : Int) (v7 v8 : nb_V) (M : nb_M) :
    nb_R nb_P 190 6 [(20, l0), (0, l1), (0, l2), (0, l3), (0, l4), (0, l5), (0, l6), v7, v8] [] M = nb_R nb_P 190 7 [(20, l0), (0, l1), (0, l2), (0, l3), (0, l4), (0, l5), (0, l6), (0, 0), v8] [] M :=
  nb_step (c := true) rfl rfl
theorem q_m_rowFrom6_7 (l0 l1 l2 l3 l4 l5 l6 l7 : Int) (v8 : nb_V) (M : nb_M) (h1 : l0 ≠ 0) (h2 : (nb_rd M l0 15) ≠ 0) (h3 : (0 : Int) ≤ 5) (h4 : 5 < nb_ln M (nb_rd M l0 15)) :
    nb_R nb_P 190 7 [(20, l0), (0, l1), (0, l2), (0, l3), (0, l4), (0, l5), (0, l6), (0, l7), v8] [] M = if l7 < nb_rd M (nb_rd M l0 15) 5 then nb_R nb_P 190 8 [(20, l0), (0, l1), (0, l2), (0, l3), (0, l4), (0, l5), (0, l6), (0, l7), v8] [] M else nb_R nb_P 190 17 [(20, l0), (0, l1), (0, l2), (0, l3), (0, l4), (0, l5), (0, l6), (0, l7), v8] [] M :=
  nb_step (c := ((true && !decide ((l0 : Int) = 0)) && (!decide ((nb_rd M l0 15 : Int) = 0) && (decide ((0 : Int) ≤ 5) && decide (5 < nb_ln M (nb_rd M l0 15)))))) rfl (by simp [h1, h2, h3, h4])
theorem q_m_rowFrom6_8 (l0 l1 l2 l3 l4 l5 l6 l7 : Int) (v8 : nb_V) (M : nb_M) :
    nb_R nb_P 190 8 [(20, l0), (0, l1), (0, l2), (0, l3), (0, l4), (0, l5), (0, l6), (0, l7), v8] [] M = (nb_R nb_P 84 0 [(0, l3), (0, l7)] [] M).bind fun r => nb_R nb_P 190 9 [(20, l0), (0, l1), (0, l2), (0, l3), (0, l4), (0, l5), (0, l6), (0, l7), v8] (r.1 ++ []) r.2 :=
  nb_stepC (c := true) (L2 := [(20, l0), (0, l1), (0, l2), (0, l3), (0, l4), (0, l5), (0, l6), (0, l7), v8]) (S2 := [(0, l7), (0, l3)]) (M2 := M) (t := 9) (cl := 84) (vi := false) rfl rfl (nb_inv_eq (n := 2) rfl rfl rfl rfl rfl rfl (fun h => by cases h) rfl)
theorem q_m_rowFrom6_9 (l0 l1 l2 l3 l4 l5 l6 l7 s0 : Int) (v8 : nb_V) (M : nb_M) :
    nb_R nb_P 190 9 [(20, l0), (0, l1), (0, l2), (0, l3), (0, l4), (0, l5), (0, l6), (0, l7), v8] [(0, s0)] M = if s0 = 0 then nb_R nb_P 190 10 [(20, l0), (0, l1), (0, l2), (0, l3), (0, l4), (0, l5), (0, l6), (0, l7), v8] [] M else nb_R nb_P 190 16 [(20, l0), (0, l1), (0, l2), (0, l3), (0, l4), (0, l5), (0, l6), (0, l7), v8] [] M :=
  nb_step (c := true) rfl rfl
theorem q_m_rowFrom6_10 (l0 l1 l2 l3 l4 l5 l6 l7 : Int) (v8 : nb_V) (M : nb_M) (h1 : l0 ≠ 0) :
    nb_R nb_P 190 10 [(20, l0), (0, l1), (0, l2), (0, l3), (0, l4), (0, l5), (0, l6), (0, l7), v8] [] M = (nb_R nb_P 126 0 [(3, nb_rd M l0 17), (0, l7)] [] M).bind fun r => nb_R nb_P 190 11 [(20, l0), (0, l1), (0, l2), (0, l3), (0, l4), (0, l5), (0, l6), (0, l7), v8] (r.1 ++ []) r.2 :=
  nb_stepC (c := (true && !decide ((l0 : Int) = 0))) (L2 := [(20, l0), (0, l1), (0, l2), (0, l3), (0, l4), (0, l5), (0, l6), (0, l7), v8]) (S2 := [(0, l7), (3, nb_rd M l0 17)]) (M2 := M) (t := 11) (cl := 126) (vi := false) rfl (by simp [h1]) (nb_inv_eq (n := 2) rfl rfl rfl rfl rfl rfl (fun h => by cases h) rfl)
theorem q_m_rowFrom6_11 (l0 l1 l2 l3 l4 l5 l6 l7 s0 : Int) (v8 : nb_V) (M : nb_M) :
    nb_R nb_P 190 11 [(20, l0), (0, l1), (0, l2), (0, l3), (0, l4), (0, l5), (0, l6), (0, l7), v8] [(0, s0)] M = if s0 = 0 then nb_R nb_P 190 12 [(20, l0), (0, l1), (0, l2), (0, l3), (0, l4), (0, l5), (0, l6), (0, l7), v8] [] M else nb_R nb_P 190 13 [(20, l0), (0, l1), (0, l2), (0, l3), (0, l4), (0, l5), (0, l6), (0, l7), v8] [] M :=
  nb_step (c := true) rfl rfl
theorem q_m_rowFrom6_12 (l0 l1 l2 l3 l4 l5 l6 l7 : Int) (v8 : nb_V) (M : nb_M) :
    nb_R nb_P 190 12 [(20, l0), (0, l1), (0, l2), (0, l3), (0, l4), (0, l5), (0, l6), (0, l7), v8] [] M = nb_R nb_P 190 16 [(20, l0), (0, l1), (0, l2), (0, l3), (0, l4), (0, l5), (0, l6), (0, l7), v8] [] M :=
  nb_step (c := true) rfl rfl
theorem q_m_rowFrom6_13 (l0 l1 l2 l3 l4 l5 l6 l7 : Int) (v8 : nb_V) (M : nb_M) (h1 : l0 ≠ 0) :
    nb_R nb_P 190 13 [(20, l0), (0, l1), (0, l2), (0, l3), (0, l4), (0, l5), (0, l6), (0, l7), v8] [] M = (nb_R nb_P 129 0 [(20, l0), (0, l4), (0, l7), (98, 0), (98, 0), (98, 0), (98, 0)] [] M).bind fun r => nb_R nb_P 190 14 [(20, l0), (0, l1), (0, l2), (0, l3), (0, l4), (0, l5), (0, l6), (0, l7), v8] (r.1 ++ [(0, l5)]) r.2 :=
  nb_stepC (c := true) (L2 := [(20, l0), (0, l1), (0, l2), (0, l3), (0, l4), (0, l5), (0, l6), (0, l7), v8]) (S2 := [(0, l7), (0, l4), (20, l0), (0, l5)]) (M2 := M) (t := 14) (cl := 129) (vi := true) rfl rfl (nb_inv_eq (n := 3) rfl rfl rfl rfl rfl rfl (fun _ => h1) rfl)
theorem q_m_rowFrom6_14 (l0 l1 l2 l3 l4 l5 l6 l7 s0 s1 : Int) (v8 : nb_V) (M : nb_M) (h1 : l0 ≠ 0) (h2 : (nb_rd M l0 31) ≠ 0) (h3 : (nb_rd M l0 31) ≠ 1) (h4 : (0 : Int) ≤ l1) (h5 : l1 < nb_ln M (nb_rd M l0 31)) :
    nb_R nb_P 190 14 [(20, l0), (0, l1), (0, l2), (0, l3), (0, l4), (0, l5), (0, l6), (0, l7), v8] [(0, s0), (0, s1)] M = nb_R nb_P 190 15 [(20, l0), (0, l1), (0, l2), (0, l3), (0, l4), (0, l5), (0, l6), (0, l7), (0, nb_add s1 s0)] [] (nb_wr M (nb_rd M l0 31) l1 l7) :=
  nb_step (c := ((true && !decide ((l0 : Int) = 0)) && (!decide ((nb_rd M l0 31 : Int) = 0) && (!decide ((nb_rd M l0 31 : Int) = 1) && (decide ((0 : Int) ≤ l1) && decide (l1 < nb_ln M (nb_rd M l0 31))))))) rfl (by simp [h1, h2, h3, h4, h5])
theorem q_m_rowFrom6_15 (l0 l1 l2 l3 l4 l5 l6 l7 l8 : Int) (M : nb_M) (h1 : l0 ≠ 0) :
    nb_R nb_P 190 15 [(20, l0), (0, l1), (0, l2), (0, l3), (0, l4), (0, l5), (0, l6), (0, l7), (0, l8)] [] M = (nb_R nb_P 191 0 [(20, l0), (0, nb_add l1 1), (0, l2), (0, nb_or l3 (nb_shl 1 l7)), (0, l7), (0, l8), (0, nb_add l6 l8), (98, 0), (98, 0)] [] M).bind fun r => nb_R nb_P 190 16 [(20, l0), (0, l1), (0, l2), (0, l3), (0, l4), (0, l5), (0, l6), (0, l7), (0, l8)] (r.1 ++ []) r.2 :=
  nb_stepC (c := true) (L2 := [(20, l0), (0, l1), (0, l2), (0, l3), (0, l4), (0, l5), (0, l6), (0, l7), (0, l8)]) (S2 := [(0, nb_add l6 l8), (0, l8), (0, l7), (0, nb_or l3 (nb_shl 1 l7)), (0, l2), (0, nb_add l1 1), (20, l0)]) (M2 := M) (t := 16) (cl := 191) (vi := true) rfl rfl (nb_inv_eq (n := 7) rfl rfl rfl rfl rfl rfl (fun _ => h1) rfl)
theorem q_m_rowFrom6_16 (l0 l1 l2 l3 l4 l5 l6 l7 : Int) (v8 : nb_V) (M : nb_M) :
    nb_R nb_P 190 16 [(20, l0), (0, l1), (0, l2), (0, l3), (0, l4), (0, l5), (0, l6), (0, l7), v8] [] M = nb_R nb_P 190 7 [(20, l0), (0, l1), (0, l2), (0, l3), (0, l4), (0, l5), (0, l6), (0, nb_add l7 1), v8] [] M :=
  nb_step (c := true) rfl rfl
theorem q_m_rowFrom6_17 (v0 v1 v2 v3 v4 v5 v6 v7 v8 : nb_V) (M : nb_M) :
    nb_R nb_P 190 17 [v0, v1, v2, v3, v4, v5, v6, v7, v8] [] M = some ([], M) :=
  nb_step (c := true) rfl rfl
theorem q_m_rowWhy_0 (l0 l1 : Int) (v2 : nb_V) (M : nb_M) (h1 : l0 ≠ 0) :
    nb_R nb_P 192 0 [(20, l0), (0, l1), v2] [] M = (nb_R nb_P 117 0 [(20, l0), (0, l1)] [] M).bind fun r => nb_R nb_P 192 1 [(20, l0), (0, l1), v2] (r.1 ++ []) r.2 :=
  nb_stepC (c := true) (L2 := [(20, l0), (0, l1), v2]) (S2 := [(0, l1), (20, l0)]) (M2 := M) (t := 1) (cl := 117) (vi := true) rfl rfl (nb_inv_eq (n := 2) rfl rfl rfl rfl rfl rfl (fun _ => h1) rfl)
theorem q_m_rowWhy_1 (l0 l1 s0 : Int) (v2 : nb_V) (M : nb_M) :
    nb_R nb_P 192 1 [(20, l0), (0, l1), v2] [(0, s0)] M = if s0 = 0 then nb_R nb_P 192 2 [(20, l0), (0, l1), v2] [] M else nb_R nb_P 192 3 [(20, l0), (0, l1), v2] [] M :=
  nb_step (c := true) rfl rfl
theorem q_m_rowWhy_2 (v0 v1 v2 : nb_V) (M : nb_M) :
    nb_R nb_P 192 2 [v0, v1, v2] [] M = some ([(0, 1)], M) :=
  nb_step (c := true) rfl rfl
theorem q_m_rowWhy_3 (l0 l1 : Int) (v2 : nb_V) (M : nb_M) (h1 : l0 ≠ 0) :
    nb_R nb_P 192 3 [(20, l0), (0, l1), v2] [] M = (nb_R nb_P 145 0 [(20, l0), (3, nb_rd M l0 17), (98, 0), (98, 0)] [] M).bind fun r => nb_R nb_P 192 4 [(20, l0), (0, l1), v2] (r.1 ++ []) r.2 :=
  nb_stepC (c := (true && !decide ((l0 : Int) = 0))) (L2 := [(20, l0), (0, l1), v2]) (S2 := [(3, nb_rd M l0 17), (20, l0)]) (M2 := M) (t := 4) (cl := 145) (vi := true) rfl (by simp [h1]) (nb_inv_eq (n := 2) rfl rfl rfl rfl rfl rfl (fun _ => h1) rfl)
theorem q_m_rowWhy_4 (l0 l1 s0 : Int) (v2 : nb_V) (M : nb_M) :
    nb_R nb_P 192 4 [(20, l0), (0, l1), v2] [(0, s0)] M = if 7 < s0 then nb_R nb_P 192 5 [(20, l0), (0, l1), (0, s0)] [] M else nb_R nb_P 192 6 [(20, l0), (0, l1), (0, s0)] [] M :=
  nb_step (c := true) rfl rfl
theorem q_m_rowWhy_5 (v0 v1 v2 : nb_V) (M : nb_M) :
    nb_R nb_P 192 5 [v0, v1, v2] [] M = some ([(0, 3)], M) :=
  nb_step (c := true) rfl rfl
theorem q_m_rowWhy_6 (l0 l1 l2 : Int) (M : nb_M) (h1 : l0 ≠ 0) :
    nb_R nb_P 192 6 [(20, l0), (0, l1), (0, l2)] [] M = nb_R nb_P 192 7 [(20, l0), (0, l1), (0, l2)] [] (nb_wr M l0 33 1000000) :=
  nb_step (c := (true && (!decide ((l0 : Int) = 0) && (!false || (decide ((1000000 : Int) = 0) || decide ((1000000 : Int) = 1)))))) rfl (by simp [h1])
theorem q_m_rowWhy_7 (l0 l1 l2 : Int) (M : nb_M) (h1 : l0 ≠ 0) (h2 : (nb_rd M l0 17) ≠ 0) (h3 : (0 : Int) ≤ nb_add (nb_add 92 (nb_mul 4 l1)) 3) (h4 : nb_add (nb_add 92 (nb_mul 4 l1)) 3 < nb_ln M (nb_rd M l0 17)) :
    nb_R nb_P 192 7 [(20, l0), (0, l1), (0, l2)] [] M = (nb_R nb_P 184 0 [(20, l0), (0, 0), (0, l2), (0, 0), (0, nb_sub (nb_rd M (nb_rd M l0 17) (nb_add (nb_add 92 (nb_mul 4 l1)) 3)) 1), (0, 0), (0, 0), (98, 0), (98, 0)] [] M).bind fun r => nb_R nb_P 192 8 [(20, l0), (0, l1), (0, l2)] (r.1 ++ []) r.2 :=
  nb_stepC (c := ((true && !decide ((l0 : Int) = 0)) && (!decide ((nb_rd M l0 17 : Int) = 0) && (decide ((0 : Int) ≤ nb_add (nb_add 92 (nb_mul 4 l1)) 3) && decide (nb_add (nb_add 92 (nb_mul 4 l1)) 3 < nb_ln M (nb_rd M l0 17)))))) (L2 := [(20, l0), (0, l1), (0, l2)]) (S2 := [(0, 0), (0, 0), (0, nb_sub (nb_rd M (nb_rd M l0 17) (nb_add (nb_add 92 (nb_mul 4 l1)) 3)) 1), (0, 0), (0, l2), (0, 0), (20, l0)]) (M2 := M) (t := 8) (cl := 184) (vi := true) rfl (by simp [h1, h2, h3, h4]) (nb_inv_eq (n := 7) rfl rfl rfl rfl rfl rfl (fun _ => h1) rfl)
theorem q_m_rowWhy_8 (v0 v1 v2 : nb_V) (M : nb_M) :
    nb_R nb_P 192 8 [v0, v1, v2] [] M = some ([(0, 0)], M) :=
  nb_step (c := true) rfl rfl
theorem q_m_rowSum_0 (l0 l1 : Int) (v2 : nb_V) (M : nb_M) (h1 : l0 ≠ 0) :
    nb_R nb_P 194 0 [(20, l0), (0, l1), v2] [] M = (nb_R nb_P 79 0 [(20, l0)] [] M).bind fun r => nb_R nb_P 194 1 [(20, l0), (0, l1), v2] (r.1 ++ []) r.2 :=
  nb_stepC (c := true) (L2 := [(20, l0), (0, l1), v2]) (S2 := [(20, l0)]) (M2 := M) (t := 1) (cl := 79) (vi := true) rfl rfl (nb_inv_eq (n := 1) rfl rfl rfl rfl rfl rfl (fun _ => h1) rfl)
theorem q_m_rowSum_1 (l0 l1 : Int) (v2 : nb_V) (M : nb_M) (h1 : l0 ≠ 0) :
    nb_R nb_P 194 1 [(20, l0), (0, l1), v2] [] M = (nb_R nb_P 192 0 [(20, l0), (0, l1), (98, 0)] [] M).bind fun r => nb_R nb_P 194 2 [(20, l0), (0, l1), v2] (r.1 ++ []) r.2 :=
  nb_stepC (c := true) (L2 := [(20, l0), (0, l1), v2]) (S2 := [(0, l1), (20, l0)]) (M2 := M) (t := 2) (cl := 192) (vi := true) rfl rfl (nb_inv_eq (n := 2) rfl rfl rfl rfl rfl rfl (fun _ => h1) rfl)
theorem q_m_rowSum_2 (l0 s0 : Int) (v1 v2 : nb_V) (M : nb_M) :
    nb_R nb_P 194 2 [(20, l0), v1, v2] [(0, s0)] M = if s0 = 0 then nb_R nb_P 194 5 [(20, l0), nb_clr v1, (0, s0)] [] M else nb_R nb_P 194 3 [(20, l0), nb_clr v1, (0, s0)] [] M :=
  nb_step (c := true) rfl rfl
theorem q_m_rowSum_3 (l0 l2 : Int) (v1 : nb_V) (M : nb_M) (h1 : l0 ≠ 0) :
    nb_R nb_P 194 3 [(20, l0), v1, (0, l2)] [] M = (nb_R nb_P 80 0 [(20, l0), (0, l2)] [] M).bind fun r => nb_R nb_P 194 4 [(20, l0), v1, (0, l2)] (r.1 ++ []) r.2 :=
  nb_stepC (c := true) (L2 := [(20, l0), v1, (0, l2)]) (S2 := [(0, l2), (20, l0)]) (M2 := M) (t := 4) (cl := 80) (vi := true) rfl rfl (nb_inv_eq (n := 2) rfl rfl rfl rfl rfl rfl (fun _ => h1) rfl)
theorem q_m_rowSum_4 (s0 : Int) (v0 v1 v2 : nb_V) (M : nb_M) :
    nb_R nb_P 194 4 [v0, v1, v2] [(0, s0)] M = nb_R nb_P 194 6 [v0, v1, v2] [(0, s0)] M :=
  nb_step (c := true) rfl rfl
theorem q_m_rowSum_5 (l0 : Int) (v1 v2 : nb_V) (M : nb_M) (h1 : l0 ≠ 0) :
    nb_R nb_P 194 5 [(20, l0), v1, v2] [] M = nb_R nb_P 194 6 [(20, l0), v1, v2] [(0, nb_rd M l0 33)] M :=
  nb_step (c := (true && !decide ((l0 : Int) = 0))) rfl (by simp [h1])
theorem q_m_rowSum_6 (s0 : Int) (v0 v1 v2 : nb_V) (M : nb_M) :
    nb_R nb_P 194 6 [v0, v1, v2] [(0, s0)] M = some ([(0, s0)], M) :=
  nb_step (c := true) rfl rfl
theorem q_m_liarsOf_0 (l0 : Int) (v1 v2 : nb_V) (M : nb_M) (h1 : l0 ≠ 0) :
    nb_R nb_P 196 0 [(20, l0), v1, v2] [] M = (nb_R nb_P 178 0 [(20, l0)] [] M).bind fun r => nb_R nb_P 196 1 [(20, l0), v1, v2] (r.1 ++ []) r.2 :=
  nb_stepC (c := true) (L2 := [(20, l0), v1, v2]) (S2 := [(20, l0)]) (M2 := M) (t := 1) (cl := 178) (vi := true) rfl rfl (nb_inv_eq (n := 1) rfl rfl rfl rfl rfl rfl (fun _ => h1) rfl)
theorem q_m_liarsOf_1 (l0 s0 : Int) (v1 v2 : nb_V) (M : nb_M) :
    nb_R nb_P 196 1 [(20, l0), v1, v2] [(0, s0)] M = nb_R nb_P 196 2 [(20, l0), (0, s0), (0, 0)] [] M :=
  nb_step (c := true) rfl rfl
theorem q_m_liarsOf_2 (l0 l1 l2 : Int) (M : nb_M) (h1 : l0 ≠ 0) :
    nb_R nb_P 196 2 [(20, l0), (0, l1), (0, l2)] [] M = (nb_R nb_P 178 0 [(20, l0)] [] M).bind fun r => nb_R nb_P 196 3 [(20, l0), (0, l1), (0, l2)] (r.1 ++ [(0, l2)]) r.2 :=
  nb_stepC (c := true) (L2 := [(20, l0), (0, l1), (0, l2)]) (S2 := [(20, l0), (0, l2)]) (M2 := M) (t := 3) (cl := 178) (vi := true) rfl rfl (nb_inv_eq (n := 1) rfl rfl rfl rfl rfl rfl (fun _ => h1) rfl)
theorem q_m_liarsOf_3 (l0 l1 l2 s0 s1 : Int) (M : nb_M) :
    nb_R nb_P 196 3 [(20, l0), (0, l1), (0, l2)] [(0, s0), (0, s1)] M = if s0 < s1 then nb_R nb_P 196 11 [(20, l0), (0, l1), (0, l2)] [] M else nb_R nb_P 196 4 [(20, l0), (0, l1), (0, l2)] [] M :=
  nb_step (c := true) rfl rfl
theorem q_m_liarsOf_4 (l0 l1 l2 : Int) (M : nb_M) :
    nb_R nb_P 196 4 [(20, l0), (0, l1), (0, l2)] [] M = (nb_R nb_P 85 0 [(0, l2), (98, 0), (98, 0)] [] M).bind fun r => nb_R nb_P 196 5 [(20, l0), (0, l1), (0, l2)] (r.1 ++ []) r.2 :=
  nb_stepC (c := true) (L2 := [(20, l0), (0, l1), (0, l2)]) (S2 := [(0, l2)]) (M2 := M) (t := 5) (cl := 85) (vi := false) rfl rfl (nb_inv_eq (n := 1) rfl rfl rfl rfl rfl rfl (fun h => by cases h) rfl)
theorem q_m_liarsOf_5 (l0 l1 l2 s0 : Int) (M : nb_M) :
    nb_R nb_P 196 5 [(20, l0), (0, l1), (0, l2)] [(0, s0)] M = (nb_R nb_P 85 0 [(0, l1), (98, 0), (98, 0)] [] M).bind fun r => nb_R nb_P 196 6 [(20, l0), (0, l1), (0, l2)] (r.1 ++ [(0, s0)]) r.2 :=
  nb_stepC (c := true) (L2 := [(20, l0), (0, l1), (0, l2)]) (S2 := [(0, l1), (0, s0)]) (M2 := M) (t := 6) (cl := 85) (vi := false) rfl rfl (nb_inv_eq (n := 1) rfl rfl rfl rfl rfl rfl (fun h => by cases h) rfl)
theorem q_m_liarsOf_6 (l0 l1 l2 s0 s1 : Int) (M : nb_M) :
    nb_R nb_P 196 6 [(20, l0), (0, l1), (0, l2)] [(0, s0), (0, s1)] M = if s1 < s0 then nb_R nb_P 196 7 [(20, l0), (0, l1), (0, l2)] [] M else nb_R nb_P 196 10 [(20, l0), (0, l1), (0, l2)] [] M :=
  nb_step (c := true) rfl rfl
theorem q_m_liarsOf_7 (l0 l1 l2 : Int) (M : nb_M) (h1 : l0 ≠ 0) :
    nb_R nb_P 196 7 [(20, l0), (0, l1), (0, l2)] [] M = (nb_R nb_P 195 0 [(20, l0), (0, l2), (98, 0), (98, 0), (98, 0)] [] M).bind fun r => nb_R nb_P 196 8 [(20, l0), (0, l1), (0, l2)] (r.1 ++ []) r.2 :=
  nb_stepC (c := true) (L2 := [(20, l0), (0, l1), (0, l2)]) (S2 := [(0, l2), (20, l0)]) (M2 := M) (t := 8) (cl := 195) (vi := true) rfl rfl (nb_inv_eq (n := 2) rfl rfl rfl rfl rfl rfl (fun _ => h1) rfl)
theorem q_m_liarsOf_8 (l0 l1 l2 s0 : Int) (M : nb_M) :
    nb_R nb_P 196 8 [(20, l0), (0, l1), (0, l2)] [(0, s0)] M = if s0 = 0 then nb_R nb_P 196 10 [(20, l0), (0, l1), (0, l2)] [] M else nb_R nb_P 196 9 [(20, l0), (0, l1), (0, l2)] [] M :=
  nb_step (c := true) rfl rfl
theorem q_m_liarsOf_9 (l0 l2 : Int) (v1 : nb_V) (M : nb_M) :
    nb_R nb_P 196 9 [(20, l0), v1, (0, l2)] [] M = nb_R nb_P 196 10 [(20, l0), (0, l2), (0, l2)] [] M :=
  nb_step (c := true) rfl rfl
theorem q_m_liarsOf_10 (l0 l1 l2 : Int) (M : nb_M) :
    nb_R nb_P 196 10 [(20, l0), (0, l1), (0, l2)] [] M = nb_R nb_P 196 2 [(20, l0), (0, l1), (0, nb_add l2 1)] [] M :=
  nb_step (c := true) rfl rfl
theorem q_m_liarsOf_11 (l1 : Int) (v0 v2 : nb_V) (M : nb_M) :
    nb_R nb_P 196 11 [v0, (0, l1), v2] [] M = some ([(0, l1)], M) :=
  nb_step (c := true) rfl rfl
theorem q_m_surely_0 (l0 l1 l2 : Int) (M : nb_M) (h1 : l0 ≠ 0) :
    nb_R nb_P 198 0 [(20, l0), (0, l1), (0, l2)] [] M = (nb_R nb_P 79 0 [(20, l0)] [] M).bind fun r => nb_R nb_P 198 1 [(20, l0), (0, l1), (0, l2)] (r.1 ++ []) r.2 :=
  nb_stepC (c := true) (L2 := [(20, l0), (0, l1), (0, l2)]) (S2 := [(20, l0)]) (M2 := M) (t := 1) (cl := 79) (vi := true) rfl rfl (nb_inv_eq (n := 1) rfl rfl rfl rfl rfl rfl (fun _ => h1) rfl)
theorem q_m_surely_1 (l0 l1 l2 : Int) (M : nb_M) (h1 : l0 ≠ 0) :
    nb_R nb_P 198 1 [(20, l0), (0, l1), (0, l2)] [] M = (nb_R nb_P 116 0 [(20, l0), (0, l1)] [] M).bind fun r => nb_R nb_P 198 2 [(20, l0), (0, l1), (0, l2)] (r.1 ++ []) r.2 :=
  nb_stepC (c := true) (L2 := [(20, l0), (0, l1), (0, l2)]) (S2 := [(0, l1), (20, l0)]) (M2 := M) (t := 2) (cl := 116) (vi := true) rfl rfl (nb_inv_eq (n := 2) rfl rfl rfl rfl rfl rfl (fun _ => h1) rfl)
theorem q_m_surely_2 (l0 l1 l2 s0 : Int) (M : nb_M) :
    nb_R nb_P 198 2 [(20, l0), (0, l1), (0, l2)] [(0, s0)] M = if s0 = 0 then nb_R nb_P 198 6 [(20, l0), (0, l1), (0, l2)] [] M else nb_R nb_P 198 3 [(20, l0), (0, l1), (0, l2)] [] M :=
  nb_step (c := true) rfl rfl
theorem q_m_surely_3 (l0 l1 l2 : Int) (M : nb_M) (h1 : l0 ≠ 0) :
    nb_R nb_P 198 3 [(20, l0), (0, l1), (0, l2)] [] M = (nb_R nb_P 116 0 [(20, l0), (0, l2)] [] M).bind fun r => nb_R nb_P 198 4 [(20, l0), (0, l1), (0, l2)] (r.1 ++ []) r.2 :=
  nb_stepC (c := true) (L2 := [(20, l0), (0, l1), (0, l2)]) (S2 := [(0, l2), (20, l0)]) (M2 := M) (t := 4) (cl := 116) (vi := true) rfl rfl (nb_inv_eq (n := 2) rfl rfl rfl rfl rfl rfl (fun _ => h1) rfl)
theorem q_m_surely_4 (l0 l1 l2 s0 : Int) (M : nb_M) :
    nb_R nb_P 198 4 [(20, l0), (0, l1), (0, l2)] [(0, s0)] M = if s0 = 0 then nb_R nb_P 198 6 [(20, l0), (0, l1), (0, l2)] [] M else nb_R nb_P 198 5 [(20, l0), (0, l1), (0, l2)] [] M :=
  nb_step (c := true) rfl rfl
theorem q_m_surely_5 (l0 l1 l2 : Int) (M : nb_M) :
    nb_R nb_P 198 5 [(20, l0), (0, l1), (0, l2)] [] M = if l1 = l2 then nb_R nb_P 198 6 [(20, l0), (0, l1), (0, l2)] [] M else nb_R nb_P 198 8 [(20, l0), (0, l1), (0, l2)] [] M :=
  nb_step (c := true) rfl rfl
theorem q_m_surely_6 (l0 : Int) (v1 v2 : nb_V) (M : nb_M) (h1 : l0 ≠ 0) :
    nb_R nb_P 198 6 [(20, l0), v1, v2] [] M = (nb_R nb_P 80 0 [(20, l0), (0, 1)] [] M).bind fun r => nb_R nb_P 198 7 [(20, l0), v1, v2] (r.1 ++ []) r.2 :=
  nb_stepC (c := true) (L2 := [(20, l0), v1, v2]) (S2 := [(0, 1), (20, l0)]) (M2 := M) (t := 7) (cl := 80) (vi := true) rfl rfl (nb_inv_eq (n := 2) rfl rfl rfl rfl rfl rfl (fun _ => h1) rfl)
theorem q_m_surely_7 (s0 : Int) (v0 v1 v2 : nb_V) (M : nb_M) :
    nb_R nb_P 198 7 [v0, v1, v2] [(0, s0)] M = some ([(0, s0)], M) :=
  nb_step (c := true) rfl rfl
theorem q_m_surely_8 (l0 l1 l2 : Int) (M : nb_M) (h1 : l0 ≠ 0) :
    nb_R nb_P 198 8 [(20, l0), (0, l1), (0, l2)] [] M = (nb_R nb_P 196 0 [(20, l0), (98, 0), (98, 0)] [] M).bind fun r => nb_R nb_P 198 9 [(20, l0), (0, l1), (0, l2)] (r.1 ++ [(20, l0)]) r.2 :=
  nb_stepC (c := true) (L2 := [(20, l0), (0, l1), (0, l2)]) (S2 := [(20, l0), (20, l0)]) (M2 := M) (t := 9) (cl := 196) (vi := true) rfl rfl (nb_inv_eq (n := 1) rfl rfl rfl rfl rfl rfl (fun _ => h1) rfl)
theorem q_m_surely_9 (l0 l1 l2 s0 s1 : Int) (M : nb_M) (h1 : s1 ≠ 0) :
    nb_R nb_P 198 9 [(20, l0), (0, l1), (0, l2)] [(0, s0), (20, s1)] M = (nb_R nb_P 195 0 [(20, s1), (0, s0), (98, 0), (98, 0), (98, 0)] [] M).bind fun r => nb_R nb_P 198 10 [(20, l0), (0, l1), (0, l2)] (r.1 ++ []) r.2 :=
  nb_stepC (c := true) (L2 := [(20, l0), (0, l1), (0, l2)]) (S2 := [(0, s0), (20, s1)]) (M2 := M) (t := 10) (cl := 195) (vi := true) rfl rfl (nb_inv_eq (n := 2) rfl rfl rfl rfl rfl rfl (fun _ => h1) rfl)
theorem q_m_surely_10 (l0 l1 l2 s0 : Int) (M : nb_M) (h1 : l0 ≠ 0) (h2 : (nb_rd M l0 34) ≠ 0) (h3 : (0 : Int) ≤ nb_add (nb_mul 10 l1) l2) (h4 : nb_add (nb_mul 10 l1) l2 < nb_ln M (nb_rd M l0 34)) :
    nb_R nb_P 198 10 [(20, l0), (0, l1), (0, l2)] [(0, s0)] M = if nb_rd M (nb_rd M l0 34) (nb_add (nb_mul 10 l1) l2) = 0 then nb_R nb_P 198 12 [(20, l0), (0, l1), (0, l2)] [] M else nb_R nb_P 198 11 [(20, l0), (0, l1), (0, l2)] [] M :=
  nb_step (c := ((true && !decide ((l0 : Int) = 0)) && (!decide ((nb_rd M l0 34 : Int) = 0) && (decide ((0 : Int) ≤ nb_add (nb_mul 10 l1) l2) && decide (nb_add (nb_mul 10 l1) l2 < nb_ln M (nb_rd M l0 34)))))) rfl (by simp [h1, h2, h3, h4])
theorem q_m_surely_11 (v0 v1 v2 : nb_V) (M : nb_M) :
    nb_R nb_P 198 11 [v0, v1, v2] [] M = nb_R nb_P 198 13 [v0, v1, v2] [(0, 1)] M :=
  nb_step (c := true) rfl rfl
theorem q_m_surely_12 (v0 v1 v2 : nb_V) (M : nb_M) :
    nb_R nb_P 198 12 [v0, v1, v2] [] M = nb_R nb_P 198 13 [v0, v1, v2] [(0, 0)] M :=
  nb_step (c := true) rfl rfl
theorem q_m_surely_13 (s0 : Int) (v0 v1 v2 : nb_V) (M : nb_M) :
    nb_R nb_P 198 13 [v0, v1, v2] [(0, s0)] M = some ([(0, s0)], M) :=
  nb_step (c := true) rfl rfl
theorem q_m_note_0 (l0 : Int) (v1 : nb_V) (M : nb_M) (h1 : l0 ≠ 0) :
    nb_R nb_P 200 0 [(20, l0), v1] [] M = if nb_rd M l0 21 = 12 then nb_R nb_P 200 1 [(20, l0), v1] [] M else nb_R nb_P 200 6 [(20, l0), v1] [] M :=
  nb_step (c := (true && !decide ((l0 : Int) = 0))) rfl (by simp [h1])
theorem q_m_note_1 (l0 : Int) (v1 : nb_V) (M : nb_M) :
    nb_R nb_P 200 1 [(20, l0), v1] [] M = nb_R nb_P 200 2 [(20, l0), (0, 0)] [] M :=
  nb_step (c := true) rfl rfl
theorem q_m_note_2 (l0 l1 : Int) (M : nb_M) :
    nb_R nb_P 200 2 [(20, l0), (0, l1)] [] M = if l1 < 1188 then nb_R nb_P 200 3 [(20, l0), (0, l1)] [] M else nb_R nb_P 200 5 [(20, l0), (0, l1)] [] M :=
  nb_step (c := true) rfl rfl
theorem q_m_note_3 (l0 l1 : Int) (M : nb_M) (h1 : l0 ≠ 0) (h2 : (nb_rd M l0 19) ≠ 0) (h3 : (0 : Int) ≤ nb_add l1 108) (h4 : nb_add l1 108 < nb_ln M (nb_rd M l0 19)) (h5 : (nb_rd M l0 19) ≠ 1) (h6 : (0 : Int) ≤ l1) (h7 : l1 < nb_ln M (nb_rd M l0 19)) :
    nb_R nb_P 200 3 [(20, l0), (0, l1)] [] M = nb_R nb_P 200 4 [(20, l0), (0, l1)] [] (nb_wr M (nb_rd M l0 19) l1 (nb_rd M (nb_rd M l0 19) (nb_add l1 108))) :=
  nb_step (c := ((((true && !decide ((l0 : Int) = 0)) && !decide ((l0 : Int) = 0)) && (!decide ((nb_rd M l0 19 : Int) = 0) && (decide ((0 : Int) ≤ nb_add l1 108) && decide (nb_add l1 108 < nb_ln M (nb_rd M l0 19))))) && (!decide ((nb_rd M l0 19 : Int) = 0) && (!decide ((nb_rd M l0 19 : Int) = 1) && (decide ((0 : Int) ≤ l1) && decide (l1 < nb_ln M (nb_rd M l0 19))))))) rfl (by simp [h1, h2, h3, h4, h5, h6, h7])
theorem q_m_note_4 (l0 l1 : Int) (M : nb_M) :
    nb_R nb_P 200 4 [(20, l0), (0, l1)] [] M = nb_R nb_P 200 2 [(20, l0), (0, nb_add l1 1)] [] M :=
  nb_step (c := true) rfl rfl
theorem q_m_note_5 (l0 : Int) (v1 : nb_V) (M : nb_M) (h1 : l0 ≠ 0) :
    nb_R nb_P 200 5 [(20, l0), v1] [] M = nb_R nb_P 200 6 [(20, l0), v1] [] (nb_wr M l0 21 (nb_sub (nb_rd M l0 21) 1)) :=
  nb_step (c := ((true && !decide ((l0 : Int) = 0)) && (!decide ((l0 : Int) = 0) && (!false || (decide ((nb_sub (nb_rd M l0 21) 1 : Int) = 0) || decide ((nb_sub (nb_rd M l0 21) 1 : Int) = 1)))))) rfl (by simp [h1])
theorem q_m_note_6 (l0 : Int) (v1 : nb_V) (M : nb_M) (h1 : l0 ≠ 0) :
    nb_R nb_P 200 6 [(20, l0), v1] [] M = (nb_R nb_P 86 0 [(3, nb_rd M l0 17), (0, 0), (3, nb_rd M l0 19), (0, nb_mul 108 (nb_rd M l0 21)), (0, 108), (98, 0)] [] M).bind fun r => nb_R nb_P 200 7 [(20, l0), v1] (r.1 ++ []) r.2 :=
  nb_stepC (c := (((true && !decide ((l0 : Int) = 0)) && !decide ((l0 : Int) = 0)) && !decide ((l0 : Int) = 0))) (L2 := [(20, l0), v1]) (S2 := [(0, 108), (0, nb_mul 108 (nb_rd M l0 21)), (3, nb_rd M l0 19), (0, 0), (3, nb_rd M l0 17)]) (M2 := M) (t := 7) (cl := 86) (vi := false) rfl (by simp [h1]) (nb_inv_eq (n := 5) rfl rfl rfl rfl rfl rfl (fun h => by cases h) rfl)
theorem q_m_note_7 (l0 : Int) (v1 : nb_V) (M : nb_M) (h1 : l0 ≠ 0) :
    nb_R nb_P 200 7 [(20, l0), v1] [] M = nb_R nb_P 200 8 [(20, l0), v1] [] (nb_wr M l0 21 (nb_add (nb_rd M l0 21) 1)) :=
  nb_step (c := ((true && !decide ((l0 : Int) = 0)) && (!decide ((l0 : Int) = 0) && (!false || (decide ((nb_add (nb_rd M l0 21) 1 : Int) = 0) || decide ((nb_add (nb_rd M l0 21) 1 : Int) = 1)))))) rfl (by simp [h1])
theorem q_m_note_8 (v0 v1 : nb_V) (M : nb_M) :
    nb_R nb_P 200 8 [v0, v1] [] M = some ([], M) :=
  nb_step (c := true) rfl rfl
theorem q_m_moves_0 (l0 l1 l2 : Int) (M : nb_M) (h1 : l0 ≠ 0) :
    nb_R nb_P 202 0 [(20, l0), (0, l1), (0, l2)] [] M = (nb_R nb_P 79 0 [(20, l0)] [] M).bind fun r => nb_R nb_P 202 1 [(20, l0), (0, l1), (0, l2)] (r.1 ++ []) r.2 :=
  nb_stepC (c := true) (L2 := [(20, l0), (0, l1), (0, l2)]) (S2 := [(20, l0)]) (M2 := M) (t := 1) (cl := 79) (vi := true) rfl rfl (nb_inv_eq (n := 1) rfl rfl rfl rfl rfl rfl (fun _ => h1) rfl)
theorem q_m_moves_1 (l0 l1 l2 : Int) (M : nb_M) (h1 : l0 ≠ 0) :
    nb_R nb_P 202 1 [(20, l0), (0, l1), (0, l2)] [] M = (nb_R nb_P 116 0 [(20, l0), (0, l1)] [] M).bind fun r => nb_R nb_P 202 2 [(20, l0), (0, l1), (0, l2)] (r.1 ++ []) r.2 :=
  nb_stepC (c := true) (L2 := [(20, l0), (0, l1), (0, l2)]) (S2 := [(0, l1), (20, l0)]) (M2 := M) (t := 2) (cl := 116) (vi := true) rfl rfl (nb_inv_eq (n := 2) rfl rfl rfl rfl rfl rfl (fun _ => h1) rfl)
theorem q_m_moves_2 (l0 l1 l2 s0 : Int) (M : nb_M) :
    nb_R nb_P 202 2 [(20, l0), (0, l1), (0, l2)] [(0, s0)] M = if s0 = 0 then nb_R nb_P 202 5 [(20, l0), (0, l1), (0, l2)] [] M else nb_R nb_P 202 3 [(20, l0), (0, l1), (0, l2)] [] M :=
  nb_step (c := true) rfl rfl
theorem q_m_moves_3 (l0 l1 l2 : Int) (M : nb_M) (h1 : l0 ≠ 0) :
    nb_R nb_P 202 3 [(20, l0), (0, l1), (0, l2)] [] M = (nb_R nb_P 118 0 [(20, l0), (0, l2)] [] M).bind fun r => nb_R nb_P 202 4 [(20, l0), (0, l1), (0, l2)] (r.1 ++ []) r.2 :=
  nb_stepC (c := true) (L2 := [(20, l0), (0, l1), (0, l2)]) (S2 := [(0, l2), (20, l0)]) (M2 := M) (t := 4) (cl := 118) (vi := true) rfl rfl (nb_inv_eq (n := 2) rfl rfl rfl rfl rfl rfl (fun _ => h1) rfl)
theorem q_m_moves_4 (l0 l1 l2 s0 : Int) (M : nb_M) :
    nb_R nb_P 202 4 [(20, l0), (0, l1), (0, l2)] [(0, s0)] M = if s0 = 0 then nb_R nb_P 202 5 [(20, l0), (0, l1), (0, l2)] [] M else nb_R nb_P 202 7 [(20, l0), (0, l1), (0, l2)] [] M :=
  nb_step (c := true) rfl rfl
theorem q_m_moves_5 (l0 : Int) (v1 v2 : nb_V) (M : nb_M) (h1 : l0 ≠ 0) :
    nb_R nb_P 202 5 [(20, l0), v1, v2] [] M = (nb_R nb_P 82 0 [(20, l0), (0, 1)] [] M).bind fun r => nb_R nb_P 202 6 [(20, l0), v1, v2] (r.1 ++ []) r.2 :=
  nb_stepC (c := true) (L2 := [(20, l0), v1, v2]) (S2 := [(0, 1), (20, l0)]) (M2 := M) (t := 6) (cl := 82) (vi := true) rfl rfl (nb_inv_eq (n := 2) rfl rfl rfl rfl rfl rfl (fun _ => h1) rfl)
theorem q_m_moves_6 (s0 : Int) (v0 v1 v2 : nb_V) (M : nb_M) :
    nb_R nb_P 202 6 [v0, v1, v2] [(0, s0)] M = some ([(0, nb_i2z s0)], M) :=
  nb_step (c := true) rfl rfl
theorem q_m_moves_7 (l0 l1 l2 : Int) (M : nb_M) (h1 : l0 ≠ 0) :
    nb_R nb_P 202 7 [(20, l0), (0, l1), (0, l2)] [] M = (nb_R nb_P 126 0 [(3, nb_rd M l0 17), (0, l1)] [] M).bind fun r => nb_R nb_P 202 8 [(20, l0), (0, l1), (0, l2)] (r.1 ++ []) r.2 :=
  nb_stepC (c := (true && !decide ((l0 : Int) = 0))) (L2 := [(20, l0), (0, l1), (0, l2)]) (S2 := [(0, l1), (3, nb_rd M l0 17)]) (M2 := M) (t := 8) (cl := 126) (vi := false) rfl (by simp [h1]) (nb_inv_eq (n := 2) rfl rfl rfl rfl rfl rfl (fun h => by cases h) rfl)
theorem q_m_moves_8 (l0 l1 l2 s0 : Int) (M : nb_M) :
    nb_R nb_P 202 8 [(20, l0), (0, l1), (0, l2)] [(0, s0)] M = if s0 = 0 then nb_R nb_P 202 11 [(20, l0), (0, l1), (0, l2)] [] M else nb_R nb_P 202 9 [(20, l0), (0, l1), (0, l2)] [] M :=
  nb_step (c := true) rfl rfl
theorem q_m_moves_9 (l0 l1 l2 : Int) (M : nb_M) (h1 : l0 ≠ 0) :
    nb_R nb_P 202 9 [(20, l0), (0, l1), (0, l2)] [] M = (nb_R nb_P 125 0 [(3, nb_rd M l0 17), (0, l1), (0, 1)] [] M).bind fun r => nb_R nb_P 202 10 [(20, l0), (0, l1), (0, l2)] (r.1 ++ []) r.2 :=
  nb_stepC (c := (true && !decide ((l0 : Int) = 0))) (L2 := [(20, l0), (0, l1), (0, l2)]) (S2 := [(0, 1), (0, l1), (3, nb_rd M l0 17)]) (M2 := M) (t := 10) (cl := 125) (vi := false) rfl (by simp [h1]) (nb_inv_eq (n := 3) rfl rfl rfl rfl rfl rfl (fun h => by cases h) rfl)
theorem q_m_moves_10 (l0 l1 l2 s0 : Int) (M : nb_M) :
    nb_R nb_P 202 10 [(20, l0), (0, l1), (0, l2)] [(0, s0)] M = if s0 = l2 then nb_R nb_P 202 11 [(20, l0), (0, l1), (0, l2)] [] M else nb_R nb_P 202 13 [(20, l0), (0, l1), (0, l2)] [] M :=
  nb_step (c := true) rfl rfl
theorem q_m_moves_11 (l0 : Int) (v1 v2 : nb_V) (M : nb_M) (h1 : l0 ≠ 0) :
    nb_R nb_P 202 11 [(20, l0), v1, v2] [] M = (nb_R nb_P 82 0 [(20, l0), (0, 5)] [] M).bind fun r => nb_R nb_P 202 12 [(20, l0), v1, v2] (r.1 ++ []) r.2 :=
  nb_stepC (c := true) (L2 := [(20, l0), v1, v2]) (S2 := [(0, 5), (20, l0)]) (M2 := M) (t := 12) (cl := 82) (vi := true) rfl rfl (nb_inv_eq (n := 2) rfl rfl rfl rfl rfl rfl (fun _ => h1) rfl)
theorem q_m_moves_12 (s0 : Int) (v0 v1 v2 : nb_V) (M : nb_M) :
    nb_R nb_P 202 12 [v0, v1, v2] [(0, s0)] M = some ([(0, nb_i2z s0)], M) :=
  nb_step (c := true) rfl rfl
theorem q_m_moves_13 (l0 l1 l2 : Int) (M : nb_M) (h1 : l0 ≠ 0) :
    nb_R nb_P 202 13 [(20, l0), (0, l1), (0, l2)] [] M = (nb_R nb_P 200 0 [(20, l0), (98, 0)] [] M).bind fun r => nb_R nb_P 202 14 [(20, l0), (0, l1), (0, l2)] (r.1 ++ []) r.2 :=
  nb_stepC (c := true) (L2 := [(20, l0), (0, l1), (0, l2)]) (S2 := [(20, l0)]) (M2 := M) (t := 14) (cl := 200) (vi := true) rfl rfl (nb_inv_eq (n := 1) rfl rfl rfl rfl rfl rfl (fun _ => h1) rfl)
theorem q_m_moves_14 (l0 l1 l2 : Int) (M : nb_M) (h1 : l0 ≠ 0) (h2 : (nb_rd M l0 17) ≠ 0) (h3 : (nb_rd M l0 17) ≠ 1) (h4 : (0 : Int) ≤ nb_add (nb_add 12 (nb_mul 8 l1)) 1) (h5 : nb_add (nb_add 12 (nb_mul 8 l1)) 1 < nb_ln M (nb_rd M l0 17)) :
    nb_R nb_P 202 14 [(20, l0), (0, l1), (0, l2)] [] M = nb_R nb_P 202 15 [(20, l0), (0, l1), (0, l2)] [] (nb_wr M (nb_rd M l0 17) (nb_add (nb_add 12 (nb_mul 8 l1)) 1) l2) :=
  nb_step (c := ((true && !decide ((l0 : Int) = 0)) && (!decide ((nb_rd M l0 17 : Int) = 0) && (!decide ((nb_rd M l0 17 : Int) = 1) && (decide ((0 : Int) ≤ nb_add (nb_add 12 (nb_mul 8 l1)) 1) && decide (nb_add (nb_add 12 (nb_mul 8 l1)) 1 < nb_ln M (nb_rd M l0 17))))))) rfl (by simp [h1, h2, h3, h4, h5])
theorem q_m_moves_15 (v0 v1 v2 : nb_V) (M : nb_M) :
    nb_R nb_P 202 15 [v0, v1, v2] [] M = some ([(0, 1)], M) :=
  nb_step (c := true) rfl rfl
theorem q_m_calls_0 (l0 l1 : Int) (v2 : nb_V) (M : nb_M) (h1 : l0 ≠ 0) :
    nb_R nb_P 204 0 [(20, l0), (0, l1), v2] [] M = (nb_R nb_P 79 0 [(20, l0)] [] M).bind fun r => nb_R nb_P 204 1 [(20, l0), (0, l1), v2] (r.1 ++ []) r.2 :=
  nb_stepC (c := true) (L2 := [(20, l0), (0, l1), v2]) (S2 := [(20, l0)]) (M2 := M) (t := 1) (cl := 79) (vi := true) rfl rfl (nb_inv_eq (n := 1) rfl rfl rfl rfl rfl rfl (fun _ => h1) rfl)
theorem q_m_calls_1 (l0 l1 : Int) (v2 : nb_V) (M : nb_M) (h1 : l0 ≠ 0) :
    nb_R nb_P 204 1 [(20, l0), (0, l1), v2] [] M = (nb_R nb_P 116 0 [(20, l0), (0, l1)] [] M).bind fun r => nb_R nb_P 204 2 [(20, l0), (0, l1), v2] (r.1 ++ []) r.2 :=
  nb_stepC (c := true) (L2 := [(20, l0), (0, l1), v2]) (S2 := [(0, l1), (20, l0)]) (M2 := M) (t := 2) (cl := 116) (vi := true) rfl rfl (nb_inv_eq (n := 2) rfl rfl rfl rfl rfl rfl (fun _ => h1) rfl)
theorem q_m_calls_2 (l0 l1 s0 : Int) (v2 : nb_V) (M : nb_M) :
    nb_R nb_P 204 2 [(20, l0), (0, l1), v2] [(0, s0)] M = if s0 = 0 then nb_R nb_P 204 3 [(20, l0), (0, l1), v2] [] M else nb_R nb_P 204 5 [(20, l0), (0, l1), v2] [] M :=
  nb_step (c := true) rfl rfl
theorem q_m_calls_3 (l0 : Int) (v1 v2 : nb_V) (M : nb_M) (h1 : l0 ≠ 0) :
    nb_R nb_P 204 3 [(20, l0), v1, v2] [] M = (nb_R nb_P 80 0 [(20, l0), (0, 1)] [] M).bind fun r => nb_R nb_P 204 4 [(20, l0), v1, v2] (r.1 ++ []) r.2 :=
  nb_stepC (c := true) (L2 := [(20, l0), v1, v2]) (S2 := [(0, 1), (20, l0)]) (M2 := M) (t := 4) (cl := 80) (vi := true) rfl rfl (nb_inv_eq (n := 2) rfl rfl rfl rfl rfl rfl (fun _ => h1) rfl)
theorem q_m_calls_4 (s0 : Int) (v0 v1 v2 : nb_V) (M : nb_M) :
    nb_R nb_P 204 4 [v0, v1, v2] [(0, s0)] M = some ([(0, s0)], M) :=
  nb_step (c := true) rfl rfl
theorem q_m_calls_5 (l0 l1 : Int) (v2 : nb_V) (M : nb_M) (h1 : l0 ≠ 0) :
    nb_R nb_P 204 5 [(20, l0), (0, l1), v2] [] M = (nb_R nb_P 126 0 [(3, nb_rd M l0 17), (0, l1)] [] M).bind fun r => nb_R nb_P 204 6 [(20, l0), (0, l1), v2] (r.1 ++ []) r.2 :=
  nb_stepC (c := (true && !decide ((l0 : Int) = 0))) (L2 := [(20, l0), (0, l1), v2]) (S2 := [(0, l1), (3, nb_rd M l0 17)]) (M2 := M) (t := 6) (cl := 126) (vi := false) rfl (by simp [h1]) (nb_inv_eq (n := 2) rfl rfl rfl rfl rfl rfl (fun h => by cases h) rfl)
theorem q_m_calls_6 (l0 l1 s0 : Int) (v2 : nb_V) (M : nb_M) :
    nb_R nb_P 204 6 [(20, l0), (0, l1), v2] [(0, s0)] M = if s0 = 0 then nb_R nb_P 204 7 [(20, l0), (0, l1), v2] [] M else nb_R nb_P 204 9 [(20, l0), (0, l1), v2] [] M :=
  nb_step (c := true) rfl rfl
theorem q_m_calls_7 (l0 : Int) (v1 v2 : nb_V) (M : nb_M) (h1 : l0 ≠ 0) :
    nb_R nb_P 204 7 [(20, l0), v1, v2] [] M = (nb_R nb_P 80 0 [(20, l0), (0, 5)] [] M).bind fun r => nb_R nb_P 204 8 [(20, l0), v1, v2] (r.1 ++ []) r.2 :=
  nb_stepC (c := true) (L2 := [(20, l0), v1, v2]) (S2 := [(0, 5), (20, l0)]) (M2 := M) (t := 8) (cl := 80) (vi := true) rfl rfl (nb_inv_eq (n := 2) rfl rfl rfl rfl rfl rfl (fun _ => h1) rfl)
theorem q_m_calls_8 (s0 : Int) (v0 v1 v2 : nb_V) (M : nb_M) :
    nb_R nb_P 204 8 [v0, v1, v2] [(0, s0)] M = some ([(0, s0)], M) :=
  nb_step (c := true) rfl rfl
theorem q_m_calls_9 (l0 l1 : Int) (v2 : nb_V) (M : nb_M) (h1 : l0 ≠ 0) :
    nb_R nb_P 204 9 [(20, l0), (0, l1), v2] [] M = (nb_R nb_P 200 0 [(20, l0), (98, 0)] [] M).bind fun r => nb_R nb_P 204 10 [(20, l0), (0, l1), v2] (r.1 ++ []) r.2 :=
  nb_stepC (c := true) (L2 := [(20, l0), (0, l1), v2]) (S2 := [(20, l0)]) (M2 := M) (t := 10) (cl := 200) (vi := true) rfl rfl (nb_inv_eq (n := 1) rfl rfl rfl rfl rfl rfl (fun _ => h1) rfl)
theorem q_m_calls_10 (l0 l1 : Int) (v2 : nb_V) (M : nb_M) (h1 : l0 ≠ 0) (h2 : (nb_rd M l0 17) ≠ 0) (h3 : (0 : Int) ≤ nb_add (nb_add 12 (nb_mul 8 l1)) 2) (h4 : nb_add (nb_add 12 (nb_mul 8 l1)) 2 < nb_ln M (nb_rd M l0 17)) :
    nb_R nb_P 204 10 [(20, l0), (0, l1), v2] [] M = if 99 < nb_add (nb_rd M (nb_rd M l0 17) (nb_add (nb_add 12 (nb_mul 8 l1)) 2)) 5 then nb_R nb_P 204 11 [(20, l0), (0, l1), (0, nb_add (nb_add 12 (nb_mul 8 l1)) 2)] [(0, nb_add (nb_add 12 (nb_mul 8 l1)) 2), (3, nb_rd M l0 17)] M else nb_R nb_P 204 12 [(20, l0), (0, l1), (0, nb_add (nb_add 12 (nb_mul 8 l1)) 2)] [(0, nb_add (nb_add 12 (nb_mul 8 l1)) 2), (3, nb_rd M l0 17)] M :=
  nb_step (c := (((true && !decide ((l0 : Int) = 0)) && !decide ((l0 : Int) = 0)) && (!decide ((nb_rd M l0 17 : Int) = 0) && (decide ((0 : Int) ≤ nb_add (nb_add 12 (nb_mul 8 l1)) 2) && decide (nb_add (nb_add 12 (nb_mul 8 l1)) 2 < nb_ln M (nb_rd M l0 17)))))) rfl (by simp [h1, h2, h3, h4])
theorem q_m_calls_11 (l0 l2 s0 s1 : Int) (v1 : nb_V) (M : nb_M) :
    nb_R nb_P 204 11 [(20, l0), v1, (0, l2)] [(0, s0), (3, s1)] M = nb_R nb_P 204 13 [(20, l0), v1, (0, l2)] [(0, 99), (0, s0), (3, s1)] M :=
  nb_step (c := true) rfl rfl
theorem q_m_calls_12 (l0 l2 s0 s1 : Int) (v1 : nb_V) (M : nb_M) (h1 : l0 ≠ 0) (h2 : (nb_rd M l0 17) ≠ 0) (h3 : (0 : Int) ≤ l2) (h4 : l2 < nb_ln M (nb_rd M l0 17)) :
    nb_R nb_P 204 12 [(20, l0), v1, (0, l2)] [(0, s0), (3, s1)] M = nb_R nb_P 204 13 [(20, l0), v1, (0, l2)] [(0, nb_add (nb_rd M (nb_rd M l0 17) l2) 5), (0, s0), (3, s1)] M :=
  nb_step (c := ((true && !decide ((l0 : Int) = 0)) && (!decide ((nb_rd M l0 17 : Int) = 0) && (decide ((0 : Int) ≤ l2) && decide (l2 < nb_ln M (nb_rd M l0 17)))))) rfl (by simp [h1, h2, h3, h4])
theorem q_m_calls_13 (l0 l2 s0 s1 s2 : Int) (v1 : nb_V) (M : nb_M) (h1 : s2 ≠ 0) (h2 : s2 ≠ 1) (h3 : (0 : Int) ≤ s1) (h4 : s1 < nb_ln M s2) :
    nb_R nb_P 204 13 [(20, l0), v1, (0, l2)] [(0, s0), (0, s1), (3, s2)] M = nb_R nb_P 204 14 [(20, l0), v1, (0, l2)] [] (nb_wr M s2 s1 s0) :=
  nb_step (c := (true && (!decide ((s2 : Int) = 0) && (!decide ((s2 : Int) = 1) && (decide ((0 : Int) ≤ s1) && decide (s1 < nb_ln M s2)))))) rfl (by simp [h1, h2, h3, h4])
theorem q_m_calls_14 (l0 l2 : Int) (v1 : nb_V) (M : nb_M) (h1 : l0 ≠ 0) (h2 : (nb_rd M l0 17) ≠ 0) (h3 : (0 : Int) ≤ l2) (h4 : l2 < nb_ln M (nb_rd M l0 17)) :
    nb_R nb_P 204 14 [(20, l0), v1, (0, l2)] [] M = some ([(0, nb_rd M (nb_rd M l0 17) l2)], M) :=
  nb_step (c := ((true && !decide ((l0 : Int) = 0)) && (!decide ((nb_rd M l0 17 : Int) = 0) && (decide ((0 : Int) ≤ l2) && decide (l2 < nb_ln M (nb_rd M l0 17)))))) rfl (by simp [h1, h2, h3, h4])
theorem q_m_undo_0 (l0 : Int) (M : nb_M) (h1 : l0 ≠ 0) :
    nb_R nb_P 206 0 [(20, l0)] [] M = (nb_R nb_P 79 0 [(20, l0)] [] M).bind fun r => nb_R nb_P 206 1 [(20, l0)] (r.1 ++ []) r.2 :=
  nb_stepC (c := true) (L2 := [(20, l0)]) (S2 := [(20, l0)]) (M2 := M) (t := 1) (cl := 79) (vi := true) rfl rfl (nb_inv_eq (n := 1) rfl rfl rfl rfl rfl rfl (fun _ => h1) rfl)
theorem q_m_undo_1 (l0 : Int) (M : nb_M) (h1 : l0 ≠ 0) :
    nb_R nb_P 206 1 [(20, l0)] [] M = if nb_rd M l0 21 = 0 then nb_R nb_P 206 2 [(20, l0)] [] M else nb_R nb_P 206 4 [(20, l0)] [] M :=
  nb_step (c := (true && !decide ((l0 : Int) = 0))) rfl (by simp [h1])
theorem q_m_undo_2 (l0 : Int) (M : nb_M) (h1 : l0 ≠ 0) :
    nb_R nb_P 206 2 [(20, l0)] [] M = (nb_R nb_P 82 0 [(20, l0), (0, 6)] [] M).bind fun r => nb_R nb_P 206 3 [(20, l0)] (r.1 ++ []) r.2 :=
  nb_stepC (c := true) (L2 := [(20, l0)]) (S2 := [(0, 6), (20, l0)]) (M2 := M) (t := 3) (cl := 82) (vi := true) rfl rfl (nb_inv_eq (n := 2) rfl rfl rfl rfl rfl rfl (fun _ => h1) rfl)
theorem q_m_undo_3 (s0 : Int) (v0 : nb_V) (M : nb_M) :
    nb_R nb_P 206 3 [v0] [(0, s0)] M = some ([(0, nb_i2z s0)], M) :=
  nb_step (c := true) rfl rfl
theorem q_m_undo_4 (l0 : Int) (M : nb_M) (h1 : l0 ≠ 0) :
    nb_R nb_P 206 4 [(20, l0)] [] M = nb_R nb_P 206 5 [(20, l0)] [] (nb_wr M l0 21 (nb_sub (nb_rd M l0 21) 1)) :=
  nb_step (c := ((true && !decide ((l0 : Int) = 0)) && (!decide ((l0 : Int) = 0) && (!false || (decide ((nb_sub (nb_rd M l0 21) 1 : Int) = 0) || decide ((nb_sub (nb_rd M l0 21) 1 : Int) = 1)))))) rfl (by simp [h1])
theorem q_m_undo_5 (l0 : Int) (M : nb_M) (h1 : l0 ≠ 0) :
    nb_R nb_P 206 5 [(20, l0)] [] M = (nb_R nb_P 86 0 [(3, nb_rd M l0 19), (0, nb_mul 108 (nb_rd M l0 21)), (3, nb_rd M l0 17), (0, 0), (0, 108), (98, 0)] [] M).bind fun r => nb_R nb_P 206 6 [(20, l0)] (r.1 ++ []) r.2 :=
  nb_stepC (c := (((true && !decide ((l0 : Int) = 0)) && !decide ((l0 : Int) = 0)) && !decide ((l0 : Int) = 0))) (L2 := [(20, l0)]) (S2 := [(0, 108), (0, 0), (3, nb_rd M l0 17), (0, nb_mul 108 (nb_rd M l0 21)), (3, nb_rd M l0 19)]) (M2 := M) (t := 6) (cl := 86) (vi := false) rfl (by simp [h1]) (nb_inv_eq (n := 5) rfl rfl rfl rfl rfl rfl (fun h => by cases h) rfl)
theorem q_m_undo_6 (v0 : nb_V) (M : nb_M) :
    nb_R nb_P 206 6 [v0] [] M = some ([(0, 1)], M) :=
  nb_step (c := true) rfl rfl
theorem q_m_back_0 (l0 l1 : Int) (M : nb_M) (h1 : l0 ≠ 0) :
    nb_R nb_P 208 0 [(20, l0), (0, l1)] [] M = (nb_R nb_P 79 0 [(20, l0)] [] M).bind fun r => nb_R nb_P 208 1 [(20, l0), (0, l1)] (r.1 ++ []) r.2 :=
  nb_stepC (c := true) (L2 := [(20, l0), (0, l1)]) (S2 := [(20, l0)]) (M2 := M) (t := 1) (cl := 79) (vi := true) rfl rfl (nb_inv_eq (n := 1) rfl rfl rfl rfl rfl rfl (fun _ => h1) rfl)
theorem q_m_back_1 (l0 l1 : Int) (M : nb_M) (h1 : l0 ≠ 0) :
    nb_R nb_P 208 1 [(20, l0), (0, l1)] [] M = (nb_R nb_P 83 0 [(0, l1), (0, 0), (0, nb_sub (nb_rd M l0 22) 1)] [] M).bind fun r => nb_R nb_P 208 2 [(20, l0), (0, l1)] (r.1 ++ []) r.2 :=
  nb_stepC (c := (true && !decide ((l0 : Int) = 0))) (L2 := [(20, l0), (0, l1)]) (S2 := [(0, nb_sub (nb_rd M l0 22) 1), (0, 0), (0, l1)]) (M2 := M) (t := 2) (cl := 83) (vi := false) rfl (by simp [h1]) (nb_inv_eq (n := 3) rfl rfl rfl rfl rfl rfl (fun h => by cases h) rfl)
theorem q_m_back_2 (l0 l1 s0 : Int) (M : nb_M) :
    nb_R nb_P 208 2 [(20, l0), (0, l1)] [(0, s0)] M = if s0 = 0 then nb_R nb_P 208 3 [(20, l0), (0, l1)] [] M else nb_R nb_P 208 5 [(20, l0), (0, l1)] [] M :=
  nb_step (c := true) rfl rfl
theorem q_m_back_3 (l0 : Int) (v1 : nb_V) (M : nb_M) (h1 : l0 ≠ 0) :
    nb_R nb_P 208 3 [(20, l0), v1] [] M = (nb_R nb_P 82 0 [(20, l0), (0, 1)] [] M).bind fun r => nb_R nb_P 208 4 [(20, l0), v1] (r.1 ++ []) r.2 :=
  nb_stepC (c := true) (L2 := [(20, l0), v1]) (S2 := [(0, 1), (20, l0)]) (M2 := M) (t := 4) (cl := 82) (vi := true) rfl rfl (nb_inv_eq (n := 2) rfl rfl rfl rfl rfl rfl (fun _ => h1) rfl)
theorem q_m_back_4 (s0 : Int) (v0 v1 : nb_V) (M : nb_M) :
    nb_R nb_P 208 4 [v0, v1] [(0, s0)] M = some ([(0, nb_i2z s0)], M) :=
  nb_step (c := true) rfl rfl
theorem q_m_back_5 (l0 l1 : Int) (M : nb_M) (h1 : l0 ≠ 0) :
    nb_R nb_P 208 5 [(20, l0), (0, l1)] [] M = (nb_R nb_P 86 0 [(3, nb_rd M l0 20), (0, nb_mul 108 l1), (3, nb_rd M l0 17), (0, 0), (0, 108), (98, 0)] [] M).bind fun r => nb_R nb_P 208 6 [(20, l0), (0, l1)] (r.1 ++ []) r.2 :=
  nb_stepC (c := ((true && !decide ((l0 : Int) = 0)) && !decide ((l0 : Int) = 0))) (L2 := [(20, l0), (0, l1)]) (S2 := [(0, 108), (0, 0), (3, nb_rd M l0 17), (0, nb_mul 108 l1), (3, nb_rd M l0 20)]) (M2 := M) (t := 6) (cl := 86) (vi := false) rfl (by simp [h1]) (nb_inv_eq (n := 5) rfl rfl rfl rfl rfl rfl (fun h => by cases h) rfl)
theorem q_m_back_6 (l0 : Int) (v1 : nb_V) (M : nb_M) (h1 : l0 ≠ 0) :
    nb_R nb_P 208 6 [(20, l0), v1] [] M = nb_R nb_P 208 7 [(20, l0), v1] [] (nb_wr M l0 21 0) :=
  nb_step (c := (true && (!decide ((l0 : Int) = 0) && (!false || (decide ((0 : Int) = 0) || decide ((0 : Int) = 1)))))) rfl (by simp [h1])
theorem q_m_back_7 (v0 v1 : nb_V) (M : nb_M) :
    nb_R nb_P 208 7 [v0, v1] [] M = some ([(0, 1)], M) :=
  nb_step (c := true) rfl rfl
theorem q_m_wants_0 (l0 l1 l2 : Int) (M : nb_M) (h1 : l0 ≠ 0) :
    nb_R nb_P 210 0 [(20, l0), (0, l1), (0, l2)] [] M = (nb_R nb_P 79 0 [(20, l0)] [] M).bind fun r => nb_R nb_P 210 1 [(20, l0), (0, l1), (0, l2)] (r.1 ++ []) r.2 :=
  nb_stepC (c := true) (L2 := [(20, l0), (0, l1), (0, l2)]) (S2 := [(20, l0)]) (M2 := M) (t := 1) (cl := 79) (vi := true) rfl rfl (nb_inv_eq (n := 1) rfl rfl rfl rfl rfl rfl (fun _ => h1) rfl)
theorem q_m_wants_1 (l0 l1 l2 : Int) (M : nb_M) (h1 : l0 ≠ 0) :
    nb_R nb_P 210 1 [(20, l0), (0, l1), (0, l2)] [] M = (nb_R nb_P 116 0 [(20, l0), (0, l1)] [] M).bind fun r => nb_R nb_P 210 2 [(20, l0), (0, l1), (0, l2)] (r.1 ++ []) r.2 :=
  nb_stepC (c := true) (L2 := [(20, l0), (0, l1), (0, l2)]) (S2 := [(0, l1), (20, l0)]) (M2 := M) (t := 2) (cl := 116) (vi := true) rfl rfl (nb_inv_eq (n := 2) rfl rfl rfl rfl rfl rfl (fun _ => h1) rfl)
theorem q_m_wants_2 (l0 l1 l2 s0 : Int) (M : nb_M) :
    nb_R nb_P 210 2 [(20, l0), (0, l1), (0, l2)] [(0, s0)] M = if s0 = 0 then nb_R nb_P 210 7 [(20, l0), (0, l1), (0, l2)] [] M else nb_R nb_P 210 3 [(20, l0), (0, l1), (0, l2)] [] M :=
  nb_step (c := true) rfl rfl
theorem q_m_wants_3 (l0 l1 l2 : Int) (M : nb_M) (h1 : l0 ≠ 0) :
    nb_R nb_P 210 3 [(20, l0), (0, l1), (0, l2)] [] M = (nb_R nb_P 119 0 [(20, l0), (0, l2)] [] M).bind fun r => nb_R nb_P 210 4 [(20, l0), (0, l1), (0, l2)] (r.1 ++ []) r.2 :=
  nb_stepC (c := true) (L2 := [(20, l0), (0, l1), (0, l2)]) (S2 := [(0, l2), (20, l0)]) (M2 := M) (t := 4) (cl := 119) (vi := true) rfl rfl (nb_inv_eq (n := 2) rfl rfl rfl rfl rfl rfl (fun _ => h1) rfl)
theorem q_m_wants_4 (l0 l1 l2 s0 : Int) (M : nb_M) :
    nb_R nb_P 210 4 [(20, l0), (0, l1), (0, l2)] [(0, s0)] M = if s0 = 0 then nb_R nb_P 210 7 [(20, l0), (0, l1), (0, l2)] [] M else nb_R nb_P 210 5 [(20, l0), (0, l1), (0, l2)] [] M :=
  nb_step (c := true) rfl rfl
theorem q_m_wants_5 (l0 l1 l2 : Int) (M : nb_M) (h1 : l0 ≠ 0) :
    nb_R nb_P 210 5 [(20, l0), (0, l1), (0, l2)] [] M = (nb_R nb_P 120 0 [(20, l0), (0, l1), (0, l2)] [] M).bind fun r => nb_R nb_P 210 6 [(20, l0), (0, l1), (0, l2)] (r.1 ++ []) r.2 :=
  nb_stepC (c := true) (L2 := [(20, l0), (0, l1), (0, l2)]) (S2 := [(0, l2), (0, l1), (20, l0)]) (M2 := M) (t := 6) (cl := 120) (vi := true) rfl rfl (nb_inv_eq (n := 3) rfl rfl rfl rfl rfl rfl (fun _ => h1) rfl)
theorem q_m_wants_6 (s0 : Int) (v0 v1 v2 : nb_V) (M : nb_M) :
    nb_R nb_P 210 6 [v0, v1, v2] [(0, s0)] M = nb_R nb_P 210 8 [v0, v1, v2] [(0, s0)] M :=
  nb_step (c := true) rfl rfl
theorem q_m_wants_7 (l0 : Int) (v1 v2 : nb_V) (M : nb_M) (h1 : l0 ≠ 0) :
    nb_R nb_P 210 7 [(20, l0), v1, v2] [] M = (nb_R nb_P 80 0 [(20, l0), (0, 1)] [] M).bind fun r => nb_R nb_P 210 8 [(20, l0), v1, v2] (r.1 ++ []) r.2 :=
  nb_stepC (c := true) (L2 := [(20, l0), v1, v2]) (S2 := [(0, 1), (20, l0)]) (M2 := M) (t := 8) (cl := 80) (vi := true) rfl rfl (nb_inv_eq (n := 2) rfl rfl rfl rfl rfl rfl (fun _ => h1) rfl)
theorem q_m_wants_8 (s0 : Int) (v0 v1 v2 : nb_V) (M : nb_M) :
    nb_R nb_P 210 8 [v0, v1, v2] [(0, s0)] M = some ([(0, s0)], M) :=
  nb_step (c := true) rfl rfl
theorem q_m_size_0 (l0 l1 : Int) (M : nb_M) (h1 : l0 ≠ 0) :
    nb_R nb_P 212 0 [(20, l0), (0, l1)] [] M = nb_R nb_P 212 1 [(20, l0), (0, l1)] [] (nb_wr M l0 0 0) :=
  nb_step (c := (true && (!decide ((l0 : Int) = 0) && (!false || (decide ((0 : Int) = 0) || decide ((0 : Int) = 1)))))) rfl (by simp [h1])
theorem q_m_size_1 (l0 l1 : Int) (M : nb_M) :
    nb_R nb_P 212 1 [(20, l0), (0, l1)] [] M = if l1 = 10 then nb_R nb_P 212 2 [(20, l0), (0, l1)] [] M else nb_R nb_P 212 3 [(20, l0), (0, l1)] [] M :=
  nb_step (c := true) rfl rfl
theorem q_m_size_2 (l0 : Int) (v1 : nb_V) (M : nb_M) (h1 : l0 ≠ 0) :
    nb_R nb_P 212 2 [(20, l0), v1] [] M = some ([(0, nb_rd M l0 2)], M) :=
  nb_step (c := (true && !decide ((l0 : Int) = 0))) rfl (by simp [h1])
theorem q_m_size_3 (l0 l1 : Int) (M : nb_M) (h1 : l0 ≠ 0) :
    nb_R nb_P 212 3 [(20, l0), (0, l1)] [] M = if nb_rd M l0 14 = 0 then nb_R nb_P 212 4 [(20, l0), (0, l1)] [] M else nb_R nb_P 212 9 [(20, l0), (0, l1)] [] M :=
  nb_step (c := (true && !decide ((l0 : Int) = 0))) rfl (by simp [h1])
theorem q_m_size_4 (l1 : Int) (v0 : nb_V) (M : nb_M) :
    nb_R nb_P 212 4 [v0, (0, l1)] [] M = (nb_R nb_P 83 0 [(0, l1), (0, 0), (0, 9)] [] M).bind fun r => nb_R nb_P 212 5 [v0, (0, l1)] (r.1 ++ []) r.2 :=
  nb_stepC (c := true) (L2 := [v0, (0, l1)]) (S2 := [(0, 9), (0, 0), (0, l1)]) (M2 := M) (t := 5) (cl := 83) (vi := false) rfl rfl (nb_inv_eq (n := 3) rfl rfl rfl rfl rfl rfl (fun h => by cases h) rfl)
theorem q_m_size_5 (s0 : Int) (v0 v1 : nb_V) (M : nb_M) :
    nb_R nb_P 212 5 [v0, v1] [(0, s0)] M = if s0 = 0 then nb_R nb_P 212 7 [v0, v1] [] M else nb_R nb_P 212 6 [v0, v1] [] M :=
  nb_step (c := true) rfl rfl
theorem q_m_size_6 (v0 v1 : nb_V) (M : nb_M) :
    nb_R nb_P 212 6 [v0, v1] [] M = nb_R nb_P 212 8 [v0, v1] [(0, 0)] M :=
  nb_step (c := true) rfl rfl
theorem q_m_size_7 (v0 v1 : nb_V) (M : nb_M) :
    nb_R nb_P 212 7 [v0, v1] [] M = nb_R nb_P 212 8 [v0, v1] [(0, (-1))] M :=
  nb_step (c := true) rfl rfl
theorem q_m_size_8 (s0 : Int) (v0 v1 : nb_V) (M : nb_M) :
    nb_R nb_P 212 8 [v0, v1] [(0, s0)] M = some ([(0, s0)], M) :=
  nb_step (c := true) rfl rfl
set_option maxRecDepth 10000 in
theorem q_m_size_9 (l0 l1 : Int) (M : nb_M) :
    nb_R nb_P 212 9 [(20, l0), (0, l1)] [] M = if l1 = 0 then nb_R nb_P 212 10 [(20, l0), (0, l1)] [] M else if l1 = 1 then nb_R nb_P 212 11 [(20, l0), (0, l1)] [] M else if l1 = 2 then nb_R nb_P 212 12 [(20, l0), (0, l1)] [] M else if l1 = 3 then nb_R nb_P 212 13 [(20, l0), (0, l1)] [] M else if l1 = 4 then nb_R nb_P 212 14 [(20, l0), (0, l1)] [] M else if l1 = 5 then nb_R nb_P 212 15 [(20, l0), (0, l1)] [] M else if l1 = 6 then nb_R nb_P 212 16 [(20, l0), (0, l1)] [] M else if l1 = 7 then nb_R nb_P 212 17 [(20, l0), (0, l1)] [] M else if l1 = 8 then nb_R nb_P 212 18 [(20, l0), (0, l1)] [] M else if l1 = 9 then nb_R nb_P 212 19 [(20, l0), (0, l1)] [] M else nb_R nb_P 212 20 [(20, l0), (0, l1)] [] M :=
  nb_step (c := true) rfl rfl
theorem q_m_size_10 (l0 : Int) (v1 : nb_V) (M : nb_M) (h1 : l0 ≠ 0) (h2 : (nb_rd M l0 15) ≠ 0) (h3 : (0 : Int) ≤ 1) (h4 : 1 < nb_ln M (nb_rd M l0 15)) :
    nb_R nb_P 212 10 [(20, l0), v1] [] M = some ([(0, nb_rd M (nb_rd M l0 15) 1)], M) :=
  nb_step (c := ((true && !decide ((l0 : Int) = 0)) && (!decide ((nb_rd M l0 15 : Int) = 0) && (decide ((0 : Int) ≤ 1) && decide (1 < nb_ln M (nb_rd M l0 15)))))) rfl (by simp [h1, h2, h3, h4])
theorem q_m_size_11 (l0 : Int) (v1 : nb_V) (M : nb_M) (h1 : l0 ≠ 0) (h2 : (nb_rd M l0 15) ≠ 0) (h3 : (0 : Int) ≤ 2) (h4 : 2 < nb_ln M (nb_rd M l0 15)) :
    nb_R nb_P 212 11 [(20, l0), v1] [] M = some ([(0, nb_rd M (nb_rd M l0 15) 2)], M) :=
  nb_step (c := ((true && !decide ((l0 : Int) = 0)) && (!decide ((nb_rd M l0 15 : Int) = 0) && (decide ((0 : Int) ≤ 2) && decide (2 < nb_ln M (nb_rd M l0 15)))))) rfl (by simp [h1, h2, h3, h4])
theorem q_m_size_12 (l0 : Int) (v1 : nb_V) (M : nb_M) (h1 : l0 ≠ 0) (h2 : (nb_rd M l0 15) ≠ 0) (h3 : (0 : Int) ≤ 3) (h4 : 3 < nb_ln M (nb_rd M l0 15)) :
    nb_R nb_P 212 12 [(20, l0), v1] [] M = some ([(0, nb_rd M (nb_rd M l0 15) 3)], M) :=
  nb_step (c := ((true && !decide ((l0 : Int) = 0)) && (!decide ((nb_rd M l0 15 : Int) = 0) && (decide ((0 : Int) ≤ 3) && decide (3 < nb_ln M (nb_rd M l0 15)))))) rfl (by simp [h1, h2, h3, h4])
theorem q_m_size_13 (l0 : Int) (v1 : nb_V) (M : nb_M) (h1 : l0 ≠ 0) (h2 : (nb_rd M l0 15) ≠ 0) (h3 : (0 : Int) ≤ 4) (h4 : 4 < nb_ln M (nb_rd M l0 15)) :
    nb_R nb_P 212 13 [(20, l0), v1] [] M = some ([(0, nb_rd M (nb_rd M l0 15) 4)], M) :=
  nb_step (c := ((true && !decide ((l0 : Int) = 0)) && (!decide ((nb_rd M l0 15 : Int) = 0) && (decide ((0 : Int) ≤ 4) && decide (4 < nb_ln M (nb_rd M l0 15)))))) rfl (by simp [h1, h2, h3, h4])
theorem q_m_size_14 (l0 : Int) (v1 : nb_V) (M : nb_M) (h1 : l0 ≠ 0) (h2 : (nb_rd M l0 15) ≠ 0) (h3 : (0 : Int) ≤ 5) (h4 : 5 < nb_ln M (nb_rd M l0 15)) :
    nb_R nb_P 212 14 [(20, l0), v1] [] M = some ([(0, nb_rd M (nb_rd M l0 15) 5)], M) :=
  nb_step (c := ((true && !decide ((l0 : Int) = 0)) && (!decide ((nb_rd M l0 15 : Int) = 0) && (decide ((0 : Int) ≤ 5) && decide (5 < nb_ln M (nb_rd M l0 15)))))) rfl (by simp [h1, h2, h3, h4])
theorem q_m_size_15 (l0 : Int) (v1 : nb_V) (M : nb_M) (h1 : l0 ≠ 0) (h2 : (nb_rd M l0 15) ≠ 0) (h3 : (0 : Int) ≤ 6) (h4 : 6 < nb_ln M (nb_rd M l0 15)) :
    nb_R nb_P 212 15 [(20, l0), v1] [] M = some ([(0, nb_rd M (nb_rd M l0 15) 6)], M) :=
  nb_step (c := ((true && !decide ((l0 : Int) = 0)) && (!decide ((nb_rd M l0 15 : Int) = 0) && (decide ((0 : Int) ≤ 6) && decide (6 < nb_ln M (nb_rd M l0 15)))))) rfl (by simp [h1, h2, h3, h4])
theorem q_m_size_16 (l0 : Int) (v1 : nb_V) (M : nb_M) (h1 : l0 ≠ 0) (h2 : (nb_rd M l0 15) ≠ 0) (h3 : (0 : Int) ≤ 7) (h4 : 7 < nb_ln M (nb_rd M l0 15)) :
    nb_R nb_P 212 16 [(20, l0), v1] [] M = some ([(0, nb_rd M (nb_rd M l0 15) 7)], M) :=
  nb_step (c := ((true && !decide ((l0 : Int) = 0)) && (!decide ((nb_rd M l0 15 : Int) = 0) && (decide ((0 : Int) ≤ 7) && decide (7 < nb_ln M (nb_rd M l0 15)))))) rfl (by simp [h1, h2, h3, h4])
theorem q_m_size_17 (l0 : Int) (v1 : nb_V) (M : nb_M) (h1 : l0 ≠ 0) (h2 : (nb_rd M l0 17) ≠ 0) (h3 : (0 : Int) ≤ 0) (h4 : 0 < nb_ln M (nb_rd M l0 17)) :
    nb_R nb_P 212 17 [(20, l0), v1] [] M = some ([(0, nb_rd M (nb_rd M l0 17) 0)], M) :=
  nb_step (c := ((true && !decide ((l0 : Int) = 0)) && (!decide ((nb_rd M l0 17 : Int) = 0) && (decide ((0 : Int) ≤ 0) && decide (0 < nb_ln M (nb_rd M l0 17)))))) rfl (by simp [h1, h2, h3, h4])
theorem q_m_size_18 (l0 : Int) (v1 : nb_V) (M : nb_M) (h1 : l0 ≠ 0) :
    nb_R nb_P 212 18 [(20, l0), v1] [] M = some ([(0, nb_rd M l0 21)], M) :=
  nb_step (c := (true && !decide ((l0 : Int) = 0))) rfl (by simp [h1])
theorem q_m_size_19 (l0 : Int) (v1 : nb_V) (M : nb_M) (h1 : l0 ≠ 0) :
    nb_R nb_P 212 19 [(20, l0), v1] [] M = some ([(0, nb_rd M l0 22)], M) :=
  nb_step (c := (true && !decide ((l0 : Int) = 0))) rfl (by simp [h1])
theorem q_m_size_20 (v0 v1 : nb_V) (M : nb_M) :
    nb_R nb_P 212 20 [v0, v1] [] M = some ([(0, (-1))], M) :=
  nb_step (c := true) rfl rfl
