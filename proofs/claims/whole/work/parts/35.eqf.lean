/-! block equations, printed by wip/gen/emit.py -/
theorem q_law_law_0 (l0 : Int) (v1 v2 v3 v4 v5 v6 : nb_V) (M : nb_M) (h1 : M.2.2.1 = 0) :
    nb_R nb_P 293 0 [(3, l0), v1, v2, v3, v4, v5, v6] [] M = nb_R nb_P 293 1 [(3, l0), v1, v2, v3, v4, v5, v6] [(19, nb_nx M)] (nb_al M 16 18) :=
  nb_step (c := (true && decide (M.2.2.1 = 0))) rfl (by simp [h1])
theorem q_law_law_1 (l0 s0 : Int) (v1 v2 v3 v4 v5 v6 : nb_V) (M : nb_M) (h1 : s0 ≠ 0) :
    nb_R nb_P 293 1 [(3, l0), v1, v2, v3, v4, v5, v6] [(19, s0)] M = (nb_R nb_P 1 0 [(19, s0), (98, 0)] [] M).bind fun r => nb_R nb_P 293 2 [(3, l0), v1, v2, v3, v4, v5, v6] (r.1 ++ [(19, s0)]) r.2 :=
  nb_stepC (c := true) (L2 := [(3, l0), v1, v2, v3, v4, v5, v6]) (S2 := [(19, s0), (19, s0)]) (M2 := M) (t := 2) (cl := 1) (vi := true) rfl rfl (nb_inv_eq (n := 1) rfl rfl rfl rfl rfl rfl (fun _ => h1) rfl)
theorem q_law_law_2 (l0 s0 : Int) (v1 v2 v3 v4 v5 v6 : nb_V) (M : nb_M) (h1 : M.2.2.1 = 0) :
    nb_R nb_P 293 2 [(3, l0), v1, v2, v3, v4, v5, v6] [(19, s0)] M = nb_R nb_P 293 3 [(3, l0), (19, s0), v2, v3, v4, v5, v6] [(20, nb_nx M)] (nb_al M 17 35) :=
  nb_step (c := (true && decide (M.2.2.1 = 0))) rfl (by simp [h1])
theorem q_law_law_3 (l0 l1 s0 : Int) (v2 v3 v4 v5 v6 : nb_V) (M : nb_M) (h1 : s0 ≠ 0) :
    nb_R nb_P 293 3 [(3, l0), (19, l1), v2, v3, v4, v5, v6] [(20, s0)] M = (nb_R nb_P 77 0 [(20, s0)] [] M).bind fun r => nb_R nb_P 293 4 [(3, l0), (19, l1), v2, v3, v4, v5, v6] (r.1 ++ [(20, s0)]) r.2 :=
  nb_stepC (c := true) (L2 := [(3, l0), (19, l1), v2, v3, v4, v5, v6]) (S2 := [(20, s0), (20, s0)]) (M2 := M) (t := 4) (cl := 77) (vi := true) rfl rfl (nb_inv_eq (n := 1) rfl rfl rfl rfl rfl rfl (fun _ => h1) rfl)
theorem q_law_law_4 (l0 l1 s0 : Int) (v2 v3 v4 v5 v6 : nb_V) (M : nb_M) (h1 : M.2.2.1 = 0) :
    nb_R nb_P 293 4 [(3, l0), (19, l1), v2, v3, v4, v5, v6] [(20, s0)] M = nb_R nb_P 293 5 [(3, l0), (19, l1), (20, s0), v3, v4, v5, v6] [(5, nb_nx M)] (nb_al M 2 1) :=
  nb_step (c := (true && (decide (M.2.2.1 = 0) && (decide ((0 : Int) ≤ 1) && decide ((1 : Int) ≤ 100000))))) rfl (by simp [h1])
theorem q_law_law_5 (l0 l1 l2 s0 : Int) (v3 v4 v5 v6 : nb_V) (M : nb_M) :
    nb_R nb_P 293 5 [(3, l0), (19, l1), (20, l2), v3, v4, v5, v6] [(5, s0)] M = nb_R nb_P 293 6 [(3, l0), (19, l1), (20, l2), (5, s0), (0, 0), v5, v6] [] M :=
  nb_step (c := true) rfl rfl
theorem q_law_law_6 (l0 l1 l2 l3 l4 : Int) (v5 v6 : nb_V) (M : nb_M) (h1 : l0 ≠ 0) :
    nb_R nb_P 293 6 [(3, l0), (19, l1), (20, l2), (5, l3), (0, l4), v5, v6] [] M = if nb_sub (nb_ln M l0) 6 < l4 then nb_R nb_P 293 240 [(3, l0), (19, l1), (20, l2), (5, l3), (0, l4), v5, v6] [] M else nb_R nb_P 293 7 [(3, l0), (19, l1), (20, l2), (5, l3), (0, l4), v5, v6] [] M :=
  nb_step (c := (true && !decide ((l0 : Int) = 0))) rfl (by simp [h1])
set_option maxRecDepth 10000 in
theorem q_law_law_7 (l0 l1 l2 l3 l4 : Int) (v5 v6 : nb_V) (M : nb_M) (h1 : l0 ≠ 0) (h2 : (0 : Int) ≤ l4) (h3 : l4 < nb_ln M l0) :
    nb_R nb_P 293 7 [(3, l0), (19, l1), (20, l2), (5, l3), (0, l4), v5, v6] [] M = if nb_and (nb_rd M l0 l4) 63 = 0 then nb_R nb_P 293 8 [(3, l0), (19, l1), (20, l2), (5, l3), (0, l4), v5, v6] [] M else if nb_and (nb_rd M l0 l4) 63 = 1 then nb_R nb_P 293 12 [(3, l0), (19, l1), (20, l2), (5, l3), (0, l4), v5, v6] [] M else if nb_and (nb_rd M l0 l4) 63 = 2 then nb_R nb_P 293 16 [(3, l0), (19, l1), (20, l2), (5, l3), (0, l4), v5, v6] [] M else if nb_and (nb_rd M l0 l4) 63 = 3 then nb_R nb_P 293 20 [(3, l0), (19, l1), (20, l2), (5, l3), (0, l4), v5, v6] [] M else if nb_and (nb_rd M l0 l4) 63 = 4 then nb_R nb_P 293 24 [(3, l0), (19, l1), (20, l2), (5, l3), (0, l4), v5, v6] [] M else if nb_and (nb_rd M l0 l4) 63 = 5 then nb_R nb_P 293 28 [(3, l0), (19, l1), (20, l2), (5, l3), (0, l4), v5, v6] [] M else if nb_and (nb_rd M l0 l4) 63 = 6 then nb_R nb_P 293 32 [(3, l0), (19, l1), (20, l2), (5, l3), (0, l4), v5, v6] [] M else if nb_and (nb_rd M l0 l4) 63 = 7 then nb_R nb_P 293 36 [(3, l0), (19, l1), (20, l2), (5, l3), (0, l4), v5, v6] [] M else if nb_and (nb_rd M l0 l4) 63 = 8 then nb_R nb_P 293 40 [(3, l0), (19, l1), (20, l2), (5, l3), (0, l4), v5, v6] [] M else if nb_and (nb_rd M l0 l4) 63 = 9 then nb_R nb_P 293 44 [(3, l0), (19, l1), (20, l2), (5, l3), (0, l4), v5, v6] [] M else if nb_and (nb_rd M l0 l4) 63 = 10 then nb_R nb_P 293 48 [(3, l0), (19, l1), (20, l2), (5, l3), (0, l4), v5, v6] [] M else if nb_and (nb_rd M l0 l4) 63 = 11 then nb_R nb_P 293 52 [(3, l0), (19, l1), (20, l2), (5, l3), (0, l4), v5, v6] [] M else if nb_and (nb_rd M l0 l4) 63 = 12 then nb_R nb_P 293 56 [(3, l0), (19, l1), (20, l2), (5, l3), (0, l4), v5, v6] [] M else if nb_and (nb_rd M l0 l4) 63 = 13 then nb_R nb_P 293 60 [(3, l0), (19, l1), (20, l2), (5, l3), (0, l4), v5, v6] [] M else if nb_and (nb_rd M l0 l4) 63 = 14 then nb_R nb_P 293 64 [(3, l0), (19, l1), (20, l2), (5, l3), (0, l4), v5, v6] [] M else if nb_and (nb_rd M l0 l4) 63 = 15 then nb_R nb_P 293 68 [(3, l0), (19, l1), (20, l2), (5, l3), (0, l4), v5, v6] [] M else if nb_and (nb_rd M l0 l4) 63 = 16 then nb_R nb_P 293 72 [(3, l0), (19, l1), (20, l2), (5, l3), (0, l4), v5, v6] [] M else if nb_and (nb_rd M l0 l4) 63 = 17 then nb_R nb_P 293 76 [(3, l0), (19, l1), (20, l2), (5, l3), (0, l4), v5, v6] [] M else if nb_and (nb_rd M l0 l4) 63 = 18 then nb_R nb_P 293 80 [(3, l0), (19, l1), (20, l2), (5, l3), (0, l4), v5, v6] [] M else if nb_and (nb_rd M l0 l4) 63 = 19 then nb_R nb_P 293 84 [(3, l0), (19, l1), (20, l2), (5, l3), (0, l4), v5, v6] [] M else if nb_and (nb_rd M l0 l4) 63 = 20 then nb_R nb_P 293 94 [(3, l0), (19, l1), (20, l2), (5, l3), (0, l4), v5, v6] [] M else if nb_and (nb_rd M l0 l4) 63 = 21 then nb_R nb_P 293 104 [(3, l0), (19, l1), (20, l2), (5, l3), (0, l4), v5, v6] [] M else if nb_and (nb_rd M l0 l4) 63 = 22 then nb_R nb_P 293 108 [(3, l0), (19, l1), (20, l2), (5, l3), (0, l4), v5, v6] [] M else if nb_and (nb_rd M l0 l4) 63 = 23 then nb_R nb_P 293 112 [(3, l0), (19, l1), (20, l2), (5, l3), (0, l4), v5, v6] [] M else if nb_and (nb_rd M l0 l4) 63 = 24 then nb_R nb_P 293 116 [(3, l0), (19, l1), (20, l2), (5, l3), (0, l4), v5, v6] [] M else if nb_and (nb_rd M l0 l4) 63 = 25 then nb_R nb_P 293 120 [(3, l0), (19, l1), (20, l2), (5, l3), (0, l4), v5, v6] [] M else if nb_and (nb_rd M l0 l4) 63 = 26 then nb_R nb_P 293 124 [(3, l0), (19, l1), (20, l2), (5, l3), (0, l4), v5, v6] [] M else if nb_and (nb_rd M l0 l4) 63 = 27 then nb_R nb_P 293 128 [(3, l0), (19, l1), (20, l2), (5, l3), (0, l4), v5, v6] [] M else if nb_and (nb_rd M l0 l4) 63 = 28 then nb_R nb_P 293 132 [(3, l0), (19, l1), (20, l2), (5, l3), (0, l4), v5, v6] [] M else if nb_and (nb_rd M l0 l4) 63 = 29 then nb_R nb_P 293 136 [(3, l0), (19, l1), (20, l2), (5, l3), (0, l4), v5, v6] [] M else if nb_and (nb_rd M l0 l4) 63 = 30 then nb_R nb_P 293 140 [(3, l0), (19, l1), (20, l2), (5, l3), (0, l4), v5, v6] [] M else if nb_and (nb_rd M l0 l4) 63 = 31 then nb_R nb_P 293 144 [(3, l0), (19, l1), (20, l2), (5, l3), (0, l4), v5, v6] [] M else if nb_and (nb_rd M l0 l4) 63 = 32 then nb_R nb_P 293 154 [(3, l0), (19, l1), (20, l2), (5, l3), (0, l4), v5, v6] [] M else if nb_and (nb_rd M l0 l4) 63 = 33 then nb_R nb_P 293 158 [(3, l0), (19, l1), (20, l2), (5, l3), (0, l4), v5, v6] [] M else if nb_and (nb_rd M l0 l4) 63 = 34 then nb_R nb_P 293 162 [(3, l0), (19, l1), (20, l2), (5, l3), (0, l4), v5, v6] [] M else if nb_and (nb_rd M l0 l4) 63 = 35 then nb_R nb_P 293 166 [(3, l0), (19, l1), (20, l2), (5, l3), (0, l4), v5, v6] [] M else if nb_and (nb_rd M l0 l4) 63 = 36 then nb_R nb_P 293 170 [(3, l0), (19, l1), (20, l2), (5, l3), (0, l4), v5, v6] [] M else if nb_and (nb_rd M l0 l4) 63 = 37 then nb_R nb_P 293 174 [(3, l0), (19, l1), (20, l2), (5, l3), (0, l4), v5, v6] [] M else if nb_and (nb_rd M l0 l4) 63 = 38 then nb_R nb_P 293 178 [(3, l0), (19, l1), (20, l2), (5, l3), (0, l4), v5, v6] [] M else if nb_and (nb_rd M l0 l4) 63 = 39 then nb_R nb_P 293 182 [(3, l0), (19, l1), (20, l2), (5, l3), (0, l4), v5, v6] [] M else if nb_and (nb_rd M l0 l4) 63 = 40 then nb_R nb_P 293 186 [(3, l0), (19, l1), (20, l2), (5, l3), (0, l4), v5, v6] [] M else if nb_and (nb_rd M l0 l4) 63 = 41 then nb_R nb_P 293 190 [(3, l0), (19, l1), (20, l2), (5, l3), (0, l4), v5, v6] [] M else if nb_and (nb_rd M l0 l4) 63 = 42 then nb_R nb_P 293 194 [(3, l0), (19, l1), (20, l2), (5, l3), (0, l4), v5, v6] [] M else if nb_and (nb_rd M l0 l4) 63 = 43 then nb_R nb_P 293 198 [(3, l0), (19, l1), (20, l2), (5, l3), (0, l4), v5, v6] [] M else if nb_and (nb_rd M l0 l4) 63 = 44 then nb_R nb_P 293 202 [(3, l0), (19, l1), (20, l2), (5, l3), (0, l4), v5, v6] [] M else if nb_and (nb_rd M l0 l4) 63 = 45 then nb_R nb_P 293 206 [(3, l0), (19, l1), (20, l2), (5, l3), (0, l4), v5, v6] [] M else if nb_and (nb_rd M l0 l4) 63 = 46 then nb_R nb_P 293 210 [(3, l0), (19, l1), (20, l2), (5, l3), (0, l4), v5, v6] [] M else if nb_and (nb_rd M l0 l4) 63 = 47 then nb_R nb_P 293 214 [(3, l0), (19, l1), (20, l2), (5, l3), (0, l4), v5, v6] [] M else if nb_and (nb_rd M l0 l4) 63 = 48 then nb_R nb_P 293 218 [(3, l0), (19, l1), (20, l2), (5, l3), (0, l4), v5, v6] [] M else if nb_and (nb_rd M l0 l4) 63 = 49 then nb_R nb_P 293 222 [(3, l0), (19, l1), (20, l2), (5, l3), (0, l4), v5, v6] [] M else if nb_and (nb_rd M l0 l4) 63 = 50 then nb_R nb_P 293 231 [(3, l0), (19, l1), (20, l2), (5, l3), (0, l4), v5, v6] [] M else if nb_and (nb_rd M l0 l4) 63 = 51 then nb_R nb_P 293 235 [(3, l0), (19, l1), (20, l2), (5, l3), (0, l4), v5, v6] [] M else nb_R nb_P 293 239 [(3, l0), (19, l1), (20, l2), (5, l3), (0, l4), v5, v6] [] M :=
  nb_step (c := (true && (!decide ((l0 : Int) = 0) && (decide ((0 : Int) ≤ l4) && decide (l4 < nb_ln M l0))))) rfl (by simp [h1, h2, h3])
set_option maxRecDepth 10000 in
theorem q_law_law_8 (l0 l1 l2 l3 l4 : Int) (v5 v6 : nb_V) (M : nb_M) (h1 : l0 ≠ 0) (h2 : (0 : Int) ≤ nb_add l4 1) (h3 : nb_add l4 1 < nb_ln M l0) (h4 : (0 : Int) ≤ nb_add l4 2) (h5 : nb_add l4 2 < nb_ln M l0) (h6 : (0 : Int) ≤ nb_add l4 3) (h7 : nb_add l4 3 < nb_ln M l0) (h8 : (0 : Int) ≤ nb_add l4 4) (h9 : nb_add l4 4 < nb_ln M l0) (h10 : (0 : Int) ≤ nb_add l4 5) (h11 : nb_add l4 5 < nb_ln M l0) (h12 : l1 ≠ 0) :
    nb_R nb_P 293 8 [(3, l0), (19, l1), (20, l2), (5, l3), (0, l4), v5, v6] [] M = (nb_R nb_P 2 0 [(19, l1), (0, nb_rd M l0 (nb_add l4 1)), (0, nb_rd M l0 (nb_add l4 2)), (0, nb_rd M l0 (nb_add l4 3)), (0, nb_rd M l0 (nb_add l4 4)), (0, nb_rd M l0 (nb_add l4 5))] [] M).bind fun r => nb_R nb_P 293 9 [(3, l0), (19, l1), (20, l2), (5, l3), (0, l4), v5, v6] (r.1 ++ []) r.2 :=
  nb_stepC (c := (((((true && (!decide ((l0 : Int) = 0) && (decide ((0 : Int) ≤ nb_add l4 1) && decide (nb_add l4 1 < nb_ln M l0)))) && (!decide ((l0 : Int) = 0) && (decide ((0 : Int) ≤ nb_add l4 2) && decide (nb_add l4 2 < nb_ln M l0)))) && (!decide ((l0 : Int) = 0) && (decide ((0 : Int) ≤ nb_add l4 3) && decide (nb_add l4 3 < nb_ln M l0)))) && (!decide ((l0 : Int) = 0) && (decide ((0 : Int) ≤ nb_add l4 4) && decide (nb_add l4 4 < nb_ln M l0)))) && (!decide ((l0 : Int) = 0) && (decide ((0 : Int) ≤ nb_add l4 5) && decide (nb_add l4 5 < nb_ln M l0))))) (L2 := [(3, l0), (19, l1), (20, l2), (5, l3), (0, l4), v5, v6]) (S2 := [(0, nb_rd M l0 (nb_add l4 5)), (0, nb_rd M l0 (nb_add l4 4)), (0, nb_rd M l0 (nb_add l4 3)), (0, nb_rd M l0 (nb_add l4 2)), (0, nb_rd M l0 (nb_add l4 1)), (19, l1)]) (M2 := M) (t := 9) (cl := 2) (vi := true) rfl (by simp [h1, h2, h3, h4, h5, h6, h7, h8, h9, h10, h11, h12]) (nb_inv_eq (n := 6) rfl rfl rfl rfl rfl rfl (fun _ => h12) rfl)
set_option maxRecDepth 10000 in
theorem q_law_law_9 (l0 l1 l2 l3 l4 s0 : Int) (v5 v6 : nb_V) (M : nb_M) (h1 : l0 ≠ 0) (h2 : (0 : Int) ≤ nb_add l4 1) (h3 : nb_add l4 1 < nb_ln M l0) (h4 : (0 : Int) ≤ nb_add l4 2) (h5 : nb_add l4 2 < nb_ln M l0) (h6 : (0 : Int) ≤ nb_add l4 3) (h7 : nb_add l4 3 < nb_ln M l0) (h8 : (0 : Int) ≤ nb_add l4 4) (h9 : nb_add l4 4 < nb_ln M l0) (h10 : (0 : Int) ≤ nb_add l4 5) (h11 : nb_add l4 5 < nb_ln M l0) (h12 : l2 ≠ 0) :
    nb_R nb_P 293 9 [(3, l0), (19, l1), (20, l2), (5, l3), (0, l4), v5, v6] [(0, s0)] M = (nb_R nb_P 87 0 [(20, l2), (0, nb_rd M l0 (nb_add l4 1)), (0, nb_rd M l0 (nb_add l4 2)), (0, nb_rd M l0 (nb_add l4 3)), (0, nb_rd M l0 (nb_add l4 4)), (0, nb_rd M l0 (nb_add l4 5)), (98, 0), (98, 0)] [] M).bind fun r => nb_R nb_P 293 10 [(3, l0), (19, l1), (20, l2), (5, l3), (0, l4), v5, v6] (r.1 ++ [(0, s0)]) r.2 :=
  nb_stepC (c := (((((true && (!decide ((l0 : Int) = 0) && (decide ((0 : Int) ≤ nb_add l4 1) && decide (nb_add l4 1 < nb_ln M l0)))) && (!decide ((l0 : Int) = 0) && (decide ((0 : Int) ≤ nb_add l4 2) && decide (nb_add l4 2 < nb_ln M l0)))) && (!decide ((l0 : Int) = 0) && (decide ((0 : Int) ≤ nb_add l4 3) && decide (nb_add l4 3 < nb_ln M l0)))) && (!decide ((l0 : Int) = 0) && (decide ((0 : Int) ≤ nb_add l4 4) && decide (nb_add l4 4 < nb_ln M l0)))) && (!decide ((l0 : Int) = 0) && (decide ((0 : Int) ≤ nb_add l4 5) && decide (nb_add l4 5 < nb_ln M l0))))) (L2 := [(3, l0), (19, l1), (20, l2), (5, l3), (0, l4), v5, v6]) (S2 := [(0, nb_rd M l0 (nb_add l4 5)), (0, nb_rd M l0 (nb_add l4 4)), (0, nb_rd M l0 (nb_add l4 3)), (0, nb_rd M l0 (nb_add l4 2)), (0, nb_rd M l0 (nb_add l4 1)), (20, l2), (0, s0)]) (M2 := M) (t := 10) (cl := 87) (vi := true) rfl (by simp [h1, h2, h3, h4, h5, h6, h7, h8, h9, h10, h11, h12]) (nb_inv_eq (n := 6) rfl rfl rfl rfl rfl rfl (fun _ => h12) rfl)
theorem q_law_law_10 (l0 l1 l2 l3 l4 s0 s1 : Int) (v5 v6 : nb_V) (M : nb_M) :
    nb_R nb_P 293 10 [(3, l0), (19, l1), (20, l2), (5, l3), (0, l4), v5, v6] [(0, s0), (0, s1)] M = if s1 = s0 then nb_R nb_P 293 239 [(3, l0), (19, l1), (20, l2), (5, l3), (0, l4), v5, v6] [] M else nb_R nb_P 293 11 [(3, l0), (19, l1), (20, l2), (5, l3), (0, l4), v5, v6] [] M :=
  nb_step (c := true) rfl rfl
theorem q_law_law_11 (v0 v1 v2 v3 v4 v5 v6 : nb_V) (M : nb_M) :
    nb_R nb_P 293 11 [v0, v1, v2, v3, v4, v5, v6] [] M = some ([(0, 0)], M) :=
  nb_step (c := true) rfl rfl
theorem q_law_law_12 (l0 l1 l2 l3 l4 : Int) (v5 v6 : nb_V) (M : nb_M) (h1 : l0 ≠ 0) (h2 : (0 : Int) ≤ nb_add l4 1) (h3 : nb_add l4 1 < nb_ln M l0) (h4 : l1 ≠ 0) :
    nb_R nb_P 293 12 [(3, l0), (19, l1), (20, l2), (5, l3), (0, l4), v5, v6] [] M = (nb_R nb_P 4 0 [(19, l1), (0, nb_rd M l0 (nb_add l4 1)), (98, 0), (98, 0)] [] M).bind fun r => nb_R nb_P 293 13 [(3, l0), (19, l1), (20, l2), (5, l3), (0, l4), v5, v6] (r.1 ++ []) r.2 :=
  nb_stepC (c := (true && (!decide ((l0 : Int) = 0) && (decide ((0 : Int) ≤ nb_add l4 1) && decide (nb_add l4 1 < nb_ln M l0))))) (L2 := [(3, l0), (19, l1), (20, l2), (5, l3), (0, l4), v5, v6]) (S2 := [(0, nb_rd M l0 (nb_add l4 1)), (19, l1)]) (M2 := M) (t := 13) (cl := 4) (vi := true) rfl (by simp [h1, h2, h3, h4]) (nb_inv_eq (n := 2) rfl rfl rfl rfl rfl rfl (fun _ => h4) rfl)
theorem q_law_law_13 (l0 l1 l2 l3 l4 s0 : Int) (v5 v6 : nb_V) (M : nb_M) (h1 : l0 ≠ 0) (h2 : (0 : Int) ≤ nb_add l4 1) (h3 : nb_add l4 1 < nb_ln M l0) (h4 : l2 ≠ 0) :
    nb_R nb_P 293 13 [(3, l0), (19, l1), (20, l2), (5, l3), (0, l4), v5, v6] [(0, s0)] M = (nb_R nb_P 105 0 [(20, l2), (0, nb_rd M l0 (nb_add l4 1)), (98, 0)] [] M).bind fun r => nb_R nb_P 293 14 [(3, l0), (19, l1), (20, l2), (5, l3), (0, l4), v5, v6] (r.1 ++ [(0, s0)]) r.2 :=
  nb_stepC (c := (true && (!decide ((l0 : Int) = 0) && (decide ((0 : Int) ≤ nb_add l4 1) && decide (nb_add l4 1 < nb_ln M l0))))) (L2 := [(3, l0), (19, l1), (20, l2), (5, l3), (0, l4), v5, v6]) (S2 := [(0, nb_rd M l0 (nb_add l4 1)), (20, l2), (0, s0)]) (M2 := M) (t := 14) (cl := 105) (vi := true) rfl (by simp [h1, h2, h3, h4]) (nb_inv_eq (n := 2) rfl rfl rfl rfl rfl rfl (fun _ => h4) rfl)
theorem q_law_law_14 (l0 l1 l2 l3 l4 s0 s1 : Int) (v5 v6 : nb_V) (M : nb_M) :
    nb_R nb_P 293 14 [(3, l0), (19, l1), (20, l2), (5, l3), (0, l4), v5, v6] [(0, s0), (0, s1)] M = if s1 = s0 then nb_R nb_P 293 239 [(3, l0), (19, l1), (20, l2), (5, l3), (0, l4), v5, v6] [] M else nb_R nb_P 293 15 [(3, l0), (19, l1), (20, l2), (5, l3), (0, l4), v5, v6] [] M :=
  nb_step (c := true) rfl rfl
theorem q_law_law_15 (v0 v1 v2 v3 v4 v5 v6 : nb_V) (M : nb_M) :
    nb_R nb_P 293 15 [v0, v1, v2, v3, v4, v5, v6] [] M = some ([(0, 0)], M) :=
  nb_step (c := true) rfl rfl
theorem q_law_law_16 (l0 l1 l2 l3 l4 : Int) (v5 v6 : nb_V) (M : nb_M) (h1 : l1 ≠ 0) :
    nb_R nb_P 293 16 [(3, l0), (19, l1), (20, l2), (5, l3), (0, l4), v5, v6] [] M = (nb_R nb_P 5 0 [(19, l1)] [] M).bind fun r => nb_R nb_P 293 17 [(3, l0), (19, l1), (20, l2), (5, l3), (0, l4), v5, v6] (r.1 ++ []) r.2 :=
  nb_stepC (c := true) (L2 := [(3, l0), (19, l1), (20, l2), (5, l3), (0, l4), v5, v6]) (S2 := [(19, l1)]) (M2 := M) (t := 17) (cl := 5) (vi := true) rfl rfl (nb_inv_eq (n := 1) rfl rfl rfl rfl rfl rfl (fun _ => h1) rfl)
theorem q_law_law_17 (l0 l1 l2 l3 l4 s0 : Int) (v5 v6 : nb_V) (M : nb_M) (h1 : l2 ≠ 0) :
    nb_R nb_P 293 17 [(3, l0), (19, l1), (20, l2), (5, l3), (0, l4), v5, v6] [(0, s0)] M = (nb_R nb_P 114 0 [(20, l2)] [] M).bind fun r => nb_R nb_P 293 18 [(3, l0), (19, l1), (20, l2), (5, l3), (0, l4), v5, v6] (r.1 ++ [(0, s0)]) r.2 :=
  nb_stepC (c := true) (L2 := [(3, l0), (19, l1), (20, l2), (5, l3), (0, l4), v5, v6]) (S2 := [(20, l2), (0, s0)]) (M2 := M) (t := 18) (cl := 114) (vi := true) rfl rfl (nb_inv_eq (n := 1) rfl rfl rfl rfl rfl rfl (fun _ => h1) rfl)
theorem q_law_law_18 (l0 l1 l2 l3 l4 s0 s1 : Int) (v5 v6 : nb_V) (M : nb_M) :
    nb_R nb_P 293 18 [(3, l0), (19, l1), (20, l2), (5, l3), (0, l4), v5, v6] [(0, s0), (0, s1)] M = if s1 = s0 then nb_R nb_P 293 239 [(3, l0), (19, l1), (20, l2), (5, l3), (0, l4), v5, v6] [] M else nb_R nb_P 293 19 [(3, l0), (19, l1), (20, l2), (5, l3), (0, l4), v5, v6] [] M :=
  nb_step (c := true) rfl rfl
theorem q_law_law_19 (v0 v1 v2 v3 v4 v5 v6 : nb_V) (M : nb_M) :
    nb_R nb_P 293 19 [v0, v1, v2, v3, v4, v5, v6] [] M = some ([(0, 0)], M) :=
  nb_step (c := true) rfl rfl
theorem q_law_law_20 (l0 l1 l2 l3 l4 : Int) (v5 v6 : nb_V) (M : nb_M) (h1 : l1 ≠ 0) :
    nb_R nb_P 293 20 [(3, l0), (19, l1), (20, l2), (5, l3), (0, l4), v5, v6] [] M = (nb_R nb_P 6 0 [(19, l1)] [] M).bind fun r => nb_R nb_P 293 21 [(3, l0), (19, l1), (20, l2), (5, l3), (0, l4), v5, v6] (r.1 ++ []) r.2 :=
  nb_stepC (c := true) (L2 := [(3, l0), (19, l1), (20, l2), (5, l3), (0, l4), v5, v6]) (S2 := [(19, l1)]) (M2 := M) (t := 21) (cl := 6) (vi := true) rfl rfl (nb_inv_eq (n := 1) rfl rfl rfl rfl rfl rfl (fun _ => h1) rfl)
theorem q_law_law_21 (l0 l1 l2 l3 l4 s0 : Int) (v5 v6 : nb_V) (M : nb_M) (h1 : l2 ≠ 0) :
    nb_R nb_P 293 21 [(3, l0), (19, l1), (20, l2), (5, l3), (0, l4), v5, v6] [(0, s0)] M = (nb_R nb_P 115 0 [(20, l2)] [] M).bind fun r => nb_R nb_P 293 22 [(3, l0), (19, l1), (20, l2), (5, l3), (0, l4), v5, v6] (r.1 ++ [(0, s0)]) r.2 :=
  nb_stepC (c := true) (L2 := [(3, l0), (19, l1), (20, l2), (5, l3), (0, l4), v5, v6]) (S2 := [(20, l2), (0, s0)]) (M2 := M) (t := 22) (cl := 115) (vi := true) rfl rfl (nb_inv_eq (n := 1) rfl rfl rfl rfl rfl rfl (fun _ => h1) rfl)
theorem q_law_law_22 (l0 l1 l2 l3 l4 s0 s1 : Int) (v5 v6 : nb_V) (M : nb_M) :
    nb_R nb_P 293 22 [(3, l0), (19, l1), (20, l2), (5, l3), (0, l4), v5, v6] [(0, s0), (0, s1)] M = if s1 = s0 then nb_R nb_P 293 239 [(3, l0), (19, l1), (20, l2), (5, l3), (0, l4), v5, v6] [] M else nb_R nb_P 293 23 [(3, l0), (19, l1), (20, l2), (5, l3), (0, l4), v5, v6] [] M :=
  nb_step (c := true) rfl rfl
theorem q_law_law_23 (v0 v1 v2 v3 v4 v5 v6 : nb_V) (M : nb_M) :
    nb_R nb_P 293 23 [v0, v1, v2, v3, v4, v5, v6] [] M = some ([(0, 0)], M) :=
  nb_step (c := true) rfl rfl
theorem q_law_law_24 (l0 l1 l2 l3 l4 : Int) (v5 v6 : nb_V) (M : nb_M) (h1 : l0 ≠ 0) (h2 : (0 : Int) ≤ nb_add l4 1) (h3 : nb_add l4 1 < nb_ln M l0) (h4 : (0 : Int) ≤ nb_add l4 2) (h5 : nb_add l4 2 < nb_ln M l0) (h6 : l1 ≠ 0) :
    nb_R nb_P 293 24 [(3, l0), (19, l1), (20, l2), (5, l3), (0, l4), v5, v6] [] M = (nb_R nb_P 16 0 [(19, l1), (0, nb_rd M l0 (nb_add l4 1)), (0, nb_rd M l0 (nb_add l4 2)), (98, 0)] [] M).bind fun r => nb_R nb_P 293 25 [(3, l0), (19, l1), (20, l2), (5, l3), (0, l4), v5, v6] (r.1 ++ []) r.2 :=
  nb_stepC (c := ((true && (!decide ((l0 : Int) = 0) && (decide ((0 : Int) ≤ nb_add l4 1) && decide (nb_add l4 1 < nb_ln M l0)))) && (!decide ((l0 : Int) = 0) && (decide ((0 : Int) ≤ nb_add l4 2) && decide (nb_add l4 2 < nb_ln M l0))))) (L2 := [(3, l0), (19, l1), (20, l2), (5, l3), (0, l4), v5, v6]) (S2 := [(0, nb_rd M l0 (nb_add l4 2)), (0, nb_rd M l0 (nb_add l4 1)), (19, l1)]) (M2 := M) (t := 25) (cl := 16) (vi := true) rfl (by simp [h1, h2, h3, h4, h5, h6]) (nb_inv_eq (n := 3) rfl rfl rfl rfl rfl rfl (fun _ => h6) rfl)
theorem q_law_law_25 (l0 l1 l2 l3 l4 s0 : Int) (v5 v6 : nb_V) (M : nb_M) (h1 : l0 ≠ 0) (h2 : (0 : Int) ≤ nb_add l4 1) (h3 : nb_add l4 1 < nb_ln M l0) (h4 : (0 : Int) ≤ nb_add l4 2) (h5 : nb_add l4 2 < nb_ln M l0) (h6 : l2 ≠ 0) :
    nb_R nb_P 293 25 [(3, l0), (19, l1), (20, l2), (5, l3), (0, l4), v5, v6] [(0, s0)] M = (nb_R nb_P 142 0 [(20, l2), (0, nb_rd M l0 (nb_add l4 1)), (0, nb_rd M l0 (nb_add l4 2)), (98, 0)] [] M).bind fun r => nb_R nb_P 293 26 [(3, l0), (19, l1), (20, l2), (5, l3), (0, l4), v5, v6] (r.1 ++ [(0, s0)]) r.2 :=
  nb_stepC (c := ((true && (!decide ((l0 : Int) = 0) && (decide ((0 : Int) ≤ nb_add l4 1) && decide (nb_add l4 1 < nb_ln M l0)))) && (!decide ((l0 : Int) = 0) && (decide ((0 : Int) ≤ nb_add l4 2) && decide (nb_add l4 2 < nb_ln M l0))))) (L2 := [(3, l0), (19, l1), (20, l2), (5, l3), (0, l4), v5, v6]) (S2 := [(0, nb_rd M l0 (nb_add l4 2)), (0, nb_rd M l0 (nb_add l4 1)), (20, l2), (0, s0)]) (M2 := M) (t := 26) (cl := 142) (vi := true) rfl (by simp [h1, h2, h3, h4, h5, h6]) (nb_inv_eq (n := 3) rfl rfl rfl rfl rfl rfl (fun _ => h6) rfl)
theorem q_law_law_26 (l0 l1 l2 l3 l4 s0 s1 : Int) (v5 v6 : nb_V) (M : nb_M) :
    nb_R nb_P 293 26 [(3, l0), (19, l1), (20, l2), (5, l3), (0, l4), v5, v6] [(0, s0), (0, s1)] M = if s1 = s0 then nb_R nb_P 293 239 [(3, l0), (19, l1), (20, l2), (5, l3), (0, l4), v5, v6] [] M else nb_R nb_P 293 27 [(3, l0), (19, l1), (20, l2), (5, l3), (0, l4), v5, v6] [] M :=
  nb_step (c := true) rfl rfl
theorem q_law_law_27 (v0 v1 v2 v3 v4 v5 v6 : nb_V) (M : nb_M) :
    nb_R nb_P 293 27 [v0, v1, v2, v3, v4, v5, v6] [] M = some ([(0, 0)], M) :=
  nb_step (c := true) rfl rfl
theorem q_law_law_28 (l0 l1 l2 l3 l4 : Int) (v5 v6 : nb_V) (M : nb_M) (h1 : l0 ≠ 0) (h2 : (0 : Int) ≤ nb_add l4 1) (h3 : nb_add l4 1 < nb_ln M l0) (h4 : (0 : Int) ≤ nb_add l4 2) (h5 : nb_add l4 2 < nb_ln M l0) (h6 : l1 ≠ 0) :
    nb_R nb_P 293 28 [(3, l0), (19, l1), (20, l2), (5, l3), (0, l4), v5, v6] [] M = (nb_R nb_P 17 0 [(19, l1), (0, nb_rd M l0 (nb_add l4 1)), (0, nb_rd M l0 (nb_add l4 2)), (98, 0)] [] M).bind fun r => nb_R nb_P 293 29 [(3, l0), (19, l1), (20, l2), (5, l3), (0, l4), v5, v6] (r.1 ++ []) r.2 :=
  nb_stepC (c := ((true && (!decide ((l0 : Int) = 0) && (decide ((0 : Int) ≤ nb_add l4 1) && decide (nb_add l4 1 < nb_ln M l0)))) && (!decide ((l0 : Int) = 0) && (decide ((0 : Int) ≤ nb_add l4 2) && decide (nb_add l4 2 < nb_ln M l0))))) (L2 := [(3, l0), (19, l1), (20, l2), (5, l3), (0, l4), v5, v6]) (S2 := [(0, nb_rd M l0 (nb_add l4 2)), (0, nb_rd M l0 (nb_add l4 1)), (19, l1)]) (M2 := M) (t := 29) (cl := 17) (vi := true) rfl (by simp [h1, h2, h3, h4, h5, h6]) (nb_inv_eq (n := 3) rfl rfl rfl rfl rfl rfl (fun _ => h6) rfl)
theorem q_law_law_29 (l0 l1 l2 l3 l4 s0 : Int) (v5 v6 : nb_V) (M : nb_M) (h1 : l0 ≠ 0) (h2 : (0 : Int) ≤ nb_add l4 1) (h3 : nb_add l4 1 < nb_ln M l0) (h4 : (0 : Int) ≤ nb_add l4 2) (h5 : nb_add l4 2 < nb_ln M l0) (h6 : l2 ≠ 0) :
    nb_R nb_P 293 29 [(3, l0), (19, l1), (20, l2), (5, l3), (0, l4), v5, v6] [(0, s0)] M = (nb_R nb_P 143 0 [(20, l2), (0, nb_rd M l0 (nb_add l4 1)), (0, nb_rd M l0 (nb_add l4 2)), (98, 0), (98, 0), (98, 0), (98, 0)] [] M).bind fun r => nb_R nb_P 293 30 [(3, l0), (19, l1), (20, l2), (5, l3), (0, l4), v5, v6] (r.1 ++ [(0, s0)]) r.2 :=
  nb_stepC (c := ((true && (!decide ((l0 : Int) = 0) && (decide ((0 : Int) ≤ nb_add l4 1) && decide (nb_add l4 1 < nb_ln M l0)))) && (!decide ((l0 : Int) = 0) && (decide ((0 : Int) ≤ nb_add l4 2) && decide (nb_add l4 2 < nb_ln M l0))))) (L2 := [(3, l0), (19, l1), (20, l2), (5, l3), (0, l4), v5, v6]) (S2 := [(0, nb_rd M l0 (nb_add l4 2)), (0, nb_rd M l0 (nb_add l4 1)), (20, l2), (0, s0)]) (M2 := M) (t := 30) (cl := 143) (vi := true) rfl (by simp [h1, h2, h3, h4, h5, h6]) (nb_inv_eq (n := 3) rfl rfl rfl rfl rfl rfl (fun _ => h6) rfl)
theorem q_law_law_30 (l0 l1 l2 l3 l4 s0 s1 : Int) (v5 v6 : nb_V) (M : nb_M) :
    nb_R nb_P 293 30 [(3, l0), (19, l1), (20, l2), (5, l3), (0, l4), v5, v6] [(0, s0), (0, s1)] M = if s1 = s0 then nb_R nb_P 293 239 [(3, l0), (19, l1), (20, l2), (5, l3), (0, l4), v5, v6] [] M else nb_R nb_P 293 31 [(3, l0), (19, l1), (20, l2), (5, l3), (0, l4), v5, v6] [] M :=
  nb_step (c := true) rfl rfl
theorem q_law_law_31 (v0 v1 v2 v3 v4 v5 v6 : nb_V) (M : nb_M) :
    nb_R nb_P 293 31 [v0, v1, v2, v3, v4, v5, v6] [] M = some ([(0, 0)], M) :=
  nb_step (c := true) rfl rfl
theorem q_law_law_32 (l0 l1 l2 l3 l4 : Int) (v5 v6 : nb_V) (M : nb_M) (h1 : l0 ≠ 0) (h2 : (0 : Int) ≤ nb_add l4 1) (h3 : nb_add l4 1 < nb_ln M l0) (h4 : l1 ≠ 0) :
    nb_R nb_P 293 32 [(3, l0), (19, l1), (20, l2), (5, l3), (0, l4), v5, v6] [] M = (nb_R nb_P 18 0 [(19, l1), (0, nb_rd M l0 (nb_add l4 1)), (98, 0), (98, 0)] [] M).bind fun r => nb_R nb_P 293 33 [(3, l0), (19, l1), (20, l2), (5, l3), (0, l4), v5, v6] (r.1 ++ []) r.2 :=
  nb_stepC (c := (true && (!decide ((l0 : Int) = 0) && (decide ((0 : Int) ≤ nb_add l4 1) && decide (nb_add l4 1 < nb_ln M l0))))) (L2 := [(3, l0), (19, l1), (20, l2), (5, l3), (0, l4), v5, v6]) (S2 := [(0, nb_rd M l0 (nb_add l4 1)), (19, l1)]) (M2 := M) (t := 33) (cl := 18) (vi := true) rfl (by simp [h1, h2, h3, h4]) (nb_inv_eq (n := 2) rfl rfl rfl rfl rfl rfl (fun _ => h4) rfl)
theorem q_law_law_33 (l0 l1 l2 l3 l4 s0 : Int) (v5 v6 : nb_V) (M : nb_M) (h1 : l0 ≠ 0) (h2 : (0 : Int) ≤ nb_add l4 1) (h3 : nb_add l4 1 < nb_ln M l0) (h4 : l2 ≠ 0) :
    nb_R nb_P 293 33 [(3, l0), (19, l1), (20, l2), (5, l3), (0, l4), v5, v6] [(0, s0)] M = (nb_R nb_P 144 0 [(20, l2), (0, nb_rd M l0 (nb_add l4 1)), (98, 0), (98, 0)] [] M).bind fun r => nb_R nb_P 293 34 [(3, l0), (19, l1), (20, l2), (5, l3), (0, l4), v5, v6] (r.1 ++ [(0, s0)]) r.2 :=
  nb_stepC (c := (true && (!decide ((l0 : Int) = 0) && (decide ((0 : Int) ≤ nb_add l4 1) && decide (nb_add l4 1 < nb_ln M l0))))) (L2 := [(3, l0), (19, l1), (20, l2), (5, l3), (0, l4), v5, v6]) (S2 := [(0, nb_rd M l0 (nb_add l4 1)), (20, l2), (0, s0)]) (M2 := M) (t := 34) (cl := 144) (vi := true) rfl (by simp [h1, h2, h3, h4]) (nb_inv_eq (n := 2) rfl rfl rfl rfl rfl rfl (fun _ => h4) rfl)
theorem q_law_law_34 (l0 l1 l2 l3 l4 s0 s1 : Int) (v5 v6 : nb_V) (M : nb_M) :
    nb_R nb_P 293 34 [(3, l0), (19, l1), (20, l2), (5, l3), (0, l4), v5, v6] [(0, s0), (0, s1)] M = if s1 = s0 then nb_R nb_P 293 239 [(3, l0), (19, l1), (20, l2), (5, l3), (0, l4), v5, v6] [] M else nb_R nb_P 293 35 [(3, l0), (19, l1), (20, l2), (5, l3), (0, l4), v5, v6] [] M :=
  nb_step (c := true) rfl rfl
theorem q_law_law_35 (v0 v1 v2 v3 v4 v5 v6 : nb_V) (M : nb_M) :
    nb_R nb_P 293 35 [v0, v1, v2, v3, v4, v5, v6] [] M = some ([(0, 0)], M) :=
  nb_step (c := true) rfl rfl
theorem q_law_law_36 (l0 l1 l2 l3 l4 : Int) (v5 v6 : nb_V) (M : nb_M) (h1 : l1 ≠ 0) :
    nb_R nb_P 293 36 [(3, l0), (19, l1), (20, l2), (5, l3), (0, l4), v5, v6] [] M = (nb_R nb_P 19 0 [(19, l1)] [] M).bind fun r => nb_R nb_P 293 37 [(3, l0), (19, l1), (20, l2), (5, l3), (0, l4), v5, v6] (r.1 ++ []) r.2 :=
  nb_stepC (c := true) (L2 := [(3, l0), (19, l1), (20, l2), (5, l3), (0, l4), v5, v6]) (S2 := [(19, l1)]) (M2 := M) (t := 37) (cl := 19) (vi := true) rfl rfl (nb_inv_eq (n := 1) rfl rfl rfl rfl rfl rfl (fun _ => h1) rfl)
theorem q_law_law_37 (l0 l1 l2 l3 l4 s0 : Int) (v5 v6 : nb_V) (M : nb_M) (h1 : l2 ≠ 0) :
    nb_R nb_P 293 37 [(3, l0), (19, l1), (20, l2), (5, l3), (0, l4), v5, v6] [(0, s0)] M = (nb_R nb_P 146 0 [(20, l2)] [] M).bind fun r => nb_R nb_P 293 38 [(3, l0), (19, l1), (20, l2), (5, l3), (0, l4), v5, v6] (r.1 ++ [(0, s0)]) r.2 :=
  nb_stepC (c := true) (L2 := [(3, l0), (19, l1), (20, l2), (5, l3), (0, l4), v5, v6]) (S2 := [(20, l2), (0, s0)]) (M2 := M) (t := 38) (cl := 146) (vi := true) rfl rfl (nb_inv_eq (n := 1) rfl rfl rfl rfl rfl rfl (fun _ => h1) rfl)
theorem q_law_law_38 (l0 l1 l2 l3 l4 s0 s1 : Int) (v5 v6 : nb_V) (M : nb_M) :
    nb_R nb_P 293 38 [(3, l0), (19, l1), (20, l2), (5, l3), (0, l4), v5, v6] [(0, s0), (0, s1)] M = if s1 = s0 then nb_R nb_P 293 239 [(3, l0), (19, l1), (20, l2), (5, l3), (0, l4), v5, v6] [] M else nb_R nb_P 293 39 [(3, l0), (19, l1), (20, l2), (5, l3), (0, l4), v5, v6] [] M :=
  nb_step (c := true) rfl rfl
theorem q_law_law_39 (v0 v1 v2 v3 v4 v5 v6 : nb_V) (M : nb_M) :
    nb_R nb_P 293 39 [v0, v1, v2, v3, v4, v5, v6] [] M = some ([(0, 0)], M) :=
  nb_step (c := true) rfl rfl
theorem q_law_law_40 (l0 l1 l2 l3 l4 : Int) (v5 v6 : nb_V) (M : nb_M) (h1 : l0 ≠ 0) (h2 : (0 : Int) ≤ nb_add l4 1) (h3 : nb_add l4 1 < nb_ln M l0) (h4 : l1 ≠ 0) :
    nb_R nb_P 293 40 [(3, l0), (19, l1), (20, l2), (5, l3), (0, l4), v5, v6] [] M = (nb_R nb_P 20 0 [(19, l1), (0, nb_rd M l0 (nb_add l4 1))] [] M).bind fun r => nb_R nb_P 293 41 [(3, l0), (19, l1), (20, l2), (5, l3), (0, l4), v5, v6] (r.1 ++ []) r.2 :=
  nb_stepC (c := (true && (!decide ((l0 : Int) = 0) && (decide ((0 : Int) ≤ nb_add l4 1) && decide (nb_add l4 1 < nb_ln M l0))))) (L2 := [(3, l0), (19, l1), (20, l2), (5, l3), (0, l4), v5, v6]) (S2 := [(0, nb_rd M l0 (nb_add l4 1)), (19, l1)]) (M2 := M) (t := 41) (cl := 20) (vi := true) rfl (by simp [h1, h2, h3, h4]) (nb_inv_eq (n := 2) rfl rfl rfl rfl rfl rfl (fun _ => h4) rfl)
theorem q_law_law_41 (l0 l1 l2 l3 l4 s0 : Int) (v5 v6 : nb_V) (M : nb_M) (h1 : l0 ≠ 0) (h2 : (0 : Int) ≤ nb_add l4 1) (h3 : nb_add l4 1 < nb_ln M l0) (h4 : l2 ≠ 0) :
    nb_R nb_P 293 41 [(3, l0), (19, l1), (20, l2), (5, l3), (0, l4), v5, v6] [(0, s0)] M = (nb_R nb_P 147 0 [(20, l2), (0, nb_rd M l0 (nb_add l4 1))] [] M).bind fun r => nb_R nb_P 293 42 [(3, l0), (19, l1), (20, l2), (5, l3), (0, l4), v5, v6] (r.1 ++ [(0, s0)]) r.2 :=
  nb_stepC (c := (true && (!decide ((l0 : Int) = 0) && (decide ((0 : Int) ≤ nb_add l4 1) && decide (nb_add l4 1 < nb_ln M l0))))) (L2 := [(3, l0), (19, l1), (20, l2), (5, l3), (0, l4), v5, v6]) (S2 := [(0, nb_rd M l0 (nb_add l4 1)), (20, l2), (0, s0)]) (M2 := M) (t := 42) (cl := 147) (vi := true) rfl (by simp [h1, h2, h3, h4]) (nb_inv_eq (n := 2) rfl rfl rfl rfl rfl rfl (fun _ => h4) rfl)
theorem q_law_law_42 (l0 l1 l2 l3 l4 s0 s1 : Int) (v5 v6 : nb_V) (M : nb_M) :
    nb_R nb_P 293 42 [(3, l0), (19, l1), (20, l2), (5, l3), (0, l4), v5, v6] [(0, s0), (0, s1)] M = if s1 = s0 then nb_R nb_P 293 239 [(3, l0), (19, l1), (20, l2), (5, l3), (0, l4), v5, v6] [] M else nb_R nb_P 293 43 [(3, l0), (19, l1), (20, l2), (5, l3), (0, l4), v5, v6] [] M :=
  nb_step (c := true) rfl rfl
theorem q_law_law_43 (v0 v1 v2 v3 v4 v5 v6 : nb_V) (M : nb_M) :
    nb_R nb_P 293 43 [v0, v1, v2, v3, v4, v5, v6] [] M = some ([(0, 0)], M) :=
  nb_step (c := true) rfl rfl
theorem q_law_law_44 (l0 l1 l2 l3 l4 : Int) (v5 v6 : nb_V) (M : nb_M) (h1 : l0 ≠ 0) (h2 : (0 : Int) ≤ nb_add l4 1) (h3 : nb_add l4 1 < nb_ln M l0) (h4 : (0 : Int) ≤ nb_add l4 2) (h5 : nb_add l4 2 < nb_ln M l0) (h6 : l1 ≠ 0) :
    nb_R nb_P 293 44 [(3, l0), (19, l1), (20, l2), (5, l3), (0, l4), v5, v6] [] M = (nb_R nb_P 21 0 [(19, l1), (0, nb_rd M l0 (nb_add l4 1)), (0, nb_rd M l0 (nb_add l4 2))] [] M).bind fun r => nb_R nb_P 293 45 [(3, l0), (19, l1), (20, l2), (5, l3), (0, l4), v5, v6] (r.1 ++ []) r.2 :=
  nb_stepC (c := ((true && (!decide ((l0 : Int) = 0) && (decide ((0 : Int) ≤ nb_add l4 1) && decide (nb_add l4 1 < nb_ln M l0)))) && (!decide ((l0 : Int) = 0) && (decide ((0 : Int) ≤ nb_add l4 2) && decide (nb_add l4 2 < nb_ln M l0))))) (L2 := [(3, l0), (19, l1), (20, l2), (5, l3), (0, l4), v5, v6]) (S2 := [(0, nb_rd M l0 (nb_add l4 2)), (0, nb_rd M l0 (nb_add l4 1)), (19, l1)]) (M2 := M) (t := 45) (cl := 21) (vi := true) rfl (by simp [h1, h2, h3, h4, h5, h6]) (nb_inv_eq (n := 3) rfl rfl rfl rfl rfl rfl (fun _ => h6) rfl)
theorem q_law_law_45 (l0 l1 l2 l3 l4 s0 : Int) (v5 v6 : nb_V) (M : nb_M) (h1 : l0 ≠ 0) (h2 : (0 : Int) ≤ nb_add l4 1) (h3 : nb_add l4 1 < nb_ln M l0) (h4 : (0 : Int) ≤ nb_add l4 2) (h5 : nb_add l4 2 < nb_ln M l0) (h6 : l2 ≠ 0) :
    nb_R nb_P 293 45 [(3, l0), (19, l1), (20, l2), (5, l3), (0, l4), v5, v6] [(0, s0)] M = (nb_R nb_P 148 0 [(20, l2), (0, nb_rd M l0 (nb_add l4 1)), (0, nb_rd M l0 (nb_add l4 2))] [] M).bind fun r => nb_R nb_P 293 46 [(3, l0), (19, l1), (20, l2), (5, l3), (0, l4), v5, v6] (r.1 ++ [(0, s0)]) r.2 :=
  nb_stepC (c := ((true && (!decide ((l0 : Int) = 0) && (decide ((0 : Int) ≤ nb_add l4 1) && decide (nb_add l4 1 < nb_ln M l0)))) && (!decide ((l0 : Int) = 0) && (decide ((0 : Int) ≤ nb_add l4 2) && decide (nb_add l4 2 < nb_ln M l0))))) (L2 := [(3, l0), (19, l1), (20, l2), (5, l3), (0, l4), v5, v6]) (S2 := [(0, nb_rd M l0 (nb_add l4 2)), (0, nb_rd M l0 (nb_add l4 1)), (20, l2), (0, s0)]) (M2 := M) (t := 46) (cl := 148) (vi := true) rfl (by simp [h1, h2, h3, h4, h5, h6]) (nb_inv_eq (n := 3) rfl rfl rfl rfl rfl rfl (fun _ => h6) rfl)
theorem q_law_law_46 (l0 l1 l2 l3 l4 s0 s1 : Int) (v5 v6 : nb_V) (M : nb_M) :
    nb_R nb_P 293 46 [(3, l0), (19, l1), (20, l2), (5, l3), (0, l4), v5, v6] [(0, s0), (0, s1)] M = if s1 = s0 then nb_R nb_P 293 239 [(3, l0), (19, l1), (20, l2), (5, l3), (0, l4), v5, v6] [] M else nb_R nb_P 293 47 [(3, l0), (19, l1), (20, l2), (5, l3), (0, l4), v5, v6] [] M :=
  nb_step (c := true) rfl rfl
theorem q_law_law_47 (v0 v1 v2 v3 v4 v5 v6 : nb_V) (M : nb_M) :
    nb_R nb_P 293 47 [v0, v1, v2, v3, v4, v5, v6] [] M = some ([(0, 0)], M) :=
  nb_step (c := true) rfl rfl
theorem q_law_law_48 (l0 l1 l2 l3 l4 : Int) (v5 v6 : nb_V) (M : nb_M) (h1 : l0 ≠ 0) (h2 : (0 : Int) ≤ nb_add l4 1) (h3 : nb_add l4 1 < nb_ln M l0) (h4 : l1 ≠ 0) :
    nb_R nb_P 293 48 [(3, l0), (19, l1), (20, l2), (5, l3), (0, l4), v5, v6] [] M = (nb_R nb_P 22 0 [(19, l1), (0, nb_rd M l0 (nb_add l4 1))] [] M).bind fun r => nb_R nb_P 293 49 [(3, l0), (19, l1), (20, l2), (5, l3), (0, l4), v5, v6] (r.1 ++ []) r.2 :=
  nb_stepC (c := (true && (!decide ((l0 : Int) = 0) && (decide ((0 : Int) ≤ nb_add l4 1) && decide (nb_add l4 1 < nb_ln M l0))))) (L2 := [(3, l0), (19, l1), (20, l2), (5, l3), (0, l4), v5, v6]) (S2 := [(0, nb_rd M l0 (nb_add l4 1)), (19, l1)]) (M2 := M) (t := 49) (cl := 22) (vi := true) rfl (by simp [h1, h2, h3, h4]) (nb_inv_eq (n := 2) rfl rfl rfl rfl rfl rfl (fun _ => h4) rfl)
theorem q_law_law_49 (l0 l1 l2 l3 l4 s0 : Int) (v5 v6 : nb_V) (M : nb_M) (h1 : l0 ≠ 0) (h2 : (0 : Int) ≤ nb_add l4 1) (h3 : nb_add l4 1 < nb_ln M l0) (h4 : l2 ≠ 0) :
    nb_R nb_P 293 49 [(3, l0), (19, l1), (20, l2), (5, l3), (0, l4), v5, v6] [(0, s0)] M = (nb_R nb_P 149 0 [(20, l2), (0, nb_rd M l0 (nb_add l4 1))] [] M).bind fun r => nb_R nb_P 293 50 [(3, l0), (19, l1), (20, l2), (5, l3), (0, l4), v5, v6] (r.1 ++ [(0, s0)]) r.2 :=
  nb_stepC (c := (true && (!decide ((l0 : Int) = 0) && (decide ((0 : Int) ≤ nb_add l4 1) && decide (nb_add l4 1 < nb_ln M l0))))) (L2 := [(3, l0), (19, l1), (20, l2), (5, l3), (0, l4), v5, v6]) (S2 := [(0, nb_rd M l0 (nb_add l4 1)), (20, l2), (0, s0)]) (M2 := M) (t := 50) (cl := 149) (vi := true) rfl (by simp [h1, h2, h3, h4]) (nb_inv_eq (n := 2) rfl rfl rfl rfl rfl rfl (fun _ => h4) rfl)
theorem q_law_law_50 (l0 l1 l2 l3 l4 s0 s1 : Int) (v5 v6 : nb_V) (M : nb_M) :
    nb_R nb_P 293 50 [(3, l0), (19, l1), (20, l2), (5, l3), (0, l4), v5, v6] [(0, s0), (0, s1)] M = if s1 = s0 then nb_R nb_P 293 239 [(3, l0), (19, l1), (20, l2), (5, l3), (0, l4), v5, v6] [] M else nb_R nb_P 293 51 [(3, l0), (19, l1), (20, l2), (5, l3), (0, l4), v5, v6] [] M :=
  nb_step (c := true) rfl rfl
theorem q_law_law_51 (v0 v1 v2 v3 v4 v5 v6 : nb_V) (M : nb_M) :
    nb_R nb_P 293 51 [v0, v1, v2, v3, v4, v5, v6] [] M = some ([(0, 0)], M) :=
  nb_step (c := true) rfl rfl
theorem q_law_law_52 (l0 l1 l2 l3 l4 : Int) (v5 v6 : nb_V) (M : nb_M) (h1 : l0 ≠ 0) (h2 : (0 : Int) ≤ nb_add l4 1) (h3 : nb_add l4 1 < nb_ln M l0) (h4 : l1 ≠ 0) :
    nb_R nb_P 293 52 [(3, l0), (19, l1), (20, l2), (5, l3), (0, l4), v5, v6] [] M = (nb_R nb_P 25 0 [(19, l1), (0, nb_rd M l0 (nb_add l4 1))] [] M).bind fun r => nb_R nb_P 293 53 [(3, l0), (19, l1), (20, l2), (5, l3), (0, l4), v5, v6] (r.1 ++ []) r.2 :=
  nb_stepC (c := (true && (!decide ((l0 : Int) = 0) && (decide ((0 : Int) ≤ nb_add l4 1) && decide (nb_add l4 1 < nb_ln M l0))))) (L2 := [(3, l0), (19, l1), (20, l2), (5, l3), (0, l4), v5, v6]) (S2 := [(0, nb_rd M l0 (nb_add l4 1)), (19, l1)]) (M2 := M) (t := 53) (cl := 25) (vi := true) rfl (by simp [h1, h2, h3, h4]) (nb_inv_eq (n := 2) rfl rfl rfl rfl rfl rfl (fun _ => h4) rfl)
theorem q_law_law_53 (l0 l1 l2 l3 l4 s0 : Int) (v5 v6 : nb_V) (M : nb_M) (h1 : l0 ≠ 0) (h2 : (0 : Int) ≤ nb_add l4 1) (h3 : nb_add l4 1 < nb_ln M l0) (h4 : l2 ≠ 0) :
    nb_R nb_P 293 53 [(3, l0), (19, l1), (20, l2), (5, l3), (0, l4), v5, v6] [(0, s0)] M = (nb_R nb_P 151 0 [(20, l2), (0, nb_rd M l0 (nb_add l4 1))] [] M).bind fun r => nb_R nb_P 293 54 [(3, l0), (19, l1), (20, l2), (5, l3), (0, l4), v5, v6] (r.1 ++ [(0, s0)]) r.2 :=
  nb_stepC (c := (true && (!decide ((l0 : Int) = 0) && (decide ((0 : Int) ≤ nb_add l4 1) && decide (nb_add l4 1 < nb_ln M l0))))) (L2 := [(3, l0), (19, l1), (20, l2), (5, l3), (0, l4), v5, v6]) (S2 := [(0, nb_rd M l0 (nb_add l4 1)), (20, l2), (0, s0)]) (M2 := M) (t := 54) (cl := 151) (vi := true) rfl (by simp [h1, h2, h3, h4]) (nb_inv_eq (n := 2) rfl rfl rfl rfl rfl rfl (fun _ => h4) rfl)
theorem q_law_law_54 (l0 l1 l2 l3 l4 s0 s1 : Int) (v5 v6 : nb_V) (M : nb_M) :
    nb_R nb_P 293 54 [(3, l0), (19, l1), (20, l2), (5, l3), (0, l4), v5, v6] [(0, s0), (0, s1)] M = if s1 = s0 then nb_R nb_P 293 239 [(3, l0), (19, l1), (20, l2), (5, l3), (0, l4), v5, v6] [] M else nb_R nb_P 293 55 [(3, l0), (19, l1), (20, l2), (5, l3), (0, l4), v5, v6] [] M :=
  nb_step (c := true) rfl rfl
theorem q_law_law_55 (v0 v1 v2 v3 v4 v5 v6 : nb_V) (M : nb_M) :
    nb_R nb_P 293 55 [v0, v1, v2, v3, v4, v5, v6] [] M = some ([(0, 0)], M) :=
  nb_step (c := true) rfl rfl
theorem q_law_law_56 (l0 l1 l2 l3 l4 : Int) (v5 v6 : nb_V) (M : nb_M) (h1 : l0 ≠ 0) (h2 : (0 : Int) ≤ nb_add l4 1) (h3 : nb_add l4 1 < nb_ln M l0) (h4 : l1 ≠ 0) :
    nb_R nb_P 293 56 [(3, l0), (19, l1), (20, l2), (5, l3), (0, l4), v5, v6] [] M = (nb_R nb_P 26 0 [(19, l1), (0, nb_rd M l0 (nb_add l4 1))] [] M).bind fun r => nb_R nb_P 293 57 [(3, l0), (19, l1), (20, l2), (5, l3), (0, l4), v5, v6] (r.1 ++ []) r.2 :=
  nb_stepC (c := (true && (!decide ((l0 : Int) = 0) && (decide ((0 : Int) ≤ nb_add l4 1) && decide (nb_add l4 1 < nb_ln M l0))))) (L2 := [(3, l0), (19, l1), (20, l2), (5, l3), (0, l4), v5, v6]) (S2 := [(0, nb_rd M l0 (nb_add l4 1)), (19, l1)]) (M2 := M) (t := 57) (cl := 26) (vi := true) rfl (by simp [h1, h2, h3, h4]) (nb_inv_eq (n := 2) rfl rfl rfl rfl rfl rfl (fun _ => h4) rfl)
theorem q_law_law_57 (l0 l1 l2 l3 l4 s0 : Int) (v5 v6 : nb_V) (M : nb_M) (h1 : l0 ≠ 0) (h2 : (0 : Int) ≤ nb_add l4 1) (h3 : nb_add l4 1 < nb_ln M l0) (h4 : l2 ≠ 0) :
    nb_R nb_P 293 57 [(3, l0), (19, l1), (20, l2), (5, l3), (0, l4), v5, v6] [(0, s0)] M = (nb_R nb_P 152 0 [(20, l2), (0, nb_rd M l0 (nb_add l4 1))] [] M).bind fun r => nb_R nb_P 293 58 [(3, l0), (19, l1), (20, l2), (5, l3), (0, l4), v5, v6] (r.1 ++ [(0, s0)]) r.2 :=
  nb_stepC (c := (true && (!decide ((l0 : Int) = 0) && (decide ((0 : Int) ≤ nb_add l4 1) && decide (nb_add l4 1 < nb_ln M l0))))) (L2 := [(3, l0), (19, l1), (20, l2), (5, l3), (0, l4), v5, v6]) (S2 := [(0, nb_rd M l0 (nb_add l4 1)), (20, l2), (0, s0)]) (M2 := M) (t := 58) (cl := 152) (vi := true) rfl (by simp [h1, h2, h3, h4]) (nb_inv_eq (n := 2) rfl rfl rfl rfl rfl rfl (fun _ => h4) rfl)
theorem q_law_law_58 (l0 l1 l2 l3 l4 s0 s1 : Int) (v5 v6 : nb_V) (M : nb_M) :
    nb_R nb_P 293 58 [(3, l0), (19, l1), (20, l2), (5, l3), (0, l4), v5, v6] [(0, s0), (0, s1)] M = if s1 = s0 then nb_R nb_P 293 239 [(3, l0), (19, l1), (20, l2), (5, l3), (0, l4), v5, v6] [] M else nb_R nb_P 293 59 [(3, l0), (19, l1), (20, l2), (5, l3), (0, l4), v5, v6] [] M :=
  nb_step (c := true) rfl rfl
theorem q_law_law_59 (v0 v1 v2 v3 v4 v5 v6 : nb_V) (M : nb_M) :
    nb_R nb_P 293 59 [v0, v1, v2, v3, v4, v5, v6] [] M = some ([(0, 0)], M) :=
  nb_step (c := true) rfl rfl
theorem q_law_law_60 (l0 l1 l2 l3 l4 : Int) (v5 v6 : nb_V) (M : nb_M) (h1 : l0 ≠ 0) (h2 : (0 : Int) ≤ nb_add l4 1) (h3 : nb_add l4 1 < nb_ln M l0) (h4 : l1 ≠ 0) :
    nb_R nb_P 293 60 [(3, l0), (19, l1), (20, l2), (5, l3), (0, l4), v5, v6] [] M = (nb_R nb_P 27 0 [(19, l1), (0, nb_rd M l0 (nb_add l4 1))] [] M).bind fun r => nb_R nb_P 293 61 [(3, l0), (19, l1), (20, l2), (5, l3), (0, l4), v5, v6] (r.1 ++ []) r.2 :=
  nb_stepC (c := (true && (!decide ((l0 : Int) = 0) && (decide ((0 : Int) ≤ nb_add l4 1) && decide (nb_add l4 1 < nb_ln M l0))))) (L2 := [(3, l0), (19, l1), (20, l2), (5, l3), (0, l4), v5, v6]) (S2 := [(0, nb_rd M l0 (nb_add l4 1)), (19, l1)]) (M2 := M) (t := 61) (cl := 27) (vi := true) rfl (by simp [h1, h2, h3, h4]) (nb_inv_eq (n := 2) rfl rfl rfl rfl rfl rfl (fun _ => h4) rfl)
theorem q_law_law_61 (l0 l1 l2 l3 l4 s0 : Int) (v5 v6 : nb_V) (M : nb_M) (h1 : l0 ≠ 0) (h2 : (0 : Int) ≤ nb_add l4 1) (h3 : nb_add l4 1 < nb_ln M l0) (h4 : l2 ≠ 0) :
    nb_R nb_P 293 61 [(3, l0), (19, l1), (20, l2), (5, l3), (0, l4), v5, v6] [(0, s0)] M = (nb_R nb_P 153 0 [(20, l2), (0, nb_rd M l0 (nb_add l4 1))] [] M).bind fun r => nb_R nb_P 293 62 [(3, l0), (19, l1), (20, l2), (5, l3), (0, l4), v5, v6] (r.1 ++ [(0, s0)]) r.2 :=
  nb_stepC (c := (true && (!decide ((l0 : Int) = 0) && (decide ((0 : Int) ≤ nb_add l4 1) && decide (nb_add l4 1 < nb_ln M l0))))) (L2 := [(3, l0), (19, l1), (20, l2), (5, l3), (0, l4), v5, v6]) (S2 := [(0, nb_rd M l0 (nb_add l4 1)), (20, l2), (0, s0)]) (M2 := M) (t := 62) (cl := 153) (vi := true) rfl (by simp [h1, h2, h3, h4]) (nb_inv_eq (n := 2) rfl rfl rfl rfl rfl rfl (fun _ => h4) rfl)
theorem q_law_law_62 (l0 l1 l2 l3 l4 s0 s1 : Int) (v5 v6 : nb_V) (M : nb_M) :
    nb_R nb_P 293 62 [(3, l0), (19, l1), (20, l2), (5, l3), (0, l4), v5, v6] [(0, s0), (0, s1)] M = if s1 = s0 then nb_R nb_P 293 239 [(3, l0), (19, l1), (20, l2), (5, l3), (0, l4), v5, v6] [] M else nb_R nb_P 293 63 [(3, l0), (19, l1), (20, l2), (5, l3), (0, l4), v5, v6] [] M :=
  nb_step (c := true) rfl rfl
theorem q_law_law_63 (v0 v1 v2 v3 v4 v5 v6 : nb_V) (M : nb_M) :
    nb_R nb_P 293 63 [v0, v1, v2, v3, v4, v5, v6] [] M = some ([(0, 0)], M) :=
  nb_step (c := true) rfl rfl
theorem q_law_law_64 (l0 l1 l2 l3 l4 : Int) (v5 v6 : nb_V) (M : nb_M) (h1 : l0 ≠ 0) (h2 : (0 : Int) ≤ nb_add l4 1) (h3 : nb_add l4 1 < nb_ln M l0) (h4 : l1 ≠ 0) :
    nb_R nb_P 293 64 [(3, l0), (19, l1), (20, l2), (5, l3), (0, l4), v5, v6] [] M = (nb_R nb_P 28 0 [(19, l1), (0, nb_rd M l0 (nb_add l4 1))] [] M).bind fun r => nb_R nb_P 293 65 [(3, l0), (19, l1), (20, l2), (5, l3), (0, l4), v5, v6] (r.1 ++ []) r.2 :=
  nb_stepC (c := (true && (!decide ((l0 : Int) = 0) && (decide ((0 : Int) ≤ nb_add l4 1) && decide (nb_add l4 1 < nb_ln M l0))))) (L2 := [(3, l0), (19, l1), (20, l2), (5, l3), (0, l4), v5, v6]) (S2 := [(0, nb_rd M l0 (nb_add l4 1)), (19, l1)]) (M2 := M) (t := 65) (cl := 28) (vi := true) rfl (by simp [h1, h2, h3, h4]) (nb_inv_eq (n := 2) rfl rfl rfl rfl rfl rfl (fun _ => h4) rfl)
theorem q_law_law_65 (l0 l1 l2 l3 l4 s0 : Int) (v5 v6 : nb_V) (M : nb_M) (h1 : l0 ≠ 0) (h2 : (0 : Int) ≤ nb_add l4 1) (h3 : nb_add l4 1 < nb_ln M l0) (h4 : l2 ≠ 0) :
    nb_R nb_P 293 65 [(3, l0), (19, l1), (20, l2), (5, l3), (0, l4), v5, v6] [(0, s0)] M = (nb_R nb_P 154 0 [(20, l2), (0, nb_rd M l0 (nb_add l4 1))] [] M).bind fun r => nb_R nb_P 293 66 [(3, l0), (19, l1), (20, l2), (5, l3), (0, l4), v5, v6] (r.1 ++ [(0, s0)]) r.2 :=
  nb_stepC (c := (true && (!decide ((l0 : Int) = 0) && (decide ((0 : Int) ≤ nb_add l4 1) && decide (nb_add l4 1 < nb_ln M l0))))) (L2 := [(3, l0), (19, l1), (20, l2), (5, l3), (0, l4), v5, v6]) (S2 := [(0, nb_rd M l0 (nb_add l4 1)), (20, l2), (0, s0)]) (M2 := M) (t := 66) (cl := 154) (vi := true) rfl (by simp [h1, h2, h3, h4]) (nb_inv_eq (n := 2) rfl rfl rfl rfl rfl rfl (fun _ => h4) rfl)
theorem q_law_law_66 (l0 l1 l2 l3 l4 s0 s1 : Int) (v5 v6 : nb_V) (M : nb_M) :
    nb_R nb_P 293 66 [(3, l0), (19, l1), (20, l2), (5, l3), (0, l4), v5, v6] [(0, s0), (0, s1)] M = if s1 = s0 then nb_R nb_P 293 239 [(3, l0), (19, l1), (20, l2), (5, l3), (0, l4), v5, v6] [] M else nb_R nb_P 293 67 [(3, l0), (19, l1), (20, l2), (5, l3), (0, l4), v5, v6] [] M :=
  nb_step (c := true) rfl rfl
theorem q_law_law_67 (v0 v1 v2 v3 v4 v5 v6 : nb_V) (M : nb_M) :
    nb_R nb_P 293 67 [v0, v1, v2, v3, v4, v5, v6] [] M = some ([(0, 0)], M) :=
  nb_step (c := true) rfl rfl
theorem q_law_law_68 (l0 l1 l2 l3 l4 : Int) (v5 v6 : nb_V) (M : nb_M) (h1 : l0 ≠ 0) (h2 : (0 : Int) ≤ nb_add l4 1) (h3 : nb_add l4 1 < nb_ln M l0) (h4 : l1 ≠ 0) :
    nb_R nb_P 293 68 [(3, l0), (19, l1), (20, l2), (5, l3), (0, l4), v5, v6] [] M = (nb_R nb_P 29 0 [(19, l1), (0, nb_rd M l0 (nb_add l4 1))] [] M).bind fun r => nb_R nb_P 293 69 [(3, l0), (19, l1), (20, l2), (5, l3), (0, l4), v5, v6] (r.1 ++ []) r.2 :=
  nb_stepC (c := (true && (!decide ((l0 : Int) = 0) && (decide ((0 : Int) ≤ nb_add l4 1) && decide (nb_add l4 1 < nb_ln M l0))))) (L2 := [(3, l0), (19, l1), (20, l2), (5, l3), (0, l4), v5, v6]) (S2 := [(0, nb_rd M l0 (nb_add l4 1)), (19, l1)]) (M2 := M) (t := 69) (cl := 29) (vi := true) rfl (by simp [h1, h2, h3, h4]) (nb_inv_eq (n := 2) rfl rfl rfl rfl rfl rfl (fun _ => h4) rfl)
theorem q_law_law_69 (l0 l1 l2 l3 l4 s0 : Int) (v5 v6 : nb_V) (M : nb_M) (h1 : l0 ≠ 0) (h2 : (0 : Int) ≤ nb_add l4 1) (h3 : nb_add l4 1 < nb_ln M l0) (h4 : l2 ≠ 0) :
    nb_R nb_P 293 69 [(3, l0), (19, l1), (20, l2), (5, l3), (0, l4), v5, v6] [(0, s0)] M = (nb_R nb_P 155 0 [(20, l2), (0, nb_rd M l0 (nb_add l4 1))] [] M).bind fun r => nb_R nb_P 293 70 [(3, l0), (19, l1), (20, l2), (5, l3), (0, l4), v5, v6] (r.1 ++ [(0, s0)]) r.2 :=
  nb_stepC (c := (true && (!decide ((l0 : Int) = 0) && (decide ((0 : Int) ≤ nb_add l4 1) && decide (nb_add l4 1 < nb_ln M l0))))) (L2 := [(3, l0), (19, l1), (20, l2), (5, l3), (0, l4), v5, v6]) (S2 := [(0, nb_rd M l0 (nb_add l4 1)), (20, l2), (0, s0)]) (M2 := M) (t := 70) (cl := 155) (vi := true) rfl (by simp [h1, h2, h3, h4]) (nb_inv_eq (n := 2) rfl rfl rfl rfl rfl rfl (fun _ => h4) rfl)
theorem q_law_law_70 (l0 l1 l2 l3 l4 s0 s1 : Int) (v5 v6 : nb_V) (M : nb_M) :
    nb_R nb_P 293 70 [(3, l0), (19, l1), (20, l2), (5, l3), (0, l4), v5, v6] [(0, s0), (0, s1)] M = if s1 = s0 then nb_R nb_P 293 239 [(3, l0), (19, l1), (20, l2), (5, l3), (0, l4), v5, v6] [] M else nb_R nb_P 293 71 [(3, l0), (19, l1), (20, l2), (5, l3), (0, l4), v5, v6] [] M :=
  nb_step (c := true) rfl rfl
theorem q_law_law_71 (v0 v1 v2 v3 v4 v5 v6 : nb_V) (M : nb_M) :
    nb_R nb_P 293 71 [v0, v1, v2, v3, v4, v5, v6] [] M = some ([(0, 0)], M) :=
  nb_step (c := true) rfl rfl
theorem q_law_law_72 (l0 l1 l2 l3 l4 : Int) (v5 v6 : nb_V) (M : nb_M) (h1 : l0 ≠ 0) (h2 : (0 : Int) ≤ nb_add l4 1) (h3 : nb_add l4 1 < nb_ln M l0) (h4 : l1 ≠ 0) :
    nb_R nb_P 293 72 [(3, l0), (19, l1), (20, l2), (5, l3), (0, l4), v5, v6] [] M = (nb_R nb_P 30 0 [(19, l1), (0, nb_rd M l0 (nb_add l4 1))] [] M).bind fun r => nb_R nb_P 293 73 [(3, l0), (19, l1), (20, l2), (5, l3), (0, l4), v5, v6] (r.1 ++ []) r.2 :=
  nb_stepC (c := (true && (!decide ((l0 : Int) = 0) && (decide ((0 : Int) ≤ nb_add l4 1) && decide (nb_add l4 1 < nb_ln M l0))))) (L2 := [(3, l0), (19, l1), (20, l2), (5, l3), (0, l4), v5, v6]) (S2 := [(0, nb_rd M l0 (nb_add l4 1)), (19, l1)]) (M2 := M) (t := 73) (cl := 30) (vi := true) rfl (by simp [h1, h2, h3, h4]) (nb_inv_eq (n := 2) rfl rfl rfl rfl rfl rfl (fun _ => h4) rfl)
theorem q_law_law_73 (l0 l1 l2 l3 l4 s0 : Int) (v5 v6 : nb_V) (M : nb_M) (h1 : l0 ≠ 0) (h2 : (0 : Int) ≤ nb_add l4 1) (h3 : nb_add l4 1 < nb_ln M l0) (h4 : l2 ≠ 0) :
    nb_R nb_P 293 73 [(3, l0), (19, l1), (20, l2), (5, l3), (0, l4), v5, v6] [(0, s0)] M = (nb_R nb_P 156 0 [(20, l2), (0, nb_rd M l0 (nb_add l4 1))] [] M).bind fun r => nb_R nb_P 293 74 [(3, l0), (19, l1), (20, l2), (5, l3), (0, l4), v5, v6] (r.1 ++ [(0, s0)]) r.2 :=
  nb_stepC (c := (true && (!decide ((l0 : Int) = 0) && (decide ((0 : Int) ≤ nb_add l4 1) && decide (nb_add l4 1 < nb_ln M l0))))) (L2 := [(3, l0), (19, l1), (20, l2), (5, l3), (0, l4), v5, v6]) (S2 := [(0, nb_rd M l0 (nb_add l4 1)), (20, l2), (0, s0)]) (M2 := M) (t := 74) (cl := 156) (vi := true) rfl (by simp [h1, h2, h3, h4]) (nb_inv_eq (n := 2) rfl rfl rfl rfl rfl rfl (fun _ => h4) rfl)
theorem q_law_law_74 (l0 l1 l2 l3 l4 s0 s1 : Int) (v5 v6 : nb_V) (M : nb_M) :
    nb_R nb_P 293 74 [(3, l0), (19, l1), (20, l2), (5, l3), (0, l4), v5, v6] [(0, s0), (0, s1)] M = if s1 = s0 then nb_R nb_P 293 239 [(3, l0), (19, l1), (20, l2), (5, l3), (0, l4), v5, v6] [] M else nb_R nb_P 293 75 [(3, l0), (19, l1), (20, l2), (5, l3), (0, l4), v5, v6] [] M :=
  nb_step (c := true) rfl rfl
theorem q_law_law_75 (v0 v1 v2 v3 v4 v5 v6 : nb_V) (M : nb_M) :
    nb_R nb_P 293 75 [v0, v1, v2, v3, v4, v5, v6] [] M = some ([(0, 0)], M) :=
  nb_step (c := true) rfl rfl
theorem q_law_law_76 (l0 l1 l2 l3 l4 : Int) (v5 v6 : nb_V) (M : nb_M) (h1 : l0 ≠ 0) (h2 : (0 : Int) ≤ nb_add l4 1) (h3 : nb_add l4 1 < nb_ln M l0) (h4 : l1 ≠ 0) :
    nb_R nb_P 293 76 [(3, l0), (19, l1), (20, l2), (5, l3), (0, l4), v5, v6] [] M = (nb_R nb_P 31 0 [(19, l1), (0, nb_rd M l0 (nb_add l4 1))] [] M).bind fun r => nb_R nb_P 293 77 [(3, l0), (19, l1), (20, l2), (5, l3), (0, l4), v5, v6] (r.1 ++ []) r.2 :=
  nb_stepC (c := (true && (!decide ((l0 : Int) = 0) && (decide ((0 : Int) ≤ nb_add l4 1) && decide (nb_add l4 1 < nb_ln M l0))))) (L2 := [(3, l0), (19, l1), (20, l2), (5, l3), (0, l4), v5, v6]) (S2 := [(0, nb_rd M l0 (nb_add l4 1)), (19, l1)]) (M2 := M) (t := 77) (cl := 31) (vi := true) rfl (by simp [h1, h2, h3, h4]) (nb_inv_eq (n := 2) rfl rfl rfl rfl rfl rfl (fun _ => h4) rfl)
theorem q_law_law_77 (l0 l1 l2 l3 l4 s0 : Int) (v5 v6 : nb_V) (M : nb_M) (h1 : l0 ≠ 0) (h2 : (0 : Int) ≤ nb_add l4 1) (h3 : nb_add l4 1 < nb_ln M l0) (h4 : l2 ≠ 0) :
    nb_R nb_P 293 77 [(3, l0), (19, l1), (20, l2), (5, l3), (0, l4), v5, v6] [(0, s0)] M = (nb_R nb_P 157 0 [(20, l2), (0, nb_rd M l0 (nb_add l4 1))] [] M).bind fun r => nb_R nb_P 293 78 [(3, l0), (19, l1), (20, l2), (5, l3), (0, l4), v5, v6] (r.1 ++ [(0, s0)]) r.2 :=
  nb_stepC (c := (true && (!decide ((l0 : Int) = 0) && (decide ((0 : Int) ≤ nb_add l4 1) && decide (nb_add l4 1 < nb_ln M l0))))) (L2 := [(3, l0), (19, l1), (20, l2), (5, l3), (0, l4), v5, v6]) (S2 := [(0, nb_rd M l0 (nb_add l4 1)), (20, l2), (0, s0)]) (M2 := M) (t := 78) (cl := 157) (vi := true) rfl (by simp [h1, h2, h3, h4]) (nb_inv_eq (n := 2) rfl rfl rfl rfl rfl rfl (fun _ => h4) rfl)
theorem q_law_law_78 (l0 l1 l2 l3 l4 s0 s1 : Int) (v5 v6 : nb_V) (M : nb_M) :
    nb_R nb_P 293 78 [(3, l0), (19, l1), (20, l2), (5, l3), (0, l4), v5, v6] [(0, s0), (0, s1)] M = if s1 = s0 then nb_R nb_P 293 239 [(3, l0), (19, l1), (20, l2), (5, l3), (0, l4), v5, v6] [] M else nb_R nb_P 293 79 [(3, l0), (19, l1), (20, l2), (5, l3), (0, l4), v5, v6] [] M :=
  nb_step (c := true) rfl rfl
theorem q_law_law_79 (v0 v1 v2 v3 v4 v5 v6 : nb_V) (M : nb_M) :
    nb_R nb_P 293 79 [v0, v1, v2, v3, v4, v5, v6] [] M = some ([(0, 0)], M) :=
  nb_step (c := true) rfl rfl
theorem q_law_law_80 (l0 l1 l2 l3 l4 : Int) (v5 v6 : nb_V) (M : nb_M) (h1 : l0 ≠ 0) (h2 : (0 : Int) ≤ nb_add l4 1) (h3 : nb_add l4 1 < nb_ln M l0) (h4 : l1 ≠ 0) :
    nb_R nb_P 293 80 [(3, l0), (19, l1), (20, l2), (5, l3), (0, l4), v5, v6] [] M = (nb_R nb_P 32 0 [(19, l1), (0, nb_rd M l0 (nb_add l4 1)), (98, 0)] [] M).bind fun r => nb_R nb_P 293 81 [(3, l0), (19, l1), (20, l2), (5, l3), (0, l4), v5, v6] (r.1 ++ []) r.2 :=
  nb_stepC (c := (true && (!decide ((l0 : Int) = 0) && (decide ((0 : Int) ≤ nb_add l4 1) && decide (nb_add l4 1 < nb_ln M l0))))) (L2 := [(3, l0), (19, l1), (20, l2), (5, l3), (0, l4), v5, v6]) (S2 := [(0, nb_rd M l0 (nb_add l4 1)), (19, l1)]) (M2 := M) (t := 81) (cl := 32) (vi := true) rfl (by simp [h1, h2, h3, h4]) (nb_inv_eq (n := 2) rfl rfl rfl rfl rfl rfl (fun _ => h4) rfl)
theorem q_law_law_81 (l0 l1 l2 l3 l4 s0 : Int) (v5 v6 : nb_V) (M : nb_M) (h1 : l0 ≠ 0) (h2 : (0 : Int) ≤ nb_add l4 1) (h3 : nb_add l4 1 < nb_ln M l0) (h4 : l2 ≠ 0) :
    nb_R nb_P 293 81 [(3, l0), (19, l1), (20, l2), (5, l3), (0, l4), v5, v6] [(0, s0)] M = (nb_R nb_P 158 0 [(20, l2), (0, nb_rd M l0 (nb_add l4 1))] [] M).bind fun r => nb_R nb_P 293 82 [(3, l0), (19, l1), (20, l2), (5, l3), (0, l4), v5, v6] (r.1 ++ [(0, s0)]) r.2 :=
  nb_stepC (c := (true && (!decide ((l0 : Int) = 0) && (decide ((0 : Int) ≤ nb_add l4 1) && decide (nb_add l4 1 < nb_ln M l0))))) (L2 := [(3, l0), (19, l1), (20, l2), (5, l3), (0, l4), v5, v6]) (S2 := [(0, nb_rd M l0 (nb_add l4 1)), (20, l2), (0, s0)]) (M2 := M) (t := 82) (cl := 158) (vi := true) rfl (by simp [h1, h2, h3, h4]) (nb_inv_eq (n := 2) rfl rfl rfl rfl rfl rfl (fun _ => h4) rfl)
theorem q_law_law_82 (l0 l1 l2 l3 l4 s0 s1 : Int) (v5 v6 : nb_V) (M : nb_M) :
    nb_R nb_P 293 82 [(3, l0), (19, l1), (20, l2), (5, l3), (0, l4), v5, v6] [(0, s0), (0, s1)] M = if s1 = s0 then nb_R nb_P 293 239 [(3, l0), (19, l1), (20, l2), (5, l3), (0, l4), v5, v6] [] M else nb_R nb_P 293 83 [(3, l0), (19, l1), (20, l2), (5, l3), (0, l4), v5, v6] [] M :=
  nb_step (c := true) rfl rfl
theorem q_law_law_83 (v0 v1 v2 v3 v4 v5 v6 : nb_V) (M : nb_M) :
    nb_R nb_P 293 83 [v0, v1, v2, v3, v4, v5, v6] [] M = some ([(0, 0)], M) :=
  nb_step (c := true) rfl rfl
theorem q_law_law_84 (l0 l1 l2 l3 l4 : Int) (v5 v6 : nb_V) (M : nb_M) (h1 : l0 ≠ 0) (h2 : (0 : Int) ≤ nb_add l4 1) (h3 : nb_add l4 1 < nb_ln M l0) (h4 : (0 : Int) ≤ nb_add l4 2) (h5 : nb_add l4 2 < nb_ln M l0) :
    nb_R nb_P 293 84 [(3, l0), (19, l1), (20, l2), (5, l3), (0, l4), v5, v6] [] M = if nb_rd M l0 (nb_add l4 2) = 0 then nb_R nb_P 293 86 [(3, l0), (19, l1), (20, l2), (5, l3), (0, l4), v5, v6] [(0, nb_rd M l0 (nb_add l4 1)), (19, l1)] M else nb_R nb_P 293 85 [(3, l0), (19, l1), (20, l2), (5, l3), (0, l4), v5, v6] [(0, nb_rd M l0 (nb_add l4 1)), (19, l1)] M :=
  nb_step (c := ((true && (!decide ((l0 : Int) = 0) && (decide ((0 : Int) ≤ nb_add l4 1) && decide (nb_add l4 1 < nb_ln M l0)))) && (!decide ((l0 : Int) = 0) && (decide ((0 : Int) ≤ nb_add l4 2) && decide (nb_add l4 2 < nb_ln M l0))))) rfl (by simp [h1, h2, h3, h4, h5])
theorem q_law_law_85 (l0 l1 l2 l3 l4 s0 s1 : Int) (v5 v6 : nb_V) (M : nb_M) :
    nb_R nb_P 293 85 [(3, l0), (19, l1), (20, l2), (5, l3), (0, l4), v5, v6] [(0, s0), (19, s1)] M = nb_R nb_P 293 87 [(3, l0), (19, l1), (20, l2), (5, l3), (0, l4), v5, v6] [(0, 1), (0, s0), (19, s1)] M :=
  nb_step (c := true) rfl rfl
theorem q_law_law_86 (l0 l1 l2 l3 l4 s0 s1 : Int) (v5 v6 : nb_V) (M : nb_M) :
    nb_R nb_P 293 86 [(3, l0), (19, l1), (20, l2), (5, l3), (0, l4), v5, v6] [(0, s0), (19, s1)] M = nb_R nb_P 293 87 [(3, l0), (19, l1), (20, l2), (5, l3), (0, l4), v5, v6] [(0, 0), (0, s0), (19, s1)] M :=
  nb_step (c := true) rfl rfl
theorem q_law_law_87 (l0 l1 l2 l3 l4 s0 s1 s2 : Int) (v5 v6 : nb_V) (M : nb_M) (h1 : l0 ≠ 0) (h2 : (0 : Int) ≤ nb_add l4 3) (h3 : nb_add l4 3 < nb_ln M l0) (h4 : s2 ≠ 0) :
    nb_R nb_P 293 87 [(3, l0), (19, l1), (20, l2), (5, l3), (0, l4), v5, v6] [(0, s0), (0, s1), (19, s2)] M = (nb_R nb_P 33 0 [(19, s2), (0, s1), (0, s0), (0, nb_rd M l0 (nb_add l4 3))] [] M).bind fun r => nb_R nb_P 293 88 [(3, l0), (19, l1), (20, l2), (5, l3), (0, l4), v5, v6] (r.1 ++ []) r.2 :=
  nb_stepC (c := (true && (!decide ((l0 : Int) = 0) && (decide ((0 : Int) ≤ nb_add l4 3) && decide (nb_add l4 3 < nb_ln M l0))))) (L2 := [(3, l0), (19, l1), (20, l2), (5, l3), (0, l4), v5, v6]) (S2 := [(0, nb_rd M l0 (nb_add l4 3)), (0, s0), (0, s1), (19, s2)]) (M2 := M) (t := 88) (cl := 33) (vi := true) rfl (by simp [h1, h2, h3, h4]) (nb_inv_eq (n := 4) rfl rfl rfl rfl rfl rfl (fun _ => h4) rfl)
theorem q_law_law_88 (l0 l1 l2 l3 l4 s0 : Int) (v5 v6 : nb_V) (M : nb_M) (h1 : l0 ≠ 0) (h2 : (0 : Int) ≤ nb_add l4 1) (h3 : nb_add l4 1 < nb_ln M l0) (h4 : (0 : Int) ≤ nb_add l4 2) (h5 : nb_add l4 2 < nb_ln M l0) :
    nb_R nb_P 293 88 [(3, l0), (19, l1), (20, l2), (5, l3), (0, l4), v5, v6] [(0, s0)] M = if nb_rd M l0 (nb_add l4 2) = 0 then nb_R nb_P 293 90 [(3, l0), (19, l1), (20, l2), (5, l3), (0, l4), v5, v6] [(0, nb_rd M l0 (nb_add l4 1)), (20, l2), (0, s0)] M else nb_R nb_P 293 89 [(3, l0), (19, l1), (20, l2), (5, l3), (0, l4), v5, v6] [(0, nb_rd M l0 (nb_add l4 1)), (20, l2), (0, s0)] M :=
  nb_step (c := ((true && (!decide ((l0 : Int) = 0) && (decide ((0 : Int) ≤ nb_add l4 1) && decide (nb_add l4 1 < nb_ln M l0)))) && (!decide ((l0 : Int) = 0) && (decide ((0 : Int) ≤ nb_add l4 2) && decide (nb_add l4 2 < nb_ln M l0))))) rfl (by simp [h1, h2, h3, h4, h5])
theorem q_law_law_89 (l0 l1 l2 l3 l4 s0 s1 s2 : Int) (v5 v6 : nb_V) (M : nb_M) :
    nb_R nb_P 293 89 [(3, l0), (19, l1), (20, l2), (5, l3), (0, l4), v5, v6] [(0, s0), (20, s1), (0, s2)] M = nb_R nb_P 293 91 [(3, l0), (19, l1), (20, l2), (5, l3), (0, l4), v5, v6] [(0, 1), (0, s0), (20, s1), (0, s2)] M :=
  nb_step (c := true) rfl rfl
theorem q_law_law_90 (l0 l1 l2 l3 l4 s0 s1 s2 : Int) (v5 v6 : nb_V) (M : nb_M) :
    nb_R nb_P 293 90 [(3, l0), (19, l1), (20, l2), (5, l3), (0, l4), v5, v6] [(0, s0), (20, s1), (0, s2)] M = nb_R nb_P 293 91 [(3, l0), (19, l1), (20, l2), (5, l3), (0, l4), v5, v6] [(0, 0), (0, s0), (20, s1), (0, s2)] M :=
  nb_step (c := true) rfl rfl
theorem q_law_law_91 (l0 l1 l2 l3 l4 s0 s1 s2 s3 : Int) (v5 v6 : nb_V) (M : nb_M) (h1 : l0 ≠ 0) (h2 : (0 : Int) ≤ nb_add l4 3) (h3 : nb_add l4 3 < nb_ln M l0) (h4 : s2 ≠ 0) :
    nb_R nb_P 293 91 [(3, l0), (19, l1), (20, l2), (5, l3), (0, l4), v5, v6] [(0, s0), (0, s1), (20, s2), (0, s3)] M = (nb_R nb_P 162 0 [(20, s2), (0, s1), (0, s0), (0, nb_rd M l0 (nb_add l4 3))] [] M).bind fun r => nb_R nb_P 293 92 [(3, l0), (19, l1), (20, l2), (5, l3), (0, l4), v5, v6] (r.1 ++ [(0, s3)]) r.2 :=
  nb_stepC (c := (true && (!decide ((l0 : Int) = 0) && (decide ((0 : Int) ≤ nb_add l4 3) && decide (nb_add l4 3 < nb_ln M l0))))) (L2 := [(3, l0), (19, l1), (20, l2), (5, l3), (0, l4), v5, v6]) (S2 := [(0, nb_rd M l0 (nb_add l4 3)), (0, s0), (0, s1), (20, s2), (0, s3)]) (M2 := M) (t := 92) (cl := 162) (vi := true) rfl (by simp [h1, h2, h3, h4]) (nb_inv_eq (n := 4) rfl rfl rfl rfl rfl rfl (fun _ => h4) rfl)
theorem q_law_law_92 (l0 l1 l2 l3 l4 s0 s1 : Int) (v5 v6 : nb_V) (M : nb_M) :
    nb_R nb_P 293 92 [(3, l0), (19, l1), (20, l2), (5, l3), (0, l4), v5, v6] [(0, s0), (0, s1)] M = if s1 = s0 then nb_R nb_P 293 239 [(3, l0), (19, l1), (20, l2), (5, l3), (0, l4), v5, v6] [] M else nb_R nb_P 293 93 [(3, l0), (19, l1), (20, l2), (5, l3), (0, l4), v5, v6] [] M :=
  nb_step (c := true) rfl rfl
theorem q_law_law_93 (v0 v1 v2 v3 v4 v5 v6 : nb_V) (M : nb_M) :
    nb_R nb_P 293 93 [v0, v1, v2, v3, v4, v5, v6] [] M = some ([(0, 0)], M) :=
  nb_step (c := true) rfl rfl
theorem q_law_law_94 (l0 l1 l2 l3 l4 : Int) (v5 v6 : nb_V) (M : nb_M) (h1 : l0 ≠ 0) (h2 : (0 : Int) ≤ nb_add l4 1) (h3 : nb_add l4 1 < nb_ln M l0) :
    nb_R nb_P 293 94 [(3, l0), (19, l1), (20, l2), (5, l3), (0, l4), v5, v6] [] M = if nb_rd M l0 (nb_add l4 1) = 0 then nb_R nb_P 293 96 [(3, l0), (19, l1), (20, l2), (5, l3), (0, l4), v5, v6] [(19, l1)] M else nb_R nb_P 293 95 [(3, l0), (19, l1), (20, l2), (5, l3), (0, l4), v5, v6] [(19, l1)] M :=
  nb_step (c := (true && (!decide ((l0 : Int) = 0) && (decide ((0 : Int) ≤ nb_add l4 1) && decide (nb_add l4 1 < nb_ln M l0))))) rfl (by simp [h1, h2, h3])
theorem q_law_law_95 (l0 l1 l2 l3 l4 s0 : Int) (v5 v6 : nb_V) (M : nb_M) :
    nb_R nb_P 293 95 [(3, l0), (19, l1), (20, l2), (5, l3), (0, l4), v5, v6] [(19, s0)] M = nb_R nb_P 293 97 [(3, l0), (19, l1), (20, l2), (5, l3), (0, l4), v5, v6] [(0, 1), (19, s0)] M :=
  nb_step (c := true) rfl rfl
theorem q_law_law_96 (l0 l1 l2 l3 l4 s0 : Int) (v5 v6 : nb_V) (M : nb_M) :
    nb_R nb_P 293 96 [(3, l0), (19, l1), (20, l2), (5, l3), (0, l4), v5, v6] [(19, s0)] M = nb_R nb_P 293 97 [(3, l0), (19, l1), (20, l2), (5, l3), (0, l4), v5, v6] [(0, 0), (19, s0)] M :=
  nb_step (c := true) rfl rfl
theorem q_law_law_97 (l0 l1 l2 l3 l4 s0 s1 : Int) (v5 v6 : nb_V) (M : nb_M) (h1 : s1 ≠ 0) :
    nb_R nb_P 293 97 [(3, l0), (19, l1), (20, l2), (5, l3), (0, l4), v5, v6] [(0, s0), (19, s1)] M = (nb_R nb_P 35 0 [(19, s1), (0, s0), (98, 0), (98, 0), (98, 0), (98, 0)] [] M).bind fun r => nb_R nb_P 293 98 [(3, l0), (19, l1), (20, l2), (5, l3), (0, l4), v5, v6] (r.1 ++ []) r.2 :=
  nb_stepC (c := true) (L2 := [(3, l0), (19, l1), (20, l2), (5, l3), (0, l4), v5, v6]) (S2 := [(0, s0), (19, s1)]) (M2 := M) (t := 98) (cl := 35) (vi := true) rfl rfl (nb_inv_eq (n := 2) rfl rfl rfl rfl rfl rfl (fun _ => h1) rfl)
theorem q_law_law_98 (l0 l1 l2 l3 l4 s0 : Int) (v5 v6 : nb_V) (M : nb_M) (h1 : l0 ≠ 0) (h2 : (0 : Int) ≤ nb_add l4 1) (h3 : nb_add l4 1 < nb_ln M l0) :
    nb_R nb_P 293 98 [(3, l0), (19, l1), (20, l2), (5, l3), (0, l4), v5, v6] [(0, s0)] M = if nb_rd M l0 (nb_add l4 1) = 0 then nb_R nb_P 293 100 [(3, l0), (19, l1), (20, l2), (5, l3), (0, l4), v5, v6] [(20, l2), (0, s0)] M else nb_R nb_P 293 99 [(3, l0), (19, l1), (20, l2), (5, l3), (0, l4), v5, v6] [(20, l2), (0, s0)] M :=
  nb_step (c := (true && (!decide ((l0 : Int) = 0) && (decide ((0 : Int) ≤ nb_add l4 1) && decide (nb_add l4 1 < nb_ln M l0))))) rfl (by simp [h1, h2, h3])
theorem q_law_law_99 (l0 l1 l2 l3 l4 s0 s1 : Int) (v5 v6 : nb_V) (M : nb_M) :
    nb_R nb_P 293 99 [(3, l0), (19, l1), (20, l2), (5, l3), (0, l4), v5, v6] [(20, s0), (0, s1)] M = nb_R nb_P 293 101 [(3, l0), (19, l1), (20, l2), (5, l3), (0, l4), v5, v6] [(0, 1), (20, s0), (0, s1)] M :=
  nb_step (c := true) rfl rfl
theorem q_law_law_100 (l0 l1 l2 l3 l4 s0 s1 : Int) (v5 v6 : nb_V) (M : nb_M) :
    nb_R nb_P 293 100 [(3, l0), (19, l1), (20, l2), (5, l3), (0, l4), v5, v6] [(20, s0), (0, s1)] M = nb_R nb_P 293 101 [(3, l0), (19, l1), (20, l2), (5, l3), (0, l4), v5, v6] [(0, 0), (20, s0), (0, s1)] M :=
  nb_step (c := true) rfl rfl
theorem q_law_law_101 (l0 l1 l2 l3 l4 s0 s1 s2 : Int) (v5 v6 : nb_V) (M : nb_M) (h1 : s1 ≠ 0) :
    nb_R nb_P 293 101 [(3, l0), (19, l1), (20, l2), (5, l3), (0, l4), v5, v6] [(0, s0), (20, s1), (0, s2)] M = (nb_R nb_P 163 0 [(20, s1), (0, s0), (98, 0), (98, 0), (98, 0), (98, 0)] [] M).bind fun r => nb_R nb_P 293 102 [(3, l0), (19, l1), (20, l2), (5, l3), (0, l4), v5, v6] (r.1 ++ [(0, s2)]) r.2 :=
  nb_stepC (c := true) (L2 := [(3, l0), (19, l1), (20, l2), (5, l3), (0, l4), v5, v6]) (S2 := [(0, s0), (20, s1), (0, s2)]) (M2 := M) (t := 102) (cl := 163) (vi := true) rfl rfl (nb_inv_eq (n := 2) rfl rfl rfl rfl rfl rfl (fun _ => h1) rfl)
theorem q_law_law_102 (l0 l1 l2 l3 l4 s0 s1 : Int) (v5 v6 : nb_V) (M : nb_M) :
    nb_R nb_P 293 102 [(3, l0), (19, l1), (20, l2), (5, l3), (0, l4), v5, v6] [(0, s0), (0, s1)] M = if s1 = s0 then nb_R nb_P 293 239 [(3, l0), (19, l1), (20, l2), (5, l3), (0, l4), v5, v6] [] M else nb_R nb_P 293 103 [(3, l0), (19, l1), (20, l2), (5, l3), (0, l4), v5, v6] [] M :=
  nb_step (c := true) rfl rfl
theorem q_law_law_103 (v0 v1 v2 v3 v4 v5 v6 : nb_V) (M : nb_M) :
    nb_R nb_P 293 103 [v0, v1, v2, v3, v4, v5, v6] [] M = some ([(0, 0)], M) :=
  nb_step (c := true) rfl rfl
theorem q_law_law_104 (l0 l1 l2 l3 l4 : Int) (v5 v6 : nb_V) (M : nb_M) (h1 : l1 ≠ 0) :
    nb_R nb_P 293 104 [(3, l0), (19, l1), (20, l2), (5, l3), (0, l4), v5, v6] [] M = (nb_R nb_P 36 0 [(19, l1), (98, 0), (98, 0)] [] M).bind fun r => nb_R nb_P 293 105 [(3, l0), (19, l1), (20, l2), (5, l3), (0, l4), v5, v6] (r.1 ++ []) r.2 :=
  nb_stepC (c := true) (L2 := [(3, l0), (19, l1), (20, l2), (5, l3), (0, l4), v5, v6]) (S2 := [(19, l1)]) (M2 := M) (t := 105) (cl := 36) (vi := true) rfl rfl (nb_inv_eq (n := 1) rfl rfl rfl rfl rfl rfl (fun _ => h1) rfl)
theorem q_law_law_105 (l0 l1 l2 l3 l4 s0 : Int) (v5 v6 : nb_V) (M : nb_M) (h1 : l2 ≠ 0) :
    nb_R nb_P 293 105 [(3, l0), (19, l1), (20, l2), (5, l3), (0, l4), v5, v6] [(0, s0)] M = (nb_R nb_P 164 0 [(20, l2), (98, 0), (98, 0), (98, 0), (98, 0)] [] M).bind fun r => nb_R nb_P 293 106 [(3, l0), (19, l1), (20, l2), (5, l3), (0, l4), v5, v6] (r.1 ++ [(0, s0)]) r.2 :=
  nb_stepC (c := true) (L2 := [(3, l0), (19, l1), (20, l2), (5, l3), (0, l4), v5, v6]) (S2 := [(20, l2), (0, s0)]) (M2 := M) (t := 106) (cl := 164) (vi := true) rfl rfl (nb_inv_eq (n := 1) rfl rfl rfl rfl rfl rfl (fun _ => h1) rfl)
theorem q_law_law_106 (l0 l1 l2 l3 l4 s0 s1 : Int) (v5 v6 : nb_V) (M : nb_M) :
    nb_R nb_P 293 106 [(3, l0), (19, l1), (20, l2), (5, l3), (0, l4), v5, v6] [(0, s0), (0, s1)] M = if s1 = s0 then nb_R nb_P 293 239 [(3, l0), (19, l1), (20, l2), (5, l3), (0, l4), v5, v6] [] M else nb_R nb_P 293 107 [(3, l0), (19, l1), (20, l2), (5, l3), (0, l4), v5, v6] [] M :=
  nb_step (c := true) rfl rfl
theorem q_law_law_107 (v0 v1 v2 v3 v4 v5 v6 : nb_V) (M : nb_M) :
    nb_R nb_P 293 107 [v0, v1, v2, v3, v4, v5, v6] [] M = some ([(0, 0)], M) :=
  nb_step (c := true) rfl rfl
theorem q_law_law_108 (l0 l1 l2 l3 l4 : Int) (v5 v6 : nb_V) (M : nb_M) (h1 : l0 ≠ 0) (h2 : (0 : Int) ≤ nb_add l4 1) (h3 : nb_add l4 1 < nb_ln M l0) (h4 : l1 ≠ 0) :
    nb_R nb_P 293 108 [(3, l0), (19, l1), (20, l2), (5, l3), (0, l4), v5, v6] [] M = (nb_R nb_P 37 0 [(19, l1), (0, nb_rd M l0 (nb_add l4 1)), (98, 0), (98, 0)] [] M).bind fun r => nb_R nb_P 293 109 [(3, l0), (19, l1), (20, l2), (5, l3), (0, l4), v5, v6] (r.1 ++ []) r.2 :=
  nb_stepC (c := (true && (!decide ((l0 : Int) = 0) && (decide ((0 : Int) ≤ nb_add l4 1) && decide (nb_add l4 1 < nb_ln M l0))))) (L2 := [(3, l0), (19, l1), (20, l2), (5, l3), (0, l4), v5, v6]) (S2 := [(0, nb_rd M l0 (nb_add l4 1)), (19, l1)]) (M2 := M) (t := 109) (cl := 37) (vi := true) rfl (by simp [h1, h2, h3, h4]) (nb_inv_eq (n := 2) rfl rfl rfl rfl rfl rfl (fun _ => h4) rfl)
theorem q_law_law_109 (l0 l1 l2 l3 l4 s0 : Int) (v5 v6 : nb_V) (M : nb_M) (h1 : l0 ≠ 0) (h2 : (0 : Int) ≤ nb_add l4 1) (h3 : nb_add l4 1 < nb_ln M l0) (h4 : l2 ≠ 0) :
    nb_R nb_P 293 109 [(3, l0), (19, l1), (20, l2), (5, l3), (0, l4), v5, v6] [(0, s0)] M = (nb_R nb_P 166 0 [(20, l2), (0, nb_rd M l0 (nb_add l4 1)), (98, 0)] [] M).bind fun r => nb_R nb_P 293 110 [(3, l0), (19, l1), (20, l2), (5, l3), (0, l4), v5, v6] (r.1 ++ [(0, s0)]) r.2 :=
  nb_stepC (c := (true && (!decide ((l0 : Int) = 0) && (decide ((0 : Int) ≤ nb_add l4 1) && decide (nb_add l4 1 < nb_ln M l0))))) (L2 := [(3, l0), (19, l1), (20, l2), (5, l3), (0, l4), v5, v6]) (S2 := [(0, nb_rd M l0 (nb_add l4 1)), (20, l2), (0, s0)]) (M2 := M) (t := 110) (cl := 166) (vi := true) rfl (by simp [h1, h2, h3, h4]) (nb_inv_eq (n := 2) rfl rfl rfl rfl rfl rfl (fun _ => h4) rfl)
theorem q_law_law_110 (l0 l1 l2 l3 l4 s0 s1 : Int) (v5 v6 : nb_V) (M : nb_M) :
    nb_R nb_P 293 110 [(3, l0), (19, l1), (20, l2), (5, l3), (0, l4), v5, v6] [(0, s0), (0, s1)] M = if s1 = s0 then nb_R nb_P 293 239 [(3, l0), (19, l1), (20, l2), (5, l3), (0, l4), v5, v6] [] M else nb_R nb_P 293 111 [(3, l0), (19, l1), (20, l2), (5, l3), (0, l4), v5, v6] [] M :=
  nb_step (c := true) rfl rfl
theorem q_law_law_111 (v0 v1 v2 v3 v4 v5 v6 : nb_V) (M : nb_M) :
    nb_R nb_P 293 111 [v0, v1, v2, v3, v4, v5, v6] [] M = some ([(0, 0)], M) :=
  nb_step (c := true) rfl rfl
theorem q_law_law_112 (l0 l1 l2 l3 l4 : Int) (v5 v6 : nb_V) (M : nb_M) (h1 : l0 ≠ 0) (h2 : (0 : Int) ≤ nb_add l4 1) (h3 : nb_add l4 1 < nb_ln M l0) (h4 : l1 ≠ 0) :
    nb_R nb_P 293 112 [(3, l0), (19, l1), (20, l2), (5, l3), (0, l4), v5, v6] [] M = (nb_R nb_P 39 0 [(19, l1), (0, nb_rd M l0 (nb_add l4 1)), (98, 0), (98, 0), (98, 0), (98, 0)] [] M).bind fun r => nb_R nb_P 293 113 [(3, l0), (19, l1), (20, l2), (5, l3), (0, l4), v5, v6] (r.1 ++ []) r.2 :=
  nb_stepC (c := (true && (!decide ((l0 : Int) = 0) && (decide ((0 : Int) ≤ nb_add l4 1) && decide (nb_add l4 1 < nb_ln M l0))))) (L2 := [(3, l0), (19, l1), (20, l2), (5, l3), (0, l4), v5, v6]) (S2 := [(0, nb_rd M l0 (nb_add l4 1)), (19, l1)]) (M2 := M) (t := 113) (cl := 39) (vi := true) rfl (by simp [h1, h2, h3, h4]) (nb_inv_eq (n := 2) rfl rfl rfl rfl rfl rfl (fun _ => h4) rfl)
theorem q_law_law_113 (l0 l1 l2 l3 l4 s0 : Int) (v5 v6 : nb_V) (M : nb_M) (h1 : l0 ≠ 0) (h2 : (0 : Int) ≤ nb_add l4 1) (h3 : nb_add l4 1 < nb_ln M l0) (h4 : l2 ≠ 0) :
    nb_R nb_P 293 113 [(3, l0), (19, l1), (20, l2), (5, l3), (0, l4), v5, v6] [(0, s0)] M = (nb_R nb_P 168 0 [(20, l2), (0, nb_rd M l0 (nb_add l4 1)), (98, 0), (98, 0), (98, 0), (98, 0), (98, 0), (98, 0)] [] M).bind fun r => nb_R nb_P 293 114 [(3, l0), (19, l1), (20, l2), (5, l3), (0, l4), v5, v6] (r.1 ++ [(0, s0)]) r.2 :=
  nb_stepC (c := (true && (!decide ((l0 : Int) = 0) && (decide ((0 : Int) ≤ nb_add l4 1) && decide (nb_add l4 1 < nb_ln M l0))))) (L2 := [(3, l0), (19, l1), (20, l2), (5, l3), (0, l4), v5, v6]) (S2 := [(0, nb_rd M l0 (nb_add l4 1)), (20, l2), (0, s0)]) (M2 := M) (t := 114) (cl := 168) (vi := true) rfl (by simp [h1, h2, h3, h4]) (nb_inv_eq (n := 2) rfl rfl rfl rfl rfl rfl (fun _ => h4) rfl)
theorem q_law_law_114 (l0 l1 l2 l3 l4 s0 s1 : Int) (v5 v6 : nb_V) (M : nb_M) :
    nb_R nb_P 293 114 [(3, l0), (19, l1), (20, l2), (5, l3), (0, l4), v5, v6] [(0, s0), (0, s1)] M = if s1 = s0 then nb_R nb_P 293 239 [(3, l0), (19, l1), (20, l2), (5, l3), (0, l4), v5, v6] [] M else nb_R nb_P 293 115 [(3, l0), (19, l1), (20, l2), (5, l3), (0, l4), v5, v6] [] M :=
  nb_step (c := true) rfl rfl
theorem q_law_law_115 (v0 v1 v2 v3 v4 v5 v6 : nb_V) (M : nb_M) :
    nb_R nb_P 293 115 [v0, v1, v2, v3, v4, v5, v6] [] M = some ([(0, 0)], M) :=
  nb_step (c := true) rfl rfl
theorem q_law_law_116 (l0 l1 l2 l3 l4 : Int) (v5 v6 : nb_V) (M : nb_M) (h1 : l0 ≠ 0) (h2 : (0 : Int) ≤ nb_add l4 1) (h3 : nb_add l4 1 < nb_ln M l0) (h4 : l1 ≠ 0) :
    nb_R nb_P 293 116 [(3, l0), (19, l1), (20, l2), (5, l3), (0, l4), v5, v6] [] M = (nb_R nb_P 40 0 [(19, l1), (0, nb_rd M l0 (nb_add l4 1)), (98, 0), (98, 0), (98, 0), (98, 0)] [] M).bind fun r => nb_R nb_P 293 117 [(3, l0), (19, l1), (20, l2), (5, l3), (0, l4), v5, v6] (r.1 ++ []) r.2 :=
  nb_stepC (c := (true && (!decide ((l0 : Int) = 0) && (decide ((0 : Int) ≤ nb_add l4 1) && decide (nb_add l4 1 < nb_ln M l0))))) (L2 := [(3, l0), (19, l1), (20, l2), (5, l3), (0, l4), v5, v6]) (S2 := [(0, nb_rd M l0 (nb_add l4 1)), (19, l1)]) (M2 := M) (t := 117) (cl := 40) (vi := true) rfl (by simp [h1, h2, h3, h4]) (nb_inv_eq (n := 2) rfl rfl rfl rfl rfl rfl (fun _ => h4) rfl)
theorem q_law_law_117 (l0 l1 l2 l3 l4 s0 : Int) (v5 v6 : nb_V) (M : nb_M) (h1 : l0 ≠ 0) (h2 : (0 : Int) ≤ nb_add l4 1) (h3 : nb_add l4 1 < nb_ln M l0) (h4 : l2 ≠ 0) :
    nb_R nb_P 293 117 [(3, l0), (19, l1), (20, l2), (5, l3), (0, l4), v5, v6] [(0, s0)] M = (nb_R nb_P 170 0 [(20, l2), (0, nb_rd M l0 (nb_add l4 1)), (98, 0), (98, 0), (98, 0), (98, 0), (98, 0), (98, 0)] [] M).bind fun r => nb_R nb_P 293 118 [(3, l0), (19, l1), (20, l2), (5, l3), (0, l4), v5, v6] (r.1 ++ [(0, s0)]) r.2 :=
  nb_stepC (c := (true && (!decide ((l0 : Int) = 0) && (decide ((0 : Int) ≤ nb_add l4 1) && decide (nb_add l4 1 < nb_ln M l0))))) (L2 := [(3, l0), (19, l1), (20, l2), (5, l3), (0, l4), v5, v6]) (S2 := [(0, nb_rd M l0 (nb_add l4 1)), (20, l2), (0, s0)]) (M2 := M) (t := 118) (cl := 170) (vi := true) rfl (by simp [h1, h2, h3, h4]) (nb_inv_eq (n := 2) rfl rfl rfl rfl rfl rfl (fun _ => h4) rfl)
theorem q_law_law_118 (l0 l1 l2 l3 l4 s0 s1 : Int) (v5 v6 : nb_V) (M : nb_M) :
    nb_R nb_P 293 118 [(3, l0), (19, l1), (20, l2), (5, l3), (0, l4), v5, v6] [(0, s0), (0, s1)] M = if s1 = s0 then nb_R nb_P 293 239 [(3, l0), (19, l1), (20, l2), (5, l3), (0, l4), v5, v6] [] M else nb_R nb_P 293 119 [(3, l0), (19, l1), (20, l2), (5, l3), (0, l4), v5, v6] [] M :=
  nb_step (c := true) rfl rfl
theorem q_law_law_119 (v0 v1 v2 v3 v4 v5 v6 : nb_V) (M : nb_M) :
    nb_R nb_P 293 119 [v0, v1, v2, v3, v4, v5, v6] [] M = some ([(0, 0)], M) :=
  nb_step (c := true) rfl rfl
theorem q_law_law_120 (l0 l1 l2 l3 l4 : Int) (v5 v6 : nb_V) (M : nb_M) (h1 : l1 ≠ 0) :
    nb_R nb_P 293 120 [(3, l0), (19, l1), (20, l2), (5, l3), (0, l4), v5, v6] [] M = (nb_R nb_P 41 0 [(19, l1)] [] M).bind fun r => nb_R nb_P 293 121 [(3, l0), (19, l1), (20, l2), (5, l3), (0, l4), v5, v6] (r.1 ++ []) r.2 :=
  nb_stepC (c := true) (L2 := [(3, l0), (19, l1), (20, l2), (5, l3), (0, l4), v5, v6]) (S2 := [(19, l1)]) (M2 := M) (t := 121) (cl := 41) (vi := true) rfl rfl (nb_inv_eq (n := 1) rfl rfl rfl rfl rfl rfl (fun _ => h1) rfl)
theorem q_law_law_121 (l0 l1 l2 l3 l4 s0 : Int) (v5 v6 : nb_V) (M : nb_M) (h1 : l2 ≠ 0) :
    nb_R nb_P 293 121 [(3, l0), (19, l1), (20, l2), (5, l3), (0, l4), v5, v6] [(0, s0)] M = (nb_R nb_P 173 0 [(20, l2), (98, 0)] [] M).bind fun r => nb_R nb_P 293 122 [(3, l0), (19, l1), (20, l2), (5, l3), (0, l4), v5, v6] (r.1 ++ [(0, s0)]) r.2 :=
  nb_stepC (c := true) (L2 := [(3, l0), (19, l1), (20, l2), (5, l3), (0, l4), v5, v6]) (S2 := [(20, l2), (0, s0)]) (M2 := M) (t := 122) (cl := 173) (vi := true) rfl rfl (nb_inv_eq (n := 1) rfl rfl rfl rfl rfl rfl (fun _ => h1) rfl)
theorem q_law_law_122 (l0 l1 l2 l3 l4 s0 s1 : Int) (v5 v6 : nb_V) (M : nb_M) :
    nb_R nb_P 293 122 [(3, l0), (19, l1), (20, l2), (5, l3), (0, l4), v5, v6] [(0, s0), (0, s1)] M = if s1 = s0 then nb_R nb_P 293 239 [(3, l0), (19, l1), (20, l2), (5, l3), (0, l4), v5, v6] [] M else nb_R nb_P 293 123 [(3, l0), (19, l1), (20, l2), (5, l3), (0, l4), v5, v6] [] M :=
  nb_step (c := true) rfl rfl
theorem q_law_law_123 (v0 v1 v2 v3 v4 v5 v6 : nb_V) (M : nb_M) :
    nb_R nb_P 293 123 [v0, v1, v2, v3, v4, v5, v6] [] M = some ([(0, 0)], M) :=
  nb_step (c := true) rfl rfl
theorem q_law_law_124 (l0 l1 l2 l3 l4 : Int) (v5 v6 : nb_V) (M : nb_M) (h1 : l1 ≠ 0) :
    nb_R nb_P 293 124 [(3, l0), (19, l1), (20, l2), (5, l3), (0, l4), v5, v6] [] M = (nb_R nb_P 42 0 [(19, l1)] [] M).bind fun r => nb_R nb_P 293 125 [(3, l0), (19, l1), (20, l2), (5, l3), (0, l4), v5, v6] (r.1 ++ []) r.2 :=
  nb_stepC (c := true) (L2 := [(3, l0), (19, l1), (20, l2), (5, l3), (0, l4), v5, v6]) (S2 := [(19, l1)]) (M2 := M) (t := 125) (cl := 42) (vi := true) rfl rfl (nb_inv_eq (n := 1) rfl rfl rfl rfl rfl rfl (fun _ => h1) rfl)
theorem q_law_law_125 (l0 l1 l2 l3 l4 s0 : Int) (v5 v6 : nb_V) (M : nb_M) (h1 : l2 ≠ 0) :
    nb_R nb_P 293 125 [(3, l0), (19, l1), (20, l2), (5, l3), (0, l4), v5, v6] [(0, s0)] M = (nb_R nb_P 174 0 [(20, l2), (98, 0)] [] M).bind fun r => nb_R nb_P 293 126 [(3, l0), (19, l1), (20, l2), (5, l3), (0, l4), v5, v6] (r.1 ++ [(0, s0)]) r.2 :=
  nb_stepC (c := true) (L2 := [(3, l0), (19, l1), (20, l2), (5, l3), (0, l4), v5, v6]) (S2 := [(20, l2), (0, s0)]) (M2 := M) (t := 126) (cl := 174) (vi := true) rfl rfl (nb_inv_eq (n := 1) rfl rfl rfl rfl rfl rfl (fun _ => h1) rfl)
theorem q_law_law_126 (l0 l1 l2 l3 l4 s0 s1 : Int) (v5 v6 : nb_V) (M : nb_M) :
    nb_R nb_P 293 126 [(3, l0), (19, l1), (20, l2), (5, l3), (0, l4), v5, v6] [(0, s0), (0, s1)] M = if s1 = s0 then nb_R nb_P 293 239 [(3, l0), (19, l1), (20, l2), (5, l3), (0, l4), v5, v6] [] M else nb_R nb_P 293 127 [(3, l0), (19, l1), (20, l2), (5, l3), (0, l4), v5, v6] [] M :=
  nb_step (c := true) rfl rfl
theorem q_law_law_127 (v0 v1 v2 v3 v4 v5 v6 : nb_V) (M : nb_M) :
    nb_R nb_P 293 127 [v0, v1, v2, v3, v4, v5, v6] [] M = some ([(0, 0)], M) :=
  nb_step (c := true) rfl rfl
theorem q_law_law_128 (l0 l1 l2 l3 l4 : Int) (v5 v6 : nb_V) (M : nb_M) (h1 : l0 ≠ 0) (h2 : (0 : Int) ≤ nb_add l4 1) (h3 : nb_add l4 1 < nb_ln M l0) (h4 : l1 ≠ 0) :
    nb_R nb_P 293 128 [(3, l0), (19, l1), (20, l2), (5, l3), (0, l4), v5, v6] [] M = (nb_R nb_P 46 0 [(19, l1), (0, nb_rd M l0 (nb_add l4 1)), (98, 0), (98, 0), (98, 0), (98, 0)] [] M).bind fun r => nb_R nb_P 293 129 [(3, l0), (19, l1), (20, l2), (5, l3), (0, l4), v5, v6] (r.1 ++ []) r.2 :=
  nb_stepC (c := (true && (!decide ((l0 : Int) = 0) && (decide ((0 : Int) ≤ nb_add l4 1) && decide (nb_add l4 1 < nb_ln M l0))))) (L2 := [(3, l0), (19, l1), (20, l2), (5, l3), (0, l4), v5, v6]) (S2 := [(0, nb_rd M l0 (nb_add l4 1)), (19, l1)]) (M2 := M) (t := 129) (cl := 46) (vi := true) rfl (by simp [h1, h2, h3, h4]) (nb_inv_eq (n := 2) rfl rfl rfl rfl rfl rfl (fun _ => h4) rfl)
theorem q_law_law_129 (l0 l1 l2 l3 l4 s0 : Int) (v5 v6 : nb_V) (M : nb_M) (h1 : l0 ≠ 0) (h2 : (0 : Int) ≤ nb_add l4 1) (h3 : nb_add l4 1 < nb_ln M l0) (h4 : l2 ≠ 0) :
    nb_R nb_P 293 129 [(3, l0), (19, l1), (20, l2), (5, l3), (0, l4), v5, v6] [(0, s0)] M = (nb_R nb_P 171 0 [(20, l2), (0, nb_rd M l0 (nb_add l4 1)), (98, 0), (98, 0), (98, 0), (98, 0), (98, 0), (98, 0)] [] M).bind fun r => nb_R nb_P 293 130 [(3, l0), (19, l1), (20, l2), (5, l3), (0, l4), v5, v6] (r.1 ++ [(0, s0)]) r.2 :=
  nb_stepC (c := (true && (!decide ((l0 : Int) = 0) && (decide ((0 : Int) ≤ nb_add l4 1) && decide (nb_add l4 1 < nb_ln M l0))))) (L2 := [(3, l0), (19, l1), (20, l2), (5, l3), (0, l4), v5, v6]) (S2 := [(0, nb_rd M l0 (nb_add l4 1)), (20, l2), (0, s0)]) (M2 := M) (t := 130) (cl := 171) (vi := true) rfl (by simp [h1, h2, h3, h4]) (nb_inv_eq (n := 2) rfl rfl rfl rfl rfl rfl (fun _ => h4) rfl)
theorem q_law_law_130 (l0 l1 l2 l3 l4 s0 s1 : Int) (v5 v6 : nb_V) (M : nb_M) :
    nb_R nb_P 293 130 [(3, l0), (19, l1), (20, l2), (5, l3), (0, l4), v5, v6] [(0, s0), (0, s1)] M = if s1 = s0 then nb_R nb_P 293 239 [(3, l0), (19, l1), (20, l2), (5, l3), (0, l4), v5, v6] [] M else nb_R nb_P 293 131 [(3, l0), (19, l1), (20, l2), (5, l3), (0, l4), v5, v6] [] M :=
  nb_step (c := true) rfl rfl
theorem q_law_law_131 (v0 v1 v2 v3 v4 v5 v6 : nb_V) (M : nb_M) :
    nb_R nb_P 293 131 [v0, v1, v2, v3, v4, v5, v6] [] M = some ([(0, 0)], M) :=
  nb_step (c := true) rfl rfl
theorem q_law_law_132 (l0 l1 l2 l3 l4 : Int) (v5 v6 : nb_V) (M : nb_M) (h1 : l0 ≠ 0) (h2 : (0 : Int) ≤ nb_add l4 1) (h3 : nb_add l4 1 < nb_ln M l0) (h4 : (0 : Int) ≤ nb_add l4 2) (h5 : nb_add l4 2 < nb_ln M l0) (h6 : l1 ≠ 0) :
    nb_R nb_P 293 132 [(3, l0), (19, l1), (20, l2), (5, l3), (0, l4), v5, v6] [] M = (nb_R nb_P 47 0 [(19, l1), (0, nb_rd M l0 (nb_add l4 1)), (0, nb_rd M l0 (nb_add l4 2)), (98, 0), (98, 0)] [] M).bind fun r => nb_R nb_P 293 133 [(3, l0), (19, l1), (20, l2), (5, l3), (0, l4), v5, v6] (r.1 ++ []) r.2 :=
  nb_stepC (c := ((true && (!decide ((l0 : Int) = 0) && (decide ((0 : Int) ≤ nb_add l4 1) && decide (nb_add l4 1 < nb_ln M l0)))) && (!decide ((l0 : Int) = 0) && (decide ((0 : Int) ≤ nb_add l4 2) && decide (nb_add l4 2 < nb_ln M l0))))) (L2 := [(3, l0), (19, l1), (20, l2), (5, l3), (0, l4), v5, v6]) (S2 := [(0, nb_rd M l0 (nb_add l4 2)), (0, nb_rd M l0 (nb_add l4 1)), (19, l1)]) (M2 := M) (t := 133) (cl := 47) (vi := true) rfl (by simp [h1, h2, h3, h4, h5, h6]) (nb_inv_eq (n := 3) rfl rfl rfl rfl rfl rfl (fun _ => h6) rfl)
theorem q_law_law_133 (l0 l1 l2 l3 l4 s0 : Int) (v5 v6 : nb_V) (M : nb_M) (h1 : l0 ≠ 0) (h2 : (0 : Int) ≤ nb_add l4 1) (h3 : nb_add l4 1 < nb_ln M l0) (h4 : (0 : Int) ≤ nb_add l4 2) (h5 : nb_add l4 2 < nb_ln M l0) (h6 : l2 ≠ 0) :
    nb_R nb_P 293 133 [(3, l0), (19, l1), (20, l2), (5, l3), (0, l4), v5, v6] [(0, s0)] M = (nb_R nb_P 176 0 [(20, l2), (0, nb_rd M l0 (nb_add l4 1)), (0, nb_rd M l0 (nb_add l4 2)), (98, 0), (98, 0), (98, 0)] [] M).bind fun r => nb_R nb_P 293 134 [(3, l0), (19, l1), (20, l2), (5, l3), (0, l4), v5, v6] (r.1 ++ [(0, s0)]) r.2 :=
  nb_stepC (c := ((true && (!decide ((l0 : Int) = 0) && (decide ((0 : Int) ≤ nb_add l4 1) && decide (nb_add l4 1 < nb_ln M l0)))) && (!decide ((l0 : Int) = 0) && (decide ((0 : Int) ≤ nb_add l4 2) && decide (nb_add l4 2 < nb_ln M l0))))) (L2 := [(3, l0), (19, l1), (20, l2), (5, l3), (0, l4), v5, v6]) (S2 := [(0, nb_rd M l0 (nb_add l4 2)), (0, nb_rd M l0 (nb_add l4 1)), (20, l2), (0, s0)]) (M2 := M) (t := 134) (cl := 176) (vi := true) rfl (by simp [h1, h2, h3, h4, h5, h6]) (nb_inv_eq (n := 3) rfl rfl rfl rfl rfl rfl (fun _ => h6) rfl)
theorem q_law_law_134 (l0 l1 l2 l3 l4 s0 s1 : Int) (v5 v6 : nb_V) (M : nb_M) :
    nb_R nb_P 293 134 [(3, l0), (19, l1), (20, l2), (5, l3), (0, l4), v5, v6] [(0, s0), (0, s1)] M = if s1 = s0 then nb_R nb_P 293 239 [(3, l0), (19, l1), (20, l2), (5, l3), (0, l4), v5, v6] [] M else nb_R nb_P 293 135 [(3, l0), (19, l1), (20, l2), (5, l3), (0, l4), v5, v6] [] M :=
  nb_step (c := true) rfl rfl
theorem q_law_law_135 (v0 v1 v2 v3 v4 v5 v6 : nb_V) (M : nb_M) :
    nb_R nb_P 293 135 [v0, v1, v2, v3, v4, v5, v6] [] M = some ([(0, 0)], M) :=
  nb_step (c := true) rfl rfl
theorem q_law_law_136 (l0 l1 l2 l3 l4 : Int) (v5 v6 : nb_V) (M : nb_M) (h1 : l0 ≠ 0) (h2 : (0 : Int) ≤ nb_add l4 1) (h3 : nb_add l4 1 < nb_ln M l0) (h4 : (0 : Int) ≤ nb_add l4 2) (h5 : nb_add l4 2 < nb_ln M l0) (h6 : l1 ≠ 0) :
    nb_R nb_P 293 136 [(3, l0), (19, l1), (20, l2), (5, l3), (0, l4), v5, v6] [] M = (nb_R nb_P 50 0 [(19, l1), (0, nb_rd M l0 (nb_add l4 1)), (0, nb_rd M l0 (nb_add l4 2)), (98, 0)] [] M).bind fun r => nb_R nb_P 293 137 [(3, l0), (19, l1), (20, l2), (5, l3), (0, l4), v5, v6] (r.1 ++ []) r.2 :=
  nb_stepC (c := ((true && (!decide ((l0 : Int) = 0) && (decide ((0 : Int) ≤ nb_add l4 1) && decide (nb_add l4 1 < nb_ln M l0)))) && (!decide ((l0 : Int) = 0) && (decide ((0 : Int) ≤ nb_add l4 2) && decide (nb_add l4 2 < nb_ln M l0))))) (L2 := [(3, l0), (19, l1), (20, l2), (5, l3), (0, l4), v5, v6]) (S2 := [(0, nb_rd M l0 (nb_add l4 2)), (0, nb_rd M l0 (nb_add l4 1)), (19, l1)]) (M2 := M) (t := 137) (cl := 50) (vi := true) rfl (by simp [h1, h2, h3, h4, h5, h6]) (nb_inv_eq (n := 3) rfl rfl rfl rfl rfl rfl (fun _ => h6) rfl)
theorem q_law_law_137 (l0 l1 l2 l3 l4 s0 : Int) (v5 v6 : nb_V) (M : nb_M) (h1 : l0 ≠ 0) (h2 : (0 : Int) ≤ nb_add l4 1) (h3 : nb_add l4 1 < nb_ln M l0) (h4 : (0 : Int) ≤ nb_add l4 2) (h5 : nb_add l4 2 < nb_ln M l0) (h6 : l2 ≠ 0) :
    nb_R nb_P 293 137 [(3, l0), (19, l1), (20, l2), (5, l3), (0, l4), v5, v6] [(0, s0)] M = (nb_R nb_P 160 0 [(20, l2), (0, nb_rd M l0 (nb_add l4 1)), (0, nb_rd M l0 (nb_add l4 2))] [] M).bind fun r => nb_R nb_P 293 138 [(3, l0), (19, l1), (20, l2), (5, l3), (0, l4), v5, v6] (r.1 ++ [(0, s0)]) r.2 :=
  nb_stepC (c := ((true && (!decide ((l0 : Int) = 0) && (decide ((0 : Int) ≤ nb_add l4 1) && decide (nb_add l4 1 < nb_ln M l0)))) && (!decide ((l0 : Int) = 0) && (decide ((0 : Int) ≤ nb_add l4 2) && decide (nb_add l4 2 < nb_ln M l0))))) (L2 := [(3, l0), (19, l1), (20, l2), (5, l3), (0, l4), v5, v6]) (S2 := [(0, nb_rd M l0 (nb_add l4 2)), (0, nb_rd M l0 (nb_add l4 1)), (20, l2), (0, s0)]) (M2 := M) (t := 138) (cl := 160) (vi := true) rfl (by simp [h1, h2, h3, h4, h5, h6]) (nb_inv_eq (n := 3) rfl rfl rfl rfl rfl rfl (fun _ => h6) rfl)
theorem q_law_law_138 (l0 l1 l2 l3 l4 s0 s1 : Int) (v5 v6 : nb_V) (M : nb_M) :
    nb_R nb_P 293 138 [(3, l0), (19, l1), (20, l2), (5, l3), (0, l4), v5, v6] [(0, s0), (0, s1)] M = if s1 = s0 then nb_R nb_P 293 239 [(3, l0), (19, l1), (20, l2), (5, l3), (0, l4), v5, v6] [] M else nb_R nb_P 293 139 [(3, l0), (19, l1), (20, l2), (5, l3), (0, l4), v5, v6] [] M :=
  nb_step (c := true) rfl rfl
theorem q_law_law_139 (v0 v1 v2 v3 v4 v5 v6 : nb_V) (M : nb_M) :
    nb_R nb_P 293 139 [v0, v1, v2, v3, v4, v5, v6] [] M = some ([(0, 0)], M) :=
  nb_step (c := true) rfl rfl
theorem q_law_law_140 (l0 l1 l2 l3 l4 : Int) (v5 v6 : nb_V) (M : nb_M) (h1 : l0 ≠ 0) (h2 : (0 : Int) ≤ nb_add l4 1) (h3 : nb_add l4 1 < nb_ln M l0) (h4 : l1 ≠ 0) :
    nb_R nb_P 293 140 [(3, l0), (19, l1), (20, l2), (5, l3), (0, l4), v5, v6] [] M = (nb_R nb_P 51 0 [(19, l1), (0, nb_rd M l0 (nb_add l4 1)), (98, 0)] [] M).bind fun r => nb_R nb_P 293 141 [(3, l0), (19, l1), (20, l2), (5, l3), (0, l4), v5, v6] (r.1 ++ []) r.2 :=
  nb_stepC (c := (true && (!decide ((l0 : Int) = 0) && (decide ((0 : Int) ≤ nb_add l4 1) && decide (nb_add l4 1 < nb_ln M l0))))) (L2 := [(3, l0), (19, l1), (20, l2), (5, l3), (0, l4), v5, v6]) (S2 := [(0, nb_rd M l0 (nb_add l4 1)), (19, l1)]) (M2 := M) (t := 141) (cl := 51) (vi := true) rfl (by simp [h1, h2, h3, h4]) (nb_inv_eq (n := 2) rfl rfl rfl rfl rfl rfl (fun _ => h4) rfl)
theorem q_law_law_141 (l0 l1 l2 l3 l4 s0 : Int) (v5 v6 : nb_V) (M : nb_M) (h1 : l0 ≠ 0) (h2 : (0 : Int) ≤ nb_add l4 1) (h3 : nb_add l4 1 < nb_ln M l0) (h4 : l2 ≠ 0) :
    nb_R nb_P 293 141 [(3, l0), (19, l1), (20, l2), (5, l3), (0, l4), v5, v6] [(0, s0)] M = (nb_R nb_P 159 0 [(20, l2), (0, nb_rd M l0 (nb_add l4 1))] [] M).bind fun r => nb_R nb_P 293 142 [(3, l0), (19, l1), (20, l2), (5, l3), (0, l4), v5, v6] (r.1 ++ [(0, s0)]) r.2 :=
  nb_stepC (c := (true && (!decide ((l0 : Int) = 0) && (decide ((0 : Int) ≤ nb_add l4 1) && decide (nb_add l4 1 < nb_ln M l0))))) (L2 := [(3, l0), (19, l1), (20, l2), (5, l3), (0, l4), v5, v6]) (S2 := [(0, nb_rd M l0 (nb_add l4 1)), (20, l2), (0, s0)]) (M2 := M) (t := 142) (cl := 159) (vi := true) rfl (by simp [h1, h2, h3, h4]) (nb_inv_eq (n := 2) rfl rfl rfl rfl rfl rfl (fun _ => h4) rfl)
theorem q_law_law_142 (l0 l1 l2 l3 l4 s0 s1 : Int) (v5 v6 : nb_V) (M : nb_M) :
    nb_R nb_P 293 142 [(3, l0), (19, l1), (20, l2), (5, l3), (0, l4), v5, v6] [(0, s0), (0, s1)] M = if s1 = s0 then nb_R nb_P 293 239 [(3, l0), (19, l1), (20, l2), (5, l3), (0, l4), v5, v6] [] M else nb_R nb_P 293 143 [(3, l0), (19, l1), (20, l2), (5, l3), (0, l4), v5, v6] [] M :=
  nb_step (c := true) rfl rfl
theorem q_law_law_143 (v0 v1 v2 v3 v4 v5 v6 : nb_V) (M : nb_M) :
    nb_R nb_P 293 143 [v0, v1, v2, v3, v4, v5, v6] [] M = some ([(0, 0)], M) :=
  nb_step (c := true) rfl rfl
theorem q_law_law_144 (l0 l1 l2 l3 l4 : Int) (v5 v6 : nb_V) (M : nb_M) (h1 : l0 ≠ 0) (h2 : (0 : Int) ≤ nb_add l4 1) (h3 : nb_add l4 1 < nb_ln M l0) (h4 : (0 : Int) ≤ nb_add l4 2) (h5 : nb_add l4 2 < nb_ln M l0) :
    nb_R nb_P 293 144 [(3, l0), (19, l1), (20, l2), (5, l3), (0, l4), v5, v6] [] M = if nb_rd M l0 (nb_add l4 2) = 0 then nb_R nb_P 293 146 [(3, l0), (19, l1), (20, l2), (5, l3), (0, l4), v5, v6] [(0, nb_rd M l0 (nb_add l4 1)), (19, l1)] M else nb_R nb_P 293 145 [(3, l0), (19, l1), (20, l2), (5, l3), (0, l4), v5, v6] [(0, nb_rd M l0 (nb_add l4 1)), (19, l1)] M :=
  nb_step (c := ((true && (!decide ((l0 : Int) = 0) && (decide ((0 : Int) ≤ nb_add l4 1) && decide (nb_add l4 1 < nb_ln M l0)))) && (!decide ((l0 : Int) = 0) && (decide ((0 : Int) ≤ nb_add l4 2) && decide (nb_add l4 2 < nb_ln M l0))))) rfl (by simp [h1, h2, h3, h4, h5])
theorem q_law_law_145 (l0 l1 l2 l3 l4 s0 s1 : Int) (v5 v6 : nb_V) (M : nb_M) :
    nb_R nb_P 293 145 [(3, l0), (19, l1), (20, l2), (5, l3), (0, l4), v5, v6] [(0, s0), (19, s1)] M = nb_R nb_P 293 147 [(3, l0), (19, l1), (20, l2), (5, l3), (0, l4), v5, v6] [(0, 1), (0, s0), (19, s1)] M :=
  nb_step (c := true) rfl rfl
theorem q_law_law_146 (l0 l1 l2 l3 l4 s0 s1 : Int) (v5 v6 : nb_V) (M : nb_M) :
    nb_R nb_P 293 146 [(3, l0), (19, l1), (20, l2), (5, l3), (0, l4), v5, v6] [(0, s0), (19, s1)] M = nb_R nb_P 293 147 [(3, l0), (19, l1), (20, l2), (5, l3), (0, l4), v5, v6] [(0, 0), (0, s0), (19, s1)] M :=
  nb_step (c := true) rfl rfl
theorem q_law_law_147 (l0 l1 l2 l3 l4 s0 s1 s2 : Int) (v5 v6 : nb_V) (M : nb_M) (h1 : s2 ≠ 0) :
    nb_R nb_P 293 147 [(3, l0), (19, l1), (20, l2), (5, l3), (0, l4), v5, v6] [(0, s0), (0, s1), (19, s2)] M = (nb_R nb_P 52 0 [(19, s2), (0, s1), (0, s0)] [] M).bind fun r => nb_R nb_P 293 148 [(3, l0), (19, l1), (20, l2), (5, l3), (0, l4), v5, v6] (r.1 ++ []) r.2 :=
  nb_stepC (c := true) (L2 := [(3, l0), (19, l1), (20, l2), (5, l3), (0, l4), v5, v6]) (S2 := [(0, s0), (0, s1), (19, s2)]) (M2 := M) (t := 148) (cl := 52) (vi := true) rfl rfl (nb_inv_eq (n := 3) rfl rfl rfl rfl rfl rfl (fun _ => h1) rfl)
theorem q_law_law_148 (l0 l1 l2 l3 l4 s0 : Int) (v5 v6 : nb_V) (M : nb_M) (h1 : l0 ≠ 0) (h2 : (0 : Int) ≤ nb_add l4 1) (h3 : nb_add l4 1 < nb_ln M l0) (h4 : (0 : Int) ≤ nb_add l4 2) (h5 : nb_add l4 2 < nb_ln M l0) :
    nb_R nb_P 293 148 [(3, l0), (19, l1), (20, l2), (5, l3), (0, l4), v5, v6] [(0, s0)] M = if nb_rd M l0 (nb_add l4 2) = 0 then nb_R nb_P 293 150 [(3, l0), (19, l1), (20, l2), (5, l3), (0, l4), v5, v6] [(0, nb_rd M l0 (nb_add l4 1)), (20, l2), (0, s0)] M else nb_R nb_P 293 149 [(3, l0), (19, l1), (20, l2), (5, l3), (0, l4), v5, v6] [(0, nb_rd M l0 (nb_add l4 1)), (20, l2), (0, s0)] M :=
  nb_step (c := ((true && (!decide ((l0 : Int) = 0) && (decide ((0 : Int) ≤ nb_add l4 1) && decide (nb_add l4 1 < nb_ln M l0)))) && (!decide ((l0 : Int) = 0) && (decide ((0 : Int) ≤ nb_add l4 2) && decide (nb_add l4 2 < nb_ln M l0))))) rfl (by simp [h1, h2, h3, h4, h5])
theorem q_law_law_149 (l0 l1 l2 l3 l4 s0 s1 s2 : Int) (v5 v6 : nb_V) (M : nb_M) :
    nb_R nb_P 293 149 [(3, l0), (19, l1), (20, l2), (5, l3), (0, l4), v5, v6] [(0, s0), (20, s1), (0, s2)] M = nb_R nb_P 293 151 [(3, l0), (19, l1), (20, l2), (5, l3), (0, l4), v5, v6] [(0, 1), (0, s0), (20, s1), (0, s2)] M :=
  nb_step (c := true) rfl rfl
theorem q_law_law_150 (l0 l1 l2 l3 l4 s0 s1 s2 : Int) (v5 v6 : nb_V) (M : nb_M) :
    nb_R nb_P 293 150 [(3, l0), (19, l1), (20, l2), (5, l3), (0, l4), v5, v6] [(0, s0), (20, s1), (0, s2)] M = nb_R nb_P 293 151 [(3, l0), (19, l1), (20, l2), (5, l3), (0, l4), v5, v6] [(0, 0), (0, s0), (20, s1), (0, s2)] M :=
  nb_step (c := true) rfl rfl
theorem q_law_law_151 (l0 l1 l2 l3 l4 s0 s1 s2 s3 : Int) (v5 v6 : nb_V) (M : nb_M) (h1 : s2 ≠ 0) :
    nb_R nb_P 293 151 [(3, l0), (19, l1), (20, l2), (5, l3), (0, l4), v5, v6] [(0, s0), (0, s1), (20, s2), (0, s3)] M = (nb_R nb_P 180 0 [(20, s2), (0, s1), (0, s0), (98, 0), (98, 0), (98, 0)] [] M).bind fun r => nb_R nb_P 293 152 [(3, l0), (19, l1), (20, l2), (5, l3), (0, l4), v5, v6] (r.1 ++ [(0, s3)]) r.2 :=
  nb_stepC (c := true) (L2 := [(3, l0), (19, l1), (20, l2), (5, l3), (0, l4), v5, v6]) (S2 := [(0, s0), (0, s1), (20, s2), (0, s3)]) (M2 := M) (t := 152) (cl := 180) (vi := true) rfl rfl (nb_inv_eq (n := 3) rfl rfl rfl rfl rfl rfl (fun _ => h1) rfl)
theorem q_law_law_152 (l0 l1 l2 l3 l4 s0 s1 : Int) (v5 v6 : nb_V) (M : nb_M) :
    nb_R nb_P 293 152 [(3, l0), (19, l1), (20, l2), (5, l3), (0, l4), v5, v6] [(0, s0), (0, s1)] M = if s1 = s0 then nb_R nb_P 293 239 [(3, l0), (19, l1), (20, l2), (5, l3), (0, l4), v5, v6] [] M else nb_R nb_P 293 153 [(3, l0), (19, l1), (20, l2), (5, l3), (0, l4), v5, v6] [] M :=
  nb_step (c := true) rfl rfl
theorem q_law_law_153 (v0 v1 v2 v3 v4 v5 v6 : nb_V) (M : nb_M) :
    nb_R nb_P 293 153 [v0, v1, v2, v3, v4, v5, v6] [] M = some ([(0, 0)], M) :=
  nb_step (c := true) rfl rfl
theorem q_law_law_154 (l0 l1 l2 l3 l4 : Int) (v5 v6 : nb_V) (M : nb_M) (h1 : l0 ≠ 0) (h2 : (0 : Int) ≤ nb_add l4 1) (h3 : nb_add l4 1 < nb_ln M l0) (h4 : l1 ≠ 0) :
    nb_R nb_P 293 154 [(3, l0), (19, l1), (20, l2), (5, l3), (0, l4), v5, v6] [] M = (nb_R nb_P 55 0 [(19, l1), (0, nb_rd M l0 (nb_add l4 1)), (98, 0), (98, 0)] [] M).bind fun r => nb_R nb_P 293 155 [(3, l0), (19, l1), (20, l2), (5, l3), (0, l4), v5, v6] (r.1 ++ []) r.2 :=
  nb_stepC (c := (true && (!decide ((l0 : Int) = 0) && (decide ((0 : Int) ≤ nb_add l4 1) && decide (nb_add l4 1 < nb_ln M l0))))) (L2 := [(3, l0), (19, l1), (20, l2), (5, l3), (0, l4), v5, v6]) (S2 := [(0, nb_rd M l0 (nb_add l4 1)), (19, l1)]) (M2 := M) (t := 155) (cl := 55) (vi := true) rfl (by simp [h1, h2, h3, h4]) (nb_inv_eq (n := 2) rfl rfl rfl rfl rfl rfl (fun _ => h4) rfl)
theorem q_law_law_155 (l0 l1 l2 l3 l4 s0 : Int) (v5 v6 : nb_V) (M : nb_M) (h1 : l0 ≠ 0) (h2 : (0 : Int) ≤ nb_add l4 1) (h3 : nb_add l4 1 < nb_ln M l0) (h4 : l2 ≠ 0) :
    nb_R nb_P 293 155 [(3, l0), (19, l1), (20, l2), (5, l3), (0, l4), v5, v6] [(0, s0)] M = (nb_R nb_P 182 0 [(20, l2), (0, nb_rd M l0 (nb_add l4 1)), (98, 0)] [] M).bind fun r => nb_R nb_P 293 156 [(3, l0), (19, l1), (20, l2), (5, l3), (0, l4), v5, v6] (r.1 ++ [(0, s0)]) r.2 :=
  nb_stepC (c := (true && (!decide ((l0 : Int) = 0) && (decide ((0 : Int) ≤ nb_add l4 1) && decide (nb_add l4 1 < nb_ln M l0))))) (L2 := [(3, l0), (19, l1), (20, l2), (5, l3), (0, l4), v5, v6]) (S2 := [(0, nb_rd M l0 (nb_add l4 1)), (20, l2), (0, s0)]) (M2 := M) (t := 156) (cl := 182) (vi := true) rfl (by simp [h1, h2, h3, h4]) (nb_inv_eq (n := 2) rfl rfl rfl rfl rfl rfl (fun _ => h4) rfl)
theorem q_law_law_156 (l0 l1 l2 l3 l4 s0 s1 : Int) (v5 v6 : nb_V) (M : nb_M) :
    nb_R nb_P 293 156 [(3, l0), (19, l1), (20, l2), (5, l3), (0, l4), v5, v6] [(0, s0), (0, s1)] M = if s1 = s0 then nb_R nb_P 293 239 [(3, l0), (19, l1), (20, l2), (5, l3), (0, l4), v5, v6] [] M else nb_R nb_P 293 157 [(3, l0), (19, l1), (20, l2), (5, l3), (0, l4), v5, v6] [] M :=
  nb_step (c := true) rfl rfl
theorem q_law_law_157 (v0 v1 v2 v3 v4 v5 v6 : nb_V) (M : nb_M) :
    nb_R nb_P 293 157 [v0, v1, v2, v3, v4, v5, v6] [] M = some ([(0, 0)], M) :=
  nb_step (c := true) rfl rfl
theorem q_law_law_158 (l0 l1 l2 l3 l4 : Int) (v5 v6 : nb_V) (M : nb_M) (h1 : l1 ≠ 0) :
    nb_R nb_P 293 158 [(3, l0), (19, l1), (20, l2), (5, l3), (0, l4), v5, v6] [] M = (nb_R nb_P 56 0 [(19, l1), (98, 0), (98, 0), (98, 0)] [] M).bind fun r => nb_R nb_P 293 159 [(3, l0), (19, l1), (20, l2), (5, l3), (0, l4), v5, v6] (r.1 ++ []) r.2 :=
  nb_stepC (c := true) (L2 := [(3, l0), (19, l1), (20, l2), (5, l3), (0, l4), v5, v6]) (S2 := [(19, l1)]) (M2 := M) (t := 159) (cl := 56) (vi := true) rfl rfl (nb_inv_eq (n := 1) rfl rfl rfl rfl rfl rfl (fun _ => h1) rfl)
theorem q_law_law_159 (l0 l1 l2 l3 l4 s0 : Int) (v5 v6 : nb_V) (M : nb_M) (h1 : l2 ≠ 0) :
    nb_R nb_P 293 159 [(3, l0), (19, l1), (20, l2), (5, l3), (0, l4), v5, v6] [(0, s0)] M = (nb_R nb_P 183 0 [(20, l2), (98, 0), (98, 0)] [] M).bind fun r => nb_R nb_P 293 160 [(3, l0), (19, l1), (20, l2), (5, l3), (0, l4), v5, v6] (r.1 ++ [(0, s0)]) r.2 :=
  nb_stepC (c := true) (L2 := [(3, l0), (19, l1), (20, l2), (5, l3), (0, l4), v5, v6]) (S2 := [(20, l2), (0, s0)]) (M2 := M) (t := 160) (cl := 183) (vi := true) rfl rfl (nb_inv_eq (n := 1) rfl rfl rfl rfl rfl rfl (fun _ => h1) rfl)
theorem q_law_law_160 (l0 l1 l2 l3 l4 s0 s1 : Int) (v5 v6 : nb_V) (M : nb_M) :
    nb_R nb_P 293 160 [(3, l0), (19, l1), (20, l2), (5, l3), (0, l4), v5, v6] [(0, s0), (0, s1)] M = if s1 = s0 then nb_R nb_P 293 239 [(3, l0), (19, l1), (20, l2), (5, l3), (0, l4), v5, v6] [] M else nb_R nb_P 293 161 [(3, l0), (19, l1), (20, l2), (5, l3), (0, l4), v5, v6] [] M :=
  nb_step (c := true) rfl rfl
theorem q_law_law_161 (v0 v1 v2 v3 v4 v5 v6 : nb_V) (M : nb_M) :
    nb_R nb_P 293 161 [v0, v1, v2, v3, v4, v5, v6] [] M = some ([(0, 0)], M) :=
  nb_step (c := true) rfl rfl
theorem q_law_law_162 (l0 l1 l2 l3 l4 : Int) (v5 v6 : nb_V) (M : nb_M) (h1 : l0 ≠ 0) (h2 : (0 : Int) ≤ nb_add l4 1) (h3 : nb_add l4 1 < nb_ln M l0) (h4 : (0 : Int) ≤ nb_add l4 2) (h5 : nb_add l4 2 < nb_ln M l0) (h6 : l1 ≠ 0) :
    nb_R nb_P 293 162 [(3, l0), (19, l1), (20, l2), (5, l3), (0, l4), v5, v6] [] M = (nb_R nb_P 58 0 [(19, l1), (0, nb_rd M l0 (nb_add l4 1)), (0, nb_rd M l0 (nb_add l4 2)), (98, 0)] [] M).bind fun r => nb_R nb_P 293 163 [(3, l0), (19, l1), (20, l2), (5, l3), (0, l4), v5, v6] (r.1 ++ []) r.2 :=
  nb_stepC (c := ((true && (!decide ((l0 : Int) = 0) && (decide ((0 : Int) ≤ nb_add l4 1) && decide (nb_add l4 1 < nb_ln M l0)))) && (!decide ((l0 : Int) = 0) && (decide ((0 : Int) ≤ nb_add l4 2) && decide (nb_add l4 2 < nb_ln M l0))))) (L2 := [(3, l0), (19, l1), (20, l2), (5, l3), (0, l4), v5, v6]) (S2 := [(0, nb_rd M l0 (nb_add l4 2)), (0, nb_rd M l0 (nb_add l4 1)), (19, l1)]) (M2 := M) (t := 163) (cl := 58) (vi := true) rfl (by simp [h1, h2, h3, h4, h5, h6]) (nb_inv_eq (n := 3) rfl rfl rfl rfl rfl rfl (fun _ => h6) rfl)
theorem q_law_law_163 (l0 l1 l2 l3 l4 s0 : Int) (v5 v6 : nb_V) (M : nb_M) (h1 : l0 ≠ 0) (h2 : (0 : Int) ≤ nb_add l4 1) (h3 : nb_add l4 1 < nb_ln M l0) (h4 : (0 : Int) ≤ nb_add l4 2) (h5 : nb_add l4 2 < nb_ln M l0) (h6 : l2 ≠ 0) :
    nb_R nb_P 293 163 [(3, l0), (19, l1), (20, l2), (5, l3), (0, l4), v5, v6] [(0, s0)] M = (nb_R nb_P 193 0 [(20, l2), (0, nb_rd M l0 (nb_add l4 1)), (0, nb_rd M l0 (nb_add l4 2)), (98, 0)] [] M).bind fun r => nb_R nb_P 293 164 [(3, l0), (19, l1), (20, l2), (5, l3), (0, l4), v5, v6] (r.1 ++ [(0, s0)]) r.2 :=
  nb_stepC (c := ((true && (!decide ((l0 : Int) = 0) && (decide ((0 : Int) ≤ nb_add l4 1) && decide (nb_add l4 1 < nb_ln M l0)))) && (!decide ((l0 : Int) = 0) && (decide ((0 : Int) ≤ nb_add l4 2) && decide (nb_add l4 2 < nb_ln M l0))))) (L2 := [(3, l0), (19, l1), (20, l2), (5, l3), (0, l4), v5, v6]) (S2 := [(0, nb_rd M l0 (nb_add l4 2)), (0, nb_rd M l0 (nb_add l4 1)), (20, l2), (0, s0)]) (M2 := M) (t := 164) (cl := 193) (vi := true) rfl (by simp [h1, h2, h3, h4, h5, h6]) (nb_inv_eq (n := 3) rfl rfl rfl rfl rfl rfl (fun _ => h6) rfl)
theorem q_law_law_164 (l0 l1 l2 l3 l4 s0 s1 : Int) (v5 v6 : nb_V) (M : nb_M) :
    nb_R nb_P 293 164 [(3, l0), (19, l1), (20, l2), (5, l3), (0, l4), v5, v6] [(0, s0), (0, s1)] M = if s1 = s0 then nb_R nb_P 293 239 [(3, l0), (19, l1), (20, l2), (5, l3), (0, l4), v5, v6] [] M else nb_R nb_P 293 165 [(3, l0), (19, l1), (20, l2), (5, l3), (0, l4), v5, v6] [] M :=
  nb_step (c := true) rfl rfl
theorem q_law_law_165 (v0 v1 v2 v3 v4 v5 v6 : nb_V) (M : nb_M) :
    nb_R nb_P 293 165 [v0, v1, v2, v3, v4, v5, v6] [] M = some ([(0, 0)], M) :=
  nb_step (c := true) rfl rfl
theorem q_law_law_166 (l0 l1 l2 l3 l4 : Int) (v5 v6 : nb_V) (M : nb_M) (h1 : l0 ≠ 0) (h2 : (0 : Int) ≤ nb_add l4 1) (h3 : nb_add l4 1 < nb_ln M l0) (h4 : l1 ≠ 0) :
    nb_R nb_P 293 166 [(3, l0), (19, l1), (20, l2), (5, l3), (0, l4), v5, v6] [] M = (nb_R nb_P 59 0 [(19, l1), (0, nb_rd M l0 (nb_add l4 1))] [] M).bind fun r => nb_R nb_P 293 167 [(3, l0), (19, l1), (20, l2), (5, l3), (0, l4), v5, v6] (r.1 ++ []) r.2 :=
  nb_stepC (c := (true && (!decide ((l0 : Int) = 0) && (decide ((0 : Int) ≤ nb_add l4 1) && decide (nb_add l4 1 < nb_ln M l0))))) (L2 := [(3, l0), (19, l1), (20, l2), (5, l3), (0, l4), v5, v6]) (S2 := [(0, nb_rd M l0 (nb_add l4 1)), (19, l1)]) (M2 := M) (t := 167) (cl := 59) (vi := true) rfl (by simp [h1, h2, h3, h4]) (nb_inv_eq (n := 2) rfl rfl rfl rfl rfl rfl (fun _ => h4) rfl)
theorem q_law_law_167 (l0 l1 l2 l3 l4 s0 : Int) (v5 v6 : nb_V) (M : nb_M) (h1 : l0 ≠ 0) (h2 : (0 : Int) ≤ nb_add l4 1) (h3 : nb_add l4 1 < nb_ln M l0) (h4 : l2 ≠ 0) :
    nb_R nb_P 293 167 [(3, l0), (19, l1), (20, l2), (5, l3), (0, l4), v5, v6] [(0, s0)] M = (nb_R nb_P 194 0 [(20, l2), (0, nb_rd M l0 (nb_add l4 1)), (98, 0)] [] M).bind fun r => nb_R nb_P 293 168 [(3, l0), (19, l1), (20, l2), (5, l3), (0, l4), v5, v6] (r.1 ++ [(0, s0)]) r.2 :=
  nb_stepC (c := (true && (!decide ((l0 : Int) = 0) && (decide ((0 : Int) ≤ nb_add l4 1) && decide (nb_add l4 1 < nb_ln M l0))))) (L2 := [(3, l0), (19, l1), (20, l2), (5, l3), (0, l4), v5, v6]) (S2 := [(0, nb_rd M l0 (nb_add l4 1)), (20, l2), (0, s0)]) (M2 := M) (t := 168) (cl := 194) (vi := true) rfl (by simp [h1, h2, h3, h4]) (nb_inv_eq (n := 2) rfl rfl rfl rfl rfl rfl (fun _ => h4) rfl)
theorem q_law_law_168 (l0 l1 l2 l3 l4 s0 s1 : Int) (v5 v6 : nb_V) (M : nb_M) :
    nb_R nb_P 293 168 [(3, l0), (19, l1), (20, l2), (5, l3), (0, l4), v5, v6] [(0, s0), (0, s1)] M = if s1 = s0 then nb_R nb_P 293 239 [(3, l0), (19, l1), (20, l2), (5, l3), (0, l4), v5, v6] [] M else nb_R nb_P 293 169 [(3, l0), (19, l1), (20, l2), (5, l3), (0, l4), v5, v6] [] M :=
  nb_step (c := true) rfl rfl
theorem q_law_law_169 (v0 v1 v2 v3 v4 v5 v6 : nb_V) (M : nb_M) :
    nb_R nb_P 293 169 [v0, v1, v2, v3, v4, v5, v6] [] M = some ([(0, 0)], M) :=
  nb_step (c := true) rfl rfl
theorem q_law_law_170 (l0 l1 l2 l3 l4 : Int) (v5 v6 : nb_V) (M : nb_M) (h1 : l1 ≠ 0) :
    nb_R nb_P 293 170 [(3, l0), (19, l1), (20, l2), (5, l3), (0, l4), v5, v6] [] M = (nb_R nb_P 60 0 [(19, l1)] [] M).bind fun r => nb_R nb_P 293 171 [(3, l0), (19, l1), (20, l2), (5, l3), (0, l4), v5, v6] (r.1 ++ []) r.2 :=
  nb_stepC (c := true) (L2 := [(3, l0), (19, l1), (20, l2), (5, l3), (0, l4), v5, v6]) (S2 := [(19, l1)]) (M2 := M) (t := 171) (cl := 60) (vi := true) rfl rfl (nb_inv_eq (n := 1) rfl rfl rfl rfl rfl rfl (fun _ => h1) rfl)
theorem q_law_law_171 (l0 l1 l2 l3 l4 s0 : Int) (v5 v6 : nb_V) (M : nb_M) (h1 : l2 ≠ 0) :
    nb_R nb_P 293 171 [(3, l0), (19, l1), (20, l2), (5, l3), (0, l4), v5, v6] [(0, s0)] M = (nb_R nb_P 197 0 [(20, l2)] [] M).bind fun r => nb_R nb_P 293 172 [(3, l0), (19, l1), (20, l2), (5, l3), (0, l4), v5, v6] (r.1 ++ [(0, s0)]) r.2 :=
  nb_stepC (c := true) (L2 := [(3, l0), (19, l1), (20, l2), (5, l3), (0, l4), v5, v6]) (S2 := [(20, l2), (0, s0)]) (M2 := M) (t := 172) (cl := 197) (vi := true) rfl rfl (nb_inv_eq (n := 1) rfl rfl rfl rfl rfl rfl (fun _ => h1) rfl)
theorem q_law_law_172 (l0 l1 l2 l3 l4 s0 s1 : Int) (v5 v6 : nb_V) (M : nb_M) :
    nb_R nb_P 293 172 [(3, l0), (19, l1), (20, l2), (5, l3), (0, l4), v5, v6] [(0, s0), (0, s1)] M = if s1 = s0 then nb_R nb_P 293 239 [(3, l0), (19, l1), (20, l2), (5, l3), (0, l4), v5, v6] [] M else nb_R nb_P 293 173 [(3, l0), (19, l1), (20, l2), (5, l3), (0, l4), v5, v6] [] M :=
  nb_step (c := true) rfl rfl
theorem q_law_law_173 (v0 v1 v2 v3 v4 v5 v6 : nb_V) (M : nb_M) :
    nb_R nb_P 293 173 [v0, v1, v2, v3, v4, v5, v6] [] M = some ([(0, 0)], M) :=
  nb_step (c := true) rfl rfl
theorem q_law_law_174 (l0 l1 l2 l3 l4 : Int) (v5 v6 : nb_V) (M : nb_M) (h1 : l0 ≠ 0) (h2 : (0 : Int) ≤ nb_add l4 1) (h3 : nb_add l4 1 < nb_ln M l0) (h4 : (0 : Int) ≤ nb_add l4 2) (h5 : nb_add l4 2 < nb_ln M l0) (h6 : l1 ≠ 0) :
    nb_R nb_P 293 174 [(3, l0), (19, l1), (20, l2), (5, l3), (0, l4), v5, v6] [] M = (nb_R nb_P 61 0 [(19, l1), (0, nb_rd M l0 (nb_add l4 1)), (0, nb_rd M l0 (nb_add l4 2))] [] M).bind fun r => nb_R nb_P 293 175 [(3, l0), (19, l1), (20, l2), (5, l3), (0, l4), v5, v6] (r.1 ++ []) r.2 :=
  nb_stepC (c := ((true && (!decide ((l0 : Int) = 0) && (decide ((0 : Int) ≤ nb_add l4 1) && decide (nb_add l4 1 < nb_ln M l0)))) && (!decide ((l0 : Int) = 0) && (decide ((0 : Int) ≤ nb_add l4 2) && decide (nb_add l4 2 < nb_ln M l0))))) (L2 := [(3, l0), (19, l1), (20, l2), (5, l3), (0, l4), v5, v6]) (S2 := [(0, nb_rd M l0 (nb_add l4 2)), (0, nb_rd M l0 (nb_add l4 1)), (19, l1)]) (M2 := M) (t := 175) (cl := 61) (vi := true) rfl (by simp [h1, h2, h3, h4, h5, h6]) (nb_inv_eq (n := 3) rfl rfl rfl rfl rfl rfl (fun _ => h6) rfl)
theorem q_law_law_175 (l0 l1 l2 l3 l4 s0 : Int) (v5 v6 : nb_V) (M : nb_M) (h1 : l0 ≠ 0) (h2 : (0 : Int) ≤ nb_add l4 1) (h3 : nb_add l4 1 < nb_ln M l0) (h4 : (0 : Int) ≤ nb_add l4 2) (h5 : nb_add l4 2 < nb_ln M l0) (h6 : l2 ≠ 0) :
    nb_R nb_P 293 175 [(3, l0), (19, l1), (20, l2), (5, l3), (0, l4), v5, v6] [(0, s0)] M = (nb_R nb_P 198 0 [(20, l2), (0, nb_rd M l0 (nb_add l4 1)), (0, nb_rd M l0 (nb_add l4 2))] [] M).bind fun r => nb_R nb_P 293 176 [(3, l0), (19, l1), (20, l2), (5, l3), (0, l4), v5, v6] (r.1 ++ [(0, s0)]) r.2 :=
  nb_stepC (c := ((true && (!decide ((l0 : Int) = 0) && (decide ((0 : Int) ≤ nb_add l4 1) && decide (nb_add l4 1 < nb_ln M l0)))) && (!decide ((l0 : Int) = 0) && (decide ((0 : Int) ≤ nb_add l4 2) && decide (nb_add l4 2 < nb_ln M l0))))) (L2 := [(3, l0), (19, l1), (20, l2), (5, l3), (0, l4), v5, v6]) (S2 := [(0, nb_rd M l0 (nb_add l4 2)), (0, nb_rd M l0 (nb_add l4 1)), (20, l2), (0, s0)]) (M2 := M) (t := 176) (cl := 198) (vi := true) rfl (by simp [h1, h2, h3, h4, h5, h6]) (nb_inv_eq (n := 3) rfl rfl rfl rfl rfl rfl (fun _ => h6) rfl)
theorem q_law_law_176 (l0 l1 l2 l3 l4 s0 s1 : Int) (v5 v6 : nb_V) (M : nb_M) :
    nb_R nb_P 293 176 [(3, l0), (19, l1), (20, l2), (5, l3), (0, l4), v5, v6] [(0, s0), (0, s1)] M = if s1 = s0 then nb_R nb_P 293 239 [(3, l0), (19, l1), (20, l2), (5, l3), (0, l4), v5, v6] [] M else nb_R nb_P 293 177 [(3, l0), (19, l1), (20, l2), (5, l3), (0, l4), v5, v6] [] M :=
  nb_step (c := true) rfl rfl
theorem q_law_law_177 (v0 v1 v2 v3 v4 v5 v6 : nb_V) (M : nb_M) :
    nb_R nb_P 293 177 [v0, v1, v2, v3, v4, v5, v6] [] M = some ([(0, 0)], M) :=
  nb_step (c := true) rfl rfl
theorem q_law_law_178 (l0 l1 l2 l3 l4 : Int) (v5 v6 : nb_V) (M : nb_M) (h1 : l1 ≠ 0) :
    nb_R nb_P 293 178 [(3, l0), (19, l1), (20, l2), (5, l3), (0, l4), v5, v6] [] M = (nb_R nb_P 62 0 [(19, l1), (98, 0), (98, 0)] [] M).bind fun r => nb_R nb_P 293 179 [(3, l0), (19, l1), (20, l2), (5, l3), (0, l4), v5, v6] (r.1 ++ []) r.2 :=
  nb_stepC (c := true) (L2 := [(3, l0), (19, l1), (20, l2), (5, l3), (0, l4), v5, v6]) (S2 := [(19, l1)]) (M2 := M) (t := 179) (cl := 62) (vi := true) rfl rfl (nb_inv_eq (n := 1) rfl rfl rfl rfl rfl rfl (fun _ => h1) rfl)
theorem q_law_law_179 (l0 l1 l2 l3 l4 s0 : Int) (v5 v6 : nb_V) (M : nb_M) (h1 : l2 ≠ 0) :
    nb_R nb_P 293 179 [(3, l0), (19, l1), (20, l2), (5, l3), (0, l4), v5, v6] [(0, s0)] M = (nb_R nb_P 199 0 [(20, l2), (98, 0), (98, 0)] [] M).bind fun r => nb_R nb_P 293 180 [(3, l0), (19, l1), (20, l2), (5, l3), (0, l4), v5, v6] (r.1 ++ [(0, s0)]) r.2 :=
  nb_stepC (c := true) (L2 := [(3, l0), (19, l1), (20, l2), (5, l3), (0, l4), v5, v6]) (S2 := [(20, l2), (0, s0)]) (M2 := M) (t := 180) (cl := 199) (vi := true) rfl rfl (nb_inv_eq (n := 1) rfl rfl rfl rfl rfl rfl (fun _ => h1) rfl)
theorem q_law_law_180 (l0 l1 l2 l3 l4 s0 s1 : Int) (v5 v6 : nb_V) (M : nb_M) :
    nb_R nb_P 293 180 [(3, l0), (19, l1), (20, l2), (5, l3), (0, l4), v5, v6] [(0, s0), (0, s1)] M = if s1 = s0 then nb_R nb_P 293 239 [(3, l0), (19, l1), (20, l2), (5, l3), (0, l4), v5, v6] [] M else nb_R nb_P 293 181 [(3, l0), (19, l1), (20, l2), (5, l3), (0, l4), v5, v6] [] M :=
  nb_step (c := true) rfl rfl
theorem q_law_law_181 (v0 v1 v2 v3 v4 v5 v6 : nb_V) (M : nb_M) :
    nb_R nb_P 293 181 [v0, v1, v2, v3, v4, v5, v6] [] M = some ([(0, 0)], M) :=
  nb_step (c := true) rfl rfl
theorem q_law_law_182 (l0 l1 l2 l3 l4 : Int) (v5 v6 : nb_V) (M : nb_M) (h1 : l0 ≠ 0) (h2 : (0 : Int) ≤ nb_add l4 1) (h3 : nb_add l4 1 < nb_ln M l0) (h4 : l1 ≠ 0) :
    nb_R nb_P 293 182 [(3, l0), (19, l1), (20, l2), (5, l3), (0, l4), v5, v6] [] M = (nb_R nb_P 64 0 [(19, l1), (0, nb_rd M l0 (nb_add l4 1))] [] M).bind fun r => nb_R nb_P 293 183 [(3, l0), (19, l1), (20, l2), (5, l3), (0, l4), v5, v6] (r.1 ++ []) r.2 :=
  nb_stepC (c := (true && (!decide ((l0 : Int) = 0) && (decide ((0 : Int) ≤ nb_add l4 1) && decide (nb_add l4 1 < nb_ln M l0))))) (L2 := [(3, l0), (19, l1), (20, l2), (5, l3), (0, l4), v5, v6]) (S2 := [(0, nb_rd M l0 (nb_add l4 1)), (19, l1)]) (M2 := M) (t := 183) (cl := 64) (vi := true) rfl (by simp [h1, h2, h3, h4]) (nb_inv_eq (n := 2) rfl rfl rfl rfl rfl rfl (fun _ => h4) rfl)
theorem q_law_law_183 (l0 l1 l2 l3 l4 s0 : Int) (v5 v6 : nb_V) (M : nb_M) (h1 : l0 ≠ 0) (h2 : (0 : Int) ≤ nb_add l4 1) (h3 : nb_add l4 1 < nb_ln M l0) (h4 : l2 ≠ 0) :
    nb_R nb_P 293 183 [(3, l0), (19, l1), (20, l2), (5, l3), (0, l4), v5, v6] [(0, s0)] M = (nb_R nb_P 201 0 [(20, l2), (0, nb_rd M l0 (nb_add l4 1)), (98, 0)] [] M).bind fun r => nb_R nb_P 293 184 [(3, l0), (19, l1), (20, l2), (5, l3), (0, l4), v5, v6] (r.1 ++ [(0, s0)]) r.2 :=
  nb_stepC (c := (true && (!decide ((l0 : Int) = 0) && (decide ((0 : Int) ≤ nb_add l4 1) && decide (nb_add l4 1 < nb_ln M l0))))) (L2 := [(3, l0), (19, l1), (20, l2), (5, l3), (0, l4), v5, v6]) (S2 := [(0, nb_rd M l0 (nb_add l4 1)), (20, l2), (0, s0)]) (M2 := M) (t := 184) (cl := 201) (vi := true) rfl (by simp [h1, h2, h3, h4]) (nb_inv_eq (n := 2) rfl rfl rfl rfl rfl rfl (fun _ => h4) rfl)
theorem q_law_law_184 (l0 l1 l2 l3 l4 s0 s1 : Int) (v5 v6 : nb_V) (M : nb_M) :
    nb_R nb_P 293 184 [(3, l0), (19, l1), (20, l2), (5, l3), (0, l4), v5, v6] [(0, s0), (0, s1)] M = if s1 = s0 then nb_R nb_P 293 239 [(3, l0), (19, l1), (20, l2), (5, l3), (0, l4), v5, v6] [] M else nb_R nb_P 293 185 [(3, l0), (19, l1), (20, l2), (5, l3), (0, l4), v5, v6] [] M :=
  nb_step (c := true) rfl rfl
theorem q_law_law_185 (v0 v1 v2 v3 v4 v5 v6 : nb_V) (M : nb_M) :
    nb_R nb_P 293 185 [v0, v1, v2, v3, v4, v5, v6] [] M = some ([(0, 0)], M) :=
  nb_step (c := true) rfl rfl
theorem q_law_law_186 (l0 l1 l2 l3 l4 : Int) (v5 v6 : nb_V) (M : nb_M) (h1 : l0 ≠ 0) (h2 : (0 : Int) ≤ nb_add l4 1) (h3 : nb_add l4 1 < nb_ln M l0) (h4 : (0 : Int) ≤ nb_add l4 2) (h5 : nb_add l4 2 < nb_ln M l0) (h6 : l1 ≠ 0) :
    nb_R nb_P 293 186 [(3, l0), (19, l1), (20, l2), (5, l3), (0, l4), v5, v6] [] M = (nb_R nb_P 65 0 [(19, l1), (0, nb_rd M l0 (nb_add l4 1)), (0, nb_rd M l0 (nb_add l4 2))] [] M).bind fun r => nb_R nb_P 293 187 [(3, l0), (19, l1), (20, l2), (5, l3), (0, l4), v5, v6] (r.1 ++ []) r.2 :=
  nb_stepC (c := ((true && (!decide ((l0 : Int) = 0) && (decide ((0 : Int) ≤ nb_add l4 1) && decide (nb_add l4 1 < nb_ln M l0)))) && (!decide ((l0 : Int) = 0) && (decide ((0 : Int) ≤ nb_add l4 2) && decide (nb_add l4 2 < nb_ln M l0))))) (L2 := [(3, l0), (19, l1), (20, l2), (5, l3), (0, l4), v5, v6]) (S2 := [(0, nb_rd M l0 (nb_add l4 2)), (0, nb_rd M l0 (nb_add l4 1)), (19, l1)]) (M2 := M) (t := 187) (cl := 65) (vi := true) rfl (by simp [h1, h2, h3, h4, h5, h6]) (nb_inv_eq (n := 3) rfl rfl rfl rfl rfl rfl (fun _ => h6) rfl)
theorem q_law_law_187 (l0 l1 l2 l3 l4 s0 : Int) (v5 v6 : nb_V) (M : nb_M) (h1 : l0 ≠ 0) (h2 : (0 : Int) ≤ nb_add l4 1) (h3 : nb_add l4 1 < nb_ln M l0) (h4 : (0 : Int) ≤ nb_add l4 2) (h5 : nb_add l4 2 < nb_ln M l0) (h6 : l2 ≠ 0) :
    nb_R nb_P 293 187 [(3, l0), (19, l1), (20, l2), (5, l3), (0, l4), v5, v6] [(0, s0)] M = (nb_R nb_P 202 0 [(20, l2), (0, nb_rd M l0 (nb_add l4 1)), (0, nb_rd M l0 (nb_add l4 2))] [] M).bind fun r => nb_R nb_P 293 188 [(3, l0), (19, l1), (20, l2), (5, l3), (0, l4), v5, v6] (r.1 ++ [(0, s0)]) r.2 :=
  nb_stepC (c := ((true && (!decide ((l0 : Int) = 0) && (decide ((0 : Int) ≤ nb_add l4 1) && decide (nb_add l4 1 < nb_ln M l0)))) && (!decide ((l0 : Int) = 0) && (decide ((0 : Int) ≤ nb_add l4 2) && decide (nb_add l4 2 < nb_ln M l0))))) (L2 := [(3, l0), (19, l1), (20, l2), (5, l3), (0, l4), v5, v6]) (S2 := [(0, nb_rd M l0 (nb_add l4 2)), (0, nb_rd M l0 (nb_add l4 1)), (20, l2), (0, s0)]) (M2 := M) (t := 188) (cl := 202) (vi := true) rfl (by simp [h1, h2, h3, h4, h5, h6]) (nb_inv_eq (n := 3) rfl rfl rfl rfl rfl rfl (fun _ => h6) rfl)
theorem q_law_law_188 (l0 l1 l2 l3 l4 s0 s1 : Int) (v5 v6 : nb_V) (M : nb_M) :
    nb_R nb_P 293 188 [(3, l0), (19, l1), (20, l2), (5, l3), (0, l4), v5, v6] [(0, s0), (0, s1)] M = if s1 = s0 then nb_R nb_P 293 239 [(3, l0), (19, l1), (20, l2), (5, l3), (0, l4), v5, v6] [] M else nb_R nb_P 293 189 [(3, l0), (19, l1), (20, l2), (5, l3), (0, l4), v5, v6] [] M :=
  nb_step (c := true) rfl rfl
theorem q_law_law_189 (v0 v1 v2 v3 v4 v5 v6 : nb_V) (M : nb_M) :
    nb_R nb_P 293 189 [v0, v1, v2, v3, v4, v5, v6] [] M = some ([(0, 0)], M) :=
  nb_step (c := true) rfl rfl
theorem q_law_law_190 (l0 l1 l2 l3 l4 : Int) (v5 v6 : nb_V) (M : nb_M) (h1 : l0 ≠ 0) (h2 : (0 : Int) ≤ nb_add l4 1) (h3 : nb_add l4 1 < nb_ln M l0) (h4 : (0 : Int) ≤ nb_add l4 2) (h5 : nb_add l4 2 < nb_ln M l0) (h6 : l1 ≠ 0) :
    nb_R nb_P 293 190 [(3, l0), (19, l1), (20, l2), (5, l3), (0, l4), v5, v6] [] M = (nb_R nb_P 66 0 [(19, l1), (0, nb_rd M l0 (nb_add l4 1)), (0, nb_rd M l0 (nb_add l4 2))] [] M).bind fun r => nb_R nb_P 293 191 [(3, l0), (19, l1), (20, l2), (5, l3), (0, l4), v5, v6] (r.1 ++ []) r.2 :=
  nb_stepC (c := ((true && (!decide ((l0 : Int) = 0) && (decide ((0 : Int) ≤ nb_add l4 1) && decide (nb_add l4 1 < nb_ln M l0)))) && (!decide ((l0 : Int) = 0) && (decide ((0 : Int) ≤ nb_add l4 2) && decide (nb_add l4 2 < nb_ln M l0))))) (L2 := [(3, l0), (19, l1), (20, l2), (5, l3), (0, l4), v5, v6]) (S2 := [(0, nb_rd M l0 (nb_add l4 2)), (0, nb_rd M l0 (nb_add l4 1)), (19, l1)]) (M2 := M) (t := 191) (cl := 66) (vi := true) rfl (by simp [h1, h2, h3, h4, h5, h6]) (nb_inv_eq (n := 3) rfl rfl rfl rfl rfl rfl (fun _ => h6) rfl)
theorem q_law_law_191 (l0 l1 l2 l3 l4 s0 : Int) (v5 v6 : nb_V) (M : nb_M) (h1 : l0 ≠ 0) (h2 : (0 : Int) ≤ nb_add l4 1) (h3 : nb_add l4 1 < nb_ln M l0) (h4 : (0 : Int) ≤ nb_add l4 2) (h5 : nb_add l4 2 < nb_ln M l0) (h6 : l2 ≠ 0) :
    nb_R nb_P 293 191 [(3, l0), (19, l1), (20, l2), (5, l3), (0, l4), v5, v6] [(0, s0)] M = (nb_R nb_P 203 0 [(20, l2), (0, nb_rd M l0 (nb_add l4 1)), (0, nb_rd M l0 (nb_add l4 2))] [] M).bind fun r => nb_R nb_P 293 192 [(3, l0), (19, l1), (20, l2), (5, l3), (0, l4), v5, v6] (r.1 ++ [(0, s0)]) r.2 :=
  nb_stepC (c := ((true && (!decide ((l0 : Int) = 0) && (decide ((0 : Int) ≤ nb_add l4 1) && decide (nb_add l4 1 < nb_ln M l0)))) && (!decide ((l0 : Int) = 0) && (decide ((0 : Int) ≤ nb_add l4 2) && decide (nb_add l4 2 < nb_ln M l0))))) (L2 := [(3, l0), (19, l1), (20, l2), (5, l3), (0, l4), v5, v6]) (S2 := [(0, nb_rd M l0 (nb_add l4 2)), (0, nb_rd M l0 (nb_add l4 1)), (20, l2), (0, s0)]) (M2 := M) (t := 192) (cl := 203) (vi := true) rfl (by simp [h1, h2, h3, h4, h5, h6]) (nb_inv_eq (n := 3) rfl rfl rfl rfl rfl rfl (fun _ => h6) rfl)
theorem q_law_law_192 (l0 l1 l2 l3 l4 s0 s1 : Int) (v5 v6 : nb_V) (M : nb_M) :
    nb_R nb_P 293 192 [(3, l0), (19, l1), (20, l2), (5, l3), (0, l4), v5, v6] [(0, s0), (0, s1)] M = if s1 = s0 then nb_R nb_P 293 239 [(3, l0), (19, l1), (20, l2), (5, l3), (0, l4), v5, v6] [] M else nb_R nb_P 293 193 [(3, l0), (19, l1), (20, l2), (5, l3), (0, l4), v5, v6] [] M :=
  nb_step (c := true) rfl rfl
theorem q_law_law_193 (v0 v1 v2 v3 v4 v5 v6 : nb_V) (M : nb_M) :
    nb_R nb_P 293 193 [v0, v1, v2, v3, v4, v5, v6] [] M = some ([(0, 0)], M) :=
  nb_step (c := true) rfl rfl
theorem q_law_law_194 (l0 l1 l2 l3 l4 : Int) (v5 v6 : nb_V) (M : nb_M) (h1 : l0 ≠ 0) (h2 : (0 : Int) ≤ nb_add l4 1) (h3 : nb_add l4 1 < nb_ln M l0) (h4 : l1 ≠ 0) :
    nb_R nb_P 293 194 [(3, l0), (19, l1), (20, l2), (5, l3), (0, l4), v5, v6] [] M = (nb_R nb_P 67 0 [(19, l1), (0, nb_rd M l0 (nb_add l4 1)), (98, 0)] [] M).bind fun r => nb_R nb_P 293 195 [(3, l0), (19, l1), (20, l2), (5, l3), (0, l4), v5, v6] (r.1 ++ []) r.2 :=
  nb_stepC (c := (true && (!decide ((l0 : Int) = 0) && (decide ((0 : Int) ≤ nb_add l4 1) && decide (nb_add l4 1 < nb_ln M l0))))) (L2 := [(3, l0), (19, l1), (20, l2), (5, l3), (0, l4), v5, v6]) (S2 := [(0, nb_rd M l0 (nb_add l4 1)), (19, l1)]) (M2 := M) (t := 195) (cl := 67) (vi := true) rfl (by simp [h1, h2, h3, h4]) (nb_inv_eq (n := 2) rfl rfl rfl rfl rfl rfl (fun _ => h4) rfl)
theorem q_law_law_195 (l0 l1 l2 l3 l4 s0 : Int) (v5 v6 : nb_V) (M : nb_M) (h1 : l0 ≠ 0) (h2 : (0 : Int) ≤ nb_add l4 1) (h3 : nb_add l4 1 < nb_ln M l0) (h4 : l2 ≠ 0) :
    nb_R nb_P 293 195 [(3, l0), (19, l1), (20, l2), (5, l3), (0, l4), v5, v6] [(0, s0)] M = (nb_R nb_P 204 0 [(20, l2), (0, nb_rd M l0 (nb_add l4 1)), (98, 0)] [] M).bind fun r => nb_R nb_P 293 196 [(3, l0), (19, l1), (20, l2), (5, l3), (0, l4), v5, v6] (r.1 ++ [(0, s0)]) r.2 :=
  nb_stepC (c := (true && (!decide ((l0 : Int) = 0) && (decide ((0 : Int) ≤ nb_add l4 1) && decide (nb_add l4 1 < nb_ln M l0))))) (L2 := [(3, l0), (19, l1), (20, l2), (5, l3), (0, l4), v5, v6]) (S2 := [(0, nb_rd M l0 (nb_add l4 1)), (20, l2), (0, s0)]) (M2 := M) (t := 196) (cl := 204) (vi := true) rfl (by simp [h1, h2, h3, h4]) (nb_inv_eq (n := 2) rfl rfl rfl rfl rfl rfl (fun _ => h4) rfl)
theorem q_law_law_196 (l0 l1 l2 l3 l4 s0 s1 : Int) (v5 v6 : nb_V) (M : nb_M) :
    nb_R nb_P 293 196 [(3, l0), (19, l1), (20, l2), (5, l3), (0, l4), v5, v6] [(0, s0), (0, s1)] M = if s1 = s0 then nb_R nb_P 293 239 [(3, l0), (19, l1), (20, l2), (5, l3), (0, l4), v5, v6] [] M else nb_R nb_P 293 197 [(3, l0), (19, l1), (20, l2), (5, l3), (0, l4), v5, v6] [] M :=
  nb_step (c := true) rfl rfl
theorem q_law_law_197 (v0 v1 v2 v3 v4 v5 v6 : nb_V) (M : nb_M) :
    nb_R nb_P 293 197 [v0, v1, v2, v3, v4, v5, v6] [] M = some ([(0, 0)], M) :=
  nb_step (c := true) rfl rfl
theorem q_law_law_198 (l0 l1 l2 l3 l4 : Int) (v5 v6 : nb_V) (M : nb_M) (h1 : l0 ≠ 0) (h2 : (0 : Int) ≤ nb_add l4 1) (h3 : nb_add l4 1 < nb_ln M l0) (h4 : l1 ≠ 0) :
    nb_R nb_P 293 198 [(3, l0), (19, l1), (20, l2), (5, l3), (0, l4), v5, v6] [] M = (nb_R nb_P 68 0 [(19, l1), (0, nb_rd M l0 (nb_add l4 1))] [] M).bind fun r => nb_R nb_P 293 199 [(3, l0), (19, l1), (20, l2), (5, l3), (0, l4), v5, v6] (r.1 ++ []) r.2 :=
  nb_stepC (c := (true && (!decide ((l0 : Int) = 0) && (decide ((0 : Int) ≤ nb_add l4 1) && decide (nb_add l4 1 < nb_ln M l0))))) (L2 := [(3, l0), (19, l1), (20, l2), (5, l3), (0, l4), v5, v6]) (S2 := [(0, nb_rd M l0 (nb_add l4 1)), (19, l1)]) (M2 := M) (t := 199) (cl := 68) (vi := true) rfl (by simp [h1, h2, h3, h4]) (nb_inv_eq (n := 2) rfl rfl rfl rfl rfl rfl (fun _ => h4) rfl)
theorem q_law_law_199 (l0 l1 l2 l3 l4 s0 : Int) (v5 v6 : nb_V) (M : nb_M) (h1 : l0 ≠ 0) (h2 : (0 : Int) ≤ nb_add l4 1) (h3 : nb_add l4 1 < nb_ln M l0) (h4 : l2 ≠ 0) :
    nb_R nb_P 293 199 [(3, l0), (19, l1), (20, l2), (5, l3), (0, l4), v5, v6] [(0, s0)] M = (nb_R nb_P 205 0 [(20, l2), (0, nb_rd M l0 (nb_add l4 1))] [] M).bind fun r => nb_R nb_P 293 200 [(3, l0), (19, l1), (20, l2), (5, l3), (0, l4), v5, v6] (r.1 ++ [(0, s0)]) r.2 :=
  nb_stepC (c := (true && (!decide ((l0 : Int) = 0) && (decide ((0 : Int) ≤ nb_add l4 1) && decide (nb_add l4 1 < nb_ln M l0))))) (L2 := [(3, l0), (19, l1), (20, l2), (5, l3), (0, l4), v5, v6]) (S2 := [(0, nb_rd M l0 (nb_add l4 1)), (20, l2), (0, s0)]) (M2 := M) (t := 200) (cl := 205) (vi := true) rfl (by simp [h1, h2, h3, h4]) (nb_inv_eq (n := 2) rfl rfl rfl rfl rfl rfl (fun _ => h4) rfl)
theorem q_law_law_200 (l0 l1 l2 l3 l4 s0 s1 : Int) (v5 v6 : nb_V) (M : nb_M) :
    nb_R nb_P 293 200 [(3, l0), (19, l1), (20, l2), (5, l3), (0, l4), v5, v6] [(0, s0), (0, s1)] M = if s1 = s0 then nb_R nb_P 293 239 [(3, l0), (19, l1), (20, l2), (5, l3), (0, l4), v5, v6] [] M else nb_R nb_P 293 201 [(3, l0), (19, l1), (20, l2), (5, l3), (0, l4), v5, v6] [] M :=
  nb_step (c := true) rfl rfl
theorem q_law_law_201 (v0 v1 v2 v3 v4 v5 v6 : nb_V) (M : nb_M) :
    nb_R nb_P 293 201 [v0, v1, v2, v3, v4, v5, v6] [] M = some ([(0, 0)], M) :=
  nb_step (c := true) rfl rfl
theorem q_law_law_202 (l0 l1 l2 l3 l4 : Int) (v5 v6 : nb_V) (M : nb_M) (h1 : l1 ≠ 0) :
    nb_R nb_P 293 202 [(3, l0), (19, l1), (20, l2), (5, l3), (0, l4), v5, v6] [] M = (nb_R nb_P 70 0 [(19, l1)] [] M).bind fun r => nb_R nb_P 293 203 [(3, l0), (19, l1), (20, l2), (5, l3), (0, l4), v5, v6] (r.1 ++ []) r.2 :=
  nb_stepC (c := true) (L2 := [(3, l0), (19, l1), (20, l2), (5, l3), (0, l4), v5, v6]) (S2 := [(19, l1)]) (M2 := M) (t := 203) (cl := 70) (vi := true) rfl rfl (nb_inv_eq (n := 1) rfl rfl rfl rfl rfl rfl (fun _ => h1) rfl)
theorem q_law_law_203 (l0 l1 l2 l3 l4 s0 : Int) (v5 v6 : nb_V) (M : nb_M) (h1 : l2 ≠ 0) :
    nb_R nb_P 293 203 [(3, l0), (19, l1), (20, l2), (5, l3), (0, l4), v5, v6] [(0, s0)] M = (nb_R nb_P 206 0 [(20, l2)] [] M).bind fun r => nb_R nb_P 293 204 [(3, l0), (19, l1), (20, l2), (5, l3), (0, l4), v5, v6] (r.1 ++ [(0, s0)]) r.2 :=
  nb_stepC (c := true) (L2 := [(3, l0), (19, l1), (20, l2), (5, l3), (0, l4), v5, v6]) (S2 := [(20, l2), (0, s0)]) (M2 := M) (t := 204) (cl := 206) (vi := true) rfl rfl (nb_inv_eq (n := 1) rfl rfl rfl rfl rfl rfl (fun _ => h1) rfl)
theorem q_law_law_204 (l0 l1 l2 l3 l4 s0 s1 : Int) (v5 v6 : nb_V) (M : nb_M) :
    nb_R nb_P 293 204 [(3, l0), (19, l1), (20, l2), (5, l3), (0, l4), v5, v6] [(0, s0), (0, s1)] M = if s1 = s0 then nb_R nb_P 293 239 [(3, l0), (19, l1), (20, l2), (5, l3), (0, l4), v5, v6] [] M else nb_R nb_P 293 205 [(3, l0), (19, l1), (20, l2), (5, l3), (0, l4), v5, v6] [] M :=
  nb_step (c := true) rfl rfl
theorem q_law_law_205 (v0 v1 v2 v3 v4 v5 v6 : nb_V) (M : nb_M) :
    nb_R nb_P 293 205 [v0, v1, v2, v3, v4, v5, v6] [] M = some ([(0, 0)], M) :=
  nb_step (c := true) rfl rfl
theorem q_law_law_206 (l0 l1 l2 l3 l4 : Int) (v5 v6 : nb_V) (M : nb_M) (h1 : l1 ≠ 0) :
    nb_R nb_P 293 206 [(3, l0), (19, l1), (20, l2), (5, l3), (0, l4), v5, v6] [] M = (nb_R nb_P 71 0 [(19, l1)] [] M).bind fun r => nb_R nb_P 293 207 [(3, l0), (19, l1), (20, l2), (5, l3), (0, l4), v5, v6] (r.1 ++ []) r.2 :=
  nb_stepC (c := true) (L2 := [(3, l0), (19, l1), (20, l2), (5, l3), (0, l4), v5, v6]) (S2 := [(19, l1)]) (M2 := M) (t := 207) (cl := 71) (vi := true) rfl rfl (nb_inv_eq (n := 1) rfl rfl rfl rfl rfl rfl (fun _ => h1) rfl)
theorem q_law_law_207 (l0 l1 l2 l3 l4 s0 : Int) (v5 v6 : nb_V) (M : nb_M) (h1 : l2 ≠ 0) :
    nb_R nb_P 293 207 [(3, l0), (19, l1), (20, l2), (5, l3), (0, l4), v5, v6] [(0, s0)] M = (nb_R nb_P 207 0 [(20, l2)] [] M).bind fun r => nb_R nb_P 293 208 [(3, l0), (19, l1), (20, l2), (5, l3), (0, l4), v5, v6] (r.1 ++ [(0, s0)]) r.2 :=
  nb_stepC (c := true) (L2 := [(3, l0), (19, l1), (20, l2), (5, l3), (0, l4), v5, v6]) (S2 := [(20, l2), (0, s0)]) (M2 := M) (t := 208) (cl := 207) (vi := true) rfl rfl (nb_inv_eq (n := 1) rfl rfl rfl rfl rfl rfl (fun _ => h1) rfl)
theorem q_law_law_208 (l0 l1 l2 l3 l4 s0 s1 : Int) (v5 v6 : nb_V) (M : nb_M) :
    nb_R nb_P 293 208 [(3, l0), (19, l1), (20, l2), (5, l3), (0, l4), v5, v6] [(0, s0), (0, s1)] M = if s1 = s0 then nb_R nb_P 293 239 [(3, l0), (19, l1), (20, l2), (5, l3), (0, l4), v5, v6] [] M else nb_R nb_P 293 209 [(3, l0), (19, l1), (20, l2), (5, l3), (0, l4), v5, v6] [] M :=
  nb_step (c := true) rfl rfl
theorem q_law_law_209 (v0 v1 v2 v3 v4 v5 v6 : nb_V) (M : nb_M) :
    nb_R nb_P 293 209 [v0, v1, v2, v3, v4, v5, v6] [] M = some ([(0, 0)], M) :=
  nb_step (c := true) rfl rfl
theorem q_law_law_210 (l0 l1 l2 l3 l4 : Int) (v5 v6 : nb_V) (M : nb_M) (h1 : l0 ≠ 0) (h2 : (0 : Int) ≤ nb_add l4 1) (h3 : nb_add l4 1 < nb_ln M l0) (h4 : l1 ≠ 0) :
    nb_R nb_P 293 210 [(3, l0), (19, l1), (20, l2), (5, l3), (0, l4), v5, v6] [] M = (nb_R nb_P 72 0 [(19, l1), (0, nb_rd M l0 (nb_add l4 1))] [] M).bind fun r => nb_R nb_P 293 211 [(3, l0), (19, l1), (20, l2), (5, l3), (0, l4), v5, v6] (r.1 ++ []) r.2 :=
  nb_stepC (c := (true && (!decide ((l0 : Int) = 0) && (decide ((0 : Int) ≤ nb_add l4 1) && decide (nb_add l4 1 < nb_ln M l0))))) (L2 := [(3, l0), (19, l1), (20, l2), (5, l3), (0, l4), v5, v6]) (S2 := [(0, nb_rd M l0 (nb_add l4 1)), (19, l1)]) (M2 := M) (t := 211) (cl := 72) (vi := true) rfl (by simp [h1, h2, h3, h4]) (nb_inv_eq (n := 2) rfl rfl rfl rfl rfl rfl (fun _ => h4) rfl)
theorem q_law_law_211 (l0 l1 l2 l3 l4 s0 : Int) (v5 v6 : nb_V) (M : nb_M) (h1 : l0 ≠ 0) (h2 : (0 : Int) ≤ nb_add l4 1) (h3 : nb_add l4 1 < nb_ln M l0) (h4 : l2 ≠ 0) :
    nb_R nb_P 293 211 [(3, l0), (19, l1), (20, l2), (5, l3), (0, l4), v5, v6] [(0, s0)] M = (nb_R nb_P 208 0 [(20, l2), (0, nb_rd M l0 (nb_add l4 1))] [] M).bind fun r => nb_R nb_P 293 212 [(3, l0), (19, l1), (20, l2), (5, l3), (0, l4), v5, v6] (r.1 ++ [(0, s0)]) r.2 :=
  nb_stepC (c := (true && (!decide ((l0 : Int) = 0) && (decide ((0 : Int) ≤ nb_add l4 1) && decide (nb_add l4 1 < nb_ln M l0))))) (L2 := [(3, l0), (19, l1), (20, l2), (5, l3), (0, l4), v5, v6]) (S2 := [(0, nb_rd M l0 (nb_add l4 1)), (20, l2), (0, s0)]) (M2 := M) (t := 212) (cl := 208) (vi := true) rfl (by simp [h1, h2, h3, h4]) (nb_inv_eq (n := 2) rfl rfl rfl rfl rfl rfl (fun _ => h4) rfl)
theorem q_law_law_212 (l0 l1 l2 l3 l4 s0 s1 : Int) (v5 v6 : nb_V) (M : nb_M) :
    nb_R nb_P 293 212 [(3, l0), (19, l1), (20, l2), (5, l3), (0, l4), v5, v6] [(0, s0), (0, s1)] M = if s1 = s0 then nb_R nb_P 293 239 [(3, l0), (19, l1), (20, l2), (5, l3), (0, l4), v5, v6] [] M else nb_R nb_P 293 213 [(3, l0), (19, l1), (20, l2), (5, l3), (0, l4), v5, v6] [] M :=
  nb_step (c := true) rfl rfl
theorem q_law_law_213 (v0 v1 v2 v3 v4 v5 v6 : nb_V) (M : nb_M) :
    nb_R nb_P 293 213 [v0, v1, v2, v3, v4, v5, v6] [] M = some ([(0, 0)], M) :=
  nb_step (c := true) rfl rfl
theorem q_law_law_214 (l0 l1 l2 l3 l4 : Int) (v5 v6 : nb_V) (M : nb_M) (h1 : l0 ≠ 0) (h2 : (0 : Int) ≤ nb_add l4 1) (h3 : nb_add l4 1 < nb_ln M l0) (h4 : (0 : Int) ≤ nb_add l4 2) (h5 : nb_add l4 2 < nb_ln M l0) (h6 : l1 ≠ 0) :
    nb_R nb_P 293 214 [(3, l0), (19, l1), (20, l2), (5, l3), (0, l4), v5, v6] [] M = (nb_R nb_P 73 0 [(19, l1), (0, nb_rd M l0 (nb_add l4 1)), (0, nb_rd M l0 (nb_add l4 2)), (98, 0)] [] M).bind fun r => nb_R nb_P 293 215 [(3, l0), (19, l1), (20, l2), (5, l3), (0, l4), v5, v6] (r.1 ++ []) r.2 :=
  nb_stepC (c := ((true && (!decide ((l0 : Int) = 0) && (decide ((0 : Int) ≤ nb_add l4 1) && decide (nb_add l4 1 < nb_ln M l0)))) && (!decide ((l0 : Int) = 0) && (decide ((0 : Int) ≤ nb_add l4 2) && decide (nb_add l4 2 < nb_ln M l0))))) (L2 := [(3, l0), (19, l1), (20, l2), (5, l3), (0, l4), v5, v6]) (S2 := [(0, nb_rd M l0 (nb_add l4 2)), (0, nb_rd M l0 (nb_add l4 1)), (19, l1)]) (M2 := M) (t := 215) (cl := 73) (vi := true) rfl (by simp [h1, h2, h3, h4, h5, h6]) (nb_inv_eq (n := 3) rfl rfl rfl rfl rfl rfl (fun _ => h6) rfl)
theorem q_law_law_215 (l0 l1 l2 l3 l4 s0 : Int) (v5 v6 : nb_V) (M : nb_M) (h1 : l0 ≠ 0) (h2 : (0 : Int) ≤ nb_add l4 1) (h3 : nb_add l4 1 < nb_ln M l0) (h4 : (0 : Int) ≤ nb_add l4 2) (h5 : nb_add l4 2 < nb_ln M l0) (h6 : l2 ≠ 0) :
    nb_R nb_P 293 215 [(3, l0), (19, l1), (20, l2), (5, l3), (0, l4), v5, v6] [(0, s0)] M = (nb_R nb_P 209 0 [(20, l2), (0, nb_rd M l0 (nb_add l4 1)), (0, nb_rd M l0 (nb_add l4 2)), (98, 0)] [] M).bind fun r => nb_R nb_P 293 216 [(3, l0), (19, l1), (20, l2), (5, l3), (0, l4), v5, v6] (r.1 ++ [(0, s0)]) r.2 :=
  nb_stepC (c := ((true && (!decide ((l0 : Int) = 0) && (decide ((0 : Int) ≤ nb_add l4 1) && decide (nb_add l4 1 < nb_ln M l0)))) && (!decide ((l0 : Int) = 0) && (decide ((0 : Int) ≤ nb_add l4 2) && decide (nb_add l4 2 < nb_ln M l0))))) (L2 := [(3, l0), (19, l1), (20, l2), (5, l3), (0, l4), v5, v6]) (S2 := [(0, nb_rd M l0 (nb_add l4 2)), (0, nb_rd M l0 (nb_add l4 1)), (20, l2), (0, s0)]) (M2 := M) (t := 216) (cl := 209) (vi := true) rfl (by simp [h1, h2, h3, h4, h5, h6]) (nb_inv_eq (n := 3) rfl rfl rfl rfl rfl rfl (fun _ => h6) rfl)
theorem q_law_law_216 (l0 l1 l2 l3 l4 s0 s1 : Int) (v5 v6 : nb_V) (M : nb_M) :
    nb_R nb_P 293 216 [(3, l0), (19, l1), (20, l2), (5, l3), (0, l4), v5, v6] [(0, s0), (0, s1)] M = if s1 = s0 then nb_R nb_P 293 239 [(3, l0), (19, l1), (20, l2), (5, l3), (0, l4), v5, v6] [] M else nb_R nb_P 293 217 [(3, l0), (19, l1), (20, l2), (5, l3), (0, l4), v5, v6] [] M :=
  nb_step (c := true) rfl rfl
theorem q_law_law_217 (v0 v1 v2 v3 v4 v5 v6 : nb_V) (M : nb_M) :
    nb_R nb_P 293 217 [v0, v1, v2, v3, v4, v5, v6] [] M = some ([(0, 0)], M) :=
  nb_step (c := true) rfl rfl
theorem q_law_law_218 (l0 l1 l2 l3 l4 : Int) (v5 v6 : nb_V) (M : nb_M) (h1 : l0 ≠ 0) (h2 : (0 : Int) ≤ nb_add l4 1) (h3 : nb_add l4 1 < nb_ln M l0) (h4 : (0 : Int) ≤ nb_add l4 2) (h5 : nb_add l4 2 < nb_ln M l0) (h6 : l1 ≠ 0) :
    nb_R nb_P 293 218 [(3, l0), (19, l1), (20, l2), (5, l3), (0, l4), v5, v6] [] M = (nb_R nb_P 74 0 [(19, l1), (0, nb_rd M l0 (nb_add l4 1)), (0, nb_rd M l0 (nb_add l4 2))] [] M).bind fun r => nb_R nb_P 293 219 [(3, l0), (19, l1), (20, l2), (5, l3), (0, l4), v5, v6] (r.1 ++ []) r.2 :=
  nb_stepC (c := ((true && (!decide ((l0 : Int) = 0) && (decide ((0 : Int) ≤ nb_add l4 1) && decide (nb_add l4 1 < nb_ln M l0)))) && (!decide ((l0 : Int) = 0) && (decide ((0 : Int) ≤ nb_add l4 2) && decide (nb_add l4 2 < nb_ln M l0))))) (L2 := [(3, l0), (19, l1), (20, l2), (5, l3), (0, l4), v5, v6]) (S2 := [(0, nb_rd M l0 (nb_add l4 2)), (0, nb_rd M l0 (nb_add l4 1)), (19, l1)]) (M2 := M) (t := 219) (cl := 74) (vi := true) rfl (by simp [h1, h2, h3, h4, h5, h6]) (nb_inv_eq (n := 3) rfl rfl rfl rfl rfl rfl (fun _ => h6) rfl)
theorem q_law_law_219 (l0 l1 l2 l3 l4 s0 : Int) (v5 v6 : nb_V) (M : nb_M) (h1 : l0 ≠ 0) (h2 : (0 : Int) ≤ nb_add l4 1) (h3 : nb_add l4 1 < nb_ln M l0) (h4 : (0 : Int) ≤ nb_add l4 2) (h5 : nb_add l4 2 < nb_ln M l0) (h6 : l2 ≠ 0) :
    nb_R nb_P 293 219 [(3, l0), (19, l1), (20, l2), (5, l3), (0, l4), v5, v6] [(0, s0)] M = (nb_R nb_P 210 0 [(20, l2), (0, nb_rd M l0 (nb_add l4 1)), (0, nb_rd M l0 (nb_add l4 2))] [] M).bind fun r => nb_R nb_P 293 220 [(3, l0), (19, l1), (20, l2), (5, l3), (0, l4), v5, v6] (r.1 ++ [(0, s0)]) r.2 :=
  nb_stepC (c := ((true && (!decide ((l0 : Int) = 0) && (decide ((0 : Int) ≤ nb_add l4 1) && decide (nb_add l4 1 < nb_ln M l0)))) && (!decide ((l0 : Int) = 0) && (decide ((0 : Int) ≤ nb_add l4 2) && decide (nb_add l4 2 < nb_ln M l0))))) (L2 := [(3, l0), (19, l1), (20, l2), (5, l3), (0, l4), v5, v6]) (S2 := [(0, nb_rd M l0 (nb_add l4 2)), (0, nb_rd M l0 (nb_add l4 1)), (20, l2), (0, s0)]) (M2 := M) (t := 220) (cl := 210) (vi := true) rfl (by simp [h1, h2, h3, h4, h5, h6]) (nb_inv_eq (n := 3) rfl rfl rfl rfl rfl rfl (fun _ => h6) rfl)
theorem q_law_law_220 (l0 l1 l2 l3 l4 s0 s1 : Int) (v5 v6 : nb_V) (M : nb_M) :
    nb_R nb_P 293 220 [(3, l0), (19, l1), (20, l2), (5, l3), (0, l4), v5, v6] [(0, s0), (0, s1)] M = if s1 = s0 then nb_R nb_P 293 239 [(3, l0), (19, l1), (20, l2), (5, l3), (0, l4), v5, v6] [] M else nb_R nb_P 293 221 [(3, l0), (19, l1), (20, l2), (5, l3), (0, l4), v5, v6] [] M :=
  nb_step (c := true) rfl rfl
theorem q_law_law_221 (v0 v1 v2 v3 v4 v5 v6 : nb_V) (M : nb_M) :
    nb_R nb_P 293 221 [v0, v1, v2, v3, v4, v5, v6] [] M = some ([(0, 0)], M) :=
  nb_step (c := true) rfl rfl
theorem q_law_law_222 (l0 l1 l2 l3 l4 : Int) (v5 v6 : nb_V) (M : nb_M) (h1 : l0 ≠ 0) (h2 : (0 : Int) ≤ nb_add l4 1) (h3 : nb_add l4 1 < nb_ln M l0) :
    nb_R nb_P 293 222 [(3, l0), (19, l1), (20, l2), (5, l3), (0, l4), v5, v6] [] M = (nb_led (fun c vs M => match nb_P.2.2.2.2.1 c with | some X => nb_entr nb_P (nb_R nb_P) c X vs M | none => none) l1 (nb_rd M l0 (nb_add l4 1)) l3 M).bind fun r => nb_R nb_P 293 223 [(3, l0), (19, l1), (20, l2), (5, l3), (0, l4), v5, v6] (r.1 ++ []) r.2 :=
  nb_stepC (c := (true && (!decide ((l0 : Int) = 0) && (decide ((0 : Int) ≤ nb_add l4 1) && decide (nb_add l4 1 < nb_ln M l0))))) (L2 := [(3, l0), (19, l1), (20, l2), (5, l3), (0, l4), v5, v6]) (S2 := [(5, l3), (0, nb_rd M l0 (nb_add l4 1)), (19, l1)]) (M2 := M) (t := 223) (cl := 904) (vi := false) rfl (by simp [h1, h2, h3]) (nb_inv_eq (n := 3) rfl rfl rfl rfl rfl rfl (fun h => by cases h) rfl)
theorem q_law_law_223 (l0 l1 l2 l3 l4 s0 : Int) (v5 v6 : nb_V) (M : nb_M) (h1 : l0 ≠ 0) (h2 : (0 : Int) ≤ nb_add l4 1) (h3 : nb_add l4 1 < nb_ln M l0) (h4 : l2 ≠ 0) :
    nb_R nb_P 293 223 [(3, l0), (19, l1), (20, l2), (5, l3), (0, l4), v5, v6] [(0, s0)] M = (nb_R nb_P 211 0 [(20, l2), (0, nb_rd M l0 (nb_add l4 1)), (98, 0), (98, 0)] [] M).bind fun r => nb_R nb_P 293 224 [(3, l0), (19, l1), (20, l2), (5, l3), (0, l4), (0, s0), v6] (r.1 ++ []) r.2 :=
  nb_stepC (c := (true && (!decide ((l0 : Int) = 0) && (decide ((0 : Int) ≤ nb_add l4 1) && decide (nb_add l4 1 < nb_ln M l0))))) (L2 := [(3, l0), (19, l1), (20, l2), (5, l3), (0, l4), (0, s0), v6]) (S2 := [(0, nb_rd M l0 (nb_add l4 1)), (20, l2)]) (M2 := M) (t := 224) (cl := 211) (vi := true) rfl (by simp [h1, h2, h3, h4]) (nb_inv_eq (n := 2) rfl rfl rfl rfl rfl rfl (fun _ => h4) rfl)
theorem q_law_law_224 (l0 l1 l2 l3 l4 l5 s0 : Int) (v6 : nb_V) (M : nb_M) (h1 : l2 ≠ 0) :
    nb_R nb_P 293 224 [(3, l0), (19, l1), (20, l2), (5, l3), (0, l4), (0, l5), v6] [(0, s0)] M = (nb_R nb_P 78 0 [(20, l2)] [] M).bind fun r => nb_R nb_P 293 225 [(3, l0), (19, l1), (20, l2), (5, l3), (0, l4), (0, l5), (0, s0)] (r.1 ++ []) r.2 :=
  nb_stepC (c := true) (L2 := [(3, l0), (19, l1), (20, l2), (5, l3), (0, l4), (0, l5), (0, s0)]) (S2 := [(20, l2)]) (M2 := M) (t := 225) (cl := 78) (vi := true) rfl rfl (nb_inv_eq (n := 1) rfl rfl rfl rfl rfl rfl (fun _ => h1) rfl)
theorem q_law_law_225 (l0 l1 l2 l3 l4 l5 l6 s0 : Int) (M : nb_M) :
    nb_R nb_P 293 225 [(3, l0), (19, l1), (20, l2), (5, l3), (0, l4), (0, l5), (0, l6)] [(0, s0)] M = if s0 = l5 then nb_R nb_P 293 227 [(3, l0), (19, l1), (20, l2), (5, l3), (0, l4), (0, l5), (0, l6)] [] M else nb_R nb_P 293 226 [(3, l0), (19, l1), (20, l2), (5, l3), (0, l4), (0, l5), (0, l6)] [] M :=
  nb_step (c := true) rfl rfl
theorem q_law_law_226 (v0 v1 v2 v3 v4 v5 v6 : nb_V) (M : nb_M) :
    nb_R nb_P 293 226 [v0, v1, v2, v3, v4, v5, v6] [] M = some ([(0, 0)], M) :=
  nb_step (c := true) rfl rfl
theorem q_law_law_227 (l0 l1 l2 l3 l4 l5 l6 : Int) (M : nb_M) :
    nb_R nb_P 293 227 [(3, l0), (19, l1), (20, l2), (5, l3), (0, l4), (0, l5), (0, l6)] [] M = if l5 = 0 then nb_R nb_P 293 228 [(3, l0), (19, l1), (20, l2), (5, l3), (0, l4), (0, l5), (0, l6)] [] M else nb_R nb_P 293 230 [(3, l0), (19, l1), (20, l2), (5, l3), (0, l4), (0, l5), (0, l6)] [] M :=
  nb_step (c := true) rfl rfl
theorem q_law_law_228 (l0 l1 l2 l3 l4 l6 : Int) (v5 : nb_V) (M : nb_M) (h1 : l3 ≠ 0) (h2 : (0 : Int) ≤ 0) (h3 : 0 < nb_ln M l3) :
    nb_R nb_P 293 228 [(3, l0), (19, l1), (20, l2), (5, l3), (0, l4), v5, (0, l6)] [] M = if nb_lcmp (nb_rd M l3 0) (nb_i2l l6) = 0 then nb_R nb_P 293 230 [(3, l0), (19, l1), (20, l2), (5, l3), (0, l4), v5, (0, l6)] [] M else nb_R nb_P 293 229 [(3, l0), (19, l1), (20, l2), (5, l3), (0, l4), v5, (0, l6)] [] M :=
  nb_step (c := (true && (!decide ((l3 : Int) = 0) && (decide ((0 : Int) ≤ 0) && decide (0 < nb_ln M l3))))) rfl (by simp [h1, h2, h3])
theorem q_law_law_229 (v0 v1 v2 v3 v4 v5 v6 : nb_V) (M : nb_M) :
    nb_R nb_P 293 229 [v0, v1, v2, v3, v4, v5, v6] [] M = some ([(0, 0)], M) :=
  nb_step (c := true) rfl rfl
theorem q_law_law_230 (l0 l1 l2 l3 l4 : Int) (v5 v6 : nb_V) (M : nb_M) :
    nb_R nb_P 293 230 [(3, l0), (19, l1), (20, l2), (5, l3), (0, l4), v5, v6] [] M = nb_R nb_P 293 239 [(3, l0), (19, l1), (20, l2), (5, l3), (0, l4), v5, v6] [] M :=
  nb_step (c := true) rfl rfl
theorem q_law_law_231 (l0 l1 l2 l3 l4 : Int) (v5 v6 : nb_V) (M : nb_M) (h1 : l0 ≠ 0) (h2 : (0 : Int) ≤ nb_add l4 1) (h3 : nb_add l4 1 < nb_ln M l0) (h4 : l1 ≠ 0) :
    nb_R nb_P 293 231 [(3, l0), (19, l1), (20, l2), (5, l3), (0, l4), v5, v6] [] M = (nb_R nb_P 75 0 [(19, l1), (0, nb_rd M l0 (nb_add l4 1))] [] M).bind fun r => nb_R nb_P 293 232 [(3, l0), (19, l1), (20, l2), (5, l3), (0, l4), v5, v6] (r.1 ++ []) r.2 :=
  nb_stepC (c := (true && (!decide ((l0 : Int) = 0) && (decide ((0 : Int) ≤ nb_add l4 1) && decide (nb_add l4 1 < nb_ln M l0))))) (L2 := [(3, l0), (19, l1), (20, l2), (5, l3), (0, l4), v5, v6]) (S2 := [(0, nb_rd M l0 (nb_add l4 1)), (19, l1)]) (M2 := M) (t := 232) (cl := 75) (vi := true) rfl (by simp [h1, h2, h3, h4]) (nb_inv_eq (n := 2) rfl rfl rfl rfl rfl rfl (fun _ => h4) rfl)
theorem q_law_law_232 (l0 l1 l2 l3 l4 s0 : Int) (v5 v6 : nb_V) (M : nb_M) (h1 : l0 ≠ 0) (h2 : (0 : Int) ≤ nb_add l4 1) (h3 : nb_add l4 1 < nb_ln M l0) (h4 : l2 ≠ 0) :
    nb_R nb_P 293 232 [(3, l0), (19, l1), (20, l2), (5, l3), (0, l4), v5, v6] [(0, s0)] M = (nb_R nb_P 212 0 [(20, l2), (0, nb_rd M l0 (nb_add l4 1))] [] M).bind fun r => nb_R nb_P 293 233 [(3, l0), (19, l1), (20, l2), (5, l3), (0, l4), v5, v6] (r.1 ++ [(0, s0)]) r.2 :=
  nb_stepC (c := (true && (!decide ((l0 : Int) = 0) && (decide ((0 : Int) ≤ nb_add l4 1) && decide (nb_add l4 1 < nb_ln M l0))))) (L2 := [(3, l0), (19, l1), (20, l2), (5, l3), (0, l4), v5, v6]) (S2 := [(0, nb_rd M l0 (nb_add l4 1)), (20, l2), (0, s0)]) (M2 := M) (t := 233) (cl := 212) (vi := true) rfl (by simp [h1, h2, h3, h4]) (nb_inv_eq (n := 2) rfl rfl rfl rfl rfl rfl (fun _ => h4) rfl)
theorem q_law_law_233 (l0 l1 l2 l3 l4 s0 s1 : Int) (v5 v6 : nb_V) (M : nb_M) :
    nb_R nb_P 293 233 [(3, l0), (19, l1), (20, l2), (5, l3), (0, l4), v5, v6] [(0, s0), (0, s1)] M = if s1 = s0 then nb_R nb_P 293 239 [(3, l0), (19, l1), (20, l2), (5, l3), (0, l4), v5, v6] [] M else nb_R nb_P 293 234 [(3, l0), (19, l1), (20, l2), (5, l3), (0, l4), v5, v6] [] M :=
  nb_step (c := true) rfl rfl
theorem q_law_law_234 (v0 v1 v2 v3 v4 v5 v6 : nb_V) (M : nb_M) :
    nb_R nb_P 293 234 [v0, v1, v2, v3, v4, v5, v6] [] M = some ([(0, 0)], M) :=
  nb_step (c := true) rfl rfl
theorem q_law_law_235 (l0 l1 l2 l3 l4 : Int) (v5 v6 : nb_V) (M : nb_M) (h1 : l1 ≠ 0) :
    nb_R nb_P 293 235 [(3, l0), (19, l1), (20, l2), (5, l3), (0, l4), v5, v6] [] M = (nb_R nb_P 76 0 [(19, l1)] [] M).bind fun r => nb_R nb_P 293 236 [(3, l0), (19, l1), (20, l2), (5, l3), (0, l4), v5, v6] (r.1 ++ []) r.2 :=
  nb_stepC (c := true) (L2 := [(3, l0), (19, l1), (20, l2), (5, l3), (0, l4), v5, v6]) (S2 := [(19, l1)]) (M2 := M) (t := 236) (cl := 76) (vi := true) rfl rfl (nb_inv_eq (n := 1) rfl rfl rfl rfl rfl rfl (fun _ => h1) rfl)
theorem q_law_law_236 (l0 l1 l2 l3 l4 s0 : Int) (v5 v6 : nb_V) (M : nb_M) (h1 : l2 ≠ 0) :
    nb_R nb_P 293 236 [(3, l0), (19, l1), (20, l2), (5, l3), (0, l4), v5, v6] [(0, s0)] M = (nb_R nb_P 213 0 [(20, l2)] [] M).bind fun r => nb_R nb_P 293 237 [(3, l0), (19, l1), (20, l2), (5, l3), (0, l4), v5, v6] (r.1 ++ [(0, s0)]) r.2 :=
  nb_stepC (c := true) (L2 := [(3, l0), (19, l1), (20, l2), (5, l3), (0, l4), v5, v6]) (S2 := [(20, l2), (0, s0)]) (M2 := M) (t := 237) (cl := 213) (vi := true) rfl rfl (nb_inv_eq (n := 1) rfl rfl rfl rfl rfl rfl (fun _ => h1) rfl)
theorem q_law_law_237 (l0 l1 l2 l3 l4 s0 s1 : Int) (v5 v6 : nb_V) (M : nb_M) :
    nb_R nb_P 293 237 [(3, l0), (19, l1), (20, l2), (5, l3), (0, l4), v5, v6] [(0, s0), (0, s1)] M = if s1 = s0 then nb_R nb_P 293 239 [(3, l0), (19, l1), (20, l2), (5, l3), (0, l4), v5, v6] [] M else nb_R nb_P 293 238 [(3, l0), (19, l1), (20, l2), (5, l3), (0, l4), v5, v6] [] M :=
  nb_step (c := true) rfl rfl
theorem q_law_law_238 (v0 v1 v2 v3 v4 v5 v6 : nb_V) (M : nb_M) :
    nb_R nb_P 293 238 [v0, v1, v2, v3, v4, v5, v6] [] M = some ([(0, 0)], M) :=
  nb_step (c := true) rfl rfl
theorem q_law_law_239 (l0 l1 l2 l3 l4 : Int) (v5 v6 : nb_V) (M : nb_M) :
    nb_R nb_P 293 239 [(3, l0), (19, l1), (20, l2), (5, l3), (0, l4), v5, v6] [] M = nb_R nb_P 293 6 [(3, l0), (19, l1), (20, l2), (5, l3), (0, nb_add l4 6), v5, v6] [] M :=
  nb_step (c := true) rfl rfl
theorem q_law_law_240 (v0 v1 v2 v3 v4 v5 v6 : nb_V) (M : nb_M) :
    nb_R nb_P 293 240 [v0, v1, v2, v3, v4, v5, v6] [] M = some ([(0, 1)], M) :=
  nb_step (c := true) rfl rfl
