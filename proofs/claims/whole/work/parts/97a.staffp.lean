/-! CALL: staff, the pair; printed by wip/gen/req/p98.py -/
theorem pa_staff (s w : Int) : pu_pair 17 [(19, 2), (0, s), (0, w), (98, 0)] 143 [(20, 603), (0, s), (0, w), (98, 0), (98, 0), (98, 0), (98, 0)] := by
  apply pu_pair_r
  intro M k hI hk0 hk1
  obtain ⟨Ho, hHo, hx2, hx3, hh, hSn, hT, h14, h7, hL⟩ := pu_I_at hI
  have hr := hT.1
  have n5 := hr.2.2.2.2.2.2.1
  have n4 := hr.2.2.2.2.2.1
  have n3 := hr.2.2.2.2.1
  have n2 := hr.2.2.2.1
  have n1 := hr.2.2.1
  have hhh := nb_Hw hh
  obtain ⟨⟨o9, o10, o11, o12, o13, o14, o15⟩, hh2⟩ := hh
  obtain ⟨t15, t16, t17⟩ := hI.2.2.2.2.1
  have h14' : (M.1 603 14 = 0 ∧ M.1 606 5 = 0) ∨ (M.1 603 14 = 1 ∧ 1 ≤ M.1 606 5) := by
    rw [h14]
    split
    · exact Or.inl ⟨rfl, by assumption⟩
    · exact Or.inr ⟨rfl, by omega⟩
  have hL' : nb_Lay (nb_wr M 2 15 0) := hL.wr (fun w => nb_nlit (by decide) (by decide))
  have hLn : nb_Lay (nb_up (nb_up (nb_wr (nb_wr (nb_wr (nb_wr M 2 15 0) 603 0 0) 603 11 0) 603 25 (M.1 606 4)) 612 (pu_cpy (M.1 606) (M.1 612) 23 0 18)) 613 (pu_cpy (M.1 606) (M.1 613) 41 0 70)) := ((((hL'.wr (fun w => nb_nlit (by decide) (by decide))).wr (fun w => nb_nlit (by decide) (by decide))).wr (fun w => nb_nlit (by decide) (by decide))).up (fun i w => nb_nnum (by decide) (by decide))).up (fun i w => nb_nnum (by decide) (by decide))
  have hz4 : M.1 606 5 = 0 → M.1 606 4 = 0 := fun z => by
    have q := hT.2.2.2.2.2.2
    omega
  have hu := hHo
  unfold nb_hs at hu
  have hx2' : (nb_wr M 2 15 0).1 2 2 = Ho := by
    rw [nb_wr_1, if_neg (by omega)]
    exact hx2
  have hR := hSn.2.2.1.1
  have u7 : M.1 84 7 = M.1 608 0 := hSn.2.2.2.2.1
  have hcr : 0 ≤ s → s < M.1 606 4 → pu_cr0 (M.1 606) (6 * s + 5) = M.1 606 (23 + (6 * s + 5)) := fun a b => by
    unfold pu_cr0
    rw [if_pos (by omega)]
  have hh12 : 0 ≤ s → s < M.1 606 4 → 1 ≤ M.1 606 (23 + (6 * s + 5)) ∧ M.1 606 (23 + (6 * s + 5)) ≤ 2 := fun a b => by
    have q := (hT.2.1 s a (by omega)).2.2
    rw [hcr a b] at q
    exact ⟨hT.2.2.2.2.2.2.2.2 s a b, q.2⟩
  have hv : 0 ≤ s → s < M.1 606 4 → (M.1 (98 + 2 * s) 2 = M.1 608 (92 + 4 * s)) ∧ ((nb_wr M 2 15 0).1 (98 + 2 * s) 6 = M.1 606 (23 + (6 * s + 5))) ∧ ((nb_wr M 2 15 0).1 (98 + 2 * s + 1) 0 = M.1 608 (92 + 4 * s + 1)) ∧ ((nb_wr M 2 15 0).1 (98 + 2 * s + 1) 1 = M.1 608 (92 + 4 * s + 2)) := fun a b => by
    have v := hSn.1.2.2.2.2.2 s a b
    rw [show (84 : Int) + 14 + 2 * s = 98 + 2 * s by omega] at v
    obtain ⟨v1, v2, v3, v4, v5, v6, v7, f0, f1⟩ := v
    refine ⟨v2, ?_, ?_, ?_⟩
    · rw [nb_wr_b (by omega), v6, hcr a b]
    · rw [nb_wr_b (by omega)]; exact f0
    · rw [nb_wr_b (by omega)]; exact f1
  have hrow : 0 ≤ s → s < M.1 606 4 → (M.1 608 (92 + 4 * s + 1) ≤ 100000) ∧ (M.1 608 (92 + 4 * s + 2) ≤ 100000) := fun a b => by
    obtain ⟨-, ⟨q10, q11⟩, ⟨q20, q21⟩, -⟩ := hR.2.1 s a (by omega)
    exact ⟨q11, q21⟩
  have hR0 := hR.2.2.1
  have hs0 : 0 ≤ s → s < M.1 606 4 → (nb_wr M 2 15 0).1 (98 + 2 * s) 0 = 98 + 2 * s + 1 := fun a b => by
    have e := hL'.sv0 nb_sc84 a (show s < 4 by omega)
    rw [show (84 : Int) + 14 + 2 * s = 98 + 2 * s by omega] at e
    exact e
  have hsf : 0 ≤ s → s < M.1 606 4 → nb_ln (nb_wr M 2 15 0) (98 + 2 * s + 1) = 2 := fun a b => by
    have e := hL'.snf nb_sc84 a (show s < 4 by omega)
    rw [show (84 : Int) + 14 + 2 * s = 98 + 2 * s by omega] at e
    exact e
  have hB := nb_Hw (fun (a : 0 ≤ s) (b : s < M.1 606 4) => sp_sv_busy (now := M.1 84 7) (v2 := (98, 0)) (v3 := (98, 0)) (show (98 : Int) + 2 * s ≠ 0 by omega) (hs0 a b) (hsf a b) (by omega) (hv a b).2.1 (hh12 a b) (hv a b).2.2.1 (hv a b).2.2.2)
  have hF := nb_Hw (fun (a : 0 ≤ s) (b : s < M.1 606 4) => sp_sv_firstF (now := M.1 84 7) (v2 := (98, 0)) (v3 := (98, 0)) (show (98 : Int) + 2 * s ≠ 0 by omega) (hs0 a b) (hsf a b) (by omega) (hv a b).2.1 (hh12 a b) (hv a b).2.2.1 (hv a b).2.2.2 (by omega) (hrow a b).1)
  have hP := nb_Hw (fun (a : 0 ≤ s) (b : s < M.1 606 4) => (hv a b).1)
  have hMl := nb_Hw (fun (a : 0 ≤ s) (b : s < M.1 606 4) => sp_m_staff_l (M := (nb_up (nb_up (nb_wr (nb_wr (nb_wr (nb_wr M 2 15 0) 603 0 0) 603 11 0) 603 25 (M.1 606 4)) 612 (pu_cpy (M.1 606) (M.1 612) 23 0 18)) 613 (pu_cpy (M.1 606) (M.1 613) 41 0 70))) (R := M.1 608) (hn := M.1 606 (23 + (6 * s + 5))) (s := s) (w := w) hLn (by rw [nb_up_other (by decide), nb_up_other (by decide), nb_wr_b (by decide), nb_wr_b (by decide), nb_wr_b (by decide), nb_wr_b (by decide)]) (by
    rw [nb_up_other (by decide), nb_up_same]
    unfold pu_cpy
    rw [if_pos (by omega), show 6 * s + 5 - 0 + 23 = 23 + (6 * s + 5) by omega]) (hh12 a b) (by omega) hR)
  clear hcr hh12 hv hrow hs0 hsf
  refine w_c_staff_0 hL hHo hx2 ?_
  try simp only [o9, o10, o11, o12, o13, o14, o15]
  repeat' (first | assumption | with_reducible apply And.intro | intro _)
  all_goals first
    | omega
    | (refine nb_Wp (nb_Hu hB (by assumption) (by omega)) ⟨_, rfl, hL', hx2', fun _ => ?_⟩
       refine ⟨_, _, rfl, pu_CQ_no hL', by omega, ?_⟩
       refine w_m_staff_0 (by assumption) ?_
       try clear hh2; try clear h14; try clear hT; try clear t15; try clear t16; try clear t17; try clear hx3; try clear n1; try clear n2; try clear n3
       simp only [nb_wr_b (show (603 : Int) ≠ 2 by decide), nb_wr_b (show (604 : Int) ≠ 2 by decide), nb_wr_b (show (606 : Int) ≠ 2 by decide), nb_wr_b (show (608 : Int) ≠ 2 by decide), nb_wr_b (show (609 : Int) ≠ 2 by decide), nb_wr_b (show (610 : Int) ≠ 2 by decide), nb_wr_b (show (611 : Int) ≠ 2 by decide), nb_wr_b (show (612 : Int) ≠ 2 by decide), nb_wr_b (show (613 : Int) ≠ 2 by decide)]
       repeat' (first | assumption | with_reducible apply And.intro | intro _)
       all_goals first
         | exact trivial
         | assumption
         | (with_reducible refine pu_MQ_ok ?_ ?_
            · exact pu_I7_wr h7 (by decide)
            · assumption)
         | (with_reducible refine pu_MQ_no ?_ ?_
            · exact pu_I7_wr h7 (by decide)
            · assumption)
         | (with_reducible refine pu_MQ_told ?_ ?_ ?_
            · exact pu_I7_wr h7 (by decide)
            · first | exact pu_cpy12 | (rw [nb_wr_b (by decide)]; exact pu_cpy12)
            · assumption)
         | omega
         | (refine pu_v1 ?_
            omega)
         | (refine nb_W.imp (nb_Hu hMl (by assumption) (by omega)) ?_
            rintro r' M' ⟨rfl, rfl⟩
            refine ⟨pu_v1 ?_, pu_MQ_told (pu_I7_wr h7 (by decide)) (by rw [nb_wr_b (by decide)]; exact pu_cpy12) hLn⟩
            unfold pu_stf
            first
              | (rw [if_pos (by assumption)]; exact (nb_Hu hP (by assumption) (by omega)).symm)
              | (rw [if_neg (by omega), if_pos (by assumption), u7])
              | (rw [if_neg (by assumption), if_neg (by assumption), u7]))
         | exact pu_v1 (by first | assumption | (symm; assumption) | rfl | (simp [*]; done)))
    | (refine nb_Wp (nb_Hu hF (by assumption) (by omega)) ⟨_, rfl, hL', hx2', fun _ => ?_⟩
       refine ⟨_, _, rfl, pu_CQ_no hL', by omega, ?_⟩
       refine w_m_staff_0 (by assumption) ?_
       try clear hh2; try clear h14; try clear hT; try clear t15; try clear t16; try clear t17; try clear hx3; try clear n1; try clear n2; try clear n3
       simp only [nb_wr_b (show (603 : Int) ≠ 2 by decide), nb_wr_b (show (604 : Int) ≠ 2 by decide), nb_wr_b (show (606 : Int) ≠ 2 by decide), nb_wr_b (show (608 : Int) ≠ 2 by decide), nb_wr_b (show (609 : Int) ≠ 2 by decide), nb_wr_b (show (610 : Int) ≠ 2 by decide), nb_wr_b (show (611 : Int) ≠ 2 by decide), nb_wr_b (show (612 : Int) ≠ 2 by decide), nb_wr_b (show (613 : Int) ≠ 2 by decide)]
       repeat' (first | assumption | with_reducible apply And.intro | intro _)
       all_goals first
         | exact trivial
         | assumption
         | (with_reducible refine pu_MQ_ok ?_ ?_
            · exact pu_I7_wr h7 (by decide)
            · assumption)
         | (with_reducible refine pu_MQ_no ?_ ?_
            · exact pu_I7_wr h7 (by decide)
            · assumption)
         | (with_reducible refine pu_MQ_told ?_ ?_ ?_
            · exact pu_I7_wr h7 (by decide)
            · first | exact pu_cpy12 | (rw [nb_wr_b (by decide)]; exact pu_cpy12)
            · assumption)
         | omega
         | (refine pu_v1 ?_
            omega)
         | (refine nb_W.imp (nb_Hu hMl (by assumption) (by omega)) ?_
            rintro r' M' ⟨rfl, rfl⟩
            refine ⟨pu_v1 ?_, pu_MQ_told (pu_I7_wr h7 (by decide)) (by rw [nb_wr_b (by decide)]; exact pu_cpy12) hLn⟩
            unfold pu_stf
            first
              | (rw [if_pos (by assumption)]; exact (nb_Hu hP (by assumption) (by omega)).symm)
              | (rw [if_neg (by omega), if_pos (by assumption), u7])
              | (rw [if_neg (by assumption), if_neg (by assumption), u7]))
         | exact pu_v1 (by first | assumption | (symm; assumption) | rfl | (simp [*]; done)))
    | (refine ⟨_, _, rfl, pu_CQ_no (by assumption), by omega, ?_⟩
       refine w_m_staff_0 (by assumption) ?_
       try clear hh2; try clear h14; try clear hT; try clear t15; try clear t16; try clear t17; try clear hx3; try clear n1; try clear n2; try clear n3
       simp only [nb_wr_b (show (603 : Int) ≠ 2 by decide), nb_wr_b (show (604 : Int) ≠ 2 by decide), nb_wr_b (show (606 : Int) ≠ 2 by decide), nb_wr_b (show (608 : Int) ≠ 2 by decide), nb_wr_b (show (609 : Int) ≠ 2 by decide), nb_wr_b (show (610 : Int) ≠ 2 by decide), nb_wr_b (show (611 : Int) ≠ 2 by decide), nb_wr_b (show (612 : Int) ≠ 2 by decide), nb_wr_b (show (613 : Int) ≠ 2 by decide)]
       repeat' (first | assumption | with_reducible apply And.intro | intro _)
       all_goals first
         | exact trivial
         | assumption
         | (with_reducible refine pu_MQ_ok ?_ ?_
            · exact pu_I7_wr h7 (by decide)
            · assumption)
         | (with_reducible refine pu_MQ_no ?_ ?_
            · exact pu_I7_wr h7 (by decide)
            · assumption)
         | (with_reducible refine pu_MQ_told ?_ ?_ ?_
            · exact pu_I7_wr h7 (by decide)
            · first | exact pu_cpy12 | (rw [nb_wr_b (by decide)]; exact pu_cpy12)
            · assumption)
         | omega
         | (refine pu_v1 ?_
            omega)
         | (refine nb_W.imp (nb_Hu hMl (by assumption) (by omega)) ?_
            rintro r' M' ⟨rfl, rfl⟩
            refine ⟨pu_v1 ?_, pu_MQ_told (pu_I7_wr h7 (by decide)) (by rw [nb_wr_b (by decide)]; exact pu_cpy12) hLn⟩
            unfold pu_stf
            first
              | (rw [if_pos (by assumption)]; exact (nb_Hu hP (by assumption) (by omega)).symm)
              | (rw [if_neg (by omega), if_pos (by assumption), u7])
              | (rw [if_neg (by assumption), if_neg (by assumption), u7]))
         | exact pu_v1 (by first | assumption | (symm; assumption) | rfl | (simp [*]; done)))
    | (refine ⟨_, _, rfl, pu_CQ_id (by assumption), by omega, ?_⟩
       refine w_m_staff_0 (by assumption) ?_
       repeat' (first | assumption | with_reducible apply And.intro | intro _)
       all_goals first
         | exact trivial
         | assumption
         | omega
         | exact pu_v1 (by omega)
         | exact pu_MQ_th h7 (by omega) (by assumption))
