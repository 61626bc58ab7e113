theorem pr_house {n : Int} : pu_pair 4 [(19, 2), (0, n), (98, 0), (98, 0)] 105 [(20, 603), (0, n), (98, 0)] := by
  intro M k hI k0 k1
  have hI' := hI
  obtain ⟨hL, ⟨t1, t2, t3, t4, t5⟩, ⟨i1, i2, i3⟩, ⟨Ho, So, ⟨s1, s2, s3, s4, s5⟩, ⟨u1, u2, u3, u4⟩, ⟨m1, m2, m3⟩⟩, ⟨r1, r2, r3⟩, i7⟩ := hI'
  have hHo : nb_hs Ho := by unfold nb_hs; omega
  have hSo : nb_hs So := by unfold nb_hs; omega
  have no : (n < 0 ∨ M.1 603 2 < n) → nb_Lay (nb_wr M 2 15 2) → ((nb_Lay (nb_wr M 2 15 2) ∧ pu_sm (nb_wr M 2 15 2) M) ∧ ∃ v : Int, [((0 : Nat), (-1 : Int))] = [(0, v)] ∧ nb_W 105 0 [(20, 603), (0, n), (98, 0)] [] (nb_wr M 2 15 2) (fun r2 M2 => r2 = [(0, v)] ∧ pu_I M2 (k + 1) ∧ pu_sm M2 M)) := fun c hL1 => by
    refine ⟨⟨hL1, rfl, nb_wr_b (by decide)⟩, -1, rfl, ?_⟩
    have q := pu_CQ_no hL1
    have j7 : pu_I7 (nb_wr M 2 15 2) := pu_I7_wr i7 (by decide)
    have e2 : (nb_wr M 2 15 2).1 603 2 = M.1 603 2 := by rw [nb_wr_b (by decide)]
    have e : nb_W 105 0 [(20, 603), (0, n), (98, 0)] [] (nb_wr M 2 15 2) (fun r2 M2 => r2 = [(0, -1)] ∧ pu_MQ (nb_wr M 2 15 2) M2 2) := by
      refine w_m_house_0 hL1 ⟨fun _ hL2 => ⟨rfl, pu_MQ_no j7 hL2⟩, fun c0 => ⟨fun _ hL2 => ⟨rfl, pu_MQ_no j7 hL2⟩, fun c1 => ?_⟩⟩
      rw [e2] at c1
      exact absurd c (by omega)
    refine nb_W.imp e ?_
    rintro r2 M2 ⟨rfl, hm⟩
    exact ⟨rfl, pu_I_q hI q hm (fun z => absurd z (by decide)), pu_sm_q q hm⟩
  refine w_c_house_0 hL hHo s2 hSo s3 ⟨fun c => no (Or.inl c), fun c => ⟨fun c1 => no (Or.inr (by omega)), fun c1 => ?_⟩⟩
  have Wp : nb_Lay (nb_wr (nb_wr M 2 15 0) 2 1 0) := (hL.wr (fun w => nb_nlit (by decide) (by decide))).wr (fun w => nb_nlit (by decide) (by decide))
  have pb : ∀ a, a ≠ 2 → (nb_wr (nb_wr M 2 15 0) 2 1 0).1 a = M.1 a := fun a h => by rw [nb_wr_b h, nb_wr_b h]
  have p2 : ∀ i, (nb_wr (nb_wr M 2 15 0) 2 1 0).1 2 i = if i = 1 then 0 else if i = 15 then 0 else M.1 2 i := fun i => by simp [nb_wr_1]
  have pm : (nb_wr (nb_wr M 2 15 0) 2 1 0).2 = M.2 := rfl
  generalize nb_wr (nb_wr M 2 15 0) 2 1 0 = Mp at Wp pb p2 pm ⊢
  have hb : pu_by Mp (M.1 604) n := fun i a b => by
    have g := t3 i a (by omega)
    rw [pb 3 (by decide), g.2]
    by_cases c : M.1 604 i < 128
    · rw [if_pos c]; exact Or.inl ⟨rfl, g.1.1, c⟩
    · rw [if_neg c]; exact Or.inr ⟨rfl, by omega, g.1.2⟩
  obtain ⟨x, Ma, e1, ⟨f1, f2, f3, f4⟩, sec⟩ := rl_both (tx := M.1 604) (n := n) Wp hSo hb (by omega) (fun a a0 a1 => by rw [pb a (by omega)]; exact t5 a (by omega)) (pb 604 (by decide))
  have fb : ∀ a, a ≠ 2 → (a < 76 ∨ 84 ≤ a) → (a < So ∨ So + 36 ≤ a) → Ma.1 a = M.1 a := fun a h x y => (f3 a x y).trans (pb a h)
  have fc : ∀ i, Ma.1 2 i = if i = 1 then 0 else if i = 15 then 0 else M.1 2 i := fun i => by rw [f3 2 (by decide) (by omega)]; exact p2 i
  have fg : ∀ a i, So + 20 ≤ a → a < So + 30 → 8 ≤ i → Ma.1 a i = M.1 a i := fun a i a0 a1 hi => by rw [f4 a i a0 a1 hi, pb a (by omega)]
  have fm : Ma.2 = M.2 := f2.trans pm
  refine nb_Wp e1 ⟨x, rfl, f1, (fc 2).trans s2, (fc 3).trans s3, fun x0 hL1 => ?_, fun x1 => ?_⟩
  · -- a fault
    refine ⟨⟨hL1, fm, by rw [nb_wr_b (by decide), nb_wr_b (by decide), nb_wr_b (by decide)]; exact fb 1 (by decide) (by omega) (by omega)⟩, -1, rfl, ?_⟩
    have b1 : ∀ a, a ≠ 2 → (nb_wr (nb_wr (nb_wr Ma 2 16 (Ma.1 76 9)) 2 17 (Ma.1 76 10)) 2 15 4).1 a = Ma.1 a := fun a h => by rw [nb_wr_b h, nb_wr_b h, nb_wr_b h]
    generalize hM1 : nb_wr (nb_wr (nb_wr Ma 2 16 (Ma.1 76 9)) 2 17 (Ma.1 76 10)) 2 15 4 = M1 at hL1 b1 ⊢
    obtain ⟨N1, g1, g2, g3, g4⟩ := sec M1 hL1 ((b1 604 (by decide)).trans (fb 604 (by decide) (by omega) (by omega)))
    have hD : pu_Dd Ma N1 := by
      rcases g4 with ⟨q, -⟩ | ⟨-, q⟩
      · omega
      · exact q
    have e6 : M1.1 603 2 = M.1 603 2 := by rw [b1 603 (by decide), fb 603 (by decide) (by omega) (by omega)]
    refine w_m_house_0 hL1 ⟨fun z => absurd z (by omega), fun _ => ⟨fun z => absurd z (by omega), fun _ => g1 _ (w_m_house_30 g2.1 ⟨fun z => absurd (hD.2.1.symm.trans z) (by decide), fun _ hL2 => ?_⟩)⟩⟩
    obtain ⟨q1, q2⟩ := pu_I_fault (M := M) (Ma := Ma) (M1 := M1) (N1 := N1) hI k0 s2 s3 s1 ⟨f1, fm, fb, fun i x y => by rw [fc, if_neg x, if_neg y], fc 1⟩ fg hM1.symm g2 hD hL2
    exact ⟨rfl, q1, q2, by rw [nb_wr_b (by decide), g2.2.2.1 1 (by decide) (by decide) (by decide), b1 1 (by decide)]; exact fb 1 (by decide) (by omega) (by omega)⟩
  · -- a house
    have hx : x = 0 ∨ x = 1 := by
      obtain ⟨N0, -, -, -, g⟩ := sec Mp Wp (pb 604 (by decide))
      rcases g with ⟨q, -⟩ | ⟨q, -⟩ <;> omega
    refine ⟨hx, ?_⟩
    -- the first told, for the counts
    obtain ⟨N0, -, ⟨n01, -⟩, -, g0⟩ := sec Mp Wp (pb 604 (by decide))
    have g0' : Ma.1 76 9 = 0 ∧ pu_HR Ma So (N0.1 607) := by
      rcases g0 with ⟨-, q, -, q2, -⟩ | ⟨q, -⟩
      · exact ⟨q, q2⟩
      · exact absurd q x1
    obtain ⟨q769, hR0⟩ := g0'
    have H1 := hR0.2.1
    have cP : 0 ≤ Ma.1 So 13 ∧ Ma.1 So 13 ≤ 10 := by rw [H1.2.2.1]; exact H1.2.2.2.2.2.2.2.1
    have cS : 0 ≤ Ma.1 So 12 ∧ Ma.1 So 12 ≤ 3 := by rw [H1.2.1]; exact H1.2.2.2.2.2.2.1
    clear H1 hR0 g0 n01 N0
    have Wg : nb_Lay (nb_wr (nb_wr (nb_wr Ma 2 16 (Ma.1 76 9)) 2 17 (Ma.1 76 10)) 2 15 0) := ((f1.wr (fun w => nb_nlit (by decide) (by decide))).wr (fun w => nb_nlit (by decide) (by decide))).wr (fun w => nb_nlit (by decide) (by decide))
    have gb : ∀ a, a ≠ 2 → (nb_wr (nb_wr (nb_wr Ma 2 16 (Ma.1 76 9)) 2 17 (Ma.1 76 10)) 2 15 0).1 a = Ma.1 a := fun a h => by rw [nb_wr_b h, nb_wr_b h, nb_wr_b h]
    have gc : ∀ i, (nb_wr (nb_wr (nb_wr Ma 2 16 (Ma.1 76 9)) 2 17 (Ma.1 76 10)) 2 15 0).1 2 i = if i = 15 then 0 else if i = 17 then Ma.1 76 10 else if i = 16 then Ma.1 76 9 else Ma.1 2 i := fun i => by simp [nb_wr_1]
    have gm : (nb_wr (nb_wr (nb_wr Ma 2 16 (Ma.1 76 9)) 2 17 (Ma.1 76 10)) 2 15 0).2 = M.2 := fm
    generalize nb_wr (nb_wr (nb_wr Ma 2 16 (Ma.1 76 9)) 2 17 (Ma.1 76 10)) 2 15 0 = Mg at Wg gb gc gm ⊢
    have g22 : Mg.1 2 2 = Ho := ((gc 2).trans (fc 2)).trans s2
    have g23 : Mg.1 2 3 = So := ((gc 3).trans (fc 3)).trans s3
    refine w_c_house_14 Wg ?_
    rw [g22, g23]
    have Wh : nb_Lay (nb_wr (nb_wr Mg 2 2 So) 2 3 Ho) := (Wg.wr (fun w => nb_nlit (by decide) (by decide))).wr (fun w => nb_nlit (by decide) (by decide))
    have hb' : ∀ a, a ≠ 2 → (nb_wr (nb_wr Mg 2 2 So) 2 3 Ho).1 a = Ma.1 a := fun a h => by rw [nb_wr_b h, nb_wr_b h]; exact gb a h
    have hc : ∀ i, (nb_wr (nb_wr Mg 2 2 So) 2 3 Ho).1 2 i = if i = 3 then Ho else if i = 2 then So else Mg.1 2 i := fun i => by simp [nb_wr_1]
    have hm : (nb_wr (nb_wr Mg 2 2 So) 2 3 Ho).2 = M.2 := gm
    generalize nb_wr (nb_wr Mg 2 2 So) 2 3 Ho = Mh at Wh hb' hc hm ⊢
    have uSo := hSo
    unfold nb_hs at uSo
    refine nb_W.imp (sp_sc_open (np := Ma.1 So 13) (ns := Ma.1 So 12) Wh nb_sc84 hSo (by rw [hb' So (by omega)]) (by rw [hb' So (by omega)]) cP cS) ?_
    rintro r' M8 ⟨rfl, ⟨W8, h8m, h8⟩, ⟨a3, a4, a5, a6, a7, a8⟩, eg, ev, ef⟩
    have h8' : ∀ a, (a < 84 ∨ 106 ≤ a) → M8.1 a = Mh.1 a := fun a h => funext fun i => h8 a i (by omega)
    refine ⟨rfl, W8, ?_⟩
    refine w_c_house_17 (Ho := So) W8 hSo (by rw [h8' 2 (by decide), hc]; rfl) (fun hL1 => ?_)
    refine ⟨⟨hL1, h8m.trans hm, by rw [nb_wr_b (by decide), nb_wr_b (by decide), h8' 1 (by decide), hb' 1 (by decide)]; exact fb 1 (by decide) (by omega) (by omega)⟩, M8.1 So 13, rfl, ?_⟩
    have b1 : ∀ a, a ≠ 2 → (nb_wr (nb_wr M8 2 9 0) 2 11 0).1 a = M8.1 a := fun a h => by rw [nb_wr_b h, nb_wr_b h]
    have c2 : ∀ i, (nb_wr (nb_wr M8 2 9 0) 2 11 0).1 2 i = if i = 11 then 0 else if i = 9 then 0 else M8.1 2 i := fun i => by simp [nb_wr_1]
    have m1' : (nb_wr (nb_wr M8 2 9 0) 2 11 0).2 = M.2 := h8m.trans hm
    generalize nb_wr (nb_wr M8 2 9 0) 2 11 0 = M1 at hL1 b1 c2 m1' ⊢
    have b2 : ∀ a, a ≠ 2 → (a < 84 ∨ 106 ≤ a) → M1.1 a = Ma.1 a := fun a h x => by rw [b1 a h, h8' a x, hb' a h]
    have d2 : ∀ i, i ≠ 2 → i ≠ 3 → i ≠ 9 → i ≠ 11 → M1.1 2 i = Mg.1 2 i := fun i x y z w => by rw [c2, if_neg w, if_neg z, h8' 2 (by decide), hc, if_neg y, if_neg x]
    obtain ⟨N1, g1, ⟨n1, n2, n3, n4⟩, g3, g4⟩ := sec M1 hL1 ((b2 604 (by decide) (by omega)).trans (fb 604 (by decide) (by omega) (by omega)))
    have g4' : N1.1 603 13 = 0 ∧ pu_HR Ma So (N1.1 607) ∧ N1.1 607 0 ≠ 0 ∧ N1.1 607 3 ≠ 0 ∧ N1.1 607 4 ≠ 0 ∧ N1.1 607 5 ≠ 0 := by
      rcases g4 with ⟨-, -, q⟩ | ⟨q, -⟩
      · exact q
      · exact absurd q x1
    obtain ⟨z13, hR, z0, z3, z4, z5⟩ := g4'
    have er : ∀ j, 0 ≤ j → j < 347 → pu_cpy (N1.1 607) (N1.1 606) 0 0 347 j = N1.1 607 j := fun j a b => pu_cpy_in j a b
    have hRr : pu_HR Ma So (pu_cpy (N1.1 607) (N1.1 606) 0 0 347) := hR.congr (fun _ _ _ => rfl) (fun j a b => er j a (by omega))
    have e6 : M1.1 603 2 = M.1 603 2 := by rw [b2 603 (by decide) (by omega), fb 603 (by decide) (by omega) (by omega)]
    refine w_m_house_0 hL1 ⟨fun z => absurd z (by omega), fun _ => ⟨fun z => absurd z (by omega), fun _ => g1 _ (w_m_house_30 n1 ⟨fun _ => ?_, fun z => absurd z13 z⟩)⟩⟩
    generalize hr : pu_cpy (N1.1 607) (N1.1 606) 0 0 347 = r at er hRr ⊢
    have gk : ∀ a, So + 20 ≤ a → a < So + 30 → pu_gk (Ma.1 a) := fun a a0 a1 => (t5 a (by omega)).of (fun i hi => fg a i a0 a1 hi)
    have w0 : r 0 ≠ 0 := by rw [er 0 (by decide) (by decide)]; exact z0
    have w3 : r 3 ≠ 0 := by rw [er 3 (by decide) (by decide)]; exact z3
    have w4 : r 4 ≠ 0 := by rw [er 4 (by decide) (by decide)]; exact z4
    have w5 : r 5 ≠ 0 := by rw [er 5 (by decide) (by decide)]; exact z5
    obtain ⟨hT, hH⟩ := hRr.told w0 w3 w4 w5 gk
    have n5 := hT.1.2.2.2.2.2.2.1
    have n4' := hT.1.2.2.2.2.2.1
    have WX : nb_Lay (pu_gd N1 r) := pu_gd_lay n1
    have hp : pu_Rp (pu_cpy r (N1.1 613) 41 0 70) := fun p a b => by
      have e : ∀ i, 0 ≤ i → i < 70 → pu_cpy r (N1.1 613) 41 0 70 i = pu_pe0 r i := fun i x y => by
        unfold pu_cpy pu_pe0
        rw [if_pos (by omega), show i - 0 + 41 = 41 + i by omega]
      rw [e _ (by omega) (by omega), e _ (by omega) (by omega), e _ (by omega) (by omega), e _ (by omega) (by omega), e _ (by omega) (by omega), e _ (by omega) (by omega), e _ (by omega) (by omega)]
      exact hT.2.2.1 p a b
    have lay := sp_m_layFirst (v2 := (98, 0)) (v3 := (98, 0)) (np := r 5) (ns := r 4) WX (by rw [pu_gd_606]) n5 (by rw [pu_gd_603]; rfl) n4' pu_gd_612 pu_gd_613 hp
    have WT : nb_Lay (nb_up (pu_gd N1 r) 608 (pu_cpy (pu_lf (r 5) (r 4) (pu_cpy r (N1.1 612) 23 0 18) (pu_cpy r (N1.1 613) 41 0 70)) ((pu_gd N1 r).1 608) 0 0 108)) := WX.up (fun i w => nb_nnum (by decide) (by decide))
    refine nb_Wp lay ⟨rfl, WT, fun _ => ?_⟩
    have ans : (nb_up (pu_gd N1 r) 608 (pu_cpy (pu_lf (r 5) (r 4) (pu_cpy r (N1.1 612) 23 0 18) (pu_cpy r (N1.1 613) 41 0 70)) ((pu_gd N1 r).1 608) 0 0 108)).1 606 5 = M8.1 So 13 := by
      rw [nb_up_other (by decide), pu_gd_606, h8' So (by omega), hb' So (by omega)]
      exact hH.1.2.2.2.2.1.symm
    refine ⟨by rw [ans], ?_, ?_⟩
    · refine pu_I_good (Ma := Ma) (M1 := M1) (N1 := N1) (r := r) hI k0 s1 fb fg hRr ⟨w0, w3, w4, w5⟩ b2 ⟨?_, ?_, ?_, ?_, ?_, ?_, ?_, ?_⟩ (fun _ _ hRf => ?_) ⟨n1, n3, n4⟩ (g3 z13) rfl (by rw [pu_gd_b (by decide) (by decide) (by decide) (by decide)]) WT
      · rw [d2 1 (by decide) (by decide) (by decide) (by decide), gc]; exact fc 1
      · rw [c2, if_neg (by decide), if_neg (by decide), h8' 2 (by decide), hc]; rfl
      · rw [c2, if_neg (by decide), if_neg (by decide), h8' 2 (by decide), hc]; rfl
      · exact c2 9
      · exact c2 11
      · rw [d2 15 (by decide) (by decide) (by decide) (by decide), gc]; rfl
      · rw [d2 16 (by decide) (by decide) (by decide) (by decide), gc]; exact q769
      · rw [d2 8 (by decide) (by decide) (by decide) (by decide), gc]; exact fc 8
      · have o := hH.1
        have hMh : ∀ a, So ≤ a → a < So + 36 → Mh.1 a = Ma.1 a := fun a x y => hb' a (by omega)
        have hHh : pu_Ho Mh So r := pu_Ho_congr hH hT.1 (fun a i x y => by rw [hMh a x y])
        rw [o.2.2.2.1] at ev ef a5
        rw [o.2.2.2.2.1] at eg a4
        have b84 : ∀ a, 84 ≤ a → M1.1 a = M8.1 a := fun a x => b1 a (by omega)
        refine pu_Sn_first (P := Mh) hT hHh (by omega) hRf ?_ ?_ ?_ ?_ ?_ ?_ (fun p j p0 p1 j0 j1 => ?_) (fun s j p0 p1 j0 j1 => ?_) (fun s j p0 p1 j0 j1 => ?_)
        · rw [b84 84 (by decide)]; exact a3
        · rw [b84 84 (by decide)]; exact a4
        · rw [b84 84 (by decide)]; exact a5
        · rw [b84 84 (by decide)]; exact a6
        · rw [b84 84 (by decide)]; exact a7
        · rw [b84 84 (by decide), a8]; exact hHh.1.2.1
        · rw [b84 _ (by omega)]; exact eg p j p0 p1 j0 j1
        · rw [b84 _ (by omega)]; exact ev s j p0 p1 j0 j1
        · rw [b84 _ (by omega)]; exact ef s j p0 p1 j0 j1
    · exact ⟨n2.trans m1', by rw [nb_up_other (by decide), pu_gd_b (by decide) (by decide) (by decide) (by decide), n3 1 (by decide) (by decide) (by decide), b2 1 (by decide) (by omega)]; exact fb 1 (by decide) (by omega) (by omega)⟩
