/-! LINES: staff -/
variable {So n d s p : Int} {tx : Int → Int} {cnt j : Nat} {E : Nat → Int} {M N : nb_M}
theorem sp_sv_fresh {k : Int} (W : nb_Lay M) (hSo : nb_hs So) (k0 : 0 ≤ k) (k1 : k < 3) : nb_R nb_P 272 0 [(16, So + 30 + 2 * k)] [] M = some ([], nb_up (nb_wr M (So + 30 + 2 * k) 7 (-1)) (So + 30 + 2 * k + 1) (fun j => if 0 ≤ j ∧ j < 2 then 0 else M.1 (So + 30 + 2 * k + 1) j)) := by
  have hSu := hSo
  unfold nb_hs at hSu
  have W1 : nb_Lay (nb_wr M (So + 30 + 2 * k) 7 (-1)) := W.wr (fun w => nb_nhv hSo k0 k1 (by omega))
  have e0 : nb_rd (nb_wr M (So + 30 + 2 * k) 7 (-1)) (So + 30 + 2 * k) 0 = So + 30 + 2 * k + 1 := W1.hv0 (H := So) (i := k) hSo k0 k1
  have ln : nb_ln (nb_wr M (So + 30 + 2 * k) 7 (-1)) (So + 30 + 2 * k + 1) = 2 := W1.hnf (H := So) (i := k) hSo k0 k1
  have ff := sp_ja_fill (M := nb_wr M (So + 30 + 2 * k) 7 (-1)) (a := So + 30 + 2 * k + 1) (v := 0) (n := 2) (v2 := (98, 0)) (v3 := (98, 0)) (by omega) (by omega) ln (by decide)
  rw [q_sv_beginAfresh_0 _ _ (by omega), q_sv_beginAfresh_1 _ _ (by omega), e0, ff]
  show nb_R nb_P 272 2 [(16, So + 30 + 2 * k)] [] _ = _
  rw [q_sv_beginAfresh_2, nb_wr_b (by omega)]
theorem sp_sv_stretch {V a b : Int} (hV : V ≠ 0) : nb_R nb_P 274 0 [(16, V), (0, a), (0, b)] [] M = some ([], nb_wr (nb_wr M V 3 a) V 4 b) := by
  rw [q_sv_stretch_0 _ _ _ _ hV, q_sv_stretch_1 _ _ _ _ hV, q_sv_stretch_2]
theorem nb_Lay.uph {H k : Int} {f : Int → Int} (W : nb_Lay M) (hH : nb_hs H) (k0 : 0 ≤ k) (k1 : k < 3) : nb_Lay (nb_up M (H + 30 + 2 * k + 1) f) := W.up (fun i w => nb_nhf hH k0 k1)
theorem pu_cf.so {M1 : nb_M} (h : pu_cf M M1) (hSo : nb_hs So) {a : Int} (p0 : So ≤ a) (p1 : a < So + 36) : M1.1 a = M.1 a := by
  unfold nb_hs at hSo
  exact h.2.2.1 a (by omega) (by omega) (by omega) (by omega)
theorem pu_wr_o {N1 : nb_M} {f v : Int} (m : pu_mf (nb_wr N 607 f v) N1) {i : Int} (h1 : i < 185) (h : i ≠ f) : N1.1 607 i = N.1 607 i := by rw [m.2.2.2.2 i h1, nb_wr_1, if_neg (fun z => h z.2)]
theorem pu_wr_s {N1 : nb_M} {f v : Int} (m : pu_mf (nb_wr N 607 f v) N1) (h1 : f < 185) : N1.1 607 f = v := by rw [m.2.2.2.2 f h1, nb_wr_1, if_pos ⟨rfl, rfl⟩]
theorem pu_ch5 {y1 y2 y3 y4 y5 X : Int} (h : ((y1 ≠ 0 ∧ X = 0) ∨ (y1 = 0 ∧ y2 ≠ 0 ∧ X = 1) ∨ (y1 = 0 ∧ y2 = 0 ∧ y3 ≠ 0 ∧ X = 2) ∨ (y1 = 0 ∧ y2 = 0 ∧ y3 = 0 ∧ y4 ≠ 0 ∧ X = 3) ∨ (y1 = 0 ∧ y2 = 0 ∧ y3 = 0 ∧ y4 = 0 ∧ y5 ≠ 0 ∧ X = 4)) ∨ ((y1 = 0 ∧ y2 = 0 ∧ y3 = 0 ∧ y4 = 0 ∧ y5 = 0) ∧ X = -1)) : (y1 ≠ 0 → X = 0) ∧ (y1 = 0 → y2 ≠ 0 → X = 1) ∧ (y1 = 0 → y2 = 0 → y3 ≠ 0 → X = 2) ∧ (y1 = 0 → y2 = 0 → y3 = 0 → y4 ≠ 0 → X = 3) ∧ (y1 = 0 → y2 = 0 → y3 = 0 → y4 = 0 → y5 ≠ 0 → X = 4) ∧ (y1 = 0 → y2 = 0 → y3 = 0 → y4 = 0 → y5 = 0 → X = -1) := by
  refine ⟨fun a => ?_, fun a b => ?_, fun a b c => ?_, fun a b c d => ?_, fun a b c d e => ?_, fun a b c d e => ?_⟩ <;> omega
theorem pu_ch5x {y1 y2 y3 y4 y5 X : Int} (h : ((y1 ≠ 0 ∧ X = 0) ∨ (y1 = 0 ∧ y2 ≠ 0 ∧ X = 1) ∨ (y1 = 0 ∧ y2 = 0 ∧ y3 ≠ 0 ∧ X = 2) ∨ (y1 = 0 ∧ y2 = 0 ∧ y3 = 0 ∧ y4 ≠ 0 ∧ X = 3) ∨ (y1 = 0 ∧ y2 = 0 ∧ y3 = 0 ∧ y4 = 0 ∧ y5 ≠ 0 ∧ X = 4))) : 0 ≤ X ∧ X ≤ 4 := by omega
theorem rl_st5 {f x L : Int} (h : pu_RL So tx n cnt E M N j d s p) (hf : 8 ≤ f ∧ f ≤ 150) (hC : nb_sub (M.1 So 9) 1 = L) (hR : ∀ N' : nb_M, N'.1 607 1 = N.1 607 1 → nb_sub (N'.1 607 1) 1 = L) : ∃ (u1 u2 u3 u4 u5 v1 v2 v3 v4 v5 : Int) (M4 M5 M6 M7 M8 N4 N5 N6 N7 N8 : nb_M), (nb_R nb_P 243 0 [(13, 76), (2, 41), (0, 0), (0, nb_sub (M.1 So 9) 1)] [] M = some ([(0, u1)], M4) ∧ nb_R nb_P 243 0 [(13, 76), (2, 42), (0, 0), (0, nb_sub (M.1 So 9) 1)] [] M4 = some ([(0, u2)], M5) ∧ nb_R nb_P 243 0 [(13, 76), (2, 43), (0, u2), (0, nb_sub (M.1 So 9) 1)] [] M5 = some ([(0, u3)], M6) ∧ nb_R nb_P 243 0 [(13, 76), (2, 44), (0, 0), (0, 9)] [] M6 = some ([(0, u4)], M7) ∧ nb_R nb_P 243 0 [(13, 76), (2, 45), (0, 1), (0, 2)] [] M7 = some ([(0, u5)], M8)) ∧ (nb_R nb_P 103 0 [(20, 603), (2, 17), (0, 0), (0, nb_sub (N.1 607 1) 1)] [] (nb_wr N 607 f x) = some ([(0, v1)], N4) ∧ nb_R nb_P 103 0 [(20, 603), (2, 18), (0, 0), (0, nb_sub (N4.1 607 1) 1)] [] (nb_wr N4 607 (f + 1) v1) = some ([(0, v2)], N5) ∧ nb_R nb_P 103 0 [(20, 603), (2, 19), (0, v2), (0, nb_sub (N5.1 607 1) 1)] [] (nb_wr N5 607 (f + 2) v2) = some ([(0, v3)], N6) ∧ nb_R nb_P 103 0 [(20, 603), (2, 20), (0, 0), (0, 9)] [] (nb_wr N6 607 (f + 3) v3) = some ([(0, v4)], N7) ∧ nb_R nb_P 103 0 [(20, 603), (2, 21), (0, 1), (0, 2)] [] (nb_wr N7 607 (f + 4) v4) = some ([(0, v5)], N8)) ∧ (pu_cf M M4 ∧ pu_cf M M5 ∧ pu_cf M M6 ∧ pu_cf M M7 ∧ pu_cf M M8) ∧ (nb_Lay N4 ∧ nb_Lay N5 ∧ nb_Lay N6 ∧ nb_Lay N7 ∧ nb_Lay N8) ∧ pu_RL So tx n cnt E M8 N8 j d s p ∧ pu_ml N N8 ∧ (∀ i, i < 185 → (i < f ∨ f + 5 ≤ i) → N8.1 607 i = N.1 607 i) ∧ (N8.1 607 f = x ∧ N8.1 607 (f + 1) = v1 ∧ N8.1 607 (f + 2) = v2 ∧ N8.1 607 (f + 3) = v3 ∧ N8.1 607 (f + 4) = v4) ∧ (M8.1 76 9 = 0 → M.1 76 9 = 0 ∧ (u1 = v1 ∧ 0 ≤ u1 ∧ u1 ≤ L) ∧ (u2 = v2 ∧ 0 ≤ u2 ∧ u2 ≤ L) ∧ (u3 = v3 ∧ u2 ≤ u3 ∧ u3 ≤ L) ∧ (u4 = v4 ∧ 0 ≤ u4 ∧ u4 ≤ 9) ∧ u5 = v5 ∧ 1 ≤ u5 ∧ u5 ≤ 2) := by
  have w3 := h.wg (i := f) (v := x) (by omega)
  obtain ⟨u1, v1, M4, N4, b1, b2, b3, b4, b5, b6⟩ := rl_number (lo := 0) (hi := nb_sub (M.1 So 9) 1) (lo2 := 0) (hi2 := nb_sub (N.1 607 1) 1) (pu_tok_at 41 (by decide) (by decide)) (pu_tok_at 17 (by decide) (by decide)) (by decide +kernel) w3 (fun _ => ⟨rfl, by rw [hC, hR N rfl]⟩)
  replace b6 := nb_Hw b6
  have l41 : N4.1 607 1 = N.1 607 1 := pu_wr_o b5 (by decide) (by omega)
  have w4 := b3.wg (i := f + 1) (v := v1) (by omega)
  obtain ⟨u2, v2, M5, N5, c1, c2, c3, c4, c5, c6⟩ := rl_number (lo := 0) (hi := nb_sub (M.1 So 9) 1) (lo2 := 0) (hi2 := nb_sub (N4.1 607 1) 1) (pu_tok_at 42 (by decide) (by decide)) (pu_tok_at 18 (by decide) (by decide)) (by decide +kernel) w4 (fun _ => ⟨rfl, by rw [hC, hR N4 l41]⟩)
  replace c6 := nb_Hw c6
  have l51 : N5.1 607 1 = N.1 607 1 := (pu_wr_o c5 (by decide) (by omega)).trans l41
  have w5 := c3.wg (i := f + 2) (v := v2) (by omega)
  obtain ⟨u3, v3, M6, N6, k1, k2, k3, k4, k5, k6⟩ := rl_number (lo := u2) (hi := nb_sub (M.1 So 9) 1) (lo2 := v2) (hi2 := nb_sub (N5.1 607 1) 1) (pu_tok_at 43 (by decide) (by decide)) (pu_tok_at 19 (by decide) (by decide)) (by decide +kernel) w5 (fun z => ⟨(nb_Hu c6 z).2.1, by rw [hC, hR N5 l51]⟩)
  replace k6 := nb_Hw k6
  have w6 := k3.wg (i := f + 3) (v := v3) (by omega)
  obtain ⟨u4, v4, M7, N7, g1, g2, g3, g4, g5, g6⟩ := rl_number (lo := 0) (hi := 9) (lo2 := 0) (hi2 := 9) (pu_tok_at 44 (by decide) (by decide)) (pu_tok_at 20 (by decide) (by decide)) (by decide +kernel) w6 (fun _ => ⟨rfl, rfl⟩)
  replace g6 := nb_Hw g6
  have w7 := g3.wg (i := f + 4) (v := v4) (by omega)
  obtain ⟨u5, v5, M8, N8, o1, o2, o3, o4, o5, o6⟩ := rl_number (lo := 1) (hi := 2) (lo2 := 1) (hi2 := 2) (pu_tok_at 45 (by decide) (by decide)) (pu_tok_at 21 (by decide) (by decide)) (by decide +kernel) w7 (fun _ => ⟨rfl, rfl⟩)
  replace o6 := nb_Hw o6
  refine ⟨u1, u2, u3, u4, u5, v1, v2, v3, v4, v5, M4, M5, M6, M7, M8, N4, N5, N6, N7, N8, ⟨b1, c1, k1, g1, o1⟩, ⟨b2, c2, k2, g2, o2⟩, ⟨b4, b4.tr c4, (b4.tr c4).tr k4, ((b4.tr c4).tr k4).tr g4, (((b4.tr c4).tr k4).tr g4).tr o4⟩, ⟨b5.1, c5.1, k5.1, g5.1, o5.1⟩, o3, ?_, fun i p0 p1 => ?_, ⟨?_, ?_, ?_, ?_, ?_⟩, fun z => ?_⟩
  · exact (((((((((pu_mf.id h.1.2.1).ml.wr).tr b5.ml).wr).tr c5.ml).wr).tr k5.ml).wr).tr g5.ml).wr.tr o5.ml
  · rw [pu_wr_o o5 p0 (by omega), pu_wr_o g5 p0 (by omega), pu_wr_o k5 p0 (by omega), pu_wr_o c5 p0 (by omega), pu_wr_o b5 p0 (by omega)]
  · rw [pu_wr_o o5 (by omega) (by omega), pu_wr_o g5 (by omega) (by omega), pu_wr_o k5 (by omega) (by omega), pu_wr_o c5 (by omega) (by omega), pu_wr_s b5 (by omega)]
  · rw [pu_wr_o o5 (by omega) (by omega), pu_wr_o g5 (by omega) (by omega), pu_wr_o k5 (by omega) (by omega), pu_wr_s c5 (by omega)]
  · rw [pu_wr_o o5 (by omega) (by omega), pu_wr_o g5 (by omega) (by omega), pu_wr_s k5 (by omega)]
  · rw [pu_wr_o o5 (by omega) (by omega), pu_wr_s g5 (by omega)]
  · rw [pu_wr_s o5 (by omega)]
  · obtain ⟨l7, e5, z1, z2⟩ := nb_Hu o6 z
    obtain ⟨l6, e4', z3, z4⟩ := nb_Hu g6 l7
    obtain ⟨l5, e3', z5, z6⟩ := nb_Hu k6 l6
    obtain ⟨l4, e2', z7, z8⟩ := nb_Hu c6 l5
    obtain ⟨l3, e1', z9, z10⟩ := nb_Hu b6 l4
    rw [hC] at z6 z8 z10
    exact ⟨l3, ⟨e1', z9, z10⟩, ⟨e2', z7, z8⟩, ⟨e3', z5, z6⟩, ⟨e4', z3, z4⟩, e5, z1, z2⟩
/-- the class writes one of the staff down -/
theorem rl_stB {M8 : nb_M} {t x u1 u2 u3 u4 u5 : Int} (W8 : nb_Lay M8) (hSo : nb_hs So) (ht : 0 ≤ t ∧ t < 3) (h764 : M8.1 76 4 = So) (e12 : M8.1 So 12 = t) : ∃ MA MC MF : nb_M, nb_R nb_P 272 0 [(16, So + 30 + 2 * t)] [] M8 = some ([], MA) ∧ nb_R nb_P 274 0 [(16, So + 30 + 2 * t), (0, u2), (0, u3)] [] (nb_wr (nb_wr MA (So + 30 + 2 * t) 1 x) (So + 30 + 2 * t) 2 u1) = some ([], MC) ∧ nb_wr (nb_wr (nb_wr MC (So + 30 + 2 * t) 5 u4) (So + 30 + 2 * t) 6 u5) So 12 (nb_add (MC.1 So 12) 1) = MF ∧ (nb_Lay MA ∧ MA.1 76 4 = So ∧ nb_Lay MC ∧ MC.1 76 4 = So ∧ nb_Lay MF ∧ MF.2 = M8.2) ∧ (∀ a, a ≠ So → a ≠ So + 30 + 2 * t → a ≠ So + 30 + 2 * t + 1 → MF.1 a = M8.1 a) ∧ (∀ i, i ≠ 12 → MF.1 So i = M8.1 So i) ∧ MF.1 So 12 = t + 1 ∧ (MF.1 (So + 30 + 2 * t) 1 = x ∧ MF.1 (So + 30 + 2 * t) 2 = u1 ∧ MF.1 (So + 30 + 2 * t) 3 = u2 ∧ MF.1 (So + 30 + 2 * t) 4 = u3 ∧ MF.1 (So + 30 + 2 * t) 5 = u4 ∧ MF.1 (So + 30 + 2 * t) 6 = u5 ∧ MF.1 (So + 30 + 2 * t) 7 = -1 ∧ MF.1 (So + 30 + 2 * t + 1) 0 = 0 ∧ MF.1 (So + 30 + 2 * t + 1) 1 = 0) := by
  have hSu := hSo
  unfold nb_hs at hSu
  have ad : nb_add t 1 = t + 1 := nb_add_eq (by omega) (by omega)
  have fr := sp_sv_fresh (k := t) W8 hSo ht.1 ht.2
  have nv : ∀ i w, i ≠ 0 → ¬ nb_rf (So + 30 + 2 * t) i w := fun i w hi => nb_nhv hSo ht.1 ht.2 hi
  have Wa : nb_Lay (nb_up (nb_wr M8 (So + 30 + 2 * t) 7 (-1)) (So + 30 + 2 * t + 1) (fun j => if 0 ≤ j ∧ j < 2 then 0 else M8.1 (So + 30 + 2 * t + 1) j)) := (W8.wr (fun w => nv _ w (by decide))).uph hSo ht.1 ht.2
  generalize hA : nb_up (nb_wr M8 (So + 30 + 2 * t) 7 (-1)) (So + 30 + 2 * t + 1) (fun j => if 0 ≤ j ∧ j < 2 then 0 else M8.1 (So + 30 + 2 * t + 1) j) = MA at fr Wa
  have A1 : ∀ a, a ≠ So + 30 + 2 * t → a ≠ So + 30 + 2 * t + 1 → MA.1 a = M8.1 a := fun a p0 p1 => by rw [← hA, nb_up_other p1, nb_wr_b p0]
  have A2 : MA.1 (So + 30 + 2 * t) 7 = -1 := by rw [← hA, nb_up_other (by omega), nb_wr_1, if_pos ⟨rfl, rfl⟩]
  have A3 : ∀ i, 0 ≤ i → i < 2 → MA.1 (So + 30 + 2 * t + 1) i = 0 := fun i p0 p1 => by rw [← hA, nb_up_same]; exact if_pos ⟨p0, p1⟩
  have A4 : MA.2 = M8.2 := by rw [← hA]; rfl
  clear hA
  obtain ⟨V, hV⟩ : ∃ V, V = So + 30 + 2 * t := ⟨_, rfl⟩
  have V1 : V ≠ So ∧ V ≠ 76 ∧ V ≠ 0 ∧ V + 1 ≠ V ∧ V + 1 ≠ So ∧ V + 1 ≠ 76 := by omega
  rw [← hV] at A1 A2 A3 fr nv ⊢
  have Wc : nb_Lay (nb_wr (nb_wr (nb_wr (nb_wr MA V 1 x) V 2 u1) V 3 u2) V 4 u3) := (((Wa.wr (fun w => nv _ w (by decide))).wr (fun w => nv _ w (by decide))).wr (fun w => nv _ w (by decide))).wr (fun w => nv _ w (by decide))
  have st := sp_sv_stretch (M := nb_wr (nb_wr MA V 1 x) V 2 u1) (V := V) (a := u2) (b := u3) V1.2.2.1
  have Wd : nb_Lay (nb_wr (nb_wr (nb_wr (nb_wr (nb_wr (nb_wr (nb_wr MA V 1 x) V 2 u1) V 3 u2) V 4 u3) V 5 u4) V 6 u5) So 12 (t + 1)) := ((Wc.wr (fun w => nv _ w (by decide))).wr (fun w => nv _ w (by decide))).wr (fun w => nb_nhh hSo (by omega))
  have eA : (nb_wr (nb_wr (nb_wr (nb_wr MA V 1 x) V 2 u1) V 3 u2) V 4 u3).1 So 12 = t := by
    rw [nb_wr_b V1.1.symm, nb_wr_b V1.1.symm, nb_wr_b V1.1.symm, nb_wr_b V1.1.symm, A1 So V1.1.symm V1.2.2.2.2.1.symm]; exact e12
  have e764 : MA.1 76 4 = So := by rw [A1 76 V1.2.1.symm V1.2.2.2.2.2.symm]; exact h764
  refine ⟨MA, _, _, fr, st, rfl, ⟨Wa, e764, Wc, ?_, ?_, A4⟩, ?_, ?_, ?_, ⟨?_, ?_, ?_, ?_, ?_, ?_, ?_, ?_, ?_⟩⟩
  · rw [nb_wr_b V1.2.1.symm, nb_wr_b V1.2.1.symm, nb_wr_b V1.2.1.symm, nb_wr_b V1.2.1.symm]; exact e764
  · rw [eA, ad]; exact Wd
  · intro a p0 p1 p2
    rw [nb_wr_b p0, nb_wr_b p1, nb_wr_b p1, nb_wr_b p1, nb_wr_b p1, nb_wr_b p1, nb_wr_b p1, A1 a p1 p2]
  · intro i hi
    rw [nb_wr_1, if_neg (fun z => hi z.2), nb_wr_b V1.1.symm, nb_wr_b V1.1.symm, nb_wr_b V1.1.symm, nb_wr_b V1.1.symm, nb_wr_b V1.1.symm, nb_wr_b V1.1.symm, A1 So V1.1.symm V1.2.2.2.2.1.symm]
  · rw [nb_wr_1, if_pos ⟨rfl, rfl⟩, eA, ad]
  · rw [nb_wr_b V1.1]; simp [nb_wr_1]
  · rw [nb_wr_b V1.1]; simp [nb_wr_1]
  · rw [nb_wr_b V1.1]; simp [nb_wr_1]
  · rw [nb_wr_b V1.1]; simp [nb_wr_1]
  · rw [nb_wr_b V1.1]; simp [nb_wr_1]
  · rw [nb_wr_b V1.1]; simp [nb_wr_1]
  · rw [nb_wr_b V1.1]; simp [nb_wr_1]; exact A2
  · rw [nb_wr_b V1.2.2.2.2.1, nb_wr_b V1.2.2.2.1, nb_wr_b V1.2.2.2.1, nb_wr_b V1.2.2.2.1, nb_wr_b V1.2.2.2.1, nb_wr_b V1.2.2.2.1, nb_wr_b V1.2.2.2.1]; exact A3 0 (by decide) (by decide)
  · rw [nb_wr_b V1.2.2.2.2.1, nb_wr_b V1.2.2.2.1, nb_wr_b V1.2.2.2.1, nb_wr_b V1.2.2.2.1, nb_wr_b V1.2.2.2.1, nb_wr_b V1.2.2.2.1, nb_wr_b V1.2.2.2.1]; exact A3 1 (by decide) (by decide)
theorem rl_staff {l2 y0 : Int} (h : pu_RL So tx n cnt E M N j (N.1 607 3) (N.1 607 4) (N.1 607 5)) (hl : M.1 76 9 = 0) (hk : M.1 76 7 ≠ 0 ∧ M.1 76 7 ≠ 6) (hy : nb_R nb_P 93 0 [(20, 603), (2, 3), (98, 0), (98, 0)] [] N = some ([(0, y0)], N)) (hy0 : y0 ≠ 0) (h0 : N.1 607 0 ≠ 0) (h2 : l2 ≠ 0 ↔ N.1 607 4 < 3) (hH : pu_HR M So (N.1 607)) : ∃ M1 N0 N1, nb_R nb_P 232 0 [(13, 76), (98, 0), (98, 0), (98, 0), (98, 0), (98, 0), (98, 0), (98, 0), (98, 0)] [] M = some ([], M1) ∧ nb_R nb_P 106 0 [(20, 603), (2, 3), (0, l2)] [] N = some ([(0, 1)], N0) ∧ nb_Lay N0 ∧ nb_R nb_P 110 0 [(20, 603), (98, 0), (98, 0)] [] N0 = some ([], N1) ∧ pu_LO So tx n cnt E M N M1 N1 j := by
  have h' := h
  obtain ⟨⟨W, WN, hSo, h764, -⟩, -⟩ := h'
  have hSu := hSo
  unfold nb_hs at hSu
  have H1 := hH.2.1
  have e0 : N.1 607 0 = 1 := by rcases hH.1 with q | q <;> omega
  have hlong : M.1 So 9 = N.1 607 1 ∧ 1 ≤ N.1 607 1 ∧ N.1 607 1 ≤ 20 := by rcases hH.1 with q | q <;> omega
  have c12 := H1.2.1
  have r4 := H1.2.2.2.2.2.2.1
  obtain ⟨M1, N1, s1, s2, s3, s4, s5, s6⟩ := rl_begins (told := M.1 So 12) (room := 3) h hl hk hy hy0 (by rw [c12]; exact h2) h0
  have SM : ∀ a, So ≤ a → a < So + 36 → M1.1 a = M.1 a := fun a p0 p1 => s4.so hSo p0 p1
  have q4 := s3.1.2.2.2.1
  have e4 : N1.1 607 4 = N.1 607 4 := s5.2.2.2.2 4 (by decide)
  have e12 : M1.1 So 12 = N.1 607 4 := by rw [SM So (by omega) (by omega)]; exact c12
  by_cases l1 : M1.1 76 9 = 0
  case neg =>
    have f1 : N1.1 603 13 ≠ 0 := fun z => l1 (s3.ff.2 z)
    have hB := s3.1
    have h5 : 0 ≤ M1.1 76 5 ∧ M1.1 76 5 ≤ 18 := hB.2.2.2.2.2.2.2.2
    have dt := dd_tellName (so := 1) (nu := M1.1 So 12) s4.1 hSo q4 h5 l1
    obtain ⟨xr, dr⟩ := dd_rule s4.1 hSo q4 l1
    have dn : ∀ (kc : Nat) (lo hi : Int), 1 ≤ kc → kc ≤ 65 → nb_R nb_P 243 0 [(13, 76), (2, (kc : Int)), (0, lo), (0, hi)] [] M1 = some ([(0, nb_l2i (M1.1 76 8))], M1) := fun kc lo hi a b => dd_number (pu_tok_at kc a b) s4.1 hSo q4 l1
    exact ⟨M1, N1, N1, nb_Wq (w_rd_readStaff_0 W hSo h764 ⟨by omega, by omega, nb_Wp s1 ⟨rfl, s4.1, q4, nb_Wp dt ⟨rfl, s4.1, q4, nb_Wp dr ⟨_, rfl, s4.1, q4, nb_Wp (dn 41 _ _ (by decide) (by decide)) ⟨_, rfl, s4.1, q4, nb_Wp (dn 42 _ _ (by decide) (by decide)) ⟨_, rfl, s4.1, q4, nb_Wp (dn 43 _ _ (by decide) (by decide)) ⟨_, rfl, s4.1, q4, nb_Wp (dn 44 _ _ (by decide) (by decide)) ⟨_, rfl, s4.1, q4, nb_Wp (dn 45 _ _ (by decide) (by decide)) ⟨_, rfl, s4.1, q4, fun z => absurd z l1, fun _ _ => ⟨rfl, rfl⟩⟩⟩⟩⟩⟩⟩⟩⟩⟩), s2, s5.1, nb_Wq (w_m_staffLine_0 s5.1 ⟨fun z => absurd z f1, fun _ _ => ⟨rfl, rfl⟩⟩), ⟨hB, Or.inr (s3.dd l1)⟩, s4.cl hSo, s5.ml, fun z => absurd z l1⟩
  have lt3 : N.1 607 4 < 3 := by have := s6 l1; omega
  have f1 : N1.1 603 13 = 0 := s3.ff.1 l1
  obtain ⟨M2, N2, t1, t2, t3, t4, t5, t6⟩ := rl_tellName (so := 1) (nu := M1.1 So 12) (m := 5 + N1.1 607 4) (d' := N.1 607 3) (s' := N.1 607 4 + 1) (p' := N.1 607 5) s3 (fun _ => ⟨by rw [pu_sl_1]; omega, Or.inr (Or.inl ⟨rfl, e12, lt3, rfl, rfl, rfl⟩)⟩)
  obtain ⟨x, M3, N3, y1, y2, y3, y4, y5, a1, ⟨i1, i2, i3, i4, i5⟩, a3, a4, a5, a6⟩ := rl_rule t3
  have q42 := t3.1.2.2.2.1
  have q43 := a3.1.2.2.2.1
  have bl : 23 ≤ 23 + 6 * N1.1 607 4 ∧ 23 + 6 * N1.1 607 4 ≤ 41 := by omega
  -- the reference goes through the rules
  have nr : 0 ≤ N1.1 607 4 ∧ N1.1 607 4 ≤ 3 := by omega
  have chain : ∀ (X : Int) (Nf : nb_M), (((y1 ≠ 0 ∧ X = 0) ∨ (y1 = 0 ∧ y2 ≠ 0 ∧ X = 1) ∨ (y1 = 0 ∧ y2 = 0 ∧ y3 ≠ 0 ∧ X = 2) ∨ (y1 = 0 ∧ y2 = 0 ∧ y3 = 0 ∧ y4 ≠ 0 ∧ X = 3) ∨ (y1 = 0 ∧ y2 = 0 ∧ y3 = 0 ∧ y4 = 0 ∧ y5 ≠ 0 ∧ X = 4)) ∨ ((y1 = 0 ∧ y2 = 0 ∧ y3 = 0 ∧ y4 = 0 ∧ y5 = 0) ∧ X = -1)) → nb_W 110 19 [(20, 603), (0, 23 + 6 * N1.1 607 4), (98, 0)] [(0, X)] N2 (fun r M' => r = [] ∧ M' = Nf) → nb_R nb_P 110 0 [(20, 603), (98, 0), (98, 0)] [] N1 = some ([], Nf) := fun X Nf hX K => by
    obtain ⟨x1, x2, x3, x4, x5, x6⟩ := pu_ch5 hX
    have KK : ∀ t : Int, X = t → nb_W 110 19 [(20, 603), (0, 23 + 6 * N1.1 607 4), (98, 0)] [(0, t)] N2 (fun r M' => r = [] ∧ M' = Nf) := fun t e => by
      subst e
      exact K
    exact nb_Wq (w_m_staffLine_0 s5.1 ⟨fun _ => ⟨nr.1, nr.2, nb_Wp t2 ⟨rfl, t5.1, nb_Wp i1 ⟨y1, rfl, t5.1, fun z1 => nb_Wp i2 ⟨y2, rfl, t5.1, fun z2 => nb_Wp i3 ⟨y3, rfl, t5.1, fun z3 => nb_Wp i4 ⟨y4, rfl, t5.1, fun z4 => nb_Wp i5 ⟨y5, rfl, t5.1, fun z5 => KK (-1) (x6 z1 z2 z3 z4 z5), fun z5 => KK 4 (x5 z1 z2 z3 z4 z5)⟩, fun z4 => KK 3 (x4 z1 z2 z3 z4)⟩, fun z3 => KK 2 (x3 z1 z2 z3)⟩, fun z2 => KK 1 (x2 z1 z2)⟩, fun z1 => KK 0 (x1 z1)⟩⟩⟩, fun z => absurd f1 z⟩)
  -- the class up to the numbers
  have cf3 : pu_cf M M3 := (s4.tr t4).tr a4
  have SM3 : ∀ a, So ≤ a → a < So + 36 → M3.1 a = M.1 a := fun a p0 p1 => cf3.so hSo p0 p1
  rcases a6 with ⟨l3, -, f2, q2, hx⟩ | ⟨l3, f3, hz, w2⟩
  case inr =>
    have dn : ∀ (kc : Nat) (lo hi : Int), 1 ≤ kc → kc ≤ 65 → nb_R nb_P 243 0 [(13, 76), (2, (kc : Int)), (0, lo), (0, hi)] [] M3 = some ([(0, nb_l2i (M3.1 76 8))], M3) := fun kc lo hi a b => dd_number (pu_tok_at kc a b) a4.1 hSo q43 l3
    exact ⟨M3, N1, N3, nb_Wq (w_rd_readStaff_0 W hSo h764 ⟨by omega, by omega, nb_Wp s1 ⟨rfl, s4.1, q4, nb_Wp t1 ⟨rfl, t4.1, q42, nb_Wp a1 ⟨_, rfl, a4.1, q43, nb_Wp (dn 41 _ _ (by decide) (by decide)) ⟨_, rfl, a4.1, q43, nb_Wp (dn 42 _ _ (by decide) (by decide)) ⟨_, rfl, a4.1, q43, nb_Wp (dn 43 _ _ (by decide) (by decide)) ⟨_, rfl, a4.1, q43, nb_Wp (dn 44 _ _ (by decide) (by decide)) ⟨_, rfl, a4.1, q43, nb_Wp (dn 45 _ _ (by decide) (by decide)) ⟨_, rfl, a4.1, q43, fun z => absurd z l3, fun _ _ => ⟨rfl, rfl⟩⟩⟩⟩⟩⟩⟩⟩⟩⟩), s2, s5.1, chain (-1) N3 (Or.inr ⟨hz, rfl⟩) (w_m_staffLine_19 t5.1 bl ⟨fun _ => nb_Wp w2 ⟨rfl, a5.1, fun z => absurd z f3, fun _ _ => ⟨rfl, rfl⟩⟩, fun z => absurd z (by decide)⟩), ⟨a3.1, Or.inr (a3.dd l3)⟩, cf3.cl hSo, ((s5.tr t5).tr a5).ml, fun z => absurd z l3⟩
  have xr : 0 ≤ x ∧ x ≤ 4 := pu_ch5x hx
  have chainx := fun Nf => chain x Nf (Or.inl hx)
  clear hx chain h2 h0 hy0 hk
  replace t6 := nb_Hw t6
  replace s6 := nb_Hw s6
  have hC : nb_sub (M3.1 So 9) 1 = N.1 607 1 - 1 := by rw [SM3 So (by omega) (by omega), hlong.1, nb_sub_eq (by omega) (by omega)]
  have gr : ∀ i, i < 185 → N3.1 607 i = N.1 607 i := fun i p1 => by rw [a5.2.2.2.2 i p1, t5.2.2.2.2 i p1, s5.2.2.2.2 i p1]
  have hR : ∀ N' : nb_M, N'.1 607 1 = N3.1 607 1 → nb_sub (N'.1 607 1) 1 = N.1 607 1 - 1 := fun N' e => by rw [e, gr 1 (by decide), nb_sub_eq (by omega) (by omega)]
  obtain ⟨u1, u2, u3, u4, u5, v1, v2, v3, v4, v5, M4, M5, M6, M7, M8, N4, N5, N6, N7, N8, ⟨b1, c1, k1, g1, o1⟩, ⟨b2, c2, k2, g2, o2⟩, ⟨b4, c4, k4, g4, o4⟩, ⟨b5, c5, k5, g5, o5⟩, o3, ml, ko, ⟨k80, k81, k82, k83, k84⟩, lv⟩ := rl_st5 (f := 23 + 6 * N1.1 607 4) (x := x) a3 (by omega) hC hR
  replace lv := nb_Hw lv
  have cf8 : pu_cf M M8 := cf3.tr o4
  have SM8 : ∀ a, So ≤ a → a < So + 36 → M8.1 a = M.1 a := fun a p0 p1 => cf8.so hSo p0 p1
  have w8 := o3.wg (i := 23 + 6 * N1.1 607 4 + 5) (v := v5) (by omega)
  have ml8 : pu_ml N (nb_wr N8 607 (23 + 6 * N1.1 607 4 + 5) v5) := (((s5.tr t5).tr a5).ml.tr ml).wr
  have e812 : M8.1 So 12 = N.1 607 4 := by rw [SM8 So (by omega) (by omega)]; exact c12
  have q764 : ∀ M' : nb_M, pu_cf M3 M' → M'.1 76 4 = So := fun M' c => c.2.2.2.trans q43
  have runC : ∀ Mf : nb_M, (M8.1 76 9 = 0 → (M8.1 So 12 < 3 → 0 ≤ M8.1 So 12 ∧ nb_W 272 0 [(16, So + 30 + 2 * (M8.1 So 12))] [] M8 (fun r M49 => r = [] ∧ nb_Lay M49 ∧ M49.1 76 4 = So ∧ nb_W 274 0 [(16, So + 30 + 2 * (M8.1 So 12)), (0, u2), (0, u3)] [] (nb_wr (nb_wr M49 (So + 30 + 2 * (M8.1 So 12)) 1 x) (So + 30 + 2 * (M8.1 So 12)) 2 u1) (fun r M55 => r = [] ∧ nb_Lay M55 ∧ M55.1 76 4 = So ∧ (nb_Lay (nb_wr (nb_wr (nb_wr M55 (So + 30 + 2 * (M8.1 So 12)) 5 u4) (So + 30 + 2 * (M8.1 So 12)) 6 u5) So 12 (nb_add (M55.1 So 12) 1)) → ([] : List nb_V) = [] ∧ nb_wr (nb_wr (nb_wr M55 (So + 30 + 2 * (M8.1 So 12)) 5 u4) (So + 30 + 2 * (M8.1 So 12)) 6 u5) So 12 (nb_add (M55.1 So 12) 1) = Mf)))) ∧ (3 ≤ M8.1 So 12 → (nb_Lay M8 → ([] : List nb_V) = [] ∧ M8 = Mf))) → (M8.1 76 9 ≠ 0 → (nb_Lay M8 → ([] : List nb_V) = [] ∧ M8 = Mf)) → nb_R nb_P 232 0 [(13, 76), (98, 0), (98, 0), (98, 0), (98, 0), (98, 0), (98, 0), (98, 0), (98, 0)] [] M = some ([], Mf) := fun Mf ha hb => nb_Wq (w_rd_readStaff_0 W hSo h764 ⟨by omega, by omega, nb_Wp s1 ⟨rfl, s4.1, q4, nb_Wp t1 ⟨rfl, t4.1, q42, nb_Wp a1 ⟨x, rfl, a4.1, q43, nb_Wp b1 ⟨u1, rfl, b4.1, q764 M4 b4, nb_Wp c1 ⟨u2, rfl, c4.1, q764 M5 c4, nb_Wp k1 ⟨u3, rfl, k4.1, q764 M6 k4, nb_Wp g1 ⟨u4, rfl, g4.1, q764 M7 g4, nb_Wp o1 ⟨u5, rfl, o4.1, q764 M8 o4, ha, hb⟩⟩⟩⟩⟩⟩⟩⟩⟩)
  have runR : ∀ Nf : nb_M, (N8.1 603 13 = 0 → (nb_Lay (nb_wr (nb_wr N8 607 (23 + 6 * N1.1 607 4 + 5) v5) 607 4 (nb_add (N8.1 607 4) 1)) → ([] : List nb_V) = [] ∧ nb_wr (nb_wr N8 607 (23 + 6 * N1.1 607 4 + 5) v5) 607 4 (nb_add (N8.1 607 4) 1) = Nf)) → (N8.1 603 13 ≠ 0 → (nb_Lay (nb_wr N8 607 (23 + 6 * N1.1 607 4 + 5) v5) → ([] : List nb_V) = [] ∧ nb_wr N8 607 (23 + 6 * N1.1 607 4 + 5) v5 = Nf)) → nb_R nb_P 110 0 [(20, 603), (98, 0), (98, 0)] [] N1 = some ([], Nf) := fun Nf ha hb => chainx Nf (w_m_staffLine_19 t5.1 bl ⟨fun z => absurd z (by omega), fun _ => ⟨fun _ => nb_Wp q2 ⟨rfl, a5.1, nb_Wp b2 ⟨v1, rfl, b5, nb_Wp c2 ⟨v2, rfl, c5, nb_Wp k2 ⟨v3, rfl, k5, nb_Wp g2 ⟨v4, rfl, g5, nb_Wp o2 ⟨v5, rfl, o5, ha, hb⟩⟩⟩⟩⟩⟩, fun z => absurd f2 z⟩⟩)
  by_cases l8 : M8.1 76 9 = 0
  case neg =>
    have f8 : N8.1 603 13 ≠ 0 := fun z => l8 (o3.ff.2 z)
    exact ⟨M8, N1, nb_wr N8 607 (23 + 6 * N1.1 607 4 + 5) v5, runC M8 (fun z => absurd z l8) (fun _ _ => ⟨rfl, rfl⟩), s2, s5.1, runR _ (fun z => absurd z f8) (fun _ _ => ⟨rfl, rfl⟩), ⟨w8.1, Or.inr (w8.dd l8)⟩, cf8.cl hSo, ml8, fun z => absurd z l8⟩
  obtain ⟨-, ⟨e1', z9, z10⟩, ⟨e2', z7, z8⟩, ⟨e3', z5, z6⟩, ⟨e4', z3, z4⟩, e5, z1, z2⟩ := nb_Hu lv l8
  have f8 : N8.1 603 13 = 0 := o3.ff.1 l8
  have ad : nb_add (N.1 607 4) 1 = N.1 607 4 + 1 := nb_add_eq (by omega) (by omega)
  have e84 : N8.1 607 4 = N.1 607 4 := (ko 4 (by decide) (by omega)).trans (gr 4 (by decide))
  have k8o : ∀ i, i < 185 → (i < 23 + 6 * N.1 607 4 ∨ 23 + 6 * N.1 607 4 + 6 ≤ i) → N8.1 607 i = N.1 607 i := fun i p1 p2 => (ko i p1 (by omega)).trans (gr i p1)
  rw [e4] at k80 k81 k82 k83 k84
  obtain ⟨MA, MC, MF, fr, st, eF, ⟨Wa, qa, Wc, qc, Wd, F2⟩, F1, F0, Fs, Fv⟩ := rl_stB (t := N.1 607 4) (x := x) (u1 := u1) (u2 := u2) (u3 := u3) (u4 := u4) (u5 := u5) o4.1 hSo (by omega) (q764 M8 o4) e812
  have run : nb_R nb_P 232 0 [(13, 76), (98, 0), (98, 0), (98, 0), (98, 0), (98, 0), (98, 0), (98, 0), (98, 0)] [] M = some ([], MF) := by
    refine runC _ (fun _ => ⟨fun _ => ⟨by omega, ?_⟩, fun z => absurd z (by omega)⟩) (fun z => absurd l8 z)
    rw [e812]
    exact nb_Wp fr ⟨rfl, Wa, qa, nb_Wp st ⟨rfl, Wc, qc, fun _ => ⟨rfl, eF⟩⟩⟩
  have h76 : ∀ a, 76 ≤ a → MF.1 a = M8.1 a := fun a p0 => F1 a (by omega) (by omega) (by omega)
  have wN := w8.wg (i := 4) (v := N.1 607 4 + 1) (by decide)
  refine ⟨MF, N1, nb_wr (nb_wr N8 607 (23 + 6 * N1.1 607 4 + 5) v5) 607 4 (N.1 607 4 + 1), run, s2, s5.1, runR _ (fun _ => ?_) (fun z => absurd f8 z), ?_, ?_, ml8.wr, fun _ => ?_⟩
  · rw [e84, ad]
    exact fun _ => ⟨rfl, rfl⟩
  · have e' : ∀ i, (i = 3 ∨ i = 5) → (nb_wr (nb_wr N8 607 (23 + 6 * N1.1 607 4 + 5) v5) 607 4 (N.1 607 4 + 1)).1 607 i = N.1 607 i := fun i hi => by
      rw [nb_wr_1, if_neg (by omega), nb_wr_1, if_neg (by omega), k8o i (by omega) (by omega)]
    have e4s : (nb_wr (nb_wr N8 607 (23 + 6 * N1.1 607 4 + 5) v5) 607 4 (N.1 607 4 + 1)).1 607 4 = N.1 607 4 + 1 := by rw [nb_wr_1, if_pos ⟨rfl, rfl⟩]
    rw [e' 3 (by omega), e4s, e' 5 (by omega)]
    exact wN.mh Wd wN.1.2.1 h76 rfl rfl rfl (fun _ _ => rfl)
  · have cl8 := cf8.cl hSo
    refine ⟨Wd, F2.trans cl8.2.1, fun a p0 p1 p2 p3 p4 => (F1 a (by omega) (by omega) (by omega)).trans (cl8.2.2.1 a p0 p1 p2 p3 p4), ?_, fun a i p0 p1 p2 => ?_⟩
    · rw [h76 76 (by decide)]; exact cl8.2.2.2.1
    · rw [F1 a (by omega) (by omega) (by omega)]; exact cl8.2.2.2.2 a i p0 p1 p2
  · refine hH.staff (r0 := x) (r1 := u1) (r2 := u2) (r3 := u3) (r4 := u4) (r5 := u5) e0 lt3 (fun a p0 p1 p2 p3 => ?_) (fun i hi => ?_) (fun i p0 p1 p2 p3 => ?_) ?_ Fs Fv ⟨?_, ?_, ?_, ?_, ?_, ?_⟩ (by omega)
    · rw [F1 a (by omega) p2 p3]; exact SM8 a (by omega) p1
    · rw [F0 i hi, SM8 So (by omega) (by omega)]
    · rw [nb_wr_1, if_neg (by omega), nb_wr_1, if_neg (by omega), k8o i p1 (by omega)]
    · rw [nb_wr_1, if_pos ⟨rfl, rfl⟩]
    · rw [nb_wr_1, if_neg (by omega), nb_wr_1, if_neg (by omega), k80]
    · rw [nb_wr_1, if_neg (by omega), nb_wr_1, if_neg (by omega), k81]; exact e1'.symm
    · rw [nb_wr_1, if_neg (by omega), nb_wr_1, if_neg (by omega), k82]; exact e2'.symm
    · rw [nb_wr_1, if_neg (by omega), nb_wr_1, if_neg (by omega), k83]; exact e3'.symm
    · rw [nb_wr_1, if_neg (by omega), nb_wr_1, if_neg (by omega), k84]; exact e4'.symm
    · rw [nb_wr_1, if_neg (by omega), nb_wr_1, if_pos ⟨rfl, by omega⟩]; exact e5.symm
