/-! LINES: shelves -/
variable {So n d s p : Int} {tx : Int → Int} {cnt j : Nat} {E : Nat → Int} {M N : nb_M}
theorem rl_shelf {y0 : Int} (h : pu_RL So tx n cnt E M N j (N.1 607 3) (N.1 607 4) (N.1 607 5)) (hl : M.1 76 9 = 0) (hk : M.1 76 7 ≠ 0 ∧ M.1 76 7 ≠ 6) (hy : nb_R nb_P 93 0 [(20, 603), (2, 5), (98, 0), (98, 0)] [] N = some ([(0, y0)], N)) (hy0 : y0 ≠ 0) (h0 : N.1 607 0 ≠ 0) (hH : pu_HR M So (N.1 607)) : ∃ M1 N0 N1, nb_R nb_P 236 0 [(13, 76), (98, 0)] [] M = some ([], M1) ∧ nb_R nb_P 106 0 [(20, 603), (2, 5), (0, 1)] [] N = some ([(0, 1)], N0) ∧ nb_Lay N0 ∧ nb_R nb_P 112 0 [(20, 603), (98, 0), (98, 0)] [] N0 = some ([], N1) ∧ pu_LO So tx n cnt E M N M1 N1 j := by
  have h' := h
  obtain ⟨⟨W, WN, hSo, h764, -⟩, -⟩ := h'
  have hSu := hSo
  unfold nb_hs at hSu
  have H1 := hH.2.1
  have e0 : N.1 607 0 = 1 := by rcases hH.1 with q | q <;> omega
  have hb : M.1 So 10 = N.1 607 2 ∧ N.1 607 2 ≤ 600 := by rcases hH.1 with q | q <;> omega
  have c14 := H1.2.2.2.1
  have r5 := H1.2.2.2.2.2.2.2.1
  have r6 := pu_shc_rg (g := N.1 607) 10
  have h6 := hH.2.2.2.2.2.2
  obtain ⟨M1, N1, s1, s2, s3, s4, s5⟩ := rl_beginS h hl hk hy hy0 h0
  have q4 := s3.1.2.2.2.1
  by_cases l1 : M1.1 76 9 = 0
  · have f1 : N1.1 603 13 = 0 := s3.ff.1 l1
    obtain ⟨x, y, M2, N2, a1, a2, a3, a4, a5, a6, a7⟩ := rl_ph s3
    by_cases l2 : M2.1 76 9 = 0
    · obtain ⟨o1, o2, o3, o4, o5⟩ := a6 l2
      subst o3
      have f2 : N2.1 603 13 = 0 := a3.ff.1 l2
      have cf2 : pu_cf M M2 := s4.tr a4
      have SM2 : ∀ a, So ≤ a → a < So + 36 → M2.1 a = M.1 a := fun a p0 p1 => cf2.2.2.1 a (by omega) (by omega) (by omega) (by omega)
      have g2 : ∀ i, i < 185 → N2.1 607 i = N.1 607 i := fun i p1 => by rw [a5.2.2.2.2 i p1, s5.2.2.2.2 i p1]
      have ix : nb_add (nb_add 41 (nb_mul 7 x)) 6 = 41 + 7 * x + 6 := by rw [nb_mul_eq (by omega) (by omega), nb_add_eq (x := 41) (by omega) (by omega), nb_add_eq (by omega) (by omega)]
      have hG := hH.2.2.2.2.1 x o4 (by omega)
      have she := hG.2.1
      have srg := hG.2.2.2.2.2.2.2.2.2.2
      have q42 := a3.1.2.2.2.1
      have ml2 : pu_ml N N2 := (s5.tr a5).ml
      by_cases c : 0 < N.1 607 (41 + 7 * x + 6)
      · -- a shelf told again
        have ne : M2.1 (So + 20 + x) 6 ≠ -2 := by
          rw [SM2 _ (by omega) (by omega), she]
          unfold pu_she
          rw [if_neg (by omega)]
          omega
        obtain ⟨M3, N3, v1, v1b, v2, v3, v4, v5, v6, v7⟩ := rl_bad (f := 3) (by decide) a3
        have q43 := v5.2.2.2.trans q42
        have dn := dd_number (lo := 0) (hi := M3.1 So 10) (pu_tok_at 50 (by decide) (by decide)) v5.1 hSo q43 v4.1
        have W1 : nb_Lay (nb_wr M3 (So + 20 + x) 6 (nb_l2i (M3.1 76 8))) := v5.1.wr (fun w => nb_nhg hSo o4 (by omega))
        have W2 : nb_Lay (nb_wr (nb_wr M3 (So + 20 + x) 6 (nb_l2i (M3.1 76 8))) So 14 (nb_add (M3.1 So 14) 1)) := W1.wr (fun w => nb_nhh hSo (by omega))
        have r0 : pu_RL So tx n cnt E M3 N3 j (N3.1 607 3) (N3.1 607 4) (N3.1 607 5) := ⟨v3, Or.inr v4⟩
        refine ⟨nb_wr (nb_wr M3 (So + 20 + x) 6 (nb_l2i (M3.1 76 8))) So 14 (nb_add (M3.1 So 14) 1), N1, N3, nb_Wq (w_rd_readShelf_0 W hSo h764 (nb_Wp s1 ⟨rfl, s4.1, q4, nb_Wp a1 ⟨x, rfl, a4.1, q42, fun z => absurd z (by omega), fun _ => ⟨fun _ => ⟨fun z => absurd z ne, fun _ => nb_Wp v1 ⟨rfl, v5.1, q43, nb_Wp v1b ⟨rfl, v5.1, q43, nb_Wp dn ⟨_, rfl, v5.1, q43, fun _ => ⟨rfl, rfl⟩⟩⟩⟩⟩, fun z => absurd z (by omega)⟩⟩⟩)), s2, s5.1, nb_Wq (w_m_shelfLine_0 s5.1 ⟨fun _ => nb_Wp a2 ⟨x, rfl, a5.1, fun _ => ?_, fun z => absurd f2 z⟩, fun z => absurd f1 z⟩), (r0.wh (by omega) W1).wh (by omega) W2, ((cf2.tr v5).cl hSo |>.wr hSo (by omega) (by omega) W1).wr hSo (by omega) (by omega) W2, ml2.tr v6.ml, fun z => ?_⟩
        · rw [ix, g2 _ (by omega)]
          exact ⟨by omega, by omega, fun _ => nb_Wp v2 ⟨rfl, v6.1, fun z => absurd z v7, fun _ _ => ⟨rfl, rfl⟩⟩, fun z => absurd c (by omega)⟩
        · rw [nb_wr_b (by omega), nb_wr_b (by omega)] at z
          exact absurd z v4.1
      · have eq2 : M2.1 (So + 20 + x) 6 = -2 := by
          rw [SM2 _ (by omega) (by omega), she]
          unfold pu_she
          rw [if_pos (by omega)]
        obtain ⟨M3, N3, v1, v2, v3, v4, v5, v6, v7⟩ := rl_pass a3 (fun _ => by omega)
        obtain ⟨q1, q2⟩ := v2 l2
        have q43 := v4.1.2.2.2.1
        have cf3 : pu_cf M M3 := cf2.tr v5
        have SM3 : ∀ a, So ≤ a → a < So + 36 → M3.1 a = M.1 a := fun a p0 p1 => cf3.2.2.1 a (by omega) (by omega) (by omega) (by omega)
        have g3 : ∀ i, i < 185 → N3.1 607 i = N.1 607 i := fun i p1 => by rw [v6.2.2.2.2 i p1, g2 i p1]
        obtain ⟨u, v, M4, N4, b1, b2, b3, b4, b5, b6⟩ := rl_number (lo := 0) (hi := M3.1 So 10) (lo2 := 0) (hi2 := N3.1 607 2) (pu_tok_at 50 (by decide) (by decide)) (pu_tok_at 29 (by decide) (by decide)) (by decide +kernel) v4 (fun _ => ⟨rfl, by rw [SM3 So (by omega) (by omega), g3 2 (by decide)]; exact hb.1⟩)
        have q44 := b3.1.2.2.2.1
        have cf4 : pu_cf M M4 := cf3.tr b4
        have SM4 : ∀ a, So ≤ a → a < So + 36 → M4.1 a = M.1 a := fun a p0 p1 => cf4.2.2.1 a (by omega) (by omega) (by omega) (by omega)
        have g4 : ∀ i, i < 185 → N4.1 607 i = N.1 607 i := fun i p1 => by rw [b5.2.2.2.2 i p1, g3 i p1]
        have W1 : nb_Lay (nb_wr M4 (So + 20 + x) 6 u) := b4.1.wr (fun w => nb_nhg hSo o4 (by omega))
        have W2 : nb_Lay (nb_wr (nb_wr M4 (So + 20 + x) 6 u) So 14 (nb_add (M4.1 So 14) 1)) := W1.wr (fun w => nb_nhh hSo (by omega))
        have ml4 : pu_ml N N4 := ml2.tr (v6.tr b5).ml
        have cl4 : pu_cl So M (nb_wr (nb_wr M4 (So + 20 + x) 6 u) So 14 (nb_add (M4.1 So 14) 1)) := ((cf4.cl hSo).wr hSo (by omega) (by omega) W1).wr hSo (by omega) (by omega) W2
        have runC : nb_R nb_P 236 0 [(13, 76), (98, 0)] [] M = some ([], nb_wr (nb_wr M4 (So + 20 + x) 6 u) So 14 (nb_add (M4.1 So 14) 1)) := nb_Wq (w_rd_readShelf_0 W hSo h764 (nb_Wp s1 ⟨rfl, s4.1, q4, nb_Wp a1 ⟨x, rfl, a4.1, q42, fun z => absurd z (by omega), fun _ => ⟨fun _ => ⟨fun _ => nb_Wp v1 ⟨rfl, v5.1, q43, nb_Wp b1 ⟨u, rfl, b4.1, q44, fun _ => ⟨rfl, rfl⟩⟩⟩, fun z => absurd eq2 z⟩, fun z => absurd z (by omega)⟩⟩⟩))
        have rr := (b3.wh (by omega) W1).wh (by omega) W2
        by_cases l4 : M4.1 76 9 = 0
        · obtain ⟨-, eu, u1, u2⟩ := b6 l4
          subst eu
          rw [SM3 So (by omega) (by omega), hb.1] at u2
          have f4 : N4.1 603 13 = 0 := b3.ff.1 l4
          have ad1 : nb_add u 1 = u + 1 := nb_add_eq (by omega) (by omega)
          have s6 : (nb_wr N4 607 (41 + 7 * x + 6) (u + 1)).1 607 6 = N.1 607 6 := by rw [nb_wr_1, if_neg (by omega), g4 6 (by decide)]
          have ad2 : nb_add ((nb_wr N4 607 (41 + 7 * x + 6) (u + 1)).1 607 6) 1 = N.1 607 6 + 1 := by rw [s6, nb_add_eq (by omega) (by omega)]
          have ad3 : nb_add (M4.1 So 14) 1 = N.1 607 6 + 1 := by rw [SM4 So (by omega) (by omega), c14, nb_add_eq (by omega) (by omega)]
          refine ⟨_, N1, nb_wr (nb_wr N4 607 (41 + 7 * x + 6) (u + 1)) 607 6 (N.1 607 6 + 1), runC, s2, s5.1, nb_Wq (w_m_shelfLine_0 s5.1 ⟨fun _ => nb_Wp a2 ⟨x, rfl, a5.1, fun _ => ?_, fun z => absurd f2 z⟩, fun z => absurd f1 z⟩), ?_, cl4, ml4.wr.wr, fun _ => ?_⟩
          · rw [ix, g2 _ (by omega)]
            refine ⟨by omega, by omega, fun z => absurd z c, fun _ => nb_Wp q2 ⟨rfl, v6.1, nb_Wp b2 ⟨u, rfl, b5.1, fun _ => ?_, fun z => absurd f4 z⟩⟩⟩
            rw [ad1, ad2]
            exact fun _ => ⟨rfl, rfl⟩
          · have e' : ∀ i, (i = 3 ∨ i = 4 ∨ i = 5) → (nb_wr (nb_wr N4 607 (41 + 7 * x + 6) (u + 1)) 607 6 (N.1 607 6 + 1)).1 607 i = N.1 607 i := fun i hi => by
              rw [nb_wr_1, if_neg (by omega), nb_wr_1, if_neg (by omega), g4 i (by omega)]
            rw [e' 3 (by omega), e' 4 (by omega), e' 5 (by omega)]
            exact (rr.wg (i := 41 + 7 * x + 6) (v := u + 1) (by omega)).wg (i := 6) (v := N.1 607 6 + 1) (by decide)
          · rw [ad3]
            refine hH.shelf (q := x) (v := u) e0 ⟨o4, o5⟩ c (fun a p0 p1 p2 => ?_) (fun i hi => ?_) (fun i hi => ?_) (fun i p0 p1 p2 p3 => ?_) ?_ ?_ ?_ ?_ (by omega)
            · rw [nb_wr_b (by omega), nb_wr_b (by omega)]; exact SM4 a (by omega) p1
            · rw [nb_wr_1, if_neg (by omega), nb_wr_b (by omega), SM4 So (by omega) (by omega)]
            · rw [nb_wr_b (by omega), nb_wr_1, if_neg (by omega), SM4 _ (by omega) (by omega)]
            · rw [nb_wr_1, if_neg (by omega), nb_wr_1, if_neg (by omega), g4 i p1]
            · rw [nb_wr_1, if_pos ⟨rfl, rfl⟩]
            · rw [nb_wr_1, if_pos ⟨rfl, rfl⟩]
            · rw [nb_wr_b (by omega), nb_wr_1, if_pos ⟨rfl, rfl⟩]
            · rw [nb_wr_1, if_neg (by omega), nb_wr_1, if_pos ⟨rfl, rfl⟩]
        · have f4 : N4.1 603 13 ≠ 0 := fun z => l4 (b3.ff.2 z)
          have lw : (nb_wr (nb_wr M4 (So + 20 + x) 6 u) So 14 (nb_add (M4.1 So 14) 1)).1 76 9 ≠ 0 := by rw [nb_wr_b (by omega), nb_wr_b (by omega)]; exact l4
          refine ⟨_, N1, N4, runC, s2, s5.1, nb_Wq (w_m_shelfLine_0 s5.1 ⟨fun _ => nb_Wp a2 ⟨x, rfl, a5.1, fun _ => ?_, fun z => absurd f2 z⟩, fun z => absurd f1 z⟩), ⟨rr.1, Or.inr (rr.dd lw)⟩, cl4, ml4, fun z => absurd z lw⟩
          rw [ix, g2 _ (by omega)]
          exact ⟨by omega, by omega, fun z => absurd z c, fun _ => nb_Wp q2 ⟨rfl, v6.1, nb_Wp b2 ⟨v, rfl, b5.1, fun z => absurd z f4, fun _ _ => ⟨rfl, rfl⟩⟩⟩⟩
    · have f2 : N2.1 603 13 ≠ 0 := fun z => l2 (a3.ff.2 z)
      have x1 := a7 l2
      exact ⟨M2, N1, N2, nb_Wq (w_rd_readShelf_0 W hSo h764 (nb_Wp s1 ⟨rfl, s4.1, q4, nb_Wp a1 ⟨x, rfl, a4.1, a3.1.2.2.2.1, fun _ _ => ⟨rfl, rfl⟩, fun z => absurd z (by omega)⟩⟩)), s2, s5.1, nb_Wq (w_m_shelfLine_0 s5.1 ⟨fun _ => nb_Wp a2 ⟨y, rfl, a5.1, fun z => absurd z f2, fun _ _ => ⟨rfl, rfl⟩⟩, fun z => absurd f1 z⟩), ⟨a3.1, Or.inr (a3.dd l2)⟩, (s4.tr a4).cl hSo, (s5.tr a5).ml, fun z => absurd z l2⟩
  · have f1 : N1.1 603 13 ≠ 0 := fun z => l1 (s3.ff.2 z)
    have h5 : 0 ≤ M1.1 76 5 ∧ M1.1 76 5 ≤ 18 := s3.1.2.2.2.2.2.2.2.2
    have dk := dd_known (so := 2) s4.1 hSo q4 h5 l1
    exact ⟨M1, N1, N1, nb_Wq (w_rd_readShelf_0 W hSo h764 (nb_Wp s1 ⟨rfl, s4.1, q4, nb_Wp dk ⟨_, rfl, s4.1, q4, fun _ _ => ⟨rfl, rfl⟩, fun z => absurd z (by decide)⟩⟩)), s2, s5.1, nb_Wq (w_m_shelfLine_0 s5.1 ⟨fun z => absurd z f1, fun _ _ => ⟨rfl, rfl⟩⟩), ⟨s3.1, Or.inr (s3.dd l1)⟩, s4.cl hSo, s5.ml, fun z => absurd z l1⟩
