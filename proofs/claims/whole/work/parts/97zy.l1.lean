/-! LINES: house, drink -/
variable {So n d s p : Int} {tx : Int → Int} {cnt j : Nat} {E : Nat → Int} {M N : nb_M}
theorem rl_house (h : pu_RL So tx n cnt E M N j (N.1 607 3) (N.1 607 4) (N.1 607 5)) (hl : M.1 76 9 = 0) (hk : M.1 76 7 ≠ 0 ∧ M.1 76 7 ≠ 6) (hH : pu_HR M So (N.1 607)) : ∃ M1 N1, nb_R nb_P 230 0 [(13, 76)] [] M = some ([], M1) ∧ nb_R nb_P 108 0 [(20, 603)] [] N = some ([], N1) ∧ pu_LO So tx n cnt E M N M1 N1 j := by
  have h' := h
  obtain ⟨⟨W, WN, hSo, h764, -⟩, -⟩ := h'
  have hSu := hSo
  unfold nb_hs at hSu
  have f0 : N.1 603 13 = 0 := h.ff.1 hl
  rcases hH.1 with ⟨g0, g1, g2, m9, m10⟩ | ⟨g0, g1, g2, m9, m10⟩
  · obtain ⟨M1, N1, s1, s2, s3, s4, s5, s6⟩ := rl_pass h (fun _ => hk)
    obtain ⟨q1, q2⟩ := s2 hl
    obtain ⟨x, y, M2, N2, a1, a2, a3, a4, a5, a6⟩ := rl_number (lo := 1) (hi := 20) (lo2 := 1) (hi2 := 20) (pu_tok_at 36 (by decide) (by decide)) (pu_tok_at 7 (by decide) (by decide)) (by decide +kernel) s4 (fun _ => ⟨rfl, rfl⟩)
    have WM2 : nb_Lay (nb_wr M2 So 9 x) := a4.1.wr (fun w => nb_nhh hSo (by omega))
    have r3 := (a3.wh (a := So) (i := 9) (v := x) (by omega) WM2).wg (i := 1) (v := y) (by decide)
    obtain ⟨u, v, M3, N3, b1, b2, b3, b4, b5, b6⟩ := rl_number (lo := 1) (hi := 600) (lo2 := 1) (hi2 := 600) (pu_tok_at 37 (by decide) (by decide)) (pu_tok_at 8 (by decide) (by decide)) (by decide +kernel) r3 (fun _ => ⟨rfl, rfl⟩)
    have WM3 : nb_Lay (nb_wr M3 So 10 u) := b4.1.wr (fun w => nb_nhh hSo (by omega))
    have run : nb_R nb_P 230 0 [(13, 76)] [] M = some ([], nb_wr M3 So 10 u) := nb_Wq (w_rd_readHouse_0 W hSo h764 ⟨fun _ => w_rd_readHouse_2 W hSo h764 (nb_Wp s1 ⟨rfl, s5.1, s4.1.2.2.2.1, nb_Wp a1 ⟨x, rfl, a4.1, a3.1.2.2.2.1, nb_Wp b1 ⟨u, rfl, b4.1, b3.1.2.2.2.1, fun _ => ⟨rfl, rfl⟩⟩⟩⟩), fun z => absurd m9 z⟩)
    have cl : pu_cl So M (nb_wr M3 So 10 u) := ((((s5.cl hSo).tr (a4.cl hSo)).wr hSo (by omega) (by omega) WM2).tr (b4.cl hSo)).wr hSo (by omega) (by omega) WM3
    have ml : pu_ml N N3 := ((s6.1.ml.tr a5.ml).wr).tr b5.ml
    have k607 : ∀ i, 2 ≤ i → i < 185 → N3.1 607 i = N.1 607 i := fun i p0 p1 => by
      rw [b5.2.2.2.2 i p1, nb_wr_1, if_neg (by omega), a5.2.2.2.2 i p1, s6.1.2.2.2.2 i p1]
    have k1 : N3.1 607 1 = y := by rw [b5.2.2.2.2 1 (by decide), nb_wr_1, if_pos ⟨rfl, rfl⟩]
    have cM : ∀ a, So < a → a < So + 36 → (nb_wr M3 So 10 u).1 a = M.1 a := fun a p0 p1 => by
      rw [nb_wr_b (by omega), b4.2.2.1 a (by omega) (by omega) (by omega) (by omega), nb_wr_b (by omega), a4.2.2.1 a (by omega) (by omega) (by omega) (by omega), s5.2.2.1 a (by omega) (by omega) (by omega) (by omega)]
    have cS : ∀ i, i ≠ 9 → i ≠ 10 → (nb_wr M3 So 10 u).1 So i = M.1 So i := fun i p0 p1 => by
      rw [nb_wr_1, if_neg (by omega), b4.2.2.1 So (by omega) (by omega) (by omega) (by omega), nb_wr_1, if_neg (by omega), a4.2.2.1 So (by omega) (by omega) (by omega) (by omega), s5.2.2.1 So (by omega) (by omega) (by omega) (by omega)]
    have c9 : (nb_wr M3 So 10 u).1 So 9 = x := by
      rw [nb_wr_1, if_neg (by omega), b4.2.2.1 So (by omega) (by omega) (by omega) (by omega), nb_wr_1, if_pos ⟨rfl, rfl⟩]
    have r4 := b3.wh (a := So) (i := 10) (v := u) (by omega) WM3
    by_cases l : M3.1 76 9 = 0
    · obtain ⟨l2, e2, v1, v2⟩ := b6 l
      rw [nb_wr_b (by omega)] at l2
      obtain ⟨-, e1, u1, u2⟩ := a6 l2
      have f3 : N3.1 603 13 = 0 := b3.ff.1 l
      subst e1 e2
      refine ⟨nb_wr M3 So 10 u, nb_wr (nb_wr N3 607 2 u) 607 0 1, run, ?_, ?_, cl, ml.wr.wr, fun _ => ?_⟩
      · exact nb_Wq (w_m_houseLine_0 WN ⟨fun z => absurd z (by omega), fun _ => ⟨fun _ => nb_Wp q2 ⟨rfl, s6.1.1, nb_Wp a2 ⟨x, rfl, a5.1, nb_Wp b2 ⟨u, rfl, b5.1, fun _ _ => ⟨rfl, rfl⟩, fun z => absurd f3 z⟩⟩⟩, fun z => absurd f0 z⟩⟩)
      · have e : ∀ i, 3 ≤ i → i < 185 → (nb_wr (nb_wr N3 607 2 u) 607 0 1).1 607 i = N.1 607 i := fun i p0 p1 => by
          rw [nb_wr_1, if_neg (by omega), nb_wr_1, if_neg (by omega), k607 i (by omega) p1]
        rw [e 3 (by decide) (by decide), e 4 (by decide) (by decide), e 5 (by decide) (by decide)]
        exact (r4.wg (by decide)).wg (by decide)
      · refine hH.house g0 cM (fun i hi => cS i (by omega) (by omega)) (fun i p0 p1 => ?_) ?_ ?_ ?_ ?_ ?_
        · rw [nb_wr_1, if_neg (by omega), nb_wr_1, if_neg (by omega), k607 i (by omega) p1]
        · rw [nb_wr_1, if_pos ⟨rfl, rfl⟩]
        · rw [nb_wr_1, if_neg (by omega), nb_wr_1, if_neg (by omega), k1]; exact ⟨u1, u2⟩
        · rw [nb_wr_1, if_neg (by omega), nb_wr_1, if_pos ⟨rfl, rfl⟩]; exact ⟨v1, v2⟩
        · rw [c9, nb_wr_1, if_neg (by omega), nb_wr_1, if_neg (by omega), k1]
        · rw [nb_wr_1, if_pos ⟨rfl, rfl⟩, nb_wr_1, if_neg (by omega), nb_wr_1, if_pos ⟨rfl, rfl⟩]
    · have f3 : N3.1 603 13 ≠ 0 := fun z => l (b3.ff.2 z)
      have lw : (nb_wr M3 So 10 u).1 76 9 ≠ 0 := by rw [nb_wr_b (by omega)]; exact l
      refine ⟨nb_wr M3 So 10 u, nb_wr N3 607 2 v, run, ?_, ?_, cl, ml.wr, fun z => absurd z lw⟩
      · exact nb_Wq (w_m_houseLine_0 WN ⟨fun z => absurd z (by omega), fun _ => ⟨fun _ => nb_Wp q2 ⟨rfl, s6.1.1, nb_Wp a2 ⟨y, rfl, a5.1, nb_Wp b2 ⟨v, rfl, b5.1, fun z => absurd z f3, fun _ _ => ⟨rfl, rfl⟩⟩⟩⟩, fun z => absurd f0 z⟩⟩)
      · exact ⟨(r4.wg (by decide)).1, Or.inr ((r4.wg (by decide)).dd lw)⟩
  · obtain ⟨M1, N1, s1, s1b, s2, s3, s4, s5, s6, s7⟩ := rl_bad (f := 3) (by decide) h
    have q4 := s5.2.2.2.trans h764
    have d1 := dd_number (lo := 1) (hi := 20) (pu_tok_at 36 (by decide) (by decide)) s5.1 hSo q4 s4.1
    have WM2 : nb_Lay (nb_wr M1 So 9 (nb_l2i (M1.1 76 8))) := s5.1.wr (fun w => nb_nhh hSo (by omega))
    have q5 : (nb_wr M1 So 9 (nb_l2i (M1.1 76 8))).1 76 4 = So := by rw [nb_wr_b (by omega)]; exact q4
    have q9 : (nb_wr M1 So 9 (nb_l2i (M1.1 76 8))).1 76 9 ≠ 0 := by rw [nb_wr_b (by omega)]; exact s4.1
    have d2 := dd_number (lo := 1) (hi := 600) (pu_tok_at 37 (by decide) (by decide)) WM2 hSo q5 q9
    have WM3 : nb_Lay (nb_wr (nb_wr M1 So 9 (nb_l2i (M1.1 76 8))) So 10 (nb_l2i ((nb_wr M1 So 9 (nb_l2i (M1.1 76 8))).1 76 8))) := WM2.wr (fun w => nb_nhh hSo (by omega))
    have r0 : pu_RL So tx n cnt E M1 N1 j (N1.1 607 3) (N1.1 607 4) (N1.1 607 5) := ⟨s3, Or.inr s4⟩
    refine ⟨_, N1, nb_Wq (w_rd_readHouse_0 W hSo h764 ⟨fun z => absurd z (by omega), fun _ => nb_Wp s1 ⟨rfl, s5.1, q4, w_rd_readHouse_2 s5.1 hSo q4 (nb_Wp s1b ⟨rfl, s5.1, q4, nb_Wp d1 ⟨_, rfl, s5.1, q4, nb_Wp d2 ⟨_, rfl, WM2, q5, fun _ => ⟨rfl, rfl⟩⟩⟩⟩)⟩⟩), nb_Wq (w_m_houseLine_0 WN ⟨fun _ => nb_Wp s2 ⟨rfl, s6.1, fun z => absurd z s7, fun _ _ => ⟨rfl, rfl⟩⟩, fun z => absurd g0 z⟩), (r0.wh (by omega) WM2).wh (by omega) WM3, ((s5.cl hSo).wr hSo (by omega) (by omega) WM2).wr hSo (by omega) (by omega) WM3, s6.ml, fun z => ?_⟩
    rw [nb_wr_b (by omega)] at z
    exact absurd z q9
